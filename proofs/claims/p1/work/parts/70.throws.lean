theorem dX11_isWithin_0 : decode cX11_isWithin 0 = .ok (.iload_n 0, 1) := by decide +kernel
theorem dX11_isWithin_1 : decode cX11_isWithin 1 = .ok (.iload_n 1, 1) := by decide +kernel
theorem dX11_isWithin_2 : decode cX11_isWithin 2 = .ok (.if_icmp .lt 12, 3) := by decide +kernel
theorem dX11_isWithin_14 : decode cX11_isWithin 14 = .ok (.iconst 0, 1) := by decide +kernel
theorem dX11_isWithin_15 : decode cX11_isWithin 15 = .ok (.ireturn, 1) := by decide +kernel
theorem dX11_isWithin_5 : decode cX11_isWithin 5 = .ok (.iload_n 0, 1) := by decide +kernel
theorem dX11_isWithin_6 : decode cX11_isWithin 6 = .ok (.iload_n 2, 1) := by decide +kernel
theorem dX11_isWithin_7 : decode cX11_isWithin 7 = .ok (.if_icmp .gt 7, 3) := by decide +kernel
theorem dX11_isWithin_10 : decode cX11_isWithin 10 = .ok (.iconst 1, 1) := by decide +kernel
theorem dX11_isWithin_11 : decode cX11_isWithin 11 = .ok (.goto 4, 3) := by decide +kernel
theorem dX11_demandRoom_0 : decode cX11_demandRoom 0 = .ok (.aload_n 0, 1) := by decide +kernel
theorem dX11_demandRoom_1 : decode cX11_demandRoom 1 = .ok (.getfield 15, 3) := by decide +kernel
theorem dX11_demandRoom_4 : decode cX11_demandRoom 4 = .ok (.bipush 16, 2) := by decide +kernel
theorem dX11_demandRoom_6 : decode cX11_demandRoom 6 = .ok (.if_icmp .lt 11, 3) := by decide +kernel
theorem dX11_demandRoom_17 : decode cX11_demandRoom 17 = .ok (.return_, 1) := by decide +kernel
theorem dX0_add_0 : decode cX0_add 0 = .ok (.aload_n 0, 1) := by decide +kernel
theorem dX0_add_1 : decode cX0_add 1 = .ok (.getfield 17, 3) := by decide +kernel
theorem dX0_add_4 : decode cX0_add 4 = .ok (.aload_n 0, 1) := by decide +kernel
theorem dX0_add_5 : decode cX0_add 5 = .ok (.getfield 7, 3) := by decide +kernel
theorem dX0_add_8 : decode cX0_add 8 = .ok (.iload_n 1, 1) := by decide +kernel
theorem dX0_add_9 : decode cX0_add 9 = .ok (.ifCond .eq 7, 3) := by decide +kernel
theorem dX0_add_16 : decode cX0_add 16 = .ok (.iconst 0, 1) := by decide +kernel
set_option maxRecDepth 20000 in
theorem ggX0_add_X11_put : GoodIn wsX0_add wsX11_put := goodIn_ca (goodIn_r _ [12] rfl (by decide +kernel)) (goodIn_sub (fun _ h => List.mem_cons_of_mem _ (List.mem_append_right _ h)) (by decide +kernel))
set_option maxRecDepth 20000 in
theorem gX0_add_X11_put_n29 : GoodIn wsX0_add (wsX11_put) := ggX0_add_X11_put
theorem dX0_add_17 : decode cX0_add 17 = .ok (.invokestatic 29, 3) := by decide +kernel
theorem dX0_add_20 : decode cX0_add 20 = .ok (.aload_n 0, 1) := by decide +kernel
theorem dX0_add_21 : decode cX0_add 21 = .ok (.getfield 20, 3) := by decide +kernel
theorem dX0_add_24 : decode cX0_add 24 = .ok (.aload_n 0, 1) := by decide +kernel
theorem dX0_add_25 : decode cX0_add 25 = .ok (.getfield 7, 3) := by decide +kernel
theorem dX0_add_28 : decode cX0_add 28 = .ok (.iload_n 2, 1) := by decide +kernel
theorem dX0_add_29 : decode cX0_add 29 = .ok (.invokestatic 29, 3) := by decide +kernel
theorem dX0_add_32 : decode cX0_add 32 = .ok (.aload_n 0, 1) := by decide +kernel
theorem dX0_add_33 : decode cX0_add 33 = .ok (.getfield 23, 3) := by decide +kernel
theorem dX0_add_36 : decode cX0_add 36 = .ok (.aload_n 0, 1) := by decide +kernel
theorem dX0_add_37 : decode cX0_add 37 = .ok (.getfield 7, 3) := by decide +kernel
theorem dX0_add_40 : decode cX0_add 40 = .ok (.iload_n 3, 1) := by decide +kernel
theorem dX0_add_41 : decode cX0_add 41 = .ok (.invokestatic 29, 3) := by decide +kernel
theorem dX0_add_44 : decode cX0_add 44 = .ok (.aload_n 0, 1) := by decide +kernel
theorem dX0_add_45 : decode cX0_add 45 = .ok (.getfield 26, 3) := by decide +kernel
theorem dX0_add_48 : decode cX0_add 48 = .ok (.aload_n 0, 1) := by decide +kernel
theorem dX0_add_49 : decode cX0_add 49 = .ok (.getfield 7, 3) := by decide +kernel
theorem dX0_add_52 : decode cX0_add 52 = .ok (.iload 4, 2) := by decide +kernel
theorem dX0_add_54 : decode cX0_add 54 = .ok (.invokestatic 29, 3) := by decide +kernel
theorem dX0_add_57 : decode cX0_add 57 = .ok (.aload_n 0, 1) := by decide +kernel
theorem dX0_add_58 : decode cX0_add 58 = .ok (.aload_n 0, 1) := by decide +kernel
theorem dX0_add_59 : decode cX0_add 59 = .ok (.getfield 7, 3) := by decide +kernel
theorem dX0_add_62 : decode cX0_add 62 = .ok (.iconst 1, 1) := by decide +kernel
theorem dX0_add_63 : decode cX0_add 63 = .ok (.iadd, 1) := by decide +kernel
theorem dX0_add_64 : decode cX0_add 64 = .ok (.bipush 12, 2) := by decide +kernel
theorem dX0_add_66 : decode cX0_add 66 = .ok (.invokestatic 35, 3) := by decide +kernel
theorem dX0_add_69 : decode cX0_add 69 = .ok (.putfield 7, 3) := by decide +kernel
theorem dX0_add_72 : decode cX0_add 72 = .ok (.return_, 1) := by decide +kernel
theorem dX0_add_12 : decode cX0_add 12 = .ok (.iconst 1, 1) := by decide +kernel
theorem dX0_add_13 : decode cX0_add 13 = .ok (.goto 4, 3) := by decide +kernel
theorem dX0_go_0 : decode cX0_go 0 = .ok (.aload_n 0, 1) := by decide +kernel
theorem dX0_go_1 : decode cX0_go 1 = .ok (.getfield 13, 3) := by decide +kernel
theorem dX0_go_4 : decode cX0_go 4 = .ok (.iconst 0, 1) := by decide +kernel
set_option maxRecDepth 20000 in
theorem ggX0_go_J7_fill_53178 : GoodIn wsX0_go wsJ7_fill_53178 := goodIn_r _ [6] rfl (by decide +kernel)
set_option maxRecDepth 20000 in
theorem gX0_go_J7_fill_53178 : GoodIn wsX0_go (va_wsS RX0 41 yJ7_fill_53178 wsJ7_fill_53178) := goodIn_app (goodIn_of _ (by decide +kernel)) ggX0_go_J7_fill_53178
theorem dX0_go_5 : decode cX0_go 5 = .ok (.invokestatic 41, 3) := by decide +kernel
theorem dX0_go_8 : decode cX0_go 8 = .ok (.aload_n 0, 1) := by decide +kernel
theorem dX0_go_9 : decode cX0_go 9 = .ok (.getfield 13, 3) := by decide +kernel
theorem dX0_go_12 : decode cX0_go 12 = .ok (.iconst 0, 1) := by decide +kernel
theorem dX0_go_13 : decode cX0_go 13 = .ok (.iload_n 1, 1) := by decide +kernel
set_option maxRecDepth 20000 in
theorem ggX0_go_X11_put : GoodIn wsX0_go wsX11_put := goodIn_ca (goodIn_r _ [9] rfl (by decide +kernel)) (goodIn_sub (fun _ h => List.mem_cons_of_mem _ (List.mem_append_right _ h)) (by decide +kernel))
set_option maxRecDepth 20000 in
theorem gX0_go_X11_put_n29 : GoodIn wsX0_go (wsX11_put) := ggX0_go_X11_put
theorem dX0_go_14 : decode cX0_go 14 = .ok (.invokestatic 29, 3) := by decide +kernel
theorem dX0_go_17 : decode cX0_go 17 = .ok (.aload_n 0, 1) := by decide +kernel
theorem dX0_go_18 : decode cX0_go 18 = .ok (.getfield 13, 3) := by decide +kernel
theorem dX0_go_21 : decode cX0_go 21 = .ok (.iconst 1, 1) := by decide +kernel
theorem dX0_go_22 : decode cX0_go 22 = .ok (.iload_n 2, 1) := by decide +kernel
theorem dX0_go_23 : decode cX0_go 23 = .ok (.invokestatic 29, 3) := by decide +kernel
theorem dX0_go_26 : decode cX0_go 26 = .ok (.iconst 0, 1) := by decide +kernel
theorem dX0_go_27 : decode cX0_go 27 = .ok (.istore 4, 2) := by decide +kernel
theorem dX0_go_29 : decode cX0_go 29 = .ok (.iconst 0, 1) := by decide +kernel
theorem dX0_go_30 : decode cX0_go 30 = .ok (.istore 5, 2) := by decide +kernel
theorem dX0_go_32 : decode cX0_go 32 = .ok (.iload 5, 2) := by decide +kernel
theorem dX0_go_34 : decode cX0_go 34 = .ok (.iload_n 3, 1) := by decide +kernel
theorem dX0_go_35 : decode cX0_go 35 = .ok (.if_icmp .ge 26, 3) := by decide +kernel
theorem dX0_go_61 : decode cX0_go 61 = .ok (.iload 5, 2) := by decide +kernel
theorem dX0_go_63 : decode cX0_go 63 = .ok (.ireturn, 1) := by decide +kernel
theorem dX0_go_38 : decode cX0_go 38 = .ok (.iload 4, 2) := by decide +kernel
theorem dX0_go_40 : decode cX0_go 40 = .ok (.aload_n 0, 1) := by decide +kernel
theorem dX0_go_41 : decode cX0_go 41 = .ok (.getfield 7, 3) := by decide +kernel
theorem dX0_go_44 : decode cX0_go 44 = .ok (.if_icmp .ge 17, 3) := by decide +kernel
theorem dX9_rowLength_0 : decode cX9_rowLength 0 = .ok (.aload_n 0, 1) := by decide +kernel
theorem dX9_rowLength_1 : decode cX9_rowLength 1 = .ok (.getfield 23, 3) := by decide +kernel
theorem dX9_rowLength_4 : decode cX9_rowLength 4 = .ok (.iload_n 1, 1) := by decide +kernel
theorem dX9_rowLength_5 : decode cX9_rowLength 5 = .ok (.bipush 97, 2) := by decide +kernel
theorem dX9_rowLength_7 : decode cX9_rowLength 7 = .ok (.isub, 1) := by decide +kernel
set_option maxRecDepth 20000 in
theorem ggX9_rowLength_X11_at : GoodIn wsX9_rowLength wsX11_at := goodIn_ca (goodIn_r _ [4] rfl (by decide +kernel)) (goodIn_sub (fun _ h => List.mem_cons_of_mem _ (List.mem_append_right _ h)) (by decide +kernel))
set_option maxRecDepth 20000 in
theorem gX9_rowLength_X11_at_n29 : GoodIn wsX9_rowLength (wsX11_at) := ggX9_rowLength_X11_at
theorem dX9_rowLength_8 : decode cX9_rowLength 8 = .ok (.invokestatic 29, 3) := by decide +kernel
theorem dX9_rowLength_11 : decode cX9_rowLength 11 = .ok (.ireturn, 1) := by decide +kernel
theorem dX9_addToRow_0 : decode cX9_addToRow 0 = .ok (.iload_n 1, 1) := by decide +kernel
theorem dX9_addToRow_1 : decode cX9_addToRow 1 = .ok (.bipush 97, 2) := by decide +kernel
theorem dX9_addToRow_3 : decode cX9_addToRow 3 = .ok (.isub, 1) := by decide +kernel
theorem dX9_addToRow_4 : decode cX9_addToRow 4 = .ok (.istore_n 3, 1) := by decide +kernel
theorem dX9_addToRow_5 : decode cX9_addToRow 5 = .ok (.aload_n 0, 1) := by decide +kernel
theorem dX9_addToRow_6 : decode cX9_addToRow 6 = .ok (.getfield 23, 3) := by decide +kernel
theorem dX9_addToRow_9 : decode cX9_addToRow 9 = .ok (.iload_n 3, 1) := by decide +kernel
set_option maxRecDepth 20000 in
theorem ggX9_addToRow_X11_at : GoodIn wsX9_addToRow wsX11_at := goodIn_ca (goodIn_r _ [5] rfl (by decide +kernel)) (goodIn_sub (fun _ h => List.mem_cons_of_mem _ (List.mem_append_right _ h)) (by decide +kernel))
set_option maxRecDepth 20000 in
theorem gX9_addToRow_X11_at_n29 : GoodIn wsX9_addToRow (wsX11_at) := ggX9_addToRow_X11_at
theorem dX9_addToRow_10 : decode cX9_addToRow 10 = .ok (.invokestatic 29, 3) := by decide +kernel
theorem dX9_addToRow_13 : decode cX9_addToRow 13 = .ok (.istore 4, 2) := by decide +kernel
theorem dX9_addToRow_15 : decode cX9_addToRow 15 = .ok (.iload 4, 2) := by decide +kernel
theorem dX9_addToRow_17 : decode cX9_addToRow 17 = .ok (.bipush 6, 2) := by decide +kernel
theorem dX9_addToRow_19 : decode cX9_addToRow 19 = .ok (.if_icmp .ge 33, 3) := by decide +kernel
theorem dX9_addToRow_22 : decode cX9_addToRow 22 = .ok (.aload_n 0, 1) := by decide +kernel
theorem dX9_addToRow_23 : decode cX9_addToRow 23 = .ok (.getfield 20, 3) := by decide +kernel
theorem dX9_addToRow_26 : decode cX9_addToRow 26 = .ok (.iload_n 3, 1) := by decide +kernel
theorem dX9_addToRow_27 : decode cX9_addToRow 27 = .ok (.bipush 6, 2) := by decide +kernel
theorem dX9_addToRow_29 : decode cX9_addToRow 29 = .ok (.imul, 1) := by decide +kernel
theorem dX9_addToRow_30 : decode cX9_addToRow 30 = .ok (.iload 4, 2) := by decide +kernel
theorem dX9_addToRow_32 : decode cX9_addToRow 32 = .ok (.iadd, 1) := by decide +kernel
theorem dX9_addToRow_33 : decode cX9_addToRow 33 = .ok (.iload_n 2, 1) := by decide +kernel
theorem dX9_addToRow_34 : decode cX9_addToRow 34 = .ok (.bipush 97, 2) := by decide +kernel
theorem dX9_addToRow_36 : decode cX9_addToRow 36 = .ok (.isub, 1) := by decide +kernel
set_option maxRecDepth 20000 in
theorem ggX9_addToRow_X11_put : GoodIn wsX9_addToRow wsX11_put := goodIn_ca (goodIn_r _ [7] rfl (by decide +kernel)) (goodIn_sub (fun _ h => List.mem_cons_of_mem _ (List.mem_append_right _ h)) (by decide +kernel))
set_option maxRecDepth 20000 in
theorem gX9_addToRow_X11_put_n35 : GoodIn wsX9_addToRow (wsX11_put) := ggX9_addToRow_X11_put
theorem dX9_addToRow_37 : decode cX9_addToRow 37 = .ok (.invokestatic 35, 3) := by decide +kernel
theorem dX9_addToRow_40 : decode cX9_addToRow 40 = .ok (.aload_n 0, 1) := by decide +kernel
theorem dX9_addToRow_41 : decode cX9_addToRow 41 = .ok (.getfield 23, 3) := by decide +kernel
theorem dX9_addToRow_44 : decode cX9_addToRow 44 = .ok (.iload_n 3, 1) := by decide +kernel
theorem dX9_addToRow_45 : decode cX9_addToRow 45 = .ok (.iload 4, 2) := by decide +kernel
theorem dX9_addToRow_47 : decode cX9_addToRow 47 = .ok (.iconst 1, 1) := by decide +kernel
theorem dX9_addToRow_48 : decode cX9_addToRow 48 = .ok (.iadd, 1) := by decide +kernel
theorem dX9_addToRow_49 : decode cX9_addToRow 49 = .ok (.invokestatic 35, 3) := by decide +kernel
theorem dX9_addToRow_52 : decode cX9_addToRow 52 = .ok (.return_, 1) := by decide +kernel
theorem dX9_addToStart_0 : decode cX9_addToStart 0 = .ok (.aload_n 0, 1) := by decide +kernel
theorem dX9_addToStart_1 : decode cX9_addToStart 1 = .ok (.getfield 7, 3) := by decide +kernel
theorem dX9_addToStart_4 : decode cX9_addToStart 4 = .ok (.bipush 40, 2) := by decide +kernel
theorem dX9_addToStart_6 : decode cX9_addToStart 6 = .ok (.if_icmp .ge 28, 3) := by decide +kernel
theorem dX9_addToStart_9 : decode cX9_addToStart 9 = .ok (.aload_n 0, 1) := by decide +kernel
theorem dX9_addToStart_10 : decode cX9_addToStart 10 = .ok (.getfield 16, 3) := by decide +kernel
theorem dX9_addToStart_13 : decode cX9_addToStart 13 = .ok (.aload_n 0, 1) := by decide +kernel
theorem dX9_addToStart_14 : decode cX9_addToStart 14 = .ok (.getfield 7, 3) := by decide +kernel
theorem dX9_addToStart_17 : decode cX9_addToStart 17 = .ok (.iload_n 1, 1) := by decide +kernel
theorem dX9_addToStart_18 : decode cX9_addToStart 18 = .ok (.bipush 97, 2) := by decide +kernel
theorem dX9_addToStart_20 : decode cX9_addToStart 20 = .ok (.isub, 1) := by decide +kernel
set_option maxRecDepth 20000 in
theorem ggX9_addToStart_X11_put : GoodIn wsX9_addToStart wsX11_put := goodIn_ca (goodIn_r _ [5] rfl (by decide +kernel)) (goodIn_sub (fun _ h => List.mem_cons_of_mem _ (List.mem_append_right _ h)) (by decide +kernel))
set_option maxRecDepth 20000 in
theorem gX9_addToStart_X11_put_n35 : GoodIn wsX9_addToStart (wsX11_put) := ggX9_addToStart_X11_put
theorem dX9_addToStart_21 : decode cX9_addToStart 21 = .ok (.invokestatic 35, 3) := by decide +kernel
theorem dX9_addToStart_24 : decode cX9_addToStart 24 = .ok (.aload_n 0, 1) := by decide +kernel
theorem dX9_addToStart_25 : decode cX9_addToStart 25 = .ok (.dup, 1) := by decide +kernel
theorem dX9_addToStart_26 : decode cX9_addToStart 26 = .ok (.getfield 7, 3) := by decide +kernel
theorem dX9_addToStart_29 : decode cX9_addToStart 29 = .ok (.iconst 1, 1) := by decide +kernel
theorem dX9_addToStart_30 : decode cX9_addToStart 30 = .ok (.iadd, 1) := by decide +kernel
theorem dX9_addToStart_31 : decode cX9_addToStart 31 = .ok (.putfield 7, 3) := by decide +kernel
theorem dX9_addToStart_34 : decode cX9_addToStart 34 = .ok (.return_, 1) := by decide +kernel
theorem dX9_forget_0 : decode cX9_forget 0 = .ok (.aload_n 0, 1) := by decide +kernel
theorem dX9_forget_1 : decode cX9_forget 1 = .ok (.getfield 7, 3) := by decide +kernel
theorem dX9_forget_4 : decode cX9_forget 4 = .ok (.istore_n 1, 1) := by decide +kernel
theorem dX9_forget_5 : decode cX9_forget 5 = .ok (.aload_n 0, 1) := by decide +kernel
theorem dX9_forget_6 : decode cX9_forget 6 = .ok (.getfield 23, 3) := by decide +kernel
theorem dX9_forget_9 : decode cX9_forget 9 = .ok (.astore_n 2, 1) := by decide +kernel
theorem dX9_forget_10 : decode cX9_forget 10 = .ok (.aload_n 2, 1) := by decide +kernel
theorem dX9_forget_11 : decode cX9_forget 11 = .ok (.arraylength, 1) := by decide +kernel
theorem dX9_forget_12 : decode cX9_forget 12 = .ok (.istore_n 3, 1) := by decide +kernel
theorem dX9_forget_13 : decode cX9_forget 13 = .ok (.iconst 0, 1) := by decide +kernel
theorem dX9_forget_14 : decode cX9_forget 14 = .ok (.istore 4, 2) := by decide +kernel
theorem dX9_forget_16 : decode cX9_forget 16 = .ok (.iload 4, 2) := by decide +kernel
theorem dX9_forget_18 : decode cX9_forget 18 = .ok (.iload_n 3, 1) := by decide +kernel
theorem dX9_forget_19 : decode cX9_forget 19 = .ok (.if_icmp .ge 20, 3) := by decide +kernel
theorem dX9_forget_39 : decode cX9_forget 39 = .ok (.aload_n 0, 1) := by decide +kernel
theorem dX9_forget_40 : decode cX9_forget 40 = .ok (.iconst 0, 1) := by decide +kernel
theorem dX9_forget_41 : decode cX9_forget 41 = .ok (.putfield 7, 3) := by decide +kernel
theorem dX9_forget_44 : decode cX9_forget 44 = .ok (.aload_n 0, 1) := by decide +kernel
theorem dX9_forget_45 : decode cX9_forget 45 = .ok (.getfield 23, 3) := by decide +kernel
theorem dX9_forget_48 : decode cX9_forget 48 = .ok (.iconst 0, 1) := by decide +kernel
set_option maxRecDepth 20000 in
theorem ggX9_forget_J7_fill_53178 : GoodIn wsX9_forget wsJ7_fill_53178 := goodIn_r _ [6] rfl (by decide +kernel)
set_option maxRecDepth 20000 in
theorem gX9_forget_J7_fill_53178 : GoodIn wsX9_forget (va_wsS RX9 39 yJ7_fill_53178 wsJ7_fill_53178) := goodIn_app (goodIn_of _ (by decide +kernel)) ggX9_forget_J7_fill_53178
theorem dX9_forget_49 : decode cX9_forget 49 = .ok (.invokestatic 39, 3) := by decide +kernel
theorem dX9_forget_52 : decode cX9_forget 52 = .ok (.iload_n 1, 1) := by decide +kernel
theorem dX9_forget_53 : decode cX9_forget 53 = .ok (.ireturn, 1) := by decide +kernel
theorem dX9_forget_22 : decode cX9_forget 22 = .ok (.aload_n 2, 1) := by decide +kernel
theorem dX9_forget_23 : decode cX9_forget 23 = .ok (.iload 4, 2) := by decide +kernel
theorem dX9_forget_25 : decode cX9_forget 25 = .ok (.iaload, 1) := by decide +kernel
theorem dX9_forget_26 : decode cX9_forget 26 = .ok (.istore 5, 2) := by decide +kernel
theorem dX9_forget_28 : decode cX9_forget 28 = .ok (.iload_n 1, 1) := by decide +kernel
theorem dX9_forget_29 : decode cX9_forget 29 = .ok (.iload 5, 2) := by decide +kernel
theorem dX9_forget_31 : decode cX9_forget 31 = .ok (.iadd, 1) := by decide +kernel
theorem dX9_forget_32 : decode cX9_forget 32 = .ok (.istore_n 1, 1) := by decide +kernel
theorem dX9_forget_33 : decode cX9_forget 33 = .ok (.iinc 4 1, 3) := by decide +kernel
theorem dX9_forget_36 : decode cX9_forget 36 = .ok (.goto (-20), 3) := by decide +kernel
theorem dX9_step_0 : decode cX9_step 0 = .ok (.aload_n 0, 1) := by decide +kernel
theorem dX9_step_1 : decode cX9_step 1 = .ok (.getfield 26, 3) := by decide +kernel
theorem dX9_step_4 : decode cX9_step 4 = .ok (.iconst 0, 1) := by decide +kernel
set_option maxRecDepth 20000 in
theorem ggX9_step_X11_at : GoodIn wsX9_step wsX11_at := goodIn_ca (goodIn_r _ [7] rfl (by decide +kernel)) (goodIn_sub (fun _ h => List.mem_cons_of_mem _ (List.mem_append_right _ h)) (by decide +kernel))
set_option maxRecDepth 20000 in
theorem gX9_step_X11_at_n29 : GoodIn wsX9_step (wsX11_at) := ggX9_step_X11_at
theorem dX9_step_5 : decode cX9_step 5 = .ok (.invokestatic 29, 3) := by decide +kernel
theorem dX9_step_8 : decode cX9_step 8 = .ok (.istore_n 2, 1) := by decide +kernel
theorem dX9_step_9 : decode cX9_step 9 = .ok (.aload_n 0, 1) := by decide +kernel
theorem dX9_step_10 : decode cX9_step 10 = .ok (.getfield 13, 3) := by decide +kernel
theorem dX9_step_13 : decode cX9_step 13 = .ok (.iload_n 1, 1) := by decide +kernel
theorem dX9_step_14 : decode cX9_step 14 = .ok (.isub, 1) := by decide +kernel
theorem dX9_step_15 : decode cX9_step 15 = .ok (.istore_n 3, 1) := by decide +kernel
theorem dX9_step_16 : decode cX9_step 16 = .ok (.iload_n 3, 1) := by decide +kernel
theorem dX9_step_17 : decode cX9_step 17 = .ok (.aload_n 0, 1) := by decide +kernel
theorem dX9_step_18 : decode cX9_step 18 = .ok (.getfield 23, 3) := by decide +kernel
theorem dX9_step_21 : decode cX9_step 21 = .ok (.iload_n 2, 1) := by decide +kernel
theorem dX9_step_22 : decode cX9_step 22 = .ok (.invokestatic 29, 3) := by decide +kernel
theorem dX9_step_25 : decode cX9_step 25 = .ok (.iadd, 1) := by decide +kernel
theorem dX9_step_26 : decode cX9_step 26 = .ok (.istore 4, 2) := by decide +kernel
theorem dX9_step_28 : decode cX9_step 28 = .ok (.iload_n 3, 1) := by decide +kernel
theorem dX9_step_29 : decode cX9_step 29 = .ok (.ifCond .lt 11, 3) := by decide +kernel
theorem dX9_step_40 : decode cX9_step 40 = .ok (.iconst 0, 1) := by decide +kernel
theorem dX9_step_41 : decode cX9_step 41 = .ok (.ireturn, 1) := by decide +kernel
theorem dX9_go_0 : decode cX9_go 0 = .ok (.aload_n 0, 1) := by decide +kernel
theorem dX9_go_1 : decode cX9_go 1 = .ok (.aload_n 0, 1) := by decide +kernel
theorem dX9_go_2 : decode cX9_go 2 = .ok (.getfield 7, 3) := by decide +kernel
theorem dX9_go_5 : decode cX9_go 5 = .ok (.putfield 13, 3) := by decide +kernel
theorem dX9_go_8 : decode cX9_go 8 = .ok (.aload_n 0, 1) := by decide +kernel
theorem dX9_go_9 : decode cX9_go 9 = .ok (.getfield 16, 3) := by decide +kernel
theorem dX9_go_12 : decode cX9_go 12 = .ok (.iconst 0, 1) := by decide +kernel
theorem dX9_go_13 : decode cX9_go 13 = .ok (.aload_n 0, 1) := by decide +kernel
theorem dX9_go_14 : decode cX9_go 14 = .ok (.getfield 26, 3) := by decide +kernel
theorem dX9_go_17 : decode cX9_go 17 = .ok (.iconst 0, 1) := by decide +kernel
theorem dX9_go_18 : decode cX9_go 18 = .ok (.bipush 40, 2) := by decide +kernel
theorem dX9_go_20 : decode cX9_go 20 = .ok (.invokestatic 45, 3) := by decide +kernel
theorem dX9_go_23 : decode cX9_go 23 = .ok (.iconst 0, 1) := by decide +kernel
theorem dX9_go_24 : decode cX9_go 24 = .ok (.istore_n 3, 1) := by decide +kernel
theorem dX9_go_25 : decode cX9_go 25 = .ok (.iload_n 3, 1) := by decide +kernel
theorem dX9_go_26 : decode cX9_go 26 = .ok (.iload_n 2, 1) := by decide +kernel
theorem dX9_go_27 : decode cX9_go 27 = .ok (.if_icmp .ge 19, 3) := by decide +kernel
theorem dX9_go_46 : decode cX9_go 46 = .ok (.iload_n 2, 1) := by decide +kernel
theorem dX9_go_47 : decode cX9_go 47 = .ok (.ireturn, 1) := by decide +kernel
theorem dX9_go_30 : decode cX9_go 30 = .ok (.aload_n 0, 1) := by decide +kernel
theorem dX9_go_31 : decode cX9_go 31 = .ok (.iload_n 1, 1) := by decide +kernel
set_option maxRecDepth 20000 in
theorem ggX9_go_X9_step : GoodIn wsX9_go wsX9_step := goodIn_ca (goodIn_r _ [13, 4, 2, 14, 15, 16, 17, 18, 19, 20, 21, 22, 23, 24, 25, 26] rfl (by decide +kernel)) (goodIn_sub (fun _ h => List.mem_cons_of_mem _ (List.mem_append_right _ h)) (by decide +kernel))
set_option maxRecDepth 20000 in
theorem gX9_go_X9_step : GoodIn wsX9_go (wsV RX9 51 RX9 yX9_step wsX9_step) := goodIn_app (goodIn_of _ (by decide +kernel)) ggX9_go_X9_step
theorem dX9_go_32 : decode cX9_go 32 = .ok (.invokevirtual 51, 3) := by decide +kernel
theorem dX9_go_35 : decode cX9_go 35 = .ok (.ifCond .ne 5, 3) := by decide +kernel
theorem dX9_go_38 : decode cX9_go 38 = .ok (.iload_n 3, 1) := by decide +kernel
theorem dX9_go_39 : decode cX9_go 39 = .ok (.ireturn, 1) := by decide +kernel
theorem dX1_commonPart_0 : decode cX1_commonPart 0 = .ok (.iload_n 0, 1) := by decide +kernel
theorem dX1_commonPart_1 : decode cX1_commonPart 1 = .ok (.istore_n 2, 1) := by decide +kernel
theorem dX1_commonPart_2 : decode cX1_commonPart 2 = .ok (.iload_n 1, 1) := by decide +kernel
theorem dX1_commonPart_3 : decode cX1_commonPart 3 = .ok (.istore_n 3, 1) := by decide +kernel
theorem dX1_commonPart_4 : decode cX1_commonPart 4 = .ok (.iconst 0, 1) := by decide +kernel
theorem dX1_commonPart_5 : decode cX1_commonPart 5 = .ok (.istore 4, 2) := by decide +kernel
theorem dX1_commonPart_7 : decode cX1_commonPart 7 = .ok (.iload 4, 2) := by decide +kernel
theorem dX1_commonPart_9 : decode cX1_commonPart 9 = .ok (.bipush 64, 2) := by decide +kernel
theorem dX1_commonPart_11 : decode cX1_commonPart 11 = .ok (.if_icmp .ge 23, 3) := by decide +kernel
theorem dX1_commonPart_34 : decode cX1_commonPart 34 = .ok (.iload_n 2, 1) := by decide +kernel
theorem dX1_commonPart_35 : decode cX1_commonPart 35 = .ok (.ireturn, 1) := by decide +kernel
theorem dX1_commonPart_14 : decode cX1_commonPart 14 = .ok (.iload_n 3, 1) := by decide +kernel
theorem dX1_commonPart_15 : decode cX1_commonPart 15 = .ok (.ifCond .le 19, 3) := by decide +kernel
theorem dX1_commonPart_18 : decode cX1_commonPart 18 = .ok (.iload_n 2, 1) := by decide +kernel
theorem dX1_commonPart_19 : decode cX1_commonPart 19 = .ok (.iload_n 3, 1) := by decide +kernel
theorem dX1_commonPart_20 : decode cX1_commonPart 20 = .ok (.irem, 1) := by decide +kernel
theorem dX1_commonPart_21 : decode cX1_commonPart 21 = .ok (.istore 5, 2) := by decide +kernel
theorem dX1_commonPart_23 : decode cX1_commonPart 23 = .ok (.iload_n 3, 1) := by decide +kernel
theorem dX1_commonPart_24 : decode cX1_commonPart 24 = .ok (.istore_n 2, 1) := by decide +kernel
theorem dX1_commonPart_25 : decode cX1_commonPart 25 = .ok (.iload 5, 2) := by decide +kernel
theorem dX1_commonPart_27 : decode cX1_commonPart 27 = .ok (.istore_n 3, 1) := by decide +kernel
theorem dX1_commonPart_28 : decode cX1_commonPart 28 = .ok (.iinc 4 1, 3) := by decide +kernel
theorem dX1_commonPart_31 : decode cX1_commonPart 31 = .ok (.goto (-24), 3) := by decide +kernel
theorem dX1_add_0 : decode cX1_add 0 = .ok (.iload_n 1, 1) := by decide +kernel
theorem dX1_add_1 : decode cX1_add 1 = .ok (.iload_n 2, 1) := by decide +kernel
set_option maxRecDepth 20000 in
theorem ggX1_add_X1_commonPart : GoodIn wsX1_add wsX1_commonPart := goodIn_ca (goodIn_r _ [7] rfl (by decide +kernel)) (goodIn_sub (fun _ h => List.mem_cons_of_mem _ (List.mem_append_left _ (List.mem_append_right _ h))) (by decide +kernel))
set_option maxRecDepth 20000 in
theorem gX1_add_X1_commonPart : GoodIn wsX1_add (va_wsS RX1 31 yX1_commonPart wsX1_commonPart) := goodIn_app (goodIn_of _ (by decide +kernel)) ggX1_add_X1_commonPart
theorem dX1_add_2 : decode cX1_add 2 = .ok (.invokestatic 31, 3) := by decide +kernel
theorem dX1_add_5 : decode cX1_add 5 = .ok (.istore_n 3, 1) := by decide +kernel
theorem dX1_add_6 : decode cX1_add 6 = .ok (.aload_n 0, 1) := by decide +kernel
theorem dX1_add_7 : decode cX1_add 7 = .ok (.getfield 7, 3) := by decide +kernel
theorem dX1_add_10 : decode cX1_add 10 = .ok (.bipush 10, 2) := by decide +kernel
theorem dX1_add_12 : decode cX1_add 12 = .ok (.if_icmp .ge 45, 3) := by decide +kernel
theorem dX1_add_15 : decode cX1_add 15 = .ok (.iload_n 3, 1) := by decide +kernel
theorem dX1_add_16 : decode cX1_add 16 = .ok (.ifCond .le 41, 3) := by decide +kernel
theorem dX1_add_19 : decode cX1_add 19 = .ok (.aload_n 0, 1) := by decide +kernel
theorem dX1_add_20 : decode cX1_add 20 = .ok (.getfield 24, 3) := by decide +kernel
theorem dX1_add_23 : decode cX1_add 23 = .ok (.aload_n 0, 1) := by decide +kernel
theorem dX1_add_24 : decode cX1_add 24 = .ok (.getfield 7, 3) := by decide +kernel
theorem dX1_add_27 : decode cX1_add 27 = .ok (.iload_n 1, 1) := by decide +kernel
theorem dX1_add_28 : decode cX1_add 28 = .ok (.iload_n 3, 1) := by decide +kernel
theorem dX1_add_29 : decode cX1_add 29 = .ok (.idiv, 1) := by decide +kernel
set_option maxRecDepth 20000 in
theorem ggX1_add_X11_put : GoodIn wsX1_add wsX11_put := goodIn_ca (goodIn_r _ [10] rfl (by decide +kernel)) (goodIn_sub (fun _ h => List.mem_cons_of_mem _ (List.mem_append_right _ h)) (by decide +kernel))
set_option maxRecDepth 20000 in
theorem gX1_add_X11_put_n35 : GoodIn wsX1_add (wsX11_put) := ggX1_add_X11_put
theorem dX1_add_30 : decode cX1_add 30 = .ok (.invokestatic 35, 3) := by decide +kernel
theorem dX1_add_33 : decode cX1_add 33 = .ok (.aload_n 0, 1) := by decide +kernel
theorem dX1_add_34 : decode cX1_add 34 = .ok (.getfield 28, 3) := by decide +kernel
theorem dX1_add_37 : decode cX1_add 37 = .ok (.aload_n 0, 1) := by decide +kernel
theorem dX1_add_38 : decode cX1_add 38 = .ok (.getfield 7, 3) := by decide +kernel
theorem dX1_add_41 : decode cX1_add 41 = .ok (.iload_n 2, 1) := by decide +kernel
theorem dX1_add_42 : decode cX1_add 42 = .ok (.iload_n 3, 1) := by decide +kernel
theorem dX1_add_43 : decode cX1_add 43 = .ok (.idiv, 1) := by decide +kernel
theorem dX1_add_44 : decode cX1_add 44 = .ok (.invokestatic 35, 3) := by decide +kernel
theorem dX1_add_47 : decode cX1_add 47 = .ok (.aload_n 0, 1) := by decide +kernel
theorem dX1_add_48 : decode cX1_add 48 = .ok (.dup, 1) := by decide +kernel
theorem dX1_add_49 : decode cX1_add 49 = .ok (.getfield 7, 3) := by decide +kernel
theorem dX1_add_52 : decode cX1_add 52 = .ok (.iconst 1, 1) := by decide +kernel
theorem dX1_add_53 : decode cX1_add 53 = .ok (.iadd, 1) := by decide +kernel
theorem dX1_add_54 : decode cX1_add 54 = .ok (.putfield 7, 3) := by decide +kernel
theorem dX1_add_57 : decode cX1_add 57 = .ok (.return_, 1) := by decide +kernel
theorem dX1_firstWhole_0 : decode cX1_firstWhole 0 = .ok (.iconst 0, 1) := by decide +kernel
theorem dX1_firstWhole_1 : decode cX1_firstWhole 1 = .ok (.istore_n 1, 1) := by decide +kernel
theorem dX1_firstWhole_2 : decode cX1_firstWhole 2 = .ok (.iload_n 1, 1) := by decide +kernel
theorem dX1_firstWhole_3 : decode cX1_firstWhole 3 = .ok (.aload_n 0, 1) := by decide +kernel
theorem dX1_firstWhole_4 : decode cX1_firstWhole 4 = .ok (.getfield 7, 3) := by decide +kernel
theorem dX1_firstWhole_7 : decode cX1_firstWhole 7 = .ok (.if_icmp .ge 36, 3) := by decide +kernel
theorem dX1_firstWhole_43 : decode cX1_firstWhole 43 = .ok (.iconst (-1), 1) := by decide +kernel
theorem dX1_firstWhole_44 : decode cX1_firstWhole 44 = .ok (.ireturn, 1) := by decide +kernel
theorem dX1_step_0 : decode cX1_step 0 = .ok (.aload_n 0, 1) := by decide +kernel
set_option maxRecDepth 20000 in
theorem ggX1_step_X1_firstWhole : GoodIn wsX1_step wsX1_firstWhole := goodIn_ca (goodIn_ca (goodIn_r _ [9, 10, 2, 3, 11, 12, 13, 14, 15, 16, 17, 18, 19] rfl (by decide +kernel)) (goodIn_sub (fun _ h => List.mem_cons_of_mem _ (List.mem_append_left _ (List.mem_append_right _ h))) (by decide +kernel))) (goodIn_sub (fun _ h => List.mem_cons_of_mem _ (List.mem_append_right _ h)) (by decide +kernel))
set_option maxRecDepth 20000 in
theorem gX1_step_X1_firstWhole : GoodIn wsX1_step (wsV RX1 45 RX1 yX1_firstWhole wsX1_firstWhole) := goodIn_app (goodIn_of _ (by decide +kernel)) ggX1_step_X1_firstWhole
theorem dX1_step_1 : decode cX1_step 1 = .ok (.invokevirtual 45, 3) := by decide +kernel
theorem dX1_step_4 : decode cX1_step 4 = .ok (.istore_n 1, 1) := by decide +kernel
theorem dX1_step_5 : decode cX1_step 5 = .ok (.aload_n 0, 1) := by decide +kernel
theorem dX1_step_6 : decode cX1_step 6 = .ok (.getfield 24, 3) := by decide +kernel
theorem dX1_step_9 : decode cX1_step 9 = .ok (.iload_n 1, 1) := by decide +kernel
set_option maxRecDepth 20000 in
theorem ggX1_step_X11_at : GoodIn wsX1_step wsX11_at := goodIn_ca (goodIn_r _ [13] rfl (by decide +kernel)) (goodIn_sub (fun _ h => List.mem_cons_of_mem _ (List.mem_append_right _ h)) (by decide +kernel))
set_option maxRecDepth 20000 in
theorem gX1_step_X11_at_n49 : GoodIn wsX1_step (wsX11_at) := ggX1_step_X11_at
theorem dX1_step_10 : decode cX1_step 10 = .ok (.invokestatic 49, 3) := by decide +kernel
theorem dX1_step_13 : decode cX1_step 13 = .ok (.istore_n 2, 1) := by decide +kernel
theorem dX1_step_14 : decode cX1_step 14 = .ok (.aload_n 0, 1) := by decide +kernel
theorem dX1_step_15 : decode cX1_step 15 = .ok (.getfield 28, 3) := by decide +kernel
theorem dX1_step_18 : decode cX1_step 18 = .ok (.iload_n 1, 1) := by decide +kernel
theorem dX1_step_19 : decode cX1_step 19 = .ok (.invokestatic 49, 3) := by decide +kernel
theorem dX1_step_22 : decode cX1_step 22 = .ok (.istore_n 3, 1) := by decide +kernel
theorem dX1_step_23 : decode cX1_step 23 = .ok (.iload_n 2, 1) := by decide +kernel
theorem dX1_step_24 : decode cX1_step 24 = .ok (.ifCond .le 24, 3) := by decide +kernel
theorem dX1_step_48 : decode cX1_step 48 = .ok (.iconst 0, 1) := by decide +kernel
theorem dX1_step_49 : decode cX1_step 49 = .ok (.ireturn, 1) := by decide +kernel
theorem dX1_go_0 : decode cX1_go 0 = .ok (.aload_n 0, 1) := by decide +kernel
theorem dX1_go_1 : decode cX1_go 1 = .ok (.lload_n 1, 1) := by decide +kernel
theorem dX1_go_2 : decode cX1_go 2 = .ok (.putfield 20, 3) := by decide +kernel
theorem dX1_go_5 : decode cX1_go 5 = .ok (.aload_n 0, 1) := by decide +kernel
theorem dX1_go_6 : decode cX1_go 6 = .ok (.iconst 0, 1) := by decide +kernel
theorem dX1_go_7 : decode cX1_go 7 = .ok (.putfield 13, 3) := by decide +kernel
theorem dX1_go_10 : decode cX1_go 10 = .ok (.iconst 0, 1) := by decide +kernel
theorem dX1_go_11 : decode cX1_go 11 = .ok (.istore 4, 2) := by decide +kernel
theorem dX1_go_13 : decode cX1_go 13 = .ok (.iload 4, 2) := by decide +kernel
theorem dX1_go_15 : decode cX1_go 15 = .ok (.iload_n 3, 1) := by decide +kernel
theorem dX1_go_16 : decode cX1_go 16 = .ok (.if_icmp .ge 29, 3) := by decide +kernel
theorem dX1_go_45 : decode cX1_go 45 = .ok (.aload_n 0, 1) := by decide +kernel
theorem dX1_go_46 : decode cX1_go 46 = .ok (.aload_n 0, 1) := by decide +kernel
set_option maxRecDepth 20000 in
theorem ggX1_go_X1_firstWhole : GoodIn wsX1_go wsX1_firstWhole := goodIn_ca (goodIn_ca (goodIn_r _ [15, 16, 10, 1, 17, 18, 19, 20, 21, 22, 23, 24, 25] rfl (by decide +kernel)) (goodIn_sub (fun _ h => List.mem_cons_of_mem _ (List.mem_append_left _ (List.mem_append_right _ h))) (by decide +kernel))) (goodIn_sub (fun _ h => List.mem_cons_of_mem _ (List.mem_append_right _ h)) (by decide +kernel))
set_option maxRecDepth 20000 in
theorem gX1_go_X1_firstWhole : GoodIn wsX1_go (wsV RX1 45 RX1 yX1_firstWhole wsX1_firstWhole) := goodIn_app (goodIn_of _ (by decide +kernel)) ggX1_go_X1_firstWhole
theorem dX1_go_47 : decode cX1_go 47 = .ok (.invokevirtual 45, 3) := by decide +kernel
theorem dX1_go_50 : decode cX1_go 50 = .ok (.ifCond .ge 7, 3) := by decide +kernel
theorem dX1_go_53 : decode cX1_go 53 = .ok (.iconst 1, 1) := by decide +kernel
theorem dX1_go_54 : decode cX1_go 54 = .ok (.goto 4, 3) := by decide +kernel
theorem dX1_go_58 : decode cX1_go 58 = .ok (.putfield 16, 3) := by decide +kernel
theorem dX1_go_61 : decode cX1_go 61 = .ok (.aload_n 0, 1) := by decide +kernel
theorem dX1_go_62 : decode cX1_go 62 = .ok (.getfield 20, 3) := by decide +kernel
theorem dX1_go_65 : decode cX1_go 65 = .ok (.lreturn, 1) := by decide +kernel
theorem dX1_go_19 : decode cX1_go 19 = .ok (.aload_n 0, 1) := by decide +kernel
set_option maxRecDepth 20000 in
theorem ggX1_go_X1_step : GoodIn wsX1_go wsX1_step := goodIn_ca (goodIn_ca (goodIn_r _ [8, 9, 10, 1, 11, 12, 13, 14, 7, 15, 16, 17, 18, 19, 20, 21, 22, 23, 24, 25] rfl (by decide +kernel)) (goodIn_sub (fun _ h => List.mem_cons_of_mem _ (List.mem_append_left _ (List.mem_append_right _ h))) (by decide +kernel))) (goodIn_sub (fun _ h => List.mem_cons_of_mem _ (List.mem_append_right _ h)) (by decide +kernel))
set_option maxRecDepth 20000 in
theorem gX1_go_X1_step : GoodIn wsX1_go (wsV RX1 41 RX1 yX1_step wsX1_step) := goodIn_app (goodIn_of _ (by decide +kernel)) ggX1_go_X1_step
theorem dX1_go_20 : decode cX1_go 20 = .ok (.invokevirtual 41, 3) := by decide +kernel
theorem dX1_go_23 : decode cX1_go 23 = .ok (.ifCond .ne 6, 3) := by decide +kernel
theorem dX1_go_26 : decode cX1_go 26 = .ok (.goto 19, 3) := by decide +kernel
theorem dX11_demand_0 : decode cX11_demand 0 = .ok (.iload_n 0, 1) := by decide +kernel
theorem dX11_demand_1 : decode cX11_demand 1 = .ok (.ifCond .ne 11, 3) := by decide +kernel
theorem dX11_demand_12 : decode cX11_demand 12 = .ok (.return_, 1) := by decide +kernel
theorem dX11_demand_4 : decode cX11_demand 4 = .ok (.new 299, 3) := by decide +kernel
theorem dX11_demand_7 : decode cX11_demand 7 = .ok (.dup, 1) := by decide +kernel
theorem dX11_demand_8 : decode cX11_demand 8 = .ok (.invokespecial 301, 3) := by decide +kernel
theorem dX11_demand_11 : decode cX11_demand 11 = .ok (.athrow, 1) := by decide +kernel
theorem dX11_demandFound_0 : decode cX11_demandFound 0 = .ok (.iload_n 0, 1) := by decide +kernel
theorem dX11_demandFound_1 : decode cX11_demandFound 1 = .ok (.ifCond .ne 11, 3) := by decide +kernel
theorem dX11_demandFound_12 : decode cX11_demandFound 12 = .ok (.return_, 1) := by decide +kernel
theorem dX11_demandFound_4 : decode cX11_demandFound 4 = .ok (.new 302, 3) := by decide +kernel
theorem dX11_demandFound_7 : decode cX11_demandFound 7 = .ok (.dup, 1) := by decide +kernel
theorem dX11_demandFound_8 : decode cX11_demandFound 8 = .ok (.invokespecial 304, 3) := by decide +kernel
theorem dX11_demandFound_11 : decode cX11_demandFound 11 = .ok (.athrow, 1) := by decide +kernel
theorem dX11_known_0 : decode cX11_known 0 = .ok (.iload_n 1, 1) := by decide +kernel
theorem dX11_known_1 : decode cX11_known 1 = .ok (.ifCond .lt 29, 3) := by decide +kernel
theorem dX11_known_30 : decode cX11_known 30 = .ok (.aconst_null, 1) := by decide +kernel
theorem dX11_known_31 : decode cX11_known 31 = .ok (.astore_n 2, 1) := by decide +kernel
theorem dX11_known_32 : decode cX11_known 32 = .ok (.aload_n 2, 1) := by decide +kernel
theorem dX11_known_33 : decode cX11_known 33 = .ok (.ifnonnull 11, 3) := by decide +kernel
theorem dX11_known_36 : decode cX11_known 36 = .ok (.new 238, 3) := by decide +kernel
theorem dX11_known_39 : decode cX11_known 39 = .ok (.dup, 1) := by decide +kernel
theorem dX11_known_40 : decode cX11_known 40 = .ok (.invokespecial 240, 3) := by decide +kernel
theorem dX11_known_43 : decode cX11_known 43 = .ok (.athrow, 1) := by decide +kernel
theorem dX11_known_4 : decode cX11_known 4 = .ok (.iload_n 1, 1) := by decide +kernel
theorem dX11_known_5 : decode cX11_known 5 = .ok (.aload_n 0, 1) := by decide +kernel
theorem dX11_known_6 : decode cX11_known 6 = .ok (.getfield 15, 3) := by decide +kernel
theorem dX11_known_9 : decode cX11_known 9 = .ok (.if_icmp .ge 21, 3) := by decide +kernel
-- ===== what the class throws =====
/-- the words that a throw asks for and that don't lie in a method's own list -/
def zB : List Cond := [.declares (Bundle.init0 "java/lang/RuntimeException"), .declares (Bundle.init0 "java/lang/Exception"), .declares (Bundle.init0 Bundle.tN), .castable "java/lang/IllegalArgumentException" "java/lang/IllegalArgumentException", .castable "java/lang/IndexOutOfBoundsException" "java/lang/IndexOutOfBoundsException", .castable "java/util/NoSuchElementException" "java/util/NoSuchElementException", .castable "java/lang/ArithmeticException" "java/lang/ArithmeticException"]
def zX (A : Nat → Prop) (U : State) (H : Heap) : Prop := (vx_Zq Bundle.tN "UNASSIGNED_STACK" Bundle.steD A U H ∧ vx_Zq Bundle.tN "SUPPRESSED_SENTINEL" Bundle.listD A U H) ∧ (∀ w ∈ zB, va_Nw w U) ∧ va_AO "Beaverhall$Machine" U ∧ va_Nc "java/util/NoSuchElementException" "java/lang/IllegalArgumentException" U
theorem zB_warm {w : Cond} (hw : w ∈ zB) {s U : State} (hW : s.WarmedH U.vm) (h : va_Nw w s) : va_Nw w U := by
  simp only [zB, List.mem_cons, List.mem_nil_iff, or_false] at hw
  rcases hw with rfl | rfl | rfl | rfl | rfl | rfl | rfl
  · exact va_Nw.warmD hW h
  · exact va_Nw.warmD hW h
  · exact va_Nw.warmD hW h
  · exact va_Nw.warmC hW h
  · exact va_Nw.warmC hW h
  · exact va_Nw.warmC hW h
  · exact va_Nw.warmC hW h
theorem zB_tab : ∀ w ∈ zB, w.onTables = true := by decide +kernel
theorem zX_ok : zok zX := by
  refine ⟨fun A s U H hW h => ?_, fun A U H H1 h hq => ?_, fun A B U H h hq => ?_, fun A u U H hv h => ?_⟩
  · exact ⟨⟨h.1.1.moved hW.alike, h.1.2.moved hW.alike⟩, fun w hw => zB_warm hw hW (h.2.1 w hw), h.2.2.1.moved hW.alike, h.2.2.2.moved hW.alike⟩
  · exact ⟨⟨h.1.1.kept hq, h.1.2.kept hq⟩, h.2⟩
  · exact ⟨⟨h.1.1.narrow hq, h.1.2.narrow hq⟩, h.2⟩
  · have ha : u.vm.Alike U.vm := by rw [hv]; exact Vm.Alike.refl _
    exact ⟨⟨h.1.1.moved ha, h.1.2.moved ha⟩, fun w hw => va_Nw.same (zB_tab w hw) hv.symm (h.2.1 w hw), h.2.2.1.moved ha, h.2.2.2.moved ha⟩
theorem zX_use {A : Nat → Prop} {args : Array Value} {s : State} {H : Heap} (h : zX A s H) : ∀ w ∈ zB, w.before args s = true := fun w hw => va_Nw.use (zB_tab w hw) (h.2.1 w hw)
theorem thr_F {A : Nat → Prop} {s : State} {H : Heap} {locs : List Loc} (hS : va_S A s.heap H locs) {t : State} (h1 : H.size ≤ t.heap.size) (h2 : ∀ q : Nat, q < H.size → t.heap[q]? = H[q]?) : va_F A s t := ⟨Nat.le_trans hS.1 h1, fun q h3 h4 => (h2 q (Nat.lt_of_lt_of_le h3 hS.1)).trans (hS.2.1 q h3 h4)⟩
/-- behind a call that throws in any case -/
theorem vx_callX {p : Program} {l : Launch} {e : Env} {R : Room} {s : State} {m : MethodId} {args : Array Value} {below : List Frame} {meth : Method} {c : Code} {H : Heap} {locs : List Loc} {cells slots : Nat} {Q : State → Prop} {mc ms : Nat} {free : Addr → Prop} {A0 : Nat → Prop} {H0 : Heap} {ls : Array Slot} {st0 rest : List Value} {pc : Nat} {Qa : State → Outcome → State → Prop}
    {SX : Type} {px : SX → Prop} {BX : String → SX → State → Prop} {AX : Nat → Prop} (hr : vx_Run p l e R s m args below meth c H locs cells slots mc ms (F0 m pc ls st0) rest Qa (vx_X px BX AX) free) (hS : va_S A0 H0 H locs) (hf : ∀ q, free q → A0 q) (hAX : ∀ q, q < H.size → AX q → A0 q) (hno : ∀ st o t, Qa st o t → False)
    (kx : ∀ (E : String) (ce : Cell) (q9 : Addr) (u : SX) (t : State) (H1 : Heap) (locs1 : List Loc), t.heap = H1 → s.vm.Alike t.vm → px u → BX E u t → H.size ≤ H1.size → (∀ q : Nat, q < H.size → ¬ AX q → H1[q]? = H[q]?) → va_S A0 H0 H1 locs1 → H1[q9]? = some ce → ce.vm = .none → s.vm.findClass E = some ce.cls → vx_W p l e R s m args below meth c H1 locs1 (cells + mc) (slots + ms) Q (F0 m pc ls rest) q9) : W p l e R s m args below meth c H locs cells slots Q (F0 m pc ls st0) := by
  intro T hT X
  rcases hr T hT X with ⟨v, st₀, t, T', L, h0, X', hL, e1, e2, hq, st⟩ | ⟨q, st₀, t, T', L, E, ce, h0, X', hL, e1, e2, ⟨u, hp, hb, hF⟩, hce, hcv, hcl, st⟩
  · exact (hno _ _ _ hq).elim
  · obtain ⟨k1, k2, k3⟩ := vx_keep h0 e1 hS hAX hf hL hF
    obtain ⟨t2, a1, b1⟩ := kx E ce q u t T'.heap (locs ++ L) e1.symm (by rw [← e2]; exact X'.warmed.alike) hp hb k1 k2 k3 (by rw [e1]; exact hce) hcv hcl T' rfl X'
    exact ⟨t2, st.trans a1, b1⟩
def withinJ (n lo hi : Int32) : Int32 := if n < lo then 0 else if hi < n then 0 else 1
theorem within_iff {n lo hi : Int32} : (withinJ n lo hi = 1 ∧ lo ≤ n ∧ n ≤ hi) ∨ (withinJ n lo hi = 0 ∧ ¬ (lo ≤ n ∧ n ≤ hi)) := by
  unfold withinJ
  by_cases h : n < lo
  · rw [if_pos h]; exact Or.inr ⟨rfl, fun h2 => Int32.not_lt.mpr h2.1 h⟩
  · rw [if_neg h]
    by_cases h3 : hi < n
    · rw [if_pos h3]; exact Or.inr ⟨rfl, fun h2 => Int32.not_lt.mpr h2.2 h3⟩
    · rw [if_neg h3]; exact Or.inl ⟨rfl, Int32.not_lt.mp h, Int32.not_lt.mp h3⟩
theorem at_zero {n : Nat} {i : Int32} : atJ (fun _ => 0) n i = 0 := by
  unfold atJ
  split
  · rfl
  · split <;> rfl
theorem at_neg {f : Nat → Int32} {n : Nat} {i : Int32} (h : i < 0) : atJ f n i = 0 := by
  unfold atJ
  rw [if_pos h]
theorem at_put {f : Nat → Int32} {n : Nat} {i x : Int32} (hn : n < 2 ^ 31) (h : vp_in i n) : atJ (putJ f n i x) n i = x := by
  obtain ⟨j, hj, rfl⟩ := vp_in_of h hn
  rw [put_at (n := n) (i := nI j) (j := j) rfl hj hn, at_at (n := n) (i := nI j) (j := j) rfl hj hn, pk_us]
theorem tag23 {n : Int32} (h : 2 ≤ n ∧ n ≤ 3) : n = 2 ∨ n = 3 := by
  obtain ⟨j, hj, rfl⟩ := nI_of2 (M := 3) (n := 3) (by decide) (Int32.not_lt.mpr (Int32.le_trans (by decide) h.1)) h.2
  have h1 := (nI_leI (a := 2) (b := j) (by decide) (by omega)).mp h.1
  have : j = 2 ∨ j = 3 := by omega
  rcases this with rfl | rfl
  · left; rfl
  · right; rfl
theorem tag32 {n : Int32} (h : n = 2 ∨ n = 3) : 2 ≤ n ∧ n ≤ 3 := by
  rcases h with rfl | rfl <;> decide
theorem what_no {w : Int32} (h1 : ¬ w = 104) (h2 : ¬ w = 110) (h3 : ¬ w = 111) (h4 : ¬ w = 115) (h5 : ¬ w = 109) : ¬ pWhat w := fun h => h.elim h1 (fun h => h.elim h2 (fun h => h.elim h3 (fun h => h.elim h4 h5)))
set_option maxHeartbeats 4000000 in
set_option maxRecDepth 100000 in
/-- X11_isWithin -/
theorem c_X11_isWithin (l : Launch) (dC : Nat → ClassId) (dI : Nat → Nat → Nat) (n lo hi : Int32) (sz : Nat) : Met l yX11_isWithin wsX11_isWithin ({ frames := 0, cells := 0, slots := 0, locals := 0 }) (va_Pc [.int n, .int lo, .int hi] (cPC dC dI [] [] sz)) (va_Qi (fun (r : Int32) (u : Unit) => r = withinJ n lo hi) (fun (u : Unit) t => cQB dC dI [] [] (va_A [] sz) t) (va_A [] sz)) 0 0 (va_A [] sz) := by
  refine Met.ofW (cc := cX11_isWithin) (maxL := 3) (ret := (some .boolean)) (by decide) rfl ?_
  intro p e s m args below meth c s₁ B hml hv
  obtain ⟨rfl, hsz, hP, hK, hD0, hN⟩ := hv
  have hx := B.exec
  have hb := B.bytes
  have hr := B.returns
  have hts := atoms_spec (ws := wsX11_isWithin) B.pre
  have hown : s.vm.findClass RX11 = some m.cls := findClass_of_methodNamed B.named
  have hlocks := B.notSynchronized
  subst hsz
  have hD := hD0.self (sz := s.heap.size)
  generalize hAe : va_A [] s.heap.size = A at hD ⊢
  have hA : ∀ q : Nat, s.heap.size ≤ q → A q := fun q h => by rw [← hAe]; exact Or.inr h
  have hS : va_S A s.heap s.heap [] := va_S.rf
  have hP : va_P (dC, dI) vwCl [] s.heap := hP
  have hD : va_D A [] := hD
  have hl := lv_entry ([.int n, .int lo, .int hi]) (n := 3) (Nat.le_of_ble_eq_true rfl)
  rw [lg_entry_eq]
  generalize (lg_sl ([.int n, .int lo, .int hi]) ++ List.replicate (3 - (lg_sl ([.int n, .int lo, .int hi])).length) Slot.unset).toArray = ls at hl ⊢
  have hl : lv_has ls 3 [(0, .int n), (1, .int lo), (2, .int hi)] := hl
  refine lv_iload_n hx hb dX11_isWithin_0 rfl (lv_at hl 0 rfl) ?_
  refine lv_iload_n hx hb dX11_isWithin_1 rfl (lv_at hl 1 rfl) ?_
  refine lv_icmp_lt (tgt := 14) hx hb dX11_isWithin_2 (by decide) (fun c2_1 => ?_) (fun c2_1 => ?_)
  · refine lv_iconst (v := 0) hx hb dX11_isWithin_14 (by decide) ?_
    have hP9 := hP.sub (ws' := []) [] rfl
    have hD9 := hD.sub (ws' := []) [] (by decide) rfl
    have hK9 := hK.sub (tys' := []) [] rfl
    exact W.zret (v := 0) hx hb hr (by rfl) (fun t ht hW => ⟨⟨0, (), rfl, (by simp [withinJ, c2_1]), ⟨by rw [ht]; exact hP9, va_K.moved hW.alike hK9, hD9⟩⟩, hS.F ht⟩) hS.2.2 dX11_isWithin_15
  · refine lv_iload_n hx hb dX11_isWithin_5 rfl (lv_at hl 0 rfl) ?_
    refine lv_iload_n hx hb dX11_isWithin_6 rfl (lv_at hl 2 rfl) ?_
    refine lv_icmp_gt (tgt := 14) hx hb dX11_isWithin_7 (by decide) (fun c7_2 => ?_) (fun c7_2 => ?_)
    · refine lv_iconst (v := 0) hx hb dX11_isWithin_14 (by decide) ?_
      have hP9 := hP.sub (ws' := []) [] rfl
      have hD9 := hD.sub (ws' := []) [] (by decide) rfl
      have hK9 := hK.sub (tys' := []) [] rfl
      exact W.zret (v := 0) hx hb hr (by rfl) (fun t ht hW => ⟨⟨0, (), rfl, (by simp [withinJ, c2_1, c7_2]), ⟨by rw [ht]; exact hP9, va_K.moved hW.alike hK9, hD9⟩⟩, hS.F ht⟩) hS.2.2 dX11_isWithin_15
    · refine lv_iconst (v := 1) hx hb dX11_isWithin_10 (by decide) ?_
      refine lv_goto (tgt := 15) hx hb dX11_isWithin_11 (by decide) ?_
      have hP9 := hP.sub (ws' := []) [] rfl
      have hD9 := hD.sub (ws' := []) [] (by decide) rfl
      have hK9 := hK.sub (tys' := []) [] rfl
      exact W.zret (v := 1) hx hb hr (by rfl) (fun t ht hW => ⟨⟨1, (), rfl, (by simp [withinJ, c2_1, c7_2]), ⟨by rw [ht]; exact hP9, va_K.moved hW.alike hK9, hD9⟩⟩, hS.F ht⟩) hS.2.2 dX11_isWithin_15

set_option maxHeartbeats 4000000 in
set_option maxRecDepth 100000 in
/-- X11_demandRoom -/
theorem c_X11_demandRoom (l : Launch) (dC : Nat → ClassId) (dI : Nat → Nat → Nat) (ya ms ju li ct tg fw : Nat) (sz : Nat) : Met l yX11_demandRoom wsX11_demandRoom ({ frames := 0, cells := 0, slots := 0, locals := 0 }) (va_Pc [.ref ya] (cPC dC dI [(ya, .inr (16, [.ref ms, .int 0, .ref ju, .ref li, .ref ct, .ref tg, .ref fw]))] [] sz)) (va_Qv (fun (u : Unit) => True) (fun (u : Unit) t => cQB dC dI [(ya, .inr (16, [.ref ms, .int 0, .ref ju, .ref li, .ref ct, .ref tg, .ref fw]))] [] (va_A [(ya, .inr (16, [.ref ms, .int 0, .ref ju, .ref li, .ref ct, .ref tg, .ref fw]))] sz) t) (va_A [(ya, .inr (16, [.ref ms, .int 0, .ref ju, .ref li, .ref ct, .ref tg, .ref fw]))] sz)) 0 0 (va_A [(ya, .inr (16, [.ref ms, .int 0, .ref ju, .ref li, .ref ct, .ref tg, .ref fw]))] sz) := by
  refine Met.ofW (cc := cX11_demandRoom) (maxL := 1) (ret := none) (by decide) rfl ?_
  intro p e s m args below meth c s₁ B hml hv
  obtain ⟨rfl, hsz, hP, hK, hD0, hN⟩ := hv
  have hx := B.exec
  have hb := B.bytes
  have hr := B.returns
  have hts := atoms_spec (ws := wsX11_demandRoom) B.pre
  have hown : s.vm.findClass RX11 = some m.cls := findClass_of_methodNamed B.named
  have hlocks := B.notSynchronized
  subst hsz
  have hD := hD0.self (sz := s.heap.size)
  generalize hAe : va_A [(ya, .inr (16, [.ref ms, .int 0, .ref ju, .ref li, .ref ct, .ref tg, .ref fw]))] s.heap.size = A at hD ⊢
  have hA : ∀ q : Nat, s.heap.size ≤ q → A q := fun q h => by rw [← hAe]; exact Or.inr h
  have hS : va_S A s.heap s.heap [] := va_S.rf
  have hP : va_P (dC, dI) vwCl [(ya, .inr (16, [.ref ms, .int 0, .ref ju, .ref li, .ref ct, .ref tg, .ref fw]))] s.heap := hP
  have hD : va_D A [(ya, .inr (16, [.ref ms, .int 0, .ref ju, .ref li, .ref ct, .ref tg, .ref fw]))] := hD
  have hl := lv_entry ([.ref ya]) (n := 1) (Nat.le_of_ble_eq_true rfl)
  rw [lg_entry_eq]
  generalize (lg_sl ([.ref ya]) ++ List.replicate (1 - (lg_sl ([.ref ya])).length) Slot.unset).toArray = ls at hl ⊢
  have hl : lv_has ls 1 [(0, .ref ya)] := hl
  have iWX11 : ∀ w ∈ u_ws RX11 TX11 7, w ∈ wsX11_demandRoom := by decide +kernel
  refine lv_aload_n hx hb dX11_demandRoom_0 rfl (lv_at hl 0 rfl) ?_
  refine va_get (D := (dC, dI)) (ci := 16) (v := .int 0) (C := RX11) (T := TX11) (N := 7) hx hb hts iWX11 hown hK hP 0 rfl rfl 1 (by decide) (hts (.fieldLink RX11 15 "Beaverhall" "machineCount" "I") (by decide +kernel)) (fun _ h9 => h9) rfl dX11_demandRoom_1 ?_
  refine lv_bipush (v := 16) hx hb dX11_demandRoom_4 (by decide) ?_
  refine lv_icmp_lt (tgt := 17) hx hb dX11_demandRoom_6 (by decide) (fun c6_1 => ?_) (fun c6_1 => ?_)
  · have hP9 := hP.sub (ws' := [(ya, .inr (16, [.ref ms, .int 0, .ref ju, .ref li, .ref ct, .ref tg, .ref fw]))]) [0] rfl
    have hD9 := hD.sub (ws' := [(ya, .inr (16, [.ref ms, .int 0, .ref ju, .ref li, .ref ct, .ref tg, .ref fw]))]) [0] (by decide) rfl
    have hK9 := hK.sub (tys' := []) [] rfl
    exact W.vret hx hb hr (fun t ht hW => ⟨⟨(), rfl, trivial, ⟨by rw [ht]; exact hP9, va_K.moved hW.alike hK9, hD9⟩⟩, hS.F ht⟩) hS.2.2 dX11_demandRoom_17
  · exact (c6_1 (by decide)).elim

set_option maxHeartbeats 4000000 in
set_option maxRecDepth 100000 in
/-- X0_add -/
theorem c_X0_add (l : Launch) (dC : Nat → ClassId) (dI : Nat → Nat → Nat) (cI : ClassId) (ct cr cu cg cp co : Nat) (f1 f2 f3 f4 : Nat → Int32) (up t0 pl ot : Int32) (sz : Nat) : Met l yX0_add wsX0_add ({ frames := 1, cells := 0, slots := 0, locals := 27 }) (va_Pc [.ref ct, .int up, .int t0, .int pl, .int ot] (cPC dC dI [(ct, .inr (5, [.int 0, .ref cr, .ref cu, .ref cg, .ref cp, .ref co])), (cu, .inl (cI, 12, .inl f1)), (cg, .inl (cI, 12, .inl f2)), (cp, .inl (cI, 12, .inl f3)), (co, .inl (cI, 12, .inl f4))] [(cI, .int)] sz)) (va_Qv (fun (u : Unit) => True) (fun (u : Unit) t => cQB dC dI [(ct, .inr (5, [.int 1, .ref cr, .ref cu, .ref cg, .ref cp, .ref co]))] [(cI, .int)] (va_A [(ct, .inr (5, [.int 0, .ref cr, .ref cu, .ref cg, .ref cp, .ref co])), (cu, .inl (cI, 12, .inl f1)), (cg, .inl (cI, 12, .inl f2)), (cp, .inl (cI, 12, .inl f3)), (co, .inl (cI, 12, .inl f4))] sz) t) (va_A [(ct, .inr (5, [.int 0, .ref cr, .ref cu, .ref cg, .ref cp, .ref co])), (cu, .inl (cI, 12, .inl f1)), (cg, .inl (cI, 12, .inl f2)), (cp, .inl (cI, 12, .inl f3)), (co, .inl (cI, 12, .inl f4))] sz)) 0 0 (va_A [(ct, .inr (5, [.int 0, .ref cr, .ref cu, .ref cg, .ref cp, .ref co])), (cu, .inl (cI, 12, .inl f1)), (cg, .inl (cI, 12, .inl f2)), (cp, .inl (cI, 12, .inl f3)), (co, .inl (cI, 12, .inl f4))] sz) := by
  refine Met.ofW (cc := cX0_add) (maxL := 5) (ret := none) (by decide) rfl ?_
  intro p e s m args below meth c s₁ B hml hv
  obtain ⟨rfl, hsz, hP, hK, hD0, hN⟩ := hv
  have hx := B.exec
  have hb := B.bytes
  have hr := B.returns
  have hts := atoms_spec (ws := wsX0_add) B.pre
  have hown : s.vm.findClass RX0 = some m.cls := findClass_of_methodNamed B.named
  have hlocks := B.notSynchronized
  subst hsz
  have hD := hD0.self (sz := s.heap.size)
  generalize hAe : va_A [(ct, .inr (5, [.int 0, .ref cr, .ref cu, .ref cg, .ref cp, .ref co])), (cu, .inl (cI, 12, .inl f1)), (cg, .inl (cI, 12, .inl f2)), (cp, .inl (cI, 12, .inl f3)), (co, .inl (cI, 12, .inl f4))] s.heap.size = A at hD ⊢
  have hA : ∀ q : Nat, s.heap.size ≤ q → A q := fun q h => by rw [← hAe]; exact Or.inr h
  have hS : va_S A s.heap s.heap [] := va_S.rf
  have hP : va_P (dC, dI) vwCl [(ct, .inr (5, [.int 0, .ref cr, .ref cu, .ref cg, .ref cp, .ref co])), (cu, .inl (cI, 12, .inl f1)), (cg, .inl (cI, 12, .inl f2)), (cp, .inl (cI, 12, .inl f3)), (co, .inl (cI, 12, .inl f4))] s.heap := hP
  have hD : va_D A [(ct, .inr (5, [.int 0, .ref cr, .ref cu, .ref cg, .ref cp, .ref co])), (cu, .inl (cI, 12, .inl f1)), (cg, .inl (cI, 12, .inl f2)), (cp, .inl (cI, 12, .inl f3)), (co, .inl (cI, 12, .inl f4))] := hD
  have hl := lv_entry ([.ref ct, .int up, .int t0, .int pl, .int ot]) (n := 5) (Nat.le_of_ble_eq_true rfl)
  rw [lg_entry_eq]
  generalize (lg_sl ([.ref ct, .int up, .int t0, .int pl, .int ot]) ++ List.replicate (5 - (lg_sl ([.ref ct, .int up, .int t0, .int pl, .int ot])).length) Slot.unset).toArray = ls at hl ⊢
  have hl : lv_has ls 5 [(0, .ref ct), (1, .int up), (2, .int t0), (3, .int pl), (4, .int ot)] := hl
  have iWX0 : ∀ w ∈ u_ws RX0 TX0 6, w ∈ wsX0_add := by decide +kernel
  refine lv_aload_n hx hb dX0_add_0 rfl (lv_at hl 0 rfl) ?_
  refine va_get (D := (dC, dI)) (ci := 5) (v := .ref cu) (C := RX0) (T := TX0) (N := 6) hx hb hts iWX0 hown hK hP 0 rfl rfl 2 (by decide) (hts (.fieldLink RX0 17 "Beaverhall$Counters" "ups" "[I") (by decide +kernel)) (fun _ h9 => h9) rfl dX0_add_1 ?_
  refine lv_aload_n hx hb dX0_add_4 rfl (lv_at hl 0 rfl) ?_
  refine va_get (D := (dC, dI)) (ci := 5) (v := .int 0) (C := RX0) (T := TX0) (N := 6) hx hb hts iWX0 hown hK hP 0 rfl rfl 0 (by decide) (hts (.fieldLink RX0 7 "Beaverhall$Counters" "size" "I") (by decide +kernel)) (fun _ h9 => h9) rfl dX0_add_5 ?_
  refine lv_iload_n hx hb dX0_add_8 rfl (lv_at hl 1 rfl) ?_
  refine lv_if_eq (tgt := 16) hx hb dX0_add_9 (by decide) (fun c9_1 => ?_) (fun c9_1 => ?_)
  · refine lv_iconst (v := 0) hx hb dX0_add_16 (by decide) ?_
    have hPc := hP.sub (ws' := [(cu, .inl (cI, 12, .inl f1))]) [1] rfl
    have hDc := hD.sub (ws' := [(cu, .inl (cI, 12, .inl f1))]) [1] (by decide) rfl
    have hKc := hK.sub (tys' := [(cI, .int)]) [0] rfl
    have hFc := va_free (wc := [(cu, .inl (cI, 12, .inl f1))]) hD hS hA [1] rfl
    refine va_callv (va_runSN (As := [.ref cu, .int 0, .int 0]) (rest := []) ⟨hx, hb, hml, hown, hts⟩ (c_X11_put l dC dI cI cu 12 f1 0 0 (by decide) s.heap.size) ⟨va_cnB 3 hts gX0_add_X11_put_n29 rfl rfl rfl (hN (.methodLinkNest RX0 29 yX11_put "Beaverhall") (by decide +kernel)) (hts (.initialized RX11) (by decide +kernel)) (by decide +kernel) ⟨Nat.le_of_ble_eq_true rfl, Nat.le_of_ble_eq_true rfl⟩, hts (.static yX11_put) (by decide +kernel), trivial⟩ (pcS hPc hDc hKc hN) rfl rfl hl.1 rfl (lv_room (Nat.le_of_ble_eq_true rfl)) dX0_add_17 ⟨Nat.le_of_ble_eq_true rfl, Nat.le_of_ble_eq_true rfl⟩) hS (fun q _ h => hFc q h) hFc (fun u t H1 locs ht hvm hw_2 hB hz1 hk1 hS => ?_)
    obtain ⟨hP1, hK1, hD1⟩ := hB
    rw [ht] at hP1
    try dsimp only at hw_2
    obtain ⟨hP, hD⟩ := va_join (wr := [(ct, .inr (5, [.int 0, .ref cr, .ref cu, .ref cg, .ref cp, .ref co])), (cg, .inl (cI, 12, .inl f2)), (cp, .inl (cI, 12, .inl f3)), (co, .inl (cI, 12, .inl f4))]) (w1 := [(cu, .inl (cI, 12, .inl u))]) hP hD [1] [0, 2, 3, 4] rfl rfl (by decide) (by decide) hk1 hFc hP1 hD1
    generalize H1 = H at hP hS ⊢
    have hP : va_P (dC, dI) vwCl [(ct, .inr (5, [.int 0, .ref cr, .ref cu, .ref cg, .ref cp, .ref co])), (cg, .inl (cI, 12, .inl f2)), (cp, .inl (cI, 12, .inl f3)), (co, .inl (cI, 12, .inl f4)), (cu, .inl (cI, 12, .inl u))] H := hP
    have hD : va_D A [(ct, .inr (5, [.int 0, .ref cr, .ref cu, .ref cg, .ref cp, .ref co])), (cg, .inl (cI, 12, .inl f2)), (cp, .inl (cI, 12, .inl f3)), (co, .inl (cI, 12, .inl f4)), (cu, .inl (cI, 12, .inl u))] := hD
    obtain ⟨f_3, ef_3⟩ : ∃ z, z = u := ⟨_, rfl⟩
    subst ef_3
    refine lv_aload_n hx hb dX0_add_20 rfl (lv_at hl 0 rfl) ?_
    refine va_get (D := (dC, dI)) (ci := 5) (v := .ref cg) (C := RX0) (T := TX0) (N := 6) hx hb hts iWX0 hown hK hP 0 rfl rfl 3 (by decide) (hts (.fieldLink RX0 20 "Beaverhall$Counters" "targets" "[I") (by decide +kernel)) (fun _ h9 => h9) rfl dX0_add_21 ?_
    refine lv_aload_n hx hb dX0_add_24 rfl (lv_at hl 0 rfl) ?_
    refine va_get (D := (dC, dI)) (ci := 5) (v := .int 0) (C := RX0) (T := TX0) (N := 6) hx hb hts iWX0 hown hK hP 0 rfl rfl 0 (by decide) (hts (.fieldLink RX0 7 "Beaverhall$Counters" "size" "I") (by decide +kernel)) (fun _ h9 => h9) rfl dX0_add_25 ?_
    refine lv_iload_n hx hb dX0_add_28 rfl (lv_at hl 2 rfl) ?_
    have hPc := hP.sub (ws' := [(cg, .inl (cI, 12, .inl f2))]) [1] rfl
    have hDc := hD.sub (ws' := [(cg, .inl (cI, 12, .inl f2))]) [1] (by decide) rfl
    have hKc := hK.sub (tys' := [(cI, .int)]) [0] rfl
    have hFc := va_free (wc := [(cg, .inl (cI, 12, .inl f2))]) hD hS hA [1] rfl
    refine va_callv (va_runSN (As := [.ref cg, .int 0, .int t0]) (rest := []) ⟨hx, hb, hml, hown, hts⟩ (c_X11_put l dC dI cI cg 12 f2 0 t0 (by decide) H.size) ⟨va_cnB 3 hts gX0_add_X11_put_n29 rfl rfl rfl (hN (.methodLinkNest RX0 29 yX11_put "Beaverhall") (by decide +kernel)) (hts (.initialized RX11) (by decide +kernel)) (by decide +kernel) ⟨Nat.le_of_ble_eq_true rfl, Nat.le_of_ble_eq_true rfl⟩, hts (.static yX11_put) (by decide +kernel), trivial⟩ (pcS hPc hDc hKc hN) rfl rfl hl.1 rfl (lv_room (Nat.le_of_ble_eq_true rfl)) dX0_add_29 ⟨Nat.le_of_ble_eq_true rfl, Nat.le_of_ble_eq_true rfl⟩) hS (fun q _ h => hFc q h) hFc (fun u t H1 locs ht hvm hw_4 hB hz1 hk1 hS => ?_)
    obtain ⟨hP1, hK1, hD1⟩ := hB
    rw [ht] at hP1
    try dsimp only at hw_4
    obtain ⟨hP, hD⟩ := va_join (wr := [(ct, .inr (5, [.int 0, .ref cr, .ref cu, .ref cg, .ref cp, .ref co])), (cp, .inl (cI, 12, .inl f3)), (co, .inl (cI, 12, .inl f4)), (cu, .inl (cI, 12, .inl f_3))]) (w1 := [(cg, .inl (cI, 12, .inl u))]) hP hD [1] [0, 2, 3, 4] rfl rfl (by decide) (by decide) hk1 hFc hP1 hD1
    generalize H1 = H at hP hS ⊢
    have hP : va_P (dC, dI) vwCl [(ct, .inr (5, [.int 0, .ref cr, .ref cu, .ref cg, .ref cp, .ref co])), (cp, .inl (cI, 12, .inl f3)), (co, .inl (cI, 12, .inl f4)), (cu, .inl (cI, 12, .inl f_3)), (cg, .inl (cI, 12, .inl u))] H := hP
    have hD : va_D A [(ct, .inr (5, [.int 0, .ref cr, .ref cu, .ref cg, .ref cp, .ref co])), (cp, .inl (cI, 12, .inl f3)), (co, .inl (cI, 12, .inl f4)), (cu, .inl (cI, 12, .inl f_3)), (cg, .inl (cI, 12, .inl u))] := hD
    obtain ⟨f_5, ef_5⟩ : ∃ z, z = u := ⟨_, rfl⟩
    subst ef_5
    refine lv_aload_n hx hb dX0_add_32 rfl (lv_at hl 0 rfl) ?_
    refine va_get (D := (dC, dI)) (ci := 5) (v := .ref cp) (C := RX0) (T := TX0) (N := 6) hx hb hts iWX0 hown hK hP 0 rfl rfl 4 (by decide) (hts (.fieldLink RX0 23 "Beaverhall$Counters" "places" "[I") (by decide +kernel)) (fun _ h9 => h9) rfl dX0_add_33 ?_
    refine lv_aload_n hx hb dX0_add_36 rfl (lv_at hl 0 rfl) ?_
    refine va_get (D := (dC, dI)) (ci := 5) (v := .int 0) (C := RX0) (T := TX0) (N := 6) hx hb hts iWX0 hown hK hP 0 rfl rfl 0 (by decide) (hts (.fieldLink RX0 7 "Beaverhall$Counters" "size" "I") (by decide +kernel)) (fun _ h9 => h9) rfl dX0_add_37 ?_
    refine lv_iload_n hx hb dX0_add_40 rfl (lv_at hl 3 rfl) ?_
    have hPc := hP.sub (ws' := [(cp, .inl (cI, 12, .inl f3))]) [1] rfl
    have hDc := hD.sub (ws' := [(cp, .inl (cI, 12, .inl f3))]) [1] (by decide) rfl
    have hKc := hK.sub (tys' := [(cI, .int)]) [0] rfl
    have hFc := va_free (wc := [(cp, .inl (cI, 12, .inl f3))]) hD hS hA [1] rfl
    refine va_callv (va_runSN (As := [.ref cp, .int 0, .int pl]) (rest := []) ⟨hx, hb, hml, hown, hts⟩ (c_X11_put l dC dI cI cp 12 f3 0 pl (by decide) H.size) ⟨va_cnB 3 hts gX0_add_X11_put_n29 rfl rfl rfl (hN (.methodLinkNest RX0 29 yX11_put "Beaverhall") (by decide +kernel)) (hts (.initialized RX11) (by decide +kernel)) (by decide +kernel) ⟨Nat.le_of_ble_eq_true rfl, Nat.le_of_ble_eq_true rfl⟩, hts (.static yX11_put) (by decide +kernel), trivial⟩ (pcS hPc hDc hKc hN) rfl rfl hl.1 rfl (lv_room (Nat.le_of_ble_eq_true rfl)) dX0_add_41 ⟨Nat.le_of_ble_eq_true rfl, Nat.le_of_ble_eq_true rfl⟩) hS (fun q _ h => hFc q h) hFc (fun u t H1 locs ht hvm hw_6 hB hz1 hk1 hS => ?_)
    obtain ⟨hP1, hK1, hD1⟩ := hB
    rw [ht] at hP1
    try dsimp only at hw_6
    obtain ⟨hP, hD⟩ := va_join (wr := [(ct, .inr (5, [.int 0, .ref cr, .ref cu, .ref cg, .ref cp, .ref co])), (co, .inl (cI, 12, .inl f4)), (cu, .inl (cI, 12, .inl f_3)), (cg, .inl (cI, 12, .inl f_5))]) (w1 := [(cp, .inl (cI, 12, .inl u))]) hP hD [1] [0, 2, 3, 4] rfl rfl (by decide) (by decide) hk1 hFc hP1 hD1
    generalize H1 = H at hP hS ⊢
    have hP : va_P (dC, dI) vwCl [(ct, .inr (5, [.int 0, .ref cr, .ref cu, .ref cg, .ref cp, .ref co])), (co, .inl (cI, 12, .inl f4)), (cu, .inl (cI, 12, .inl f_3)), (cg, .inl (cI, 12, .inl f_5)), (cp, .inl (cI, 12, .inl u))] H := hP
    have hD : va_D A [(ct, .inr (5, [.int 0, .ref cr, .ref cu, .ref cg, .ref cp, .ref co])), (co, .inl (cI, 12, .inl f4)), (cu, .inl (cI, 12, .inl f_3)), (cg, .inl (cI, 12, .inl f_5)), (cp, .inl (cI, 12, .inl u))] := hD
    obtain ⟨f_7, ef_7⟩ : ∃ z, z = u := ⟨_, rfl⟩
    subst ef_7
    refine lv_aload_n hx hb dX0_add_44 rfl (lv_at hl 0 rfl) ?_
    refine va_get (D := (dC, dI)) (ci := 5) (v := .ref co) (C := RX0) (T := TX0) (N := 6) hx hb hts iWX0 hown hK hP 0 rfl rfl 5 (by decide) (hts (.fieldLink RX0 26 "Beaverhall$Counters" "others" "[I") (by decide +kernel)) (fun _ h9 => h9) rfl dX0_add_45 ?_
    refine lv_aload_n hx hb dX0_add_48 rfl (lv_at hl 0 rfl) ?_
    refine va_get (D := (dC, dI)) (ci := 5) (v := .int 0) (C := RX0) (T := TX0) (N := 6) hx hb hts iWX0 hown hK hP 0 rfl rfl 0 (by decide) (hts (.fieldLink RX0 7 "Beaverhall$Counters" "size" "I") (by decide +kernel)) (fun _ h9 => h9) rfl dX0_add_49 ?_
    refine lv_iload hx hb dX0_add_52 (lv_at hl 4 rfl) ?_
    have hPc := hP.sub (ws' := [(co, .inl (cI, 12, .inl f4))]) [1] rfl
    have hDc := hD.sub (ws' := [(co, .inl (cI, 12, .inl f4))]) [1] (by decide) rfl
    have hKc := hK.sub (tys' := [(cI, .int)]) [0] rfl
    have hFc := va_free (wc := [(co, .inl (cI, 12, .inl f4))]) hD hS hA [1] rfl
    refine va_callv (va_runSN (As := [.ref co, .int 0, .int ot]) (rest := []) ⟨hx, hb, hml, hown, hts⟩ (c_X11_put l dC dI cI co 12 f4 0 ot (by decide) H.size) ⟨va_cnB 3 hts gX0_add_X11_put_n29 rfl rfl rfl (hN (.methodLinkNest RX0 29 yX11_put "Beaverhall") (by decide +kernel)) (hts (.initialized RX11) (by decide +kernel)) (by decide +kernel) ⟨Nat.le_of_ble_eq_true rfl, Nat.le_of_ble_eq_true rfl⟩, hts (.static yX11_put) (by decide +kernel), trivial⟩ (pcS hPc hDc hKc hN) rfl rfl hl.1 rfl (lv_room (Nat.le_of_ble_eq_true rfl)) dX0_add_54 ⟨Nat.le_of_ble_eq_true rfl, Nat.le_of_ble_eq_true rfl⟩) hS (fun q _ h => hFc q h) hFc (fun u t H1 locs ht hvm hw_8 hB hz1 hk1 hS => ?_)
    obtain ⟨hP1, hK1, hD1⟩ := hB
    rw [ht] at hP1
    try dsimp only at hw_8
    obtain ⟨hP, hD⟩ := va_join (wr := [(ct, .inr (5, [.int 0, .ref cr, .ref cu, .ref cg, .ref cp, .ref co])), (cu, .inl (cI, 12, .inl f_3)), (cg, .inl (cI, 12, .inl f_5)), (cp, .inl (cI, 12, .inl f_7))]) (w1 := [(co, .inl (cI, 12, .inl u))]) hP hD [1] [0, 2, 3, 4] rfl rfl (by decide) (by decide) hk1 hFc hP1 hD1
    generalize H1 = H at hP hS ⊢
    have hP : va_P (dC, dI) vwCl [(ct, .inr (5, [.int 0, .ref cr, .ref cu, .ref cg, .ref cp, .ref co])), (cu, .inl (cI, 12, .inl f_3)), (cg, .inl (cI, 12, .inl f_5)), (cp, .inl (cI, 12, .inl f_7)), (co, .inl (cI, 12, .inl u))] H := hP
    have hD : va_D A [(ct, .inr (5, [.int 0, .ref cr, .ref cu, .ref cg, .ref cp, .ref co])), (cu, .inl (cI, 12, .inl f_3)), (cg, .inl (cI, 12, .inl f_5)), (cp, .inl (cI, 12, .inl f_7)), (co, .inl (cI, 12, .inl u))] := hD
    obtain ⟨f_9, ef_9⟩ : ∃ z, z = u := ⟨_, rfl⟩
    subst ef_9
    refine lv_aload_n hx hb dX0_add_57 rfl (lv_at hl 0 rfl) ?_
    refine lv_aload_n hx hb dX0_add_58 rfl (lv_at hl 0 rfl) ?_
    refine va_get (D := (dC, dI)) (ci := 5) (v := .int 0) (C := RX0) (T := TX0) (N := 6) hx hb hts iWX0 hown hK hP 0 rfl rfl 0 (by decide) (hts (.fieldLink RX0 7 "Beaverhall$Counters" "size" "I") (by decide +kernel)) (fun _ h9 => h9) rfl dX0_add_59 ?_
    refine lv_iconst (v := 1) hx hb dX0_add_62 (by decide) ?_
    refine lv_iadd hx hb dX0_add_63 ?_
    refine lv_bipush (v := 12) hx hb dX0_add_64 (by decide) ?_
    refine va_mmin hx hb (hml.trans hl.1.symm) hown (hts (.methodLink RX0 35 Lib.Math.min.name) (by decide +kernel)) (hts (.static Lib.Math.min.name) (by decide +kernel)) (hts (.initialized "java/lang/Math") (by decide +kernel)) (hts (.code Lib.Math.min.name Lib.Math.min.code 2 (some .int)) (by decide +kernel)) (Nat.le_of_ble_eq_true rfl) (Nat.le_of_ble_eq_true rfl) (Nat.le_of_ble_eq_true rfl) (Nat.le_of_ble_eq_true rfl) dX0_add_66 ?_
    refine lv_topi (fun x_10 ex_10 => ?_)
    have ex_10 : x_10 = iminJ ((0 : Int32) + 1) 12 := ex_10
    obtain rfl : x_10 = 1 := by rw [ex_10]; decide
    refine va_put (D := (dC, dI)) (ci := 5) (v := .int 1) (ty := .int) (C := RX0) (T := TX0) (N := 6) hx hb hts iWX0 tyX0 tyX0_ok nmX0 hown hK hP hD hS 0 rfl rfl 0 (by decide) (hts (.fieldLink RX0 7 "Beaverhall$Counters" "size" "I") (by decide +kernel)) (fun _ h9 => h9) rfl (by decide +kernel) rfl rfl (Nat.le_of_ble_eq_true rfl) dX0_add_69 (fun H locs hP hD hS => ?_)
    have hP : va_P (dC, dI) vwCl [(ct, .inr (5, [.int 1, .ref cr, .ref cu, .ref cg, .ref cp, .ref co])), (cu, .inl (cI, 12, .inl f_3)), (cg, .inl (cI, 12, .inl f_5)), (cp, .inl (cI, 12, .inl f_7)), (co, .inl (cI, 12, .inl f_9))] H := hP
    have hD : va_D A [(ct, .inr (5, [.int 1, .ref cr, .ref cu, .ref cg, .ref cp, .ref co])), (cu, .inl (cI, 12, .inl f_3)), (cg, .inl (cI, 12, .inl f_5)), (cp, .inl (cI, 12, .inl f_7)), (co, .inl (cI, 12, .inl f_9))] := hD
    have hP9 := hP.sub (ws' := [(ct, .inr (5, [.int 1, .ref cr, .ref cu, .ref cg, .ref cp, .ref co]))]) [0] rfl
    have hD9 := hD.sub (ws' := [(ct, .inr (5, [.int 1, .ref cr, .ref cu, .ref cg, .ref cp, .ref co]))]) [0] (by decide) rfl
    have hK9 := hK.sub (tys' := [(cI, .int)]) [0] rfl
    exact W.vret hx hb hr (fun t ht hW => ⟨⟨(), rfl, trivial, ⟨by rw [ht]; exact hP9, va_K.moved hW.alike hK9, hD9⟩⟩, hS.F ht⟩) hS.2.2 dX0_add_72
  · refine lv_iconst (v := 1) hx hb dX0_add_12 (by decide) ?_
    refine lv_goto (tgt := 17) hx hb dX0_add_13 (by decide) ?_
    have hPc := hP.sub (ws' := [(cu, .inl (cI, 12, .inl f1))]) [1] rfl
    have hDc := hD.sub (ws' := [(cu, .inl (cI, 12, .inl f1))]) [1] (by decide) rfl
    have hKc := hK.sub (tys' := [(cI, .int)]) [0] rfl
    have hFc := va_free (wc := [(cu, .inl (cI, 12, .inl f1))]) hD hS hA [1] rfl
    refine va_callv (va_runSN (As := [.ref cu, .int 0, .int 1]) (rest := []) ⟨hx, hb, hml, hown, hts⟩ (c_X11_put l dC dI cI cu 12 f1 0 1 (by decide) s.heap.size) ⟨va_cnB 3 hts gX0_add_X11_put_n29 rfl rfl rfl (hN (.methodLinkNest RX0 29 yX11_put "Beaverhall") (by decide +kernel)) (hts (.initialized RX11) (by decide +kernel)) (by decide +kernel) ⟨Nat.le_of_ble_eq_true rfl, Nat.le_of_ble_eq_true rfl⟩, hts (.static yX11_put) (by decide +kernel), trivial⟩ (pcS hPc hDc hKc hN) rfl rfl hl.1 rfl (lv_room (Nat.le_of_ble_eq_true rfl)) dX0_add_17 ⟨Nat.le_of_ble_eq_true rfl, Nat.le_of_ble_eq_true rfl⟩) hS (fun q _ h => hFc q h) hFc (fun u t H1 locs ht hvm hw_11 hB hz1 hk1 hS => ?_)
    obtain ⟨hP1, hK1, hD1⟩ := hB
    rw [ht] at hP1
    try dsimp only at hw_11
    obtain ⟨hP, hD⟩ := va_join (wr := [(ct, .inr (5, [.int 0, .ref cr, .ref cu, .ref cg, .ref cp, .ref co])), (cg, .inl (cI, 12, .inl f2)), (cp, .inl (cI, 12, .inl f3)), (co, .inl (cI, 12, .inl f4))]) (w1 := [(cu, .inl (cI, 12, .inl u))]) hP hD [1] [0, 2, 3, 4] rfl rfl (by decide) (by decide) hk1 hFc hP1 hD1
    generalize H1 = H at hP hS ⊢
    have hP : va_P (dC, dI) vwCl [(ct, .inr (5, [.int 0, .ref cr, .ref cu, .ref cg, .ref cp, .ref co])), (cg, .inl (cI, 12, .inl f2)), (cp, .inl (cI, 12, .inl f3)), (co, .inl (cI, 12, .inl f4)), (cu, .inl (cI, 12, .inl u))] H := hP
    have hD : va_D A [(ct, .inr (5, [.int 0, .ref cr, .ref cu, .ref cg, .ref cp, .ref co])), (cg, .inl (cI, 12, .inl f2)), (cp, .inl (cI, 12, .inl f3)), (co, .inl (cI, 12, .inl f4)), (cu, .inl (cI, 12, .inl u))] := hD
    obtain ⟨f_12, ef_12⟩ : ∃ z, z = u := ⟨_, rfl⟩
    subst ef_12
    refine lv_aload_n hx hb dX0_add_20 rfl (lv_at hl 0 rfl) ?_
    refine va_get (D := (dC, dI)) (ci := 5) (v := .ref cg) (C := RX0) (T := TX0) (N := 6) hx hb hts iWX0 hown hK hP 0 rfl rfl 3 (by decide) (hts (.fieldLink RX0 20 "Beaverhall$Counters" "targets" "[I") (by decide +kernel)) (fun _ h9 => h9) rfl dX0_add_21 ?_
    refine lv_aload_n hx hb dX0_add_24 rfl (lv_at hl 0 rfl) ?_
    refine va_get (D := (dC, dI)) (ci := 5) (v := .int 0) (C := RX0) (T := TX0) (N := 6) hx hb hts iWX0 hown hK hP 0 rfl rfl 0 (by decide) (hts (.fieldLink RX0 7 "Beaverhall$Counters" "size" "I") (by decide +kernel)) (fun _ h9 => h9) rfl dX0_add_25 ?_
    refine lv_iload_n hx hb dX0_add_28 rfl (lv_at hl 2 rfl) ?_
    have hPc := hP.sub (ws' := [(cg, .inl (cI, 12, .inl f2))]) [1] rfl
    have hDc := hD.sub (ws' := [(cg, .inl (cI, 12, .inl f2))]) [1] (by decide) rfl
    have hKc := hK.sub (tys' := [(cI, .int)]) [0] rfl
    have hFc := va_free (wc := [(cg, .inl (cI, 12, .inl f2))]) hD hS hA [1] rfl
    refine va_callv (va_runSN (As := [.ref cg, .int 0, .int t0]) (rest := []) ⟨hx, hb, hml, hown, hts⟩ (c_X11_put l dC dI cI cg 12 f2 0 t0 (by decide) H.size) ⟨va_cnB 3 hts gX0_add_X11_put_n29 rfl rfl rfl (hN (.methodLinkNest RX0 29 yX11_put "Beaverhall") (by decide +kernel)) (hts (.initialized RX11) (by decide +kernel)) (by decide +kernel) ⟨Nat.le_of_ble_eq_true rfl, Nat.le_of_ble_eq_true rfl⟩, hts (.static yX11_put) (by decide +kernel), trivial⟩ (pcS hPc hDc hKc hN) rfl rfl hl.1 rfl (lv_room (Nat.le_of_ble_eq_true rfl)) dX0_add_29 ⟨Nat.le_of_ble_eq_true rfl, Nat.le_of_ble_eq_true rfl⟩) hS (fun q _ h => hFc q h) hFc (fun u t H1 locs ht hvm hw_13 hB hz1 hk1 hS => ?_)
    obtain ⟨hP1, hK1, hD1⟩ := hB
    rw [ht] at hP1
    try dsimp only at hw_13
    obtain ⟨hP, hD⟩ := va_join (wr := [(ct, .inr (5, [.int 0, .ref cr, .ref cu, .ref cg, .ref cp, .ref co])), (cp, .inl (cI, 12, .inl f3)), (co, .inl (cI, 12, .inl f4)), (cu, .inl (cI, 12, .inl f_12))]) (w1 := [(cg, .inl (cI, 12, .inl u))]) hP hD [1] [0, 2, 3, 4] rfl rfl (by decide) (by decide) hk1 hFc hP1 hD1
    generalize H1 = H at hP hS ⊢
    have hP : va_P (dC, dI) vwCl [(ct, .inr (5, [.int 0, .ref cr, .ref cu, .ref cg, .ref cp, .ref co])), (cp, .inl (cI, 12, .inl f3)), (co, .inl (cI, 12, .inl f4)), (cu, .inl (cI, 12, .inl f_12)), (cg, .inl (cI, 12, .inl u))] H := hP
    have hD : va_D A [(ct, .inr (5, [.int 0, .ref cr, .ref cu, .ref cg, .ref cp, .ref co])), (cp, .inl (cI, 12, .inl f3)), (co, .inl (cI, 12, .inl f4)), (cu, .inl (cI, 12, .inl f_12)), (cg, .inl (cI, 12, .inl u))] := hD
    obtain ⟨f_14, ef_14⟩ : ∃ z, z = u := ⟨_, rfl⟩
    subst ef_14
    refine lv_aload_n hx hb dX0_add_32 rfl (lv_at hl 0 rfl) ?_
    refine va_get (D := (dC, dI)) (ci := 5) (v := .ref cp) (C := RX0) (T := TX0) (N := 6) hx hb hts iWX0 hown hK hP 0 rfl rfl 4 (by decide) (hts (.fieldLink RX0 23 "Beaverhall$Counters" "places" "[I") (by decide +kernel)) (fun _ h9 => h9) rfl dX0_add_33 ?_
    refine lv_aload_n hx hb dX0_add_36 rfl (lv_at hl 0 rfl) ?_
    refine va_get (D := (dC, dI)) (ci := 5) (v := .int 0) (C := RX0) (T := TX0) (N := 6) hx hb hts iWX0 hown hK hP 0 rfl rfl 0 (by decide) (hts (.fieldLink RX0 7 "Beaverhall$Counters" "size" "I") (by decide +kernel)) (fun _ h9 => h9) rfl dX0_add_37 ?_
    refine lv_iload_n hx hb dX0_add_40 rfl (lv_at hl 3 rfl) ?_
    have hPc := hP.sub (ws' := [(cp, .inl (cI, 12, .inl f3))]) [1] rfl
    have hDc := hD.sub (ws' := [(cp, .inl (cI, 12, .inl f3))]) [1] (by decide) rfl
    have hKc := hK.sub (tys' := [(cI, .int)]) [0] rfl
    have hFc := va_free (wc := [(cp, .inl (cI, 12, .inl f3))]) hD hS hA [1] rfl
    refine va_callv (va_runSN (As := [.ref cp, .int 0, .int pl]) (rest := []) ⟨hx, hb, hml, hown, hts⟩ (c_X11_put l dC dI cI cp 12 f3 0 pl (by decide) H.size) ⟨va_cnB 3 hts gX0_add_X11_put_n29 rfl rfl rfl (hN (.methodLinkNest RX0 29 yX11_put "Beaverhall") (by decide +kernel)) (hts (.initialized RX11) (by decide +kernel)) (by decide +kernel) ⟨Nat.le_of_ble_eq_true rfl, Nat.le_of_ble_eq_true rfl⟩, hts (.static yX11_put) (by decide +kernel), trivial⟩ (pcS hPc hDc hKc hN) rfl rfl hl.1 rfl (lv_room (Nat.le_of_ble_eq_true rfl)) dX0_add_41 ⟨Nat.le_of_ble_eq_true rfl, Nat.le_of_ble_eq_true rfl⟩) hS (fun q _ h => hFc q h) hFc (fun u t H1 locs ht hvm hw_15 hB hz1 hk1 hS => ?_)
    obtain ⟨hP1, hK1, hD1⟩ := hB
    rw [ht] at hP1
    try dsimp only at hw_15
    obtain ⟨hP, hD⟩ := va_join (wr := [(ct, .inr (5, [.int 0, .ref cr, .ref cu, .ref cg, .ref cp, .ref co])), (co, .inl (cI, 12, .inl f4)), (cu, .inl (cI, 12, .inl f_12)), (cg, .inl (cI, 12, .inl f_14))]) (w1 := [(cp, .inl (cI, 12, .inl u))]) hP hD [1] [0, 2, 3, 4] rfl rfl (by decide) (by decide) hk1 hFc hP1 hD1
    generalize H1 = H at hP hS ⊢
    have hP : va_P (dC, dI) vwCl [(ct, .inr (5, [.int 0, .ref cr, .ref cu, .ref cg, .ref cp, .ref co])), (co, .inl (cI, 12, .inl f4)), (cu, .inl (cI, 12, .inl f_12)), (cg, .inl (cI, 12, .inl f_14)), (cp, .inl (cI, 12, .inl u))] H := hP
    have hD : va_D A [(ct, .inr (5, [.int 0, .ref cr, .ref cu, .ref cg, .ref cp, .ref co])), (co, .inl (cI, 12, .inl f4)), (cu, .inl (cI, 12, .inl f_12)), (cg, .inl (cI, 12, .inl f_14)), (cp, .inl (cI, 12, .inl u))] := hD
    obtain ⟨f_16, ef_16⟩ : ∃ z, z = u := ⟨_, rfl⟩
    subst ef_16
    refine lv_aload_n hx hb dX0_add_44 rfl (lv_at hl 0 rfl) ?_
    refine va_get (D := (dC, dI)) (ci := 5) (v := .ref co) (C := RX0) (T := TX0) (N := 6) hx hb hts iWX0 hown hK hP 0 rfl rfl 5 (by decide) (hts (.fieldLink RX0 26 "Beaverhall$Counters" "others" "[I") (by decide +kernel)) (fun _ h9 => h9) rfl dX0_add_45 ?_
    refine lv_aload_n hx hb dX0_add_48 rfl (lv_at hl 0 rfl) ?_
    refine va_get (D := (dC, dI)) (ci := 5) (v := .int 0) (C := RX0) (T := TX0) (N := 6) hx hb hts iWX0 hown hK hP 0 rfl rfl 0 (by decide) (hts (.fieldLink RX0 7 "Beaverhall$Counters" "size" "I") (by decide +kernel)) (fun _ h9 => h9) rfl dX0_add_49 ?_
    refine lv_iload hx hb dX0_add_52 (lv_at hl 4 rfl) ?_
    have hPc := hP.sub (ws' := [(co, .inl (cI, 12, .inl f4))]) [1] rfl
    have hDc := hD.sub (ws' := [(co, .inl (cI, 12, .inl f4))]) [1] (by decide) rfl
    have hKc := hK.sub (tys' := [(cI, .int)]) [0] rfl
    have hFc := va_free (wc := [(co, .inl (cI, 12, .inl f4))]) hD hS hA [1] rfl
    refine va_callv (va_runSN (As := [.ref co, .int 0, .int ot]) (rest := []) ⟨hx, hb, hml, hown, hts⟩ (c_X11_put l dC dI cI co 12 f4 0 ot (by decide) H.size) ⟨va_cnB 3 hts gX0_add_X11_put_n29 rfl rfl rfl (hN (.methodLinkNest RX0 29 yX11_put "Beaverhall") (by decide +kernel)) (hts (.initialized RX11) (by decide +kernel)) (by decide +kernel) ⟨Nat.le_of_ble_eq_true rfl, Nat.le_of_ble_eq_true rfl⟩, hts (.static yX11_put) (by decide +kernel), trivial⟩ (pcS hPc hDc hKc hN) rfl rfl hl.1 rfl (lv_room (Nat.le_of_ble_eq_true rfl)) dX0_add_54 ⟨Nat.le_of_ble_eq_true rfl, Nat.le_of_ble_eq_true rfl⟩) hS (fun q _ h => hFc q h) hFc (fun u t H1 locs ht hvm hw_17 hB hz1 hk1 hS => ?_)
    obtain ⟨hP1, hK1, hD1⟩ := hB
    rw [ht] at hP1
    try dsimp only at hw_17
    obtain ⟨hP, hD⟩ := va_join (wr := [(ct, .inr (5, [.int 0, .ref cr, .ref cu, .ref cg, .ref cp, .ref co])), (cu, .inl (cI, 12, .inl f_12)), (cg, .inl (cI, 12, .inl f_14)), (cp, .inl (cI, 12, .inl f_16))]) (w1 := [(co, .inl (cI, 12, .inl u))]) hP hD [1] [0, 2, 3, 4] rfl rfl (by decide) (by decide) hk1 hFc hP1 hD1
    generalize H1 = H at hP hS ⊢
    have hP : va_P (dC, dI) vwCl [(ct, .inr (5, [.int 0, .ref cr, .ref cu, .ref cg, .ref cp, .ref co])), (cu, .inl (cI, 12, .inl f_12)), (cg, .inl (cI, 12, .inl f_14)), (cp, .inl (cI, 12, .inl f_16)), (co, .inl (cI, 12, .inl u))] H := hP
    have hD : va_D A [(ct, .inr (5, [.int 0, .ref cr, .ref cu, .ref cg, .ref cp, .ref co])), (cu, .inl (cI, 12, .inl f_12)), (cg, .inl (cI, 12, .inl f_14)), (cp, .inl (cI, 12, .inl f_16)), (co, .inl (cI, 12, .inl u))] := hD
    obtain ⟨f_18, ef_18⟩ : ∃ z, z = u := ⟨_, rfl⟩
    subst ef_18
    refine lv_aload_n hx hb dX0_add_57 rfl (lv_at hl 0 rfl) ?_
    refine lv_aload_n hx hb dX0_add_58 rfl (lv_at hl 0 rfl) ?_
    refine va_get (D := (dC, dI)) (ci := 5) (v := .int 0) (C := RX0) (T := TX0) (N := 6) hx hb hts iWX0 hown hK hP 0 rfl rfl 0 (by decide) (hts (.fieldLink RX0 7 "Beaverhall$Counters" "size" "I") (by decide +kernel)) (fun _ h9 => h9) rfl dX0_add_59 ?_
    refine lv_iconst (v := 1) hx hb dX0_add_62 (by decide) ?_
    refine lv_iadd hx hb dX0_add_63 ?_
    refine lv_bipush (v := 12) hx hb dX0_add_64 (by decide) ?_
    refine va_mmin hx hb (hml.trans hl.1.symm) hown (hts (.methodLink RX0 35 Lib.Math.min.name) (by decide +kernel)) (hts (.static Lib.Math.min.name) (by decide +kernel)) (hts (.initialized "java/lang/Math") (by decide +kernel)) (hts (.code Lib.Math.min.name Lib.Math.min.code 2 (some .int)) (by decide +kernel)) (Nat.le_of_ble_eq_true rfl) (Nat.le_of_ble_eq_true rfl) (Nat.le_of_ble_eq_true rfl) (Nat.le_of_ble_eq_true rfl) dX0_add_66 ?_
    refine lv_topi (fun x_19 ex_19 => ?_)
    have ex_19 : x_19 = iminJ ((0 : Int32) + 1) 12 := ex_19
    obtain rfl : x_19 = 1 := by rw [ex_19]; decide
    refine va_put (D := (dC, dI)) (ci := 5) (v := .int 1) (ty := .int) (C := RX0) (T := TX0) (N := 6) hx hb hts iWX0 tyX0 tyX0_ok nmX0 hown hK hP hD hS 0 rfl rfl 0 (by decide) (hts (.fieldLink RX0 7 "Beaverhall$Counters" "size" "I") (by decide +kernel)) (fun _ h9 => h9) rfl (by decide +kernel) rfl rfl (Nat.le_of_ble_eq_true rfl) dX0_add_69 (fun H locs hP hD hS => ?_)
    have hP : va_P (dC, dI) vwCl [(ct, .inr (5, [.int 1, .ref cr, .ref cu, .ref cg, .ref cp, .ref co])), (cu, .inl (cI, 12, .inl f_12)), (cg, .inl (cI, 12, .inl f_14)), (cp, .inl (cI, 12, .inl f_16)), (co, .inl (cI, 12, .inl f_18))] H := hP
    have hD : va_D A [(ct, .inr (5, [.int 1, .ref cr, .ref cu, .ref cg, .ref cp, .ref co])), (cu, .inl (cI, 12, .inl f_12)), (cg, .inl (cI, 12, .inl f_14)), (cp, .inl (cI, 12, .inl f_16)), (co, .inl (cI, 12, .inl f_18))] := hD
    have hP9 := hP.sub (ws' := [(ct, .inr (5, [.int 1, .ref cr, .ref cu, .ref cg, .ref cp, .ref co]))]) [0] rfl
    have hD9 := hD.sub (ws' := [(ct, .inr (5, [.int 1, .ref cr, .ref cu, .ref cg, .ref cp, .ref co]))]) [0] (by decide) rfl
    have hK9 := hK.sub (tys' := [(cI, .int)]) [0] rfl
    exact W.vret hx hb hr (fun t ht hW => ⟨⟨(), rfl, trivial, ⟨by rw [ht]; exact hP9, va_K.moved hW.alike hK9, hD9⟩⟩, hS.F ht⟩) hS.2.2 dX0_add_72

set_option maxHeartbeats 4000000 in
set_option maxRecDepth 100000 in
/-- X0_go -/
theorem c_X0_go (l : Launch) (dC : Nat → ClassId) (dI : Nat → Nat → Nat) (cI : ClassId) (ct cr cu cg cp co : Nat) (f1 : Nat → Int32) (n1 n2 k : Int32) (sz : Nat) : Met l yX0_go wsX0_go ({ frames := 1, cells := 0, slots := 0, locals := 23 }) (va_Pc [.ref ct, .int n1, .int n2, .int k] (cPC dC dI [(ct, .inr (5, [.int 0, .ref cr, .ref cu, .ref cg, .ref cp, .ref co])), (cr, .inl (cI, 4, .inl f1))] [(cI, .int)] sz)) (va_Qi (fun (r : Int32) (u : Unit) => r = 0) (fun (u : Unit) t => cQB dC dI [] [(cI, .int)] (va_A [(ct, .inr (5, [.int 0, .ref cr, .ref cu, .ref cg, .ref cp, .ref co])), (cr, .inl (cI, 4, .inl f1))] sz) t) (va_A [(ct, .inr (5, [.int 0, .ref cr, .ref cu, .ref cg, .ref cp, .ref co])), (cr, .inl (cI, 4, .inl f1))] sz)) 0 0 (va_A [(ct, .inr (5, [.int 0, .ref cr, .ref cu, .ref cg, .ref cp, .ref co])), (cr, .inl (cI, 4, .inl f1))] sz) := by
  refine Met.ofW (cc := cX0_go) (maxL := 6) (ret := (some .int)) (by decide) rfl ?_
  intro p e s m args below meth c s₁ B hml hv
  obtain ⟨rfl, hsz, hP, hK, hD0, hN⟩ := hv
  have hx := B.exec
  have hb := B.bytes
  have hr := B.returns
  have hts := atoms_spec (ws := wsX0_go) B.pre
  have hown : s.vm.findClass RX0 = some m.cls := findClass_of_methodNamed B.named
  have hlocks := B.notSynchronized
  subst hsz
  have hD := hD0.self (sz := s.heap.size)
  generalize hAe : va_A [(ct, .inr (5, [.int 0, .ref cr, .ref cu, .ref cg, .ref cp, .ref co])), (cr, .inl (cI, 4, .inl f1))] s.heap.size = A at hD ⊢
  have hA : ∀ q : Nat, s.heap.size ≤ q → A q := fun q h => by rw [← hAe]; exact Or.inr h
  have hS : va_S A s.heap s.heap [] := va_S.rf
  have hP : va_P (dC, dI) vwCl [(ct, .inr (5, [.int 0, .ref cr, .ref cu, .ref cg, .ref cp, .ref co])), (cr, .inl (cI, 4, .inl f1))] s.heap := hP
  have hD : va_D A [(ct, .inr (5, [.int 0, .ref cr, .ref cu, .ref cg, .ref cp, .ref co])), (cr, .inl (cI, 4, .inl f1))] := hD
  have hl := lv_entry ([.ref ct, .int n1, .int n2, .int k]) (n := 6) (Nat.le_of_ble_eq_true rfl)
  rw [lg_entry_eq]
  generalize (lg_sl ([.ref ct, .int n1, .int n2, .int k]) ++ List.replicate (6 - (lg_sl ([.ref ct, .int n1, .int n2, .int k])).length) Slot.unset).toArray = ls at hl ⊢
  have hl : lv_has ls 6 [(0, .ref ct), (1, .int n1), (2, .int n2), (3, .int k)] := hl
  have iWX0 : ∀ w ∈ u_ws RX0 TX0 6, w ∈ wsX0_go := by decide +kernel
  refine lv_aload_n hx hb dX0_go_0 rfl (lv_at hl 0 rfl) ?_
  refine va_get (D := (dC, dI)) (ci := 5) (v := .ref cr) (C := RX0) (T := TX0) (N := 6) hx hb hts iWX0 hown hK hP 0 rfl rfl 1 (by decide) (hts (.fieldLink RX0 13 "Beaverhall$Counters" "registers" "[I") (by decide +kernel)) (fun _ h9 => h9) rfl dX0_go_1 ?_
  refine lv_iconst (v := 0) hx hb dX0_go_4 (by decide) ?_
  have hPc := hP.sub (ws' := [(cr, .inl (cI, 4, .inl f1))]) [1] rfl
  have hDc := hD.sub (ws' := [(cr, .inl (cI, 4, .inl f1))]) [1] (by decide) rfl
  have hKc := hK.sub (tys' := [(cI, .int)]) [0] rfl
  have hFc := va_free (wc := [(cr, .inl (cI, 4, .inl f1))]) hD hS hA [1] rfl
  refine va_callv (va_runS (As := [.ref cr, .int 0]) (rest := []) ⟨hx, hb, hml, hown, hts⟩ (c_J7_fill_53178 l dC dI cI cr 4 f1 0 (by decide) s.heap.size) (va_cwS 2 hts gX0_go_J7_fill_53178 rfl rfl rfl (by decide +kernel) ⟨Nat.le_of_ble_eq_true rfl, Nat.le_of_ble_eq_true rfl⟩) (pcS hPc hDc hKc hN) rfl rfl hl.1 rfl (lv_room (Nat.le_of_ble_eq_true rfl)) dX0_go_5 ⟨Nat.le_of_ble_eq_true rfl, Nat.le_of_ble_eq_true rfl⟩) hS (fun q _ h => hFc q h) hFc (fun u t H1 locs ht hvm hw_2 hB hz1 hk1 hS => ?_)
  obtain ⟨hP1, hK1, hD1⟩ := hB
  rw [ht] at hP1
  try dsimp only at hw_2
  obtain ⟨hP, hD⟩ := va_join (wr := [(ct, .inr (5, [.int 0, .ref cr, .ref cu, .ref cg, .ref cp, .ref co]))]) (w1 := [(cr, .inl (cI, 4, .inl u))]) hP hD [1] [0] rfl rfl (by decide) (by decide) hk1 hFc hP1 hD1
  generalize H1 = H at hP hS ⊢
  have hP : va_P (dC, dI) vwCl [(ct, .inr (5, [.int 0, .ref cr, .ref cu, .ref cg, .ref cp, .ref co])), (cr, .inl (cI, 4, .inl u))] H := hP
  have hD : va_D A [(ct, .inr (5, [.int 0, .ref cr, .ref cu, .ref cg, .ref cp, .ref co])), (cr, .inl (cI, 4, .inl u))] := hD
  obtain ⟨f_1, ef_1⟩ : ∃ z, z = u := ⟨_, rfl⟩
  subst ef_1
  refine lv_aload_n hx hb dX0_go_8 rfl (lv_at hl 0 rfl) ?_
  refine va_get (D := (dC, dI)) (ci := 5) (v := .ref cr) (C := RX0) (T := TX0) (N := 6) hx hb hts iWX0 hown hK hP 0 rfl rfl 1 (by decide) (hts (.fieldLink RX0 13 "Beaverhall$Counters" "registers" "[I") (by decide +kernel)) (fun _ h9 => h9) rfl dX0_go_9 ?_
  refine lv_iconst (v := 0) hx hb dX0_go_12 (by decide) ?_
  refine lv_iload_n hx hb dX0_go_13 rfl (lv_at hl 1 rfl) ?_
  have hPc := hP.sub (ws' := [(cr, .inl (cI, 4, .inl f_1))]) [1] rfl
  have hDc := hD.sub (ws' := [(cr, .inl (cI, 4, .inl f_1))]) [1] (by decide) rfl
  have hKc := hK.sub (tys' := [(cI, .int)]) [0] rfl
  have hFc := va_free (wc := [(cr, .inl (cI, 4, .inl f_1))]) hD hS hA [1] rfl
  refine va_callv (va_runSN (As := [.ref cr, .int 0, .int n1]) (rest := []) ⟨hx, hb, hml, hown, hts⟩ (c_X11_put l dC dI cI cr 4 f_1 0 n1 (by decide) H.size) ⟨va_cnB 3 hts gX0_go_X11_put_n29 rfl rfl rfl (hN (.methodLinkNest RX0 29 yX11_put "Beaverhall") (by decide +kernel)) (hts (.initialized RX11) (by decide +kernel)) (by decide +kernel) ⟨Nat.le_of_ble_eq_true rfl, Nat.le_of_ble_eq_true rfl⟩, hts (.static yX11_put) (by decide +kernel), trivial⟩ (pcS hPc hDc hKc hN) rfl rfl hl.1 rfl (lv_room (Nat.le_of_ble_eq_true rfl)) dX0_go_14 ⟨Nat.le_of_ble_eq_true rfl, Nat.le_of_ble_eq_true rfl⟩) hS (fun q _ h => hFc q h) hFc (fun u t H1 locs ht hvm hw_3 hB hz1 hk1 hS => ?_)
  obtain ⟨hP1, hK1, hD1⟩ := hB
  rw [ht] at hP1
  try dsimp only at hw_3
  obtain ⟨hP, hD⟩ := va_join (wr := [(ct, .inr (5, [.int 0, .ref cr, .ref cu, .ref cg, .ref cp, .ref co]))]) (w1 := [(cr, .inl (cI, 4, .inl u))]) hP hD [1] [0] rfl rfl (by decide) (by decide) hk1 hFc hP1 hD1
  generalize H1 = H at hP hS ⊢
  have hP : va_P (dC, dI) vwCl [(ct, .inr (5, [.int 0, .ref cr, .ref cu, .ref cg, .ref cp, .ref co])), (cr, .inl (cI, 4, .inl u))] H := hP
  have hD : va_D A [(ct, .inr (5, [.int 0, .ref cr, .ref cu, .ref cg, .ref cp, .ref co])), (cr, .inl (cI, 4, .inl u))] := hD
  obtain ⟨f_4, ef_4⟩ : ∃ z, z = u := ⟨_, rfl⟩
  subst ef_4
  refine lv_aload_n hx hb dX0_go_17 rfl (lv_at hl 0 rfl) ?_
  refine va_get (D := (dC, dI)) (ci := 5) (v := .ref cr) (C := RX0) (T := TX0) (N := 6) hx hb hts iWX0 hown hK hP 0 rfl rfl 1 (by decide) (hts (.fieldLink RX0 13 "Beaverhall$Counters" "registers" "[I") (by decide +kernel)) (fun _ h9 => h9) rfl dX0_go_18 ?_
  refine lv_iconst (v := 1) hx hb dX0_go_21 (by decide) ?_
  refine lv_iload_n hx hb dX0_go_22 rfl (lv_at hl 2 rfl) ?_
  have hPc := hP.sub (ws' := [(cr, .inl (cI, 4, .inl f_4))]) [1] rfl
  have hDc := hD.sub (ws' := [(cr, .inl (cI, 4, .inl f_4))]) [1] (by decide) rfl
  have hKc := hK.sub (tys' := [(cI, .int)]) [0] rfl
  have hFc := va_free (wc := [(cr, .inl (cI, 4, .inl f_4))]) hD hS hA [1] rfl
  refine va_callv (va_runSN (As := [.ref cr, .int 1, .int n2]) (rest := []) ⟨hx, hb, hml, hown, hts⟩ (c_X11_put l dC dI cI cr 4 f_4 1 n2 (by decide) H.size) ⟨va_cnB 3 hts gX0_go_X11_put_n29 rfl rfl rfl (hN (.methodLinkNest RX0 29 yX11_put "Beaverhall") (by decide +kernel)) (hts (.initialized RX11) (by decide +kernel)) (by decide +kernel) ⟨Nat.le_of_ble_eq_true rfl, Nat.le_of_ble_eq_true rfl⟩, hts (.static yX11_put) (by decide +kernel), trivial⟩ (pcS hPc hDc hKc hN) rfl rfl hl.1 rfl (lv_room (Nat.le_of_ble_eq_true rfl)) dX0_go_23 ⟨Nat.le_of_ble_eq_true rfl, Nat.le_of_ble_eq_true rfl⟩) hS (fun q _ h => hFc q h) hFc (fun u t H1 locs ht hvm hw_5 hB hz1 hk1 hS => ?_)
  obtain ⟨hP1, hK1, hD1⟩ := hB
  rw [ht] at hP1
  try dsimp only at hw_5
  obtain ⟨hP, hD⟩ := va_join (wr := [(ct, .inr (5, [.int 0, .ref cr, .ref cu, .ref cg, .ref cp, .ref co]))]) (w1 := [(cr, .inl (cI, 4, .inl u))]) hP hD [1] [0] rfl rfl (by decide) (by decide) hk1 hFc hP1 hD1
  generalize H1 = H at hP hS ⊢
  have hP : va_P (dC, dI) vwCl [(ct, .inr (5, [.int 0, .ref cr, .ref cu, .ref cg, .ref cp, .ref co])), (cr, .inl (cI, 4, .inl u))] H := hP
  have hD : va_D A [(ct, .inr (5, [.int 0, .ref cr, .ref cu, .ref cg, .ref cp, .ref co])), (cr, .inl (cI, 4, .inl u))] := hD
  obtain ⟨f_6, ef_6⟩ : ∃ z, z = u := ⟨_, rfl⟩
  subst ef_6
  refine lv_iconst (v := 0) hx hb dX0_go_26 (by decide) ?_
  refine lv_istore (lv' := [(4, .int 0), (0, .ref ct), (1, .int n1), (2, .int n2), (3, .int k)]) hx hb dX0_go_27 hl (by decide) rfl (fun ls hl => ?_)
  refine lv_iconst (v := 0) hx hb dX0_go_29 (by decide) ?_
  refine lv_istore (lv' := [(5, .int 0), (4, .int 0), (0, .ref ct), (1, .int n1), (2, .int n2), (3, .int k)]) hx hb dX0_go_30 hl (by decide) rfl (fun ls hl => ?_)
  refine lv_iload hx hb dX0_go_32 (lv_at hl 0 rfl) ?_
  refine lv_iload_n hx hb dX0_go_34 rfl (lv_at hl 5 rfl) ?_
  refine lv_icmp_ge (tgt := 61) hx hb dX0_go_35 (by decide) (fun c35_7 => ?_) (fun c35_7 => ?_)
  · refine lv_iload hx hb dX0_go_61 (lv_at hl 0 rfl) ?_
    have hP9 := hP.sub (ws' := []) [] rfl
    have hD9 := hD.sub (ws' := []) [] (by decide) rfl
    have hK9 := hK.sub (tys' := [(cI, .int)]) [0] rfl
    exact W.iret (v := 0) hx hb hr (fun t ht hW => ⟨⟨0, (), rfl, rfl, ⟨by rw [ht]; exact hP9, va_K.moved hW.alike hK9, hD9⟩⟩, hS.F ht⟩) hS.2.2 dX0_go_63
  · refine lv_iload hx hb dX0_go_38 (lv_at hl 1 rfl) ?_
    refine lv_aload_n hx hb dX0_go_40 rfl (lv_at hl 2 rfl) ?_
    refine va_get (D := (dC, dI)) (ci := 5) (v := .int 0) (C := RX0) (T := TX0) (N := 6) hx hb hts iWX0 hown hK hP 0 rfl rfl 0 (by decide) (hts (.fieldLink RX0 7 "Beaverhall$Counters" "size" "I") (by decide +kernel)) (fun _ h9 => h9) rfl dX0_go_41 ?_
    refine lv_icmp_ge (tgt := 61) hx hb dX0_go_44 (by decide) (fun c44_8 => ?_) (fun c44_8 => ?_)
    · refine lv_iload hx hb dX0_go_61 (lv_at hl 0 rfl) ?_
      have hP9 := hP.sub (ws' := []) [] rfl
      have hD9 := hD.sub (ws' := []) [] (by decide) rfl
      have hK9 := hK.sub (tys' := [(cI, .int)]) [0] rfl
      exact W.iret (v := 0) hx hb hr (fun t ht hW => ⟨⟨0, (), rfl, rfl, ⟨by rw [ht]; exact hP9, va_K.moved hW.alike hK9, hD9⟩⟩, hS.F ht⟩) hS.2.2 dX0_go_63
    · exact (c44_8 (by decide)).elim

set_option maxHeartbeats 4000000 in
set_option maxRecDepth 100000 in
/-- X9_rowLength -/
theorem c_X9_rowLength (l : Launch) (dC : Nat → ClassId) (dI : Nat → Nat → Nat) (cI : ClassId) (tg ts tr tk te : Nat) (f1 : Nat → Int32) (lt : Int32) (sz : Nat) : Met l yX9_rowLength wsX9_rowLength ({ frames := 1, cells := 0, slots := 0, locals := 21 }) (va_Pc [.ref tg, .int lt] (cPC dC dI [(tg, .inr (14, [.int 0, .int 0, .ref ts, .ref tr, .ref tk, .ref te])), (tk, .inl (cI, 4, .inl f1))] [(cI, .int)] sz)) (va_Qi (fun (r : Int32) (u : Unit) => r = atJ f1 4 (lt - 97)) (fun (u : Unit) t => cQB dC dI [(tg, .inr (14, [.int 0, .int 0, .ref ts, .ref tr, .ref tk, .ref te])), (tk, .inl (cI, 4, .inl f1))] [(cI, .int)] (va_A [(tg, .inr (14, [.int 0, .int 0, .ref ts, .ref tr, .ref tk, .ref te])), (tk, .inl (cI, 4, .inl f1))] sz) t) (va_A [(tg, .inr (14, [.int 0, .int 0, .ref ts, .ref tr, .ref tk, .ref te])), (tk, .inl (cI, 4, .inl f1))] sz)) 0 0 (va_A [(tg, .inr (14, [.int 0, .int 0, .ref ts, .ref tr, .ref tk, .ref te])), (tk, .inl (cI, 4, .inl f1))] sz) := by
  refine Met.ofW (cc := cX9_rowLength) (maxL := 2) (ret := (some .int)) (by decide) rfl ?_
  intro p e s m args below meth c s₁ B hml hv
  obtain ⟨rfl, hsz, hP, hK, hD0, hN⟩ := hv
  have hx := B.exec
  have hb := B.bytes
  have hr := B.returns
  have hts := atoms_spec (ws := wsX9_rowLength) B.pre
  have hown : s.vm.findClass RX9 = some m.cls := findClass_of_methodNamed B.named
  have hlocks := B.notSynchronized
  subst hsz
  have hD := hD0.self (sz := s.heap.size)
  generalize hAe : va_A [(tg, .inr (14, [.int 0, .int 0, .ref ts, .ref tr, .ref tk, .ref te])), (tk, .inl (cI, 4, .inl f1))] s.heap.size = A at hD ⊢
  have hA : ∀ q : Nat, s.heap.size ≤ q → A q := fun q h => by rw [← hAe]; exact Or.inr h
  have hS : va_S A s.heap s.heap [] := va_S.rf
  have hP : va_P (dC, dI) vwCl [(tg, .inr (14, [.int 0, .int 0, .ref ts, .ref tr, .ref tk, .ref te])), (tk, .inl (cI, 4, .inl f1))] s.heap := hP
  have hD : va_D A [(tg, .inr (14, [.int 0, .int 0, .ref ts, .ref tr, .ref tk, .ref te])), (tk, .inl (cI, 4, .inl f1))] := hD
  have hl := lv_entry ([.ref tg, .int lt]) (n := 2) (Nat.le_of_ble_eq_true rfl)
  rw [lg_entry_eq]
  generalize (lg_sl ([.ref tg, .int lt]) ++ List.replicate (2 - (lg_sl ([.ref tg, .int lt])).length) Slot.unset).toArray = ls at hl ⊢
  have hl : lv_has ls 2 [(0, .ref tg), (1, .int lt)] := hl
  have iWX9 : ∀ w ∈ u_ws RX9 TX9 6, w ∈ wsX9_rowLength := by decide +kernel
  refine lv_aload_n hx hb dX9_rowLength_0 rfl (lv_at hl 0 rfl) ?_
  refine va_get (D := (dC, dI)) (ci := 14) (v := .ref tk) (C := RX9) (T := TX9) (N := 6) hx hb hts iWX9 hown hK hP 0 rfl rfl 4 (by decide) (hts (.fieldLink RX9 23 "Beaverhall$Tags" "rowLengths" "[I") (by decide +kernel)) (fun _ h9 => h9) rfl dX9_rowLength_1 ?_
  refine lv_iload_n hx hb dX9_rowLength_4 rfl (lv_at hl 1 rfl) ?_
  refine lv_bipush (v := 97) hx hb dX9_rowLength_5 (by decide) ?_
  refine lv_isub hx hb dX9_rowLength_7 ?_
  have hPc := hP.sub (ws' := [(tk, .inl (cI, 4, .inl f1))]) [1] rfl
  have hDc := hD.sub (ws' := [(tk, .inl (cI, 4, .inl f1))]) [1] (by decide) rfl
  have hKc := hK.sub (tys' := [(cI, .int)]) [0] rfl
  have hFc := va_free (wc := [(tk, .inl (cI, 4, .inl f1))]) hD hS hA [1] rfl
  refine va_calli (va_runSN (As := [.ref tk, .int (lt - 97)]) (rest := []) ⟨hx, hb, hml, hown, hts⟩ (c_X11_at l dC dI cI tk 4 f1 (lt - 97) (by decide) s.heap.size) ⟨va_cnB 2 hts gX9_rowLength_X11_at_n29 rfl rfl rfl (hN (.methodLinkNest RX9 29 yX11_at "Beaverhall") (by decide +kernel)) (hts (.initialized RX11) (by decide +kernel)) (by decide +kernel) ⟨Nat.le_of_ble_eq_true rfl, Nat.le_of_ble_eq_true rfl⟩, hts (.static yX11_at) (by decide +kernel), trivial⟩ (pcS hPc hDc hKc hN) rfl rfl hl.1 rfl (lv_room (Nat.le_of_ble_eq_true rfl)) dX9_rowLength_8 ⟨Nat.le_of_ble_eq_true rfl, Nat.le_of_ble_eq_true rfl⟩) hS (fun q _ h => hFc q h) hFc (fun r_1 u t H1 locs ht hvm hw_2 hB hz1 hk1 hS => ?_)
  obtain ⟨hP1, hK1, hD1⟩ := hB
  rw [ht] at hP1
  try dsimp only at hw_2
  obtain ⟨hP, hD⟩ := va_join (wr := [(tg, .inr (14, [.int 0, .int 0, .ref ts, .ref tr, .ref tk, .ref te]))]) (w1 := [(tk, .inl (cI, 4, .inl f1))]) hP hD [1] [0] rfl rfl (by decide) (by decide) hk1 hFc hP1 hD1
  generalize H1 = H at hP hS ⊢
  have hP : va_P (dC, dI) vwCl [(tg, .inr (14, [.int 0, .int 0, .ref ts, .ref tr, .ref tk, .ref te])), (tk, .inl (cI, 4, .inl f1))] H := hP
  have hD : va_D A [(tg, .inr (14, [.int 0, .int 0, .ref ts, .ref tr, .ref tk, .ref te])), (tk, .inl (cI, 4, .inl f1))] := hD
  have hP9 := hP.sub (ws' := [(tg, .inr (14, [.int 0, .int 0, .ref ts, .ref tr, .ref tk, .ref te])), (tk, .inl (cI, 4, .inl f1))]) [0, 1] rfl
  have hD9 := hD.sub (ws' := [(tg, .inr (14, [.int 0, .int 0, .ref ts, .ref tr, .ref tk, .ref te])), (tk, .inl (cI, 4, .inl f1))]) [0, 1] (by decide) rfl
  have hK9 := hK.sub (tys' := [(cI, .int)]) [0] rfl
  exact W.iret (v := r_1) hx hb hr (fun t ht hW => ⟨⟨r_1, (), rfl, hw_2, ⟨by rw [ht]; exact hP9, va_K.moved hW.alike hK9, hD9⟩⟩, hS.F ht⟩) hS.2.2 dX9_rowLength_11

set_option maxHeartbeats 4000000 in
set_option maxRecDepth 100000 in
/-- X9_addToRow -/
theorem c_X9_addToRow (l : Launch) (dC : Nat → ClassId) (dI : Nat → Nat → Nat) (cI : ClassId) (tg ts tr tk te : Nat) (f1 : Nat → Int32) (lt sg : Int32) (sz : Nat) : Met l yX9_addToRow wsX9_addToRow ({ frames := 1, cells := 0, slots := 0, locals := 22 }) (va_Pc [.ref tg, .int lt, .int sg] (cPC dC dI [(tg, .inr (14, [.int 0, .int 0, .ref ts, .ref tr, .ref tk, .ref te])), (tr, .inl (cI, 24, .inl f1)), (tk, .inl (cI, 4, .inl (fun _ => 0)))] [(cI, .int)] sz)) (va_Qv (fun (u : Nat → Int32) => u = putJ (fun _ => 0) 4 (lt - 97) (0 + 1)) (fun (u : Nat → Int32) t => cQB dC dI [(tg, .inr (14, [.int 0, .int 0, .ref ts, .ref tr, .ref tk, .ref te])), (tk, .inl (cI, 4, .inl u))] [(cI, .int)] (va_A [(tg, .inr (14, [.int 0, .int 0, .ref ts, .ref tr, .ref tk, .ref te])), (tr, .inl (cI, 24, .inl f1)), (tk, .inl (cI, 4, .inl (fun _ => 0)))] sz) t) (va_A [(tg, .inr (14, [.int 0, .int 0, .ref ts, .ref tr, .ref tk, .ref te])), (tr, .inl (cI, 24, .inl f1)), (tk, .inl (cI, 4, .inl (fun _ => 0)))] sz)) 0 0 (va_A [(tg, .inr (14, [.int 0, .int 0, .ref ts, .ref tr, .ref tk, .ref te])), (tr, .inl (cI, 24, .inl f1)), (tk, .inl (cI, 4, .inl (fun _ => 0)))] sz) := by
  refine Met.ofW (cc := cX9_addToRow) (maxL := 5) (ret := none) (by decide) rfl ?_
  intro p e s m args below meth c s₁ B hml hv
  obtain ⟨rfl, hsz, hP, hK, hD0, hN⟩ := hv
  have hx := B.exec
  have hb := B.bytes
  have hr := B.returns
  have hts := atoms_spec (ws := wsX9_addToRow) B.pre
  have hown : s.vm.findClass RX9 = some m.cls := findClass_of_methodNamed B.named
  have hlocks := B.notSynchronized
  subst hsz
  have hD := hD0.self (sz := s.heap.size)
  generalize hAe : va_A [(tg, .inr (14, [.int 0, .int 0, .ref ts, .ref tr, .ref tk, .ref te])), (tr, .inl (cI, 24, .inl f1)), (tk, .inl (cI, 4, .inl (fun _ => 0)))] s.heap.size = A at hD ⊢
  have hA : ∀ q : Nat, s.heap.size ≤ q → A q := fun q h => by rw [← hAe]; exact Or.inr h
  have hS : va_S A s.heap s.heap [] := va_S.rf
  have hP : va_P (dC, dI) vwCl [(tg, .inr (14, [.int 0, .int 0, .ref ts, .ref tr, .ref tk, .ref te])), (tr, .inl (cI, 24, .inl f1)), (tk, .inl (cI, 4, .inl (fun _ => 0)))] s.heap := hP
  have hD : va_D A [(tg, .inr (14, [.int 0, .int 0, .ref ts, .ref tr, .ref tk, .ref te])), (tr, .inl (cI, 24, .inl f1)), (tk, .inl (cI, 4, .inl (fun _ => 0)))] := hD
  have hl := lv_entry ([.ref tg, .int lt, .int sg]) (n := 5) (Nat.le_of_ble_eq_true rfl)
  rw [lg_entry_eq]
  generalize (lg_sl ([.ref tg, .int lt, .int sg]) ++ List.replicate (5 - (lg_sl ([.ref tg, .int lt, .int sg])).length) Slot.unset).toArray = ls at hl ⊢
  have hl : lv_has ls 5 [(0, .ref tg), (1, .int lt), (2, .int sg)] := hl
  have iWX9 : ∀ w ∈ u_ws RX9 TX9 6, w ∈ wsX9_addToRow := by decide +kernel
  refine lv_iload_n hx hb dX9_addToRow_0 rfl (lv_at hl 1 rfl) ?_
  refine lv_bipush (v := 97) hx hb dX9_addToRow_1 (by decide) ?_
  refine lv_isub hx hb dX9_addToRow_3 ?_
  refine lv_istore_n (lv' := [(3, .int (lt - 97)), (0, .ref tg), (1, .int lt), (2, .int sg)]) hx hb dX9_addToRow_4 rfl hl (by decide) rfl (fun ls hl => ?_)
  refine lv_aload_n hx hb dX9_addToRow_5 rfl (lv_at hl 1 rfl) ?_
  refine va_get (D := (dC, dI)) (ci := 14) (v := .ref tk) (C := RX9) (T := TX9) (N := 6) hx hb hts iWX9 hown hK hP 0 rfl rfl 4 (by decide) (hts (.fieldLink RX9 23 "Beaverhall$Tags" "rowLengths" "[I") (by decide +kernel)) (fun _ h9 => h9) rfl dX9_addToRow_6 ?_
  refine lv_iload_n hx hb dX9_addToRow_9 rfl (lv_at hl 0 rfl) ?_
  have hPc := hP.sub (ws' := [(tk, .inl (cI, 4, .inl (fun _ => 0)))]) [2] rfl
  have hDc := hD.sub (ws' := [(tk, .inl (cI, 4, .inl (fun _ => 0)))]) [2] (by decide) rfl
  have hKc := hK.sub (tys' := [(cI, .int)]) [0] rfl
  have hFc := va_free (wc := [(tk, .inl (cI, 4, .inl (fun _ => 0)))]) hD hS hA [2] rfl
  refine va_calli (va_runSN (As := [.ref tk, .int (lt - 97)]) (rest := []) ⟨hx, hb, hml, hown, hts⟩ (c_X11_at l dC dI cI tk 4 (fun _ => 0) (lt - 97) (by decide) s.heap.size) ⟨va_cnB 2 hts gX9_addToRow_X11_at_n29 rfl rfl rfl (hN (.methodLinkNest RX9 29 yX11_at "Beaverhall") (by decide +kernel)) (hts (.initialized RX11) (by decide +kernel)) (by decide +kernel) ⟨Nat.le_of_ble_eq_true rfl, Nat.le_of_ble_eq_true rfl⟩, hts (.static yX11_at) (by decide +kernel), trivial⟩ (pcS hPc hDc hKc hN) rfl rfl hl.1 rfl (lv_room (Nat.le_of_ble_eq_true rfl)) dX9_addToRow_10 ⟨Nat.le_of_ble_eq_true rfl, Nat.le_of_ble_eq_true rfl⟩) hS (fun q _ h => hFc q h) hFc (fun r_1 u t H1 locs ht hvm hw_2 hB hz1 hk1 hS => ?_)
  obtain ⟨hP1, hK1, hD1⟩ := hB
  rw [ht] at hP1
  try dsimp only at hw_2
  obtain ⟨hP, hD⟩ := va_join (wr := [(tg, .inr (14, [.int 0, .int 0, .ref ts, .ref tr, .ref tk, .ref te])), (tr, .inl (cI, 24, .inl f1))]) (w1 := [(tk, .inl (cI, 4, .inl (fun _ => 0)))]) hP hD [2] [0, 1] rfl rfl (by decide) (by decide) hk1 hFc hP1 hD1
  generalize H1 = H at hP hS ⊢
  have hP : va_P (dC, dI) vwCl [(tg, .inr (14, [.int 0, .int 0, .ref ts, .ref tr, .ref tk, .ref te])), (tr, .inl (cI, 24, .inl f1)), (tk, .inl (cI, 4, .inl (fun _ => 0)))] H := hP
  have hD : va_D A [(tg, .inr (14, [.int 0, .int 0, .ref ts, .ref tr, .ref tk, .ref te])), (tr, .inl (cI, 24, .inl f1)), (tk, .inl (cI, 4, .inl (fun _ => 0)))] := hD
  obtain rfl : r_1 = 0 := by rw [hw_2]; exact at_zero
  refine lv_istore (lv' := [(4, .int 0), (3, .int (lt - 97)), (0, .ref tg), (1, .int lt), (2, .int sg)]) hx hb dX9_addToRow_13 hl (by decide) rfl (fun ls hl => ?_)
  refine lv_iload hx hb dX9_addToRow_15 (lv_at hl 0 rfl) ?_
  refine lv_bipush (v := 6) hx hb dX9_addToRow_17 (by decide) ?_
  refine lv_icmp_ge (tgt := 52) hx hb dX9_addToRow_19 (by decide) (fun c19_3 => ?_) (fun c19_3 => ?_)
  · exact absurd c19_3 (by decide)
  · refine lv_aload_n hx hb dX9_addToRow_22 rfl (lv_at hl 2 rfl) ?_
    refine va_get (D := (dC, dI)) (ci := 14) (v := .ref tr) (C := RX9) (T := TX9) (N := 6) hx hb hts iWX9 hown hK hP 0 rfl rfl 3 (by decide) (hts (.fieldLink RX9 20 "Beaverhall$Tags" "rows" "[I") (by decide +kernel)) (fun _ h9 => h9) rfl dX9_addToRow_23 ?_
    refine lv_iload_n hx hb dX9_addToRow_26 rfl (lv_at hl 1 rfl) ?_
    refine lv_bipush (v := 6) hx hb dX9_addToRow_27 (by decide) ?_
    refine lv_imul hx hb dX9_addToRow_29 ?_
    refine lv_iload hx hb dX9_addToRow_30 (lv_at hl 0 rfl) ?_
    refine lv_iadd hx hb dX9_addToRow_32 ?_
    refine lv_iload_n hx hb dX9_addToRow_33 rfl (lv_at hl 4 rfl) ?_
    refine lv_bipush (v := 97) hx hb dX9_addToRow_34 (by decide) ?_
    refine lv_isub hx hb dX9_addToRow_36 ?_
    have hPc := hP.sub (ws' := [(tr, .inl (cI, 24, .inl f1))]) [1] rfl
    have hDc := hD.sub (ws' := [(tr, .inl (cI, 24, .inl f1))]) [1] (by decide) rfl
    have hKc := hK.sub (tys' := [(cI, .int)]) [0] rfl
    have hFc := va_free (wc := [(tr, .inl (cI, 24, .inl f1))]) hD hS hA [1] rfl
    refine va_callv (va_runSN (As := [.ref tr, .int (((lt - 97) * 6) + 0), .int (sg - 97)]) (rest := []) ⟨hx, hb, hml, hown, hts⟩ (c_X11_put l dC dI cI tr 24 f1 (((lt - 97) * 6) + 0) (sg - 97) (by decide) H.size) ⟨va_cnB 3 hts gX9_addToRow_X11_put_n35 rfl rfl rfl (hN (.methodLinkNest RX9 35 yX11_put "Beaverhall") (by decide +kernel)) (hts (.initialized RX11) (by decide +kernel)) (by decide +kernel) ⟨Nat.le_of_ble_eq_true rfl, Nat.le_of_ble_eq_true rfl⟩, hts (.static yX11_put) (by decide +kernel), trivial⟩ (pcS hPc hDc hKc hN) rfl rfl hl.1 rfl (lv_room (Nat.le_of_ble_eq_true rfl)) dX9_addToRow_37 ⟨Nat.le_of_ble_eq_true rfl, Nat.le_of_ble_eq_true rfl⟩) hS (fun q _ h => hFc q h) hFc (fun u t H1 locs ht hvm hw_4 hB hz1 hk1 hS => ?_)
    obtain ⟨hP1, hK1, hD1⟩ := hB
    rw [ht] at hP1
    try dsimp only at hw_4
    obtain ⟨hP, hD⟩ := va_join (wr := [(tg, .inr (14, [.int 0, .int 0, .ref ts, .ref tr, .ref tk, .ref te])), (tk, .inl (cI, 4, .inl (fun _ => 0)))]) (w1 := [(tr, .inl (cI, 24, .inl u))]) hP hD [1] [0, 2] rfl rfl (by decide) (by decide) hk1 hFc hP1 hD1
    generalize H1 = H at hP hS ⊢
    have hP : va_P (dC, dI) vwCl [(tg, .inr (14, [.int 0, .int 0, .ref ts, .ref tr, .ref tk, .ref te])), (tk, .inl (cI, 4, .inl (fun _ => 0))), (tr, .inl (cI, 24, .inl u))] H := hP
    have hD : va_D A [(tg, .inr (14, [.int 0, .int 0, .ref ts, .ref tr, .ref tk, .ref te])), (tk, .inl (cI, 4, .inl (fun _ => 0))), (tr, .inl (cI, 24, .inl u))] := hD
    obtain ⟨f_5, ef_5⟩ : ∃ z, z = u := ⟨_, rfl⟩
    subst ef_5
    refine lv_aload_n hx hb dX9_addToRow_40 rfl (lv_at hl 2 rfl) ?_
    refine va_get (D := (dC, dI)) (ci := 14) (v := .ref tk) (C := RX9) (T := TX9) (N := 6) hx hb hts iWX9 hown hK hP 0 rfl rfl 4 (by decide) (hts (.fieldLink RX9 23 "Beaverhall$Tags" "rowLengths" "[I") (by decide +kernel)) (fun _ h9 => h9) rfl dX9_addToRow_41 ?_
    refine lv_iload_n hx hb dX9_addToRow_44 rfl (lv_at hl 1 rfl) ?_
    refine lv_iload hx hb dX9_addToRow_45 (lv_at hl 0 rfl) ?_
    refine lv_iconst (v := 1) hx hb dX9_addToRow_47 (by decide) ?_
    refine lv_iadd hx hb dX9_addToRow_48 ?_
    have hPc := hP.sub (ws' := [(tk, .inl (cI, 4, .inl (fun _ => 0)))]) [1] rfl
    have hDc := hD.sub (ws' := [(tk, .inl (cI, 4, .inl (fun _ => 0)))]) [1] (by decide) rfl
    have hKc := hK.sub (tys' := [(cI, .int)]) [0] rfl
    have hFc := va_free (wc := [(tk, .inl (cI, 4, .inl (fun _ => 0)))]) hD hS hA [1] rfl
    refine va_callv (va_runSN (As := [.ref tk, .int (lt - 97), .int ((0 : Int32) + 1)]) (rest := []) ⟨hx, hb, hml, hown, hts⟩ (c_X11_put l dC dI cI tk 4 (fun _ => 0) (lt - 97) ((0 : Int32) + 1) (by decide) H.size) ⟨va_cnB 3 hts gX9_addToRow_X11_put_n35 rfl rfl rfl (hN (.methodLinkNest RX9 35 yX11_put "Beaverhall") (by decide +kernel)) (hts (.initialized RX11) (by decide +kernel)) (by decide +kernel) ⟨Nat.le_of_ble_eq_true rfl, Nat.le_of_ble_eq_true rfl⟩, hts (.static yX11_put) (by decide +kernel), trivial⟩ (pcS hPc hDc hKc hN) rfl rfl hl.1 rfl (lv_room (Nat.le_of_ble_eq_true rfl)) dX9_addToRow_49 ⟨Nat.le_of_ble_eq_true rfl, Nat.le_of_ble_eq_true rfl⟩) hS (fun q _ h => hFc q h) hFc (fun u t H1 locs ht hvm hw_6 hB hz1 hk1 hS => ?_)
    obtain ⟨hP1, hK1, hD1⟩ := hB
    rw [ht] at hP1
    try dsimp only at hw_6
    obtain ⟨hP, hD⟩ := va_join (wr := [(tg, .inr (14, [.int 0, .int 0, .ref ts, .ref tr, .ref tk, .ref te])), (tr, .inl (cI, 24, .inl f_5))]) (w1 := [(tk, .inl (cI, 4, .inl u))]) hP hD [1] [0, 2] rfl rfl (by decide) (by decide) hk1 hFc hP1 hD1
    generalize H1 = H at hP hS ⊢
    have hP : va_P (dC, dI) vwCl [(tg, .inr (14, [.int 0, .int 0, .ref ts, .ref tr, .ref tk, .ref te])), (tr, .inl (cI, 24, .inl f_5)), (tk, .inl (cI, 4, .inl u))] H := hP
    have hD : va_D A [(tg, .inr (14, [.int 0, .int 0, .ref ts, .ref tr, .ref tk, .ref te])), (tr, .inl (cI, 24, .inl f_5)), (tk, .inl (cI, 4, .inl u))] := hD
    obtain ⟨f_7, ef_7⟩ : ∃ z, z = u := ⟨_, rfl⟩
    subst ef_7
    have hP9 := hP.sub (ws' := [(tg, .inr (14, [.int 0, .int 0, .ref ts, .ref tr, .ref tk, .ref te])), (tk, .inl (cI, 4, .inl f_7))]) [0, 2] rfl
    have hD9 := hD.sub (ws' := [(tg, .inr (14, [.int 0, .int 0, .ref ts, .ref tr, .ref tk, .ref te])), (tk, .inl (cI, 4, .inl f_7))]) [0, 2] (by decide) rfl
    have hK9 := hK.sub (tys' := [(cI, .int)]) [0] rfl
    exact W.vret hx hb hr (fun t ht hW => ⟨⟨f_7, rfl, hw_6, ⟨by rw [ht]; exact hP9, va_K.moved hW.alike hK9, hD9⟩⟩, hS.F ht⟩) hS.2.2 dX9_addToRow_52

set_option maxHeartbeats 4000000 in
set_option maxRecDepth 100000 in
/-- X9_addToStart -/
theorem c_X9_addToStart (l : Launch) (dC : Nat → ClassId) (dI : Nat → Nat → Nat) (cI : ClassId) (tg ts tr tk te : Nat) (f1 : Nat → Int32) (lt : Int32) (sz : Nat) : Met l yX9_addToStart wsX9_addToStart ({ frames := 1, cells := 0, slots := 0, locals := 22 }) (va_Pc [.ref tg, .int lt] (cPC dC dI [(tg, .inr (14, [.int 0, .int 0, .ref ts, .ref tr, .ref tk, .ref te])), (ts, .inl (cI, 40, .inl f1))] [(cI, .int)] sz)) (va_Qv (fun (u : Unit) => True) (fun (u : Unit) t => cQB dC dI [(tg, .inr (14, [.int 1, .int 0, .ref ts, .ref tr, .ref tk, .ref te]))] [(cI, .int)] (va_A [(tg, .inr (14, [.int 0, .int 0, .ref ts, .ref tr, .ref tk, .ref te])), (ts, .inl (cI, 40, .inl f1))] sz) t) (va_A [(tg, .inr (14, [.int 0, .int 0, .ref ts, .ref tr, .ref tk, .ref te])), (ts, .inl (cI, 40, .inl f1))] sz)) 0 0 (va_A [(tg, .inr (14, [.int 0, .int 0, .ref ts, .ref tr, .ref tk, .ref te])), (ts, .inl (cI, 40, .inl f1))] sz) := by
  refine Met.ofW (cc := cX9_addToStart) (maxL := 2) (ret := none) (by decide) rfl ?_
  intro p e s m args below meth c s₁ B hml hv
  obtain ⟨rfl, hsz, hP, hK, hD0, hN⟩ := hv
  have hx := B.exec
  have hb := B.bytes
  have hr := B.returns
  have hts := atoms_spec (ws := wsX9_addToStart) B.pre
  have hown : s.vm.findClass RX9 = some m.cls := findClass_of_methodNamed B.named
  have hlocks := B.notSynchronized
  subst hsz
  have hD := hD0.self (sz := s.heap.size)
  generalize hAe : va_A [(tg, .inr (14, [.int 0, .int 0, .ref ts, .ref tr, .ref tk, .ref te])), (ts, .inl (cI, 40, .inl f1))] s.heap.size = A at hD ⊢
  have hA : ∀ q : Nat, s.heap.size ≤ q → A q := fun q h => by rw [← hAe]; exact Or.inr h
  have hS : va_S A s.heap s.heap [] := va_S.rf
  have hP : va_P (dC, dI) vwCl [(tg, .inr (14, [.int 0, .int 0, .ref ts, .ref tr, .ref tk, .ref te])), (ts, .inl (cI, 40, .inl f1))] s.heap := hP
  have hD : va_D A [(tg, .inr (14, [.int 0, .int 0, .ref ts, .ref tr, .ref tk, .ref te])), (ts, .inl (cI, 40, .inl f1))] := hD
  have hl := lv_entry ([.ref tg, .int lt]) (n := 2) (Nat.le_of_ble_eq_true rfl)
  rw [lg_entry_eq]
  generalize (lg_sl ([.ref tg, .int lt]) ++ List.replicate (2 - (lg_sl ([.ref tg, .int lt])).length) Slot.unset).toArray = ls at hl ⊢
  have hl : lv_has ls 2 [(0, .ref tg), (1, .int lt)] := hl
  have iWX9 : ∀ w ∈ u_ws RX9 TX9 6, w ∈ wsX9_addToStart := by decide +kernel
  refine lv_aload_n hx hb dX9_addToStart_0 rfl (lv_at hl 0 rfl) ?_
  refine va_get (D := (dC, dI)) (ci := 14) (v := .int 0) (C := RX9) (T := TX9) (N := 6) hx hb hts iWX9 hown hK hP 0 rfl rfl 0 (by decide) (hts (.fieldLink RX9 7 "Beaverhall$Tags" "startLength" "I") (by decide +kernel)) (fun _ h9 => h9) rfl dX9_addToStart_1 ?_
  refine lv_bipush (v := 40) hx hb dX9_addToStart_4 (by decide) ?_
  refine lv_icmp_ge (tgt := 34) hx hb dX9_addToStart_6 (by decide) (fun c6_1 => ?_) (fun c6_1 => ?_)
  · exact absurd c6_1 (by decide)
  · refine lv_aload_n hx hb dX9_addToStart_9 rfl (lv_at hl 0 rfl) ?_
    refine va_get (D := (dC, dI)) (ci := 14) (v := .ref ts) (C := RX9) (T := TX9) (N := 6) hx hb hts iWX9 hown hK hP 0 rfl rfl 2 (by decide) (hts (.fieldLink RX9 16 "Beaverhall$Tags" "start" "[I") (by decide +kernel)) (fun _ h9 => h9) rfl dX9_addToStart_10 ?_
    refine lv_aload_n hx hb dX9_addToStart_13 rfl (lv_at hl 0 rfl) ?_
    refine va_get (D := (dC, dI)) (ci := 14) (v := .int 0) (C := RX9) (T := TX9) (N := 6) hx hb hts iWX9 hown hK hP 0 rfl rfl 0 (by decide) (hts (.fieldLink RX9 7 "Beaverhall$Tags" "startLength" "I") (by decide +kernel)) (fun _ h9 => h9) rfl dX9_addToStart_14 ?_
    refine lv_iload_n hx hb dX9_addToStart_17 rfl (lv_at hl 1 rfl) ?_
    refine lv_bipush (v := 97) hx hb dX9_addToStart_18 (by decide) ?_
    refine lv_isub hx hb dX9_addToStart_20 ?_
    have hPc := hP.sub (ws' := [(ts, .inl (cI, 40, .inl f1))]) [1] rfl
    have hDc := hD.sub (ws' := [(ts, .inl (cI, 40, .inl f1))]) [1] (by decide) rfl
    have hKc := hK.sub (tys' := [(cI, .int)]) [0] rfl
    have hFc := va_free (wc := [(ts, .inl (cI, 40, .inl f1))]) hD hS hA [1] rfl
    refine va_callv (va_runSN (As := [.ref ts, .int 0, .int (lt - 97)]) (rest := []) ⟨hx, hb, hml, hown, hts⟩ (c_X11_put l dC dI cI ts 40 f1 0 (lt - 97) (by decide) s.heap.size) ⟨va_cnB 3 hts gX9_addToStart_X11_put_n35 rfl rfl rfl (hN (.methodLinkNest RX9 35 yX11_put "Beaverhall") (by decide +kernel)) (hts (.initialized RX11) (by decide +kernel)) (by decide +kernel) ⟨Nat.le_of_ble_eq_true rfl, Nat.le_of_ble_eq_true rfl⟩, hts (.static yX11_put) (by decide +kernel), trivial⟩ (pcS hPc hDc hKc hN) rfl rfl hl.1 rfl (lv_room (Nat.le_of_ble_eq_true rfl)) dX9_addToStart_21 ⟨Nat.le_of_ble_eq_true rfl, Nat.le_of_ble_eq_true rfl⟩) hS (fun q _ h => hFc q h) hFc (fun u t H1 locs ht hvm hw_2 hB hz1 hk1 hS => ?_)
    obtain ⟨hP1, hK1, hD1⟩ := hB
    rw [ht] at hP1
    try dsimp only at hw_2
    obtain ⟨hP, hD⟩ := va_join (wr := [(tg, .inr (14, [.int 0, .int 0, .ref ts, .ref tr, .ref tk, .ref te]))]) (w1 := [(ts, .inl (cI, 40, .inl u))]) hP hD [1] [0] rfl rfl (by decide) (by decide) hk1 hFc hP1 hD1
    generalize H1 = H at hP hS ⊢
    have hP : va_P (dC, dI) vwCl [(tg, .inr (14, [.int 0, .int 0, .ref ts, .ref tr, .ref tk, .ref te])), (ts, .inl (cI, 40, .inl u))] H := hP
    have hD : va_D A [(tg, .inr (14, [.int 0, .int 0, .ref ts, .ref tr, .ref tk, .ref te])), (ts, .inl (cI, 40, .inl u))] := hD
    obtain ⟨f_3, ef_3⟩ : ∃ z, z = u := ⟨_, rfl⟩
    subst ef_3
    refine lv_aload_n hx hb dX9_addToStart_24 rfl (lv_at hl 0 rfl) ?_
    refine lv_dup hx hb dX9_addToStart_25 rfl ?_
    refine va_get (D := (dC, dI)) (ci := 14) (v := .int 0) (C := RX9) (T := TX9) (N := 6) hx hb hts iWX9 hown hK hP 0 rfl rfl 0 (by decide) (hts (.fieldLink RX9 7 "Beaverhall$Tags" "startLength" "I") (by decide +kernel)) (fun _ h9 => h9) rfl dX9_addToStart_26 ?_
    refine lv_iconst (v := 1) hx hb dX9_addToStart_29 (by decide) ?_
    refine lv_iadd hx hb dX9_addToStart_30 ?_
    refine lv_topi (fun x_4 ex_4 => ?_)
    obtain rfl : x_4 = 1 := by rw [ex_4]; decide
    refine va_put (D := (dC, dI)) (ci := 14) (v := .int 1) (ty := .int) (C := RX9) (T := TX9) (N := 6) hx hb hts iWX9 tyX9 tyX9_ok nmX9 hown hK hP hD hS 0 rfl rfl 0 (by decide) (hts (.fieldLink RX9 7 "Beaverhall$Tags" "startLength" "I") (by decide +kernel)) (fun _ h9 => h9) rfl (by decide +kernel) rfl rfl (Nat.le_of_ble_eq_true rfl) dX9_addToStart_31 (fun H locs hP hD hS => ?_)
    have hP : va_P (dC, dI) vwCl [(tg, .inr (14, [.int 1, .int 0, .ref ts, .ref tr, .ref tk, .ref te])), (ts, .inl (cI, 40, .inl f_3))] H := hP
    have hD : va_D A [(tg, .inr (14, [.int 1, .int 0, .ref ts, .ref tr, .ref tk, .ref te])), (ts, .inl (cI, 40, .inl f_3))] := hD
    have hP9 := hP.sub (ws' := [(tg, .inr (14, [.int 1, .int 0, .ref ts, .ref tr, .ref tk, .ref te]))]) [0] rfl
    have hD9 := hD.sub (ws' := [(tg, .inr (14, [.int 1, .int 0, .ref ts, .ref tr, .ref tk, .ref te]))]) [0] (by decide) rfl
    have hK9 := hK.sub (tys' := [(cI, .int)]) [0] rfl
    exact W.vret hx hb hr (fun t ht hW => ⟨⟨(), rfl, trivial, ⟨by rw [ht]; exact hP9, va_K.moved hW.alike hK9, hD9⟩⟩, hS.F ht⟩) hS.2.2 dX9_addToStart_34

set_option maxHeartbeats 4000000 in
set_option maxRecDepth 100000 in
/-- X9_forget -/
theorem c_X9_forget (l : Launch) (dC : Nat → ClassId) (dI : Nat → Nat → Nat) (cI : ClassId) (tg ts tr tk te : Nat) (sz : Nat) : Met l yX9_forget wsX9_forget ({ frames := 1, cells := 0, slots := 0, locals := 23 }) (va_Pc [.ref tg] (cPC dC dI [(tg, .inr (14, [.int 0, .int 0, .ref ts, .ref tr, .ref tk, .ref te])), (tk, .inl (cI, 4, .inl (fun _ => 0)))] [(cI, .int)] sz)) (va_Qi (fun (r : Int32) (u : Unit) => r = 0) (fun (u : Unit) t => cQB dC dI [] [(cI, .int)] (va_A [(tg, .inr (14, [.int 0, .int 0, .ref ts, .ref tr, .ref tk, .ref te])), (tk, .inl (cI, 4, .inl (fun _ => 0)))] sz) t) (va_A [(tg, .inr (14, [.int 0, .int 0, .ref ts, .ref tr, .ref tk, .ref te])), (tk, .inl (cI, 4, .inl (fun _ => 0)))] sz)) 0 0 (va_A [(tg, .inr (14, [.int 0, .int 0, .ref ts, .ref tr, .ref tk, .ref te])), (tk, .inl (cI, 4, .inl (fun _ => 0)))] sz) := by
  refine Met.ofW (cc := cX9_forget) (maxL := 6) (ret := (some .int)) (by decide) rfl ?_
  intro p e s m args below meth c s₁ B hml hv
  obtain ⟨rfl, hsz, hP, hK, hD0, hN⟩ := hv
  have hx := B.exec
  have hb := B.bytes
  have hr := B.returns
  have hts := atoms_spec (ws := wsX9_forget) B.pre
  have hown : s.vm.findClass RX9 = some m.cls := findClass_of_methodNamed B.named
  have hlocks := B.notSynchronized
  subst hsz
  have hD := hD0.self (sz := s.heap.size)
  generalize hAe : va_A [(tg, .inr (14, [.int 0, .int 0, .ref ts, .ref tr, .ref tk, .ref te])), (tk, .inl (cI, 4, .inl (fun _ => 0)))] s.heap.size = A at hD ⊢
  have hA : ∀ q : Nat, s.heap.size ≤ q → A q := fun q h => by rw [← hAe]; exact Or.inr h
  have hS : va_S A s.heap s.heap [] := va_S.rf
  have hP : va_P (dC, dI) vwCl [(tg, .inr (14, [.int 0, .int 0, .ref ts, .ref tr, .ref tk, .ref te])), (tk, .inl (cI, 4, .inl (fun _ => 0)))] s.heap := hP
  have hD : va_D A [(tg, .inr (14, [.int 0, .int 0, .ref ts, .ref tr, .ref tk, .ref te])), (tk, .inl (cI, 4, .inl (fun _ => 0)))] := hD
  have hl := lv_entry ([.ref tg]) (n := 6) (Nat.le_of_ble_eq_true rfl)
  rw [lg_entry_eq]
  generalize (lg_sl ([.ref tg]) ++ List.replicate (6 - (lg_sl ([.ref tg])).length) Slot.unset).toArray = ls at hl ⊢
  have hl : lv_has ls 6 [(0, .ref tg)] := hl
  have iWX9 : ∀ w ∈ u_ws RX9 TX9 6, w ∈ wsX9_forget := by decide +kernel
  refine lv_aload_n hx hb dX9_forget_0 rfl (lv_at hl 0 rfl) ?_
  refine va_get (D := (dC, dI)) (ci := 14) (v := .int 0) (C := RX9) (T := TX9) (N := 6) hx hb hts iWX9 hown hK hP 0 rfl rfl 0 (by decide) (hts (.fieldLink RX9 7 "Beaverhall$Tags" "startLength" "I") (by decide +kernel)) (fun _ h9 => h9) rfl dX9_forget_1 ?_
  refine lv_istore_n (lv' := [(1, .int 0), (0, .ref tg)]) hx hb dX9_forget_4 rfl hl (by decide) rfl (fun ls hl => ?_)
  refine lv_aload_n hx hb dX9_forget_5 rfl (lv_at hl 1 rfl) ?_
  refine va_get (D := (dC, dI)) (ci := 14) (v := .ref tk) (C := RX9) (T := TX9) (N := 6) hx hb hts iWX9 hown hK hP 0 rfl rfl 4 (by decide) (hts (.fieldLink RX9 23 "Beaverhall$Tags" "rowLengths" "[I") (by decide +kernel)) (fun _ h9 => h9) rfl dX9_forget_6 ?_
  refine lv_astore_n (lv' := [(2, .ref tk), (1, .int 0), (0, .ref tg)]) hx hb dX9_forget_9 rfl hl (by decide) rfl (fun ls hl => ?_)
  refine lv_aload_n hx hb dX9_forget_10 rfl (lv_at hl 0 rfl) ?_
  refine va_alen hx hb hK hP 1 0 rfl rfl (v := 4) (by rfl) dX9_forget_11 ?_
  refine lv_istore_n (lv' := [(3, .int 4), (2, .ref tk), (1, .int 0), (0, .ref tg)]) hx hb dX9_forget_12 rfl hl (by decide) rfl (fun ls hl => ?_)
  refine lv_iconst (v := 0) hx hb dX9_forget_13 (by decide) ?_
  refine lv_istore (lv' := [(4, .int 0), (3, .int 4), (2, .ref tk), (1, .int 0), (0, .ref tg)]) hx hb dX9_forget_14 hl (by decide) rfl (fun ls hl => ?_)
  refine lp_go (σ := Nat × Int32) (fun x => match x with | (j_16, z_16) => j_16 ≤ 4 ∧ z_16 = 0) (fun x => match x with | (j_16, z_16) => 4 - j_16) (fun x => [(tg, .inr (14, [.int 0, .int 0, .ref ts, .ref tr, .ref tk, .ref te])), (tk, .inl (cI, 4, .inl (fun _ => 0)))]) (fun x => [(0, .ref tg), (1, .int x.2), (2, .ref tk), (3, .int 4), (4, .int (nI x.1))]) (fun _ => []) (fun x hI ih16 H locs hP hD hS ls hl => ?_) (0, 0) ⟨Nat.zero_le _, rfl⟩ (hP.sub [0, 1] rfl) (hD.sub [0, 1] (by decide) rfl) hS (lv_sub hl [4, 3, 2, 1, 0] rfl)
  obtain ⟨j_16, z_16⟩ := x
  have hP : va_P (dC, dI) vwCl [(tg, .inr (14, [.int 0, .int 0, .ref ts, .ref tr, .ref tk, .ref te])), (tk, .inl (cI, 4, .inl (fun _ => 0)))] H := hP
  have hD : va_D A [(tg, .inr (14, [.int 0, .int 0, .ref ts, .ref tr, .ref tk, .ref te])), (tk, .inl (cI, 4, .inl (fun _ => 0)))] := hD
  have hl : lv_has ls 6 [(0, .ref tg), (1, .int z_16), (2, .ref tk), (3, .int 4), (4, .int (nI j_16))] := hl
  try dsimp only at hI
  have ih16 := ih16
  refine lv_iload hx hb dX9_forget_16 (lv_at hl 4 rfl) ?_
  refine lv_iload_n hx hb dX9_forget_18 rfl (lv_at hl 3 rfl) ?_
  refine lv_icmp_ge (tgt := 39) hx hb dX9_forget_19 (by decide) (fun c19_1 => ?_) (fun c19_1 => ?_)
  · refine lv_aload_n hx hb dX9_forget_39 rfl (lv_at hl 0 rfl) ?_
    refine lv_iconst (v := 0) hx hb dX9_forget_40 (by decide) ?_
    refine va_put (D := (dC, dI)) (ci := 14) (v := .int 0) (ty := .int) (C := RX9) (T := TX9) (N := 6) hx hb hts iWX9 tyX9 tyX9_ok nmX9 hown hK hP hD hS 0 rfl rfl 0 (by decide) (hts (.fieldLink RX9 7 "Beaverhall$Tags" "startLength" "I") (by decide +kernel)) (fun _ h9 => h9) rfl (by decide +kernel) rfl rfl (Nat.le_of_ble_eq_true rfl) dX9_forget_41 (fun H locs hP hD hS => ?_)
    have hP : va_P (dC, dI) vwCl [(tg, .inr (14, [.int 0, .int 0, .ref ts, .ref tr, .ref tk, .ref te])), (tk, .inl (cI, 4, .inl (fun _ => 0)))] H := hP
    have hD : va_D A [(tg, .inr (14, [.int 0, .int 0, .ref ts, .ref tr, .ref tk, .ref te])), (tk, .inl (cI, 4, .inl (fun _ => 0)))] := hD
    refine lv_aload_n hx hb dX9_forget_44 rfl (lv_at hl 0 rfl) ?_
    refine va_get (D := (dC, dI)) (ci := 14) (v := .ref tk) (C := RX9) (T := TX9) (N := 6) hx hb hts iWX9 hown hK hP 0 rfl rfl 4 (by decide) (hts (.fieldLink RX9 23 "Beaverhall$Tags" "rowLengths" "[I") (by decide +kernel)) (fun _ h9 => h9) rfl dX9_forget_45 ?_
    refine lv_iconst (v := 0) hx hb dX9_forget_48 (by decide) ?_
    have hPc := hP.sub (ws' := [(tk, .inl (cI, 4, .inl (fun _ => 0)))]) [1] rfl
    have hDc := hD.sub (ws' := [(tk, .inl (cI, 4, .inl (fun _ => 0)))]) [1] (by decide) rfl
    have hKc := hK.sub (tys' := [(cI, .int)]) [0] rfl
    have hFc := va_free (wc := [(tk, .inl (cI, 4, .inl (fun _ => 0)))]) hD hS hA [1] rfl
    refine va_callv (va_runS (As := [.ref tk, .int 0]) (rest := []) ⟨hx, hb, hml, hown, hts⟩ (c_J7_fill_53178 l dC dI cI tk 4 (fun _ => 0) 0 (by decide) H.size) (va_cwS 2 hts gX9_forget_J7_fill_53178 rfl rfl rfl (by decide +kernel) ⟨Nat.le_of_ble_eq_true rfl, Nat.le_of_ble_eq_true rfl⟩) (pcS hPc hDc hKc hN) rfl rfl hl.1 rfl (lv_room (Nat.le_of_ble_eq_true rfl)) dX9_forget_49 ⟨Nat.le_of_ble_eq_true rfl, Nat.le_of_ble_eq_true rfl⟩) hS (fun q _ h => hFc q h) hFc (fun u t H1 locs ht hvm hw_3 hB hz1 hk1 hS => ?_)
    obtain ⟨hP1, hK1, hD1⟩ := hB
    rw [ht] at hP1
    try dsimp only at hw_3
    obtain ⟨hP, hD⟩ := va_join (wr := [(tg, .inr (14, [.int 0, .int 0, .ref ts, .ref tr, .ref tk, .ref te]))]) (w1 := [(tk, .inl (cI, 4, .inl u))]) hP hD [1] [0] rfl rfl (by decide) (by decide) hk1 hFc hP1 hD1
    generalize H1 = H at hP hS ⊢
    have hP : va_P (dC, dI) vwCl [(tg, .inr (14, [.int 0, .int 0, .ref ts, .ref tr, .ref tk, .ref te])), (tk, .inl (cI, 4, .inl u))] H := hP
    have hD : va_D A [(tg, .inr (14, [.int 0, .int 0, .ref ts, .ref tr, .ref tk, .ref te])), (tk, .inl (cI, 4, .inl u))] := hD
    obtain ⟨f_2, ef_2⟩ : ∃ z, z = u := ⟨_, rfl⟩
    subst ef_2
    refine lv_iload_n hx hb dX9_forget_52 rfl (lv_at hl 1 rfl) ?_
    have hP9 := hP.sub (ws' := []) [] rfl
    have hD9 := hD.sub (ws' := []) [] (by decide) rfl
    have hK9 := hK.sub (tys' := [(cI, .int)]) [0] rfl
    exact W.iret (v := z_16) hx hb hr (fun t ht hW => ⟨⟨z_16, (), rfl, hI.2, ⟨by rw [ht]; exact hP9, va_K.moved hW.alike hK9, hD9⟩⟩, hS.F ht⟩) hS.2.2 dX9_forget_53
  · have hj : j_16 < 4 := nI_step (by decide) hI.1 c19_1
    refine lv_aload_n hx hb dX9_forget_22 rfl (lv_at hl 2 rfl) ?_
    refine lv_iload hx hb dX9_forget_23 (lv_at hl 4 rfl) ?_
    refine va_iald hx hb hK hP 1 0 rfl rfl (vp_in_nI hj (by decide)) dX9_forget_25 ?_
    refine lv_topi (fun x_4 ex_4 => ?_)
    refine lv_istore (lv' := [(5, .int x_4), (0, .ref tg), (1, .int z_16), (2, .ref tk), (3, .int 4), (4, .int (nI j_16))]) hx hb dX9_forget_26 hl (by decide) rfl (fun ls hl => ?_)
    refine lv_iload_n hx hb dX9_forget_28 rfl (lv_at hl 2 rfl) ?_
    refine lv_iload hx hb dX9_forget_29 (lv_at hl 0 rfl) ?_
    refine lv_iadd hx hb dX9_forget_31 ?_
    refine lv_topi (fun x_5 ex_5 => ?_)
    refine lv_istore_n (lv' := [(1, .int x_5), (5, .int x_4), (0, .ref tg), (2, .ref tk), (3, .int 4), (4, .int (nI j_16))]) hx hb dX9_forget_32 rfl hl (by decide) rfl (fun ls hl => ?_)
    obtain ⟨y_6, ey_6⟩ : ∃ y : Int32, y = (nI j_16) + 1 := ⟨_, rfl⟩
    refine lv_iinc (v := y_6) (lv' := [(4, .int y_6), (1, .int x_5), (5, .int x_4), (0, .ref tg), (2, .ref tk), (3, .int 4)]) hx hb dX9_forget_33 hl (k := 5) rfl (by rw [ey_6]; rfl) (by decide) rfl (fun ls hl => ?_)
    obtain rfl : y_6 = nI (j_16 + 1) := by rw [ey_6]; exact nI_1 _
    refine lv_goto (tgt := 16) hx hb dX9_forget_36 (by decide) ?_
    exact ih16 ((j_16 + 1), x_5) ⟨hj, by rw [ex_5, hI.2, ex_4]; decide⟩ (by show 4 - (j_16 + 1) < 4 - j_16; omega) _ _ (hP.sub [0, 1] rfl) (hD.sub [0, 1] (by decide) rfl) hS ls (lv_sub hl [3, 1, 4, 5, 0] rfl)

set_option maxHeartbeats 4000000 in
set_option maxRecDepth 100000 in
/-- X9_step -/
theorem c_X9_step (l : Launch) (dC : Nat → ClassId) (dI : Nat → Nat → Nat) (cI : ClassId) (tg ts tr tk te : Nat) (f1 : Nat → Int32) (n0 : Int32) (hn : n0 = 2 ∨ n0 = 3) (sz : Nat) : Met l yX9_step wsX9_step ({ frames := 1, cells := 0, slots := 0, locals := 21 }) (va_Pc [.ref tg, .int n0] (cPC dC dI [(tg, .inr (14, [.int 0, .int 0, .ref ts, .ref tr, .ref tk, .ref te])), (tk, .inl (cI, 4, .inl (fun _ => 0))), (te, .inl (cI, 400, .inl f1))] [(cI, .int)] sz)) (va_Qi (fun (r : Int32) (u : Unit) => r = 0) (fun (u : Unit) t => cQB dC dI [(tg, .inr (14, [.int 0, .int 0, .ref ts, .ref tr, .ref tk, .ref te])), (tk, .inl (cI, 4, .inl (fun _ => 0))), (te, .inl (cI, 400, .inl f1))] [(cI, .int)] (va_A [(tg, .inr (14, [.int 0, .int 0, .ref ts, .ref tr, .ref tk, .ref te])), (tk, .inl (cI, 4, .inl (fun _ => 0))), (te, .inl (cI, 400, .inl f1))] sz) t) (va_A [(tg, .inr (14, [.int 0, .int 0, .ref ts, .ref tr, .ref tk, .ref te])), (tk, .inl (cI, 4, .inl (fun _ => 0))), (te, .inl (cI, 400, .inl f1))] sz)) 0 0 (va_A [(tg, .inr (14, [.int 0, .int 0, .ref ts, .ref tr, .ref tk, .ref te])), (tk, .inl (cI, 4, .inl (fun _ => 0))), (te, .inl (cI, 400, .inl f1))] sz) := by
  refine Met.ofW (cc := cX9_step) (maxL := 6) (ret := (some .boolean)) (by decide) rfl ?_
  intro p e s m args below meth c s₁ B hml hv
  obtain ⟨rfl, hsz, hP, hK, hD0, hN⟩ := hv
  have hx := B.exec
  have hb := B.bytes
  have hr := B.returns
  have hts := atoms_spec (ws := wsX9_step) B.pre
  have hown : s.vm.findClass RX9 = some m.cls := findClass_of_methodNamed B.named
  have hlocks := B.notSynchronized
  subst hsz
  have hD := hD0.self (sz := s.heap.size)
  generalize hAe : va_A [(tg, .inr (14, [.int 0, .int 0, .ref ts, .ref tr, .ref tk, .ref te])), (tk, .inl (cI, 4, .inl (fun _ => 0))), (te, .inl (cI, 400, .inl f1))] s.heap.size = A at hD ⊢
  have hA : ∀ q : Nat, s.heap.size ≤ q → A q := fun q h => by rw [← hAe]; exact Or.inr h
  have hS : va_S A s.heap s.heap [] := va_S.rf
  have hP : va_P (dC, dI) vwCl [(tg, .inr (14, [.int 0, .int 0, .ref ts, .ref tr, .ref tk, .ref te])), (tk, .inl (cI, 4, .inl (fun _ => 0))), (te, .inl (cI, 400, .inl f1))] s.heap := hP
  have hD : va_D A [(tg, .inr (14, [.int 0, .int 0, .ref ts, .ref tr, .ref tk, .ref te])), (tk, .inl (cI, 4, .inl (fun _ => 0))), (te, .inl (cI, 400, .inl f1))] := hD
  have hl := lv_entry ([.ref tg, .int n0]) (n := 6) (Nat.le_of_ble_eq_true rfl)
  rw [lg_entry_eq]
  generalize (lg_sl ([.ref tg, .int n0]) ++ List.replicate (6 - (lg_sl ([.ref tg, .int n0])).length) Slot.unset).toArray = ls at hl ⊢
  have hl : lv_has ls 6 [(0, .ref tg), (1, .int n0)] := hl
  have iWX9 : ∀ w ∈ u_ws RX9 TX9 6, w ∈ wsX9_step := by decide +kernel
  refine lv_aload_n hx hb dX9_step_0 rfl (lv_at hl 0 rfl) ?_
  refine va_get (D := (dC, dI)) (ci := 14) (v := .ref te) (C := RX9) (T := TX9) (N := 6) hx hb hts iWX9 hown hK hP 0 rfl rfl 5 (by decide) (hts (.fieldLink RX9 26 "Beaverhall$Tags" "letters" "[I") (by decide +kernel)) (fun _ h9 => h9) rfl dX9_step_1 ?_
  refine lv_iconst (v := 0) hx hb dX9_step_4 (by decide) ?_
  have hPc := hP.sub (ws' := [(te, .inl (cI, 400, .inl f1))]) [2] rfl
  have hDc := hD.sub (ws' := [(te, .inl (cI, 400, .inl f1))]) [2] (by decide) rfl
  have hKc := hK.sub (tys' := [(cI, .int)]) [0] rfl
  have hFc := va_free (wc := [(te, .inl (cI, 400, .inl f1))]) hD hS hA [2] rfl
  refine va_calli (va_runSN (As := [.ref te, .int 0]) (rest := []) ⟨hx, hb, hml, hown, hts⟩ (c_X11_at l dC dI cI te 400 f1 0 (by decide) s.heap.size) ⟨va_cnB 2 hts gX9_step_X11_at_n29 rfl rfl rfl (hN (.methodLinkNest RX9 29 yX11_at "Beaverhall") (by decide +kernel)) (hts (.initialized RX11) (by decide +kernel)) (by decide +kernel) ⟨Nat.le_of_ble_eq_true rfl, Nat.le_of_ble_eq_true rfl⟩, hts (.static yX11_at) (by decide +kernel), trivial⟩ (pcS hPc hDc hKc hN) rfl rfl hl.1 rfl (lv_room (Nat.le_of_ble_eq_true rfl)) dX9_step_5 ⟨Nat.le_of_ble_eq_true rfl, Nat.le_of_ble_eq_true rfl⟩) hS (fun q _ h => hFc q h) hFc (fun r_1 u t H1 locs ht hvm hw_2 hB hz1 hk1 hS => ?_)
  obtain ⟨hP1, hK1, hD1⟩ := hB
  rw [ht] at hP1
  try dsimp only at hw_2
  obtain ⟨hP, hD⟩ := va_join (wr := [(tg, .inr (14, [.int 0, .int 0, .ref ts, .ref tr, .ref tk, .ref te])), (tk, .inl (cI, 4, .inl (fun _ => 0)))]) (w1 := [(te, .inl (cI, 400, .inl f1))]) hP hD [2] [0, 1] rfl rfl (by decide) (by decide) hk1 hFc hP1 hD1
  generalize H1 = H at hP hS ⊢
  have hP : va_P (dC, dI) vwCl [(tg, .inr (14, [.int 0, .int 0, .ref ts, .ref tr, .ref tk, .ref te])), (tk, .inl (cI, 4, .inl (fun _ => 0))), (te, .inl (cI, 400, .inl f1))] H := hP
  have hD : va_D A [(tg, .inr (14, [.int 0, .int 0, .ref ts, .ref tr, .ref tk, .ref te])), (tk, .inl (cI, 4, .inl (fun _ => 0))), (te, .inl (cI, 400, .inl f1))] := hD
  refine lv_istore_n (lv' := [(2, .int r_1), (0, .ref tg), (1, .int n0)]) hx hb dX9_step_8 rfl hl (by decide) rfl (fun ls hl => ?_)
  refine lv_aload_n hx hb dX9_step_9 rfl (lv_at hl 1 rfl) ?_
  refine va_get (D := (dC, dI)) (ci := 14) (v := .int 0) (C := RX9) (T := TX9) (N := 6) hx hb hts iWX9 hown hK hP 0 rfl rfl 1 (by decide) (hts (.fieldLink RX9 13 "Beaverhall$Tags" "length" "I") (by decide +kernel)) (fun _ h9 => h9) rfl dX9_step_10 ?_
  refine lv_iload_n hx hb dX9_step_13 rfl (lv_at hl 2 rfl) ?_
  refine lv_isub hx hb dX9_step_14 ?_
  refine lv_topi (fun x_3 ex_3 => ?_)
  refine lv_istore_n (lv' := [(3, .int x_3), (2, .int r_1), (0, .ref tg), (1, .int n0)]) hx hb dX9_step_15 rfl hl (by decide) rfl (fun ls hl => ?_)
  refine lv_iload_n hx hb dX9_step_16 rfl (lv_at hl 0 rfl) ?_
  refine lv_aload_n hx hb dX9_step_17 rfl (lv_at hl 2 rfl) ?_
  refine va_get (D := (dC, dI)) (ci := 14) (v := .ref tk) (C := RX9) (T := TX9) (N := 6) hx hb hts iWX9 hown hK hP 0 rfl rfl 4 (by decide) (hts (.fieldLink RX9 23 "Beaverhall$Tags" "rowLengths" "[I") (by decide +kernel)) (fun _ h9 => h9) rfl dX9_step_18 ?_
  refine lv_iload_n hx hb dX9_step_21 rfl (lv_at hl 1 rfl) ?_
  have hPc := hP.sub (ws' := [(tk, .inl (cI, 4, .inl (fun _ => 0)))]) [1] rfl
  have hDc := hD.sub (ws' := [(tk, .inl (cI, 4, .inl (fun _ => 0)))]) [1] (by decide) rfl
  have hKc := hK.sub (tys' := [(cI, .int)]) [0] rfl
  have hFc := va_free (wc := [(tk, .inl (cI, 4, .inl (fun _ => 0)))]) hD hS hA [1] rfl
  refine va_calli (va_runSN (As := [.ref tk, .int r_1]) (rest := [.int x_3]) ⟨hx, hb, hml, hown, hts⟩ (c_X11_at l dC dI cI tk 4 (fun _ => 0) r_1 (by decide) H.size) ⟨va_cnB 2 hts gX9_step_X11_at_n29 rfl rfl rfl (hN (.methodLinkNest RX9 29 yX11_at "Beaverhall") (by decide +kernel)) (hts (.initialized RX11) (by decide +kernel)) (by decide +kernel) ⟨Nat.le_of_ble_eq_true rfl, Nat.le_of_ble_eq_true rfl⟩, hts (.static yX11_at) (by decide +kernel), trivial⟩ (pcS hPc hDc hKc hN) rfl rfl hl.1 rfl (lv_room (Nat.le_of_ble_eq_true rfl)) dX9_step_22 ⟨Nat.le_of_ble_eq_true rfl, Nat.le_of_ble_eq_true rfl⟩) hS (fun q _ h => hFc q h) hFc (fun r_4 u t H1 locs ht hvm hw_5 hB hz1 hk1 hS => ?_)
  obtain ⟨hP1, hK1, hD1⟩ := hB
  rw [ht] at hP1
  try dsimp only at hw_5
  obtain ⟨hP, hD⟩ := va_join (wr := [(tg, .inr (14, [.int 0, .int 0, .ref ts, .ref tr, .ref tk, .ref te])), (te, .inl (cI, 400, .inl f1))]) (w1 := [(tk, .inl (cI, 4, .inl (fun _ => 0)))]) hP hD [1] [0, 2] rfl rfl (by decide) (by decide) hk1 hFc hP1 hD1
  generalize H1 = H at hP hS ⊢
  have hP : va_P (dC, dI) vwCl [(tg, .inr (14, [.int 0, .int 0, .ref ts, .ref tr, .ref tk, .ref te])), (te, .inl (cI, 400, .inl f1)), (tk, .inl (cI, 4, .inl (fun _ => 0)))] H := hP
  have hD : va_D A [(tg, .inr (14, [.int 0, .int 0, .ref ts, .ref tr, .ref tk, .ref te])), (te, .inl (cI, 400, .inl f1)), (tk, .inl (cI, 4, .inl (fun _ => 0)))] := hD
  refine lv_iadd hx hb dX9_step_25 ?_
  refine lv_topi (fun x_6 ex_6 => ?_)
  refine lv_istore (lv' := [(4, .int x_6), (3, .int x_3), (2, .int r_1), (0, .ref tg), (1, .int n0)]) hx hb dX9_step_26 hl (by decide) rfl (fun ls hl => ?_)
  refine lv_iload_n hx hb dX9_step_28 rfl (lv_at hl 1 rfl) ?_
  refine lv_if_lt (tgt := 40) hx hb dX9_step_29 (by decide) (fun c29_7 => ?_) (fun c29_7 => ?_)
  · refine lv_iconst (v := 0) hx hb dX9_step_40 (by decide) ?_
    have hP9 := hP.sub (ws' := [(tg, .inr (14, [.int 0, .int 0, .ref ts, .ref tr, .ref tk, .ref te])), (tk, .inl (cI, 4, .inl (fun _ => 0))), (te, .inl (cI, 400, .inl f1))]) [0, 2, 1] rfl
    have hD9 := hD.sub (ws' := [(tg, .inr (14, [.int 0, .int 0, .ref ts, .ref tr, .ref tk, .ref te])), (tk, .inl (cI, 4, .inl (fun _ => 0))), (te, .inl (cI, 400, .inl f1))]) [0, 2, 1] (by decide) rfl
    have hK9 := hK.sub (tys' := [(cI, .int)]) [0] rfl
    exact W.zret (v := 0) hx hb hr (by rfl) (fun t ht hW => ⟨⟨0, (), rfl, rfl, ⟨by rw [ht]; exact hP9, va_K.moved hW.alike hK9, hD9⟩⟩, hS.F ht⟩) hS.2.2 dX9_step_41
  · exact absurd (by rw [ex_3]; rcases hn with rfl | rfl <;> decide) c29_7

set_option maxHeartbeats 4000000 in
set_option maxRecDepth 100000 in
/-- X9_go -/
theorem c_X9_go (l : Launch) (dC : Nat → ClassId) (dI : Nat → Nat → Nat) (cI : ClassId) (tg ts tr tk te : Nat) (f1 f2 : Nat → Int32) (n0 k : Int32) (hn : n0 = 2 ∨ n0 = 3) (hk : 0 ≤ k) (sz : Nat) : Met l yX9_go wsX9_go ({ frames := 2, cells := 0, slots := 0, locals := 60 }) (va_Pc [.ref tg, .int n0, .int k] (cPC dC dI [(tg, .inr (14, [.int 0, .int 0, .ref ts, .ref tr, .ref tk, .ref te])), (ts, .inl (cI, 40, .inl f1)), (tk, .inl (cI, 4, .inl (fun _ => 0))), (te, .inl (cI, 400, .inl f2))] [(cI, .int)] sz)) (va_Qi (fun (r : Int32) (u : Unit) => r = 0) (fun (u : Unit) t => cQB dC dI [] [(cI, .int)] (va_A [(tg, .inr (14, [.int 0, .int 0, .ref ts, .ref tr, .ref tk, .ref te])), (ts, .inl (cI, 40, .inl f1)), (tk, .inl (cI, 4, .inl (fun _ => 0))), (te, .inl (cI, 400, .inl f2))] sz) t) (va_A [(tg, .inr (14, [.int 0, .int 0, .ref ts, .ref tr, .ref tk, .ref te])), (ts, .inl (cI, 40, .inl f1)), (tk, .inl (cI, 4, .inl (fun _ => 0))), (te, .inl (cI, 400, .inl f2))] sz)) 0 0 (va_A [(tg, .inr (14, [.int 0, .int 0, .ref ts, .ref tr, .ref tk, .ref te])), (ts, .inl (cI, 40, .inl f1)), (tk, .inl (cI, 4, .inl (fun _ => 0))), (te, .inl (cI, 400, .inl f2))] sz) := by
  refine Met.ofW (cc := cX9_go) (maxL := 4) (ret := (some .int)) (by decide) rfl ?_
  intro p e s m args below meth c s₁ B hml hv
  obtain ⟨rfl, hsz, hP, hK, hD0, hN⟩ := hv
  have hx := B.exec
  have hb := B.bytes
  have hr := B.returns
  have hts := atoms_spec (ws := wsX9_go) B.pre
  have hown : s.vm.findClass RX9 = some m.cls := findClass_of_methodNamed B.named
  have hlocks := B.notSynchronized
  subst hsz
  have hD := hD0.self (sz := s.heap.size)
  generalize hAe : va_A [(tg, .inr (14, [.int 0, .int 0, .ref ts, .ref tr, .ref tk, .ref te])), (ts, .inl (cI, 40, .inl f1)), (tk, .inl (cI, 4, .inl (fun _ => 0))), (te, .inl (cI, 400, .inl f2))] s.heap.size = A at hD ⊢
  have hA : ∀ q : Nat, s.heap.size ≤ q → A q := fun q h => by rw [← hAe]; exact Or.inr h
  have hS : va_S A s.heap s.heap [] := va_S.rf
  have hP : va_P (dC, dI) vwCl [(tg, .inr (14, [.int 0, .int 0, .ref ts, .ref tr, .ref tk, .ref te])), (ts, .inl (cI, 40, .inl f1)), (tk, .inl (cI, 4, .inl (fun _ => 0))), (te, .inl (cI, 400, .inl f2))] s.heap := hP
  have hD : va_D A [(tg, .inr (14, [.int 0, .int 0, .ref ts, .ref tr, .ref tk, .ref te])), (ts, .inl (cI, 40, .inl f1)), (tk, .inl (cI, 4, .inl (fun _ => 0))), (te, .inl (cI, 400, .inl f2))] := hD
  have hl := lv_entry ([.ref tg, .int n0, .int k]) (n := 4) (Nat.le_of_ble_eq_true rfl)
  rw [lg_entry_eq]
  generalize (lg_sl ([.ref tg, .int n0, .int k]) ++ List.replicate (4 - (lg_sl ([.ref tg, .int n0, .int k])).length) Slot.unset).toArray = ls at hl ⊢
  have hl : lv_has ls 4 [(0, .ref tg), (1, .int n0), (2, .int k)] := hl
  have iWX9 : ∀ w ∈ u_ws RX9 TX9 6, w ∈ wsX9_go := by decide +kernel
  refine lv_aload_n hx hb dX9_go_0 rfl (lv_at hl 0 rfl) ?_
  refine lv_aload_n hx hb dX9_go_1 rfl (lv_at hl 0 rfl) ?_
  refine va_get (D := (dC, dI)) (ci := 14) (v := .int 0) (C := RX9) (T := TX9) (N := 6) hx hb hts iWX9 hown hK hP 0 rfl rfl 0 (by decide) (hts (.fieldLink RX9 7 "Beaverhall$Tags" "startLength" "I") (by decide +kernel)) (fun _ h9 => h9) rfl dX9_go_2 ?_
  refine va_put (D := (dC, dI)) (ci := 14) (v := .int 0) (ty := .int) (C := RX9) (T := TX9) (N := 6) hx hb hts iWX9 tyX9 tyX9_ok nmX9 hown hK hP hD hS 0 rfl rfl 1 (by decide) (hts (.fieldLink RX9 13 "Beaverhall$Tags" "length" "I") (by decide +kernel)) (fun _ h9 => h9) rfl (by decide +kernel) rfl rfl (Nat.le_of_ble_eq_true rfl) dX9_go_5 (fun H locs hP hD hS => ?_)
  have hP : va_P (dC, dI) vwCl [(tg, .inr (14, [.int 0, .int 0, .ref ts, .ref tr, .ref tk, .ref te])), (ts, .inl (cI, 40, .inl f1)), (tk, .inl (cI, 4, .inl (fun _ => 0))), (te, .inl (cI, 400, .inl f2))] H := hP
  have hD : va_D A [(tg, .inr (14, [.int 0, .int 0, .ref ts, .ref tr, .ref tk, .ref te])), (ts, .inl (cI, 40, .inl f1)), (tk, .inl (cI, 4, .inl (fun _ => 0))), (te, .inl (cI, 400, .inl f2))] := hD
  refine lv_aload_n hx hb dX9_go_8 rfl (lv_at hl 0 rfl) ?_
  refine va_get (D := (dC, dI)) (ci := 14) (v := .ref ts) (C := RX9) (T := TX9) (N := 6) hx hb hts iWX9 hown hK hP 0 rfl rfl 2 (by decide) (hts (.fieldLink RX9 16 "Beaverhall$Tags" "start" "[I") (by decide +kernel)) (fun _ h9 => h9) rfl dX9_go_9 ?_
  refine lv_iconst (v := 0) hx hb dX9_go_12 (by decide) ?_
  refine lv_aload_n hx hb dX9_go_13 rfl (lv_at hl 0 rfl) ?_
  refine va_get (D := (dC, dI)) (ci := 14) (v := .ref te) (C := RX9) (T := TX9) (N := 6) hx hb hts iWX9 hown hK hP 0 rfl rfl 5 (by decide) (hts (.fieldLink RX9 26 "Beaverhall$Tags" "letters" "[I") (by decide +kernel)) (fun _ h9 => h9) rfl dX9_go_14 ?_
  refine lv_iconst (v := 0) hx hb dX9_go_17 (by decide) ?_
  refine lv_bipush (v := 40) hx hb dX9_go_18 (by decide) ?_
  refine va_copyi hx hb (hml.trans hl.1.symm) hown (hts (.methodLink RX9 45 arraycopyName) (by decide +kernel)) (hts (.native arraycopyName) (by decide +kernel)) (hts (.static arraycopyName) (by decide +kernel)) (hts (.initialized "java/lang/System") (by decide +kernel)) hK hP hD hS 1 3 0 0 rfl rfl rfl rfl rfl (sp := 0) (dp := 0) (n := 40) (by decide +kernel) (by decide +kernel) (by decide +kernel) (by decide +kernel) (by decide +kernel) (fun _ _ => rfl) (Nat.le_of_ble_eq_true rfl) (by decide +kernel) dX9_go_20 (fun H locs hP hD hS => ?_)
  obtain ⟨f_1, ef_1⟩ : ∃ z, z = (va_cpy f1 f2 (0 : Int32).toNatClampNeg (0 : Int32).toNatClampNeg (40 : Int32).toNatClampNeg) := ⟨_, rfl⟩
  have hP : va_P (dC, dI) vwCl [(tg, .inr (14, [.int 0, .int 0, .ref ts, .ref tr, .ref tk, .ref te])), (ts, .inl (cI, 40, .inl f1)), (tk, .inl (cI, 4, .inl (fun _ => 0))), (te, .inl (cI, 400, .inl f_1))] H := by rw [ef_1]; exact hP
  have hD : va_D A [(tg, .inr (14, [.int 0, .int 0, .ref ts, .ref tr, .ref tk, .ref te])), (ts, .inl (cI, 40, .inl f1)), (tk, .inl (cI, 4, .inl (fun _ => 0))), (te, .inl (cI, 400, .inl f_1))] := by rw [ef_1]; exact hD
  refine lv_iconst (v := 0) hx hb dX9_go_23 (by decide) ?_
  refine lv_istore_n (lv' := [(3, .int 0), (0, .ref tg), (1, .int n0), (2, .int k)]) hx hb dX9_go_24 rfl hl (by decide) rfl (fun ls hl => ?_)
  refine lv_iload_n hx hb dX9_go_25 rfl (lv_at hl 0 rfl) ?_
  refine lv_iload_n hx hb dX9_go_26 rfl (lv_at hl 3 rfl) ?_
  refine lv_icmp_ge (tgt := 46) hx hb dX9_go_27 (by decide) (fun c27_2 => ?_) (fun c27_2 => ?_)
  · refine lv_iload_n hx hb dX9_go_46 rfl (lv_at hl 3 rfl) ?_
    have hP9 := hP.sub (ws' := []) [] rfl
    have hD9 := hD.sub (ws' := []) [] (by decide) rfl
    have hK9 := hK.sub (tys' := [(cI, .int)]) [0] rfl
    exact W.iret (v := k) hx hb hr (fun t ht hW => ⟨⟨k, (), rfl, (Int32.le_antisymm c27_2 hk), ⟨by rw [ht]; exact hP9, va_K.moved hW.alike hK9, hD9⟩⟩, hS.F ht⟩) hS.2.2 dX9_go_47
  · refine lv_aload_n hx hb dX9_go_30 rfl (lv_at hl 1 rfl) ?_
    refine lv_iload_n hx hb dX9_go_31 rfl (lv_at hl 2 rfl) ?_
    have hPc := hP.sub (ws' := [(tg, .inr (14, [.int 0, .int 0, .ref ts, .ref tr, .ref tk, .ref te])), (tk, .inl (cI, 4, .inl (fun _ => 0))), (te, .inl (cI, 400, .inl f_1))]) [0, 2, 3] rfl
    have hDc := hD.sub (ws' := [(tg, .inr (14, [.int 0, .int 0, .ref ts, .ref tr, .ref tk, .ref te])), (tk, .inl (cI, 4, .inl (fun _ => 0))), (te, .inl (cI, 400, .inl f_1))]) [0, 2, 3] (by decide) rfl
    have hKc := hK.sub (tys' := [(cI, .int)]) [0] rfl
    have hFc := va_free (wc := [(tg, .inr (14, [.int 0, .int 0, .ref ts, .ref tr, .ref tk, .ref te])), (tk, .inl (cI, 4, .inl (fun _ => 0))), (te, .inl (cI, 400, .inl f_1))]) hD hS hA [0, 2, 3] rfl
    refine va_calli (va_runV (As := [.int n0]) (rest := []) ⟨hx, hb, hml, hown, hts⟩ (c_X9_step l dC dI cI tg ts tr tk te f_1 n0 hn H.size) (cwV 1 hts gX9_go_X9_step rfl rfl rfl (by decide +kernel) ⟨Nat.le_of_ble_eq_true rfl, Nat.le_of_ble_eq_true rfl⟩) (pcV hPc hDc hKc hN (ci := 14) (q0 := 0) rfl rfl) rfl rfl hl.1 rfl (lv_room (Nat.le_of_ble_eq_true rfl)) dX9_go_32 ⟨Nat.le_of_ble_eq_true rfl, Nat.le_of_ble_eq_true rfl⟩) hS (fun q _ h => hFc q h) hFc (fun r_3 u t H1 locs ht hvm hw_4 hB hz1 hk1 hS => ?_)
    obtain ⟨hP1, hK1, hD1⟩ := hB
    rw [ht] at hP1
    try dsimp only at hw_4
    obtain ⟨hP, hD⟩ := va_join (wr := [(ts, .inl (cI, 40, .inl f1))]) (w1 := [(tg, .inr (14, [.int 0, .int 0, .ref ts, .ref tr, .ref tk, .ref te])), (tk, .inl (cI, 4, .inl (fun _ => 0))), (te, .inl (cI, 400, .inl f_1))]) hP hD [0, 2, 3] [1] rfl rfl (by decide) (by decide) hk1 hFc hP1 hD1
    generalize H1 = H at hP hS ⊢
    have hP : va_P (dC, dI) vwCl [(ts, .inl (cI, 40, .inl f1)), (tg, .inr (14, [.int 0, .int 0, .ref ts, .ref tr, .ref tk, .ref te])), (tk, .inl (cI, 4, .inl (fun _ => 0))), (te, .inl (cI, 400, .inl f_1))] H := hP
    have hD : va_D A [(ts, .inl (cI, 40, .inl f1)), (tg, .inr (14, [.int 0, .int 0, .ref ts, .ref tr, .ref tk, .ref te])), (tk, .inl (cI, 4, .inl (fun _ => 0))), (te, .inl (cI, 400, .inl f_1))] := hD
    refine lv_if_ne (tgt := 40) hx hb dX9_go_35 (by decide) (fun c35_5 => ?_) (fun c35_5 => ?_)
    · exact absurd hw_4 c35_5
    · refine lv_iload_n hx hb dX9_go_38 rfl (lv_at hl 0 rfl) ?_
      have hP9 := hP.sub (ws' := []) [] rfl
      have hD9 := hD.sub (ws' := []) [] (by decide) rfl
      have hK9 := hK.sub (tys' := [(cI, .int)]) [0] rfl
      exact W.iret (v := 0) hx hb hr (fun t ht hW => ⟨⟨0, (), rfl, rfl, ⟨by rw [ht]; exact hP9, va_K.moved hW.alike hK9, hD9⟩⟩, hS.F ht⟩) hS.2.2 dX9_go_39

set_option maxHeartbeats 4000000 in
set_option maxRecDepth 100000 in
/-- X1_commonPart -/
theorem c_X1_commonPart (l : Launch) (dC : Nat → ClassId) (dI : Nat → Nat → Nat) (n1 n2 : Int32) (h1 : 0 < n1) (sz : Nat) : Met l yX1_commonPart wsX1_commonPart ({ frames := 0, cells := 0, slots := 0, locals := 0 }) (va_Pc [.int n1, .int n2] (cPC dC dI [] [] sz)) (va_Qi (fun (r : Int32) (u : Unit) => 0 < r) (fun (u : Unit) t => cQB dC dI [] [] (va_A [] sz) t) (va_A [] sz)) 0 0 (va_A [] sz) := by
  refine Met.ofW (cc := cX1_commonPart) (maxL := 6) (ret := (some .int)) (by decide) rfl ?_
  intro p e s m args below meth c s₁ B hml hv
  obtain ⟨rfl, hsz, hP, hK, hD0, hN⟩ := hv
  have hx := B.exec
  have hb := B.bytes
  have hr := B.returns
  have hts := atoms_spec (ws := wsX1_commonPart) B.pre
  have hown : s.vm.findClass RX1 = some m.cls := findClass_of_methodNamed B.named
  have hlocks := B.notSynchronized
  subst hsz
  have hD := hD0.self (sz := s.heap.size)
  generalize hAe : va_A [] s.heap.size = A at hD ⊢
  have hA : ∀ q : Nat, s.heap.size ≤ q → A q := fun q h => by rw [← hAe]; exact Or.inr h
  have hS : va_S A s.heap s.heap [] := va_S.rf
  have hP : va_P (dC, dI) vwCl [] s.heap := hP
  have hD : va_D A [] := hD
  have hl := lv_entry ([.int n1, .int n2]) (n := 6) (Nat.le_of_ble_eq_true rfl)
  rw [lg_entry_eq]
  generalize (lg_sl ([.int n1, .int n2]) ++ List.replicate (6 - (lg_sl ([.int n1, .int n2])).length) Slot.unset).toArray = ls at hl ⊢
  have hl : lv_has ls 6 [(0, .int n1), (1, .int n2)] := hl
  refine lv_iload_n hx hb dX1_commonPart_0 rfl (lv_at hl 0 rfl) ?_
  refine lv_istore_n (lv' := [(2, .int n1), (0, .int n1), (1, .int n2)]) hx hb dX1_commonPart_1 rfl hl (by decide) rfl (fun ls hl => ?_)
  refine lv_iload_n hx hb dX1_commonPart_2 rfl (lv_at hl 2 rfl) ?_
  refine lv_istore_n (lv' := [(3, .int n2), (2, .int n1), (0, .int n1), (1, .int n2)]) hx hb dX1_commonPart_3 rfl hl (by decide) rfl (fun ls hl => ?_)
  refine lv_iconst (v := 0) hx hb dX1_commonPart_4 (by decide) ?_
  refine lv_istore (lv' := [(4, .int 0), (3, .int n2), (2, .int n1), (0, .int n1), (1, .int n2)]) hx hb dX1_commonPart_5 hl (by decide) rfl (fun ls hl => ?_)
  refine lp_go (σ := Nat × Int32 × Int32) (fun x => match x with | (i_7, lg_7, sm_7) => i_7 ≤ 64 ∧ 0 < lg_7) (fun x => match x with | (i_7, lg_7, sm_7) => 64 - i_7) (fun x => []) (fun x => [(0, .int n1), (1, .int n2), (2, .int x.2.1), (3, .int x.2.2), (4, .int (nI x.1))]) (fun _ => []) (fun x hI ih7 H locs hP hD hS ls hl => ?_) (0, n1, n2) ⟨Nat.zero_le _, h1⟩ (hP.sub [] rfl) (hD.sub [] (by decide) rfl) hS (lv_sub hl [3, 4, 2, 1, 0] rfl)
  obtain ⟨i_7, lg_7, sm_7⟩ := x
  have hP : va_P (dC, dI) vwCl [] H := hP
  have hD : va_D A [] := hD
  have hl : lv_has ls 6 [(0, .int n1), (1, .int n2), (2, .int lg_7), (3, .int sm_7), (4, .int (nI i_7))] := hl
  try dsimp only at hI
  have ih7 := ih7
  refine lv_iload hx hb dX1_commonPart_7 (lv_at hl 4 rfl) ?_
  refine lv_bipush (v := 64) hx hb dX1_commonPart_9 (by decide) ?_
  refine lv_icmp_ge (tgt := 34) hx hb dX1_commonPart_11 (by decide) (fun c11_1 => ?_) (fun c11_1 => ?_)
  · refine lv_iload_n hx hb dX1_commonPart_34 rfl (lv_at hl 2 rfl) ?_
    have hP9 := hP.sub (ws' := []) [] rfl
    have hD9 := hD.sub (ws' := []) [] (by decide) rfl
    have hK9 := hK.sub (tys' := []) [] rfl
    exact W.iret (v := lg_7) hx hb hr (fun t ht hW => ⟨⟨lg_7, (), rfl, hI.2, ⟨by rw [ht]; exact hP9, va_K.moved hW.alike hK9, hD9⟩⟩, hS.F ht⟩) hS.2.2 dX1_commonPart_35
  · have hi : i_7 < 64 := nI_step (by decide) hI.1 c11_1
    refine lv_iload_n hx hb dX1_commonPart_14 rfl (lv_at hl 3 rfl) ?_
    refine lv_if_le (tgt := 34) hx hb dX1_commonPart_15 (by decide) (fun c15_2 => ?_) (fun c15_2 => ?_)
    · refine lv_iload_n hx hb dX1_commonPart_34 rfl (lv_at hl 2 rfl) ?_
      have hP9 := hP.sub (ws' := []) [] rfl
      have hD9 := hD.sub (ws' := []) [] (by decide) rfl
      have hK9 := hK.sub (tys' := []) [] rfl
      exact W.iret (v := lg_7) hx hb hr (fun t ht hW => ⟨⟨lg_7, (), rfl, hI.2, ⟨by rw [ht]; exact hP9, va_K.moved hW.alike hK9, hD9⟩⟩, hS.F ht⟩) hS.2.2 dX1_commonPart_35
    · have hsp := c15_2
      have hsm : ¬ sm_7 = 0 := fun h => hsp (by rw [h]; exact Int32.le_refl _)
      refine lv_iload_n hx hb dX1_commonPart_18 rfl (lv_at hl 2 rfl) ?_
      refine lv_iload_n hx hb dX1_commonPart_19 rfl (lv_at hl 3 rfl) ?_
      refine lv_irem hx hb dX1_commonPart_20 hsm ?_
      refine lv_topi (fun x_3 ex_3 => ?_)
      refine lv_istore (lv' := [(5, .int x_3), (0, .int n1), (1, .int n2), (2, .int lg_7), (3, .int sm_7), (4, .int (nI i_7))]) hx hb dX1_commonPart_21 hl (by decide) rfl (fun ls hl => ?_)
      refine lv_iload_n hx hb dX1_commonPart_23 rfl (lv_at hl 4 rfl) ?_
      refine lv_istore_n (lv' := [(2, .int sm_7), (5, .int x_3), (0, .int n1), (1, .int n2), (3, .int sm_7), (4, .int (nI i_7))]) hx hb dX1_commonPart_24 rfl hl (by decide) rfl (fun ls hl => ?_)
      refine lv_iload hx hb dX1_commonPart_25 (lv_at hl 1 rfl) ?_
      refine lv_istore_n (lv' := [(3, .int x_3), (2, .int sm_7), (5, .int x_3), (0, .int n1), (1, .int n2), (4, .int (nI i_7))]) hx hb dX1_commonPart_27 rfl hl (by decide) rfl (fun ls hl => ?_)
      obtain ⟨y_4, ey_4⟩ : ∃ y : Int32, y = (nI i_7) + 1 := ⟨_, rfl⟩
      refine lv_iinc (v := y_4) (lv' := [(4, .int y_4), (3, .int x_3), (2, .int sm_7), (5, .int x_3), (0, .int n1), (1, .int n2)]) hx hb dX1_commonPart_28 hl (k := 5) rfl (by rw [ey_4]; rfl) (by decide) rfl (fun ls hl => ?_)
      obtain rfl : y_4 = nI (i_7 + 1) := by rw [ey_4]; exact nI_1 _
      refine lv_goto (tgt := 7) hx hb dX1_commonPart_31 (by decide) ?_
      exact ih7 ((i_7 + 1), sm_7, x_3) ⟨hi, Int32.not_le.mp hsp⟩ (by show 64 - (i_7 + 1) < 64 - i_7; omega) _ _ (hP.sub [] rfl) (hD.sub [] (by decide) rfl) hS ls (lv_sub hl [4, 5, 2, 1, 0] rfl)

set_option maxHeartbeats 4000000 in
set_option maxRecDepth 100000 in
/-- X1_add -/
theorem c_X1_add (l : Launch) (dC : Nat → ClassId) (dI : Nat → Nat → Nat) (cI : ClassId) (fw fo fu : Nat) (sv hv : Int32) (nv : Int64) (f1 f2 : Nat → Int32) (n1 n2 : Int32) (h1 : 0 < n1) (sz : Nat) : Met l yX1_add wsX1_add ({ frames := 1, cells := 0, slots := 0, locals := 25 }) (va_Pc [.ref fw, .int n1, .int n2] (cPC dC dI [(fw, .inr (6, [.int 0, .int sv, .int hv, .long nv, .ref fo, .ref fu])), (fo, .inl (cI, 10, .inl f1)), (fu, .inl (cI, 10, .inl f2))] [(cI, .int)] sz)) (va_Qv (fun (u : Unit) => True) (fun (u : Unit) t => cQB dC dI [(fw, .inr (6, [.int 1, .int sv, .int hv, .long nv, .ref fo, .ref fu]))] [(cI, .int)] (va_A [(fw, .inr (6, [.int 0, .int sv, .int hv, .long nv, .ref fo, .ref fu])), (fo, .inl (cI, 10, .inl f1)), (fu, .inl (cI, 10, .inl f2))] sz) t) (va_A [(fw, .inr (6, [.int 0, .int sv, .int hv, .long nv, .ref fo, .ref fu])), (fo, .inl (cI, 10, .inl f1)), (fu, .inl (cI, 10, .inl f2))] sz)) 0 0 (va_A [(fw, .inr (6, [.int 0, .int sv, .int hv, .long nv, .ref fo, .ref fu])), (fo, .inl (cI, 10, .inl f1)), (fu, .inl (cI, 10, .inl f2))] sz) := by
  refine Met.ofW (cc := cX1_add) (maxL := 4) (ret := none) (by decide) rfl ?_
  intro p e s m args below meth c s₁ B hml hv
  obtain ⟨rfl, hsz, hP, hK, hD0, hN⟩ := hv
  have hx := B.exec
  have hb := B.bytes
  have hr := B.returns
  have hts := atoms_spec (ws := wsX1_add) B.pre
  have hown : s.vm.findClass RX1 = some m.cls := findClass_of_methodNamed B.named
  have hlocks := B.notSynchronized
  subst hsz
  have hD := hD0.self (sz := s.heap.size)
  generalize hAe : va_A [(fw, .inr (6, [.int 0, .int sv, .int hv, .long nv, .ref fo, .ref fu])), (fo, .inl (cI, 10, .inl f1)), (fu, .inl (cI, 10, .inl f2))] s.heap.size = A at hD ⊢
  have hA : ∀ q : Nat, s.heap.size ≤ q → A q := fun q h => by rw [← hAe]; exact Or.inr h
  have hS : va_S A s.heap s.heap [] := va_S.rf
  have hP : va_P (dC, dI) vwCl [(fw, .inr (6, [.int 0, .int sv, .int hv, .long nv, .ref fo, .ref fu])), (fo, .inl (cI, 10, .inl f1)), (fu, .inl (cI, 10, .inl f2))] s.heap := hP
  have hD : va_D A [(fw, .inr (6, [.int 0, .int sv, .int hv, .long nv, .ref fo, .ref fu])), (fo, .inl (cI, 10, .inl f1)), (fu, .inl (cI, 10, .inl f2))] := hD
  have hl := lv_entry ([.ref fw, .int n1, .int n2]) (n := 4) (Nat.le_of_ble_eq_true rfl)
  rw [lg_entry_eq]
  generalize (lg_sl ([.ref fw, .int n1, .int n2]) ++ List.replicate (4 - (lg_sl ([.ref fw, .int n1, .int n2])).length) Slot.unset).toArray = ls at hl ⊢
  have hl : lv_has ls 4 [(0, .ref fw), (1, .int n1), (2, .int n2)] := hl
  have iWX1 : ∀ w ∈ u_ws RX1 TX1 6, w ∈ wsX1_add := by decide +kernel
  refine lv_iload_n hx hb dX1_add_0 rfl (lv_at hl 1 rfl) ?_
  refine lv_iload_n hx hb dX1_add_1 rfl (lv_at hl 2 rfl) ?_
  have hPc := hP.sub (ws' := []) [] rfl
  have hDc := hD.sub (ws' := []) [] (by decide) rfl
  have hKc := hK.sub (tys' := []) [] rfl
  have hFc := va_free (wc := []) hD hS hA [] rfl
  refine va_calli (va_runS (As := [.int n1, .int n2]) (rest := []) ⟨hx, hb, hml, hown, hts⟩ (c_X1_commonPart l dC dI n1 n2 h1 s.heap.size) (va_cwS 2 hts gX1_add_X1_commonPart rfl rfl rfl (by decide +kernel) ⟨Nat.le_of_ble_eq_true rfl, Nat.le_of_ble_eq_true rfl⟩) (pcS hPc hDc hKc hN) rfl rfl hl.1 rfl (lv_room (Nat.le_of_ble_eq_true rfl)) dX1_add_2 ⟨Nat.le_of_ble_eq_true rfl, Nat.le_of_ble_eq_true rfl⟩) hS (fun q _ h => hFc q h) hFc (fun r_1 u t H1 locs ht hvm hw_2 hB hz1 hk1 hS => ?_)
  obtain ⟨hP1, hK1, hD1⟩ := hB
  rw [ht] at hP1
  try dsimp only at hw_2
  obtain ⟨hP, hD⟩ := va_join (wr := [(fw, .inr (6, [.int 0, .int sv, .int hv, .long nv, .ref fo, .ref fu])), (fo, .inl (cI, 10, .inl f1)), (fu, .inl (cI, 10, .inl f2))]) (w1 := []) hP hD [] [0, 1, 2] rfl rfl (by decide) (by decide) hk1 hFc hP1 hD1
  generalize H1 = H at hP hS ⊢
  have hP : va_P (dC, dI) vwCl [(fw, .inr (6, [.int 0, .int sv, .int hv, .long nv, .ref fo, .ref fu])), (fo, .inl (cI, 10, .inl f1)), (fu, .inl (cI, 10, .inl f2))] H := hP
  have hD : va_D A [(fw, .inr (6, [.int 0, .int sv, .int hv, .long nv, .ref fo, .ref fu])), (fo, .inl (cI, 10, .inl f1)), (fu, .inl (cI, 10, .inl f2))] := hD
  refine lv_istore_n (lv' := [(3, .int r_1), (0, .ref fw), (1, .int n1), (2, .int n2)]) hx hb dX1_add_5 rfl hl (by decide) rfl (fun ls hl => ?_)
  refine lv_aload_n hx hb dX1_add_6 rfl (lv_at hl 1 rfl) ?_
  refine va_get (D := (dC, dI)) (ci := 6) (v := .int 0) (C := RX1) (T := TX1) (N := 6) hx hb hts iWX1 hown hK hP 0 rfl rfl 0 (by decide) (hts (.fieldLink RX1 7 "Beaverhall$FractionWalk" "size" "I") (by decide +kernel)) (fun _ h9 => h9) rfl dX1_add_7 ?_
  refine lv_bipush (v := 10) hx hb dX1_add_10 (by decide) ?_
  refine lv_icmp_ge (tgt := 57) hx hb dX1_add_12 (by decide) (fun c12_3 => ?_) (fun c12_3 => ?_)
  · exact absurd c12_3 (by decide)
  · refine lv_iload_n hx hb dX1_add_15 rfl (lv_at hl 0 rfl) ?_
    refine lv_if_le (tgt := 57) hx hb dX1_add_16 (by decide) (fun c16_4 => ?_) (fun c16_4 => ?_)
    · exact absurd hw_2 (Int32.not_lt.mpr c16_4)
    · have hnz : ¬ r_1 = 0 := fun h => c16_4 (by rw [h]; exact Int32.le_refl _)
      refine lv_aload_n hx hb dX1_add_19 rfl (lv_at hl 1 rfl) ?_
      refine va_get (D := (dC, dI)) (ci := 6) (v := .ref fo) (C := RX1) (T := TX1) (N := 6) hx hb hts iWX1 hown hK hP 0 rfl rfl 4 (by decide) (hts (.fieldLink RX1 24 "Beaverhall$FractionWalk" "overs" "[I") (by decide +kernel)) (fun _ h9 => h9) rfl dX1_add_20 ?_
      refine lv_aload_n hx hb dX1_add_23 rfl (lv_at hl 1 rfl) ?_
      refine va_get (D := (dC, dI)) (ci := 6) (v := .int 0) (C := RX1) (T := TX1) (N := 6) hx hb hts iWX1 hown hK hP 0 rfl rfl 0 (by decide) (hts (.fieldLink RX1 7 "Beaverhall$FractionWalk" "size" "I") (by decide +kernel)) (fun _ h9 => h9) rfl dX1_add_24 ?_
      refine lv_iload_n hx hb dX1_add_27 rfl (lv_at hl 2 rfl) ?_
      refine lv_iload_n hx hb dX1_add_28 rfl (lv_at hl 0 rfl) ?_
      refine lv_idiv hx hb dX1_add_29 hnz ?_
      have hPc := hP.sub (ws' := [(fo, .inl (cI, 10, .inl f1))]) [1] rfl
      have hDc := hD.sub (ws' := [(fo, .inl (cI, 10, .inl f1))]) [1] (by decide) rfl
      have hKc := hK.sub (tys' := [(cI, .int)]) [0] rfl
      have hFc := va_free (wc := [(fo, .inl (cI, 10, .inl f1))]) hD hS hA [1] rfl
      refine va_callv (va_runSN (As := [.ref fo, .int 0, .int (n1 / r_1)]) (rest := []) ⟨hx, hb, hml, hown, hts⟩ (c_X11_put l dC dI cI fo 10 f1 0 (n1 / r_1) (by decide) H.size) ⟨va_cnB 3 hts gX1_add_X11_put_n35 rfl rfl rfl (hN (.methodLinkNest RX1 35 yX11_put "Beaverhall") (by decide +kernel)) (hts (.initialized RX11) (by decide +kernel)) (by decide +kernel) ⟨Nat.le_of_ble_eq_true rfl, Nat.le_of_ble_eq_true rfl⟩, hts (.static yX11_put) (by decide +kernel), trivial⟩ (pcS hPc hDc hKc hN) rfl rfl hl.1 rfl (lv_room (Nat.le_of_ble_eq_true rfl)) dX1_add_30 ⟨Nat.le_of_ble_eq_true rfl, Nat.le_of_ble_eq_true rfl⟩) hS (fun q _ h => hFc q h) hFc (fun u t H1 locs ht hvm hw_5 hB hz1 hk1 hS => ?_)
      obtain ⟨hP1, hK1, hD1⟩ := hB
      rw [ht] at hP1
      try dsimp only at hw_5
      obtain ⟨hP, hD⟩ := va_join (wr := [(fw, .inr (6, [.int 0, .int sv, .int hv, .long nv, .ref fo, .ref fu])), (fu, .inl (cI, 10, .inl f2))]) (w1 := [(fo, .inl (cI, 10, .inl u))]) hP hD [1] [0, 2] rfl rfl (by decide) (by decide) hk1 hFc hP1 hD1
      generalize H1 = H at hP hS ⊢
      have hP : va_P (dC, dI) vwCl [(fw, .inr (6, [.int 0, .int sv, .int hv, .long nv, .ref fo, .ref fu])), (fu, .inl (cI, 10, .inl f2)), (fo, .inl (cI, 10, .inl u))] H := hP
      have hD : va_D A [(fw, .inr (6, [.int 0, .int sv, .int hv, .long nv, .ref fo, .ref fu])), (fu, .inl (cI, 10, .inl f2)), (fo, .inl (cI, 10, .inl u))] := hD
      obtain ⟨f_6, ef_6⟩ : ∃ z, z = u := ⟨_, rfl⟩
      subst ef_6
      refine lv_aload_n hx hb dX1_add_33 rfl (lv_at hl 1 rfl) ?_
      refine va_get (D := (dC, dI)) (ci := 6) (v := .ref fu) (C := RX1) (T := TX1) (N := 6) hx hb hts iWX1 hown hK hP 0 rfl rfl 5 (by decide) (hts (.fieldLink RX1 28 "Beaverhall$FractionWalk" "unders" "[I") (by decide +kernel)) (fun _ h9 => h9) rfl dX1_add_34 ?_
      refine lv_aload_n hx hb dX1_add_37 rfl (lv_at hl 1 rfl) ?_
      refine va_get (D := (dC, dI)) (ci := 6) (v := .int 0) (C := RX1) (T := TX1) (N := 6) hx hb hts iWX1 hown hK hP 0 rfl rfl 0 (by decide) (hts (.fieldLink RX1 7 "Beaverhall$FractionWalk" "size" "I") (by decide +kernel)) (fun _ h9 => h9) rfl dX1_add_38 ?_
      refine lv_iload_n hx hb dX1_add_41 rfl (lv_at hl 3 rfl) ?_
      refine lv_iload_n hx hb dX1_add_42 rfl (lv_at hl 0 rfl) ?_
      refine lv_idiv hx hb dX1_add_43 hnz ?_
      have hPc := hP.sub (ws' := [(fu, .inl (cI, 10, .inl f2))]) [1] rfl
      have hDc := hD.sub (ws' := [(fu, .inl (cI, 10, .inl f2))]) [1] (by decide) rfl
      have hKc := hK.sub (tys' := [(cI, .int)]) [0] rfl
      have hFc := va_free (wc := [(fu, .inl (cI, 10, .inl f2))]) hD hS hA [1] rfl
      refine va_callv (va_runSN (As := [.ref fu, .int 0, .int (n2 / r_1)]) (rest := []) ⟨hx, hb, hml, hown, hts⟩ (c_X11_put l dC dI cI fu 10 f2 0 (n2 / r_1) (by decide) H.size) ⟨va_cnB 3 hts gX1_add_X11_put_n35 rfl rfl rfl (hN (.methodLinkNest RX1 35 yX11_put "Beaverhall") (by decide +kernel)) (hts (.initialized RX11) (by decide +kernel)) (by decide +kernel) ⟨Nat.le_of_ble_eq_true rfl, Nat.le_of_ble_eq_true rfl⟩, hts (.static yX11_put) (by decide +kernel), trivial⟩ (pcS hPc hDc hKc hN) rfl rfl hl.1 rfl (lv_room (Nat.le_of_ble_eq_true rfl)) dX1_add_44 ⟨Nat.le_of_ble_eq_true rfl, Nat.le_of_ble_eq_true rfl⟩) hS (fun q _ h => hFc q h) hFc (fun u t H1 locs ht hvm hw_7 hB hz1 hk1 hS => ?_)
      obtain ⟨hP1, hK1, hD1⟩ := hB
      rw [ht] at hP1
      try dsimp only at hw_7
      obtain ⟨hP, hD⟩ := va_join (wr := [(fw, .inr (6, [.int 0, .int sv, .int hv, .long nv, .ref fo, .ref fu])), (fo, .inl (cI, 10, .inl f_6))]) (w1 := [(fu, .inl (cI, 10, .inl u))]) hP hD [1] [0, 2] rfl rfl (by decide) (by decide) hk1 hFc hP1 hD1
      generalize H1 = H at hP hS ⊢
      have hP : va_P (dC, dI) vwCl [(fw, .inr (6, [.int 0, .int sv, .int hv, .long nv, .ref fo, .ref fu])), (fo, .inl (cI, 10, .inl f_6)), (fu, .inl (cI, 10, .inl u))] H := hP
      have hD : va_D A [(fw, .inr (6, [.int 0, .int sv, .int hv, .long nv, .ref fo, .ref fu])), (fo, .inl (cI, 10, .inl f_6)), (fu, .inl (cI, 10, .inl u))] := hD
      obtain ⟨f_8, ef_8⟩ : ∃ z, z = u := ⟨_, rfl⟩
      subst ef_8
      refine lv_aload_n hx hb dX1_add_47 rfl (lv_at hl 1 rfl) ?_
      refine lv_dup hx hb dX1_add_48 rfl ?_
      refine va_get (D := (dC, dI)) (ci := 6) (v := .int 0) (C := RX1) (T := TX1) (N := 6) hx hb hts iWX1 hown hK hP 0 rfl rfl 0 (by decide) (hts (.fieldLink RX1 7 "Beaverhall$FractionWalk" "size" "I") (by decide +kernel)) (fun _ h9 => h9) rfl dX1_add_49 ?_
      refine lv_iconst (v := 1) hx hb dX1_add_52 (by decide) ?_
      refine lv_iadd hx hb dX1_add_53 ?_
      refine lv_topi (fun x_9 ex_9 => ?_)
      obtain rfl : x_9 = 1 := by rw [ex_9]; decide
      refine va_put (D := (dC, dI)) (ci := 6) (v := .int 1) (ty := .int) (C := RX1) (T := TX1) (N := 6) hx hb hts iWX1 tyX1 tyX1_ok nmX1 hown hK hP hD hS 0 rfl rfl 0 (by decide) (hts (.fieldLink RX1 7 "Beaverhall$FractionWalk" "size" "I") (by decide +kernel)) (fun _ h9 => h9) rfl (by decide +kernel) rfl rfl (Nat.le_of_ble_eq_true rfl) dX1_add_54 (fun H locs hP hD hS => ?_)
      have hP : va_P (dC, dI) vwCl [(fw, .inr (6, [.int 1, .int sv, .int hv, .long nv, .ref fo, .ref fu])), (fo, .inl (cI, 10, .inl f_6)), (fu, .inl (cI, 10, .inl f_8))] H := hP
      have hD : va_D A [(fw, .inr (6, [.int 1, .int sv, .int hv, .long nv, .ref fo, .ref fu])), (fo, .inl (cI, 10, .inl f_6)), (fu, .inl (cI, 10, .inl f_8))] := hD
      have hP9 := hP.sub (ws' := [(fw, .inr (6, [.int 1, .int sv, .int hv, .long nv, .ref fo, .ref fu]))]) [0] rfl
      have hD9 := hD.sub (ws' := [(fw, .inr (6, [.int 1, .int sv, .int hv, .long nv, .ref fo, .ref fu]))]) [0] (by decide) rfl
      have hK9 := hK.sub (tys' := [(cI, .int)]) [0] rfl
      exact W.vret hx hb hr (fun t ht hW => ⟨⟨(), rfl, trivial, ⟨by rw [ht]; exact hP9, va_K.moved hW.alike hK9, hD9⟩⟩, hS.F ht⟩) hS.2.2 dX1_add_57

set_option maxHeartbeats 4000000 in
set_option maxRecDepth 100000 in
/-- X1_firstWhole -/
theorem c_X1_firstWhole (l : Launch) (dC : Nat → ClassId) (dI : Nat → Nat → Nat) (fw fo fu : Nat) (sv hv : Int32) (nv : Int64) (sz : Nat) : Met l yX1_firstWhole wsX1_firstWhole ({ frames := 0, cells := 0, slots := 0, locals := 0 }) (va_Pc [.ref fw] (cPC dC dI [(fw, .inr (6, [.int 0, .int sv, .int hv, .long nv, .ref fo, .ref fu]))] [] sz)) (va_Qi (fun (r : Int32) (u : Unit) => r = -1) (fun (u : Unit) t => cQB dC dI [(fw, .inr (6, [.int 0, .int sv, .int hv, .long nv, .ref fo, .ref fu]))] [] (va_A [(fw, .inr (6, [.int 0, .int sv, .int hv, .long nv, .ref fo, .ref fu]))] sz) t) (va_A [(fw, .inr (6, [.int 0, .int sv, .int hv, .long nv, .ref fo, .ref fu]))] sz)) 0 0 (va_A [(fw, .inr (6, [.int 0, .int sv, .int hv, .long nv, .ref fo, .ref fu]))] sz) := by
  refine Met.ofW (cc := cX1_firstWhole) (maxL := 3) (ret := (some .int)) (by decide) rfl ?_
  intro p e s m args below meth c s₁ B hml hv
  obtain ⟨rfl, hsz, hP, hK, hD0, hN⟩ := hv
  have hx := B.exec
  have hb := B.bytes
  have hr := B.returns
  have hts := atoms_spec (ws := wsX1_firstWhole) B.pre
  have hown : s.vm.findClass RX1 = some m.cls := findClass_of_methodNamed B.named
  have hlocks := B.notSynchronized
  subst hsz
  have hD := hD0.self (sz := s.heap.size)
  generalize hAe : va_A [(fw, .inr (6, [.int 0, .int sv, .int hv, .long nv, .ref fo, .ref fu]))] s.heap.size = A at hD ⊢
  have hA : ∀ q : Nat, s.heap.size ≤ q → A q := fun q h => by rw [← hAe]; exact Or.inr h
  have hS : va_S A s.heap s.heap [] := va_S.rf
  have hP : va_P (dC, dI) vwCl [(fw, .inr (6, [.int 0, .int sv, .int hv, .long nv, .ref fo, .ref fu]))] s.heap := hP
  have hD : va_D A [(fw, .inr (6, [.int 0, .int sv, .int hv, .long nv, .ref fo, .ref fu]))] := hD
  have hl := lv_entry ([.ref fw]) (n := 3) (Nat.le_of_ble_eq_true rfl)
  rw [lg_entry_eq]
  generalize (lg_sl ([.ref fw]) ++ List.replicate (3 - (lg_sl ([.ref fw])).length) Slot.unset).toArray = ls at hl ⊢
  have hl : lv_has ls 3 [(0, .ref fw)] := hl
  have iWX1 : ∀ w ∈ u_ws RX1 TX1 6, w ∈ wsX1_firstWhole := by decide +kernel
  refine lv_iconst (v := 0) hx hb dX1_firstWhole_0 (by decide) ?_
  refine lv_istore_n (lv' := [(1, .int 0), (0, .ref fw)]) hx hb dX1_firstWhole_1 rfl hl (by decide) rfl (fun ls hl => ?_)
  refine lv_iload_n hx hb dX1_firstWhole_2 rfl (lv_at hl 0 rfl) ?_
  refine lv_aload_n hx hb dX1_firstWhole_3 rfl (lv_at hl 1 rfl) ?_
  refine va_get (D := (dC, dI)) (ci := 6) (v := .int 0) (C := RX1) (T := TX1) (N := 6) hx hb hts iWX1 hown hK hP 0 rfl rfl 0 (by decide) (hts (.fieldLink RX1 7 "Beaverhall$FractionWalk" "size" "I") (by decide +kernel)) (fun _ h9 => h9) rfl dX1_firstWhole_4 ?_
  refine lv_icmp_ge (tgt := 43) hx hb dX1_firstWhole_7 (by decide) (fun c7_1 => ?_) (fun c7_1 => ?_)
  · refine lv_iconst (v := (-1)) hx hb dX1_firstWhole_43 (by decide) ?_
    have hP9 := hP.sub (ws' := [(fw, .inr (6, [.int 0, .int sv, .int hv, .long nv, .ref fo, .ref fu]))]) [0] rfl
    have hD9 := hD.sub (ws' := [(fw, .inr (6, [.int 0, .int sv, .int hv, .long nv, .ref fo, .ref fu]))]) [0] (by decide) rfl
    have hK9 := hK.sub (tys' := []) [] rfl
    exact W.iret (v := (-1)) hx hb hr (fun t ht hW => ⟨⟨(-1), (), rfl, rfl, ⟨by rw [ht]; exact hP9, va_K.moved hW.alike hK9, hD9⟩⟩, hS.F ht⟩) hS.2.2 dX1_firstWhole_44
  · exact (c7_1 (by decide)).elim

set_option maxHeartbeats 4000000 in
set_option maxRecDepth 100000 in
/-- X1_step -/
theorem c_X1_step (l : Launch) (dC : Nat → ClassId) (dI : Nat → Nat → Nat) (cI : ClassId) (fw fo fu : Nat) (sv hv : Int32) (nv : Int64) (f1 f2 : Nat → Int32) (sz : Nat) : Met l yX1_step wsX1_step ({ frames := 1, cells := 0, slots := 0, locals := 22 }) (va_Pc [.ref fw] (cPC dC dI [(fw, .inr (6, [.int 0, .int sv, .int hv, .long nv, .ref fo, .ref fu])), (fo, .inl (cI, 10, .inl f1)), (fu, .inl (cI, 10, .inl f2))] [(cI, .int)] sz)) (va_Qi (fun (r : Int32) (u : Unit) => r = 0) (fun (u : Unit) t => cQB dC dI [(fw, .inr (6, [.int 0, .int sv, .int hv, .long nv, .ref fo, .ref fu])), (fo, .inl (cI, 10, .inl f1)), (fu, .inl (cI, 10, .inl f2))] [(cI, .int)] (va_A [(fw, .inr (6, [.int 0, .int sv, .int hv, .long nv, .ref fo, .ref fu])), (fo, .inl (cI, 10, .inl f1)), (fu, .inl (cI, 10, .inl f2))] sz) t) (va_A [(fw, .inr (6, [.int 0, .int sv, .int hv, .long nv, .ref fo, .ref fu])), (fo, .inl (cI, 10, .inl f1)), (fu, .inl (cI, 10, .inl f2))] sz)) 0 0 (va_A [(fw, .inr (6, [.int 0, .int sv, .int hv, .long nv, .ref fo, .ref fu])), (fo, .inl (cI, 10, .inl f1)), (fu, .inl (cI, 10, .inl f2))] sz) := by
  refine Met.ofW (cc := cX1_step) (maxL := 4) (ret := (some .boolean)) (by decide) rfl ?_
  intro p e s m args below meth c s₁ B hml hv
  obtain ⟨rfl, hsz, hP, hK, hD0, hN⟩ := hv
  have hx := B.exec
  have hb := B.bytes
  have hr := B.returns
  have hts := atoms_spec (ws := wsX1_step) B.pre
  have hown : s.vm.findClass RX1 = some m.cls := findClass_of_methodNamed B.named
  have hlocks := B.notSynchronized
  subst hsz
  have hD := hD0.self (sz := s.heap.size)
  generalize hAe : va_A [(fw, .inr (6, [.int 0, .int sv, .int hv, .long nv, .ref fo, .ref fu])), (fo, .inl (cI, 10, .inl f1)), (fu, .inl (cI, 10, .inl f2))] s.heap.size = A at hD ⊢
  have hA : ∀ q : Nat, s.heap.size ≤ q → A q := fun q h => by rw [← hAe]; exact Or.inr h
  have hS : va_S A s.heap s.heap [] := va_S.rf
  have hP : va_P (dC, dI) vwCl [(fw, .inr (6, [.int 0, .int sv, .int hv, .long nv, .ref fo, .ref fu])), (fo, .inl (cI, 10, .inl f1)), (fu, .inl (cI, 10, .inl f2))] s.heap := hP
  have hD : va_D A [(fw, .inr (6, [.int 0, .int sv, .int hv, .long nv, .ref fo, .ref fu])), (fo, .inl (cI, 10, .inl f1)), (fu, .inl (cI, 10, .inl f2))] := hD
  have hl := lv_entry ([.ref fw]) (n := 4) (Nat.le_of_ble_eq_true rfl)
  rw [lg_entry_eq]
  generalize (lg_sl ([.ref fw]) ++ List.replicate (4 - (lg_sl ([.ref fw])).length) Slot.unset).toArray = ls at hl ⊢
  have hl : lv_has ls 4 [(0, .ref fw)] := hl
  have iWX1 : ∀ w ∈ u_ws RX1 TX1 6, w ∈ wsX1_step := by decide +kernel
  refine lv_aload_n hx hb dX1_step_0 rfl (lv_at hl 0 rfl) ?_
  have hPc := hP.sub (ws' := [(fw, .inr (6, [.int 0, .int sv, .int hv, .long nv, .ref fo, .ref fu]))]) [0] rfl
  have hDc := hD.sub (ws' := [(fw, .inr (6, [.int 0, .int sv, .int hv, .long nv, .ref fo, .ref fu]))]) [0] (by decide) rfl
  have hKc := hK.sub (tys' := []) [] rfl
  have hFc := va_free (wc := [(fw, .inr (6, [.int 0, .int sv, .int hv, .long nv, .ref fo, .ref fu]))]) hD hS hA [0] rfl
  refine va_calli (va_runV (As := []) (rest := []) ⟨hx, hb, hml, hown, hts⟩ (c_X1_firstWhole l dC dI fw fo fu sv hv nv s.heap.size) (cwV 0 hts gX1_step_X1_firstWhole rfl rfl rfl (by decide +kernel) ⟨Nat.le_of_ble_eq_true rfl, Nat.le_of_ble_eq_true rfl⟩) (pcV hPc hDc hKc hN (ci := 6) (q0 := 0) rfl rfl) rfl rfl hl.1 rfl (lv_room (Nat.le_of_ble_eq_true rfl)) dX1_step_1 ⟨Nat.le_of_ble_eq_true rfl, Nat.le_of_ble_eq_true rfl⟩) hS (fun q _ h => hFc q h) hFc (fun r_1 u t H1 locs ht hvm hw_2 hB hz1 hk1 hS => ?_)
  obtain ⟨hP1, hK1, hD1⟩ := hB
  rw [ht] at hP1
  try dsimp only at hw_2
  obtain ⟨hP, hD⟩ := va_join (wr := [(fo, .inl (cI, 10, .inl f1)), (fu, .inl (cI, 10, .inl f2))]) (w1 := [(fw, .inr (6, [.int 0, .int sv, .int hv, .long nv, .ref fo, .ref fu]))]) hP hD [0] [1, 2] rfl rfl (by decide) (by decide) hk1 hFc hP1 hD1
  generalize H1 = H at hP hS ⊢
  have hP : va_P (dC, dI) vwCl [(fo, .inl (cI, 10, .inl f1)), (fu, .inl (cI, 10, .inl f2)), (fw, .inr (6, [.int 0, .int sv, .int hv, .long nv, .ref fo, .ref fu]))] H := hP
  have hD : va_D A [(fo, .inl (cI, 10, .inl f1)), (fu, .inl (cI, 10, .inl f2)), (fw, .inr (6, [.int 0, .int sv, .int hv, .long nv, .ref fo, .ref fu]))] := hD
  obtain rfl : r_1 = (-1) := hw_2
  refine lv_istore_n (lv' := [(1, .int (-1)), (0, .ref fw)]) hx hb dX1_step_4 rfl hl (by decide) rfl (fun ls hl => ?_)
  refine lv_aload_n hx hb dX1_step_5 rfl (lv_at hl 1 rfl) ?_
  refine va_get (D := (dC, dI)) (ci := 6) (v := .ref fo) (C := RX1) (T := TX1) (N := 6) hx hb hts iWX1 hown hK hP 2 rfl rfl 4 (by decide) (hts (.fieldLink RX1 24 "Beaverhall$FractionWalk" "overs" "[I") (by decide +kernel)) (fun _ h9 => h9) rfl dX1_step_6 ?_
  refine lv_iload_n hx hb dX1_step_9 rfl (lv_at hl 0 rfl) ?_
  have hPc := hP.sub (ws' := [(fo, .inl (cI, 10, .inl f1))]) [0] rfl
  have hDc := hD.sub (ws' := [(fo, .inl (cI, 10, .inl f1))]) [0] (by decide) rfl
  have hKc := hK.sub (tys' := [(cI, .int)]) [0] rfl
  have hFc := va_free (wc := [(fo, .inl (cI, 10, .inl f1))]) hD hS hA [0] rfl
  refine va_calli (va_runSN (As := [.ref fo, .int (-1)]) (rest := []) ⟨hx, hb, hml, hown, hts⟩ (c_X11_at l dC dI cI fo 10 f1 (-1) (by decide) H.size) ⟨va_cnB 2 hts gX1_step_X11_at_n49 rfl rfl rfl (hN (.methodLinkNest RX1 49 yX11_at "Beaverhall") (by decide +kernel)) (hts (.initialized RX11) (by decide +kernel)) (by decide +kernel) ⟨Nat.le_of_ble_eq_true rfl, Nat.le_of_ble_eq_true rfl⟩, hts (.static yX11_at) (by decide +kernel), trivial⟩ (pcS hPc hDc hKc hN) rfl rfl hl.1 rfl (lv_room (Nat.le_of_ble_eq_true rfl)) dX1_step_10 ⟨Nat.le_of_ble_eq_true rfl, Nat.le_of_ble_eq_true rfl⟩) hS (fun q _ h => hFc q h) hFc (fun r_3 u t H1 locs ht hvm hw_4 hB hz1 hk1 hS => ?_)
  obtain ⟨hP1, hK1, hD1⟩ := hB
  rw [ht] at hP1
  try dsimp only at hw_4
  obtain ⟨hP, hD⟩ := va_join (wr := [(fu, .inl (cI, 10, .inl f2)), (fw, .inr (6, [.int 0, .int sv, .int hv, .long nv, .ref fo, .ref fu]))]) (w1 := [(fo, .inl (cI, 10, .inl f1))]) hP hD [0] [1, 2] rfl rfl (by decide) (by decide) hk1 hFc hP1 hD1
  generalize H1 = H at hP hS ⊢
  have hP : va_P (dC, dI) vwCl [(fu, .inl (cI, 10, .inl f2)), (fw, .inr (6, [.int 0, .int sv, .int hv, .long nv, .ref fo, .ref fu])), (fo, .inl (cI, 10, .inl f1))] H := hP
  have hD : va_D A [(fu, .inl (cI, 10, .inl f2)), (fw, .inr (6, [.int 0, .int sv, .int hv, .long nv, .ref fo, .ref fu])), (fo, .inl (cI, 10, .inl f1))] := hD
  obtain rfl : r_3 = 0 := by rw [hw_4]; exact at_neg (by decide)
  refine lv_istore_n (lv' := [(2, .int 0), (1, .int (-1)), (0, .ref fw)]) hx hb dX1_step_13 rfl hl (by decide) rfl (fun ls hl => ?_)
  refine lv_aload_n hx hb dX1_step_14 rfl (lv_at hl 2 rfl) ?_
  refine va_get (D := (dC, dI)) (ci := 6) (v := .ref fu) (C := RX1) (T := TX1) (N := 6) hx hb hts iWX1 hown hK hP 1 rfl rfl 5 (by decide) (hts (.fieldLink RX1 28 "Beaverhall$FractionWalk" "unders" "[I") (by decide +kernel)) (fun _ h9 => h9) rfl dX1_step_15 ?_
  refine lv_iload_n hx hb dX1_step_18 rfl (lv_at hl 1 rfl) ?_
  have hPc := hP.sub (ws' := [(fu, .inl (cI, 10, .inl f2))]) [0] rfl
  have hDc := hD.sub (ws' := [(fu, .inl (cI, 10, .inl f2))]) [0] (by decide) rfl
  have hKc := hK.sub (tys' := [(cI, .int)]) [0] rfl
  have hFc := va_free (wc := [(fu, .inl (cI, 10, .inl f2))]) hD hS hA [0] rfl
  refine va_calli (va_runSN (As := [.ref fu, .int (-1)]) (rest := []) ⟨hx, hb, hml, hown, hts⟩ (c_X11_at l dC dI cI fu 10 f2 (-1) (by decide) H.size) ⟨va_cnB 2 hts gX1_step_X11_at_n49 rfl rfl rfl (hN (.methodLinkNest RX1 49 yX11_at "Beaverhall") (by decide +kernel)) (hts (.initialized RX11) (by decide +kernel)) (by decide +kernel) ⟨Nat.le_of_ble_eq_true rfl, Nat.le_of_ble_eq_true rfl⟩, hts (.static yX11_at) (by decide +kernel), trivial⟩ (pcS hPc hDc hKc hN) rfl rfl hl.1 rfl (lv_room (Nat.le_of_ble_eq_true rfl)) dX1_step_19 ⟨Nat.le_of_ble_eq_true rfl, Nat.le_of_ble_eq_true rfl⟩) hS (fun q _ h => hFc q h) hFc (fun r_5 u t H1 locs ht hvm hw_6 hB hz1 hk1 hS => ?_)
  obtain ⟨hP1, hK1, hD1⟩ := hB
  rw [ht] at hP1
  try dsimp only at hw_6
  obtain ⟨hP, hD⟩ := va_join (wr := [(fw, .inr (6, [.int 0, .int sv, .int hv, .long nv, .ref fo, .ref fu])), (fo, .inl (cI, 10, .inl f1))]) (w1 := [(fu, .inl (cI, 10, .inl f2))]) hP hD [0] [1, 2] rfl rfl (by decide) (by decide) hk1 hFc hP1 hD1
  generalize H1 = H at hP hS ⊢
  have hP : va_P (dC, dI) vwCl [(fw, .inr (6, [.int 0, .int sv, .int hv, .long nv, .ref fo, .ref fu])), (fo, .inl (cI, 10, .inl f1)), (fu, .inl (cI, 10, .inl f2))] H := hP
  have hD : va_D A [(fw, .inr (6, [.int 0, .int sv, .int hv, .long nv, .ref fo, .ref fu])), (fo, .inl (cI, 10, .inl f1)), (fu, .inl (cI, 10, .inl f2))] := hD
  obtain rfl : r_5 = 0 := by rw [hw_6]; exact at_neg (by decide)
  refine lv_istore_n (lv' := [(3, .int 0), (2, .int 0), (1, .int (-1)), (0, .ref fw)]) hx hb dX1_step_22 rfl hl (by decide) rfl (fun ls hl => ?_)
  refine lv_iload_n hx hb dX1_step_23 rfl (lv_at hl 1 rfl) ?_
  refine lv_if_le (tgt := 48) hx hb dX1_step_24 (by decide) (fun c24_7 => ?_) (fun c24_7 => ?_)
  · refine lv_iconst (v := 0) hx hb dX1_step_48 (by decide) ?_
    have hP9 := hP.sub (ws' := [(fw, .inr (6, [.int 0, .int sv, .int hv, .long nv, .ref fo, .ref fu])), (fo, .inl (cI, 10, .inl f1)), (fu, .inl (cI, 10, .inl f2))]) [0, 1, 2] rfl
    have hD9 := hD.sub (ws' := [(fw, .inr (6, [.int 0, .int sv, .int hv, .long nv, .ref fo, .ref fu])), (fo, .inl (cI, 10, .inl f1)), (fu, .inl (cI, 10, .inl f2))]) [0, 1, 2] (by decide) rfl
    have hK9 := hK.sub (tys' := [(cI, .int)]) [0] rfl
    exact W.zret (v := 0) hx hb hr (by rfl) (fun t ht hW => ⟨⟨0, (), rfl, rfl, ⟨by rw [ht]; exact hP9, va_K.moved hW.alike hK9, hD9⟩⟩, hS.F ht⟩) hS.2.2 dX1_step_49
  · exact (c24_7 (by decide)).elim

set_option maxHeartbeats 4000000 in
set_option maxRecDepth 100000 in
/-- X1_go -/
theorem c_X1_go (l : Launch) (dC : Nat → ClassId) (dI : Nat → Nat → Nat) (cI : ClassId) (fw fo fu : Nat) (sv hv : Int32) (nv : Int64) (f1 f2 : Nat → Int32) (n1 : Int64) (k : Int32) (sz : Nat) : Met l yX1_go wsX1_go ({ frames := 2, cells := 0, slots := 0, locals := 45 }) (va_Pc [.ref fw, .long n1, .int k] (cPC dC dI [(fw, .inr (6, [.int 0, .int sv, .int hv, .long nv, .ref fo, .ref fu])), (fo, .inl (cI, 10, .inl f1)), (fu, .inl (cI, 10, .inl f2))] [(cI, .int)] sz)) (va_Ql (fun (r : Int64) (u : Unit) => r = n1) (fun (u : Unit) t => cQB dC dI [] [(cI, .int)] (va_A [(fw, .inr (6, [.int 0, .int sv, .int hv, .long nv, .ref fo, .ref fu])), (fo, .inl (cI, 10, .inl f1)), (fu, .inl (cI, 10, .inl f2))] sz) t) (va_A [(fw, .inr (6, [.int 0, .int sv, .int hv, .long nv, .ref fo, .ref fu])), (fo, .inl (cI, 10, .inl f1)), (fu, .inl (cI, 10, .inl f2))] sz)) 0 0 (va_A [(fw, .inr (6, [.int 0, .int sv, .int hv, .long nv, .ref fo, .ref fu])), (fo, .inl (cI, 10, .inl f1)), (fu, .inl (cI, 10, .inl f2))] sz) := by
  refine Met.ofW (cc := cX1_go) (maxL := 5) (ret := (some .long)) (by decide) rfl ?_
  intro p e s m args below meth c s₁ B hml hv
  obtain ⟨rfl, hsz, hP, hK, hD0, hN⟩ := hv
  have hx := B.exec
  have hb := B.bytes
  have hr := B.returns
  have hts := atoms_spec (ws := wsX1_go) B.pre
  have hown : s.vm.findClass RX1 = some m.cls := findClass_of_methodNamed B.named
  have hlocks := B.notSynchronized
  subst hsz
  have hD := hD0.self (sz := s.heap.size)
  generalize hAe : va_A [(fw, .inr (6, [.int 0, .int sv, .int hv, .long nv, .ref fo, .ref fu])), (fo, .inl (cI, 10, .inl f1)), (fu, .inl (cI, 10, .inl f2))] s.heap.size = A at hD ⊢
  have hA : ∀ q : Nat, s.heap.size ≤ q → A q := fun q h => by rw [← hAe]; exact Or.inr h
  have hS : va_S A s.heap s.heap [] := va_S.rf
  have hP : va_P (dC, dI) vwCl [(fw, .inr (6, [.int 0, .int sv, .int hv, .long nv, .ref fo, .ref fu])), (fo, .inl (cI, 10, .inl f1)), (fu, .inl (cI, 10, .inl f2))] s.heap := hP
  have hD : va_D A [(fw, .inr (6, [.int 0, .int sv, .int hv, .long nv, .ref fo, .ref fu])), (fo, .inl (cI, 10, .inl f1)), (fu, .inl (cI, 10, .inl f2))] := hD
  have hl := lv_entry ([.ref fw, .long n1, .int k]) (n := 5) (Nat.le_of_ble_eq_true rfl)
  rw [lg_entry_eq]
  generalize (lg_sl ([.ref fw, .long n1, .int k]) ++ List.replicate (5 - (lg_sl ([.ref fw, .long n1, .int k])).length) Slot.unset).toArray = ls at hl ⊢
  have hl : lv_has ls 5 [(0, .ref fw), (1, .long n1), (3, .int k)] := hl
  have iWX1 : ∀ w ∈ u_ws RX1 TX1 6, w ∈ wsX1_go := by decide +kernel
  refine lv_aload_n hx hb dX1_go_0 rfl (lv_at hl 0 rfl) ?_
  refine lv_lload_n hx hb dX1_go_1 rfl (lv_at hl 1 rfl) ?_
  refine va_put (D := (dC, dI)) (ci := 6) (v := .long n1) (ty := .long) (C := RX1) (T := TX1) (N := 6) hx hb hts iWX1 tyX1 tyX1_ok nmX1 hown hK hP hD hS 0 rfl rfl 3 (by decide) (hts (.fieldLink RX1 20 "Beaverhall$FractionWalk" "number" "J") (by decide +kernel)) (fun _ h9 => h9) rfl (by decide +kernel) rfl rfl (Nat.le_of_ble_eq_true rfl) dX1_go_2 (fun H locs hP hD hS => ?_)
  have hP : va_P (dC, dI) vwCl [(fw, .inr (6, [.int 0, .int sv, .int hv, .long n1, .ref fo, .ref fu])), (fo, .inl (cI, 10, .inl f1)), (fu, .inl (cI, 10, .inl f2))] H := hP
  have hD : va_D A [(fw, .inr (6, [.int 0, .int sv, .int hv, .long n1, .ref fo, .ref fu])), (fo, .inl (cI, 10, .inl f1)), (fu, .inl (cI, 10, .inl f2))] := hD
  refine lv_aload_n hx hb dX1_go_5 rfl (lv_at hl 0 rfl) ?_
  refine lv_iconst (v := 0) hx hb dX1_go_6 (by decide) ?_
  refine va_put (D := (dC, dI)) (ci := 6) (v := .int 0) (ty := .int) (C := RX1) (T := TX1) (N := 6) hx hb hts iWX1 tyX1 tyX1_ok nmX1 hown hK hP hD hS 0 rfl rfl 1 (by decide) (hts (.fieldLink RX1 13 "Beaverhall$FractionWalk" "steps" "I") (by decide +kernel)) (fun _ h9 => h9) rfl (by decide +kernel) rfl rfl (Nat.le_of_ble_eq_true rfl) dX1_go_7 (fun H locs hP hD hS => ?_)
  have hP : va_P (dC, dI) vwCl [(fw, .inr (6, [.int 0, .int 0, .int hv, .long n1, .ref fo, .ref fu])), (fo, .inl (cI, 10, .inl f1)), (fu, .inl (cI, 10, .inl f2))] H := hP
  have hD : va_D A [(fw, .inr (6, [.int 0, .int 0, .int hv, .long n1, .ref fo, .ref fu])), (fo, .inl (cI, 10, .inl f1)), (fu, .inl (cI, 10, .inl f2))] := hD
  refine lv_iconst (v := 0) hx hb dX1_go_10 (by decide) ?_
  refine lv_istore (lv' := [(4, .int 0), (0, .ref fw), (1, .long n1), (3, .int k)]) hx hb dX1_go_11 hl (by decide) rfl (fun ls hl => ?_)
  refine lv_iload hx hb dX1_go_13 (lv_at hl 0 rfl) ?_
  refine lv_iload_n hx hb dX1_go_15 rfl (lv_at hl 3 rfl) ?_
  refine lv_icmp_ge (tgt := 45) hx hb dX1_go_16 (by decide) (fun c16_1 => ?_) (fun c16_1 => ?_)
  · refine lv_aload_n hx hb dX1_go_45 rfl (lv_at hl 1 rfl) ?_
    refine lv_aload_n hx hb dX1_go_46 rfl (lv_at hl 1 rfl) ?_
    have hPc := hP.sub (ws' := [(fw, .inr (6, [.int 0, .int 0, .int hv, .long n1, .ref fo, .ref fu]))]) [0] rfl
    have hDc := hD.sub (ws' := [(fw, .inr (6, [.int 0, .int 0, .int hv, .long n1, .ref fo, .ref fu]))]) [0] (by decide) rfl
    have hKc := hK.sub (tys' := []) [] rfl
    have hFc := va_free (wc := [(fw, .inr (6, [.int 0, .int 0, .int hv, .long n1, .ref fo, .ref fu]))]) hD hS hA [0] rfl
    refine va_calli (va_runV (As := []) (rest := [.ref fw]) ⟨hx, hb, hml, hown, hts⟩ (c_X1_firstWhole l dC dI fw fo fu 0 hv n1 H.size) (cwV 0 hts gX1_go_X1_firstWhole rfl rfl rfl (by decide +kernel) ⟨Nat.le_of_ble_eq_true rfl, Nat.le_of_ble_eq_true rfl⟩) (pcV hPc hDc hKc hN (ci := 6) (q0 := 0) rfl rfl) rfl rfl hl.1 rfl (lv_room (Nat.le_of_ble_eq_true rfl)) dX1_go_47 ⟨Nat.le_of_ble_eq_true rfl, Nat.le_of_ble_eq_true rfl⟩) hS (fun q _ h => hFc q h) hFc (fun r_2 u t H1 locs ht hvm hw_3 hB hz1 hk1 hS => ?_)
    obtain ⟨hP1, hK1, hD1⟩ := hB
    rw [ht] at hP1
    try dsimp only at hw_3
    obtain ⟨hP, hD⟩ := va_join (wr := [(fo, .inl (cI, 10, .inl f1)), (fu, .inl (cI, 10, .inl f2))]) (w1 := [(fw, .inr (6, [.int 0, .int 0, .int hv, .long n1, .ref fo, .ref fu]))]) hP hD [0] [1, 2] rfl rfl (by decide) (by decide) hk1 hFc hP1 hD1
    generalize H1 = H at hP hS ⊢
    have hP : va_P (dC, dI) vwCl [(fo, .inl (cI, 10, .inl f1)), (fu, .inl (cI, 10, .inl f2)), (fw, .inr (6, [.int 0, .int 0, .int hv, .long n1, .ref fo, .ref fu]))] H := hP
    have hD : va_D A [(fo, .inl (cI, 10, .inl f1)), (fu, .inl (cI, 10, .inl f2)), (fw, .inr (6, [.int 0, .int 0, .int hv, .long n1, .ref fo, .ref fu]))] := hD
    obtain rfl : r_2 = (-1) := hw_3
    refine lv_if_ge (tgt := 57) hx hb dX1_go_50 (by decide) (fun c50_4 => ?_) (fun c50_4 => ?_)
    · exact absurd c50_4 (by decide)
    · refine lv_iconst (v := 1) hx hb dX1_go_53 (by decide) ?_
      refine lv_goto (tgt := 58) hx hb dX1_go_54 (by decide) ?_
      refine va_put (D := (dC, dI)) (ci := 6) (v := .int 1) (ty := .boolean) (C := RX1) (T := TX1) (N := 6) hx hb hts iWX1 tyX1 tyX1_ok nmX1 hown hK hP hD hS 2 rfl rfl 2 (by decide) (hts (.fieldLink RX1 16 "Beaverhall$FractionWalk" "hasEnded" "Z") (by decide +kernel)) (fun _ h9 => h9) rfl (by decide +kernel) rfl rfl (Nat.le_of_ble_eq_true rfl) dX1_go_58 (fun H locs hP hD hS => ?_)
      have hP : va_P (dC, dI) vwCl [(fo, .inl (cI, 10, .inl f1)), (fu, .inl (cI, 10, .inl f2)), (fw, .inr (6, [.int 0, .int 0, .int 1, .long n1, .ref fo, .ref fu]))] H := hP
      have hD : va_D A [(fo, .inl (cI, 10, .inl f1)), (fu, .inl (cI, 10, .inl f2)), (fw, .inr (6, [.int 0, .int 0, .int 1, .long n1, .ref fo, .ref fu]))] := hD
      refine lv_aload_n hx hb dX1_go_61 rfl (lv_at hl 1 rfl) ?_
      refine va_get (D := (dC, dI)) (ci := 6) (v := .long n1) (C := RX1) (T := TX1) (N := 6) hx hb hts iWX1 hown hK hP 2 rfl rfl 3 (by decide) (hts (.fieldLink RX1 20 "Beaverhall$FractionWalk" "number" "J") (by decide +kernel)) (fun _ h9 => h9) rfl dX1_go_62 ?_
      have hP9 := hP.sub (ws' := []) [] rfl
      have hD9 := hD.sub (ws' := []) [] (by decide) rfl
      have hK9 := hK.sub (tys' := [(cI, .int)]) [0] rfl
      exact W.lret (v := n1) hx hb hr (fun t ht hW => ⟨⟨n1, (), rfl, rfl, ⟨by rw [ht]; exact hP9, va_K.moved hW.alike hK9, hD9⟩⟩, hS.F ht⟩) hS.2.2 dX1_go_65
  · refine lv_aload_n hx hb dX1_go_19 rfl (lv_at hl 1 rfl) ?_
    have hPc := hP.sub (ws' := [(fw, .inr (6, [.int 0, .int 0, .int hv, .long n1, .ref fo, .ref fu])), (fo, .inl (cI, 10, .inl f1)), (fu, .inl (cI, 10, .inl f2))]) [0, 1, 2] rfl
    have hDc := hD.sub (ws' := [(fw, .inr (6, [.int 0, .int 0, .int hv, .long n1, .ref fo, .ref fu])), (fo, .inl (cI, 10, .inl f1)), (fu, .inl (cI, 10, .inl f2))]) [0, 1, 2] (by decide) rfl
    have hKc := hK.sub (tys' := [(cI, .int)]) [0] rfl
    have hFc := va_free (wc := [(fw, .inr (6, [.int 0, .int 0, .int hv, .long n1, .ref fo, .ref fu])), (fo, .inl (cI, 10, .inl f1)), (fu, .inl (cI, 10, .inl f2))]) hD hS hA [0, 1, 2] rfl
    refine va_calli (va_runV (As := []) (rest := []) ⟨hx, hb, hml, hown, hts⟩ (c_X1_step l dC dI cI fw fo fu 0 hv n1 f1 f2 H.size) (cwV 0 hts gX1_go_X1_step rfl rfl rfl (by decide +kernel) ⟨Nat.le_of_ble_eq_true rfl, Nat.le_of_ble_eq_true rfl⟩) (pcV hPc hDc hKc hN (ci := 6) (q0 := 0) rfl rfl) rfl rfl hl.1 rfl (lv_room (Nat.le_of_ble_eq_true rfl)) dX1_go_20 ⟨Nat.le_of_ble_eq_true rfl, Nat.le_of_ble_eq_true rfl⟩) hS (fun q _ h => hFc q h) hFc (fun r_5 u t H1 locs ht hvm hw_6 hB hz1 hk1 hS => ?_)
    obtain ⟨hP1, hK1, hD1⟩ := hB
    rw [ht] at hP1
    try dsimp only at hw_6
    obtain ⟨hP, hD⟩ := va_join (wr := []) (w1 := [(fw, .inr (6, [.int 0, .int 0, .int hv, .long n1, .ref fo, .ref fu])), (fo, .inl (cI, 10, .inl f1)), (fu, .inl (cI, 10, .inl f2))]) hP hD [0, 1, 2] [] rfl rfl (by decide) (by decide) hk1 hFc hP1 hD1
    generalize H1 = H at hP hS ⊢
    have hP : va_P (dC, dI) vwCl [(fw, .inr (6, [.int 0, .int 0, .int hv, .long n1, .ref fo, .ref fu])), (fo, .inl (cI, 10, .inl f1)), (fu, .inl (cI, 10, .inl f2))] H := hP
    have hD : va_D A [(fw, .inr (6, [.int 0, .int 0, .int hv, .long n1, .ref fo, .ref fu])), (fo, .inl (cI, 10, .inl f1)), (fu, .inl (cI, 10, .inl f2))] := hD
    obtain rfl : r_5 = 0 := hw_6
    refine lv_if_ne (tgt := 29) hx hb dX1_go_23 (by decide) (fun c23_7 => ?_) (fun c23_7 => ?_)
    · exact (c23_7 (by decide)).elim
    · refine lv_goto (tgt := 45) hx hb dX1_go_26 (by decide) ?_
      refine lv_aload_n hx hb dX1_go_45 rfl (lv_at hl 1 rfl) ?_
      refine lv_aload_n hx hb dX1_go_46 rfl (lv_at hl 1 rfl) ?_
      have hPc := hP.sub (ws' := [(fw, .inr (6, [.int 0, .int 0, .int hv, .long n1, .ref fo, .ref fu]))]) [0] rfl
      have hDc := hD.sub (ws' := [(fw, .inr (6, [.int 0, .int 0, .int hv, .long n1, .ref fo, .ref fu]))]) [0] (by decide) rfl
      have hKc := hK.sub (tys' := []) [] rfl
      have hFc := va_free (wc := [(fw, .inr (6, [.int 0, .int 0, .int hv, .long n1, .ref fo, .ref fu]))]) hD hS hA [0] rfl
      refine va_calli (va_runV (As := []) (rest := [.ref fw]) ⟨hx, hb, hml, hown, hts⟩ (c_X1_firstWhole l dC dI fw fo fu 0 hv n1 H.size) (cwV 0 hts gX1_go_X1_firstWhole rfl rfl rfl (by decide +kernel) ⟨Nat.le_of_ble_eq_true rfl, Nat.le_of_ble_eq_true rfl⟩) (pcV hPc hDc hKc hN (ci := 6) (q0 := 0) rfl rfl) rfl rfl hl.1 rfl (lv_room (Nat.le_of_ble_eq_true rfl)) dX1_go_47 ⟨Nat.le_of_ble_eq_true rfl, Nat.le_of_ble_eq_true rfl⟩) hS (fun q _ h => hFc q h) hFc (fun r_8 u t H1 locs ht hvm hw_9 hB hz1 hk1 hS => ?_)
      obtain ⟨hP1, hK1, hD1⟩ := hB
      rw [ht] at hP1
      try dsimp only at hw_9
      obtain ⟨hP, hD⟩ := va_join (wr := [(fo, .inl (cI, 10, .inl f1)), (fu, .inl (cI, 10, .inl f2))]) (w1 := [(fw, .inr (6, [.int 0, .int 0, .int hv, .long n1, .ref fo, .ref fu]))]) hP hD [0] [1, 2] rfl rfl (by decide) (by decide) hk1 hFc hP1 hD1
      generalize H1 = H at hP hS ⊢
      have hP : va_P (dC, dI) vwCl [(fo, .inl (cI, 10, .inl f1)), (fu, .inl (cI, 10, .inl f2)), (fw, .inr (6, [.int 0, .int 0, .int hv, .long n1, .ref fo, .ref fu]))] H := hP
      have hD : va_D A [(fo, .inl (cI, 10, .inl f1)), (fu, .inl (cI, 10, .inl f2)), (fw, .inr (6, [.int 0, .int 0, .int hv, .long n1, .ref fo, .ref fu]))] := hD
      obtain rfl : r_8 = (-1) := hw_9
      refine lv_if_ge (tgt := 57) hx hb dX1_go_50 (by decide) (fun c50_10 => ?_) (fun c50_10 => ?_)
      · exact absurd c50_10 (by decide)
      · refine lv_iconst (v := 1) hx hb dX1_go_53 (by decide) ?_
        refine lv_goto (tgt := 58) hx hb dX1_go_54 (by decide) ?_
        refine va_put (D := (dC, dI)) (ci := 6) (v := .int 1) (ty := .boolean) (C := RX1) (T := TX1) (N := 6) hx hb hts iWX1 tyX1 tyX1_ok nmX1 hown hK hP hD hS 2 rfl rfl 2 (by decide) (hts (.fieldLink RX1 16 "Beaverhall$FractionWalk" "hasEnded" "Z") (by decide +kernel)) (fun _ h9 => h9) rfl (by decide +kernel) rfl rfl (Nat.le_of_ble_eq_true rfl) dX1_go_58 (fun H locs hP hD hS => ?_)
        have hP : va_P (dC, dI) vwCl [(fo, .inl (cI, 10, .inl f1)), (fu, .inl (cI, 10, .inl f2)), (fw, .inr (6, [.int 0, .int 0, .int 1, .long n1, .ref fo, .ref fu]))] H := hP
        have hD : va_D A [(fo, .inl (cI, 10, .inl f1)), (fu, .inl (cI, 10, .inl f2)), (fw, .inr (6, [.int 0, .int 0, .int 1, .long n1, .ref fo, .ref fu]))] := hD
        refine lv_aload_n hx hb dX1_go_61 rfl (lv_at hl 1 rfl) ?_
        refine va_get (D := (dC, dI)) (ci := 6) (v := .long n1) (C := RX1) (T := TX1) (N := 6) hx hb hts iWX1 hown hK hP 2 rfl rfl 3 (by decide) (hts (.fieldLink RX1 20 "Beaverhall$FractionWalk" "number" "J") (by decide +kernel)) (fun _ h9 => h9) rfl dX1_go_62 ?_
        have hP9 := hP.sub (ws' := []) [] rfl
        have hD9 := hD.sub (ws' := []) [] (by decide) rfl
        have hK9 := hK.sub (tys' := [(cI, .int)]) [0] rfl
        exact W.lret (v := n1) hx hb hr (fun t ht hW => ⟨⟨n1, (), rfl, rfl, ⟨by rw [ht]; exact hP9, va_K.moved hW.alike hK9, hD9⟩⟩, hS.F ht⟩) hS.2.2 dX1_go_65

set_option maxHeartbeats 4000000 in
set_option maxRecDepth 100000 in
/-- X11_demand -/
theorem c_X11_demand (l : Launch) (hfl : l.stackTraces = false) (dC : Nat → ClassId) (dI : Nat → Nat → Nat) (v : Int32) (sz : Nat) : vx_Met l yX11_demand wsX11_demand ({ frames := 6, cells := 1, slots := 6, locals := 100 }) (va_Pc [.int v] (cPCz (zX) dC dI [] [] sz)) (va_Qv (fun (u : Unit) => ¬ v = 0) (fun (u : Unit) t => cQB dC dI [] [] (va_A [] sz) t) (va_A [] sz)) (vx_X (fun (_ : Unit) => True) (fun (E9 : String) (_ : Unit) (_ : State) => E9 = "java/lang/IllegalArgumentException" ∧ v = 0) (va_A [] sz)) 1 6 (va_A [] sz) := by
  refine vx_ofW (cc := cX11_demand) (maxL := 1) (ret := none) (by decide) rfl ?_
  intro p e s m args below meth c s₁ B hml hxt hv
  obtain ⟨rfl, ⟨hsz, hP, hK, hD0, hN⟩, hZ⟩ := hv
  have hx := B.exec
  have hb := B.bytes
  have hr := B.returns
  have hts := atoms_spec (ws := wsX11_demand) B.pre
  have hown : s.vm.findClass RX11 = some m.cls := findClass_of_methodNamed B.named
  have hlocks := B.notSynchronized
  subst hsz
  have hD := hD0.self (sz := s.heap.size)
  generalize hAe : va_A [] s.heap.size = A at hD hZ ⊢
  have hA : ∀ q : Nat, s.heap.size ≤ q → A q := fun q h => by rw [← hAe]; exact Or.inr h
  have hS : va_S A s.heap s.heap [] := va_S.rf
  have hP : va_P (dC, dI) vwCl [] s.heap := hP
  have hD : va_D A [] := hD
  have hl := lv_entry ([.int v]) (n := 1) (Nat.le_of_ble_eq_true rfl)
  rw [lg_entry_eq]
  generalize (lg_sl ([.int v]) ++ List.replicate (1 - (lg_sl ([.int v])).length) Slot.unset).toArray = ls at hl ⊢
  have hl : lv_has ls 1 [(0, .int v)] := hl
  refine lv_iload_n hx hb dX11_demand_0 rfl (lv_at hl 0 rfl) ?_
  refine lv_if_ne (tgt := 12) hx hb dX11_demand_1 (by decide) (fun c1_1 => ?_) (fun c1_1 => ?_)
  · refine vx_ret ?_
    have hP9 := hP.sub (ws' := []) [] rfl
    have hD9 := hD.sub (ws' := []) [] (by decide) rfl
    have hK9 := hK.sub (tys' := []) [] rfl
    refine W.widen (k := 1) (n := 6) (Nat.le_of_ble_eq_true rfl) (Nat.le_of_ble_eq_true rfl) ?_
    exact W.vret hx hb hr (fun t ht hW => ⟨⟨(), rfl, c1_1, ⟨by rw [ht]; exact hP9, va_K.moved hW.alike hK9, hD9⟩⟩, hS.F ht⟩) hS.2.2 dX11_demand_12
  · exact vx_throw0 (own := RX11) (cls := "java/lang/IllegalArgumentException") (names := ["java/lang/RuntimeException", "java/lang/Exception"]) (ik := 299) (ic := 301) hx hb hfl hown (by decide) (by decide) (hts (.classLink RX11 299 "java/lang/IllegalArgumentException") (by decide +kernel)) (hts (.initialized "java/lang/IllegalArgumentException") (by decide +kernel)) (vx_hat (fun w9 hw9 => hts w9 (List.mem_cons_of_mem _ (List.mem_append_right _ hw9))) (by decide +kernel) (zX_use hZ)) (by decide +kernel) hZ.1.1 hZ.1.2 hS (hl.1.trans hml.symm) dX11_demand_4 dX11_demand_7 dX11_demand_8 dX11_demand_11 (fun x h => (hxt x h).elim) (Nat.le_of_ble_eq_true rfl) (Nat.le_of_ble_eq_true rfl) (Nat.le_of_ble_eq_true rfl) (Nat.le_of_ble_eq_true rfl) hlocks (fun t ha h1 h2 => ⟨(), trivial, ⟨rfl, c1_1⟩, thr_F hS h1 h2⟩) hS.2.2 (Nat.le_of_ble_eq_true rfl) (Nat.le_of_ble_eq_true rfl)

set_option maxHeartbeats 4000000 in
set_option maxRecDepth 100000 in
/-- X11_demandFound -/
theorem c_X11_demandFound (l : Launch) (hfl : l.stackTraces = false) (dC : Nat → ClassId) (dI : Nat → Nat → Nat) (v : Int32) (sz : Nat) : vx_Met l yX11_demandFound wsX11_demandFound ({ frames := 6, cells := 1, slots := 6, locals := 100 }) (va_Pc [.int v] (cPCz (zX) dC dI [] [] sz)) (va_Qv (fun (u : Unit) => ¬ v = 0) (fun (u : Unit) t => cQB dC dI [] [] (va_A [] sz) t) (va_A [] sz)) (vx_X (fun (_ : Unit) => True) (fun (E9 : String) (_ : Unit) (_ : State) => E9 = "java/util/NoSuchElementException" ∧ v = 0) (va_A [] sz)) 1 6 (va_A [] sz) := by
  refine vx_ofW (cc := cX11_demandFound) (maxL := 1) (ret := none) (by decide) rfl ?_
  intro p e s m args below meth c s₁ B hml hxt hv
  obtain ⟨rfl, ⟨hsz, hP, hK, hD0, hN⟩, hZ⟩ := hv
  have hx := B.exec
  have hb := B.bytes
  have hr := B.returns
  have hts := atoms_spec (ws := wsX11_demandFound) B.pre
  have hown : s.vm.findClass RX11 = some m.cls := findClass_of_methodNamed B.named
  have hlocks := B.notSynchronized
  subst hsz
  have hD := hD0.self (sz := s.heap.size)
  generalize hAe : va_A [] s.heap.size = A at hD hZ ⊢
  have hA : ∀ q : Nat, s.heap.size ≤ q → A q := fun q h => by rw [← hAe]; exact Or.inr h
  have hS : va_S A s.heap s.heap [] := va_S.rf
  have hP : va_P (dC, dI) vwCl [] s.heap := hP
  have hD : va_D A [] := hD
  have hl := lv_entry ([.int v]) (n := 1) (Nat.le_of_ble_eq_true rfl)
  rw [lg_entry_eq]
  generalize (lg_sl ([.int v]) ++ List.replicate (1 - (lg_sl ([.int v])).length) Slot.unset).toArray = ls at hl ⊢
  have hl : lv_has ls 1 [(0, .int v)] := hl
  refine lv_iload_n hx hb dX11_demandFound_0 rfl (lv_at hl 0 rfl) ?_
  refine lv_if_ne (tgt := 12) hx hb dX11_demandFound_1 (by decide) (fun c1_1 => ?_) (fun c1_1 => ?_)
  · refine vx_ret ?_
    have hP9 := hP.sub (ws' := []) [] rfl
    have hD9 := hD.sub (ws' := []) [] (by decide) rfl
    have hK9 := hK.sub (tys' := []) [] rfl
    refine W.widen (k := 1) (n := 6) (Nat.le_of_ble_eq_true rfl) (Nat.le_of_ble_eq_true rfl) ?_
    exact W.vret hx hb hr (fun t ht hW => ⟨⟨(), rfl, c1_1, ⟨by rw [ht]; exact hP9, va_K.moved hW.alike hK9, hD9⟩⟩, hS.F ht⟩) hS.2.2 dX11_demandFound_12
  · exact vx_throw0 (own := RX11) (cls := "java/util/NoSuchElementException") (names := ["java/lang/RuntimeException", "java/lang/Exception"]) (ik := 302) (ic := 304) hx hb hfl hown (by decide) (by decide) (hts (.classLink RX11 302 "java/util/NoSuchElementException") (by decide +kernel)) (hts (.initialized "java/util/NoSuchElementException") (by decide +kernel)) (vx_hat (fun w9 hw9 => hts w9 (List.mem_cons_of_mem _ (List.mem_append_right _ hw9))) (by decide +kernel) (zX_use hZ)) (by decide +kernel) hZ.1.1 hZ.1.2 hS (hl.1.trans hml.symm) dX11_demandFound_4 dX11_demandFound_7 dX11_demandFound_8 dX11_demandFound_11 (fun x h => (hxt x h).elim) (Nat.le_of_ble_eq_true rfl) (Nat.le_of_ble_eq_true rfl) (Nat.le_of_ble_eq_true rfl) (Nat.le_of_ble_eq_true rfl) hlocks (fun t ha h1 h2 => ⟨(), trivial, ⟨rfl, c1_1⟩, thr_F hS h1 h2⟩) hS.2.2 (Nat.le_of_ble_eq_true rfl) (Nat.le_of_ble_eq_true rfl)

set_option maxHeartbeats 4000000 in
set_option maxRecDepth 100000 in
/-- X11_known -/
theorem c_X11_known (l : Launch) (hfl : l.stackTraces = false) (dC : Nat → ClassId) (dI : Nat → Nat → Nat) (ya ms ju li ct tg fw : Nat) (i : Int32) (sz : Nat) : vx_Met l yX11_known wsX11_known ({ frames := 6, cells := 1, slots := 6, locals := 100 }) (va_Pc [.ref ya, .int i] (cPCz (zX) dC dI [(ya, .inr (16, [.ref ms, .int 0, .ref ju, .ref li, .ref ct, .ref tg, .ref fw]))] [] sz)) (fun _ _ _ _ => False) (vx_X (fun (_ : Unit) => True) (fun (E9 : String) (_ : Unit) (_ : State) => E9 = "java/lang/IndexOutOfBoundsException") (va_A [(ya, .inr (16, [.ref ms, .int 0, .ref ju, .ref li, .ref ct, .ref tg, .ref fw]))] sz)) 1 6 (va_A [(ya, .inr (16, [.ref ms, .int 0, .ref ju, .ref li, .ref ct, .ref tg, .ref fw]))] sz) := by
  refine vx_ofW (cc := cX11_known) (maxL := 3) (ret := (some (.object "Beaverhall$Machine"))) (by decide) rfl ?_
  intro p e s m args below meth c s₁ B hml hxt hv
  obtain ⟨rfl, ⟨hsz, hP, hK, hD0, hN⟩, hZ⟩ := hv
  have hx := B.exec
  have hb := B.bytes
  have hr := B.returns
  have hts := atoms_spec (ws := wsX11_known) B.pre
  have hown : s.vm.findClass RX11 = some m.cls := findClass_of_methodNamed B.named
  have hlocks := B.notSynchronized
  subst hsz
  have hD := hD0.self (sz := s.heap.size)
  generalize hAe : va_A [(ya, .inr (16, [.ref ms, .int 0, .ref ju, .ref li, .ref ct, .ref tg, .ref fw]))] s.heap.size = A at hD hZ ⊢
  have hA : ∀ q : Nat, s.heap.size ≤ q → A q := fun q h => by rw [← hAe]; exact Or.inr h
  have hS : va_S A s.heap s.heap [] := va_S.rf
  have hP : va_P (dC, dI) vwCl [(ya, .inr (16, [.ref ms, .int 0, .ref ju, .ref li, .ref ct, .ref tg, .ref fw]))] s.heap := hP
  have hD : va_D A [(ya, .inr (16, [.ref ms, .int 0, .ref ju, .ref li, .ref ct, .ref tg, .ref fw]))] := hD
  have hl := lv_entry ([.ref ya, .int i]) (n := 3) (Nat.le_of_ble_eq_true rfl)
  rw [lg_entry_eq]
  generalize (lg_sl ([.ref ya, .int i]) ++ List.replicate (3 - (lg_sl ([.ref ya, .int i])).length) Slot.unset).toArray = ls at hl ⊢
  have hl : lv_has ls 3 [(0, .ref ya), (1, .int i)] := hl
  have iWX11 : ∀ w ∈ u_ws RX11 TX11 7, w ∈ wsX11_known := by decide +kernel
  refine lv_iload_n hx hb dX11_known_0 rfl (lv_at hl 1 rfl) ?_
  refine lv_if_lt (tgt := 30) hx hb dX11_known_1 (by decide) (fun c1_1 => ?_) (fun c1_1 => ?_)
  · refine lv_null hx hb dX11_known_30 ?_
    refine lv_astore_nN (lv' := [(2, .null), (0, .ref ya), (1, .int i)]) hx hb dX11_known_31 rfl hl (by decide) rfl (fun ls hl => ?_)
    refine lv_aload_nN hx hb dX11_known_32 rfl (lv_at hl 0 rfl) ?_
    refine lv_ifnonnullN hx hb dX11_known_33 ?_
    exact vx_throw0 (own := RX11) (cls := "java/lang/IndexOutOfBoundsException") (names := ["java/lang/RuntimeException", "java/lang/Exception"]) (ik := 238) (ic := 240) hx hb hfl hown (by decide) (by decide) (hts (.classLink RX11 238 "java/lang/IndexOutOfBoundsException") (by decide +kernel)) (hts (.initialized "java/lang/IndexOutOfBoundsException") (by decide +kernel)) (vx_hat (fun w9 hw9 => hts w9 (List.mem_cons_of_mem _ (List.mem_append_right _ hw9))) (by decide +kernel) (zX_use hZ)) (by decide +kernel) hZ.1.1 hZ.1.2 hS (hl.1.trans hml.symm) dX11_known_36 dX11_known_39 dX11_known_40 dX11_known_43 (fun x h => (hxt x h).elim) (Nat.le_of_ble_eq_true rfl) (Nat.le_of_ble_eq_true rfl) (Nat.le_of_ble_eq_true rfl) (Nat.le_of_ble_eq_true rfl) hlocks (fun t ha h1 h2 => ⟨(), trivial, rfl, thr_F hS h1 h2⟩) hS.2.2 (Nat.le_of_ble_eq_true rfl) (Nat.le_of_ble_eq_true rfl)
  · refine lv_iload_n hx hb dX11_known_4 rfl (lv_at hl 1 rfl) ?_
    refine lv_aload_n hx hb dX11_known_5 rfl (lv_at hl 0 rfl) ?_
    refine va_get (D := (dC, dI)) (ci := 16) (v := .int 0) (C := RX11) (T := TX11) (N := 7) hx hb hts iWX11 hown hK hP 0 rfl rfl 1 (by decide) (hts (.fieldLink RX11 15 "Beaverhall" "machineCount" "I") (by decide +kernel)) (fun _ h9 => h9) rfl dX11_known_6 ?_
    refine lv_icmp_ge (tgt := 30) hx hb dX11_known_9 (by decide) (fun c9_2 => ?_) (fun c9_2 => ?_)
    · refine lv_null hx hb dX11_known_30 ?_
      refine lv_astore_nN (lv' := [(2, .null), (0, .ref ya), (1, .int i)]) hx hb dX11_known_31 rfl hl (by decide) rfl (fun ls hl => ?_)
      refine lv_aload_nN hx hb dX11_known_32 rfl (lv_at hl 0 rfl) ?_
      refine lv_ifnonnullN hx hb dX11_known_33 ?_
      exact vx_throw0 (own := RX11) (cls := "java/lang/IndexOutOfBoundsException") (names := ["java/lang/RuntimeException", "java/lang/Exception"]) (ik := 238) (ic := 240) hx hb hfl hown (by decide) (by decide) (hts (.classLink RX11 238 "java/lang/IndexOutOfBoundsException") (by decide +kernel)) (hts (.initialized "java/lang/IndexOutOfBoundsException") (by decide +kernel)) (vx_hat (fun w9 hw9 => hts w9 (List.mem_cons_of_mem _ (List.mem_append_right _ hw9))) (by decide +kernel) (zX_use hZ)) (by decide +kernel) hZ.1.1 hZ.1.2 hS (hl.1.trans hml.symm) dX11_known_36 dX11_known_39 dX11_known_40 dX11_known_43 (fun x h => (hxt x h).elim) (Nat.le_of_ble_eq_true rfl) (Nat.le_of_ble_eq_true rfl) (Nat.le_of_ble_eq_true rfl) (Nat.le_of_ble_eq_true rfl) hlocks (fun t ha h1 h2 => ⟨(), trivial, rfl, thr_F hS h1 h2⟩) hS.2.2 (Nat.le_of_ble_eq_true rfl) (Nat.le_of_ble_eq_true rfl)
    · exact absurd (Int32.not_lt.mp c1_1) c9_2
