theorem dX7_takeTape_0 : decode cX7_takeTape 0 = .ok (.aload_n 1, 1) := by decide +kernel
theorem dX7_takeTape_1 : decode cX7_takeTape 1 = .ok (.getfield 31, 3) := by decide +kernel
theorem dX7_takeTape_4 : decode cX7_takeTape 4 = .ok (.iconst 0, 1) := by decide +kernel
theorem dX7_takeTape_5 : decode cX7_takeTape 5 = .ok (.aload_n 0, 1) := by decide +kernel
theorem dX7_takeTape_6 : decode cX7_takeTape 6 = .ok (.getfield 31, 3) := by decide +kernel
theorem dX7_takeTape_9 : decode cX7_takeTape 9 = .ok (.iconst 0, 1) := by decide +kernel
theorem dX7_takeTape_10 : decode cX7_takeTape 10 = .ok (.sipush 1001, 3) := by decide +kernel
theorem dX7_takeTape_13 : decode cX7_takeTape 13 = .ok (.invokestatic 82, 3) := by decide +kernel
theorem dX7_takeTape_16 : decode cX7_takeTape 16 = .ok (.return_, 1) := by decide +kernel
theorem dX7_isAs_0 : decode cX7_isAs 0 = .ok (.aload_n 0, 1) := by decide +kernel
theorem dX7_isAs_1 : decode cX7_isAs 1 = .ok (.getfield 9, 3) := by decide +kernel
theorem dX7_isAs_4 : decode cX7_isAs 4 = .ok (.aload_n 1, 1) := by decide +kernel
theorem dX7_isAs_5 : decode cX7_isAs 5 = .ok (.getfield 9, 3) := by decide +kernel
theorem dX7_isAs_8 : decode cX7_isAs 8 = .ok (.if_icmp .ne 14, 3) := by decide +kernel
theorem dX7_isAs_22 : decode cX7_isAs 22 = .ok (.iconst 0, 1) := by decide +kernel
theorem dX7_isAs_23 : decode cX7_isAs 23 = .ok (.ireturn, 1) := by decide +kernel
theorem dX7_isAs_11 : decode cX7_isAs 11 = .ok (.aload_n 0, 1) := by decide +kernel
theorem dX7_isAs_12 : decode cX7_isAs 12 = .ok (.getfield 15, 3) := by decide +kernel
theorem dX7_isAs_15 : decode cX7_isAs 15 = .ok (.aload_n 1, 1) := by decide +kernel
theorem dX7_isAs_16 : decode cX7_isAs 16 = .ok (.getfield 15, 3) := by decide +kernel
theorem dX7_isAs_19 : decode cX7_isAs 19 = .ok (.if_icmp .eq 5, 3) := by decide +kernel
theorem dX7_isAs_24 : decode cX7_isAs 24 = .ok (.aload_n 0, 1) := by decide +kernel
theorem dX7_isAs_25 : decode cX7_isAs 25 = .ok (.getfield 21, 3) := by decide +kernel
theorem dX7_isAs_28 : decode cX7_isAs 28 = .ok (.aload_n 1, 1) := by decide +kernel
theorem dX7_isAs_29 : decode cX7_isAs 29 = .ok (.getfield 21, 3) := by decide +kernel
theorem dX7_isAs_32 : decode cX7_isAs 32 = .ok (.invokestatic 67, 3) := by decide +kernel
theorem dX7_isAs_35 : decode cX7_isAs 35 = .ok (.istore_n 2, 1) := by decide +kernel
theorem dX7_isAs_36 : decode cX7_isAs 36 = .ok (.aload_n 0, 1) := by decide +kernel
theorem dX7_isAs_37 : decode cX7_isAs 37 = .ok (.getfield 24, 3) := by decide +kernel
theorem dX7_isAs_40 : decode cX7_isAs 40 = .ok (.aload_n 1, 1) := by decide +kernel
theorem dX7_isAs_41 : decode cX7_isAs 41 = .ok (.getfield 24, 3) := by decide +kernel
theorem dX7_isAs_44 : decode cX7_isAs 44 = .ok (.invokestatic 72, 3) := by decide +kernel
theorem dX7_isAs_47 : decode cX7_isAs 47 = .ok (.istore_n 3, 1) := by decide +kernel
theorem dX7_isAs_48 : decode cX7_isAs 48 = .ok (.iload_n 2, 1) := by decide +kernel
theorem dX7_isAs_49 : decode cX7_isAs 49 = .ok (.istore 4, 2) := by decide +kernel
theorem dX7_isAs_51 : decode cX7_isAs 51 = .ok (.iload 4, 2) := by decide +kernel
theorem dX7_isAs_53 : decode cX7_isAs 53 = .ok (.iload_n 3, 1) := by decide +kernel
theorem dX7_isAs_54 : decode cX7_isAs 54 = .ok (.if_icmp .gt 26, 3) := by decide +kernel
theorem dX7_isAs_80 : decode cX7_isAs 80 = .ok (.iconst 1, 1) := by decide +kernel
theorem dX7_isAs_81 : decode cX7_isAs 81 = .ok (.ireturn, 1) := by decide +kernel
theorem dX7_isAs_57 : decode cX7_isAs 57 = .ok (.aload_n 0, 1) := by decide +kernel
theorem dX7_isAs_58 : decode cX7_isAs 58 = .ok (.iload 4, 2) := by decide +kernel
set_option maxRecDepth 20000 in
theorem ggX7_isAs_X7_signOf : GoodIn wsX7_isAs wsX7_signOf := goodIn_ca (goodIn_r _ [16, 17, 18, 19, 20, 21, 22, 23, 24] rfl (by decide +kernel)) (goodIn_sub (fun _ h => List.mem_cons_of_mem _ (List.mem_append_right _ h)) (by decide +kernel))
set_option maxRecDepth 20000 in
theorem gX7_isAs_X7_signOf : GoodIn wsX7_isAs (wsV RX7 41 RX7 yX7_signOf wsX7_signOf) := goodIn_app (goodIn_of _ (by decide +kernel)) ggX7_isAs_X7_signOf
theorem dX7_isAs_60 : decode cX7_isAs 60 = .ok (.invokevirtual 41, 3) := by decide +kernel
theorem dX7_isAs_63 : decode cX7_isAs 63 = .ok (.aload_n 1, 1) := by decide +kernel
theorem dX7_isAs_64 : decode cX7_isAs 64 = .ok (.iload 4, 2) := by decide +kernel
theorem dX7_isAs_66 : decode cX7_isAs 66 = .ok (.invokevirtual 41, 3) := by decide +kernel
theorem dX7_isAs_69 : decode cX7_isAs 69 = .ok (.if_icmp .eq 5, 3) := by decide +kernel
theorem dX7_isAs_74 : decode cX7_isAs 74 = .ok (.iinc 4 1, 3) := by decide +kernel
theorem dX7_isAs_77 : decode cX7_isAs 77 = .ok (.goto (-26), 3) := by decide +kernel
theorem dX7_isAs_72 : decode cX7_isAs 72 = .ok (.iconst 0, 1) := by decide +kernel
theorem dX7_isAs_73 : decode cX7_isAs 73 = .ok (.ireturn, 1) := by decide +kernel
theorem dX7_isLikeBehind_0 : decode cX7_isLikeBehind 0 = .ok (.iconst 0, 1) := by decide +kernel
theorem dX7_isLikeBehind_1 : decode cX7_isLikeBehind 1 = .ok (.istore 6, 2) := by decide +kernel
theorem dX7_isLikeBehind_3 : decode cX7_isLikeBehind 3 = .ok (.iload 6, 2) := by decide +kernel
theorem dX7_isLikeBehind_5 : decode cX7_isLikeBehind 5 = .ok (.iload 4, 2) := by decide +kernel
theorem dX7_isLikeBehind_7 : decode cX7_isLikeBehind 7 = .ok (.if_icmp .ge 36, 3) := by decide +kernel
theorem dX7_isLikeBehind_43 : decode cX7_isLikeBehind 43 = .ok (.iconst 1, 1) := by decide +kernel
theorem dX7_isLikeBehind_44 : decode cX7_isLikeBehind 44 = .ok (.ireturn, 1) := by decide +kernel
theorem dX7_isLikeBehind_10 : decode cX7_isLikeBehind 10 = .ok (.aload_n 0, 1) := by decide +kernel
theorem dX7_isLikeBehind_11 : decode cX7_isLikeBehind 11 = .ok (.iload_n 1, 1) := by decide +kernel
theorem dX7_isLikeBehind_12 : decode cX7_isLikeBehind 12 = .ok (.iload 6, 2) := by decide +kernel
theorem dX7_isLikeBehind_14 : decode cX7_isLikeBehind 14 = .ok (.iload 5, 2) := by decide +kernel
theorem dX7_isLikeBehind_16 : decode cX7_isLikeBehind 16 = .ok (.imul, 1) := by decide +kernel
theorem dX7_isLikeBehind_17 : decode cX7_isLikeBehind 17 = .ok (.isub, 1) := by decide +kernel
set_option maxRecDepth 20000 in
theorem ggX7_isLikeBehind_X7_signOf : GoodIn wsX7_isLikeBehind wsX7_signOf := goodIn_ca (goodIn_r _ [5, 6, 7, 8, 9, 10, 11, 12, 13] rfl (by decide +kernel)) (goodIn_sub (fun _ h => List.mem_cons_of_mem _ (List.mem_append_right _ h)) (by decide +kernel))
set_option maxRecDepth 20000 in
theorem gX7_isLikeBehind_X7_signOf : GoodIn wsX7_isLikeBehind (wsV RX7 41 RX7 yX7_signOf wsX7_signOf) := goodIn_app (goodIn_of _ (by decide +kernel)) ggX7_isLikeBehind_X7_signOf
theorem dX7_isLikeBehind_18 : decode cX7_isLikeBehind 18 = .ok (.invokevirtual 41, 3) := by decide +kernel
theorem dX7_isLikeBehind_21 : decode cX7_isLikeBehind 21 = .ok (.aload_n 2, 1) := by decide +kernel
theorem dX7_isLikeBehind_22 : decode cX7_isLikeBehind 22 = .ok (.iload_n 3, 1) := by decide +kernel
theorem dX7_isLikeBehind_23 : decode cX7_isLikeBehind 23 = .ok (.iload 6, 2) := by decide +kernel
theorem dX7_isLikeBehind_25 : decode cX7_isLikeBehind 25 = .ok (.iload 5, 2) := by decide +kernel
theorem dX7_isLikeBehind_27 : decode cX7_isLikeBehind 27 = .ok (.imul, 1) := by decide +kernel
theorem dX7_isLikeBehind_28 : decode cX7_isLikeBehind 28 = .ok (.isub, 1) := by decide +kernel
theorem dX7_isLikeBehind_29 : decode cX7_isLikeBehind 29 = .ok (.invokevirtual 41, 3) := by decide +kernel
theorem dX7_isLikeBehind_32 : decode cX7_isLikeBehind 32 = .ok (.if_icmp .eq 5, 3) := by decide +kernel
theorem dX7_isLikeBehind_37 : decode cX7_isLikeBehind 37 = .ok (.iinc 6 1, 3) := by decide +kernel
theorem dX7_isLikeBehind_40 : decode cX7_isLikeBehind 40 = .ok (.goto (-37), 3) := by decide +kernel
theorem dX7_isLikeBehind_35 : decode cX7_isLikeBehind 35 = .ok (.iconst 0, 1) := by decide +kernel
theorem dX7_isLikeBehind_36 : decode cX7_isLikeBehind 36 = .ok (.ireturn, 1) := by decide +kernel
theorem dX7_marks_0 : decode cX7_marks 0 = .ok (.iconst 0, 1) := by decide +kernel
theorem dX7_marks_1 : decode cX7_marks 1 = .ok (.istore_n 1, 1) := by decide +kernel
theorem dX7_marks_2 : decode cX7_marks 2 = .ok (.aload_n 0, 1) := by decide +kernel
theorem dX7_marks_3 : decode cX7_marks 3 = .ok (.getfield 21, 3) := by decide +kernel
theorem dX7_marks_6 : decode cX7_marks 6 = .ok (.istore_n 2, 1) := by decide +kernel
theorem dX7_marks_7 : decode cX7_marks 7 = .ok (.iload_n 2, 1) := by decide +kernel
theorem dX7_marks_8 : decode cX7_marks 8 = .ok (.aload_n 0, 1) := by decide +kernel
theorem dX7_marks_9 : decode cX7_marks 9 = .ok (.getfield 24, 3) := by decide +kernel
theorem dX7_marks_12 : decode cX7_marks 12 = .ok (.if_icmp .gt 25, 3) := by decide +kernel
theorem dX7_marks_37 : decode cX7_marks 37 = .ok (.iload_n 1, 1) := by decide +kernel
theorem dX7_marks_38 : decode cX7_marks 38 = .ok (.ireturn, 1) := by decide +kernel
theorem dX7_marks_15 : decode cX7_marks 15 = .ok (.iload_n 1, 1) := by decide +kernel
theorem dX7_marks_16 : decode cX7_marks 16 = .ok (.aload_n 0, 1) := by decide +kernel
theorem dX7_marks_17 : decode cX7_marks 17 = .ok (.iload_n 2, 1) := by decide +kernel
set_option maxRecDepth 20000 in
theorem ggX7_marks_X7_signOf : GoodIn wsX7_marks wsX7_signOf := goodIn_ca (goodIn_r _ [7, 8, 9, 10, 11, 12, 13, 14, 15] rfl (by decide +kernel)) (goodIn_sub (fun _ h => List.mem_cons_of_mem _ (List.mem_append_right _ h)) (by decide +kernel))
set_option maxRecDepth 20000 in
theorem gX7_marks_X7_signOf : GoodIn wsX7_marks (wsV RX7 41 RX7 yX7_signOf wsX7_signOf) := goodIn_app (goodIn_of _ (by decide +kernel)) ggX7_marks_X7_signOf
theorem dX7_marks_18 : decode cX7_marks 18 = .ok (.invokevirtual 41, 3) := by decide +kernel
theorem dX7_marks_21 : decode cX7_marks 21 = .ok (.ifCond .ne 7, 3) := by decide +kernel
theorem dX7_marks_28 : decode cX7_marks 28 = .ok (.iconst 1, 1) := by decide +kernel
theorem dX7_marks_29 : decode cX7_marks 29 = .ok (.iadd, 1) := by decide +kernel
theorem dX7_marks_30 : decode cX7_marks 30 = .ok (.istore_n 1, 1) := by decide +kernel
theorem dX7_marks_31 : decode cX7_marks 31 = .ok (.iinc 2 1, 3) := by decide +kernel
theorem dX7_marks_34 : decode cX7_marks 34 = .ok (.goto (-27), 3) := by decide +kernel
theorem dX7_marks_24 : decode cX7_marks 24 = .ok (.iconst 0, 1) := by decide +kernel
theorem dX7_marks_25 : decode cX7_marks 25 = .ok (.goto 4, 3) := by decide +kernel
theorem dX5_setOrder_0 : decode cX5_setOrder 0 = .ok (.aload_n 0, 1) := by decide +kernel
theorem dX5_setOrder_1 : decode cX5_setOrder 1 = .ok (.iload_n 1, 1) := by decide +kernel
theorem dX5_setOrder_2 : decode cX5_setOrder 2 = .ok (.iload_n 2, 1) := by decide +kernel
set_option maxRecDepth 20000 in
theorem ggX5_setOrder_X5_hasPlace : GoodIn wsX5_setOrder wsX5_hasPlace := goodIn_r _ [7, 8, 9, 17, 18, 19, 20, 21, 22, 23, 24, 25, 26, 27] rfl (by decide +kernel)
set_option maxRecDepth 20000 in
theorem gX5_setOrder_X5_hasPlace : GoodIn wsX5_setOrder (wsV RX5 52 RX5 yX5_hasPlace wsX5_hasPlace) := goodIn_app (goodIn_of _ (by decide +kernel)) ggX5_setOrder_X5_hasPlace
theorem dX5_setOrder_3 : decode cX5_setOrder 3 = .ok (.invokevirtual 52, 3) := by decide +kernel
theorem dX5_setOrder_6 : decode cX5_setOrder 6 = .ok (.ifCond .ne 4, 3) := by decide +kernel
theorem dX5_setOrder_10 : decode cX5_setOrder 10 = .ok (.aload_n 0, 1) := by decide +kernel
theorem dX5_setOrder_11 : decode cX5_setOrder 11 = .ok (.iload_n 1, 1) := by decide +kernel
theorem dX5_setOrder_12 : decode cX5_setOrder 12 = .ok (.iload_n 2, 1) := by decide +kernel
set_option maxRecDepth 20000 in
theorem ggX5_setOrder_X5_orderFor : GoodIn wsX5_setOrder wsX5_orderFor := goodIn_ca (goodIn_r _ [13, 8, 9, 2, 17, 18, 19, 20, 21, 22, 23, 24, 25, 26, 27] rfl (by decide +kernel)) (goodIn_sub (fun _ h => List.mem_cons_of_mem _ (List.mem_append_right _ h)) (by decide +kernel))
set_option maxRecDepth 20000 in
theorem gX5_setOrder_X5_orderFor : GoodIn wsX5_setOrder (wsV RX5 56 RX5 yX5_orderFor wsX5_orderFor) := goodIn_app (goodIn_of _ (by decide +kernel)) ggX5_setOrder_X5_orderFor
theorem dX5_setOrder_13 : decode cX5_setOrder 13 = .ok (.invokevirtual 56, 3) := by decide +kernel
theorem dX5_setOrder_16 : decode cX5_setOrder 16 = .ok (.istore 4, 2) := by decide +kernel
theorem dX5_setOrder_18 : decode cX5_setOrder 18 = .ok (.aload_n 0, 1) := by decide +kernel
theorem dX5_setOrder_19 : decode cX5_setOrder 19 = .ok (.dup, 1) := by decide +kernel
theorem dX5_setOrder_20 : decode cX5_setOrder 20 = .ok (.getfield 22, 3) := by decide +kernel
theorem dX5_setOrder_23 : decode cX5_setOrder 23 = .ok (.iload_n 3, 1) := by decide +kernel
theorem dX5_setOrder_24 : decode cX5_setOrder 24 = .ok (.ifCond .ne 7, 3) := by decide +kernel
theorem dX5_setOrder_31 : decode cX5_setOrder 31 = .ok (.iconst 1, 1) := by decide +kernel
theorem dX5_setOrder_32 : decode cX5_setOrder 32 = .ok (.iload 4, 2) := by decide +kernel
theorem dX5_setOrder_34 : decode cX5_setOrder 34 = .ok (.ifCond .ne 7, 3) := by decide +kernel
theorem dX5_setOrder_41 : decode cX5_setOrder 41 = .ok (.iconst 1, 1) := by decide +kernel
theorem dX5_setOrder_42 : decode cX5_setOrder 42 = .ok (.isub, 1) := by decide +kernel
theorem dX5_setOrder_43 : decode cX5_setOrder 43 = .ok (.iadd, 1) := by decide +kernel
theorem dX5_setOrder_44 : decode cX5_setOrder 44 = .ok (.putfield 22, 3) := by decide +kernel
theorem dX5_setOrder_47 : decode cX5_setOrder 47 = .ok (.aload_n 0, 1) := by decide +kernel
theorem dX5_setOrder_48 : decode cX5_setOrder 48 = .ok (.getfield 36, 3) := by decide +kernel
theorem dX5_setOrder_51 : decode cX5_setOrder 51 = .ok (.iload_n 1, 1) := by decide +kernel
theorem dX5_setOrder_52 : decode cX5_setOrder 52 = .ok (.iconst 4, 1) := by decide +kernel
theorem dX5_setOrder_53 : decode cX5_setOrder 53 = .ok (.imul, 1) := by decide +kernel
theorem dX5_setOrder_54 : decode cX5_setOrder 54 = .ok (.iload_n 2, 1) := by decide +kernel
theorem dX5_setOrder_55 : decode cX5_setOrder 55 = .ok (.iadd, 1) := by decide +kernel
theorem dX5_setOrder_56 : decode cX5_setOrder 56 = .ok (.iload_n 3, 1) := by decide +kernel
set_option maxRecDepth 20000 in
theorem ggX5_setOrder_X11_put : GoodIn wsX5_setOrder wsX11_put := goodIn_ca (goodIn_r _ [16] rfl (by decide +kernel)) (goodIn_sub (fun _ h => List.mem_cons_of_mem _ (List.mem_append_right _ h)) (by decide +kernel))
set_option maxRecDepth 20000 in
theorem gX5_setOrder_X11_put_n60 : GoodIn wsX5_setOrder (wsX11_put) := ggX5_setOrder_X11_put
theorem dX5_setOrder_57 : decode cX5_setOrder 57 = .ok (.invokestatic 60, 3) := by decide +kernel
theorem dX5_setOrder_60 : decode cX5_setOrder 60 = .ok (.return_, 1) := by decide +kernel
theorem dX5_setOrder_37 : decode cX5_setOrder 37 = .ok (.iconst 0, 1) := by decide +kernel
theorem dX5_setOrder_38 : decode cX5_setOrder 38 = .ok (.goto 4, 3) := by decide +kernel
theorem dX5_setOrder_27 : decode cX5_setOrder 27 = .ok (.iconst 0, 1) := by decide +kernel
theorem dX5_setOrder_28 : decode cX5_setOrder 28 = .ok (.goto 4, 3) := by decide +kernel
theorem dX5_setOrder_9 : decode cX5_setOrder 9 = .ok (.return_, 1) := by decide +kernel
theorem dX5_takeOrders_0 : decode cX5_takeOrders 0 = .ok (.iconst 0, 1) := by decide +kernel
theorem dX5_takeOrders_1 : decode cX5_takeOrders 1 = .ok (.istore_n 2, 1) := by decide +kernel
theorem dX5_takeOrders_2 : decode cX5_takeOrders 2 = .ok (.iload_n 2, 1) := by decide +kernel
theorem dX5_takeOrders_3 : decode cX5_takeOrders 3 = .ok (.aload_n 0, 1) := by decide +kernel
theorem dX5_takeOrders_4 : decode cX5_takeOrders 4 = .ok (.getfield 46, 3) := by decide +kernel
theorem dX5_takeOrders_7 : decode cX5_takeOrders 7 = .ok (.if_icmp .ge 37, 3) := by decide +kernel
theorem dX5_takeOrders_44 : decode cX5_takeOrders 44 = .ok (.return_, 1) := by decide +kernel
theorem dX5_takeOrders_10 : decode cX5_takeOrders 10 = .ok (.iconst 0, 1) := by decide +kernel
theorem dX5_takeOrders_11 : decode cX5_takeOrders 11 = .ok (.istore_n 3, 1) := by decide +kernel
theorem dX5_takeOrders_12 : decode cX5_takeOrders 12 = .ok (.iload_n 3, 1) := by decide +kernel
theorem dX5_takeOrders_13 : decode cX5_takeOrders 13 = .ok (.aload_n 0, 1) := by decide +kernel
theorem dX5_takeOrders_14 : decode cX5_takeOrders 14 = .ok (.getfield 49, 3) := by decide +kernel
theorem dX5_takeOrders_17 : decode cX5_takeOrders 17 = .ok (.if_icmp .ge 21, 3) := by decide +kernel
theorem dX5_takeOrders_38 : decode cX5_takeOrders 38 = .ok (.iinc 2 1, 3) := by decide +kernel
theorem dX5_takeOrders_41 : decode cX5_takeOrders 41 = .ok (.goto (-39), 3) := by decide +kernel
theorem dX5_takeOrders_20 : decode cX5_takeOrders 20 = .ok (.aload_n 0, 1) := by decide +kernel
theorem dX5_takeOrders_21 : decode cX5_takeOrders 21 = .ok (.iload_n 2, 1) := by decide +kernel
theorem dX5_takeOrders_22 : decode cX5_takeOrders 22 = .ok (.iload_n 3, 1) := by decide +kernel
theorem dX5_takeOrders_23 : decode cX5_takeOrders 23 = .ok (.aload_n 1, 1) := by decide +kernel
theorem dX5_takeOrders_24 : decode cX5_takeOrders 24 = .ok (.iload_n 2, 1) := by decide +kernel
theorem dX5_takeOrders_25 : decode cX5_takeOrders 25 = .ok (.iload_n 3, 1) := by decide +kernel
set_option maxRecDepth 20000 in
theorem ggX5_takeOrders_X5_orderFor : GoodIn wsX5_takeOrders wsX5_orderFor := goodIn_ca (goodIn_r _ [7, 1, 2, 8, 21, 22, 23, 24, 25, 26, 27, 28, 29, 30, 31] rfl (by decide +kernel)) (goodIn_sub (fun _ h => List.mem_cons_of_mem _ (List.mem_append_right _ h)) (by decide +kernel))
set_option maxRecDepth 20000 in
theorem gX5_takeOrders_X5_orderFor : GoodIn wsX5_takeOrders (wsV RX5 56 RX5 yX5_orderFor wsX5_orderFor) := goodIn_app (goodIn_of _ (by decide +kernel)) ggX5_takeOrders_X5_orderFor
theorem dX5_takeOrders_26 : decode cX5_takeOrders 26 = .ok (.invokevirtual 56, 3) := by decide +kernel
set_option maxRecDepth 20000 in
theorem ggX5_takeOrders_X5_setOrder : GoodIn wsX5_takeOrders wsX5_setOrder := goodIn_ca (goodIn_r _ [12, 13, 8, 14, 15, 16, 6, 17, 1, 2, 3, 4, 5, 7, 18, 19, 20, 21, 22, 23, 24, 25, 26, 27, 28, 29, 30, 31] rfl (by decide +kernel)) (goodIn_sub (fun _ h => List.mem_cons_of_mem _ (List.mem_append_right _ h)) (by decide +kernel))
set_option maxRecDepth 20000 in
theorem gX5_takeOrders_X5_setOrder : GoodIn wsX5_takeOrders (wsV RX5 64 RX5 yX5_setOrder wsX5_setOrder) := goodIn_app (goodIn_of _ (by decide +kernel)) ggX5_takeOrders_X5_setOrder
theorem dX5_takeOrders_29 : decode cX5_takeOrders 29 = .ok (.invokevirtual 64, 3) := by decide +kernel
theorem dX5_takeOrders_32 : decode cX5_takeOrders 32 = .ok (.iinc 3 1, 3) := by decide +kernel
theorem dX5_takeOrders_35 : decode cX5_takeOrders 35 = .ok (.goto (-23), 3) := by decide +kernel
set_option maxHeartbeats 4000000 in
set_option maxRecDepth 100000 in
/-- X7_takeTape -/
theorem c_X7_takeTape (l : Launch) (dC : Nat → ClassId) (dI : Nat → Nat → Nat) (cI : ClassId) (ra ta : Nat) (st ce sp lm rm fa : Int32) (f : Nat → Int32) (rb tb : Nat) (st2 ce2 sp2 lm2 rm2 fa2 : Int32) (f2 : Nat → Int32) (sz : Nat) : Met l yX7_takeTape wsX7_takeTape ({ frames := 1, cells := 0, slots := 0, locals := 60 }) (va_Pc [.ref ra, .ref rb] (cPC dC dI [(ra, .inr (12, [.int st, .int ce, .int sp, .int lm, .int rm, .int fa, .ref ta])), (ta, .inl (cI, 1001, .inl f)), (rb, .inr (12, [.int st2, .int ce2, .int sp2, .int lm2, .int rm2, .int fa2, .ref tb])), (tb, .inl (cI, 1001, .inl f2))] [(cI, .int)] sz)) (va_Qv (fun (u : Nat → Int32) => ∀ q, q < 1001 → u q = f2 q) (fun (u : Nat → Int32) t => cQB dC dI [(ra, .inr (12, [.int st, .int ce, .int sp, .int lm, .int rm, .int fa, .ref ta])), (ta, .inl (cI, 1001, .inl u)), (rb, .inr (12, [.int st2, .int ce2, .int sp2, .int lm2, .int rm2, .int fa2, .ref tb])), (tb, .inl (cI, 1001, .inl f2))] [(cI, .int)] (va_A [(ra, .inr (12, [.int st, .int ce, .int sp, .int lm, .int rm, .int fa, .ref ta])), (ta, .inl (cI, 1001, .inl f)), (rb, .inr (12, [.int st2, .int ce2, .int sp2, .int lm2, .int rm2, .int fa2, .ref tb])), (tb, .inl (cI, 1001, .inl f2))] sz) t) (va_A [(ra, .inr (12, [.int st, .int ce, .int sp, .int lm, .int rm, .int fa, .ref ta])), (ta, .inl (cI, 1001, .inl f)), (rb, .inr (12, [.int st2, .int ce2, .int sp2, .int lm2, .int rm2, .int fa2, .ref tb])), (tb, .inl (cI, 1001, .inl f2))] sz)) 0 0 (va_A [(ra, .inr (12, [.int st, .int ce, .int sp, .int lm, .int rm, .int fa, .ref ta])), (ta, .inl (cI, 1001, .inl f)), (rb, .inr (12, [.int st2, .int ce2, .int sp2, .int lm2, .int rm2, .int fa2, .ref tb])), (tb, .inl (cI, 1001, .inl f2))] sz) := by
  refine Met.ofW (cc := cX7_takeTape) (maxL := 2) (ret := none) (by decide) rfl ?_
  intro p e s m args below meth c s₁ B hml hv
  obtain ⟨rfl, hsz, hP, hK, hD0, hN⟩ := hv
  have hx := B.exec
  have hb := B.bytes
  have hr := B.returns
  have hts := atoms_spec (ws := wsX7_takeTape) B.pre
  have hown : s.vm.findClass RX7 = some m.cls := findClass_of_methodNamed B.named
  have hlocks := B.notSynchronized
  subst hsz
  have hD := hD0.self (sz := s.heap.size)
  generalize hAe : va_A [(ra, .inr (12, [.int st, .int ce, .int sp, .int lm, .int rm, .int fa, .ref ta])), (ta, .inl (cI, 1001, .inl f)), (rb, .inr (12, [.int st2, .int ce2, .int sp2, .int lm2, .int rm2, .int fa2, .ref tb])), (tb, .inl (cI, 1001, .inl f2))] s.heap.size = A at hD ⊢
  have hA : ∀ q : Nat, s.heap.size ≤ q → A q := fun q h => by rw [← hAe]; exact Or.inr h
  have hS : va_S A s.heap s.heap [] := va_S.rf
  have hP : va_P (dC, dI) vwCl [(ra, .inr (12, [.int st, .int ce, .int sp, .int lm, .int rm, .int fa, .ref ta])), (ta, .inl (cI, 1001, .inl f)), (rb, .inr (12, [.int st2, .int ce2, .int sp2, .int lm2, .int rm2, .int fa2, .ref tb])), (tb, .inl (cI, 1001, .inl f2))] s.heap := hP
  have hD : va_D A [(ra, .inr (12, [.int st, .int ce, .int sp, .int lm, .int rm, .int fa, .ref ta])), (ta, .inl (cI, 1001, .inl f)), (rb, .inr (12, [.int st2, .int ce2, .int sp2, .int lm2, .int rm2, .int fa2, .ref tb])), (tb, .inl (cI, 1001, .inl f2))] := hD
  have hl := lv_entry ([.ref ra, .ref rb]) (n := 2) (Nat.le_of_ble_eq_true rfl)
  rw [lg_entry_eq]
  generalize (lg_sl ([.ref ra, .ref rb]) ++ List.replicate (2 - (lg_sl ([.ref ra, .ref rb])).length) Slot.unset).toArray = ls at hl ⊢
  have hl : lv_has ls 2 [(0, .ref ra), (1, .ref rb)] := hl
  have iWX7 : ∀ w ∈ u_ws RX7 TX7 7, w ∈ wsX7_takeTape := by decide +kernel
  refine lv_aload_n hx hb dX7_takeTape_0 rfl (lv_at hl 1 rfl) ?_
  refine va_get (D := (dC, dI)) (ci := 12) (v := .ref tb) (C := RX7) (T := TX7) (N := 7) hx hb hts iWX7 hown hK hP 2 rfl rfl 6 (by decide) (hts (.fieldLink RX7 31 "Beaverhall$Run" "tape" "[I") (by decide +kernel)) (fun _ h9 => h9) rfl dX7_takeTape_1 ?_
  refine lv_iconst (v := 0) hx hb dX7_takeTape_4 (by decide) ?_
  refine lv_aload_n hx hb dX7_takeTape_5 rfl (lv_at hl 0 rfl) ?_
  refine va_get (D := (dC, dI)) (ci := 12) (v := .ref ta) (C := RX7) (T := TX7) (N := 7) hx hb hts iWX7 hown hK hP 0 rfl rfl 6 (by decide) (hts (.fieldLink RX7 31 "Beaverhall$Run" "tape" "[I") (by decide +kernel)) (fun _ h9 => h9) rfl dX7_takeTape_6 ?_
  refine lv_iconst (v := 0) hx hb dX7_takeTape_9 (by decide) ?_
  refine lv_sipush (v := 1001) hx hb dX7_takeTape_10 (by decide) ?_
  refine va_copyi hx hb (hml.trans hl.1.symm) hown (hts (.methodLink RX7 82 arraycopyName) (by decide +kernel)) (hts (.native arraycopyName) (by decide +kernel)) (hts (.static arraycopyName) (by decide +kernel)) (hts (.initialized "java/lang/System") (by decide +kernel)) hK hP hD hS 3 1 0 0 rfl rfl rfl rfl rfl (sp := 0) (dp := 0) (n := 1001) (by decide +kernel) (by decide +kernel) (by decide +kernel) (by decide +kernel) (by decide +kernel) (fun _ _ => rfl) (Nat.le_of_ble_eq_true rfl) (by decide +kernel) dX7_takeTape_13 (fun H locs hP hD hS => ?_)
  obtain ⟨f_1, ef_1⟩ : ∃ z, z = (va_cpy f2 f (0 : Int32).toNatClampNeg (0 : Int32).toNatClampNeg (1001 : Int32).toNatClampNeg) := ⟨_, rfl⟩
  have hP : va_P (dC, dI) vwCl [(ra, .inr (12, [.int st, .int ce, .int sp, .int lm, .int rm, .int fa, .ref ta])), (ta, .inl (cI, 1001, .inl f_1)), (rb, .inr (12, [.int st2, .int ce2, .int sp2, .int lm2, .int rm2, .int fa2, .ref tb])), (tb, .inl (cI, 1001, .inl f2))] H := by rw [ef_1]; exact hP
  have hD : va_D A [(ra, .inr (12, [.int st, .int ce, .int sp, .int lm, .int rm, .int fa, .ref ta])), (ta, .inl (cI, 1001, .inl f_1)), (rb, .inr (12, [.int st2, .int ce2, .int sp2, .int lm2, .int rm2, .int fa2, .ref tb])), (tb, .inl (cI, 1001, .inl f2))] := by rw [ef_1]; exact hD
  have hP9 := hP.sub (ws' := [(ra, .inr (12, [.int st, .int ce, .int sp, .int lm, .int rm, .int fa, .ref ta])), (ta, .inl (cI, 1001, .inl f_1)), (rb, .inr (12, [.int st2, .int ce2, .int sp2, .int lm2, .int rm2, .int fa2, .ref tb])), (tb, .inl (cI, 1001, .inl f2))]) [0, 1, 2, 3] rfl
  have hD9 := hD.sub (ws' := [(ra, .inr (12, [.int st, .int ce, .int sp, .int lm, .int rm, .int fa, .ref ta])), (ta, .inl (cI, 1001, .inl f_1)), (rb, .inr (12, [.int st2, .int ce2, .int sp2, .int lm2, .int rm2, .int fa2, .ref tb])), (tb, .inl (cI, 1001, .inl f2))]) [0, 1, 2, 3] (by decide) rfl
  have hK9 := hK.sub (tys' := [(cI, .int)]) [0] rfl
  exact W.vret hx hb hr (fun t ht hW => ⟨⟨f_1, rfl, (fun q hq => by rw [ef_1, show (0 : Int32).toNatClampNeg = 0 from by decide, show (1001 : Int32).toNatClampNeg = 1001 from by decide, pk_cpy_in (Nat.zero_le _) (by omega)]; show f2 (0 + (q - 0)) = f2 q; rw [show 0 + (q - 0) = q from by omega]), ⟨by rw [ht]; exact hP9, va_K.moved hW.alike hK9, hD9⟩⟩, hS.F ht⟩) hS.2.2 dX7_takeTape_16

set_option maxHeartbeats 4000000 in
set_option maxRecDepth 100000 in
/-- X7_isAs -/
theorem c_X7_isAs (l : Launch) (dC : Nat → ClassId) (dI : Nat → Nat → Nat) (cI : ClassId) (ra ta : Nat) (st ce sp lm rm fa : Int32) (f : Nat → Int32) (rb tb : Nat) (st2 ce2 sp2 lm2 rm2 fa2 : Int32) (f2 : Nat → Int32) (hbd : ∃ lo hi lo2 hi2 : Nat, lm = nI lo - 500 ∧ rm = nI hi - 500 ∧ lm2 = nI lo2 - 500 ∧ rm2 = nI hi2 - 500 ∧ lo ≤ 1000 ∧ hi ≤ 1000 ∧ lo2 ≤ 1000 ∧ hi2 ≤ 1000) (sz : Nat) : Met l yX7_isAs wsX7_isAs ({ frames := 1, cells := 0, slots := 0, locals := 27 }) (va_Pc [.ref ra, .ref rb] (cPC dC dI [(ra, .inr (12, [.int st, .int ce, .int sp, .int lm, .int rm, .int fa, .ref ta])), (ta, .inl (cI, 1001, .inl f)), (rb, .inr (12, [.int st2, .int ce2, .int sp2, .int lm2, .int rm2, .int fa2, .ref tb])), (tb, .inl (cI, 1001, .inl f2))] [(cI, .int)] sz)) (va_Qi (fun (r : Int32) (u : Unit) => True) (fun (u : Unit) t => cQB dC dI [(ra, .inr (12, [.int st, .int ce, .int sp, .int lm, .int rm, .int fa, .ref ta])), (ta, .inl (cI, 1001, .inl f)), (rb, .inr (12, [.int st2, .int ce2, .int sp2, .int lm2, .int rm2, .int fa2, .ref tb])), (tb, .inl (cI, 1001, .inl f2))] [(cI, .int)] (va_A [(ra, .inr (12, [.int st, .int ce, .int sp, .int lm, .int rm, .int fa, .ref ta])), (ta, .inl (cI, 1001, .inl f)), (rb, .inr (12, [.int st2, .int ce2, .int sp2, .int lm2, .int rm2, .int fa2, .ref tb])), (tb, .inl (cI, 1001, .inl f2))] sz) t) (va_A [(ra, .inr (12, [.int st, .int ce, .int sp, .int lm, .int rm, .int fa, .ref ta])), (ta, .inl (cI, 1001, .inl f)), (rb, .inr (12, [.int st2, .int ce2, .int sp2, .int lm2, .int rm2, .int fa2, .ref tb])), (tb, .inl (cI, 1001, .inl f2))] sz)) 0 0 (va_A [(ra, .inr (12, [.int st, .int ce, .int sp, .int lm, .int rm, .int fa, .ref ta])), (ta, .inl (cI, 1001, .inl f)), (rb, .inr (12, [.int st2, .int ce2, .int sp2, .int lm2, .int rm2, .int fa2, .ref tb])), (tb, .inl (cI, 1001, .inl f2))] sz) := by
  refine Met.ofW (cc := cX7_isAs) (maxL := 5) (ret := (some .boolean)) (by decide) rfl ?_
  intro p e s m args below meth c s₁ B hml hv
  obtain ⟨rfl, hsz, hP, hK, hD0, hN⟩ := hv
  have hx := B.exec
  have hb := B.bytes
  have hr := B.returns
  have hts := atoms_spec (ws := wsX7_isAs) B.pre
  have hown : s.vm.findClass RX7 = some m.cls := findClass_of_methodNamed B.named
  have hlocks := B.notSynchronized
  subst hsz
  have hD := hD0.self (sz := s.heap.size)
  generalize hAe : va_A [(ra, .inr (12, [.int st, .int ce, .int sp, .int lm, .int rm, .int fa, .ref ta])), (ta, .inl (cI, 1001, .inl f)), (rb, .inr (12, [.int st2, .int ce2, .int sp2, .int lm2, .int rm2, .int fa2, .ref tb])), (tb, .inl (cI, 1001, .inl f2))] s.heap.size = A at hD ⊢
  have hA : ∀ q : Nat, s.heap.size ≤ q → A q := fun q h => by rw [← hAe]; exact Or.inr h
  have hS : va_S A s.heap s.heap [] := va_S.rf
  have hP : va_P (dC, dI) vwCl [(ra, .inr (12, [.int st, .int ce, .int sp, .int lm, .int rm, .int fa, .ref ta])), (ta, .inl (cI, 1001, .inl f)), (rb, .inr (12, [.int st2, .int ce2, .int sp2, .int lm2, .int rm2, .int fa2, .ref tb])), (tb, .inl (cI, 1001, .inl f2))] s.heap := hP
  have hD : va_D A [(ra, .inr (12, [.int st, .int ce, .int sp, .int lm, .int rm, .int fa, .ref ta])), (ta, .inl (cI, 1001, .inl f)), (rb, .inr (12, [.int st2, .int ce2, .int sp2, .int lm2, .int rm2, .int fa2, .ref tb])), (tb, .inl (cI, 1001, .inl f2))] := hD
  have hl := lv_entry ([.ref ra, .ref rb]) (n := 5) (Nat.le_of_ble_eq_true rfl)
  rw [lg_entry_eq]
  generalize (lg_sl ([.ref ra, .ref rb]) ++ List.replicate (5 - (lg_sl ([.ref ra, .ref rb])).length) Slot.unset).toArray = ls at hl ⊢
  have hl : lv_has ls 5 [(0, .ref ra), (1, .ref rb)] := hl
  obtain ⟨lo, hi, lo2, hi2, rfl, rfl, rfl, rfl, h1, h2, h3, h4⟩ := hbd
  have hP : va_P (dC, dI) vwCl [(ra, .inr (12, [.int st, .int ce, .int sp, .int (nI lo - 500), .int (nI hi - 500), .int fa, .ref ta])), (ta, .inl (cI, 1001, .inl f)), (rb, .inr (12, [.int st2, .int ce2, .int sp2, .int (nI lo2 - 500), .int (nI hi2 - 500), .int fa2, .ref tb])), (tb, .inl (cI, 1001, .inl f2))] s.heap := hP
  have hD : va_D A [(ra, .inr (12, [.int st, .int ce, .int sp, .int (nI lo - 500), .int (nI hi - 500), .int fa, .ref ta])), (ta, .inl (cI, 1001, .inl f)), (rb, .inr (12, [.int st2, .int ce2, .int sp2, .int (nI lo2 - 500), .int (nI hi2 - 500), .int fa2, .ref tb])), (tb, .inl (cI, 1001, .inl f2))] := hD
  have iWX7 : ∀ w ∈ u_ws RX7 TX7 7, w ∈ wsX7_isAs := by decide +kernel
  refine lv_aload_n hx hb dX7_isAs_0 rfl (lv_at hl 0 rfl) ?_
  refine va_get (D := (dC, dI)) (ci := 12) (v := .int st) (C := RX7) (T := TX7) (N := 7) hx hb hts iWX7 hown hK hP 0 rfl rfl 0 (by decide) (hts (.fieldLink RX7 9 "Beaverhall$Run" "state" "I") (by decide +kernel)) (fun _ h9 => h9) rfl dX7_isAs_1 ?_
  refine lv_aload_n hx hb dX7_isAs_4 rfl (lv_at hl 1 rfl) ?_
  refine va_get (D := (dC, dI)) (ci := 12) (v := .int st2) (C := RX7) (T := TX7) (N := 7) hx hb hts iWX7 hown hK hP 2 rfl rfl 0 (by decide) (hts (.fieldLink RX7 9 "Beaverhall$Run" "state" "I") (by decide +kernel)) (fun _ h9 => h9) rfl dX7_isAs_5 ?_
  refine lv_icmp_ne (tgt := 22) hx hb dX7_isAs_8 (by decide) (fun c8_1 => ?_) (fun c8_1 => ?_)
  · refine lv_iconst (v := 0) hx hb dX7_isAs_22 (by decide) ?_
    have hP9 := hP.sub (ws' := [(ra, .inr (12, [.int st, .int ce, .int sp, .int (nI lo - 500), .int (nI hi - 500), .int fa, .ref ta])), (ta, .inl (cI, 1001, .inl f)), (rb, .inr (12, [.int st2, .int ce2, .int sp2, .int (nI lo2 - 500), .int (nI hi2 - 500), .int fa2, .ref tb])), (tb, .inl (cI, 1001, .inl f2))]) [0, 1, 2, 3] rfl
    have hD9 := hD.sub (ws' := [(ra, .inr (12, [.int st, .int ce, .int sp, .int (nI lo - 500), .int (nI hi - 500), .int fa, .ref ta])), (ta, .inl (cI, 1001, .inl f)), (rb, .inr (12, [.int st2, .int ce2, .int sp2, .int (nI lo2 - 500), .int (nI hi2 - 500), .int fa2, .ref tb])), (tb, .inl (cI, 1001, .inl f2))]) [0, 1, 2, 3] (by decide) rfl
    have hK9 := hK.sub (tys' := [(cI, .int)]) [0] rfl
    exact W.zret (v := 0) hx hb hr (by rfl) (fun t ht hW => ⟨⟨0, (), rfl, trivial, ⟨by rw [ht]; exact hP9, va_K.moved hW.alike hK9, hD9⟩⟩, hS.F ht⟩) hS.2.2 dX7_isAs_23
  · refine lv_aload_n hx hb dX7_isAs_11 rfl (lv_at hl 0 rfl) ?_
    refine va_get (D := (dC, dI)) (ci := 12) (v := .int ce) (C := RX7) (T := TX7) (N := 7) hx hb hts iWX7 hown hK hP 0 rfl rfl 1 (by decide) (hts (.fieldLink RX7 15 "Beaverhall$Run" "cell" "I") (by decide +kernel)) (fun _ h9 => h9) rfl dX7_isAs_12 ?_
    refine lv_aload_n hx hb dX7_isAs_15 rfl (lv_at hl 1 rfl) ?_
    refine va_get (D := (dC, dI)) (ci := 12) (v := .int ce2) (C := RX7) (T := TX7) (N := 7) hx hb hts iWX7 hown hK hP 2 rfl rfl 1 (by decide) (hts (.fieldLink RX7 15 "Beaverhall$Run" "cell" "I") (by decide +kernel)) (fun _ h9 => h9) rfl dX7_isAs_16 ?_
    refine lv_icmp_eq (tgt := 24) hx hb dX7_isAs_19 (by decide) (fun c19_2 => ?_) (fun c19_2 => ?_)
    · refine lv_aload_n hx hb dX7_isAs_24 rfl (lv_at hl 0 rfl) ?_
      refine va_get (D := (dC, dI)) (ci := 12) (v := .int (nI lo - 500)) (C := RX7) (T := TX7) (N := 7) hx hb hts iWX7 hown hK hP 0 rfl rfl 3 (by decide) (hts (.fieldLink RX7 21 "Beaverhall$Run" "leftmost" "I") (by decide +kernel)) (fun _ h9 => h9) rfl dX7_isAs_25 ?_
      refine lv_aload_n hx hb dX7_isAs_28 rfl (lv_at hl 1 rfl) ?_
      refine va_get (D := (dC, dI)) (ci := 12) (v := .int (nI lo2 - 500)) (C := RX7) (T := TX7) (N := 7) hx hb hts iWX7 hown hK hP 2 rfl rfl 3 (by decide) (hts (.fieldLink RX7 21 "Beaverhall$Run" "leftmost" "I") (by decide +kernel)) (fun _ h9 => h9) rfl dX7_isAs_29 ?_
      refine va_mmin hx hb (hml.trans hl.1.symm) hown (hts (.methodLink RX7 67 Lib.Math.min.name) (by decide +kernel)) (hts (.static Lib.Math.min.name) (by decide +kernel)) (hts (.initialized "java/lang/Math") (by decide +kernel)) (hts (.code Lib.Math.min.name Lib.Math.min.code 2 (some .int)) (by decide +kernel)) (Nat.le_of_ble_eq_true rfl) (Nat.le_of_ble_eq_true rfl) (Nat.le_of_ble_eq_true rfl) (Nat.le_of_ble_eq_true rfl) dX7_isAs_32 ?_
      refine lv_topi (fun x_3 ex_3 => ?_)
      have ex_3 : x_3 = iminJ (nI lo - 500) (nI lo2 - 500) := ex_3
      obtain rfl : x_3 = nI (min lo lo2) - 500 := by rw [ex_3]; exact cN_min (by omega) (by omega)
      refine lv_istore_n (lv' := [(2, .int (nI (min lo lo2) - 500)), (0, .ref ra), (1, .ref rb)]) hx hb dX7_isAs_35 rfl hl (by decide) rfl (fun ls hl => ?_)
      refine lv_aload_n hx hb dX7_isAs_36 rfl (lv_at hl 1 rfl) ?_
      refine va_get (D := (dC, dI)) (ci := 12) (v := .int (nI hi - 500)) (C := RX7) (T := TX7) (N := 7) hx hb hts iWX7 hown hK hP 0 rfl rfl 4 (by decide) (hts (.fieldLink RX7 24 "Beaverhall$Run" "rightmost" "I") (by decide +kernel)) (fun _ h9 => h9) rfl dX7_isAs_37 ?_
      refine lv_aload_n hx hb dX7_isAs_40 rfl (lv_at hl 2 rfl) ?_
      refine va_get (D := (dC, dI)) (ci := 12) (v := .int (nI hi2 - 500)) (C := RX7) (T := TX7) (N := 7) hx hb hts iWX7 hown hK hP 2 rfl rfl 4 (by decide) (hts (.fieldLink RX7 24 "Beaverhall$Run" "rightmost" "I") (by decide +kernel)) (fun _ h9 => h9) rfl dX7_isAs_41 ?_
      refine va_mmax hx hb (hml.trans hl.1.symm) hown (hts (.methodLink RX7 72 Lib.Math.max.name) (by decide +kernel)) (hts (.static Lib.Math.max.name) (by decide +kernel)) (hts (.initialized "java/lang/Math") (by decide +kernel)) (hts (.code Lib.Math.max.name Lib.Math.max.code 2 (some .int)) (by decide +kernel)) (Nat.le_of_ble_eq_true rfl) (Nat.le_of_ble_eq_true rfl) (Nat.le_of_ble_eq_true rfl) (Nat.le_of_ble_eq_true rfl) dX7_isAs_44 ?_
      refine lv_topi (fun x_4 ex_4 => ?_)
      have ex_4 : x_4 = imaxJ (nI hi - 500) (nI hi2 - 500) := ex_4
      obtain rfl : x_4 = nI (max hi hi2) - 500 := by rw [ex_4]; exact cN_max (by omega) (by omega)
      refine lv_istore_n (lv' := [(3, .int (nI (max hi hi2) - 500)), (2, .int (nI (min lo lo2) - 500)), (0, .ref ra), (1, .ref rb)]) hx hb dX7_isAs_47 rfl hl (by decide) rfl (fun ls hl => ?_)
      refine lv_iload_n hx hb dX7_isAs_48 rfl (lv_at hl 1 rfl) ?_
      refine lv_istore (lv' := [(4, .int (nI (min lo lo2) - 500)), (3, .int (nI (max hi hi2) - 500)), (2, .int (nI (min lo lo2) - 500)), (0, .ref ra), (1, .ref rb)]) hx hb dX7_isAs_49 hl (by decide) rfl (fun ls hl => ?_)
      refine lp_go (σ := Nat) (fun j_51 => j_51 ≤ 1001) (fun j_51 => 1001 - j_51) (fun x => [(ra, .inr (12, [.int st, .int ce, .int sp, .int (nI lo - 500), .int (nI hi - 500), .int fa, .ref ta])), (ta, .inl (cI, 1001, .inl f)), (rb, .inr (12, [.int st2, .int ce2, .int sp2, .int (nI lo2 - 500), .int (nI hi2 - 500), .int fa2, .ref tb])), (tb, .inl (cI, 1001, .inl f2))]) (fun x => [(0, .ref ra), (1, .ref rb), (2, .int (nI (min lo lo2) - 500)), (3, .int (nI (max hi hi2) - 500)), (4, .int (nI x - 500))]) (fun _ => []) (fun x hI ih51 H locs hP hD hS ls hl => ?_) (min lo lo2) (by omega) (hP.sub [0, 1, 2, 3] rfl) (hD.sub [0, 1, 2, 3] (by decide) rfl) hS (lv_sub hl [3, 4, 2, 1, 0] rfl)
      obtain ⟨j_51, ex9⟩ : ∃ z, z = x := ⟨_, rfl⟩
      subst ex9
      have hP : va_P (dC, dI) vwCl [(ra, .inr (12, [.int st, .int ce, .int sp, .int (nI lo - 500), .int (nI hi - 500), .int fa, .ref ta])), (ta, .inl (cI, 1001, .inl f)), (rb, .inr (12, [.int st2, .int ce2, .int sp2, .int (nI lo2 - 500), .int (nI hi2 - 500), .int fa2, .ref tb])), (tb, .inl (cI, 1001, .inl f2))] H := hP
      have hD : va_D A [(ra, .inr (12, [.int st, .int ce, .int sp, .int (nI lo - 500), .int (nI hi - 500), .int fa, .ref ta])), (ta, .inl (cI, 1001, .inl f)), (rb, .inr (12, [.int st2, .int ce2, .int sp2, .int (nI lo2 - 500), .int (nI hi2 - 500), .int fa2, .ref tb])), (tb, .inl (cI, 1001, .inl f2))] := hD
      have hl : lv_has ls 5 [(0, .ref ra), (1, .ref rb), (2, .int (nI (min lo lo2) - 500)), (3, .int (nI (max hi hi2) - 500)), (4, .int (nI j_51 - 500))] := hl
      try dsimp only at hI
      have ih51 := ih51
      refine lv_iload hx hb dX7_isAs_51 (lv_at hl 4 rfl) ?_
      refine lv_iload_n hx hb dX7_isAs_53 rfl (lv_at hl 3 rfl) ?_
      refine lv_icmp_gt (tgt := 80) hx hb dX7_isAs_54 (by decide) (fun c54_5 => ?_) (fun c54_5 => ?_)
      · refine lv_iconst (v := 1) hx hb dX7_isAs_80 (by decide) ?_
        have hP9 := hP.sub (ws' := [(ra, .inr (12, [.int st, .int ce, .int sp, .int (nI lo - 500), .int (nI hi - 500), .int fa, .ref ta])), (ta, .inl (cI, 1001, .inl f)), (rb, .inr (12, [.int st2, .int ce2, .int sp2, .int (nI lo2 - 500), .int (nI hi2 - 500), .int fa2, .ref tb])), (tb, .inl (cI, 1001, .inl f2))]) [0, 1, 2, 3] rfl
        have hD9 := hD.sub (ws' := [(ra, .inr (12, [.int st, .int ce, .int sp, .int (nI lo - 500), .int (nI hi - 500), .int fa, .ref ta])), (ta, .inl (cI, 1001, .inl f)), (rb, .inr (12, [.int st2, .int ce2, .int sp2, .int (nI lo2 - 500), .int (nI hi2 - 500), .int fa2, .ref tb])), (tb, .inl (cI, 1001, .inl f2))]) [0, 1, 2, 3] (by decide) rfl
        have hK9 := hK.sub (tys' := [(cI, .int)]) [0] rfl
        exact W.zret (v := 1) hx hb hr (by rfl) (fun t ht hW => ⟨⟨1, (), rfl, trivial, ⟨by rw [ht]; exact hP9, va_K.moved hW.alike hK9, hD9⟩⟩, hS.F ht⟩) hS.2.2 dX7_isAs_81
      · refine lv_aload_n hx hb dX7_isAs_57 rfl (lv_at hl 0 rfl) ?_
        refine lv_iload hx hb dX7_isAs_58 (lv_at hl 4 rfl) ?_
        have hPc := hP.sub (ws' := [(ra, .inr (12, [.int st, .int ce, .int sp, .int (nI lo - 500), .int (nI hi - 500), .int fa, .ref ta])), (ta, .inl (cI, 1001, .inl f))]) [0, 1] rfl
        have hDc := hD.sub (ws' := [(ra, .inr (12, [.int st, .int ce, .int sp, .int (nI lo - 500), .int (nI hi - 500), .int fa, .ref ta])), (ta, .inl (cI, 1001, .inl f))]) [0, 1] (by decide) rfl
        have hKc := hK.sub (tys' := [(cI, .int)]) [0] rfl
        have hFc := va_free (wc := [(ra, .inr (12, [.int st, .int ce, .int sp, .int (nI lo - 500), .int (nI hi - 500), .int fa, .ref ta])), (ta, .inl (cI, 1001, .inl f))]) hD hS hA [0, 1] rfl
        refine va_calli (va_runV (As := [.int (nI j_51 - 500)]) (rest := []) ⟨hx, hb, hml, hown, hts⟩ (c_X7_signOf l dC dI cI ra ta st ce sp (nI lo - 500) (nI hi - 500) fa f (nI j_51 - 500) H.size) (cwV 1 hts gX7_isAs_X7_signOf rfl rfl rfl (by decide +kernel) ⟨Nat.le_of_ble_eq_true rfl, Nat.le_of_ble_eq_true rfl⟩) (pcV hPc hDc hKc hN (ci := 12) (q0 := 0) rfl rfl) rfl rfl hl.1 rfl (lv_room (Nat.le_of_ble_eq_true rfl)) dX7_isAs_60 ⟨Nat.le_of_ble_eq_true rfl, Nat.le_of_ble_eq_true rfl⟩) hS (fun q _ h => hFc q h) hFc (fun r_6 u t H1 locs ht hvm hw_7 hB hz1 hk1 hS => ?_)
        obtain ⟨hP1, hK1, hD1⟩ := hB
        rw [ht] at hP1
        try dsimp only at hw_7
        obtain ⟨hP, hD⟩ := va_join (wr := [(rb, .inr (12, [.int st2, .int ce2, .int sp2, .int (nI lo2 - 500), .int (nI hi2 - 500), .int fa2, .ref tb])), (tb, .inl (cI, 1001, .inl f2))]) (w1 := [(ra, .inr (12, [.int st, .int ce, .int sp, .int (nI lo - 500), .int (nI hi - 500), .int fa, .ref ta])), (ta, .inl (cI, 1001, .inl f))]) hP hD [0, 1] [2, 3] rfl rfl (by decide) (by decide) hk1 hFc hP1 hD1
        generalize H1 = H at hP hS ⊢
        have hP : va_P (dC, dI) vwCl [(rb, .inr (12, [.int st2, .int ce2, .int sp2, .int (nI lo2 - 500), .int (nI hi2 - 500), .int fa2, .ref tb])), (tb, .inl (cI, 1001, .inl f2)), (ra, .inr (12, [.int st, .int ce, .int sp, .int (nI lo - 500), .int (nI hi - 500), .int fa, .ref ta])), (ta, .inl (cI, 1001, .inl f))] H := hP
        have hD : va_D A [(rb, .inr (12, [.int st2, .int ce2, .int sp2, .int (nI lo2 - 500), .int (nI hi2 - 500), .int fa2, .ref tb])), (tb, .inl (cI, 1001, .inl f2)), (ra, .inr (12, [.int st, .int ce, .int sp, .int (nI lo - 500), .int (nI hi - 500), .int fa, .ref ta])), (ta, .inl (cI, 1001, .inl f))] := hD
        refine lv_aload_n hx hb dX7_isAs_63 rfl (lv_at hl 1 rfl) ?_
        refine lv_iload hx hb dX7_isAs_64 (lv_at hl 4 rfl) ?_
        have hPc := hP.sub (ws' := [(rb, .inr (12, [.int st2, .int ce2, .int sp2, .int (nI lo2 - 500), .int (nI hi2 - 500), .int fa2, .ref tb])), (tb, .inl (cI, 1001, .inl f2))]) [0, 1] rfl
        have hDc := hD.sub (ws' := [(rb, .inr (12, [.int st2, .int ce2, .int sp2, .int (nI lo2 - 500), .int (nI hi2 - 500), .int fa2, .ref tb])), (tb, .inl (cI, 1001, .inl f2))]) [0, 1] (by decide) rfl
        have hKc := hK.sub (tys' := [(cI, .int)]) [0] rfl
        have hFc := va_free (wc := [(rb, .inr (12, [.int st2, .int ce2, .int sp2, .int (nI lo2 - 500), .int (nI hi2 - 500), .int fa2, .ref tb])), (tb, .inl (cI, 1001, .inl f2))]) hD hS hA [0, 1] rfl
        refine va_calli (va_runV (As := [.int (nI j_51 - 500)]) (rest := [.int r_6]) ⟨hx, hb, hml, hown, hts⟩ (c_X7_signOf l dC dI cI rb tb st2 ce2 sp2 (nI lo2 - 500) (nI hi2 - 500) fa2 f2 (nI j_51 - 500) H.size) (cwV 1 hts gX7_isAs_X7_signOf rfl rfl rfl (by decide +kernel) ⟨Nat.le_of_ble_eq_true rfl, Nat.le_of_ble_eq_true rfl⟩) (pcV hPc hDc hKc hN (ci := 12) (q0 := 0) rfl rfl) rfl rfl hl.1 rfl (lv_room (Nat.le_of_ble_eq_true rfl)) dX7_isAs_66 ⟨Nat.le_of_ble_eq_true rfl, Nat.le_of_ble_eq_true rfl⟩) hS (fun q _ h => hFc q h) hFc (fun r_8 u t H1 locs ht hvm hw_9 hB hz1 hk1 hS => ?_)
        obtain ⟨hP1, hK1, hD1⟩ := hB
        rw [ht] at hP1
        try dsimp only at hw_9
        obtain ⟨hP, hD⟩ := va_join (wr := [(ra, .inr (12, [.int st, .int ce, .int sp, .int (nI lo - 500), .int (nI hi - 500), .int fa, .ref ta])), (ta, .inl (cI, 1001, .inl f))]) (w1 := [(rb, .inr (12, [.int st2, .int ce2, .int sp2, .int (nI lo2 - 500), .int (nI hi2 - 500), .int fa2, .ref tb])), (tb, .inl (cI, 1001, .inl f2))]) hP hD [0, 1] [2, 3] rfl rfl (by decide) (by decide) hk1 hFc hP1 hD1
        generalize H1 = H at hP hS ⊢
        have hP : va_P (dC, dI) vwCl [(ra, .inr (12, [.int st, .int ce, .int sp, .int (nI lo - 500), .int (nI hi - 500), .int fa, .ref ta])), (ta, .inl (cI, 1001, .inl f)), (rb, .inr (12, [.int st2, .int ce2, .int sp2, .int (nI lo2 - 500), .int (nI hi2 - 500), .int fa2, .ref tb])), (tb, .inl (cI, 1001, .inl f2))] H := hP
        have hD : va_D A [(ra, .inr (12, [.int st, .int ce, .int sp, .int (nI lo - 500), .int (nI hi - 500), .int fa, .ref ta])), (ta, .inl (cI, 1001, .inl f)), (rb, .inr (12, [.int st2, .int ce2, .int sp2, .int (nI lo2 - 500), .int (nI hi2 - 500), .int fa2, .ref tb])), (tb, .inl (cI, 1001, .inl f2))] := hD
        refine lv_icmp_eq (tgt := 74) hx hb dX7_isAs_69 (by decide) (fun c69_10 => ?_) (fun c69_10 => ?_)
        · obtain ⟨y_11, ey_11⟩ : ∃ y : Int32, y = (nI j_51 - 500) + 1 := ⟨_, rfl⟩
          refine lv_iinc (v := y_11) (lv' := [(4, .int y_11), (0, .ref ra), (1, .ref rb), (2, .int (nI (min lo lo2) - 500)), (3, .int (nI (max hi hi2) - 500))]) hx hb dX7_isAs_74 hl (k := 4) rfl (by rw [ey_11]; rfl) (by decide) rfl (fun ls hl => ?_)
          obtain rfl : y_11 = nI (j_51 + 1) - 500 := by rw [ey_11]; exact cN_succ _
          refine lv_goto (tgt := 51) hx hb dX7_isAs_77 (by decide) ?_
          exact ih51 (j_51 + 1) (by have h9 := mt (cN_lt (a := max hi hi2) (b := j_51) (by omega) (by omega)).mpr c54_5; omega) (by have h9 := mt (cN_lt (a := max hi hi2) (b := j_51) (by omega) (by omega)).mpr c54_5; show 1001 - (j_51 + 1) < 1001 - j_51; omega) _ _ (hP.sub [0, 1, 2, 3] rfl) (hD.sub [0, 1, 2, 3] (by decide) rfl) hS ls (lv_sub hl [1, 2, 3, 4, 0] rfl)
        · refine lv_iconst (v := 0) hx hb dX7_isAs_72 (by decide) ?_
          have hP9 := hP.sub (ws' := [(ra, .inr (12, [.int st, .int ce, .int sp, .int (nI lo - 500), .int (nI hi - 500), .int fa, .ref ta])), (ta, .inl (cI, 1001, .inl f)), (rb, .inr (12, [.int st2, .int ce2, .int sp2, .int (nI lo2 - 500), .int (nI hi2 - 500), .int fa2, .ref tb])), (tb, .inl (cI, 1001, .inl f2))]) [0, 1, 2, 3] rfl
          have hD9 := hD.sub (ws' := [(ra, .inr (12, [.int st, .int ce, .int sp, .int (nI lo - 500), .int (nI hi - 500), .int fa, .ref ta])), (ta, .inl (cI, 1001, .inl f)), (rb, .inr (12, [.int st2, .int ce2, .int sp2, .int (nI lo2 - 500), .int (nI hi2 - 500), .int fa2, .ref tb])), (tb, .inl (cI, 1001, .inl f2))]) [0, 1, 2, 3] (by decide) rfl
          have hK9 := hK.sub (tys' := [(cI, .int)]) [0] rfl
          exact W.zret (v := 0) hx hb hr (by rfl) (fun t ht hW => ⟨⟨0, (), rfl, trivial, ⟨by rw [ht]; exact hP9, va_K.moved hW.alike hK9, hD9⟩⟩, hS.F ht⟩) hS.2.2 dX7_isAs_73
    · refine lv_iconst (v := 0) hx hb dX7_isAs_22 (by decide) ?_
      have hP9 := hP.sub (ws' := [(ra, .inr (12, [.int st, .int ce, .int sp, .int (nI lo - 500), .int (nI hi - 500), .int fa, .ref ta])), (ta, .inl (cI, 1001, .inl f)), (rb, .inr (12, [.int st2, .int ce2, .int sp2, .int (nI lo2 - 500), .int (nI hi2 - 500), .int fa2, .ref tb])), (tb, .inl (cI, 1001, .inl f2))]) [0, 1, 2, 3] rfl
      have hD9 := hD.sub (ws' := [(ra, .inr (12, [.int st, .int ce, .int sp, .int (nI lo - 500), .int (nI hi - 500), .int fa, .ref ta])), (ta, .inl (cI, 1001, .inl f)), (rb, .inr (12, [.int st2, .int ce2, .int sp2, .int (nI lo2 - 500), .int (nI hi2 - 500), .int fa2, .ref tb])), (tb, .inl (cI, 1001, .inl f2))]) [0, 1, 2, 3] (by decide) rfl
      have hK9 := hK.sub (tys' := [(cI, .int)]) [0] rfl
      exact W.zret (v := 0) hx hb hr (by rfl) (fun t ht hW => ⟨⟨0, (), rfl, trivial, ⟨by rw [ht]; exact hP9, va_K.moved hW.alike hK9, hD9⟩⟩, hS.F ht⟩) hS.2.2 dX7_isAs_23

set_option maxHeartbeats 4000000 in
set_option maxRecDepth 100000 in
/-- X7_isLikeBehind -/
theorem c_X7_isLikeBehind (l : Launch) (dC : Nat → ClassId) (dI : Nat → Nat → Nat) (cI : ClassId) (ra ta : Nat) (st ce sp lm rm fa : Int32) (f : Nat → Int32) (rb tb : Nat) (st2 ce2 sp2 lm2 rm2 fa2 : Int32) (f2 : Nat → Int32) (h0 g0 sd : Int32) (wd : Nat) (hwd : wd < 2 ^ 30) (sz : Nat) : Met l yX7_isLikeBehind wsX7_isLikeBehind ({ frames := 1, cells := 0, slots := 0, locals := 21 }) (va_Pc [.ref ra, .int h0, .ref rb, .int g0, .int (nI wd), .int sd] (cPC dC dI [(ra, .inr (12, [.int st, .int ce, .int sp, .int lm, .int rm, .int fa, .ref ta])), (ta, .inl (cI, 1001, .inl f)), (rb, .inr (12, [.int st2, .int ce2, .int sp2, .int lm2, .int rm2, .int fa2, .ref tb])), (tb, .inl (cI, 1001, .inl f2))] [(cI, .int)] sz)) (va_Qi (fun (r : Int32) (u : Unit) => (r = 1 ∧ ∀ k, k < wd → signJ f (h0 - nI k * sd) = signJ f2 (g0 - nI k * sd)) ∨ (r = 0 ∧ ¬ (∀ k, k < wd → signJ f (h0 - nI k * sd) = signJ f2 (g0 - nI k * sd)))) (fun (u : Unit) t => cQB dC dI [(ra, .inr (12, [.int st, .int ce, .int sp, .int lm, .int rm, .int fa, .ref ta])), (ta, .inl (cI, 1001, .inl f)), (rb, .inr (12, [.int st2, .int ce2, .int sp2, .int lm2, .int rm2, .int fa2, .ref tb])), (tb, .inl (cI, 1001, .inl f2))] [(cI, .int)] (va_A [(ra, .inr (12, [.int st, .int ce, .int sp, .int lm, .int rm, .int fa, .ref ta])), (ta, .inl (cI, 1001, .inl f)), (rb, .inr (12, [.int st2, .int ce2, .int sp2, .int lm2, .int rm2, .int fa2, .ref tb])), (tb, .inl (cI, 1001, .inl f2))] sz) t) (va_A [(ra, .inr (12, [.int st, .int ce, .int sp, .int lm, .int rm, .int fa, .ref ta])), (ta, .inl (cI, 1001, .inl f)), (rb, .inr (12, [.int st2, .int ce2, .int sp2, .int lm2, .int rm2, .int fa2, .ref tb])), (tb, .inl (cI, 1001, .inl f2))] sz)) 0 0 (va_A [(ra, .inr (12, [.int st, .int ce, .int sp, .int lm, .int rm, .int fa, .ref ta])), (ta, .inl (cI, 1001, .inl f)), (rb, .inr (12, [.int st2, .int ce2, .int sp2, .int lm2, .int rm2, .int fa2, .ref tb])), (tb, .inl (cI, 1001, .inl f2))] sz) := by
  refine Met.ofW (cc := cX7_isLikeBehind) (maxL := 7) (ret := (some .boolean)) (by decide) rfl ?_
  intro p e s m args below meth c s₁ B hml hv
  obtain ⟨rfl, hsz, hP, hK, hD0, hN⟩ := hv
  have hx := B.exec
  have hb := B.bytes
  have hr := B.returns
  have hts := atoms_spec (ws := wsX7_isLikeBehind) B.pre
  have hown : s.vm.findClass RX7 = some m.cls := findClass_of_methodNamed B.named
  have hlocks := B.notSynchronized
  subst hsz
  have hD := hD0.self (sz := s.heap.size)
  generalize hAe : va_A [(ra, .inr (12, [.int st, .int ce, .int sp, .int lm, .int rm, .int fa, .ref ta])), (ta, .inl (cI, 1001, .inl f)), (rb, .inr (12, [.int st2, .int ce2, .int sp2, .int lm2, .int rm2, .int fa2, .ref tb])), (tb, .inl (cI, 1001, .inl f2))] s.heap.size = A at hD ⊢
  have hA : ∀ q : Nat, s.heap.size ≤ q → A q := fun q h => by rw [← hAe]; exact Or.inr h
  have hS : va_S A s.heap s.heap [] := va_S.rf
  have hP : va_P (dC, dI) vwCl [(ra, .inr (12, [.int st, .int ce, .int sp, .int lm, .int rm, .int fa, .ref ta])), (ta, .inl (cI, 1001, .inl f)), (rb, .inr (12, [.int st2, .int ce2, .int sp2, .int lm2, .int rm2, .int fa2, .ref tb])), (tb, .inl (cI, 1001, .inl f2))] s.heap := hP
  have hD : va_D A [(ra, .inr (12, [.int st, .int ce, .int sp, .int lm, .int rm, .int fa, .ref ta])), (ta, .inl (cI, 1001, .inl f)), (rb, .inr (12, [.int st2, .int ce2, .int sp2, .int lm2, .int rm2, .int fa2, .ref tb])), (tb, .inl (cI, 1001, .inl f2))] := hD
  have hl := lv_entry ([.ref ra, .int h0, .ref rb, .int g0, .int (nI wd), .int sd]) (n := 7) (Nat.le_of_ble_eq_true rfl)
  rw [lg_entry_eq]
  generalize (lg_sl ([.ref ra, .int h0, .ref rb, .int g0, .int (nI wd), .int sd]) ++ List.replicate (7 - (lg_sl ([.ref ra, .int h0, .ref rb, .int g0, .int (nI wd), .int sd])).length) Slot.unset).toArray = ls at hl ⊢
  have hl : lv_has ls 7 [(0, .ref ra), (1, .int h0), (2, .ref rb), (3, .int g0), (4, .int (nI wd)), (5, .int sd)] := hl
  refine lv_iconst (v := 0) hx hb dX7_isLikeBehind_0 (by decide) ?_
  refine lv_istore (lv' := [(6, .int 0), (0, .ref ra), (1, .int h0), (2, .ref rb), (3, .int g0), (4, .int (nI wd)), (5, .int sd)]) hx hb dX7_isLikeBehind_1 hl (by decide) rfl (fun ls hl => ?_)
  refine lp_go (σ := Nat) (fun j_3 => j_3 ≤ wd ∧ ∀ k, k < j_3 → signJ f (h0 - nI k * sd) = signJ f2 (g0 - nI k * sd)) (fun j_3 => wd - j_3) (fun x => [(ra, .inr (12, [.int st, .int ce, .int sp, .int lm, .int rm, .int fa, .ref ta])), (ta, .inl (cI, 1001, .inl f)), (rb, .inr (12, [.int st2, .int ce2, .int sp2, .int lm2, .int rm2, .int fa2, .ref tb])), (tb, .inl (cI, 1001, .inl f2))]) (fun x => [(0, .ref ra), (1, .int h0), (2, .ref rb), (3, .int g0), (4, .int (nI wd)), (5, .int sd), (6, .int (nI x))]) (fun _ => []) (fun x hI ih3 H locs hP hD hS ls hl => ?_) 0 ⟨Nat.zero_le _, fun k hk => absurd hk (Nat.not_lt_zero k)⟩ (hP.sub [0, 1, 2, 3] rfl) (hD.sub [0, 1, 2, 3] (by decide) rfl) hS (lv_sub hl [1, 2, 3, 4, 5, 6, 0] rfl)
  obtain ⟨j_3, ex9⟩ : ∃ z, z = x := ⟨_, rfl⟩
  subst ex9
  have hP : va_P (dC, dI) vwCl [(ra, .inr (12, [.int st, .int ce, .int sp, .int lm, .int rm, .int fa, .ref ta])), (ta, .inl (cI, 1001, .inl f)), (rb, .inr (12, [.int st2, .int ce2, .int sp2, .int lm2, .int rm2, .int fa2, .ref tb])), (tb, .inl (cI, 1001, .inl f2))] H := hP
  have hD : va_D A [(ra, .inr (12, [.int st, .int ce, .int sp, .int lm, .int rm, .int fa, .ref ta])), (ta, .inl (cI, 1001, .inl f)), (rb, .inr (12, [.int st2, .int ce2, .int sp2, .int lm2, .int rm2, .int fa2, .ref tb])), (tb, .inl (cI, 1001, .inl f2))] := hD
  have hl : lv_has ls 7 [(0, .ref ra), (1, .int h0), (2, .ref rb), (3, .int g0), (4, .int (nI wd)), (5, .int sd), (6, .int (nI j_3))] := hl
  try dsimp only at hI
  have ih3 := ih3
  refine lv_iload hx hb dX7_isLikeBehind_3 (lv_at hl 6 rfl) ?_
  refine lv_iload hx hb dX7_isLikeBehind_5 (lv_at hl 4 rfl) ?_
  refine lv_icmp_ge (tgt := 43) hx hb dX7_isLikeBehind_7 (by decide) (fun c7_1 => ?_) (fun c7_1 => ?_)
  · refine lv_iconst (v := 1) hx hb dX7_isLikeBehind_43 (by decide) ?_
    have hP9 := hP.sub (ws' := [(ra, .inr (12, [.int st, .int ce, .int sp, .int lm, .int rm, .int fa, .ref ta])), (ta, .inl (cI, 1001, .inl f)), (rb, .inr (12, [.int st2, .int ce2, .int sp2, .int lm2, .int rm2, .int fa2, .ref tb])), (tb, .inl (cI, 1001, .inl f2))]) [0, 1, 2, 3] rfl
    have hD9 := hD.sub (ws' := [(ra, .inr (12, [.int st, .int ce, .int sp, .int lm, .int rm, .int fa, .ref ta])), (ta, .inl (cI, 1001, .inl f)), (rb, .inr (12, [.int st2, .int ce2, .int sp2, .int lm2, .int rm2, .int fa2, .ref tb])), (tb, .inl (cI, 1001, .inl f2))]) [0, 1, 2, 3] (by decide) rfl
    have hK9 := hK.sub (tys' := [(cI, .int)]) [0] rfl
    exact W.zret (v := 1) hx hb hr (by rfl) (fun t ht hW => ⟨⟨1, (), rfl, (Or.inl ⟨rfl, fun k hk => hI.2 k (by have := nI_end (by omega) hI.1 c7_1; omega)⟩), ⟨by rw [ht]; exact hP9, va_K.moved hW.alike hK9, hD9⟩⟩, hS.F ht⟩) hS.2.2 dX7_isLikeBehind_44
  · have hj : j_3 < wd := nI_step (by omega) hI.1 c7_1
    refine lv_aload_n hx hb dX7_isLikeBehind_10 rfl (lv_at hl 0 rfl) ?_
    refine lv_iload_n hx hb dX7_isLikeBehind_11 rfl (lv_at hl 1 rfl) ?_
    refine lv_iload hx hb dX7_isLikeBehind_12 (lv_at hl 6 rfl) ?_
    refine lv_iload hx hb dX7_isLikeBehind_14 (lv_at hl 5 rfl) ?_
    refine lv_imul hx hb dX7_isLikeBehind_16 ?_
    refine lv_isub hx hb dX7_isLikeBehind_17 ?_
    have hPc := hP.sub (ws' := [(ra, .inr (12, [.int st, .int ce, .int sp, .int lm, .int rm, .int fa, .ref ta])), (ta, .inl (cI, 1001, .inl f))]) [0, 1] rfl
    have hDc := hD.sub (ws' := [(ra, .inr (12, [.int st, .int ce, .int sp, .int lm, .int rm, .int fa, .ref ta])), (ta, .inl (cI, 1001, .inl f))]) [0, 1] (by decide) rfl
    have hKc := hK.sub (tys' := [(cI, .int)]) [0] rfl
    have hFc := va_free (wc := [(ra, .inr (12, [.int st, .int ce, .int sp, .int lm, .int rm, .int fa, .ref ta])), (ta, .inl (cI, 1001, .inl f))]) hD hS hA [0, 1] rfl
    refine va_calli (va_runV (As := [.int (h0 - ((nI j_3) * sd))]) (rest := []) ⟨hx, hb, hml, hown, hts⟩ (c_X7_signOf l dC dI cI ra ta st ce sp lm rm fa f (h0 - ((nI j_3) * sd)) H.size) (cwV 1 hts gX7_isLikeBehind_X7_signOf rfl rfl rfl (by decide +kernel) ⟨Nat.le_of_ble_eq_true rfl, Nat.le_of_ble_eq_true rfl⟩) (pcV hPc hDc hKc hN (ci := 12) (q0 := 0) rfl rfl) rfl rfl hl.1 rfl (lv_room (Nat.le_of_ble_eq_true rfl)) dX7_isLikeBehind_18 ⟨Nat.le_of_ble_eq_true rfl, Nat.le_of_ble_eq_true rfl⟩) hS (fun q _ h => hFc q h) hFc (fun r_2 u t H1 locs ht hvm hw_3 hB hz1 hk1 hS => ?_)
    obtain ⟨hP1, hK1, hD1⟩ := hB
    rw [ht] at hP1
    try dsimp only at hw_3
    obtain ⟨hP, hD⟩ := va_join (wr := [(rb, .inr (12, [.int st2, .int ce2, .int sp2, .int lm2, .int rm2, .int fa2, .ref tb])), (tb, .inl (cI, 1001, .inl f2))]) (w1 := [(ra, .inr (12, [.int st, .int ce, .int sp, .int lm, .int rm, .int fa, .ref ta])), (ta, .inl (cI, 1001, .inl f))]) hP hD [0, 1] [2, 3] rfl rfl (by decide) (by decide) hk1 hFc hP1 hD1
    generalize H1 = H at hP hS ⊢
    have hP : va_P (dC, dI) vwCl [(rb, .inr (12, [.int st2, .int ce2, .int sp2, .int lm2, .int rm2, .int fa2, .ref tb])), (tb, .inl (cI, 1001, .inl f2)), (ra, .inr (12, [.int st, .int ce, .int sp, .int lm, .int rm, .int fa, .ref ta])), (ta, .inl (cI, 1001, .inl f))] H := hP
    have hD : va_D A [(rb, .inr (12, [.int st2, .int ce2, .int sp2, .int lm2, .int rm2, .int fa2, .ref tb])), (tb, .inl (cI, 1001, .inl f2)), (ra, .inr (12, [.int st, .int ce, .int sp, .int lm, .int rm, .int fa, .ref ta])), (ta, .inl (cI, 1001, .inl f))] := hD
    refine lv_aload_n hx hb dX7_isLikeBehind_21 rfl (lv_at hl 2 rfl) ?_
    refine lv_iload_n hx hb dX7_isLikeBehind_22 rfl (lv_at hl 3 rfl) ?_
    refine lv_iload hx hb dX7_isLikeBehind_23 (lv_at hl 6 rfl) ?_
    refine lv_iload hx hb dX7_isLikeBehind_25 (lv_at hl 5 rfl) ?_
    refine lv_imul hx hb dX7_isLikeBehind_27 ?_
    refine lv_isub hx hb dX7_isLikeBehind_28 ?_
    have hPc := hP.sub (ws' := [(rb, .inr (12, [.int st2, .int ce2, .int sp2, .int lm2, .int rm2, .int fa2, .ref tb])), (tb, .inl (cI, 1001, .inl f2))]) [0, 1] rfl
    have hDc := hD.sub (ws' := [(rb, .inr (12, [.int st2, .int ce2, .int sp2, .int lm2, .int rm2, .int fa2, .ref tb])), (tb, .inl (cI, 1001, .inl f2))]) [0, 1] (by decide) rfl
    have hKc := hK.sub (tys' := [(cI, .int)]) [0] rfl
    have hFc := va_free (wc := [(rb, .inr (12, [.int st2, .int ce2, .int sp2, .int lm2, .int rm2, .int fa2, .ref tb])), (tb, .inl (cI, 1001, .inl f2))]) hD hS hA [0, 1] rfl
    refine va_calli (va_runV (As := [.int (g0 - ((nI j_3) * sd))]) (rest := [.int r_2]) ⟨hx, hb, hml, hown, hts⟩ (c_X7_signOf l dC dI cI rb tb st2 ce2 sp2 lm2 rm2 fa2 f2 (g0 - ((nI j_3) * sd)) H.size) (cwV 1 hts gX7_isLikeBehind_X7_signOf rfl rfl rfl (by decide +kernel) ⟨Nat.le_of_ble_eq_true rfl, Nat.le_of_ble_eq_true rfl⟩) (pcV hPc hDc hKc hN (ci := 12) (q0 := 0) rfl rfl) rfl rfl hl.1 rfl (lv_room (Nat.le_of_ble_eq_true rfl)) dX7_isLikeBehind_29 ⟨Nat.le_of_ble_eq_true rfl, Nat.le_of_ble_eq_true rfl⟩) hS (fun q _ h => hFc q h) hFc (fun r_4 u t H1 locs ht hvm hw_5 hB hz1 hk1 hS => ?_)
    obtain ⟨hP1, hK1, hD1⟩ := hB
    rw [ht] at hP1
    try dsimp only at hw_5
    obtain ⟨hP, hD⟩ := va_join (wr := [(ra, .inr (12, [.int st, .int ce, .int sp, .int lm, .int rm, .int fa, .ref ta])), (ta, .inl (cI, 1001, .inl f))]) (w1 := [(rb, .inr (12, [.int st2, .int ce2, .int sp2, .int lm2, .int rm2, .int fa2, .ref tb])), (tb, .inl (cI, 1001, .inl f2))]) hP hD [0, 1] [2, 3] rfl rfl (by decide) (by decide) hk1 hFc hP1 hD1
    generalize H1 = H at hP hS ⊢
    have hP : va_P (dC, dI) vwCl [(ra, .inr (12, [.int st, .int ce, .int sp, .int lm, .int rm, .int fa, .ref ta])), (ta, .inl (cI, 1001, .inl f)), (rb, .inr (12, [.int st2, .int ce2, .int sp2, .int lm2, .int rm2, .int fa2, .ref tb])), (tb, .inl (cI, 1001, .inl f2))] H := hP
    have hD : va_D A [(ra, .inr (12, [.int st, .int ce, .int sp, .int lm, .int rm, .int fa, .ref ta])), (ta, .inl (cI, 1001, .inl f)), (rb, .inr (12, [.int st2, .int ce2, .int sp2, .int lm2, .int rm2, .int fa2, .ref tb])), (tb, .inl (cI, 1001, .inl f2))] := hD
    refine lv_icmp_eq (tgt := 37) hx hb dX7_isLikeBehind_32 (by decide) (fun c32_6 => ?_) (fun c32_6 => ?_)
    · obtain ⟨y_7, ey_7⟩ : ∃ y : Int32, y = (nI j_3) + 1 := ⟨_, rfl⟩
      refine lv_iinc (v := y_7) (lv' := [(6, .int y_7), (0, .ref ra), (1, .int h0), (2, .ref rb), (3, .int g0), (4, .int (nI wd)), (5, .int sd)]) hx hb dX7_isLikeBehind_37 hl (k := 6) rfl (by rw [ey_7]; rfl) (by decide) rfl (fun ls hl => ?_)
      obtain rfl : y_7 = nI (j_3 + 1) := by rw [ey_7]; exact nI_1 _
      refine lv_goto (tgt := 3) hx hb dX7_isLikeBehind_40 (by decide) ?_
      exact ih3 (j_3 + 1) ⟨hj, fun k hk => (Nat.lt_or_ge k j_3).elim (fun h => hI.2 k h) (fun h => by have hk2 : k = j_3 := (by omega); have h9 := c32_6; rw [hw_3, hw_5] at h9; rw [hk2]; exact h9)⟩ (by show wd - (j_3 + 1) < wd - j_3; omega) _ _ (hP.sub [0, 1, 2, 3] rfl) (hD.sub [0, 1, 2, 3] (by decide) rfl) hS ls (lv_sub hl [1, 2, 3, 4, 5, 6, 0] rfl)
    · refine lv_iconst (v := 0) hx hb dX7_isLikeBehind_35 (by decide) ?_
      have hP9 := hP.sub (ws' := [(ra, .inr (12, [.int st, .int ce, .int sp, .int lm, .int rm, .int fa, .ref ta])), (ta, .inl (cI, 1001, .inl f)), (rb, .inr (12, [.int st2, .int ce2, .int sp2, .int lm2, .int rm2, .int fa2, .ref tb])), (tb, .inl (cI, 1001, .inl f2))]) [0, 1, 2, 3] rfl
      have hD9 := hD.sub (ws' := [(ra, .inr (12, [.int st, .int ce, .int sp, .int lm, .int rm, .int fa, .ref ta])), (ta, .inl (cI, 1001, .inl f)), (rb, .inr (12, [.int st2, .int ce2, .int sp2, .int lm2, .int rm2, .int fa2, .ref tb])), (tb, .inl (cI, 1001, .inl f2))]) [0, 1, 2, 3] (by decide) rfl
      have hK9 := hK.sub (tys' := [(cI, .int)]) [0] rfl
      exact W.zret (v := 0) hx hb hr (by rfl) (fun t ht hW => ⟨⟨0, (), rfl, (Or.inr ⟨rfl, fun h => c32_6 (by rw [hw_3, hw_5]; exact h j_3 hj)⟩), ⟨by rw [ht]; exact hP9, va_K.moved hW.alike hK9, hD9⟩⟩, hS.F ht⟩) hS.2.2 dX7_isLikeBehind_36

set_option maxHeartbeats 4000000 in
set_option maxRecDepth 100000 in
/-- X7_marks -/
theorem c_X7_marks (l : Launch) (dC : Nat → ClassId) (dI : Nat → Nat → Nat) (cI : ClassId) (ra ta : Nat) (st ce sp lm rm fa : Int32) (f : Nat → Int32) (hbd : ∃ lo hi : Nat, lm = nI lo - 500 ∧ rm = nI hi - 500 ∧ lo ≤ hi ∧ hi ≤ 1000) (sz : Nat) : Met l yX7_marks wsX7_marks ({ frames := 1, cells := 0, slots := 0, locals := 21 }) (va_Pc [.ref ra] (cPC dC dI [(ra, .inr (12, [.int st, .int ce, .int sp, .int lm, .int rm, .int fa, .ref ta])), (ta, .inl (cI, 1001, .inl f))] [(cI, .int)] sz)) (va_Qi (fun (r : Int32) (u : Unit) => r = marksR lm rm f) (fun (u : Unit) t => cQB dC dI [(ra, .inr (12, [.int st, .int ce, .int sp, .int lm, .int rm, .int fa, .ref ta])), (ta, .inl (cI, 1001, .inl f))] [(cI, .int)] (va_A [(ra, .inr (12, [.int st, .int ce, .int sp, .int lm, .int rm, .int fa, .ref ta])), (ta, .inl (cI, 1001, .inl f))] sz) t) (va_A [(ra, .inr (12, [.int st, .int ce, .int sp, .int lm, .int rm, .int fa, .ref ta])), (ta, .inl (cI, 1001, .inl f))] sz)) 0 0 (va_A [(ra, .inr (12, [.int st, .int ce, .int sp, .int lm, .int rm, .int fa, .ref ta])), (ta, .inl (cI, 1001, .inl f))] sz) := by
  refine Met.ofW (cc := cX7_marks) (maxL := 3) (ret := (some .int)) (by decide) rfl ?_
  intro p e s m args below meth c s₁ B hml hv
  obtain ⟨rfl, hsz, hP, hK, hD0, hN⟩ := hv
  have hx := B.exec
  have hb := B.bytes
  have hr := B.returns
  have hts := atoms_spec (ws := wsX7_marks) B.pre
  have hown : s.vm.findClass RX7 = some m.cls := findClass_of_methodNamed B.named
  have hlocks := B.notSynchronized
  subst hsz
  have hD := hD0.self (sz := s.heap.size)
  generalize hAe : va_A [(ra, .inr (12, [.int st, .int ce, .int sp, .int lm, .int rm, .int fa, .ref ta])), (ta, .inl (cI, 1001, .inl f))] s.heap.size = A at hD ⊢
  have hA : ∀ q : Nat, s.heap.size ≤ q → A q := fun q h => by rw [← hAe]; exact Or.inr h
  have hS : va_S A s.heap s.heap [] := va_S.rf
  have hP : va_P (dC, dI) vwCl [(ra, .inr (12, [.int st, .int ce, .int sp, .int lm, .int rm, .int fa, .ref ta])), (ta, .inl (cI, 1001, .inl f))] s.heap := hP
  have hD : va_D A [(ra, .inr (12, [.int st, .int ce, .int sp, .int lm, .int rm, .int fa, .ref ta])), (ta, .inl (cI, 1001, .inl f))] := hD
  have hl := lv_entry ([.ref ra]) (n := 3) (Nat.le_of_ble_eq_true rfl)
  rw [lg_entry_eq]
  generalize (lg_sl ([.ref ra]) ++ List.replicate (3 - (lg_sl ([.ref ra])).length) Slot.unset).toArray = ls at hl ⊢
  have hl : lv_has ls 3 [(0, .ref ra)] := hl
  obtain ⟨lo, hi, rfl, rfl, h1, h2⟩ := hbd
  have hP : va_P (dC, dI) vwCl [(ra, .inr (12, [.int st, .int ce, .int sp, .int (nI lo - 500), .int (nI hi - 500), .int fa, .ref ta])), (ta, .inl (cI, 1001, .inl f))] s.heap := hP
  have hD : va_D A [(ra, .inr (12, [.int st, .int ce, .int sp, .int (nI lo - 500), .int (nI hi - 500), .int fa, .ref ta])), (ta, .inl (cI, 1001, .inl f))] := hD
  have iWX7 : ∀ w ∈ u_ws RX7 TX7 7, w ∈ wsX7_marks := by decide +kernel
  refine lv_iconst (v := 0) hx hb dX7_marks_0 (by decide) ?_
  refine lv_istore_n (lv' := [(1, .int 0), (0, .ref ra)]) hx hb dX7_marks_1 rfl hl (by decide) rfl (fun ls hl => ?_)
  refine lv_aload_n hx hb dX7_marks_2 rfl (lv_at hl 1 rfl) ?_
  refine va_get (D := (dC, dI)) (ci := 12) (v := .int (nI lo - 500)) (C := RX7) (T := TX7) (N := 7) hx hb hts iWX7 hown hK hP 0 rfl rfl 3 (by decide) (hts (.fieldLink RX7 21 "Beaverhall$Run" "leftmost" "I") (by decide +kernel)) (fun _ h9 => h9) rfl dX7_marks_3 ?_
  refine lv_istore_n (lv' := [(2, .int (nI lo - 500)), (1, .int 0), (0, .ref ra)]) hx hb dX7_marks_6 rfl hl (by decide) rfl (fun ls hl => ?_)
  refine lp_go (σ := Nat × Int32) (fun x => match x with | (j_7, z_7) => lo ≤ j_7 ∧ j_7 ≤ hi + 1 ∧ z_7 = cntN f lo (j_7 - lo)) (fun x => match x with | (j_7, z_7) => hi + 1 - j_7) (fun x => [(ra, .inr (12, [.int st, .int ce, .int sp, .int (nI lo - 500), .int (nI hi - 500), .int fa, .ref ta])), (ta, .inl (cI, 1001, .inl f))]) (fun x => [(0, .ref ra), (1, .int x.2), (2, .int (nI x.1 - 500))]) (fun _ => []) (fun x hI ih7 H locs hP hD hS ls hl => ?_) (lo, 0) ⟨Nat.le_refl _, by omega, by rw [Nat.sub_self]; rfl⟩ (hP.sub [0, 1] rfl) (hD.sub [0, 1] (by decide) rfl) hS (lv_sub hl [2, 1, 0] rfl)
  obtain ⟨j_7, z_7⟩ := x
  have hP : va_P (dC, dI) vwCl [(ra, .inr (12, [.int st, .int ce, .int sp, .int (nI lo - 500), .int (nI hi - 500), .int fa, .ref ta])), (ta, .inl (cI, 1001, .inl f))] H := hP
  have hD : va_D A [(ra, .inr (12, [.int st, .int ce, .int sp, .int (nI lo - 500), .int (nI hi - 500), .int fa, .ref ta])), (ta, .inl (cI, 1001, .inl f))] := hD
  have hl : lv_has ls 3 [(0, .ref ra), (1, .int z_7), (2, .int (nI j_7 - 500))] := hl
  try dsimp only at hI
  have ih7 := ih7
  refine lv_iload_n hx hb dX7_marks_7 rfl (lv_at hl 2 rfl) ?_
  refine lv_aload_n hx hb dX7_marks_8 rfl (lv_at hl 0 rfl) ?_
  refine va_get (D := (dC, dI)) (ci := 12) (v := .int (nI hi - 500)) (C := RX7) (T := TX7) (N := 7) hx hb hts iWX7 hown hK hP 0 rfl rfl 4 (by decide) (hts (.fieldLink RX7 24 "Beaverhall$Run" "rightmost" "I") (by decide +kernel)) (fun _ h9 => h9) rfl dX7_marks_9 ?_
  refine lv_icmp_gt (tgt := 37) hx hb dX7_marks_12 (by decide) (fun c12_1 => ?_) (fun c12_1 => ?_)
  · have hj : j_7 = hi + 1 := by have := hI.2.1; have h9 := (cN_lt (a := hi) (b := j_7) (by omega) (by omega)).mp c12_1; omega
    refine lv_iload_n hx hb dX7_marks_37 rfl (lv_at hl 1 rfl) ?_
    have hP9 := hP.sub (ws' := [(ra, .inr (12, [.int st, .int ce, .int sp, .int (nI lo - 500), .int (nI hi - 500), .int fa, .ref ta])), (ta, .inl (cI, 1001, .inl f))]) [0, 1] rfl
    have hD9 := hD.sub (ws' := [(ra, .inr (12, [.int st, .int ce, .int sp, .int (nI lo - 500), .int (nI hi - 500), .int fa, .ref ta])), (ta, .inl (cI, 1001, .inl f))]) [0, 1] (by decide) rfl
    have hK9 := hK.sub (tys' := [(cI, .int)]) [0] rfl
    exact W.iret (v := z_7) hx hb hr (fun t ht hW => ⟨⟨z_7, (), rfl, (by unfold marksR; rw [cell_cl (by omega), cell_cl (by omega), hI.2.2, hj]), ⟨by rw [ht]; exact hP9, va_K.moved hW.alike hK9, hD9⟩⟩, hS.F ht⟩) hS.2.2 dX7_marks_38
  · have hj : j_7 ≤ hi := by have := hI.2.1; have h9 := mt (cN_lt (a := hi) (b := j_7) (by omega) (by omega)).mpr c12_1; omega
    refine lv_iload_n hx hb dX7_marks_15 rfl (lv_at hl 1 rfl) ?_
    refine lv_aload_n hx hb dX7_marks_16 rfl (lv_at hl 0 rfl) ?_
    refine lv_iload_n hx hb dX7_marks_17 rfl (lv_at hl 2 rfl) ?_
    have hPc := hP.sub (ws' := [(ra, .inr (12, [.int st, .int ce, .int sp, .int (nI lo - 500), .int (nI hi - 500), .int fa, .ref ta])), (ta, .inl (cI, 1001, .inl f))]) [0, 1] rfl
    have hDc := hD.sub (ws' := [(ra, .inr (12, [.int st, .int ce, .int sp, .int (nI lo - 500), .int (nI hi - 500), .int fa, .ref ta])), (ta, .inl (cI, 1001, .inl f))]) [0, 1] (by decide) rfl
    have hKc := hK.sub (tys' := [(cI, .int)]) [0] rfl
    have hFc := va_free (wc := [(ra, .inr (12, [.int st, .int ce, .int sp, .int (nI lo - 500), .int (nI hi - 500), .int fa, .ref ta])), (ta, .inl (cI, 1001, .inl f))]) hD hS hA [0, 1] rfl
    refine va_calli (va_runV (As := [.int (nI j_7 - 500)]) (rest := [.int z_7]) ⟨hx, hb, hml, hown, hts⟩ (c_X7_signOf l dC dI cI ra ta st ce sp (nI lo - 500) (nI hi - 500) fa f (nI j_7 - 500) H.size) (cwV 1 hts gX7_marks_X7_signOf rfl rfl rfl (by decide +kernel) ⟨Nat.le_of_ble_eq_true rfl, Nat.le_of_ble_eq_true rfl⟩) (pcV hPc hDc hKc hN (ci := 12) (q0 := 0) rfl rfl) rfl rfl hl.1 rfl (lv_room (Nat.le_of_ble_eq_true rfl)) dX7_marks_18 ⟨Nat.le_of_ble_eq_true rfl, Nat.le_of_ble_eq_true rfl⟩) hS (fun q _ h => hFc q h) hFc (fun r_2 u t H1 locs ht hvm hw_3 hB hz1 hk1 hS => ?_)
    obtain ⟨hP1, hK1, hD1⟩ := hB
    rw [ht] at hP1
    try dsimp only at hw_3
    obtain ⟨hP, hD⟩ := va_join (wr := []) (w1 := [(ra, .inr (12, [.int st, .int ce, .int sp, .int (nI lo - 500), .int (nI hi - 500), .int fa, .ref ta])), (ta, .inl (cI, 1001, .inl f))]) hP hD [0, 1] [] rfl rfl (by decide) (by decide) hk1 hFc hP1 hD1
    generalize H1 = H at hP hS ⊢
    have hP : va_P (dC, dI) vwCl [(ra, .inr (12, [.int st, .int ce, .int sp, .int (nI lo - 500), .int (nI hi - 500), .int fa, .ref ta])), (ta, .inl (cI, 1001, .inl f))] H := hP
    have hD : va_D A [(ra, .inr (12, [.int st, .int ce, .int sp, .int (nI lo - 500), .int (nI hi - 500), .int fa, .ref ta])), (ta, .inl (cI, 1001, .inl f))] := hD
    refine lv_if_ne (tgt := 28) hx hb dX7_marks_21 (by decide) (fun c21_4 => ?_) (fun c21_4 => ?_)
    · refine lv_iconst (v := 1) hx hb dX7_marks_28 (by decide) ?_
      refine lv_iadd hx hb dX7_marks_29 ?_
      refine lv_topi (fun x_5 ex_5 => ?_)
      refine lv_istore_n (lv' := [(1, .int x_5), (0, .ref ra), (2, .int (nI j_7 - 500))]) hx hb dX7_marks_30 rfl hl (by decide) rfl (fun ls hl => ?_)
      obtain ⟨y_6, ey_6⟩ : ∃ y : Int32, y = (nI j_7 - 500) + 1 := ⟨_, rfl⟩
      refine lv_iinc (v := y_6) (lv' := [(2, .int y_6), (1, .int x_5), (0, .ref ra)]) hx hb dX7_marks_31 hl (k := 2) rfl (by rw [ey_6]; rfl) (by decide) rfl (fun ls hl => ?_)
      obtain rfl : y_6 = nI (j_7 + 1) - 500 := by rw [ey_6]; exact cN_succ _
      refine lv_goto (tgt := 7) hx hb dX7_marks_34 (by decide) ?_
      exact ih7 ((j_7 + 1), x_5) ⟨by omega, by omega, by rw [ex_5, hI.2.2, show j_7 + 1 - lo = (j_7 - lo) + 1 from by omega]; simp only [cntN]; rw [show lo + (j_7 - lo) = j_7 from by omega]; have hq := c21_4; rw [hw_3, signJ_at (by omega)] at hq; simp [hq]⟩ (by show hi + 1 - (j_7 + 1) < hi + 1 - j_7; omega) _ _ (hP.sub [0, 1] rfl) (hD.sub [0, 1] (by decide) rfl) hS ls (lv_sub hl [2, 1, 0] rfl)
    · refine lv_iconst (v := 0) hx hb dX7_marks_24 (by decide) ?_
      refine lv_goto (tgt := 29) hx hb dX7_marks_25 (by decide) ?_
      refine lv_iadd hx hb dX7_marks_29 ?_
      refine lv_topi (fun x_7 ex_7 => ?_)
      refine lv_istore_n (lv' := [(1, .int x_7), (0, .ref ra), (2, .int (nI j_7 - 500))]) hx hb dX7_marks_30 rfl hl (by decide) rfl (fun ls hl => ?_)
      obtain ⟨y_8, ey_8⟩ : ∃ y : Int32, y = (nI j_7 - 500) + 1 := ⟨_, rfl⟩
      refine lv_iinc (v := y_8) (lv' := [(2, .int y_8), (1, .int x_7), (0, .ref ra)]) hx hb dX7_marks_31 hl (k := 2) rfl (by rw [ey_8]; rfl) (by decide) rfl (fun ls hl => ?_)
      obtain rfl : y_8 = nI (j_7 + 1) - 500 := by rw [ey_8]; exact cN_succ _
      refine lv_goto (tgt := 7) hx hb dX7_marks_34 (by decide) ?_
      exact ih7 ((j_7 + 1), x_7) ⟨by omega, by omega, by rw [ex_7, hI.2.2, show j_7 + 1 - lo = (j_7 - lo) + 1 from by omega]; simp only [cntN]; rw [show lo + (j_7 - lo) = j_7 from by omega]; have hq := c21_4; rw [hw_3, signJ_at (by omega)] at hq; simp [hq]⟩ (by show hi + 1 - (j_7 + 1) < hi + 1 - j_7; omega) _ _ (hP.sub [0, 1] rfl) (hD.sub [0, 1] (by decide) rfl) hS ls (lv_sub hl [2, 1, 0] rfl)

set_option maxHeartbeats 4000000 in
set_option maxRecDepth 100000 in
/-- X5_setOrder -/
theorem c_X5_setOrder (l : Launch) (dC : Nat → ClassId) (dI : Nat → Nat → Nat) (cI : ClassId) (mm oo la hh : Nat) (he ss gg wr tl le fi se : Int32) (o : Nat → Int32) (hss : ss ≤ 6) (hgg : gg ≤ 4) (a b od : Int32) (sz : Nat) : Met l yX5_setOrder wsX5_setOrder ({ frames := 1, cells := 0, slots := 0, locals := 24 }) (va_Pc [.ref mm, .int a, .int b, .int od] (cPC dC dI [(mm, .inr (10, [.int he, .int ss, .int gg, .ref la, .int wr, .int tl, .int le, .int fi, .int se, .ref oo, .ref hh])), (oo, .inl (cI, 24, .inl o))] [(cI, .int)] sz)) (va_Qv (fun (u : Int32 × (Nat → Int32)) => u = setJ ss gg o tl a b od) (fun (u : Int32 × (Nat → Int32)) t => cQB dC dI [(mm, .inr (10, [.int he, .int ss, .int gg, .ref la, .int wr, .int u.1, .int le, .int fi, .int se, .ref oo, .ref hh])), (oo, .inl (cI, 24, .inl u.2))] [(cI, .int)] (va_A [(mm, .inr (10, [.int he, .int ss, .int gg, .ref la, .int wr, .int tl, .int le, .int fi, .int se, .ref oo, .ref hh])), (oo, .inl (cI, 24, .inl o))] sz) t) (va_A [(mm, .inr (10, [.int he, .int ss, .int gg, .ref la, .int wr, .int tl, .int le, .int fi, .int se, .ref oo, .ref hh])), (oo, .inl (cI, 24, .inl o))] sz)) 0 0 (va_A [(mm, .inr (10, [.int he, .int ss, .int gg, .ref la, .int wr, .int tl, .int le, .int fi, .int se, .ref oo, .ref hh])), (oo, .inl (cI, 24, .inl o))] sz) := by
  refine Met.ofW (cc := cX5_setOrder) (maxL := 5) (ret := none) (by decide) rfl ?_
  intro p e s m args below meth c s₁ B hml hv
  obtain ⟨rfl, hsz, hP, hK, hD0, hN⟩ := hv
  have hx := B.exec
  have hb := B.bytes
  have hr := B.returns
  have hts := atoms_spec (ws := wsX5_setOrder) B.pre
  have hown : s.vm.findClass RX5 = some m.cls := findClass_of_methodNamed B.named
  have hlocks := B.notSynchronized
  subst hsz
  have hD := hD0.self (sz := s.heap.size)
  generalize hAe : va_A [(mm, .inr (10, [.int he, .int ss, .int gg, .ref la, .int wr, .int tl, .int le, .int fi, .int se, .ref oo, .ref hh])), (oo, .inl (cI, 24, .inl o))] s.heap.size = A at hD ⊢
  have hA : ∀ q : Nat, s.heap.size ≤ q → A q := fun q h => by rw [← hAe]; exact Or.inr h
  have hS : va_S A s.heap s.heap [] := va_S.rf
  have hP : va_P (dC, dI) vwCl [(mm, .inr (10, [.int he, .int ss, .int gg, .ref la, .int wr, .int tl, .int le, .int fi, .int se, .ref oo, .ref hh])), (oo, .inl (cI, 24, .inl o))] s.heap := hP
  have hD : va_D A [(mm, .inr (10, [.int he, .int ss, .int gg, .ref la, .int wr, .int tl, .int le, .int fi, .int se, .ref oo, .ref hh])), (oo, .inl (cI, 24, .inl o))] := hD
  have hl := lv_entry ([.ref mm, .int a, .int b, .int od]) (n := 5) (Nat.le_of_ble_eq_true rfl)
  rw [lg_entry_eq]
  generalize (lg_sl ([.ref mm, .int a, .int b, .int od]) ++ List.replicate (5 - (lg_sl ([.ref mm, .int a, .int b, .int od])).length) Slot.unset).toArray = ls at hl ⊢
  have hl : lv_has ls 5 [(0, .ref mm), (1, .int a), (2, .int b), (3, .int od)] := hl
  have iWX5 : ∀ w ∈ u_ws RX5 TX5 11, w ∈ wsX5_setOrder := by decide +kernel
  refine lv_aload_n hx hb dX5_setOrder_0 rfl (lv_at hl 0 rfl) ?_
  refine lv_iload_n hx hb dX5_setOrder_1 rfl (lv_at hl 1 rfl) ?_
  refine lv_iload_n hx hb dX5_setOrder_2 rfl (lv_at hl 2 rfl) ?_
  have hPc := hP.sub (ws' := [(mm, .inr (10, [.int he, .int ss, .int gg, .ref la, .int wr, .int tl, .int le, .int fi, .int se, .ref oo, .ref hh])), (oo, .inl (cI, 24, .inl o))]) [0, 1] rfl
  have hDc := hD.sub (ws' := [(mm, .inr (10, [.int he, .int ss, .int gg, .ref la, .int wr, .int tl, .int le, .int fi, .int se, .ref oo, .ref hh])), (oo, .inl (cI, 24, .inl o))]) [0, 1] (by decide) rfl
  have hKc := hK.sub (tys' := [(cI, .int)]) [0] rfl
  have hFc := va_free (wc := [(mm, .inr (10, [.int he, .int ss, .int gg, .ref la, .int wr, .int tl, .int le, .int fi, .int se, .ref oo, .ref hh])), (oo, .inl (cI, 24, .inl o))]) hD hS hA [0, 1] rfl
  refine va_calli (va_runV (As := [.int a, .int b]) (rest := []) ⟨hx, hb, hml, hown, hts⟩ (c_X5_hasPlace l dC dI cI mm oo la hh he ss gg wr tl le fi se o hss hgg a b s.heap.size) (cwV 2 hts gX5_setOrder_X5_hasPlace rfl rfl rfl (by decide +kernel) ⟨Nat.le_of_ble_eq_true rfl, Nat.le_of_ble_eq_true rfl⟩) (pcV hPc hDc hKc hN (ci := 10) (q0 := 0) rfl rfl) rfl rfl hl.1 rfl (lv_room (Nat.le_of_ble_eq_true rfl)) dX5_setOrder_3 ⟨Nat.le_of_ble_eq_true rfl, Nat.le_of_ble_eq_true rfl⟩) hS (fun q _ h => hFc q h) hFc (fun r_1 u t H1 locs ht hvm hw_2 hB hz1 hk1 hS => ?_)
  obtain ⟨hP1, hK1, hD1⟩ := hB
  rw [ht] at hP1
  try dsimp only at hw_2
  obtain ⟨hP, hD⟩ := va_join (wr := []) (w1 := [(mm, .inr (10, [.int he, .int ss, .int gg, .ref la, .int wr, .int tl, .int le, .int fi, .int se, .ref oo, .ref hh])), (oo, .inl (cI, 24, .inl o))]) hP hD [0, 1] [] rfl rfl (by decide) (by decide) hk1 hFc hP1 hD1
  generalize H1 = H at hP hS ⊢
  have hP : va_P (dC, dI) vwCl [(mm, .inr (10, [.int he, .int ss, .int gg, .ref la, .int wr, .int tl, .int le, .int fi, .int se, .ref oo, .ref hh])), (oo, .inl (cI, 24, .inl o))] H := hP
  have hD : va_D A [(mm, .inr (10, [.int he, .int ss, .int gg, .ref la, .int wr, .int tl, .int le, .int fi, .int se, .ref oo, .ref hh])), (oo, .inl (cI, 24, .inl o))] := hD
  refine lv_if_ne (tgt := 10) hx hb dX5_setOrder_6 (by decide) (fun c6_3 => ?_) (fun c6_3 => ?_)
  · refine lv_aload_n hx hb dX5_setOrder_10 rfl (lv_at hl 0 rfl) ?_
    refine lv_iload_n hx hb dX5_setOrder_11 rfl (lv_at hl 1 rfl) ?_
    refine lv_iload_n hx hb dX5_setOrder_12 rfl (lv_at hl 2 rfl) ?_
    have hPc := hP.sub (ws' := [(mm, .inr (10, [.int he, .int ss, .int gg, .ref la, .int wr, .int tl, .int le, .int fi, .int se, .ref oo, .ref hh])), (oo, .inl (cI, 24, .inl o))]) [0, 1] rfl
    have hDc := hD.sub (ws' := [(mm, .inr (10, [.int he, .int ss, .int gg, .ref la, .int wr, .int tl, .int le, .int fi, .int se, .ref oo, .ref hh])), (oo, .inl (cI, 24, .inl o))]) [0, 1] (by decide) rfl
    have hKc := hK.sub (tys' := [(cI, .int)]) [0] rfl
    have hFc := va_free (wc := [(mm, .inr (10, [.int he, .int ss, .int gg, .ref la, .int wr, .int tl, .int le, .int fi, .int se, .ref oo, .ref hh])), (oo, .inl (cI, 24, .inl o))]) hD hS hA [0, 1] rfl
    refine va_calli (va_runV (As := [.int a, .int b]) (rest := []) ⟨hx, hb, hml, hown, hts⟩ (c_X5_orderFor l dC dI cI mm oo la hh he ss gg wr tl le fi se o hss hgg a b H.size) (cwV 2 hts gX5_setOrder_X5_orderFor rfl rfl rfl (by decide +kernel) ⟨Nat.le_of_ble_eq_true rfl, Nat.le_of_ble_eq_true rfl⟩) (pcV hPc hDc hKc hN (ci := 10) (q0 := 0) rfl rfl) rfl rfl hl.1 rfl (lv_room (Nat.le_of_ble_eq_true rfl)) dX5_setOrder_13 ⟨Nat.le_of_ble_eq_true rfl, Nat.le_of_ble_eq_true rfl⟩) hS (fun q _ h => hFc q h) hFc (fun r_4 u t H1 locs ht hvm hw_5 hB hz1 hk1 hS => ?_)
    obtain ⟨hP1, hK1, hD1⟩ := hB
    rw [ht] at hP1
    try dsimp only at hw_5
    obtain ⟨hP, hD⟩ := va_join (wr := []) (w1 := [(mm, .inr (10, [.int he, .int ss, .int gg, .ref la, .int wr, .int tl, .int le, .int fi, .int se, .ref oo, .ref hh])), (oo, .inl (cI, 24, .inl o))]) hP hD [0, 1] [] rfl rfl (by decide) (by decide) hk1 hFc hP1 hD1
    generalize H1 = H at hP hS ⊢
    have hP : va_P (dC, dI) vwCl [(mm, .inr (10, [.int he, .int ss, .int gg, .ref la, .int wr, .int tl, .int le, .int fi, .int se, .ref oo, .ref hh])), (oo, .inl (cI, 24, .inl o))] H := hP
    have hD : va_D A [(mm, .inr (10, [.int he, .int ss, .int gg, .ref la, .int wr, .int tl, .int le, .int fi, .int se, .ref oo, .ref hh])), (oo, .inl (cI, 24, .inl o))] := hD
    refine lv_istore (lv' := [(4, .int r_4), (0, .ref mm), (1, .int a), (2, .int b), (3, .int od)]) hx hb dX5_setOrder_16 hl (by decide) rfl (fun ls hl => ?_)
    refine lv_aload_n hx hb dX5_setOrder_18 rfl (lv_at hl 1 rfl) ?_
    refine lv_dup hx hb dX5_setOrder_19 rfl ?_
    refine va_get (D := (dC, dI)) (ci := 10) (v := .int tl) (C := RX5) (T := TX5) (N := 11) hx hb hts iWX5 hown hK hP 0 rfl rfl 5 (by decide) (hts (.fieldLink RX5 22 "Beaverhall$Machine" "told" "I") (by decide +kernel)) (fun _ h9 => h9) rfl dX5_setOrder_20 ?_
    refine lv_iload_n hx hb dX5_setOrder_23 rfl (lv_at hl 4 rfl) ?_
    refine lv_if_ne (tgt := 31) hx hb dX5_setOrder_24 (by decide) (fun c24_6 => ?_) (fun c24_6 => ?_)
    · refine lv_iconst (v := 1) hx hb dX5_setOrder_31 (by decide) ?_
      refine lv_iload hx hb dX5_setOrder_32 (lv_at hl 0 rfl) ?_
      refine lv_if_ne (tgt := 41) hx hb dX5_setOrder_34 (by decide) (fun c34_7 => ?_) (fun c34_7 => ?_)
      · refine lv_iconst (v := 1) hx hb dX5_setOrder_41 (by decide) ?_
        refine lv_isub hx hb dX5_setOrder_42 ?_
        refine lv_iadd hx hb dX5_setOrder_43 ?_
        refine lv_topi (fun x_8 ex_8 => ?_)
        refine va_put (D := (dC, dI)) (ci := 10) (v := .int x_8) (ty := .int) (C := RX5) (T := TX5) (N := 11) hx hb hts iWX5 tyX5 tyX5_ok nmX5 hown hK hP hD hS 0 rfl rfl 5 (by decide) (hts (.fieldLink RX5 22 "Beaverhall$Machine" "told" "I") (by decide +kernel)) (fun _ h9 => h9) rfl (by decide +kernel) rfl rfl (Nat.le_of_ble_eq_true rfl) dX5_setOrder_44 (fun H locs hP hD hS => ?_)
        have hP : va_P (dC, dI) vwCl [(mm, .inr (10, [.int he, .int ss, .int gg, .ref la, .int wr, .int x_8, .int le, .int fi, .int se, .ref oo, .ref hh])), (oo, .inl (cI, 24, .inl o))] H := hP
        have hD : va_D A [(mm, .inr (10, [.int he, .int ss, .int gg, .ref la, .int wr, .int x_8, .int le, .int fi, .int se, .ref oo, .ref hh])), (oo, .inl (cI, 24, .inl o))] := hD
        refine lv_aload_n hx hb dX5_setOrder_47 rfl (lv_at hl 1 rfl) ?_
        refine va_get (D := (dC, dI)) (ci := 10) (v := .ref oo) (C := RX5) (T := TX5) (N := 11) hx hb hts iWX5 hown hK hP 0 rfl rfl 9 (by decide) (hts (.fieldLink RX5 36 "Beaverhall$Machine" "orders" "[I") (by decide +kernel)) (fun _ h9 => h9) rfl dX5_setOrder_48 ?_
        refine lv_iload_n hx hb dX5_setOrder_51 rfl (lv_at hl 2 rfl) ?_
        refine lv_iconst (v := 4) hx hb dX5_setOrder_52 (by decide) ?_
        refine lv_imul hx hb dX5_setOrder_53 ?_
        refine lv_iload_n hx hb dX5_setOrder_54 rfl (lv_at hl 3 rfl) ?_
        refine lv_iadd hx hb dX5_setOrder_55 ?_
        refine lv_iload_n hx hb dX5_setOrder_56 rfl (lv_at hl 4 rfl) ?_
        have hPc := hP.sub (ws' := [(oo, .inl (cI, 24, .inl o))]) [1] rfl
        have hDc := hD.sub (ws' := [(oo, .inl (cI, 24, .inl o))]) [1] (by decide) rfl
        have hKc := hK.sub (tys' := [(cI, .int)]) [0] rfl
        have hFc := va_free (wc := [(oo, .inl (cI, 24, .inl o))]) hD hS hA [1] rfl
        refine va_callv (va_runSN (As := [.ref oo, .int ((a * 4) + b), .int od]) (rest := []) ⟨hx, hb, hml, hown, hts⟩ (c_X11_put l dC dI cI oo 24 o ((a * 4) + b) od (by decide) H.size) ⟨va_cnB 3 hts gX5_setOrder_X11_put_n60 rfl rfl rfl (hN (.methodLinkNest RX5 60 yX11_put "Beaverhall") (by decide +kernel)) (hts (.initialized RX11) (by decide +kernel)) (by decide +kernel) ⟨Nat.le_of_ble_eq_true rfl, Nat.le_of_ble_eq_true rfl⟩, hts (.static yX11_put) (by decide +kernel), trivial⟩ (pcS hPc hDc hKc hN) rfl rfl hl.1 rfl (lv_room (Nat.le_of_ble_eq_true rfl)) dX5_setOrder_57 ⟨Nat.le_of_ble_eq_true rfl, Nat.le_of_ble_eq_true rfl⟩) hS (fun q _ h => hFc q h) hFc (fun u t H1 locs ht hvm hw_9 hB hz1 hk1 hS => ?_)
        obtain ⟨hP1, hK1, hD1⟩ := hB
        rw [ht] at hP1
        try dsimp only at hw_9
        obtain ⟨hP, hD⟩ := va_join (wr := [(mm, .inr (10, [.int he, .int ss, .int gg, .ref la, .int wr, .int x_8, .int le, .int fi, .int se, .ref oo, .ref hh]))]) (w1 := [(oo, .inl (cI, 24, .inl u))]) hP hD [1] [0] rfl rfl (by decide) (by decide) hk1 hFc hP1 hD1
        generalize H1 = H at hP hS ⊢
        have hP : va_P (dC, dI) vwCl [(mm, .inr (10, [.int he, .int ss, .int gg, .ref la, .int wr, .int x_8, .int le, .int fi, .int se, .ref oo, .ref hh])), (oo, .inl (cI, 24, .inl u))] H := hP
        have hD : va_D A [(mm, .inr (10, [.int he, .int ss, .int gg, .ref la, .int wr, .int x_8, .int le, .int fi, .int se, .ref oo, .ref hh])), (oo, .inl (cI, 24, .inl u))] := hD
        obtain ⟨f_10, ef_10⟩ : ∃ z, z = u := ⟨_, rfl⟩
        subst ef_10
        have hP9 := hP.sub (ws' := [(mm, .inr (10, [.int he, .int ss, .int gg, .ref la, .int wr, .int x_8, .int le, .int fi, .int se, .ref oo, .ref hh])), (oo, .inl (cI, 24, .inl f_10))]) [0, 1] rfl
        have hD9 := hD.sub (ws' := [(mm, .inr (10, [.int he, .int ss, .int gg, .ref la, .int wr, .int x_8, .int le, .int fi, .int se, .ref oo, .ref hh])), (oo, .inl (cI, 24, .inl f_10))]) [0, 1] (by decide) rfl
        have hK9 := hK.sub (tys' := [(cI, .int)]) [0] rfl
        exact W.vret hx hb hr (fun t ht hW => ⟨⟨(x_8, f_10), rfl, (by (try subst hw_9); (try subst ex_8); (try subst hw_5); (try subst hw_2); simp [setJ, c6_3, c24_6, c34_7]), ⟨by rw [ht]; exact hP9, va_K.moved hW.alike hK9, hD9⟩⟩, hS.F ht⟩) hS.2.2 dX5_setOrder_60
      · refine lv_iconst (v := 0) hx hb dX5_setOrder_37 (by decide) ?_
        refine lv_goto (tgt := 42) hx hb dX5_setOrder_38 (by decide) ?_
        refine lv_isub hx hb dX5_setOrder_42 ?_
        refine lv_iadd hx hb dX5_setOrder_43 ?_
        refine lv_topi (fun x_11 ex_11 => ?_)
        refine va_put (D := (dC, dI)) (ci := 10) (v := .int x_11) (ty := .int) (C := RX5) (T := TX5) (N := 11) hx hb hts iWX5 tyX5 tyX5_ok nmX5 hown hK hP hD hS 0 rfl rfl 5 (by decide) (hts (.fieldLink RX5 22 "Beaverhall$Machine" "told" "I") (by decide +kernel)) (fun _ h9 => h9) rfl (by decide +kernel) rfl rfl (Nat.le_of_ble_eq_true rfl) dX5_setOrder_44 (fun H locs hP hD hS => ?_)
        have hP : va_P (dC, dI) vwCl [(mm, .inr (10, [.int he, .int ss, .int gg, .ref la, .int wr, .int x_11, .int le, .int fi, .int se, .ref oo, .ref hh])), (oo, .inl (cI, 24, .inl o))] H := hP
        have hD : va_D A [(mm, .inr (10, [.int he, .int ss, .int gg, .ref la, .int wr, .int x_11, .int le, .int fi, .int se, .ref oo, .ref hh])), (oo, .inl (cI, 24, .inl o))] := hD
        refine lv_aload_n hx hb dX5_setOrder_47 rfl (lv_at hl 1 rfl) ?_
        refine va_get (D := (dC, dI)) (ci := 10) (v := .ref oo) (C := RX5) (T := TX5) (N := 11) hx hb hts iWX5 hown hK hP 0 rfl rfl 9 (by decide) (hts (.fieldLink RX5 36 "Beaverhall$Machine" "orders" "[I") (by decide +kernel)) (fun _ h9 => h9) rfl dX5_setOrder_48 ?_
        refine lv_iload_n hx hb dX5_setOrder_51 rfl (lv_at hl 2 rfl) ?_
        refine lv_iconst (v := 4) hx hb dX5_setOrder_52 (by decide) ?_
        refine lv_imul hx hb dX5_setOrder_53 ?_
        refine lv_iload_n hx hb dX5_setOrder_54 rfl (lv_at hl 3 rfl) ?_
        refine lv_iadd hx hb dX5_setOrder_55 ?_
        refine lv_iload_n hx hb dX5_setOrder_56 rfl (lv_at hl 4 rfl) ?_
        have hPc := hP.sub (ws' := [(oo, .inl (cI, 24, .inl o))]) [1] rfl
        have hDc := hD.sub (ws' := [(oo, .inl (cI, 24, .inl o))]) [1] (by decide) rfl
        have hKc := hK.sub (tys' := [(cI, .int)]) [0] rfl
        have hFc := va_free (wc := [(oo, .inl (cI, 24, .inl o))]) hD hS hA [1] rfl
        refine va_callv (va_runSN (As := [.ref oo, .int ((a * 4) + b), .int od]) (rest := []) ⟨hx, hb, hml, hown, hts⟩ (c_X11_put l dC dI cI oo 24 o ((a * 4) + b) od (by decide) H.size) ⟨va_cnB 3 hts gX5_setOrder_X11_put_n60 rfl rfl rfl (hN (.methodLinkNest RX5 60 yX11_put "Beaverhall") (by decide +kernel)) (hts (.initialized RX11) (by decide +kernel)) (by decide +kernel) ⟨Nat.le_of_ble_eq_true rfl, Nat.le_of_ble_eq_true rfl⟩, hts (.static yX11_put) (by decide +kernel), trivial⟩ (pcS hPc hDc hKc hN) rfl rfl hl.1 rfl (lv_room (Nat.le_of_ble_eq_true rfl)) dX5_setOrder_57 ⟨Nat.le_of_ble_eq_true rfl, Nat.le_of_ble_eq_true rfl⟩) hS (fun q _ h => hFc q h) hFc (fun u t H1 locs ht hvm hw_12 hB hz1 hk1 hS => ?_)
        obtain ⟨hP1, hK1, hD1⟩ := hB
        rw [ht] at hP1
        try dsimp only at hw_12
        obtain ⟨hP, hD⟩ := va_join (wr := [(mm, .inr (10, [.int he, .int ss, .int gg, .ref la, .int wr, .int x_11, .int le, .int fi, .int se, .ref oo, .ref hh]))]) (w1 := [(oo, .inl (cI, 24, .inl u))]) hP hD [1] [0] rfl rfl (by decide) (by decide) hk1 hFc hP1 hD1
        generalize H1 = H at hP hS ⊢
        have hP : va_P (dC, dI) vwCl [(mm, .inr (10, [.int he, .int ss, .int gg, .ref la, .int wr, .int x_11, .int le, .int fi, .int se, .ref oo, .ref hh])), (oo, .inl (cI, 24, .inl u))] H := hP
        have hD : va_D A [(mm, .inr (10, [.int he, .int ss, .int gg, .ref la, .int wr, .int x_11, .int le, .int fi, .int se, .ref oo, .ref hh])), (oo, .inl (cI, 24, .inl u))] := hD
        obtain ⟨f_13, ef_13⟩ : ∃ z, z = u := ⟨_, rfl⟩
        subst ef_13
        have hP9 := hP.sub (ws' := [(mm, .inr (10, [.int he, .int ss, .int gg, .ref la, .int wr, .int x_11, .int le, .int fi, .int se, .ref oo, .ref hh])), (oo, .inl (cI, 24, .inl f_13))]) [0, 1] rfl
        have hD9 := hD.sub (ws' := [(mm, .inr (10, [.int he, .int ss, .int gg, .ref la, .int wr, .int x_11, .int le, .int fi, .int se, .ref oo, .ref hh])), (oo, .inl (cI, 24, .inl f_13))]) [0, 1] (by decide) rfl
        have hK9 := hK.sub (tys' := [(cI, .int)]) [0] rfl
        exact W.vret hx hb hr (fun t ht hW => ⟨⟨(x_11, f_13), rfl, (by (try subst hw_12); (try subst ex_11); (try subst hw_5); (try subst hw_2); simp [setJ, c6_3, c24_6, c34_7]), ⟨by rw [ht]; exact hP9, va_K.moved hW.alike hK9, hD9⟩⟩, hS.F ht⟩) hS.2.2 dX5_setOrder_60
    · refine lv_iconst (v := 0) hx hb dX5_setOrder_27 (by decide) ?_
      refine lv_goto (tgt := 32) hx hb dX5_setOrder_28 (by decide) ?_
      refine lv_iload hx hb dX5_setOrder_32 (lv_at hl 0 rfl) ?_
      refine lv_if_ne (tgt := 41) hx hb dX5_setOrder_34 (by decide) (fun c34_14 => ?_) (fun c34_14 => ?_)
      · refine lv_iconst (v := 1) hx hb dX5_setOrder_41 (by decide) ?_
        refine lv_isub hx hb dX5_setOrder_42 ?_
        refine lv_iadd hx hb dX5_setOrder_43 ?_
        refine lv_topi (fun x_15 ex_15 => ?_)
        refine va_put (D := (dC, dI)) (ci := 10) (v := .int x_15) (ty := .int) (C := RX5) (T := TX5) (N := 11) hx hb hts iWX5 tyX5 tyX5_ok nmX5 hown hK hP hD hS 0 rfl rfl 5 (by decide) (hts (.fieldLink RX5 22 "Beaverhall$Machine" "told" "I") (by decide +kernel)) (fun _ h9 => h9) rfl (by decide +kernel) rfl rfl (Nat.le_of_ble_eq_true rfl) dX5_setOrder_44 (fun H locs hP hD hS => ?_)
        have hP : va_P (dC, dI) vwCl [(mm, .inr (10, [.int he, .int ss, .int gg, .ref la, .int wr, .int x_15, .int le, .int fi, .int se, .ref oo, .ref hh])), (oo, .inl (cI, 24, .inl o))] H := hP
        have hD : va_D A [(mm, .inr (10, [.int he, .int ss, .int gg, .ref la, .int wr, .int x_15, .int le, .int fi, .int se, .ref oo, .ref hh])), (oo, .inl (cI, 24, .inl o))] := hD
        refine lv_aload_n hx hb dX5_setOrder_47 rfl (lv_at hl 1 rfl) ?_
        refine va_get (D := (dC, dI)) (ci := 10) (v := .ref oo) (C := RX5) (T := TX5) (N := 11) hx hb hts iWX5 hown hK hP 0 rfl rfl 9 (by decide) (hts (.fieldLink RX5 36 "Beaverhall$Machine" "orders" "[I") (by decide +kernel)) (fun _ h9 => h9) rfl dX5_setOrder_48 ?_
        refine lv_iload_n hx hb dX5_setOrder_51 rfl (lv_at hl 2 rfl) ?_
        refine lv_iconst (v := 4) hx hb dX5_setOrder_52 (by decide) ?_
        refine lv_imul hx hb dX5_setOrder_53 ?_
        refine lv_iload_n hx hb dX5_setOrder_54 rfl (lv_at hl 3 rfl) ?_
        refine lv_iadd hx hb dX5_setOrder_55 ?_
        refine lv_iload_n hx hb dX5_setOrder_56 rfl (lv_at hl 4 rfl) ?_
        have hPc := hP.sub (ws' := [(oo, .inl (cI, 24, .inl o))]) [1] rfl
        have hDc := hD.sub (ws' := [(oo, .inl (cI, 24, .inl o))]) [1] (by decide) rfl
        have hKc := hK.sub (tys' := [(cI, .int)]) [0] rfl
        have hFc := va_free (wc := [(oo, .inl (cI, 24, .inl o))]) hD hS hA [1] rfl
        refine va_callv (va_runSN (As := [.ref oo, .int ((a * 4) + b), .int od]) (rest := []) ⟨hx, hb, hml, hown, hts⟩ (c_X11_put l dC dI cI oo 24 o ((a * 4) + b) od (by decide) H.size) ⟨va_cnB 3 hts gX5_setOrder_X11_put_n60 rfl rfl rfl (hN (.methodLinkNest RX5 60 yX11_put "Beaverhall") (by decide +kernel)) (hts (.initialized RX11) (by decide +kernel)) (by decide +kernel) ⟨Nat.le_of_ble_eq_true rfl, Nat.le_of_ble_eq_true rfl⟩, hts (.static yX11_put) (by decide +kernel), trivial⟩ (pcS hPc hDc hKc hN) rfl rfl hl.1 rfl (lv_room (Nat.le_of_ble_eq_true rfl)) dX5_setOrder_57 ⟨Nat.le_of_ble_eq_true rfl, Nat.le_of_ble_eq_true rfl⟩) hS (fun q _ h => hFc q h) hFc (fun u t H1 locs ht hvm hw_16 hB hz1 hk1 hS => ?_)
        obtain ⟨hP1, hK1, hD1⟩ := hB
        rw [ht] at hP1
        try dsimp only at hw_16
        obtain ⟨hP, hD⟩ := va_join (wr := [(mm, .inr (10, [.int he, .int ss, .int gg, .ref la, .int wr, .int x_15, .int le, .int fi, .int se, .ref oo, .ref hh]))]) (w1 := [(oo, .inl (cI, 24, .inl u))]) hP hD [1] [0] rfl rfl (by decide) (by decide) hk1 hFc hP1 hD1
        generalize H1 = H at hP hS ⊢
        have hP : va_P (dC, dI) vwCl [(mm, .inr (10, [.int he, .int ss, .int gg, .ref la, .int wr, .int x_15, .int le, .int fi, .int se, .ref oo, .ref hh])), (oo, .inl (cI, 24, .inl u))] H := hP
        have hD : va_D A [(mm, .inr (10, [.int he, .int ss, .int gg, .ref la, .int wr, .int x_15, .int le, .int fi, .int se, .ref oo, .ref hh])), (oo, .inl (cI, 24, .inl u))] := hD
        obtain ⟨f_17, ef_17⟩ : ∃ z, z = u := ⟨_, rfl⟩
        subst ef_17
        have hP9 := hP.sub (ws' := [(mm, .inr (10, [.int he, .int ss, .int gg, .ref la, .int wr, .int x_15, .int le, .int fi, .int se, .ref oo, .ref hh])), (oo, .inl (cI, 24, .inl f_17))]) [0, 1] rfl
        have hD9 := hD.sub (ws' := [(mm, .inr (10, [.int he, .int ss, .int gg, .ref la, .int wr, .int x_15, .int le, .int fi, .int se, .ref oo, .ref hh])), (oo, .inl (cI, 24, .inl f_17))]) [0, 1] (by decide) rfl
        have hK9 := hK.sub (tys' := [(cI, .int)]) [0] rfl
        exact W.vret hx hb hr (fun t ht hW => ⟨⟨(x_15, f_17), rfl, (by (try subst hw_16); (try subst ex_15); (try subst hw_5); (try subst hw_2); simp [setJ, c6_3, c24_6, c34_14]), ⟨by rw [ht]; exact hP9, va_K.moved hW.alike hK9, hD9⟩⟩, hS.F ht⟩) hS.2.2 dX5_setOrder_60
      · refine lv_iconst (v := 0) hx hb dX5_setOrder_37 (by decide) ?_
        refine lv_goto (tgt := 42) hx hb dX5_setOrder_38 (by decide) ?_
        refine lv_isub hx hb dX5_setOrder_42 ?_
        refine lv_iadd hx hb dX5_setOrder_43 ?_
        refine lv_topi (fun x_18 ex_18 => ?_)
        refine va_put (D := (dC, dI)) (ci := 10) (v := .int x_18) (ty := .int) (C := RX5) (T := TX5) (N := 11) hx hb hts iWX5 tyX5 tyX5_ok nmX5 hown hK hP hD hS 0 rfl rfl 5 (by decide) (hts (.fieldLink RX5 22 "Beaverhall$Machine" "told" "I") (by decide +kernel)) (fun _ h9 => h9) rfl (by decide +kernel) rfl rfl (Nat.le_of_ble_eq_true rfl) dX5_setOrder_44 (fun H locs hP hD hS => ?_)
        have hP : va_P (dC, dI) vwCl [(mm, .inr (10, [.int he, .int ss, .int gg, .ref la, .int wr, .int x_18, .int le, .int fi, .int se, .ref oo, .ref hh])), (oo, .inl (cI, 24, .inl o))] H := hP
        have hD : va_D A [(mm, .inr (10, [.int he, .int ss, .int gg, .ref la, .int wr, .int x_18, .int le, .int fi, .int se, .ref oo, .ref hh])), (oo, .inl (cI, 24, .inl o))] := hD
        refine lv_aload_n hx hb dX5_setOrder_47 rfl (lv_at hl 1 rfl) ?_
        refine va_get (D := (dC, dI)) (ci := 10) (v := .ref oo) (C := RX5) (T := TX5) (N := 11) hx hb hts iWX5 hown hK hP 0 rfl rfl 9 (by decide) (hts (.fieldLink RX5 36 "Beaverhall$Machine" "orders" "[I") (by decide +kernel)) (fun _ h9 => h9) rfl dX5_setOrder_48 ?_
        refine lv_iload_n hx hb dX5_setOrder_51 rfl (lv_at hl 2 rfl) ?_
        refine lv_iconst (v := 4) hx hb dX5_setOrder_52 (by decide) ?_
        refine lv_imul hx hb dX5_setOrder_53 ?_
        refine lv_iload_n hx hb dX5_setOrder_54 rfl (lv_at hl 3 rfl) ?_
        refine lv_iadd hx hb dX5_setOrder_55 ?_
        refine lv_iload_n hx hb dX5_setOrder_56 rfl (lv_at hl 4 rfl) ?_
        have hPc := hP.sub (ws' := [(oo, .inl (cI, 24, .inl o))]) [1] rfl
        have hDc := hD.sub (ws' := [(oo, .inl (cI, 24, .inl o))]) [1] (by decide) rfl
        have hKc := hK.sub (tys' := [(cI, .int)]) [0] rfl
        have hFc := va_free (wc := [(oo, .inl (cI, 24, .inl o))]) hD hS hA [1] rfl
        refine va_callv (va_runSN (As := [.ref oo, .int ((a * 4) + b), .int od]) (rest := []) ⟨hx, hb, hml, hown, hts⟩ (c_X11_put l dC dI cI oo 24 o ((a * 4) + b) od (by decide) H.size) ⟨va_cnB 3 hts gX5_setOrder_X11_put_n60 rfl rfl rfl (hN (.methodLinkNest RX5 60 yX11_put "Beaverhall") (by decide +kernel)) (hts (.initialized RX11) (by decide +kernel)) (by decide +kernel) ⟨Nat.le_of_ble_eq_true rfl, Nat.le_of_ble_eq_true rfl⟩, hts (.static yX11_put) (by decide +kernel), trivial⟩ (pcS hPc hDc hKc hN) rfl rfl hl.1 rfl (lv_room (Nat.le_of_ble_eq_true rfl)) dX5_setOrder_57 ⟨Nat.le_of_ble_eq_true rfl, Nat.le_of_ble_eq_true rfl⟩) hS (fun q _ h => hFc q h) hFc (fun u t H1 locs ht hvm hw_19 hB hz1 hk1 hS => ?_)
        obtain ⟨hP1, hK1, hD1⟩ := hB
        rw [ht] at hP1
        try dsimp only at hw_19
        obtain ⟨hP, hD⟩ := va_join (wr := [(mm, .inr (10, [.int he, .int ss, .int gg, .ref la, .int wr, .int x_18, .int le, .int fi, .int se, .ref oo, .ref hh]))]) (w1 := [(oo, .inl (cI, 24, .inl u))]) hP hD [1] [0] rfl rfl (by decide) (by decide) hk1 hFc hP1 hD1
        generalize H1 = H at hP hS ⊢
        have hP : va_P (dC, dI) vwCl [(mm, .inr (10, [.int he, .int ss, .int gg, .ref la, .int wr, .int x_18, .int le, .int fi, .int se, .ref oo, .ref hh])), (oo, .inl (cI, 24, .inl u))] H := hP
        have hD : va_D A [(mm, .inr (10, [.int he, .int ss, .int gg, .ref la, .int wr, .int x_18, .int le, .int fi, .int se, .ref oo, .ref hh])), (oo, .inl (cI, 24, .inl u))] := hD
        obtain ⟨f_20, ef_20⟩ : ∃ z, z = u := ⟨_, rfl⟩
        subst ef_20
        have hP9 := hP.sub (ws' := [(mm, .inr (10, [.int he, .int ss, .int gg, .ref la, .int wr, .int x_18, .int le, .int fi, .int se, .ref oo, .ref hh])), (oo, .inl (cI, 24, .inl f_20))]) [0, 1] rfl
        have hD9 := hD.sub (ws' := [(mm, .inr (10, [.int he, .int ss, .int gg, .ref la, .int wr, .int x_18, .int le, .int fi, .int se, .ref oo, .ref hh])), (oo, .inl (cI, 24, .inl f_20))]) [0, 1] (by decide) rfl
        have hK9 := hK.sub (tys' := [(cI, .int)]) [0] rfl
        exact W.vret hx hb hr (fun t ht hW => ⟨⟨(x_18, f_20), rfl, (by (try subst hw_19); (try subst ex_18); (try subst hw_5); (try subst hw_2); simp [setJ, c6_3, c24_6, c34_14]), ⟨by rw [ht]; exact hP9, va_K.moved hW.alike hK9, hD9⟩⟩, hS.F ht⟩) hS.2.2 dX5_setOrder_60
  · have hP9 := hP.sub (ws' := [(mm, .inr (10, [.int he, .int ss, .int gg, .ref la, .int wr, .int tl, .int le, .int fi, .int se, .ref oo, .ref hh])), (oo, .inl (cI, 24, .inl o))]) [0, 1] rfl
    have hD9 := hD.sub (ws' := [(mm, .inr (10, [.int he, .int ss, .int gg, .ref la, .int wr, .int tl, .int le, .int fi, .int se, .ref oo, .ref hh])), (oo, .inl (cI, 24, .inl o))]) [0, 1] (by decide) rfl
    have hK9 := hK.sub (tys' := [(cI, .int)]) [0] rfl
    exact W.vret hx hb hr (fun t ht hW => ⟨⟨(tl, o), rfl, (by (try subst hw_2); simp [setJ, c6_3]), ⟨by rw [ht]; exact hP9, va_K.moved hW.alike hK9, hD9⟩⟩, hS.F ht⟩) hS.2.2 dX5_setOrder_9

set_option maxHeartbeats 4000000 in
set_option maxRecDepth 100000 in
/-- X5_takeOrders -/
theorem c_X5_takeOrders (l : Launch) (dC : Nat → ClassId) (dI : Nat → Nat → Nat) (cI : ClassId) (mm oo la hh : Nat) (he ss gg wr tl le fi se : Int32) (o : Nat → Int32) (hss : ss ≤ 6) (hgg : gg ≤ 4) (m2 o2 la2 hh2 : Nat) (he2 ss2 gg2 wr2 tl2 le2 fi2 se2 : Int32) (of2 : Nat → Int32) (hss2 : ss2 ≤ 6) (hgg2 : gg2 ≤ 4) (S0 G0 : Nat) (hS0 : ss = nI S0) (hG0 : gg = nI G0) (hS6 : S0 ≤ 6) (hG4 : G0 ≤ 4) (sz : Nat) : Met l yX5_takeOrders wsX5_takeOrders ({ frames := 2, cells := 0, slots := 0, locals := 48 }) (va_Pc [.ref mm, .ref m2] (cPC dC dI [(mm, .inr (10, [.int he, .int ss, .int gg, .ref la, .int wr, .int tl, .int le, .int fi, .int se, .ref oo, .ref hh])), (oo, .inl (cI, 24, .inl o)), (m2, .inr (10, [.int he2, .int ss2, .int gg2, .ref la2, .int wr2, .int tl2, .int le2, .int fi2, .int se2, .ref o2, .ref hh2])), (o2, .inl (cI, 24, .inl of2))] [(cI, .int)] sz)) (va_Qv (fun (u : Int32 × (Nat → Int32)) => True) (fun (u : Int32 × (Nat → Int32)) t => cQB dC dI [(mm, .inr (10, [.int he, .int ss, .int gg, .ref la, .int wr, .int u.1, .int le, .int fi, .int se, .ref oo, .ref hh])), (oo, .inl (cI, 24, .inl u.2)), (m2, .inr (10, [.int he2, .int ss2, .int gg2, .ref la2, .int wr2, .int tl2, .int le2, .int fi2, .int se2, .ref o2, .ref hh2])), (o2, .inl (cI, 24, .inl of2))] [(cI, .int)] (va_A [(mm, .inr (10, [.int he, .int ss, .int gg, .ref la, .int wr, .int tl, .int le, .int fi, .int se, .ref oo, .ref hh])), (oo, .inl (cI, 24, .inl o)), (m2, .inr (10, [.int he2, .int ss2, .int gg2, .ref la2, .int wr2, .int tl2, .int le2, .int fi2, .int se2, .ref o2, .ref hh2])), (o2, .inl (cI, 24, .inl of2))] sz) t) (va_A [(mm, .inr (10, [.int he, .int ss, .int gg, .ref la, .int wr, .int tl, .int le, .int fi, .int se, .ref oo, .ref hh])), (oo, .inl (cI, 24, .inl o)), (m2, .inr (10, [.int he2, .int ss2, .int gg2, .ref la2, .int wr2, .int tl2, .int le2, .int fi2, .int se2, .ref o2, .ref hh2])), (o2, .inl (cI, 24, .inl of2))] sz)) 0 0 (va_A [(mm, .inr (10, [.int he, .int ss, .int gg, .ref la, .int wr, .int tl, .int le, .int fi, .int se, .ref oo, .ref hh])), (oo, .inl (cI, 24, .inl o)), (m2, .inr (10, [.int he2, .int ss2, .int gg2, .ref la2, .int wr2, .int tl2, .int le2, .int fi2, .int se2, .ref o2, .ref hh2])), (o2, .inl (cI, 24, .inl of2))] sz) := by
  refine Met.ofW (cc := cX5_takeOrders) (maxL := 4) (ret := none) (by decide) rfl ?_
  intro p e s m args below meth c s₁ B hml hv
  obtain ⟨rfl, hsz, hP, hK, hD0, hN⟩ := hv
  have hx := B.exec
  have hb := B.bytes
  have hr := B.returns
  have hts := atoms_spec (ws := wsX5_takeOrders) B.pre
  have hown : s.vm.findClass RX5 = some m.cls := findClass_of_methodNamed B.named
  have hlocks := B.notSynchronized
  subst hsz
  have hD := hD0.self (sz := s.heap.size)
  generalize hAe : va_A [(mm, .inr (10, [.int he, .int ss, .int gg, .ref la, .int wr, .int tl, .int le, .int fi, .int se, .ref oo, .ref hh])), (oo, .inl (cI, 24, .inl o)), (m2, .inr (10, [.int he2, .int ss2, .int gg2, .ref la2, .int wr2, .int tl2, .int le2, .int fi2, .int se2, .ref o2, .ref hh2])), (o2, .inl (cI, 24, .inl of2))] s.heap.size = A at hD ⊢
  have hA : ∀ q : Nat, s.heap.size ≤ q → A q := fun q h => by rw [← hAe]; exact Or.inr h
  have hS : va_S A s.heap s.heap [] := va_S.rf
  have hP : va_P (dC, dI) vwCl [(mm, .inr (10, [.int he, .int ss, .int gg, .ref la, .int wr, .int tl, .int le, .int fi, .int se, .ref oo, .ref hh])), (oo, .inl (cI, 24, .inl o)), (m2, .inr (10, [.int he2, .int ss2, .int gg2, .ref la2, .int wr2, .int tl2, .int le2, .int fi2, .int se2, .ref o2, .ref hh2])), (o2, .inl (cI, 24, .inl of2))] s.heap := hP
  have hD : va_D A [(mm, .inr (10, [.int he, .int ss, .int gg, .ref la, .int wr, .int tl, .int le, .int fi, .int se, .ref oo, .ref hh])), (oo, .inl (cI, 24, .inl o)), (m2, .inr (10, [.int he2, .int ss2, .int gg2, .ref la2, .int wr2, .int tl2, .int le2, .int fi2, .int se2, .ref o2, .ref hh2])), (o2, .inl (cI, 24, .inl of2))] := hD
  have hl := lv_entry ([.ref mm, .ref m2]) (n := 4) (Nat.le_of_ble_eq_true rfl)
  rw [lg_entry_eq]
  generalize (lg_sl ([.ref mm, .ref m2]) ++ List.replicate (4 - (lg_sl ([.ref mm, .ref m2])).length) Slot.unset).toArray = ls at hl ⊢
  have hl : lv_has ls 4 [(0, .ref mm), (1, .ref m2)] := hl
  subst hS0; subst hG0
  have hP : va_P (dC, dI) vwCl [(mm, .inr (10, [.int he, .int (nI S0), .int (nI G0), .ref la, .int wr, .int tl, .int le, .int fi, .int se, .ref oo, .ref hh])), (oo, .inl (cI, 24, .inl o)), (m2, .inr (10, [.int he2, .int ss2, .int gg2, .ref la2, .int wr2, .int tl2, .int le2, .int fi2, .int se2, .ref o2, .ref hh2])), (o2, .inl (cI, 24, .inl of2))] s.heap := hP
  have hD : va_D A [(mm, .inr (10, [.int he, .int (nI S0), .int (nI G0), .ref la, .int wr, .int tl, .int le, .int fi, .int se, .ref oo, .ref hh])), (oo, .inl (cI, 24, .inl o)), (m2, .inr (10, [.int he2, .int ss2, .int gg2, .ref la2, .int wr2, .int tl2, .int le2, .int fi2, .int se2, .ref o2, .ref hh2])), (o2, .inl (cI, 24, .inl of2))] := hD
  have iWX5 : ∀ w ∈ u_ws RX5 TX5 11, w ∈ wsX5_takeOrders := by decide +kernel
  refine lv_iconst (v := 0) hx hb dX5_takeOrders_0 (by decide) ?_
  refine lv_istore_n (lv' := [(2, .int 0), (0, .ref mm), (1, .ref m2)]) hx hb dX5_takeOrders_1 rfl hl (by decide) rfl (fun ls hl => ?_)
  refine lp_go (σ := Nat × Int32 × (Nat → Int32)) (fun x => match x with | (i_2, tl_2, o_2) => i_2 ≤ S0) (fun x => match x with | (i_2, tl_2, o_2) => S0 - i_2) (fun x => [(mm, .inr (10, [.int he, .int (nI S0), .int (nI G0), .ref la, .int wr, .int x.2.1, .int le, .int fi, .int se, .ref oo, .ref hh])), (oo, .inl (cI, 24, .inl x.2.2)), (m2, .inr (10, [.int he2, .int ss2, .int gg2, .ref la2, .int wr2, .int tl2, .int le2, .int fi2, .int se2, .ref o2, .ref hh2])), (o2, .inl (cI, 24, .inl of2))]) (fun x => [(0, .ref mm), (1, .ref m2), (2, .int (nI x.1))]) (fun _ => []) (fun x hI ih2 H locs hP hD hS ls hl => ?_) (0, tl, o) (Nat.zero_le _) (hP.sub [0, 1, 2, 3] rfl) (hD.sub [0, 1, 2, 3] (by decide) rfl) hS (lv_sub hl [1, 2, 0] rfl)
  obtain ⟨i_2, tl_2, o_2⟩ := x
  have hP : va_P (dC, dI) vwCl [(mm, .inr (10, [.int he, .int (nI S0), .int (nI G0), .ref la, .int wr, .int tl_2, .int le, .int fi, .int se, .ref oo, .ref hh])), (oo, .inl (cI, 24, .inl o_2)), (m2, .inr (10, [.int he2, .int ss2, .int gg2, .ref la2, .int wr2, .int tl2, .int le2, .int fi2, .int se2, .ref o2, .ref hh2])), (o2, .inl (cI, 24, .inl of2))] H := hP
  have hD : va_D A [(mm, .inr (10, [.int he, .int (nI S0), .int (nI G0), .ref la, .int wr, .int tl_2, .int le, .int fi, .int se, .ref oo, .ref hh])), (oo, .inl (cI, 24, .inl o_2)), (m2, .inr (10, [.int he2, .int ss2, .int gg2, .ref la2, .int wr2, .int tl2, .int le2, .int fi2, .int se2, .ref o2, .ref hh2])), (o2, .inl (cI, 24, .inl of2))] := hD
  have hl : lv_has ls 4 [(0, .ref mm), (1, .ref m2), (2, .int (nI i_2))] := hl
  try dsimp only at hI
  have ih2 := ih2
  refine lv_iload_n hx hb dX5_takeOrders_2 rfl (lv_at hl 2 rfl) ?_
  refine lv_aload_n hx hb dX5_takeOrders_3 rfl (lv_at hl 0 rfl) ?_
  refine va_get (D := (dC, dI)) (ci := 10) (v := .int (nI S0)) (C := RX5) (T := TX5) (N := 11) hx hb hts iWX5 hown hK hP 0 rfl rfl 1 (by decide) (hts (.fieldLink RX5 46 "Beaverhall$Machine" "states" "I") (by decide +kernel)) (fun _ h9 => h9) rfl dX5_takeOrders_4 ?_
  refine lv_icmp_ge (tgt := 44) hx hb dX5_takeOrders_7 (by decide) (fun c7_1 => ?_) (fun c7_1 => ?_)
  · have hP9 := hP.sub (ws' := [(mm, .inr (10, [.int he, .int (nI S0), .int (nI G0), .ref la, .int wr, .int tl_2, .int le, .int fi, .int se, .ref oo, .ref hh])), (oo, .inl (cI, 24, .inl o_2)), (m2, .inr (10, [.int he2, .int ss2, .int gg2, .ref la2, .int wr2, .int tl2, .int le2, .int fi2, .int se2, .ref o2, .ref hh2])), (o2, .inl (cI, 24, .inl of2))]) [0, 1, 2, 3] rfl
    have hD9 := hD.sub (ws' := [(mm, .inr (10, [.int he, .int (nI S0), .int (nI G0), .ref la, .int wr, .int tl_2, .int le, .int fi, .int se, .ref oo, .ref hh])), (oo, .inl (cI, 24, .inl o_2)), (m2, .inr (10, [.int he2, .int ss2, .int gg2, .ref la2, .int wr2, .int tl2, .int le2, .int fi2, .int se2, .ref o2, .ref hh2])), (o2, .inl (cI, 24, .inl of2))]) [0, 1, 2, 3] (by decide) rfl
    have hK9 := hK.sub (tys' := [(cI, .int)]) [0] rfl
    exact W.vret hx hb hr (fun t ht hW => ⟨⟨(tl_2, o_2), rfl, trivial, ⟨by rw [ht]; exact hP9, va_K.moved hW.alike hK9, hD9⟩⟩, hS.F ht⟩) hS.2.2 dX5_takeOrders_44
  · have hi9 : i_2 < S0 := nI_step (by omega) hI c7_1
    refine lv_iconst (v := 0) hx hb dX5_takeOrders_10 (by decide) ?_
    refine lv_istore_n (lv' := [(3, .int 0), (0, .ref mm), (1, .ref m2), (2, .int (nI i_2))]) hx hb dX5_takeOrders_11 rfl hl (by decide) rfl (fun ls hl => ?_)
    refine lp_go (σ := Nat × Int32 × (Nat → Int32)) (fun x => match x with | (j_12, tl_12, o_12) => j_12 ≤ G0) (fun x => match x with | (j_12, tl_12, o_12) => G0 - j_12) (fun x => [(mm, .inr (10, [.int he, .int (nI S0), .int (nI G0), .ref la, .int wr, .int x.2.1, .int le, .int fi, .int se, .ref oo, .ref hh])), (oo, .inl (cI, 24, .inl x.2.2)), (m2, .inr (10, [.int he2, .int ss2, .int gg2, .ref la2, .int wr2, .int tl2, .int le2, .int fi2, .int se2, .ref o2, .ref hh2])), (o2, .inl (cI, 24, .inl of2))]) (fun x => [(0, .ref mm), (1, .ref m2), (2, .int (nI i_2)), (3, .int (nI x.1))]) (fun _ => []) (fun x hI ih12 H locs hP hD hS ls hl => ?_) (0, tl_2, o_2) (Nat.zero_le _) (hP.sub [0, 1, 2, 3] rfl) (hD.sub [0, 1, 2, 3] (by decide) rfl) hS (lv_sub hl [1, 2, 3, 0] rfl)
    obtain ⟨j_12, tl_12, o_12⟩ := x
    have hP : va_P (dC, dI) vwCl [(mm, .inr (10, [.int he, .int (nI S0), .int (nI G0), .ref la, .int wr, .int tl_12, .int le, .int fi, .int se, .ref oo, .ref hh])), (oo, .inl (cI, 24, .inl o_12)), (m2, .inr (10, [.int he2, .int ss2, .int gg2, .ref la2, .int wr2, .int tl2, .int le2, .int fi2, .int se2, .ref o2, .ref hh2])), (o2, .inl (cI, 24, .inl of2))] H := hP
    have hD : va_D A [(mm, .inr (10, [.int he, .int (nI S0), .int (nI G0), .ref la, .int wr, .int tl_12, .int le, .int fi, .int se, .ref oo, .ref hh])), (oo, .inl (cI, 24, .inl o_12)), (m2, .inr (10, [.int he2, .int ss2, .int gg2, .ref la2, .int wr2, .int tl2, .int le2, .int fi2, .int se2, .ref o2, .ref hh2])), (o2, .inl (cI, 24, .inl of2))] := hD
    have hl : lv_has ls 4 [(0, .ref mm), (1, .ref m2), (2, .int (nI i_2)), (3, .int (nI j_12))] := hl
    try dsimp only at hI
    have ih12 := ih12
    refine lv_iload_n hx hb dX5_takeOrders_12 rfl (lv_at hl 3 rfl) ?_
    refine lv_aload_n hx hb dX5_takeOrders_13 rfl (lv_at hl 0 rfl) ?_
    refine va_get (D := (dC, dI)) (ci := 10) (v := .int (nI G0)) (C := RX5) (T := TX5) (N := 11) hx hb hts iWX5 hown hK hP 0 rfl rfl 2 (by decide) (hts (.fieldLink RX5 49 "Beaverhall$Machine" "signs" "I") (by decide +kernel)) (fun _ h9 => h9) rfl dX5_takeOrders_14 ?_
    refine lv_icmp_ge (tgt := 38) hx hb dX5_takeOrders_17 (by decide) (fun c17_2 => ?_) (fun c17_2 => ?_)
    · obtain ⟨y_3, ey_3⟩ : ∃ y : Int32, y = (nI i_2) + 1 := ⟨_, rfl⟩
      refine lv_iinc (v := y_3) (lv' := [(2, .int y_3), (0, .ref mm), (1, .ref m2), (3, .int (nI j_12))]) hx hb dX5_takeOrders_38 hl (k := 2) rfl (by rw [ey_3]; rfl) (by decide) rfl (fun ls hl => ?_)
      obtain rfl : y_3 = nI (i_2 + 1) := by rw [ey_3]; exact nI_1 _
      refine lv_goto (tgt := 2) hx hb dX5_takeOrders_41 (by decide) ?_
      exact ih2 ((i_2 + 1), tl_12, o_12) hi9 (by show S0 - (i_2 + 1) < S0 - i_2; omega) _ _ (hP.sub [0, 1, 2, 3] rfl) (hD.sub [0, 1, 2, 3] (by decide) rfl) hS ls (lv_sub hl [1, 2, 0] rfl)
    · have hj9 : j_12 < G0 := nI_step (by omega) hI c17_2
      refine lv_aload_n hx hb dX5_takeOrders_20 rfl (lv_at hl 0 rfl) ?_
      refine lv_iload_n hx hb dX5_takeOrders_21 rfl (lv_at hl 2 rfl) ?_
      refine lv_iload_n hx hb dX5_takeOrders_22 rfl (lv_at hl 3 rfl) ?_
      refine lv_aload_n hx hb dX5_takeOrders_23 rfl (lv_at hl 1 rfl) ?_
      refine lv_iload_n hx hb dX5_takeOrders_24 rfl (lv_at hl 2 rfl) ?_
      refine lv_iload_n hx hb dX5_takeOrders_25 rfl (lv_at hl 3 rfl) ?_
      have hPc := hP.sub (ws' := [(m2, .inr (10, [.int he2, .int ss2, .int gg2, .ref la2, .int wr2, .int tl2, .int le2, .int fi2, .int se2, .ref o2, .ref hh2])), (o2, .inl (cI, 24, .inl of2))]) [2, 3] rfl
      have hDc := hD.sub (ws' := [(m2, .inr (10, [.int he2, .int ss2, .int gg2, .ref la2, .int wr2, .int tl2, .int le2, .int fi2, .int se2, .ref o2, .ref hh2])), (o2, .inl (cI, 24, .inl of2))]) [2, 3] (by decide) rfl
      have hKc := hK.sub (tys' := [(cI, .int)]) [0] rfl
      have hFc := va_free (wc := [(m2, .inr (10, [.int he2, .int ss2, .int gg2, .ref la2, .int wr2, .int tl2, .int le2, .int fi2, .int se2, .ref o2, .ref hh2])), (o2, .inl (cI, 24, .inl of2))]) hD hS hA [2, 3] rfl
      refine va_calli (va_runV (As := [.int (nI i_2), .int (nI j_12)]) (rest := [.int (nI j_12), .int (nI i_2), .ref mm]) ⟨hx, hb, hml, hown, hts⟩ (c_X5_orderFor l dC dI cI m2 o2 la2 hh2 he2 ss2 gg2 wr2 tl2 le2 fi2 se2 of2 hss2 hgg2 (nI i_2) (nI j_12) H.size) (cwV 2 hts gX5_takeOrders_X5_orderFor rfl rfl rfl (by decide +kernel) ⟨Nat.le_of_ble_eq_true rfl, Nat.le_of_ble_eq_true rfl⟩) (pcV hPc hDc hKc hN (ci := 10) (q0 := 0) rfl rfl) rfl rfl hl.1 rfl (lv_room (Nat.le_of_ble_eq_true rfl)) dX5_takeOrders_26 ⟨Nat.le_of_ble_eq_true rfl, Nat.le_of_ble_eq_true rfl⟩) hS (fun q _ h => hFc q h) hFc (fun r_4 u t H1 locs ht hvm hw_5 hB hz1 hk1 hS => ?_)
      obtain ⟨hP1, hK1, hD1⟩ := hB
      rw [ht] at hP1
      try dsimp only at hw_5
      obtain ⟨hP, hD⟩ := va_join (wr := [(mm, .inr (10, [.int he, .int (nI S0), .int (nI G0), .ref la, .int wr, .int tl_12, .int le, .int fi, .int se, .ref oo, .ref hh])), (oo, .inl (cI, 24, .inl o_12))]) (w1 := [(m2, .inr (10, [.int he2, .int ss2, .int gg2, .ref la2, .int wr2, .int tl2, .int le2, .int fi2, .int se2, .ref o2, .ref hh2])), (o2, .inl (cI, 24, .inl of2))]) hP hD [2, 3] [0, 1] rfl rfl (by decide) (by decide) hk1 hFc hP1 hD1
      generalize H1 = H at hP hS ⊢
      have hP : va_P (dC, dI) vwCl [(mm, .inr (10, [.int he, .int (nI S0), .int (nI G0), .ref la, .int wr, .int tl_12, .int le, .int fi, .int se, .ref oo, .ref hh])), (oo, .inl (cI, 24, .inl o_12)), (m2, .inr (10, [.int he2, .int ss2, .int gg2, .ref la2, .int wr2, .int tl2, .int le2, .int fi2, .int se2, .ref o2, .ref hh2])), (o2, .inl (cI, 24, .inl of2))] H := hP
      have hD : va_D A [(mm, .inr (10, [.int he, .int (nI S0), .int (nI G0), .ref la, .int wr, .int tl_12, .int le, .int fi, .int se, .ref oo, .ref hh])), (oo, .inl (cI, 24, .inl o_12)), (m2, .inr (10, [.int he2, .int ss2, .int gg2, .ref la2, .int wr2, .int tl2, .int le2, .int fi2, .int se2, .ref o2, .ref hh2])), (o2, .inl (cI, 24, .inl of2))] := hD
      have hPc := hP.sub (ws' := [(mm, .inr (10, [.int he, .int (nI S0), .int (nI G0), .ref la, .int wr, .int tl_12, .int le, .int fi, .int se, .ref oo, .ref hh])), (oo, .inl (cI, 24, .inl o_12))]) [0, 1] rfl
      have hDc := hD.sub (ws' := [(mm, .inr (10, [.int he, .int (nI S0), .int (nI G0), .ref la, .int wr, .int tl_12, .int le, .int fi, .int se, .ref oo, .ref hh])), (oo, .inl (cI, 24, .inl o_12))]) [0, 1] (by decide) rfl
      have hKc := hK.sub (tys' := [(cI, .int)]) [0] rfl
      have hFc := va_free (wc := [(mm, .inr (10, [.int he, .int (nI S0), .int (nI G0), .ref la, .int wr, .int tl_12, .int le, .int fi, .int se, .ref oo, .ref hh])), (oo, .inl (cI, 24, .inl o_12))]) hD hS hA [0, 1] rfl
      refine va_callv (va_runV (As := [.int (nI i_2), .int (nI j_12), .int r_4]) (rest := []) ⟨hx, hb, hml, hown, hts⟩ (c_X5_setOrder l dC dI cI mm oo la hh he (nI S0) (nI G0) wr tl_12 le fi se o_12 hss hgg (nI i_2) (nI j_12) r_4 H.size) (cwV 3 hts gX5_takeOrders_X5_setOrder rfl rfl rfl (by decide +kernel) ⟨Nat.le_of_ble_eq_true rfl, Nat.le_of_ble_eq_true rfl⟩) (pcV hPc hDc hKc hN (ci := 10) (q0 := 0) rfl rfl) rfl rfl hl.1 rfl (lv_room (Nat.le_of_ble_eq_true rfl)) dX5_takeOrders_29 ⟨Nat.le_of_ble_eq_true rfl, Nat.le_of_ble_eq_true rfl⟩) hS (fun q _ h => hFc q h) hFc (fun u t H1 locs ht hvm hw_8 hB hz1 hk1 hS => ?_)
      obtain ⟨tl_6, o_7⟩ := u
      obtain ⟨hP1, hK1, hD1⟩ := hB
      rw [ht] at hP1
      try dsimp only at hw_8
      obtain ⟨hP, hD⟩ := va_join (wr := [(m2, .inr (10, [.int he2, .int ss2, .int gg2, .ref la2, .int wr2, .int tl2, .int le2, .int fi2, .int se2, .ref o2, .ref hh2])), (o2, .inl (cI, 24, .inl of2))]) (w1 := [(mm, .inr (10, [.int he, .int (nI S0), .int (nI G0), .ref la, .int wr, .int tl_6, .int le, .int fi, .int se, .ref oo, .ref hh])), (oo, .inl (cI, 24, .inl o_7))]) hP hD [0, 1] [2, 3] rfl rfl (by decide) (by decide) hk1 hFc hP1 hD1
      generalize H1 = H at hP hS ⊢
      have hP : va_P (dC, dI) vwCl [(m2, .inr (10, [.int he2, .int ss2, .int gg2, .ref la2, .int wr2, .int tl2, .int le2, .int fi2, .int se2, .ref o2, .ref hh2])), (o2, .inl (cI, 24, .inl of2)), (mm, .inr (10, [.int he, .int (nI S0), .int (nI G0), .ref la, .int wr, .int tl_6, .int le, .int fi, .int se, .ref oo, .ref hh])), (oo, .inl (cI, 24, .inl o_7))] H := hP
      have hD : va_D A [(m2, .inr (10, [.int he2, .int ss2, .int gg2, .ref la2, .int wr2, .int tl2, .int le2, .int fi2, .int se2, .ref o2, .ref hh2])), (o2, .inl (cI, 24, .inl of2)), (mm, .inr (10, [.int he, .int (nI S0), .int (nI G0), .ref la, .int wr, .int tl_6, .int le, .int fi, .int se, .ref oo, .ref hh])), (oo, .inl (cI, 24, .inl o_7))] := hD
      obtain ⟨y_9, ey_9⟩ : ∃ y : Int32, y = (nI j_12) + 1 := ⟨_, rfl⟩
      refine lv_iinc (v := y_9) (lv' := [(3, .int y_9), (0, .ref mm), (1, .ref m2), (2, .int (nI i_2))]) hx hb dX5_takeOrders_32 hl (k := 3) rfl (by rw [ey_9]; rfl) (by decide) rfl (fun ls hl => ?_)
      obtain rfl : y_9 = nI (j_12 + 1) := by rw [ey_9]; exact nI_1 _
      refine lv_goto (tgt := 12) hx hb dX5_takeOrders_35 (by decide) ?_
      exact ih12 ((j_12 + 1), tl_6, o_7) hj9 (by show G0 - (j_12 + 1) < G0 - j_12; omega) _ _ (hP.sub [2, 3, 0, 1] rfl) (hD.sub [2, 3, 0, 1] (by decide) rfl) hS ls (lv_sub hl [1, 2, 3, 0] rfl)
