theorem dX15_isListing_0 : decode cX15_isListing 0 = .ok (.iload_n 0, 1) := by decide +kernel
theorem dX15_isListing_1 : decode cX15_isListing 1 = .ok (.i2l, 1) := by decide +kernel
theorem dX15_isListing_2 : decode cX15_isListing 2 = .ok (.lconst 1, 1) := by decide +kernel
theorem dX15_isListing_3 : decode cX15_isListing 3 = .ok (.ldc2_w 217, 3) := by decide +kernel
set_option maxRecDepth 20000 in
theorem ggX15_isListing_X15_in : GoodIn wsX15_isListing wsX15_in := goodIn_r _ [6] rfl (by decide +kernel)
set_option maxRecDepth 20000 in
theorem gX15_isListing_X15_in : GoodIn wsX15_isListing (va_wsS RX15 170 yX15_in wsX15_in) := goodIn_app (goodIn_of _ (by decide +kernel)) ggX15_isListing_X15_in
theorem dX15_isListing_6 : decode cX15_isListing 6 = .ok (.invokestatic 170, 3) := by decide +kernel
theorem dX15_isListing_9 : decode cX15_isListing 9 = .ok (.ifCond .eq 19, 3) := by decide +kernel
theorem dX15_isListing_28 : decode cX15_isListing 28 = .ok (.iconst 0, 1) := by decide +kernel
theorem dX15_isListing_29 : decode cX15_isListing 29 = .ok (.ireturn, 1) := by decide +kernel
theorem dX15_isListing_12 : decode cX15_isListing 12 = .ok (.iload_n 1, 1) := by decide +kernel
theorem dX15_isListing_13 : decode cX15_isListing 13 = .ok (.i2l, 1) := by decide +kernel
theorem dX15_isListing_14 : decode cX15_isListing 14 = .ok (.lconst 1, 1) := by decide +kernel
theorem dX15_isListing_15 : decode cX15_isListing 15 = .ok (.ldc2_w 326, 3) := by decide +kernel
theorem dX15_isListing_18 : decode cX15_isListing 18 = .ok (.invokestatic 170, 3) := by decide +kernel
theorem dX15_isListing_21 : decode cX15_isListing 21 = .ok (.ifCond .eq 7, 3) := by decide +kernel
theorem dX15_isListing_24 : decode cX15_isListing 24 = .ok (.iconst 1, 1) := by decide +kernel
theorem dX15_isListing_25 : decode cX15_isListing 25 = .ok (.goto 4, 3) := by decide +kernel
theorem dX15_listed_0 : decode cX15_listed 0 = .ok (.aload_n 0, 1) := by decide +kernel
theorem dX15_listed_1 : decode cX15_listed 1 = .ok (.iload_n 1, 1) := by decide +kernel
theorem dX15_listed_2 : decode cX15_listed 2 = .ok (.iload_n 2, 1) := by decide +kernel
set_option maxRecDepth 20000 in
theorem ggX15_listed_X15_isListing : GoodIn wsX15_listed wsX15_isListing := goodIn_r _ [10, 11, 12, 13, 14, 9, 15] rfl (by decide +kernel)
set_option maxRecDepth 20000 in
theorem gX15_listed_X15_isListing : GoodIn wsX15_listed (va_wsS RX15 328 yX15_isListing wsX15_isListing) := goodIn_app (goodIn_of _ (by decide +kernel)) ggX15_listed_X15_isListing
theorem dX15_listed_3 : decode cX15_listed 3 = .ok (.invokestatic 328, 3) := by decide +kernel
theorem dX15_listed_6 : decode cX15_listed 6 = .ok (.ifCond .eq 13, 3) := by decide +kernel
theorem dX15_listed_19 : decode cX15_listed 19 = .ok (.iconst 1, 1) := by decide +kernel
theorem dX15_listed_20 : decode cX15_listed 20 = .ok (.goto 4, 3) := by decide +kernel
theorem dX15_listed_24 : decode cX15_listed 24 = .ok (.putfield 209, 3) := by decide +kernel
theorem dX15_listed_27 : decode cX15_listed 27 = .ok (.aload_n 0, 1) := by decide +kernel
theorem dX15_listed_28 : decode cX15_listed 28 = .ok (.getfield 209, 3) := by decide +kernel
theorem dX15_listed_31 : decode cX15_listed 31 = .ok (.ifCond .le 5, 3) := by decide +kernel
theorem dX15_listed_34 : decode cX15_listed 34 = .ok (.iconst 0, 1) := by decide +kernel
theorem dX15_listed_35 : decode cX15_listed 35 = .ok (.ireturn, 1) := by decide +kernel
theorem dX15_listed_9 : decode cX15_listed 9 = .ok (.ldc_w 331, 3) := by decide +kernel
theorem dX15_listed_12 : decode cX15_listed 12 = .ok (.iload_n 3, 1) := by decide +kernel
set_option maxRecDepth 20000 in
theorem ggX15_listed_J0_indexOf_0f7a4 : GoodIn wsX15_listed wsJ0_indexOf_0f7a4 := goodIn_r _ [20, 21, 22, 23, 19, 24, 25, 26, 27, 28, 29, 30, 31, 32, 33, 34, 35, 36, 37, 38, 39, 40, 41, 42, 43, 44, 45, 46, 47, 48, 49, 50, 51, 52, 53, 54, 55, 56, 57, 58, 59, 60, 61, 62, 63, 64, 65, 66, 67, 68, 69, 70, 71, 72, 73, 74, 75, 76, 77, 78, 79, 80, 81, 82, 83, 84, 85, 86, 87, 88, 89, 90, 91, 92, 93, 94, 95, 96, 97, 98, 99, 100, 101, 102, 103, 104, 257, 258, 259, 260] rfl (by decide +kernel)
set_option maxRecDepth 20000 in
theorem gX15_listed_J0_indexOf_0f7a4 : GoodIn wsX15_listed (wsV RX15 265 RJ0 yJ0_indexOf_0f7a4 wsJ0_indexOf_0f7a4) := goodIn_app (goodIn_of _ (by decide +kernel)) ggX15_listed_J0_indexOf_0f7a4
theorem dX15_listed_13 : decode cX15_listed 13 = .ok (.invokevirtual 265, 3) := by decide +kernel
theorem dX15_listed_16 : decode cX15_listed 16 = .ok (.ifCond .ge 7, 3) := by decide +kernel
theorem dX15_listed_23 : decode cX15_listed 23 = .ok (.iconst 0, 1) := by decide +kernel
theorem dX15_listed_36 : decode cX15_listed 36 = .ok (.aload_n 0, 1) := by decide +kernel
theorem dX15_listed_37 : decode cX15_listed 37 = .ok (.iload_n 1, 1) := by decide +kernel
theorem dX15_listed_38 : decode cX15_listed 38 = .ok (.iload_n 2, 1) := by decide +kernel
set_option maxRecDepth 20000 in
theorem ggX15_listed_X15_listAll : GoodIn wsX15_listed wsX15_listAll := goodIn_ca (goodIn_ca (goodIn_r _ [108, 2, 3, 4, 5, 6, 109, 110, 111, 112, 113, 114, 115, 116, 117, 118, 119, 120, 121, 122, 123, 124, 125, 126, 127, 128, 129, 130, 131, 9, 132, 133, 134, 135, 136, 45, 46, 47, 137, 49, 50, 138, 139, 140, 141, 142, 143, 144, 145, 146, 147, 148, 149, 150, 151, 152, 153, 154, 155, 156, 157, 158, 159, 160, 161, 162, 163, 164, 165, 166, 167, 168, 169, 170, 171, 172, 173, 174, 175, 176, 177, 178, 179, 180, 181, 182, 183, 184, 185, 186, 187, 188, 189, 190, 191, 192, 193, 194, 195, 196, 197, 198, 199, 200, 201, 202, 203, 204, 205, 206, 207, 208, 209, 210, 211, 212, 213, 214, 215, 216, 217, 218, 219, 220, 221, 222, 223, 224, 225, 226, 227, 228, 229, 230, 231, 232, 233, 234, 235, 236, 237, 238, 239, 240, 241, 242, 243, 244, 245, 246, 247, 248, 249, 250, 251, 252, 253, 254, 255, 256, 261, 262, 263, 264, 265, 266, 267, 268, 269, 270, 271, 272, 273, 274, 275, 276, 277, 278, 279, 280, 281] rfl (by decide +kernel)) (goodIn_sub (fun _ h => List.mem_cons_of_mem _ (List.mem_append_left _ (List.mem_append_right _ h))) (by decide +kernel))) (goodIn_sub (fun _ h => List.mem_cons_of_mem _ (List.mem_append_right _ h)) (by decide +kernel))
set_option maxRecDepth 20000 in
theorem gX15_listed_X15_listAll : GoodIn wsX15_listed (wsV RX15 333 RX15 yX15_listAll wsX15_listAll) := goodIn_app (goodIn_of _ (by decide +kernel)) ggX15_listed_X15_listAll
theorem dX15_listed_39 : decode cX15_listed 39 = .ok (.invokevirtual 333, 3) := by decide +kernel
theorem dX15_listed_42 : decode cX15_listed 42 = .ok (.iload_n 3, 1) := by decide +kernel
theorem dX15_listed_43 : decode cX15_listed 43 = .ok (.bipush 104, 2) := by decide +kernel
theorem dX15_listed_45 : decode cX15_listed 45 = .ok (.if_icmp .ne 10, 3) := by decide +kernel
theorem dX15_listed_55 : decode cX15_listed 55 = .ok (.iload_n 3, 1) := by decide +kernel
theorem dX15_listed_56 : decode cX15_listed 56 = .ok (.bipush 110, 2) := by decide +kernel
theorem dX15_listed_58 : decode cX15_listed 58 = .ok (.if_icmp .ne 10, 3) := by decide +kernel
theorem dX15_listed_68 : decode cX15_listed 68 = .ok (.iload_n 3, 1) := by decide +kernel
theorem dX15_listed_69 : decode cX15_listed 69 = .ok (.bipush 111, 2) := by decide +kernel
theorem dX15_listed_71 : decode cX15_listed 71 = .ok (.if_icmp .ne 10, 3) := by decide +kernel
theorem dX15_listed_81 : decode cX15_listed 81 = .ok (.iload_n 3, 1) := by decide +kernel
theorem dX15_listed_82 : decode cX15_listed 82 = .ok (.bipush 115, 2) := by decide +kernel
theorem dX15_listed_84 : decode cX15_listed 84 = .ok (.if_icmp .ne 10, 3) := by decide +kernel
theorem dX15_listed_94 : decode cX15_listed 94 = .ok (.aload_n 0, 1) := by decide +kernel
theorem dX15_listed_95 : decode cX15_listed 95 = .ok (.getfield 310, 3) := by decide +kernel
theorem dX15_listed_98 : decode cX15_listed 98 = .ok (.ireturn, 1) := by decide +kernel
theorem dX15_listed_87 : decode cX15_listed 87 = .ok (.aload_n 0, 1) := by decide +kernel
theorem dX15_listed_88 : decode cX15_listed 88 = .ok (.getfield 317, 3) := by decide +kernel
theorem dX15_listed_91 : decode cX15_listed 91 = .ok (.goto 7, 3) := by decide +kernel
theorem dX15_listed_74 : decode cX15_listed 74 = .ok (.aload_n 0, 1) := by decide +kernel
theorem dX15_listed_75 : decode cX15_listed 75 = .ok (.getfield 304, 3) := by decide +kernel
theorem dX15_listed_78 : decode cX15_listed 78 = .ok (.goto 20, 3) := by decide +kernel
theorem dX15_listed_61 : decode cX15_listed 61 = .ok (.aload_n 0, 1) := by decide +kernel
theorem dX15_listed_62 : decode cX15_listed 62 = .ok (.getfield 301, 3) := by decide +kernel
theorem dX15_listed_65 : decode cX15_listed 65 = .ok (.goto 33, 3) := by decide +kernel
theorem dX15_listed_48 : decode cX15_listed 48 = .ok (.aload_n 0, 1) := by decide +kernel
theorem dX15_listed_49 : decode cX15_listed 49 = .ok (.getfield 307, 3) := by decide +kernel
theorem dX15_listed_52 : decode cX15_listed 52 = .ok (.goto 46, 3) := by decide +kernel
theorem dX15_champion_0 : decode cX15_champion 0 = .ok (.aload_n 0, 1) := by decide +kernel
theorem dX15_champion_1 : decode cX15_champion 1 = .ok (.iload_n 1, 1) := by decide +kernel
theorem dX15_champion_2 : decode cX15_champion 2 = .ok (.iload_n 2, 1) := by decide +kernel
set_option maxRecDepth 20000 in
theorem ggX15_champion_X15_isListing : GoodIn wsX15_champion wsX15_isListing := goodIn_r _ [7, 8, 9, 10, 11, 6, 12] rfl (by decide +kernel)
set_option maxRecDepth 20000 in
theorem gX15_champion_X15_isListing : GoodIn wsX15_champion (va_wsS RX15 328 yX15_isListing wsX15_isListing) := goodIn_app (goodIn_of _ (by decide +kernel)) ggX15_champion_X15_isListing
theorem dX15_champion_3 : decode cX15_champion 3 = .ok (.invokestatic 328, 3) := by decide +kernel
theorem dX15_champion_6 : decode cX15_champion 6 = .ok (.ifCond .ne 7, 3) := by decide +kernel
theorem dX15_champion_13 : decode cX15_champion 13 = .ok (.aload_n 0, 1) := by decide +kernel
theorem dX15_champion_14 : decode cX15_champion 14 = .ok (.getfield 181, 3) := by decide +kernel
set_option maxRecDepth 20000 in
theorem ggX15_champion_Jx4a65c_size_8abf5 : GoodIn wsX15_champion wsJx4a65c_size_8abf5 := goodIn_r _ [17, 18, 229, 230, 231] rfl (by decide +kernel)
set_option maxRecDepth 20000 in
theorem gX15_champion_Jx4a65c_size_8abf5 : GoodIn wsX15_champion (wsV RX15 212 RJx4a65c yJx4a65c_size_8abf5 wsJx4a65c_size_8abf5) := goodIn_app (goodIn_of _ (by decide +kernel)) ggX15_champion_Jx4a65c_size_8abf5
theorem dX15_champion_17 : decode cX15_champion 17 = .ok (.invokevirtual 212, 3) := by decide +kernel
theorem dX15_champion_20 : decode cX15_champion 20 = .ok (.bipush 16, 2) := by decide +kernel
theorem dX15_champion_22 : decode cX15_champion 22 = .ok (.if_icmp .ne 7, 3) := by decide +kernel
theorem dX15_champion_29 : decode cX15_champion 29 = .ok (.iconst 0, 1) := by decide +kernel
theorem dX15_champion_30 : decode cX15_champion 30 = .ok (.putfield 209, 3) := by decide +kernel
theorem dX15_champion_33 : decode cX15_champion 33 = .ok (.aload_n 0, 1) := by decide +kernel
theorem dX15_champion_34 : decode cX15_champion 34 = .ok (.getfield 209, 3) := by decide +kernel
theorem dX15_champion_37 : decode cX15_champion 37 = .ok (.ifCond .le 5, 3) := by decide +kernel
theorem dX15_champion_42 : decode cX15_champion 42 = .ok (.aload_n 0, 1) := by decide +kernel
theorem dX15_champion_43 : decode cX15_champion 43 = .ok (.iload_n 1, 1) := by decide +kernel
theorem dX15_champion_44 : decode cX15_champion 44 = .ok (.iload_n 2, 1) := by decide +kernel
set_option maxRecDepth 20000 in
theorem ggX15_champion_X15_listAll : GoodIn wsX15_champion wsX15_listAll := goodIn_ca (goodIn_ca (goodIn_r _ [22, 23, 24, 25, 26, 27, 3, 28, 29, 30, 31, 32, 33, 34, 35, 36, 37, 38, 39, 40, 41, 42, 43, 44, 45, 46, 47, 48, 49, 6, 50, 51, 52, 53, 54, 55, 56, 57, 58, 59, 60, 61, 62, 63, 64, 65, 66, 67, 68, 69, 70, 71, 72, 73, 74, 75, 76, 77, 78, 79, 80, 81, 82, 83, 84, 85, 86, 87, 88, 89, 90, 91, 92, 93, 94, 95, 96, 97, 98, 99, 100, 101, 102, 103, 104, 105, 106, 107, 108, 109, 110, 111, 112, 113, 114, 115, 116, 117, 118, 119, 120, 121, 122, 123, 124, 125, 126, 127, 128, 129, 130, 131, 132, 133, 134, 135, 136, 137, 138, 139, 140, 141, 142, 143, 144, 145, 146, 147, 148, 149, 150, 151, 152, 153, 154, 155, 156, 157, 158, 208, 209, 210, 211, 212, 213, 214, 215, 216, 217, 218, 219, 220, 221, 222, 223, 224, 225, 226, 227, 228, 232, 233, 234, 235, 236, 237, 238, 239, 240, 241, 242, 243, 244, 245, 246, 247, 248, 249, 250, 251, 252] rfl (by decide +kernel)) (goodIn_sub (fun _ h => List.mem_cons_of_mem _ (List.mem_append_left _ (List.mem_append_right _ h))) (by decide +kernel))) (goodIn_sub (fun _ h => List.mem_cons_of_mem _ (List.mem_append_right _ h)) (by decide +kernel))
set_option maxRecDepth 20000 in
theorem gX15_champion_X15_listAll : GoodIn wsX15_champion (wsV RX15 333 RX15 yX15_listAll wsX15_listAll) := goodIn_app (goodIn_of _ (by decide +kernel)) ggX15_champion_X15_listAll
theorem dX15_champion_45 : decode cX15_champion 45 = .ok (.invokevirtual 333, 3) := by decide +kernel
theorem dX15_champion_48 : decode cX15_champion 48 = .ok (.aload_n 0, 1) := by decide +kernel
theorem dX15_champion_49 : decode cX15_champion 49 = .ok (.getfield 181, 3) := by decide +kernel
theorem dX15_champion_52 : decode cX15_champion 52 = .ok (.aload_n 0, 1) := by decide +kernel
theorem dX15_champion_53 : decode cX15_champion 53 = .ok (.getfield 313, 3) := by decide +kernel
set_option maxRecDepth 20000 in
theorem ggX15_champion_Jx4a65c_add_9ea2d : GoodIn wsX15_champion wsJx4a65c_add_9ea2d := goodIn_r _ [162, 163, 164, 165, 18, 166, 167, 168, 16, 169, 170, 171, 172, 173, 174, 175, 176, 177, 178, 179, 55, 56, 57, 180, 181, 182, 183, 184, 185, 186, 187, 188, 189, 190, 191, 192, 193, 194, 195, 196, 197, 198, 199, 200, 201, 202, 203, 59, 60, 204, 205, 206, 207, 229, 230, 231] rfl (by decide +kernel)
set_option maxRecDepth 20000 in
theorem gX15_champion_Jx4a65c_add_9ea2d : GoodIn wsX15_champion (wsV RX15 224 RJx4a65c yJx4a65c_add_9ea2d wsJx4a65c_add_9ea2d) := goodIn_app (goodIn_of _ (by decide +kernel)) ggX15_champion_Jx4a65c_add_9ea2d
theorem dX15_champion_56 : decode cX15_champion 56 = .ok (.invokevirtual 224, 3) := by decide +kernel
theorem dX15_champion_59 : decode cX15_champion 59 = .ok (.pop, 1) := by decide +kernel
theorem dX15_champion_60 : decode cX15_champion 60 = .ok (.aload_n 0, 1) := by decide +kernel
theorem dX15_champion_61 : decode cX15_champion 61 = .ok (.getfield 181, 3) := by decide +kernel
theorem dX15_champion_64 : decode cX15_champion 64 = .ok (.invokevirtual 212, 3) := by decide +kernel
theorem dX15_champion_67 : decode cX15_champion 67 = .ok (.iconst 1, 1) := by decide +kernel
theorem dX15_champion_68 : decode cX15_champion 68 = .ok (.isub, 1) := by decide +kernel
theorem dX15_champion_69 : decode cX15_champion 69 = .ok (.ireturn, 1) := by decide +kernel
theorem dX15_champion_9 : decode cX15_champion 9 = .ok (.iconst 1, 1) := by decide +kernel
theorem dX15_champion_10 : decode cX15_champion 10 = .ok (.goto 20, 3) := by decide +kernel
theorem dX15_champion_40 : decode cX15_champion 40 = .ok (.iconst 0, 1) := by decide +kernel
theorem dX15_champion_41 : decode cX15_champion 41 = .ok (.ireturn, 1) := by decide +kernel
theorem dX15_init_0 : decode cX15_init 0 = .ok (.aload_n 0, 1) := by decide +kernel
theorem dX15_init_1 : decode cX15_init 1 = .ok (.invokespecial 174, 3) := by decide +kernel
theorem dX15_init_4 : decode cX15_init 4 = .ok (.aload_n 0, 1) := by decide +kernel
theorem dX15_init_5 : decode cX15_init 5 = .ok (.bipush 19, 2) := by decide +kernel
theorem dX15_init_7 : decode cX15_init 7 = .ok (.newarray .int, 2) := by decide +kernel
theorem dX15_init_9 : decode cX15_init 9 = .ok (.putfield 88, 3) := by decide +kernel
theorem dX15_init_12 : decode cX15_init 12 = .ok (.aload_n 0, 1) := by decide +kernel
theorem dX15_init_13 : decode cX15_init 13 = .ok (.new 178, 3) := by decide +kernel
theorem dX15_init_16 : decode cX15_init 16 = .ok (.dup, 1) := by decide +kernel
set_option maxRecDepth 20000 in
theorem ggX15_init_Jx4a65c_init_da8c8 : GoodIn wsX15_init wsJx4a65c_init_da8c8 := goodIn_r _ [19, 20, 21, 22, 23, 24, 25, 26, 27, 28, 29, 30, 31, 2, 3, 53, 54, 55] rfl (by decide +kernel)
set_option maxRecDepth 20000 in
theorem gX15_init_Jx4a65c_init_da8c8 : GoodIn wsX15_init (wsJx4a65c_init_da8c8) := ggX15_init_Jx4a65c_init_da8c8
theorem dX15_init_17 : decode cX15_init 17 = .ok (.invokespecial 180, 3) := by decide +kernel
theorem dX15_init_20 : decode cX15_init 20 = .ok (.putfield 181, 3) := by decide +kernel
theorem dX15_init_23 : decode cX15_init 23 = .ok (.aload_n 0, 1) := by decide +kernel
theorem dX15_init_24 : decode cX15_init 24 = .ok (.new 178, 3) := by decide +kernel
theorem dX15_init_27 : decode cX15_init 27 = .ok (.dup, 1) := by decide +kernel
theorem dX15_init_28 : decode cX15_init 28 = .ok (.invokespecial 180, 3) := by decide +kernel
theorem dX15_init_31 : decode cX15_init 31 = .ok (.putfield 185, 3) := by decide +kernel
theorem dX15_init_34 : decode cX15_init 34 = .ok (.aload_n 0, 1) := by decide +kernel
theorem dX15_init_35 : decode cX15_init 35 = .ok (.iconst 4, 1) := by decide +kernel
theorem dX15_init_36 : decode cX15_init 36 = .ok (.newarray .int, 2) := by decide +kernel
theorem dX15_init_38 : decode cX15_init 38 = .ok (.putfield 188, 3) := by decide +kernel
theorem dX15_init_41 : decode cX15_init 41 = .ok (.aload_n 0, 1) := by decide +kernel
theorem dX15_init_42 : decode cX15_init 42 = .ok (.iconst 4, 1) := by decide +kernel
theorem dX15_init_43 : decode cX15_init 43 = .ok (.anewarray 191, 3) := by decide +kernel
theorem dX15_init_46 : decode cX15_init 46 = .ok (.dup, 1) := by decide +kernel
theorem dX15_init_47 : decode cX15_init 47 = .ok (.iconst 0, 1) := by decide +kernel
theorem dX15_init_48 : decode cX15_init 48 = .ok (.ldc 193, 2) := by decide +kernel
theorem dX15_init_50 : decode cX15_init 50 = .ok (.aastore, 1) := by decide +kernel
theorem dX15_init_51 : decode cX15_init 51 = .ok (.dup, 1) := by decide +kernel
theorem dX15_init_52 : decode cX15_init 52 = .ok (.iconst 1, 1) := by decide +kernel
theorem dX15_init_53 : decode cX15_init 53 = .ok (.ldc 193, 2) := by decide +kernel
theorem dX15_init_55 : decode cX15_init 55 = .ok (.aastore, 1) := by decide +kernel
theorem dX15_init_56 : decode cX15_init 56 = .ok (.dup, 1) := by decide +kernel
theorem dX15_init_57 : decode cX15_init 57 = .ok (.iconst 2, 1) := by decide +kernel
theorem dX15_init_58 : decode cX15_init 58 = .ok (.ldc 193, 2) := by decide +kernel
theorem dX15_init_60 : decode cX15_init 60 = .ok (.aastore, 1) := by decide +kernel
theorem dX15_init_61 : decode cX15_init 61 = .ok (.dup, 1) := by decide +kernel
theorem dX15_init_62 : decode cX15_init 62 = .ok (.iconst 3, 1) := by decide +kernel
theorem dX15_init_63 : decode cX15_init 63 = .ok (.ldc 193, 2) := by decide +kernel
theorem dX15_init_65 : decode cX15_init 65 = .ok (.aastore, 1) := by decide +kernel
theorem dX15_init_66 : decode cX15_init 66 = .ok (.putfield 195, 3) := by decide +kernel
theorem dX15_init_69 : decode cX15_init 69 = .ok (.aload_n 0, 1) := by decide +kernel
theorem dX15_init_70 : decode cX15_init 70 = .ok (.ldc 193, 2) := by decide +kernel
theorem dX15_init_72 : decode cX15_init 72 = .ok (.putfield 199, 3) := by decide +kernel
theorem dX15_init_75 : decode cX15_init 75 = .ok (.aload_n 0, 1) := by decide +kernel
theorem dX15_init_76 : decode cX15_init 76 = .ok (.ldc 193, 2) := by decide +kernel
theorem dX15_init_78 : decode cX15_init 78 = .ok (.putfield 203, 3) := by decide +kernel
theorem dX15_init_81 : decode cX15_init 81 = .ok (.aload_n 0, 1) := by decide +kernel
theorem dX15_init_82 : decode cX15_init 82 = .ok (.new 178, 3) := by decide +kernel
theorem dX15_init_85 : decode cX15_init 85 = .ok (.dup, 1) := by decide +kernel
theorem dX15_init_86 : decode cX15_init 86 = .ok (.invokespecial 180, 3) := by decide +kernel
theorem dX15_init_89 : decode cX15_init 89 = .ok (.putfield 206, 3) := by decide +kernel
theorem dX15_init_92 : decode cX15_init 92 = .ok (.return_, 1) := by decide +kernel
/-- what a listing answers -/
def lsAns (c : Cnt) (w : Int32) : Int32 := if w = 104 then c.1 else if w = 110 then c.2.1 else if w = 111 then c.2.2.1 else if w = 115 then c.2.2.2.1 else c.2.2.2.2
theorem lst_nums {s k : Int32} (h : pListing s k) : (s = nI 1 ∨ s = nI 2) ∧ ∃ j, 1 ≤ j ∧ j ≤ 100 ∧ k = nI j := by
  obtain ⟨⟨h1, h2⟩, h3, h4⟩ := h
  obtain ⟨a, ha, rfl⟩ := nI_of2 (M := 2) (n := 2) (by decide) (Int32.not_lt.mpr (Int32.le_trans (by decide) h1)) h2
  obtain ⟨j, hj, rfl⟩ := nI_of2 (M := 100) (n := 100) (by decide) (Int32.not_lt.mpr (Int32.le_trans (by decide) h3)) h4
  have e1 := (nI_leI (a := 1) (b := a) (by decide) (by omega)).mp h1
  have e3 := (nI_leI (a := 1) (b := j) (by decide) (by omega)).mp h3
  refine ⟨?_, j, e3, hj, rfl⟩
  have : a = 1 ∨ a = 2 := by omega
  rcases this with e | e
  · left; rw [e]
  · right; rw [e]
/-- the numbers of a listing, from the words -/
noncomputable def lsC (s k : Int32) : Cnt := allP s.toNatClampNeg k.toNatClampNeg
theorem lsC_nI {a j : Nat} (ha : a ≤ 2) (hj : j ≤ 100) : lsC (nI a) (nI j) = allP a j := by
  unfold lsC
  rw [nI_clamp (by omega), nI_clamp (by omega)]
set_option maxHeartbeats 4000000 in
set_option maxRecDepth 100000 in
/-- X15_isListing -/
theorem c_X15_isListing (l : Launch) (dC : Nat → ClassId) (dI : Nat → Nat → Nat) (p0 p1 : Int32) (sz : Nat) : Met l yX15_isListing wsX15_isListing ({ frames := 1, cells := 0, slots := 0, locals := 25 }) (va_Pc [.int p0, .int p1] (cPC dC dI [] [] sz)) (va_Qi (fun (r : Int32) (u : Unit) => (r = 1 ∧ pListing p0 p1) ∨ (r = 0 ∧ ¬ pListing p0 p1)) (fun (u : Unit) t => cQB dC dI [] [] (va_A [] sz) t) (va_A [] sz)) 0 0 (va_A [] sz) := by
  refine Met.ofW (cc := cX15_isListing) (maxL := 2) (ret := (some .boolean)) (by decide) rfl ?_
  intro p e s m args below meth c s₁ B hml hv
  obtain ⟨rfl, hsz, hP, hK, hD0, hN⟩ := hv
  have hx := B.exec
  have hb := B.bytes
  have hr := B.returns
  have hts := atoms_spec (ws := wsX15_isListing) B.pre
  have hown : s.vm.findClass RX15 = some m.cls := findClass_of_methodNamed B.named
  have hlocks := B.notSynchronized
  subst hsz
  have hD := hD0.self (sz := s.heap.size)
  generalize hAe : va_A [] s.heap.size = A at hD ⊢
  have hA : ∀ q : Nat, s.heap.size ≤ q → A q := fun q h => by rw [← hAe]; exact Or.inr h
  have hS : va_S A s.heap s.heap [] := va_S.rf
  have hP : va_P (dC, dI) vwCl [] s.heap := hP
  have hD : va_D A [] := hD
  have hl := lv_entry ([.int p0, .int p1]) (n := 2) (Nat.le_of_ble_eq_true rfl)
  rw [lg_entry_eq]
  generalize (lg_sl ([.int p0, .int p1]) ++ List.replicate (2 - (lg_sl ([.int p0, .int p1])).length) Slot.unset).toArray = ls at hl ⊢
  have hl : lv_has ls 2 [(0, .int p0), (1, .int p1)] := hl
  refine lv_iload_n hx hb dX15_isListing_0 rfl (lv_at hl 0 rfl) ?_
  refine lv_i2l hx hb dX15_isListing_1 rfl ?_
  refine lv_lconst (v := 1) hx hb dX15_isListing_2 (by decide) ?_
  refine lv_ldc2 (v := (2)) hx hb hown (hts (.constantLong RX15 217 (2)) (by decide +kernel)) dX15_isListing_3 ?_
  have hPc := hP.sub (ws' := []) [] rfl
  have hDc := hD.sub (ws' := []) [] (by decide) rfl
  have hKc := hK.sub (tys' := []) [] rfl
  have hFc := va_free (wc := []) hD hS hA [] rfl
  refine va_calli (va_runS (As := [.long p0.toInt64, .long 1, .long (2)]) (rest := []) ⟨hx, hb, hml, hown, hts⟩ (c_X15_in l dC dI p0.toInt64 1 (2) s.heap.size) (va_cwS 3 hts gX15_isListing_X15_in rfl rfl rfl (by decide +kernel) ⟨Nat.le_of_ble_eq_true rfl, Nat.le_of_ble_eq_true rfl⟩) (pcS hPc hDc hKc hN) rfl rfl hl.1 rfl (lv_room (Nat.le_of_ble_eq_true rfl)) dX15_isListing_6 ⟨Nat.le_of_ble_eq_true rfl, Nat.le_of_ble_eq_true rfl⟩) hS (fun q _ h => hFc q h) hFc (fun r_1 u t H1 locs ht hvm hw_2 hB hz1 hk1 hS => ?_)
  obtain ⟨hP1, hK1, hD1⟩ := hB
  rw [ht] at hP1
  try dsimp only at hw_2
  obtain ⟨hP, hD⟩ := va_join (wr := []) (w1 := []) hP hD [] [] rfl rfl (by decide) (by decide) hk1 hFc hP1 hD1
  generalize H1 = H at hP hS ⊢
  have hP : va_P (dC, dI) vwCl [] H := hP
  have hD : va_D A [] := hD
  have hi_3 := in32 (1) (2) (by decide) (by decide) hw_2
  refine lv_if_eq (tgt := 28) hx hb dX15_isListing_9 (by decide) (fun c9_4 => ?_) (fun c9_4 => ?_)
  · have hn_5 := (hi_3).elim (fun h => absurd (h.1.symm.trans c9_4) (by decide)) (fun h => h.2)
    refine lv_iconst (v := 0) hx hb dX15_isListing_28 (by decide) ?_
    have hP9 := hP.sub (ws' := []) [] rfl
    have hD9 := hD.sub (ws' := []) [] (by decide) rfl
    have hK9 := hK.sub (tys' := []) [] rfl
    exact W.zret (v := 0) hx hb hr (by rfl) (fun t ht hW => ⟨⟨0, (), rfl, (Or.inr ⟨rfl, (fun h9 => hn_5 h9.1)⟩), ⟨by rw [ht]; exact hP9, va_K.moved hW.alike hK9, hD9⟩⟩, hS.F ht⟩) hS.2.2 dX15_isListing_29
  · have hn_6 := (hi_3).elim (fun h => h.2) (fun h => absurd h.1 c9_4)
    refine lv_iload_n hx hb dX15_isListing_12 rfl (lv_at hl 1 rfl) ?_
    refine lv_i2l hx hb dX15_isListing_13 rfl ?_
    refine lv_lconst (v := 1) hx hb dX15_isListing_14 (by decide) ?_
    refine lv_ldc2 (v := (100)) hx hb hown (hts (.constantLong RX15 326 (100)) (by decide +kernel)) dX15_isListing_15 ?_
    have hPc := hP.sub (ws' := []) [] rfl
    have hDc := hD.sub (ws' := []) [] (by decide) rfl
    have hKc := hK.sub (tys' := []) [] rfl
    have hFc := va_free (wc := []) hD hS hA [] rfl
    refine va_calli (va_runS (As := [.long p1.toInt64, .long 1, .long (100)]) (rest := []) ⟨hx, hb, hml, hown, hts⟩ (c_X15_in l dC dI p1.toInt64 1 (100) H.size) (va_cwS 3 hts gX15_isListing_X15_in rfl rfl rfl (by decide +kernel) ⟨Nat.le_of_ble_eq_true rfl, Nat.le_of_ble_eq_true rfl⟩) (pcS hPc hDc hKc hN) rfl rfl hl.1 rfl (lv_room (Nat.le_of_ble_eq_true rfl)) dX15_isListing_18 ⟨Nat.le_of_ble_eq_true rfl, Nat.le_of_ble_eq_true rfl⟩) hS (fun q _ h => hFc q h) hFc (fun r_7 u t H1 locs ht hvm hw_8 hB hz1 hk1 hS => ?_)
    obtain ⟨hP1, hK1, hD1⟩ := hB
    rw [ht] at hP1
    try dsimp only at hw_8
    obtain ⟨hP, hD⟩ := va_join (wr := []) (w1 := []) hP hD [] [] rfl rfl (by decide) (by decide) hk1 hFc hP1 hD1
    generalize H1 = H at hP hS ⊢
    have hP : va_P (dC, dI) vwCl [] H := hP
    have hD : va_D A [] := hD
    have hi_9 := in32 (1) (100) (by decide) (by decide) hw_8
    refine lv_if_eq (tgt := 28) hx hb dX15_isListing_21 (by decide) (fun c21_10 => ?_) (fun c21_10 => ?_)
    · have hn_11 := (hi_9).elim (fun h => absurd (h.1.symm.trans c21_10) (by decide)) (fun h => h.2)
      refine lv_iconst (v := 0) hx hb dX15_isListing_28 (by decide) ?_
      have hP9 := hP.sub (ws' := []) [] rfl
      have hD9 := hD.sub (ws' := []) [] (by decide) rfl
      have hK9 := hK.sub (tys' := []) [] rfl
      exact W.zret (v := 0) hx hb hr (by rfl) (fun t ht hW => ⟨⟨0, (), rfl, (Or.inr ⟨rfl, (fun h9 => hn_11 h9.2)⟩), ⟨by rw [ht]; exact hP9, va_K.moved hW.alike hK9, hD9⟩⟩, hS.F ht⟩) hS.2.2 dX15_isListing_29
    · have hn_12 := (hi_9).elim (fun h => h.2) (fun h => absurd h.1 c21_10)
      refine lv_iconst (v := 1) hx hb dX15_isListing_24 (by decide) ?_
      refine lv_goto (tgt := 29) hx hb dX15_isListing_25 (by decide) ?_
      have hP9 := hP.sub (ws' := []) [] rfl
      have hD9 := hD.sub (ws' := []) [] (by decide) rfl
      have hK9 := hK.sub (tys' := []) [] rfl
      exact W.zret (v := 1) hx hb hr (by rfl) (fun t ht hW => ⟨⟨1, (), rfl, (Or.inl ⟨rfl, ⟨hn_6, hn_12⟩⟩), ⟨by rw [ht]; exact hP9, va_K.moved hW.alike hK9, hD9⟩⟩, hS.F ht⟩) hS.2.2 dX15_isListing_29

set_option maxHeartbeats 4000000 in
set_option maxRecDepth 100000 in
/-- X15_listed -/
theorem c_X15_listed (l : Launch) (dC : Nat → ClassId) (dI : Nat → Nat → Nat) (xm ml cl fl kn rg tr : Nat) (e0 : Nat) (aK aV : Nat → Nat) (cI : ClassId) (p0 p1 p2 : Int32) (sz : Nat) : Met l yX15_listed wsX15_listed ({ frames := 21, cells := 14340, slots := 5805426, locals := 472 }) (va_Pc [.ref xm, .int p0, .int p1, .int p2] (cPCz (zM e0 aK aV) dC dI [(xm, .inr (20, [.int 0, .int 0, .ref kn, .int 0, .int 0, .int 0, .ref ml, .ref cl, .ref rg, .ref tr, .ref (aK 0), .ref (aK 0), .ref fl, .int 0, .int 0, .int 0, .int 0, .int 0, .int 0, .int 0, .null]))] [(cI, .int)] sz)) (va_Qi (fun (r : Int32) (u : List Value) => ((pListing p0 p1 ∧ pWhat p2) ∧ u[5]? = some (.int 0) ∧ r = lsAns (lsC p0 p1) p2) ∨ (¬ (pListing p0 p1 ∧ pWhat p2) ∧ u[5]? = some (.int 1))) (fun (u : List Value) t => cQB dC dI [(xm, .inr (20, u))] [(cI, .int)] (va_A [(xm, .inr (20, [.int 0, .int 0, .ref kn, .int 0, .int 0, .int 0, .ref ml, .ref cl, .ref rg, .ref tr, .ref (aK 0), .ref (aK 0), .ref fl, .int 0, .int 0, .int 0, .int 0, .int 0, .int 0, .int 0, .null]))] sz) t) (va_A [(xm, .inr (20, [.int 0, .int 0, .ref kn, .int 0, .int 0, .int 0, .ref ml, .ref cl, .ref rg, .ref tr, .ref (aK 0), .ref (aK 0), .ref fl, .int 0, .int 0, .int 0, .int 0, .int 0, .int 0, .int 0, .null]))] sz)) 14340 5805426 (va_A [(xm, .inr (20, [.int 0, .int 0, .ref kn, .int 0, .int 0, .int 0, .ref ml, .ref cl, .ref rg, .ref tr, .ref (aK 0), .ref (aK 0), .ref fl, .int 0, .int 0, .int 0, .int 0, .int 0, .int 0, .int 0, .null]))] sz) := by
  refine Met.ofW (cc := cX15_listed) (maxL := 4) (ret := (some .int)) (by decide) rfl ?_
  intro p e s m args below meth c s₁ B hml hv
  obtain ⟨rfl, ⟨hsz, hP, hK, hD0, hN⟩, hZ⟩ := hv
  have hx := B.exec
  have hb := B.bytes
  have hr := B.returns
  have hts := atoms_spec (ws := wsX15_listed) B.pre
  have hown : s.vm.findClass RX15 = some m.cls := findClass_of_methodNamed B.named
  have hlocks := B.notSynchronized
  subst hsz
  have hD := hD0.self (sz := s.heap.size)
  generalize hAe : va_A [(xm, .inr (20, [.int 0, .int 0, .ref kn, .int 0, .int 0, .int 0, .ref ml, .ref cl, .ref rg, .ref tr, .ref (aK 0), .ref (aK 0), .ref fl, .int 0, .int 0, .int 0, .int 0, .int 0, .int 0, .int 0, .null]))] s.heap.size = A at hD hZ ⊢
  have hA : ∀ q : Nat, s.heap.size ≤ q → A q := fun q h => by rw [← hAe]; exact Or.inr h
  have hS : va_S A s.heap s.heap [] := va_S.rf
  have hP : va_P (dC, dI) vwCl [(xm, .inr (20, [.int 0, .int 0, .ref kn, .int 0, .int 0, .int 0, .ref ml, .ref cl, .ref rg, .ref tr, .ref (aK 0), .ref (aK 0), .ref fl, .int 0, .int 0, .int 0, .int 0, .int 0, .int 0, .int 0, .null]))] s.heap := hP
  have hD : va_D A [(xm, .inr (20, [.int 0, .int 0, .ref kn, .int 0, .int 0, .int 0, .ref ml, .ref cl, .ref rg, .ref tr, .ref (aK 0), .ref (aK 0), .ref fl, .int 0, .int 0, .int 0, .int 0, .int 0, .int 0, .int 0, .null]))] := hD
  have hl := lv_entry ([.ref xm, .int p0, .int p1, .int p2]) (n := 4) (Nat.le_of_ble_eq_true rfl)
  rw [lg_entry_eq]
  generalize (lg_sl ([.ref xm, .int p0, .int p1, .int p2]) ++ List.replicate (4 - (lg_sl ([.ref xm, .int p0, .int p1, .int p2])).length) Slot.unset).toArray = ls at hl ⊢
  have hl : lv_has ls 4 [(0, .ref xm), (1, .int p0), (2, .int p1), (3, .int p2)] := hl
  have iWX15 : ∀ w ∈ u_ws RX15 TX15 21, w ∈ wsX15_listed := by decide +kernel
  refine lv_aload_n hx hb dX15_listed_0 rfl (lv_at hl 0 rfl) ?_
  refine lv_iload_n hx hb dX15_listed_1 rfl (lv_at hl 1 rfl) ?_
  refine lv_iload_n hx hb dX15_listed_2 rfl (lv_at hl 2 rfl) ?_
  have hPc := hP.sub (ws' := []) [] rfl
  have hDc := hD.sub (ws' := []) [] (by decide) rfl
  have hKc := hK.sub (tys' := []) [] rfl
  have hFc := va_free (wc := []) hD hS hA [] rfl
  refine va_calli (va_runS (As := [.int p0, .int p1]) (rest := [.ref xm]) ⟨hx, hb, hml, hown, hts⟩ (c_X15_isListing l dC dI p0 p1 s.heap.size) (va_cwS 2 hts gX15_listed_X15_isListing rfl rfl rfl (by decide +kernel) ⟨Nat.le_of_ble_eq_true rfl, Nat.le_of_ble_eq_true rfl⟩) (pcS hPc hDc hKc hN) rfl rfl hl.1 rfl (lv_room (Nat.le_of_ble_eq_true rfl)) dX15_listed_3 ⟨Nat.le_of_ble_eq_true rfl, Nat.le_of_ble_eq_true rfl⟩) hS (fun q _ h => hFc q h) hFc (fun r_1 u t H1 locs ht hvm hw_2 hB hz1 hk1 hS => ?_)
  obtain ⟨hP1, hK1, hD1⟩ := hB
  rw [ht] at hP1
  try dsimp only at hw_2
  obtain ⟨hP, hD⟩ := va_join (wr := [(xm, .inr (20, [.int 0, .int 0, .ref kn, .int 0, .int 0, .int 0, .ref ml, .ref cl, .ref rg, .ref tr, .ref (aK 0), .ref (aK 0), .ref fl, .int 0, .int 0, .int 0, .int 0, .int 0, .int 0, .int 0, .null]))]) (w1 := []) hP hD [] [0] rfl rfl (by decide) (by decide) hk1 hFc hP1 hD1
  generalize H1 = H at hP hS ⊢
  have hP : va_P (dC, dI) vwCl [(xm, .inr (20, [.int 0, .int 0, .ref kn, .int 0, .int 0, .int 0, .ref ml, .ref cl, .ref rg, .ref tr, .ref (aK 0), .ref (aK 0), .ref fl, .int 0, .int 0, .int 0, .int 0, .int 0, .int 0, .int 0, .null]))] H := hP
  have hD : va_D A [(xm, .inr (20, [.int 0, .int 0, .ref kn, .int 0, .int 0, .int 0, .ref ml, .ref cl, .ref rg, .ref tr, .ref (aK 0), .ref (aK 0), .ref fl, .int 0, .int 0, .int 0, .int 0, .int 0, .int 0, .int 0, .null]))] := hD
  refine lv_if_eq (tgt := 19) hx hb dX15_listed_6 (by decide) (fun c6_3 => ?_) (fun c6_3 => ?_)
  · have hn_4 := (hw_2).elim (fun h => absurd (h.1.symm.trans c6_3) (by decide)) (fun h => h.2)
    refine lv_iconst (v := 1) hx hb dX15_listed_19 (by decide) ?_
    refine lv_goto (tgt := 24) hx hb dX15_listed_20 (by decide) ?_
    refine va_put (D := (dC, dI)) (ci := 20) (v := .int 1) (ty := .int) (C := RX15) (T := TX15) (N := 21) hx hb hts iWX15 tyX15 tyX15_ok nmX15 hown hK hP hD hS 0 rfl rfl 5 (by decide) (hts (.fieldLink RX15 209 "BeaverhallModel" "thrown" "I") (by decide +kernel)) (fun _ h9 => h9) rfl (by decide +kernel) rfl rfl (Nat.le_of_ble_eq_true rfl) dX15_listed_24 (fun H locs hP hD hS => ?_)
    have hP : va_P (dC, dI) vwCl [(xm, .inr (20, [.int 0, .int 0, .ref kn, .int 0, .int 0, .int 1, .ref ml, .ref cl, .ref rg, .ref tr, .ref (aK 0), .ref (aK 0), .ref fl, .int 0, .int 0, .int 0, .int 0, .int 0, .int 0, .int 0, .null]))] H := hP
    have hD : va_D A [(xm, .inr (20, [.int 0, .int 0, .ref kn, .int 0, .int 0, .int 1, .ref ml, .ref cl, .ref rg, .ref tr, .ref (aK 0), .ref (aK 0), .ref fl, .int 0, .int 0, .int 0, .int 0, .int 0, .int 0, .int 0, .null]))] := hD
    refine lv_aload_n hx hb dX15_listed_27 rfl (lv_at hl 0 rfl) ?_
    refine va_get (D := (dC, dI)) (ci := 20) (v := .int 1) (C := RX15) (T := TX15) (N := 21) hx hb hts iWX15 hown hK hP 0 rfl rfl 5 (by decide) (hts (.fieldLink RX15 209 "BeaverhallModel" "thrown" "I") (by decide +kernel)) (fun _ h9 => h9) rfl dX15_listed_28 ?_
    refine lv_if_le (tgt := 36) hx hb dX15_listed_31 (by decide) (fun c31_5 => ?_) (fun c31_5 => ?_)
    · exact absurd c31_5 (by decide)
    · refine lv_iconst (v := 0) hx hb dX15_listed_34 (by decide) ?_
      have hP9 := hP.sub (ws' := [(xm, .inr (20, [.int 0, .int 0, .ref kn, .int 0, .int 0, .int 1, .ref ml, .ref cl, .ref rg, .ref tr, .ref (aK 0), .ref (aK 0), .ref fl, .int 0, .int 0, .int 0, .int 0, .int 0, .int 0, .int 0, .null]))]) [0] rfl
      have hD9 := hD.sub (ws' := [(xm, .inr (20, [.int 0, .int 0, .ref kn, .int 0, .int 0, .int 1, .ref ml, .ref cl, .ref rg, .ref tr, .ref (aK 0), .ref (aK 0), .ref fl, .int 0, .int 0, .int 0, .int 0, .int 0, .int 0, .int 0, .null]))]) [0] (by decide) rfl
      have hK9 := hK.sub (tys' := [(cI, .int)]) [0] rfl
      refine W.widen (k := 14340) (n := 5805426) (Nat.le_of_ble_eq_true rfl) (Nat.le_of_ble_eq_true rfl) ?_
      exact W.iret (v := 0) hx hb hr (fun t ht hW => ⟨⟨0, [.int 0, .int 0, .ref kn, .int 0, .int 0, .int 1, .ref ml, .ref cl, .ref rg, .ref tr, .ref (aK 0), .ref (aK 0), .ref fl, .int 0, .int 0, .int 0, .int 0, .int 0, .int 0, .int 0, .null], rfl, (Or.inr ⟨(fun h9 => hn_4 h9.1), rfl⟩), ⟨by rw [ht]; exact hP9, va_K.moved hW.alike hK9, hD9⟩⟩, hS.F ht⟩) hS.2.2 dX15_listed_35
  · have hn_6 := (hw_2).elim (fun h => h.2) (fun h => absurd h.1 c6_3)
    refine va_ldcSW hx hb hown hZ.2.1.2 dX15_listed_9 ?_
    refine lv_iload_n hx hb dX15_listed_12 rfl (lv_at hl 3 rfl) ?_
    have hPc := hP.sub (ws' := []) [] rfl
    have hDc := hD.sub (ws' := []) [] (by decide) rfl
    have hKc := hK.sub (tys' := []) [] rfl
    have hFc := va_free (wc := []) hD hS hA [] rfl
    refine va_calli (va_runV (As := [.int p2]) (rest := [.ref xm]) ⟨hx, hb, hml, hown, hts⟩ (c_J0_indexOf_0f7a4 l dC dI e0 aK aV p2 H.size) (cwV 1 hts gX15_listed_J0_indexOf_0f7a4 rfl rfl rfl (by decide +kernel) ⟨Nat.le_of_ble_eq_true rfl, Nat.le_of_ble_eq_true rfl⟩) (pcVs hPc hDc hKc hN hZ hS hFc (i := 1) (by decide)) rfl rfl hl.1 rfl (lv_room (Nat.le_of_ble_eq_true rfl)) dX15_listed_13 ⟨Nat.le_of_ble_eq_true rfl, Nat.le_of_ble_eq_true rfl⟩) hS (fun q _ h => hFc q h) hFc (fun r_7 u t H1 locs ht hvm hw_8 hB hz1 hk1 hS => ?_)
    obtain ⟨hP1, hK1, hD1⟩ := hB
    rw [ht] at hP1
    try dsimp only at hw_8
    obtain ⟨hP, hD⟩ := va_join (wr := [(xm, .inr (20, [.int 0, .int 0, .ref kn, .int 0, .int 0, .int 0, .ref ml, .ref cl, .ref rg, .ref tr, .ref (aK 0), .ref (aK 0), .ref fl, .int 0, .int 0, .int 0, .int 0, .int 0, .int 0, .int 0, .null]))]) (w1 := []) hP hD [] [0] rfl rfl (by decide) (by decide) hk1 hFc hP1 hD1
    generalize H1 = H at hP hS ⊢
    have hP : va_P (dC, dI) vwCl [(xm, .inr (20, [.int 0, .int 0, .ref kn, .int 0, .int 0, .int 0, .ref ml, .ref cl, .ref rg, .ref tr, .ref (aK 0), .ref (aK 0), .ref fl, .int 0, .int 0, .int 0, .int 0, .int 0, .int 0, .int 0, .null]))] H := hP
    have hD : va_D A [(xm, .inr (20, [.int 0, .int 0, .ref kn, .int 0, .int 0, .int 0, .ref ml, .ref cl, .ref rg, .ref tr, .ref (aK 0), .ref (aK 0), .ref fl, .int 0, .int 0, .int 0, .int 0, .int 0, .int 0, .int 0, .null]))] := hD
    refine lv_if_ge (tgt := 23) hx hb dX15_listed_16 (by decide) (fun c16_9 => ?_) (fun c16_9 => ?_)
    · have hwy := hw_8.elim (fun h9 => h9.1) (fun h9 => absurd h9.2 (Int32.not_lt.mpr c16_9))
      refine lv_iconst (v := 0) hx hb dX15_listed_23 (by decide) ?_
      refine va_put (D := (dC, dI)) (ci := 20) (v := .int 0) (ty := .int) (C := RX15) (T := TX15) (N := 21) hx hb hts iWX15 tyX15 tyX15_ok nmX15 hown hK hP hD hS 0 rfl rfl 5 (by decide) (hts (.fieldLink RX15 209 "BeaverhallModel" "thrown" "I") (by decide +kernel)) (fun _ h9 => h9) rfl (by decide +kernel) rfl rfl (Nat.le_of_ble_eq_true rfl) dX15_listed_24 (fun H locs hP hD hS => ?_)
      have hP : va_P (dC, dI) vwCl [(xm, .inr (20, [.int 0, .int 0, .ref kn, .int 0, .int 0, .int 0, .ref ml, .ref cl, .ref rg, .ref tr, .ref (aK 0), .ref (aK 0), .ref fl, .int 0, .int 0, .int 0, .int 0, .int 0, .int 0, .int 0, .null]))] H := hP
      have hD : va_D A [(xm, .inr (20, [.int 0, .int 0, .ref kn, .int 0, .int 0, .int 0, .ref ml, .ref cl, .ref rg, .ref tr, .ref (aK 0), .ref (aK 0), .ref fl, .int 0, .int 0, .int 0, .int 0, .int 0, .int 0, .int 0, .null]))] := hD
      refine lv_aload_n hx hb dX15_listed_27 rfl (lv_at hl 0 rfl) ?_
      refine va_get (D := (dC, dI)) (ci := 20) (v := .int 0) (C := RX15) (T := TX15) (N := 21) hx hb hts iWX15 hown hK hP 0 rfl rfl 5 (by decide) (hts (.fieldLink RX15 209 "BeaverhallModel" "thrown" "I") (by decide +kernel)) (fun _ h9 => h9) rfl dX15_listed_28 ?_
      refine lv_if_le (tgt := 36) hx hb dX15_listed_31 (by decide) (fun c31_10 => ?_) (fun c31_10 => ?_)
      · obtain ⟨hs9, k9, hk1, hk2, ek9⟩ := lst_nums hn_6
        subst ek9
        rcases hs9 with es9 | es9
        · subst es9
          have hl : lv_has ls 4 [(0, .ref xm), (1, .int (nI 1)), (2, .int (nI k9)), (3, .int p2)] := hl
          refine lv_aload_n hx hb dX15_listed_36 rfl (lv_at hl 0 rfl) ?_
          refine lv_iload_n hx hb dX15_listed_37 rfl (lv_at hl 1 rfl) ?_
          refine lv_iload_n hx hb dX15_listed_38 rfl (lv_at hl 2 rfl) ?_
          have hPc := hP.sub (ws' := [(xm, .inr (20, [.int 0, .int 0, .ref kn, .int 0, .int 0, .int 0, .ref ml, .ref cl, .ref rg, .ref tr, .ref (aK 0), .ref (aK 0), .ref fl, .int 0, .int 0, .int 0, .int 0, .int 0, .int 0, .int 0, .null]))]) [0] rfl
          have hDc := hD.sub (ws' := [(xm, .inr (20, [.int 0, .int 0, .ref kn, .int 0, .int 0, .int 0, .ref ml, .ref cl, .ref rg, .ref tr, .ref (aK 0), .ref (aK 0), .ref fl, .int 0, .int 0, .int 0, .int 0, .int 0, .int 0, .int 0, .null]))]) [0] (by decide) rfl
          have hKc := hK.sub (tys' := [(cI, .int)]) [0] rfl
          have hFc := va_free (wc := [(xm, .inr (20, [.int 0, .int 0, .ref kn, .int 0, .int 0, .int 0, .ref ml, .ref cl, .ref rg, .ref tr, .ref (aK 0), .ref (aK 0), .ref fl, .int 0, .int 0, .int 0, .int 0, .int 0, .int 0, .int 0, .null]))]) hD hS hA [0] rfl
          refine va_callv (va_runV (As := [.int (nI 1), .int (nI k9)]) (rest := []) ⟨hx, hb, hml, hown, hts⟩ (c_X15_listAll_1 l dC dI cI xm 0 0 0 0 0 0 0 (.ref kn) (.int 0) (.int 0) (.int 0) (.ref ml) (.ref cl) (.ref rg) (.ref tr) (.ref (aK 0)) (.ref (aK 0)) (.ref fl) (.int 0) (.int 0) .null k9 (by omega) H.size) (cwV 2 hts gX15_listed_X15_listAll rfl rfl rfl (by decide +kernel) ⟨Nat.le_of_ble_eq_true rfl, Nat.le_of_ble_eq_true rfl⟩) (pcV hPc hDc hKc hN (ci := 20) (q0 := 0) rfl rfl) rfl rfl hl.1 rfl (lv_room (Nat.le_of_ble_eq_true rfl)) dX15_listed_39 ⟨Nat.le_of_ble_eq_true rfl, Nat.le_of_ble_eq_true rfl⟩) hS (fun q _ h => hFc q h) hFc (fun u t H1 locs ht hvm hw_20 hB hz1 hk1 hS => ?_)
          obtain ⟨fA_11, fB_12, lH_13, lN_14, lO_15, lS_16, lM_17, lb_18, lbs_19⟩ := u
          obtain ⟨hP1, hK1, hD1⟩ := hB
          rw [ht] at hP1
          try dsimp only at hw_20
          obtain ⟨hP, hD⟩ := va_join (wr := []) (w1 := [(xm, .inr (20, [.int fA_11, .int fB_12, .ref kn, .int 0, .int 0, .int 0, .ref ml, .ref cl, .ref rg, .ref tr, .ref (aK 0), .ref (aK 0), .ref fl, .int 0, .int 0, .int lH_13, .int lN_14, .int lO_15, .int lS_16, .int lM_17, .ref lb_18])), (lb_18, .inr (18, lbs_19))]) hP hD [0] [] rfl rfl (by decide) (by decide) hk1 hFc hP1 hD1
          generalize H1 = H at hP hS ⊢
          have hP : va_P (dC, dI) vwCl [(xm, .inr (20, [.int fA_11, .int fB_12, .ref kn, .int 0, .int 0, .int 0, .ref ml, .ref cl, .ref rg, .ref tr, .ref (aK 0), .ref (aK 0), .ref fl, .int 0, .int 0, .int lH_13, .int lN_14, .int lO_15, .int lS_16, .int lM_17, .ref lb_18])), (lb_18, .inr (18, lbs_19))] H := hP
          have hD : va_D A [(xm, .inr (20, [.int fA_11, .int fB_12, .ref kn, .int 0, .int 0, .int 0, .ref ml, .ref cl, .ref rg, .ref tr, .ref (aK 0), .ref (aK 0), .ref fl, .int 0, .int 0, .int lH_13, .int lN_14, .int lO_15, .int lS_16, .int lM_17, .ref lb_18])), (lb_18, .inr (18, lbs_19))] := hD
          refine W.widen (k := 228) (n := 90642) (Nat.le_of_ble_eq_true rfl) (Nat.le_of_ble_eq_true rfl) ?_
          refine lv_iload_n hx hb dX15_listed_42 rfl (lv_at hl 3 rfl) ?_
          refine lv_bipush (v := 104) hx hb dX15_listed_43 (by decide) ?_
          refine lv_icmp_ne (tgt := 55) hx hb dX15_listed_45 (by decide) (fun c45_21 => ?_) (fun c45_21 => ?_)
          · refine lv_iload_n hx hb dX15_listed_55 rfl (lv_at hl 3 rfl) ?_
            refine lv_bipush (v := 110) hx hb dX15_listed_56 (by decide) ?_
            refine lv_icmp_ne (tgt := 68) hx hb dX15_listed_58 (by decide) (fun c58_22 => ?_) (fun c58_22 => ?_)
            · refine lv_iload_n hx hb dX15_listed_68 rfl (lv_at hl 3 rfl) ?_
              refine lv_bipush (v := 111) hx hb dX15_listed_69 (by decide) ?_
              refine lv_icmp_ne (tgt := 81) hx hb dX15_listed_71 (by decide) (fun c71_23 => ?_) (fun c71_23 => ?_)
              · refine lv_iload_n hx hb dX15_listed_81 rfl (lv_at hl 3 rfl) ?_
                refine lv_bipush (v := 115) hx hb dX15_listed_82 (by decide) ?_
                refine lv_icmp_ne (tgt := 94) hx hb dX15_listed_84 (by decide) (fun c84_24 => ?_) (fun c84_24 => ?_)
                · refine lv_aload_n hx hb dX15_listed_94 rfl (lv_at hl 0 rfl) ?_
                  refine va_get (D := (dC, dI)) (ci := 20) (v := .int lM_17) (C := RX15) (T := TX15) (N := 21) hx hb hts iWX15 hown hK hP 0 rfl rfl 19 (by decide) (hts (.fieldLink RX15 310 "BeaverhallModel" "listedMarks" "I") (by decide +kernel)) (fun _ h9 => h9) rfl dX15_listed_95 ?_
                  have hP9 := hP.sub (ws' := [(xm, .inr (20, [.int fA_11, .int fB_12, .ref kn, .int 0, .int 0, .int 0, .ref ml, .ref cl, .ref rg, .ref tr, .ref (aK 0), .ref (aK 0), .ref fl, .int 0, .int 0, .int lH_13, .int lN_14, .int lO_15, .int lS_16, .int lM_17, .ref lb_18]))]) [0] rfl
                  have hD9 := hD.sub (ws' := [(xm, .inr (20, [.int fA_11, .int fB_12, .ref kn, .int 0, .int 0, .int 0, .ref ml, .ref cl, .ref rg, .ref tr, .ref (aK 0), .ref (aK 0), .ref fl, .int 0, .int 0, .int lH_13, .int lN_14, .int lO_15, .int lS_16, .int lM_17, .ref lb_18]))]) [0] (by decide) rfl
                  have hK9 := hK.sub (tys' := [(cI, .int)]) [0] rfl
                  refine W.widen (k := 14340) (n := 5805426) (Nat.le_of_ble_eq_true rfl) (Nat.le_of_ble_eq_true rfl) ?_
                  exact W.iret (v := lM_17) hx hb hr (fun t ht hW => ⟨⟨lM_17, [.int fA_11, .int fB_12, .ref kn, .int 0, .int 0, .int 0, .ref ml, .ref cl, .ref rg, .ref tr, .ref (aK 0), .ref (aK 0), .ref fl, .int 0, .int 0, .int lH_13, .int lN_14, .int lO_15, .int lS_16, .int lM_17, .ref lb_18], rfl, (Or.inl ⟨⟨hn_6, hwy⟩, rfl, by rw [lsC_nI (by decide) hk2, ← hw_20]; simp [lsAns, c45_21, c58_22, c71_23, c84_24]⟩), ⟨by rw [ht]; exact hP9, va_K.moved hW.alike hK9, hD9⟩⟩, hS.F ht⟩) hS.2.2 dX15_listed_98
                · refine lv_aload_n hx hb dX15_listed_87 rfl (lv_at hl 0 rfl) ?_
                  refine va_get (D := (dC, dI)) (ci := 20) (v := .int lS_16) (C := RX15) (T := TX15) (N := 21) hx hb hts iWX15 hown hK hP 0 rfl rfl 18 (by decide) (hts (.fieldLink RX15 317 "BeaverhallModel" "listedSteps" "I") (by decide +kernel)) (fun _ h9 => h9) rfl dX15_listed_88 ?_
                  refine lv_goto (tgt := 98) hx hb dX15_listed_91 (by decide) ?_
                  have hP9 := hP.sub (ws' := [(xm, .inr (20, [.int fA_11, .int fB_12, .ref kn, .int 0, .int 0, .int 0, .ref ml, .ref cl, .ref rg, .ref tr, .ref (aK 0), .ref (aK 0), .ref fl, .int 0, .int 0, .int lH_13, .int lN_14, .int lO_15, .int lS_16, .int lM_17, .ref lb_18]))]) [0] rfl
                  have hD9 := hD.sub (ws' := [(xm, .inr (20, [.int fA_11, .int fB_12, .ref kn, .int 0, .int 0, .int 0, .ref ml, .ref cl, .ref rg, .ref tr, .ref (aK 0), .ref (aK 0), .ref fl, .int 0, .int 0, .int lH_13, .int lN_14, .int lO_15, .int lS_16, .int lM_17, .ref lb_18]))]) [0] (by decide) rfl
                  have hK9 := hK.sub (tys' := [(cI, .int)]) [0] rfl
                  refine W.widen (k := 14340) (n := 5805426) (Nat.le_of_ble_eq_true rfl) (Nat.le_of_ble_eq_true rfl) ?_
                  exact W.iret (v := lS_16) hx hb hr (fun t ht hW => ⟨⟨lS_16, [.int fA_11, .int fB_12, .ref kn, .int 0, .int 0, .int 0, .ref ml, .ref cl, .ref rg, .ref tr, .ref (aK 0), .ref (aK 0), .ref fl, .int 0, .int 0, .int lH_13, .int lN_14, .int lO_15, .int lS_16, .int lM_17, .ref lb_18], rfl, (Or.inl ⟨⟨hn_6, hwy⟩, rfl, by rw [lsC_nI (by decide) hk2, ← hw_20]; simp [lsAns, c45_21, c58_22, c71_23, c84_24]⟩), ⟨by rw [ht]; exact hP9, va_K.moved hW.alike hK9, hD9⟩⟩, hS.F ht⟩) hS.2.2 dX15_listed_98
              · refine lv_aload_n hx hb dX15_listed_74 rfl (lv_at hl 0 rfl) ?_
                refine va_get (D := (dC, dI)) (ci := 20) (v := .int lO_15) (C := RX15) (T := TX15) (N := 21) hx hb hts iWX15 hown hK hP 0 rfl rfl 17 (by decide) (hts (.fieldLink RX15 304 "BeaverhallModel" "listedOpen" "I") (by decide +kernel)) (fun _ h9 => h9) rfl dX15_listed_75 ?_
                refine lv_goto (tgt := 98) hx hb dX15_listed_78 (by decide) ?_
                have hP9 := hP.sub (ws' := [(xm, .inr (20, [.int fA_11, .int fB_12, .ref kn, .int 0, .int 0, .int 0, .ref ml, .ref cl, .ref rg, .ref tr, .ref (aK 0), .ref (aK 0), .ref fl, .int 0, .int 0, .int lH_13, .int lN_14, .int lO_15, .int lS_16, .int lM_17, .ref lb_18]))]) [0] rfl
                have hD9 := hD.sub (ws' := [(xm, .inr (20, [.int fA_11, .int fB_12, .ref kn, .int 0, .int 0, .int 0, .ref ml, .ref cl, .ref rg, .ref tr, .ref (aK 0), .ref (aK 0), .ref fl, .int 0, .int 0, .int lH_13, .int lN_14, .int lO_15, .int lS_16, .int lM_17, .ref lb_18]))]) [0] (by decide) rfl
                have hK9 := hK.sub (tys' := [(cI, .int)]) [0] rfl
                refine W.widen (k := 14340) (n := 5805426) (Nat.le_of_ble_eq_true rfl) (Nat.le_of_ble_eq_true rfl) ?_
                exact W.iret (v := lO_15) hx hb hr (fun t ht hW => ⟨⟨lO_15, [.int fA_11, .int fB_12, .ref kn, .int 0, .int 0, .int 0, .ref ml, .ref cl, .ref rg, .ref tr, .ref (aK 0), .ref (aK 0), .ref fl, .int 0, .int 0, .int lH_13, .int lN_14, .int lO_15, .int lS_16, .int lM_17, .ref lb_18], rfl, (Or.inl ⟨⟨hn_6, hwy⟩, rfl, by rw [lsC_nI (by decide) hk2, ← hw_20]; simp [lsAns, c45_21, c58_22, c71_23]⟩), ⟨by rw [ht]; exact hP9, va_K.moved hW.alike hK9, hD9⟩⟩, hS.F ht⟩) hS.2.2 dX15_listed_98
            · refine lv_aload_n hx hb dX15_listed_61 rfl (lv_at hl 0 rfl) ?_
              refine va_get (D := (dC, dI)) (ci := 20) (v := .int lN_14) (C := RX15) (T := TX15) (N := 21) hx hb hts iWX15 hown hK hP 0 rfl rfl 16 (by decide) (hts (.fieldLink RX15 301 "BeaverhallModel" "listedNever" "I") (by decide +kernel)) (fun _ h9 => h9) rfl dX15_listed_62 ?_
              refine lv_goto (tgt := 98) hx hb dX15_listed_65 (by decide) ?_
              have hP9 := hP.sub (ws' := [(xm, .inr (20, [.int fA_11, .int fB_12, .ref kn, .int 0, .int 0, .int 0, .ref ml, .ref cl, .ref rg, .ref tr, .ref (aK 0), .ref (aK 0), .ref fl, .int 0, .int 0, .int lH_13, .int lN_14, .int lO_15, .int lS_16, .int lM_17, .ref lb_18]))]) [0] rfl
              have hD9 := hD.sub (ws' := [(xm, .inr (20, [.int fA_11, .int fB_12, .ref kn, .int 0, .int 0, .int 0, .ref ml, .ref cl, .ref rg, .ref tr, .ref (aK 0), .ref (aK 0), .ref fl, .int 0, .int 0, .int lH_13, .int lN_14, .int lO_15, .int lS_16, .int lM_17, .ref lb_18]))]) [0] (by decide) rfl
              have hK9 := hK.sub (tys' := [(cI, .int)]) [0] rfl
              refine W.widen (k := 14340) (n := 5805426) (Nat.le_of_ble_eq_true rfl) (Nat.le_of_ble_eq_true rfl) ?_
              exact W.iret (v := lN_14) hx hb hr (fun t ht hW => ⟨⟨lN_14, [.int fA_11, .int fB_12, .ref kn, .int 0, .int 0, .int 0, .ref ml, .ref cl, .ref rg, .ref tr, .ref (aK 0), .ref (aK 0), .ref fl, .int 0, .int 0, .int lH_13, .int lN_14, .int lO_15, .int lS_16, .int lM_17, .ref lb_18], rfl, (Or.inl ⟨⟨hn_6, hwy⟩, rfl, by rw [lsC_nI (by decide) hk2, ← hw_20]; simp [lsAns, c45_21, c58_22]⟩), ⟨by rw [ht]; exact hP9, va_K.moved hW.alike hK9, hD9⟩⟩, hS.F ht⟩) hS.2.2 dX15_listed_98
          · refine lv_aload_n hx hb dX15_listed_48 rfl (lv_at hl 0 rfl) ?_
            refine va_get (D := (dC, dI)) (ci := 20) (v := .int lH_13) (C := RX15) (T := TX15) (N := 21) hx hb hts iWX15 hown hK hP 0 rfl rfl 15 (by decide) (hts (.fieldLink RX15 307 "BeaverhallModel" "listedHalting" "I") (by decide +kernel)) (fun _ h9 => h9) rfl dX15_listed_49 ?_
            refine lv_goto (tgt := 98) hx hb dX15_listed_52 (by decide) ?_
            have hP9 := hP.sub (ws' := [(xm, .inr (20, [.int fA_11, .int fB_12, .ref kn, .int 0, .int 0, .int 0, .ref ml, .ref cl, .ref rg, .ref tr, .ref (aK 0), .ref (aK 0), .ref fl, .int 0, .int 0, .int lH_13, .int lN_14, .int lO_15, .int lS_16, .int lM_17, .ref lb_18]))]) [0] rfl
            have hD9 := hD.sub (ws' := [(xm, .inr (20, [.int fA_11, .int fB_12, .ref kn, .int 0, .int 0, .int 0, .ref ml, .ref cl, .ref rg, .ref tr, .ref (aK 0), .ref (aK 0), .ref fl, .int 0, .int 0, .int lH_13, .int lN_14, .int lO_15, .int lS_16, .int lM_17, .ref lb_18]))]) [0] (by decide) rfl
            have hK9 := hK.sub (tys' := [(cI, .int)]) [0] rfl
            refine W.widen (k := 14340) (n := 5805426) (Nat.le_of_ble_eq_true rfl) (Nat.le_of_ble_eq_true rfl) ?_
            exact W.iret (v := lH_13) hx hb hr (fun t ht hW => ⟨⟨lH_13, [.int fA_11, .int fB_12, .ref kn, .int 0, .int 0, .int 0, .ref ml, .ref cl, .ref rg, .ref tr, .ref (aK 0), .ref (aK 0), .ref fl, .int 0, .int 0, .int lH_13, .int lN_14, .int lO_15, .int lS_16, .int lM_17, .ref lb_18], rfl, (Or.inl ⟨⟨hn_6, hwy⟩, rfl, by rw [lsC_nI (by decide) hk2, ← hw_20]; simp [lsAns, c45_21]⟩), ⟨by rw [ht]; exact hP9, va_K.moved hW.alike hK9, hD9⟩⟩, hS.F ht⟩) hS.2.2 dX15_listed_98
        · subst es9
          have hl : lv_has ls 4 [(0, .ref xm), (1, .int (nI 2)), (2, .int (nI k9)), (3, .int p2)] := hl
          refine lv_aload_n hx hb dX15_listed_36 rfl (lv_at hl 0 rfl) ?_
          refine lv_iload_n hx hb dX15_listed_37 rfl (lv_at hl 1 rfl) ?_
          refine lv_iload_n hx hb dX15_listed_38 rfl (lv_at hl 2 rfl) ?_
          have hPc := hP.sub (ws' := [(xm, .inr (20, [.int 0, .int 0, .ref kn, .int 0, .int 0, .int 0, .ref ml, .ref cl, .ref rg, .ref tr, .ref (aK 0), .ref (aK 0), .ref fl, .int 0, .int 0, .int 0, .int 0, .int 0, .int 0, .int 0, .null]))]) [0] rfl
          have hDc := hD.sub (ws' := [(xm, .inr (20, [.int 0, .int 0, .ref kn, .int 0, .int 0, .int 0, .ref ml, .ref cl, .ref rg, .ref tr, .ref (aK 0), .ref (aK 0), .ref fl, .int 0, .int 0, .int 0, .int 0, .int 0, .int 0, .int 0, .null]))]) [0] (by decide) rfl
          have hKc := hK.sub (tys' := [(cI, .int)]) [0] rfl
          have hFc := va_free (wc := [(xm, .inr (20, [.int 0, .int 0, .ref kn, .int 0, .int 0, .int 0, .ref ml, .ref cl, .ref rg, .ref tr, .ref (aK 0), .ref (aK 0), .ref fl, .int 0, .int 0, .int 0, .int 0, .int 0, .int 0, .int 0, .null]))]) hD hS hA [0] rfl
          refine va_callv (va_runV (As := [.int (nI 2), .int (nI k9)]) (rest := []) ⟨hx, hb, hml, hown, hts⟩ (c_X15_listAll_2 l dC dI cI xm 0 0 0 0 0 0 0 (.ref kn) (.int 0) (.int 0) (.int 0) (.ref ml) (.ref cl) (.ref rg) (.ref tr) (.ref (aK 0)) (.ref (aK 0)) (.ref fl) (.int 0) (.int 0) .null k9 (by omega) H.size) (cwV 2 hts gX15_listed_X15_listAll rfl rfl rfl (by decide +kernel) ⟨Nat.le_of_ble_eq_true rfl, Nat.le_of_ble_eq_true rfl⟩) (pcV hPc hDc hKc hN (ci := 20) (q0 := 0) rfl rfl) rfl rfl hl.1 rfl (lv_room (Nat.le_of_ble_eq_true rfl)) dX15_listed_39 ⟨Nat.le_of_ble_eq_true rfl, Nat.le_of_ble_eq_true rfl⟩) hS (fun q _ h => hFc q h) hFc (fun u t H1 locs ht hvm hw_34 hB hz1 hk1 hS => ?_)
          obtain ⟨fA_25, fB_26, lH_27, lN_28, lO_29, lS_30, lM_31, lb_32, lbs_33⟩ := u
          obtain ⟨hP1, hK1, hD1⟩ := hB
          rw [ht] at hP1
          try dsimp only at hw_34
          obtain ⟨hP, hD⟩ := va_join (wr := []) (w1 := [(xm, .inr (20, [.int fA_25, .int fB_26, .ref kn, .int 0, .int 0, .int 0, .ref ml, .ref cl, .ref rg, .ref tr, .ref (aK 0), .ref (aK 0), .ref fl, .int 0, .int 0, .int lH_27, .int lN_28, .int lO_29, .int lS_30, .int lM_31, .ref lb_32])), (lb_32, .inr (18, lbs_33))]) hP hD [0] [] rfl rfl (by decide) (by decide) hk1 hFc hP1 hD1
          generalize H1 = H at hP hS ⊢
          have hP : va_P (dC, dI) vwCl [(xm, .inr (20, [.int fA_25, .int fB_26, .ref kn, .int 0, .int 0, .int 0, .ref ml, .ref cl, .ref rg, .ref tr, .ref (aK 0), .ref (aK 0), .ref fl, .int 0, .int 0, .int lH_27, .int lN_28, .int lO_29, .int lS_30, .int lM_31, .ref lb_32])), (lb_32, .inr (18, lbs_33))] H := hP
          have hD : va_D A [(xm, .inr (20, [.int fA_25, .int fB_26, .ref kn, .int 0, .int 0, .int 0, .ref ml, .ref cl, .ref rg, .ref tr, .ref (aK 0), .ref (aK 0), .ref fl, .int 0, .int 0, .int lH_27, .int lN_28, .int lO_29, .int lS_30, .int lM_31, .ref lb_32])), (lb_32, .inr (18, lbs_33))] := hD
          refine W.widen (k := 14340) (n := 5805426) (Nat.le_of_ble_eq_true rfl) (Nat.le_of_ble_eq_true rfl) ?_
          refine lv_iload_n hx hb dX15_listed_42 rfl (lv_at hl 3 rfl) ?_
          refine lv_bipush (v := 104) hx hb dX15_listed_43 (by decide) ?_
          refine lv_icmp_ne (tgt := 55) hx hb dX15_listed_45 (by decide) (fun c45_35 => ?_) (fun c45_35 => ?_)
          · refine lv_iload_n hx hb dX15_listed_55 rfl (lv_at hl 3 rfl) ?_
            refine lv_bipush (v := 110) hx hb dX15_listed_56 (by decide) ?_
            refine lv_icmp_ne (tgt := 68) hx hb dX15_listed_58 (by decide) (fun c58_36 => ?_) (fun c58_36 => ?_)
            · refine lv_iload_n hx hb dX15_listed_68 rfl (lv_at hl 3 rfl) ?_
              refine lv_bipush (v := 111) hx hb dX15_listed_69 (by decide) ?_
              refine lv_icmp_ne (tgt := 81) hx hb dX15_listed_71 (by decide) (fun c71_37 => ?_) (fun c71_37 => ?_)
              · refine lv_iload_n hx hb dX15_listed_81 rfl (lv_at hl 3 rfl) ?_
                refine lv_bipush (v := 115) hx hb dX15_listed_82 (by decide) ?_
                refine lv_icmp_ne (tgt := 94) hx hb dX15_listed_84 (by decide) (fun c84_38 => ?_) (fun c84_38 => ?_)
                · refine lv_aload_n hx hb dX15_listed_94 rfl (lv_at hl 0 rfl) ?_
                  refine va_get (D := (dC, dI)) (ci := 20) (v := .int lM_31) (C := RX15) (T := TX15) (N := 21) hx hb hts iWX15 hown hK hP 0 rfl rfl 19 (by decide) (hts (.fieldLink RX15 310 "BeaverhallModel" "listedMarks" "I") (by decide +kernel)) (fun _ h9 => h9) rfl dX15_listed_95 ?_
                  have hP9 := hP.sub (ws' := [(xm, .inr (20, [.int fA_25, .int fB_26, .ref kn, .int 0, .int 0, .int 0, .ref ml, .ref cl, .ref rg, .ref tr, .ref (aK 0), .ref (aK 0), .ref fl, .int 0, .int 0, .int lH_27, .int lN_28, .int lO_29, .int lS_30, .int lM_31, .ref lb_32]))]) [0] rfl
                  have hD9 := hD.sub (ws' := [(xm, .inr (20, [.int fA_25, .int fB_26, .ref kn, .int 0, .int 0, .int 0, .ref ml, .ref cl, .ref rg, .ref tr, .ref (aK 0), .ref (aK 0), .ref fl, .int 0, .int 0, .int lH_27, .int lN_28, .int lO_29, .int lS_30, .int lM_31, .ref lb_32]))]) [0] (by decide) rfl
                  have hK9 := hK.sub (tys' := [(cI, .int)]) [0] rfl
                  exact W.iret (v := lM_31) hx hb hr (fun t ht hW => ⟨⟨lM_31, [.int fA_25, .int fB_26, .ref kn, .int 0, .int 0, .int 0, .ref ml, .ref cl, .ref rg, .ref tr, .ref (aK 0), .ref (aK 0), .ref fl, .int 0, .int 0, .int lH_27, .int lN_28, .int lO_29, .int lS_30, .int lM_31, .ref lb_32], rfl, (Or.inl ⟨⟨hn_6, hwy⟩, rfl, by rw [lsC_nI (by decide) hk2, ← hw_34]; simp [lsAns, c45_35, c58_36, c71_37, c84_38]⟩), ⟨by rw [ht]; exact hP9, va_K.moved hW.alike hK9, hD9⟩⟩, hS.F ht⟩) hS.2.2 dX15_listed_98
                · refine lv_aload_n hx hb dX15_listed_87 rfl (lv_at hl 0 rfl) ?_
                  refine va_get (D := (dC, dI)) (ci := 20) (v := .int lS_30) (C := RX15) (T := TX15) (N := 21) hx hb hts iWX15 hown hK hP 0 rfl rfl 18 (by decide) (hts (.fieldLink RX15 317 "BeaverhallModel" "listedSteps" "I") (by decide +kernel)) (fun _ h9 => h9) rfl dX15_listed_88 ?_
                  refine lv_goto (tgt := 98) hx hb dX15_listed_91 (by decide) ?_
                  have hP9 := hP.sub (ws' := [(xm, .inr (20, [.int fA_25, .int fB_26, .ref kn, .int 0, .int 0, .int 0, .ref ml, .ref cl, .ref rg, .ref tr, .ref (aK 0), .ref (aK 0), .ref fl, .int 0, .int 0, .int lH_27, .int lN_28, .int lO_29, .int lS_30, .int lM_31, .ref lb_32]))]) [0] rfl
                  have hD9 := hD.sub (ws' := [(xm, .inr (20, [.int fA_25, .int fB_26, .ref kn, .int 0, .int 0, .int 0, .ref ml, .ref cl, .ref rg, .ref tr, .ref (aK 0), .ref (aK 0), .ref fl, .int 0, .int 0, .int lH_27, .int lN_28, .int lO_29, .int lS_30, .int lM_31, .ref lb_32]))]) [0] (by decide) rfl
                  have hK9 := hK.sub (tys' := [(cI, .int)]) [0] rfl
                  exact W.iret (v := lS_30) hx hb hr (fun t ht hW => ⟨⟨lS_30, [.int fA_25, .int fB_26, .ref kn, .int 0, .int 0, .int 0, .ref ml, .ref cl, .ref rg, .ref tr, .ref (aK 0), .ref (aK 0), .ref fl, .int 0, .int 0, .int lH_27, .int lN_28, .int lO_29, .int lS_30, .int lM_31, .ref lb_32], rfl, (Or.inl ⟨⟨hn_6, hwy⟩, rfl, by rw [lsC_nI (by decide) hk2, ← hw_34]; simp [lsAns, c45_35, c58_36, c71_37, c84_38]⟩), ⟨by rw [ht]; exact hP9, va_K.moved hW.alike hK9, hD9⟩⟩, hS.F ht⟩) hS.2.2 dX15_listed_98
              · refine lv_aload_n hx hb dX15_listed_74 rfl (lv_at hl 0 rfl) ?_
                refine va_get (D := (dC, dI)) (ci := 20) (v := .int lO_29) (C := RX15) (T := TX15) (N := 21) hx hb hts iWX15 hown hK hP 0 rfl rfl 17 (by decide) (hts (.fieldLink RX15 304 "BeaverhallModel" "listedOpen" "I") (by decide +kernel)) (fun _ h9 => h9) rfl dX15_listed_75 ?_
                refine lv_goto (tgt := 98) hx hb dX15_listed_78 (by decide) ?_
                have hP9 := hP.sub (ws' := [(xm, .inr (20, [.int fA_25, .int fB_26, .ref kn, .int 0, .int 0, .int 0, .ref ml, .ref cl, .ref rg, .ref tr, .ref (aK 0), .ref (aK 0), .ref fl, .int 0, .int 0, .int lH_27, .int lN_28, .int lO_29, .int lS_30, .int lM_31, .ref lb_32]))]) [0] rfl
                have hD9 := hD.sub (ws' := [(xm, .inr (20, [.int fA_25, .int fB_26, .ref kn, .int 0, .int 0, .int 0, .ref ml, .ref cl, .ref rg, .ref tr, .ref (aK 0), .ref (aK 0), .ref fl, .int 0, .int 0, .int lH_27, .int lN_28, .int lO_29, .int lS_30, .int lM_31, .ref lb_32]))]) [0] (by decide) rfl
                have hK9 := hK.sub (tys' := [(cI, .int)]) [0] rfl
                exact W.iret (v := lO_29) hx hb hr (fun t ht hW => ⟨⟨lO_29, [.int fA_25, .int fB_26, .ref kn, .int 0, .int 0, .int 0, .ref ml, .ref cl, .ref rg, .ref tr, .ref (aK 0), .ref (aK 0), .ref fl, .int 0, .int 0, .int lH_27, .int lN_28, .int lO_29, .int lS_30, .int lM_31, .ref lb_32], rfl, (Or.inl ⟨⟨hn_6, hwy⟩, rfl, by rw [lsC_nI (by decide) hk2, ← hw_34]; simp [lsAns, c45_35, c58_36, c71_37]⟩), ⟨by rw [ht]; exact hP9, va_K.moved hW.alike hK9, hD9⟩⟩, hS.F ht⟩) hS.2.2 dX15_listed_98
            · refine lv_aload_n hx hb dX15_listed_61 rfl (lv_at hl 0 rfl) ?_
              refine va_get (D := (dC, dI)) (ci := 20) (v := .int lN_28) (C := RX15) (T := TX15) (N := 21) hx hb hts iWX15 hown hK hP 0 rfl rfl 16 (by decide) (hts (.fieldLink RX15 301 "BeaverhallModel" "listedNever" "I") (by decide +kernel)) (fun _ h9 => h9) rfl dX15_listed_62 ?_
              refine lv_goto (tgt := 98) hx hb dX15_listed_65 (by decide) ?_
              have hP9 := hP.sub (ws' := [(xm, .inr (20, [.int fA_25, .int fB_26, .ref kn, .int 0, .int 0, .int 0, .ref ml, .ref cl, .ref rg, .ref tr, .ref (aK 0), .ref (aK 0), .ref fl, .int 0, .int 0, .int lH_27, .int lN_28, .int lO_29, .int lS_30, .int lM_31, .ref lb_32]))]) [0] rfl
              have hD9 := hD.sub (ws' := [(xm, .inr (20, [.int fA_25, .int fB_26, .ref kn, .int 0, .int 0, .int 0, .ref ml, .ref cl, .ref rg, .ref tr, .ref (aK 0), .ref (aK 0), .ref fl, .int 0, .int 0, .int lH_27, .int lN_28, .int lO_29, .int lS_30, .int lM_31, .ref lb_32]))]) [0] (by decide) rfl
              have hK9 := hK.sub (tys' := [(cI, .int)]) [0] rfl
              exact W.iret (v := lN_28) hx hb hr (fun t ht hW => ⟨⟨lN_28, [.int fA_25, .int fB_26, .ref kn, .int 0, .int 0, .int 0, .ref ml, .ref cl, .ref rg, .ref tr, .ref (aK 0), .ref (aK 0), .ref fl, .int 0, .int 0, .int lH_27, .int lN_28, .int lO_29, .int lS_30, .int lM_31, .ref lb_32], rfl, (Or.inl ⟨⟨hn_6, hwy⟩, rfl, by rw [lsC_nI (by decide) hk2, ← hw_34]; simp [lsAns, c45_35, c58_36]⟩), ⟨by rw [ht]; exact hP9, va_K.moved hW.alike hK9, hD9⟩⟩, hS.F ht⟩) hS.2.2 dX15_listed_98
          · refine lv_aload_n hx hb dX15_listed_48 rfl (lv_at hl 0 rfl) ?_
            refine va_get (D := (dC, dI)) (ci := 20) (v := .int lH_27) (C := RX15) (T := TX15) (N := 21) hx hb hts iWX15 hown hK hP 0 rfl rfl 15 (by decide) (hts (.fieldLink RX15 307 "BeaverhallModel" "listedHalting" "I") (by decide +kernel)) (fun _ h9 => h9) rfl dX15_listed_49 ?_
            refine lv_goto (tgt := 98) hx hb dX15_listed_52 (by decide) ?_
            have hP9 := hP.sub (ws' := [(xm, .inr (20, [.int fA_25, .int fB_26, .ref kn, .int 0, .int 0, .int 0, .ref ml, .ref cl, .ref rg, .ref tr, .ref (aK 0), .ref (aK 0), .ref fl, .int 0, .int 0, .int lH_27, .int lN_28, .int lO_29, .int lS_30, .int lM_31, .ref lb_32]))]) [0] rfl
            have hD9 := hD.sub (ws' := [(xm, .inr (20, [.int fA_25, .int fB_26, .ref kn, .int 0, .int 0, .int 0, .ref ml, .ref cl, .ref rg, .ref tr, .ref (aK 0), .ref (aK 0), .ref fl, .int 0, .int 0, .int lH_27, .int lN_28, .int lO_29, .int lS_30, .int lM_31, .ref lb_32]))]) [0] (by decide) rfl
            have hK9 := hK.sub (tys' := [(cI, .int)]) [0] rfl
            exact W.iret (v := lH_27) hx hb hr (fun t ht hW => ⟨⟨lH_27, [.int fA_25, .int fB_26, .ref kn, .int 0, .int 0, .int 0, .ref ml, .ref cl, .ref rg, .ref tr, .ref (aK 0), .ref (aK 0), .ref fl, .int 0, .int 0, .int lH_27, .int lN_28, .int lO_29, .int lS_30, .int lM_31, .ref lb_32], rfl, (Or.inl ⟨⟨hn_6, hwy⟩, rfl, by rw [lsC_nI (by decide) hk2, ← hw_34]; simp [lsAns, c45_35]⟩), ⟨by rw [ht]; exact hP9, va_K.moved hW.alike hK9, hD9⟩⟩, hS.F ht⟩) hS.2.2 dX15_listed_98
      · exact (c31_10 (by decide)).elim
    · have hwn := hw_8.elim (fun h9 => absurd (Int32.not_le.mp c16_9) h9.2) (fun h9 => h9.1)
      refine lv_iconst (v := 1) hx hb dX15_listed_19 (by decide) ?_
      refine lv_goto (tgt := 24) hx hb dX15_listed_20 (by decide) ?_
      refine va_put (D := (dC, dI)) (ci := 20) (v := .int 1) (ty := .int) (C := RX15) (T := TX15) (N := 21) hx hb hts iWX15 tyX15 tyX15_ok nmX15 hown hK hP hD hS 0 rfl rfl 5 (by decide) (hts (.fieldLink RX15 209 "BeaverhallModel" "thrown" "I") (by decide +kernel)) (fun _ h9 => h9) rfl (by decide +kernel) rfl rfl (Nat.le_of_ble_eq_true rfl) dX15_listed_24 (fun H locs hP hD hS => ?_)
      have hP : va_P (dC, dI) vwCl [(xm, .inr (20, [.int 0, .int 0, .ref kn, .int 0, .int 0, .int 1, .ref ml, .ref cl, .ref rg, .ref tr, .ref (aK 0), .ref (aK 0), .ref fl, .int 0, .int 0, .int 0, .int 0, .int 0, .int 0, .int 0, .null]))] H := hP
      have hD : va_D A [(xm, .inr (20, [.int 0, .int 0, .ref kn, .int 0, .int 0, .int 1, .ref ml, .ref cl, .ref rg, .ref tr, .ref (aK 0), .ref (aK 0), .ref fl, .int 0, .int 0, .int 0, .int 0, .int 0, .int 0, .int 0, .null]))] := hD
      refine lv_aload_n hx hb dX15_listed_27 rfl (lv_at hl 0 rfl) ?_
      refine va_get (D := (dC, dI)) (ci := 20) (v := .int 1) (C := RX15) (T := TX15) (N := 21) hx hb hts iWX15 hown hK hP 0 rfl rfl 5 (by decide) (hts (.fieldLink RX15 209 "BeaverhallModel" "thrown" "I") (by decide +kernel)) (fun _ h9 => h9) rfl dX15_listed_28 ?_
      refine lv_if_le (tgt := 36) hx hb dX15_listed_31 (by decide) (fun c31_39 => ?_) (fun c31_39 => ?_)
      · exact absurd c31_39 (by decide)
      · refine lv_iconst (v := 0) hx hb dX15_listed_34 (by decide) ?_
        have hP9 := hP.sub (ws' := [(xm, .inr (20, [.int 0, .int 0, .ref kn, .int 0, .int 0, .int 1, .ref ml, .ref cl, .ref rg, .ref tr, .ref (aK 0), .ref (aK 0), .ref fl, .int 0, .int 0, .int 0, .int 0, .int 0, .int 0, .int 0, .null]))]) [0] rfl
        have hD9 := hD.sub (ws' := [(xm, .inr (20, [.int 0, .int 0, .ref kn, .int 0, .int 0, .int 1, .ref ml, .ref cl, .ref rg, .ref tr, .ref (aK 0), .ref (aK 0), .ref fl, .int 0, .int 0, .int 0, .int 0, .int 0, .int 0, .int 0, .null]))]) [0] (by decide) rfl
        have hK9 := hK.sub (tys' := [(cI, .int)]) [0] rfl
        refine W.widen (k := 14340) (n := 5805426) (Nat.le_of_ble_eq_true rfl) (Nat.le_of_ble_eq_true rfl) ?_
        exact W.iret (v := 0) hx hb hr (fun t ht hW => ⟨⟨0, [.int 0, .int 0, .ref kn, .int 0, .int 0, .int 1, .ref ml, .ref cl, .ref rg, .ref tr, .ref (aK 0), .ref (aK 0), .ref fl, .int 0, .int 0, .int 0, .int 0, .int 0, .int 0, .int 0, .null], rfl, (Or.inr ⟨(fun h9 => hwn h9.2), rfl⟩), ⟨by rw [ht]; exact hP9, va_K.moved hW.alike hK9, hD9⟩⟩, hS.F ht⟩) hS.2.2 dX15_listed_35

set_option maxHeartbeats 4000000 in
set_option maxRecDepth 100000 in
/-- X15_champion -/
theorem c_X15_champion (l : Launch) (dC : Nat → ClassId) (dI : Nat → Nat → Nat) (xm ml cl fl kn rg tr : Nat) (e0 : Nat) (aK aV : Nat → Nat) (cI : ClassId) (p0 p1 : Int32) (sz : Nat) : Met l yX15_champion wsX15_champion ({ frames := 21, cells := 14341, slots := 5805436, locals := 472 }) (va_Pc [.ref xm, .int p0, .int p1] (cPCz (zM e0 aK aV) dC dI [(xm, .inr (20, [.int 0, .int 0, .ref kn, .int 0, .int 0, .int 0, .ref ml, .ref cl, .ref rg, .ref tr, .ref (aK 0), .ref (aK 0), .ref fl, .int 0, .int 0, .int 0, .int 0, .int 0, .int 0, .int 0, .null])), (ml, .inr (4, [.int 0, .ref e0, .int 0]))] [(cI, .int)] sz)) (va_Qi (fun (r : Int32) (u : List Value) => (pListing p0 p1 ∧ u[5]? = some (.int 0) ∧ r = 0) ∨ (¬ pListing p0 p1 ∧ u[5]? = some (.int 1))) (fun (u : List Value) t => cQB dC dI [(xm, .inr (20, u))] [(cI, .int)] (va_A [(xm, .inr (20, [.int 0, .int 0, .ref kn, .int 0, .int 0, .int 0, .ref ml, .ref cl, .ref rg, .ref tr, .ref (aK 0), .ref (aK 0), .ref fl, .int 0, .int 0, .int 0, .int 0, .int 0, .int 0, .int 0, .null])), (ml, .inr (4, [.int 0, .ref e0, .int 0]))] sz) t) (va_A [(xm, .inr (20, [.int 0, .int 0, .ref kn, .int 0, .int 0, .int 0, .ref ml, .ref cl, .ref rg, .ref tr, .ref (aK 0), .ref (aK 0), .ref fl, .int 0, .int 0, .int 0, .int 0, .int 0, .int 0, .int 0, .null])), (ml, .inr (4, [.int 0, .ref e0, .int 0]))] sz)) 14341 5805436 (va_A [(xm, .inr (20, [.int 0, .int 0, .ref kn, .int 0, .int 0, .int 0, .ref ml, .ref cl, .ref rg, .ref tr, .ref (aK 0), .ref (aK 0), .ref fl, .int 0, .int 0, .int 0, .int 0, .int 0, .int 0, .int 0, .null])), (ml, .inr (4, [.int 0, .ref e0, .int 0]))] sz) := by
  refine Met.ofW (cc := cX15_champion) (maxL := 3) (ret := (some .int)) (by decide) rfl ?_
  intro p e s m args below meth c s₁ B hml hv
  obtain ⟨rfl, ⟨hsz, hP, hK, hD0, hN⟩, hZ⟩ := hv
  have hx := B.exec
  have hb := B.bytes
  have hr := B.returns
  have hts := atoms_spec (ws := wsX15_champion) B.pre
  have hown : s.vm.findClass RX15 = some m.cls := findClass_of_methodNamed B.named
  have hlocks := B.notSynchronized
  subst hsz
  have hD := hD0.self (sz := s.heap.size)
  generalize hAe : va_A [(xm, .inr (20, [.int 0, .int 0, .ref kn, .int 0, .int 0, .int 0, .ref ml, .ref cl, .ref rg, .ref tr, .ref (aK 0), .ref (aK 0), .ref fl, .int 0, .int 0, .int 0, .int 0, .int 0, .int 0, .int 0, .null])), (ml, .inr (4, [.int 0, .ref e0, .int 0]))] s.heap.size = A at hD hZ ⊢
  have hA : ∀ q : Nat, s.heap.size ≤ q → A q := fun q h => by rw [← hAe]; exact Or.inr h
  have hS : va_S A s.heap s.heap [] := va_S.rf
  have hP : va_P (dC, dI) vwCl [(xm, .inr (20, [.int 0, .int 0, .ref kn, .int 0, .int 0, .int 0, .ref ml, .ref cl, .ref rg, .ref tr, .ref (aK 0), .ref (aK 0), .ref fl, .int 0, .int 0, .int 0, .int 0, .int 0, .int 0, .int 0, .null])), (ml, .inr (4, [.int 0, .ref e0, .int 0]))] s.heap := hP
  have hD : va_D A [(xm, .inr (20, [.int 0, .int 0, .ref kn, .int 0, .int 0, .int 0, .ref ml, .ref cl, .ref rg, .ref tr, .ref (aK 0), .ref (aK 0), .ref fl, .int 0, .int 0, .int 0, .int 0, .int 0, .int 0, .int 0, .null])), (ml, .inr (4, [.int 0, .ref e0, .int 0]))] := hD
  have hl := lv_entry ([.ref xm, .int p0, .int p1]) (n := 3) (Nat.le_of_ble_eq_true rfl)
  rw [lg_entry_eq]
  generalize (lg_sl ([.ref xm, .int p0, .int p1]) ++ List.replicate (3 - (lg_sl ([.ref xm, .int p0, .int p1])).length) Slot.unset).toArray = ls at hl ⊢
  have hl : lv_has ls 3 [(0, .ref xm), (1, .int p0), (2, .int p1)] := hl
  have iWX15 : ∀ w ∈ u_ws RX15 TX15 21, w ∈ wsX15_champion := by decide +kernel
  refine lv_aload_n hx hb dX15_champion_0 rfl (lv_at hl 0 rfl) ?_
  refine lv_iload_n hx hb dX15_champion_1 rfl (lv_at hl 1 rfl) ?_
  refine lv_iload_n hx hb dX15_champion_2 rfl (lv_at hl 2 rfl) ?_
  have hPc := hP.sub (ws' := []) [] rfl
  have hDc := hD.sub (ws' := []) [] (by decide) rfl
  have hKc := hK.sub (tys' := []) [] rfl
  have hFc := va_free (wc := []) hD hS hA [] rfl
  refine va_calli (va_runS (As := [.int p0, .int p1]) (rest := [.ref xm]) ⟨hx, hb, hml, hown, hts⟩ (c_X15_isListing l dC dI p0 p1 s.heap.size) (va_cwS 2 hts gX15_champion_X15_isListing rfl rfl rfl (by decide +kernel) ⟨Nat.le_of_ble_eq_true rfl, Nat.le_of_ble_eq_true rfl⟩) (pcS hPc hDc hKc hN) rfl rfl hl.1 rfl (lv_room (Nat.le_of_ble_eq_true rfl)) dX15_champion_3 ⟨Nat.le_of_ble_eq_true rfl, Nat.le_of_ble_eq_true rfl⟩) hS (fun q _ h => hFc q h) hFc (fun r_1 u t H1 locs ht hvm hw_2 hB hz1 hk1 hS => ?_)
  obtain ⟨hP1, hK1, hD1⟩ := hB
  rw [ht] at hP1
  try dsimp only at hw_2
  obtain ⟨hP, hD⟩ := va_join (wr := [(xm, .inr (20, [.int 0, .int 0, .ref kn, .int 0, .int 0, .int 0, .ref ml, .ref cl, .ref rg, .ref tr, .ref (aK 0), .ref (aK 0), .ref fl, .int 0, .int 0, .int 0, .int 0, .int 0, .int 0, .int 0, .null])), (ml, .inr (4, [.int 0, .ref e0, .int 0]))]) (w1 := []) hP hD [] [0, 1] rfl rfl (by decide) (by decide) hk1 hFc hP1 hD1
  generalize H1 = H at hP hS ⊢
  have hP : va_P (dC, dI) vwCl [(xm, .inr (20, [.int 0, .int 0, .ref kn, .int 0, .int 0, .int 0, .ref ml, .ref cl, .ref rg, .ref tr, .ref (aK 0), .ref (aK 0), .ref fl, .int 0, .int 0, .int 0, .int 0, .int 0, .int 0, .int 0, .null])), (ml, .inr (4, [.int 0, .ref e0, .int 0]))] H := hP
  have hD : va_D A [(xm, .inr (20, [.int 0, .int 0, .ref kn, .int 0, .int 0, .int 0, .ref ml, .ref cl, .ref rg, .ref tr, .ref (aK 0), .ref (aK 0), .ref fl, .int 0, .int 0, .int 0, .int 0, .int 0, .int 0, .int 0, .null])), (ml, .inr (4, [.int 0, .ref e0, .int 0]))] := hD
  refine lv_if_ne (tgt := 13) hx hb dX15_champion_6 (by decide) (fun c6_3 => ?_) (fun c6_3 => ?_)
  · have hn_4 := (hw_2).elim (fun h => h.2) (fun h => absurd h.1 c6_3)
    refine lv_aload_n hx hb dX15_champion_13 rfl (lv_at hl 0 rfl) ?_
    refine va_get (D := (dC, dI)) (ci := 20) (v := .ref ml) (C := RX15) (T := TX15) (N := 21) hx hb hts iWX15 hown hK hP 0 rfl rfl 6 (by decide) (hts (.fieldLink RX15 181 "BeaverhallModel" "machines" "Ljava/util/ArrayList;") (by decide +kernel)) (fun _ h9 => h9) rfl dX15_champion_14 ?_
    have hPc := hP.sub (ws' := [(ml, .inr (4, [.int 0, .ref e0, .int 0]))]) [1] rfl
    have hDc := hD.sub (ws' := [(ml, .inr (4, [.int 0, .ref e0, .int 0]))]) [1] (by decide) rfl
    have hKc := hK.sub (tys' := []) [] rfl
    have hFc := va_free (wc := [(ml, .inr (4, [.int 0, .ref e0, .int 0]))]) hD hS hA [1] rfl
    refine va_calli (va_runV (As := []) (rest := [.ref xm]) ⟨hx, hb, hml, hown, hts⟩ (c_Jx4a65c_size_8abf5 l dC dI ml e0 0 0 H.size) (cwV 0 hts gX15_champion_Jx4a65c_size_8abf5 rfl rfl rfl (by decide +kernel) ⟨Nat.le_of_ble_eq_true rfl, Nat.le_of_ble_eq_true rfl⟩) (pcV hPc hDc hKc hN (ci := 4) (q0 := 0) rfl rfl) rfl rfl hl.1 rfl (lv_room (Nat.le_of_ble_eq_true rfl)) dX15_champion_17 ⟨Nat.le_of_ble_eq_true rfl, Nat.le_of_ble_eq_true rfl⟩) hS (fun q _ h => hFc q h) hFc (fun r_5 u t H1 locs ht hvm hw_6 hB hz1 hk1 hS => ?_)
    obtain ⟨hP1, hK1, hD1⟩ := hB
    rw [ht] at hP1
    try dsimp only at hw_6
    obtain ⟨hP, hD⟩ := va_join (wr := [(xm, .inr (20, [.int 0, .int 0, .ref kn, .int 0, .int 0, .int 0, .ref ml, .ref cl, .ref rg, .ref tr, .ref (aK 0), .ref (aK 0), .ref fl, .int 0, .int 0, .int 0, .int 0, .int 0, .int 0, .int 0, .null]))]) (w1 := [(ml, .inr (4, [.int 0, .ref e0, .int 0]))]) hP hD [1] [0] rfl rfl (by decide) (by decide) hk1 hFc hP1 hD1
    generalize H1 = H at hP hS ⊢
    have hP : va_P (dC, dI) vwCl [(xm, .inr (20, [.int 0, .int 0, .ref kn, .int 0, .int 0, .int 0, .ref ml, .ref cl, .ref rg, .ref tr, .ref (aK 0), .ref (aK 0), .ref fl, .int 0, .int 0, .int 0, .int 0, .int 0, .int 0, .int 0, .null])), (ml, .inr (4, [.int 0, .ref e0, .int 0]))] H := hP
    have hD : va_D A [(xm, .inr (20, [.int 0, .int 0, .ref kn, .int 0, .int 0, .int 0, .ref ml, .ref cl, .ref rg, .ref tr, .ref (aK 0), .ref (aK 0), .ref fl, .int 0, .int 0, .int 0, .int 0, .int 0, .int 0, .int 0, .null])), (ml, .inr (4, [.int 0, .ref e0, .int 0]))] := hD
    subst hw_6
    refine lv_bipush (v := 16) hx hb dX15_champion_20 (by decide) ?_
    refine lv_icmp_ne (tgt := 29) hx hb dX15_champion_22 (by decide) (fun c22_7 => ?_) (fun c22_7 => ?_)
    · refine lv_iconst (v := 0) hx hb dX15_champion_29 (by decide) ?_
      refine va_put (D := (dC, dI)) (ci := 20) (v := .int 0) (ty := .int) (C := RX15) (T := TX15) (N := 21) hx hb hts iWX15 tyX15 tyX15_ok nmX15 hown hK hP hD hS 0 rfl rfl 5 (by decide) (hts (.fieldLink RX15 209 "BeaverhallModel" "thrown" "I") (by decide +kernel)) (fun _ h9 => h9) rfl (by decide +kernel) rfl rfl (Nat.le_of_ble_eq_true rfl) dX15_champion_30 (fun H locs hP hD hS => ?_)
      have hP : va_P (dC, dI) vwCl [(xm, .inr (20, [.int 0, .int 0, .ref kn, .int 0, .int 0, .int 0, .ref ml, .ref cl, .ref rg, .ref tr, .ref (aK 0), .ref (aK 0), .ref fl, .int 0, .int 0, .int 0, .int 0, .int 0, .int 0, .int 0, .null])), (ml, .inr (4, [.int 0, .ref e0, .int 0]))] H := hP
      have hD : va_D A [(xm, .inr (20, [.int 0, .int 0, .ref kn, .int 0, .int 0, .int 0, .ref ml, .ref cl, .ref rg, .ref tr, .ref (aK 0), .ref (aK 0), .ref fl, .int 0, .int 0, .int 0, .int 0, .int 0, .int 0, .int 0, .null])), (ml, .inr (4, [.int 0, .ref e0, .int 0]))] := hD
      refine lv_aload_n hx hb dX15_champion_33 rfl (lv_at hl 0 rfl) ?_
      refine va_get (D := (dC, dI)) (ci := 20) (v := .int 0) (C := RX15) (T := TX15) (N := 21) hx hb hts iWX15 hown hK hP 0 rfl rfl 5 (by decide) (hts (.fieldLink RX15 209 "BeaverhallModel" "thrown" "I") (by decide +kernel)) (fun _ h9 => h9) rfl dX15_champion_34 ?_
      refine lv_if_le (tgt := 42) hx hb dX15_champion_37 (by decide) (fun c37_8 => ?_) (fun c37_8 => ?_)
      · obtain ⟨hs9, k9, hk1, hk2, ek9⟩ := lst_nums hn_4
        subst ek9
        rcases hs9 with es9 | es9
        · subst es9
          have hl : lv_has ls 3 [(0, .ref xm), (1, .int (nI 1)), (2, .int (nI k9))] := hl
          refine lv_aload_n hx hb dX15_champion_42 rfl (lv_at hl 0 rfl) ?_
          refine lv_iload_n hx hb dX15_champion_43 rfl (lv_at hl 1 rfl) ?_
          refine lv_iload_n hx hb dX15_champion_44 rfl (lv_at hl 2 rfl) ?_
          have hPc := hP.sub (ws' := [(xm, .inr (20, [.int 0, .int 0, .ref kn, .int 0, .int 0, .int 0, .ref ml, .ref cl, .ref rg, .ref tr, .ref (aK 0), .ref (aK 0), .ref fl, .int 0, .int 0, .int 0, .int 0, .int 0, .int 0, .int 0, .null]))]) [0] rfl
          have hDc := hD.sub (ws' := [(xm, .inr (20, [.int 0, .int 0, .ref kn, .int 0, .int 0, .int 0, .ref ml, .ref cl, .ref rg, .ref tr, .ref (aK 0), .ref (aK 0), .ref fl, .int 0, .int 0, .int 0, .int 0, .int 0, .int 0, .int 0, .null]))]) [0] (by decide) rfl
          have hKc := hK.sub (tys' := [(cI, .int)]) [0] rfl
          have hFc := va_free (wc := [(xm, .inr (20, [.int 0, .int 0, .ref kn, .int 0, .int 0, .int 0, .ref ml, .ref cl, .ref rg, .ref tr, .ref (aK 0), .ref (aK 0), .ref fl, .int 0, .int 0, .int 0, .int 0, .int 0, .int 0, .int 0, .null]))]) hD hS hA [0] rfl
          refine va_callv (va_runV (As := [.int (nI 1), .int (nI k9)]) (rest := []) ⟨hx, hb, hml, hown, hts⟩ (c_X15_listAll_1 l dC dI cI xm 0 0 0 0 0 0 0 (.ref kn) (.int 0) (.int 0) (.int 0) (.ref ml) (.ref cl) (.ref rg) (.ref tr) (.ref (aK 0)) (.ref (aK 0)) (.ref fl) (.int 0) (.int 0) .null k9 (by omega) H.size) (cwV 2 hts gX15_champion_X15_listAll rfl rfl rfl (by decide +kernel) ⟨Nat.le_of_ble_eq_true rfl, Nat.le_of_ble_eq_true rfl⟩) (pcV hPc hDc hKc hN (ci := 20) (q0 := 0) rfl rfl) rfl rfl hl.1 rfl (lv_room (Nat.le_of_ble_eq_true rfl)) dX15_champion_45 ⟨Nat.le_of_ble_eq_true rfl, Nat.le_of_ble_eq_true rfl⟩) hS (fun q _ h => hFc q h) hFc (fun u t H1 locs ht hvm hw_18 hB hz1 hk1 hS => ?_)
          obtain ⟨fA_9, fB_10, lH_11, lN_12, lO_13, lS_14, lM_15, lb_16, lbs_17⟩ := u
          obtain ⟨hP1, hK1, hD1⟩ := hB
          rw [ht] at hP1
          try dsimp only at hw_18
          obtain ⟨hP, hD⟩ := va_join (wr := [(ml, .inr (4, [.int 0, .ref e0, .int 0]))]) (w1 := [(xm, .inr (20, [.int fA_9, .int fB_10, .ref kn, .int 0, .int 0, .int 0, .ref ml, .ref cl, .ref rg, .ref tr, .ref (aK 0), .ref (aK 0), .ref fl, .int 0, .int 0, .int lH_11, .int lN_12, .int lO_13, .int lS_14, .int lM_15, .ref lb_16])), (lb_16, .inr (18, lbs_17))]) hP hD [0] [1] rfl rfl (by decide) (by decide) hk1 hFc hP1 hD1
          generalize H1 = H at hP hS ⊢
          have hP : va_P (dC, dI) vwCl [(ml, .inr (4, [.int 0, .ref e0, .int 0])), (xm, .inr (20, [.int fA_9, .int fB_10, .ref kn, .int 0, .int 0, .int 0, .ref ml, .ref cl, .ref rg, .ref tr, .ref (aK 0), .ref (aK 0), .ref fl, .int 0, .int 0, .int lH_11, .int lN_12, .int lO_13, .int lS_14, .int lM_15, .ref lb_16])), (lb_16, .inr (18, lbs_17))] H := hP
          have hD : va_D A [(ml, .inr (4, [.int 0, .ref e0, .int 0])), (xm, .inr (20, [.int fA_9, .int fB_10, .ref kn, .int 0, .int 0, .int 0, .ref ml, .ref cl, .ref rg, .ref tr, .ref (aK 0), .ref (aK 0), .ref fl, .int 0, .int 0, .int lH_11, .int lN_12, .int lO_13, .int lS_14, .int lM_15, .ref lb_16])), (lb_16, .inr (18, lbs_17))] := hD
          refine W.widen (k := 228) (n := 90642) (Nat.le_of_ble_eq_true rfl) (Nat.le_of_ble_eq_true rfl) ?_
          refine lv_aload_n hx hb dX15_champion_48 rfl (lv_at hl 0 rfl) ?_
          refine va_get (D := (dC, dI)) (ci := 20) (v := .ref ml) (C := RX15) (T := TX15) (N := 21) hx hb hts iWX15 hown hK hP 1 rfl rfl 6 (by decide) (hts (.fieldLink RX15 181 "BeaverhallModel" "machines" "Ljava/util/ArrayList;") (by decide +kernel)) (fun _ h9 => h9) rfl dX15_champion_49 ?_
          refine lv_aload_n hx hb dX15_champion_52 rfl (lv_at hl 0 rfl) ?_
          refine va_get (D := (dC, dI)) (ci := 20) (v := .ref lb_16) (C := RX15) (T := TX15) (N := 21) hx hb hts iWX15 hown hK hP 1 rfl rfl 20 (by decide) (hts (.fieldLink RX15 313 "BeaverhallModel" "listedBest" "LBeaverhallModel$Machine;") (by decide +kernel)) (fun _ h9 => h9) rfl dX15_champion_53 ?_
          have hPc := hP.sub (ws' := [(ml, .inr (4, [.int 0, .ref e0, .int 0])), (lb_16, .inr (18, lbs_17))]) [0, 2] rfl
          have hDc := hD.sub (ws' := [(ml, .inr (4, [.int 0, .ref e0, .int 0])), (lb_16, .inr (18, lbs_17))]) [0, 2] (by decide) rfl
          have hKc := hK.sub (tys' := [(cI, .int)]) [0] rfl
          have hFc := va_free (wc := [(ml, .inr (4, [.int 0, .ref e0, .int 0])), (lb_16, .inr (18, lbs_17))]) hD hS hA [0, 2] rfl
          refine va_calli (va_runV (As := [.ref lb_16]) (rest := []) ⟨hx, hb, hml, hown, hts⟩ (c_Jx4a65c_add_9ea2d l dC dI e0 aK aV cI ml lb_16 (.inr (18, lbs_17)) RX13 ooH_obj 0 H.size) (cwV 1 hts gX15_champion_Jx4a65c_add_9ea2d rfl rfl rfl (by decide +kernel) ⟨Nat.le_of_ble_eq_true rfl, Nat.le_of_ble_eq_true rfl⟩) (pcVz (zM_ok e0 aK aV) hPc hDc hKc hN hZ hS hFc (ci := 4) (q0 := 0) rfl rfl) rfl rfl hl.1 rfl (lv_room (Nat.le_of_ble_eq_true rfl)) dX15_champion_56 ⟨Nat.le_of_ble_eq_true rfl, Nat.le_of_ble_eq_true rfl⟩) hS (fun q _ h => hFc q h) hFc (fun r_21 u t H1 locs ht hvm hw_22 hB hz1 hk1 hS => ?_)
          obtain ⟨q_19, m_20⟩ := u
          obtain ⟨hP1, hK1, hD1⟩ := hB
          rw [ht] at hP1
          try dsimp only at hw_22
          obtain ⟨hP, hD⟩ := va_join (wr := [(xm, .inr (20, [.int fA_9, .int fB_10, .ref kn, .int 0, .int 0, .int 0, .ref ml, .ref cl, .ref rg, .ref tr, .ref (aK 0), .ref (aK 0), .ref fl, .int 0, .int 0, .int lH_11, .int lN_12, .int lO_13, .int lS_14, .int lM_15, .ref lb_16]))]) (w1 := [(ml, .inr (4, [.int m_20, .ref q_19, .int 1])), (lb_16, .inr (18, lbs_17))]) hP hD [0, 2] [1] rfl rfl (by decide) (by decide) hk1 hFc hP1 hD1
          generalize H1 = H at hP hS ⊢
          have hP : va_P (dC, dI) vwCl [(xm, .inr (20, [.int fA_9, .int fB_10, .ref kn, .int 0, .int 0, .int 0, .ref ml, .ref cl, .ref rg, .ref tr, .ref (aK 0), .ref (aK 0), .ref fl, .int 0, .int 0, .int lH_11, .int lN_12, .int lO_13, .int lS_14, .int lM_15, .ref lb_16])), (ml, .inr (4, [.int m_20, .ref q_19, .int 1])), (lb_16, .inr (18, lbs_17))] H := hP
          have hD : va_D A [(xm, .inr (20, [.int fA_9, .int fB_10, .ref kn, .int 0, .int 0, .int 0, .ref ml, .ref cl, .ref rg, .ref tr, .ref (aK 0), .ref (aK 0), .ref fl, .int 0, .int 0, .int lH_11, .int lN_12, .int lO_13, .int lS_14, .int lM_15, .ref lb_16])), (ml, .inr (4, [.int m_20, .ref q_19, .int 1])), (lb_16, .inr (18, lbs_17))] := hD
          refine W.widen (k := 229) (n := 90652) (Nat.le_of_ble_eq_true rfl) (Nat.le_of_ble_eq_true rfl) ?_
          refine lv_pop hx hb dX15_champion_59 rfl ?_
          refine lv_aload_n hx hb dX15_champion_60 rfl (lv_at hl 0 rfl) ?_
          refine va_get (D := (dC, dI)) (ci := 20) (v := .ref ml) (C := RX15) (T := TX15) (N := 21) hx hb hts iWX15 hown hK hP 0 rfl rfl 6 (by decide) (hts (.fieldLink RX15 181 "BeaverhallModel" "machines" "Ljava/util/ArrayList;") (by decide +kernel)) (fun _ h9 => h9) rfl dX15_champion_61 ?_
          have hPc := hP.sub (ws' := [(ml, .inr (4, [.int m_20, .ref q_19, .int 1]))]) [1] rfl
          have hDc := hD.sub (ws' := [(ml, .inr (4, [.int m_20, .ref q_19, .int 1]))]) [1] (by decide) rfl
          have hKc := hK.sub (tys' := []) [] rfl
          have hFc := va_free (wc := [(ml, .inr (4, [.int m_20, .ref q_19, .int 1]))]) hD hS hA [1] rfl
          refine va_calli (va_runV (As := []) (rest := []) ⟨hx, hb, hml, hown, hts⟩ (c_Jx4a65c_size_8abf5 l dC dI ml q_19 m_20 1 H.size) (cwV 0 hts gX15_champion_Jx4a65c_size_8abf5 rfl rfl rfl (by decide +kernel) ⟨Nat.le_of_ble_eq_true rfl, Nat.le_of_ble_eq_true rfl⟩) (pcV hPc hDc hKc hN (ci := 4) (q0 := 0) rfl rfl) rfl rfl hl.1 rfl (lv_room (Nat.le_of_ble_eq_true rfl)) dX15_champion_64 ⟨Nat.le_of_ble_eq_true rfl, Nat.le_of_ble_eq_true rfl⟩) hS (fun q _ h => hFc q h) hFc (fun r_23 u t H1 locs ht hvm hw_24 hB hz1 hk1 hS => ?_)
          obtain ⟨hP1, hK1, hD1⟩ := hB
          rw [ht] at hP1
          try dsimp only at hw_24
          obtain ⟨hP, hD⟩ := va_join (wr := [(xm, .inr (20, [.int fA_9, .int fB_10, .ref kn, .int 0, .int 0, .int 0, .ref ml, .ref cl, .ref rg, .ref tr, .ref (aK 0), .ref (aK 0), .ref fl, .int 0, .int 0, .int lH_11, .int lN_12, .int lO_13, .int lS_14, .int lM_15, .ref lb_16])), (lb_16, .inr (18, lbs_17))]) (w1 := [(ml, .inr (4, [.int m_20, .ref q_19, .int 1]))]) hP hD [1] [0, 2] rfl rfl (by decide) (by decide) hk1 hFc hP1 hD1
          generalize H1 = H at hP hS ⊢
          have hP : va_P (dC, dI) vwCl [(xm, .inr (20, [.int fA_9, .int fB_10, .ref kn, .int 0, .int 0, .int 0, .ref ml, .ref cl, .ref rg, .ref tr, .ref (aK 0), .ref (aK 0), .ref fl, .int 0, .int 0, .int lH_11, .int lN_12, .int lO_13, .int lS_14, .int lM_15, .ref lb_16])), (lb_16, .inr (18, lbs_17)), (ml, .inr (4, [.int m_20, .ref q_19, .int 1]))] H := hP
          have hD : va_D A [(xm, .inr (20, [.int fA_9, .int fB_10, .ref kn, .int 0, .int 0, .int 0, .ref ml, .ref cl, .ref rg, .ref tr, .ref (aK 0), .ref (aK 0), .ref fl, .int 0, .int 0, .int lH_11, .int lN_12, .int lO_13, .int lS_14, .int lM_15, .ref lb_16])), (lb_16, .inr (18, lbs_17)), (ml, .inr (4, [.int m_20, .ref q_19, .int 1]))] := hD
          subst hw_24
          refine lv_iconst (v := 1) hx hb dX15_champion_67 (by decide) ?_
          refine lv_isub hx hb dX15_champion_68 ?_
          have hP9 := hP.sub (ws' := [(xm, .inr (20, [.int fA_9, .int fB_10, .ref kn, .int 0, .int 0, .int 0, .ref ml, .ref cl, .ref rg, .ref tr, .ref (aK 0), .ref (aK 0), .ref fl, .int 0, .int 0, .int lH_11, .int lN_12, .int lO_13, .int lS_14, .int lM_15, .ref lb_16]))]) [0] rfl
          have hD9 := hD.sub (ws' := [(xm, .inr (20, [.int fA_9, .int fB_10, .ref kn, .int 0, .int 0, .int 0, .ref ml, .ref cl, .ref rg, .ref tr, .ref (aK 0), .ref (aK 0), .ref fl, .int 0, .int 0, .int lH_11, .int lN_12, .int lO_13, .int lS_14, .int lM_15, .ref lb_16]))]) [0] (by decide) rfl
          have hK9 := hK.sub (tys' := [(cI, .int)]) [0] rfl
          refine W.widen (k := 14341) (n := 5805436) (Nat.le_of_ble_eq_true rfl) (Nat.le_of_ble_eq_true rfl) ?_
          exact W.iret (v := ((1 : Int32) - 1)) hx hb hr (fun t ht hW => ⟨⟨((1 : Int32) - 1), [.int fA_9, .int fB_10, .ref kn, .int 0, .int 0, .int 0, .ref ml, .ref cl, .ref rg, .ref tr, .ref (aK 0), .ref (aK 0), .ref fl, .int 0, .int 0, .int lH_11, .int lN_12, .int lO_13, .int lS_14, .int lM_15, .ref lb_16], rfl, (Or.inl ⟨hn_4, rfl, by decide⟩), ⟨by rw [ht]; exact hP9, va_K.moved hW.alike hK9, hD9⟩⟩, hS.F ht⟩) hS.2.2 dX15_champion_69
        · subst es9
          have hl : lv_has ls 3 [(0, .ref xm), (1, .int (nI 2)), (2, .int (nI k9))] := hl
          refine lv_aload_n hx hb dX15_champion_42 rfl (lv_at hl 0 rfl) ?_
          refine lv_iload_n hx hb dX15_champion_43 rfl (lv_at hl 1 rfl) ?_
          refine lv_iload_n hx hb dX15_champion_44 rfl (lv_at hl 2 rfl) ?_
          have hPc := hP.sub (ws' := [(xm, .inr (20, [.int 0, .int 0, .ref kn, .int 0, .int 0, .int 0, .ref ml, .ref cl, .ref rg, .ref tr, .ref (aK 0), .ref (aK 0), .ref fl, .int 0, .int 0, .int 0, .int 0, .int 0, .int 0, .int 0, .null]))]) [0] rfl
          have hDc := hD.sub (ws' := [(xm, .inr (20, [.int 0, .int 0, .ref kn, .int 0, .int 0, .int 0, .ref ml, .ref cl, .ref rg, .ref tr, .ref (aK 0), .ref (aK 0), .ref fl, .int 0, .int 0, .int 0, .int 0, .int 0, .int 0, .int 0, .null]))]) [0] (by decide) rfl
          have hKc := hK.sub (tys' := [(cI, .int)]) [0] rfl
          have hFc := va_free (wc := [(xm, .inr (20, [.int 0, .int 0, .ref kn, .int 0, .int 0, .int 0, .ref ml, .ref cl, .ref rg, .ref tr, .ref (aK 0), .ref (aK 0), .ref fl, .int 0, .int 0, .int 0, .int 0, .int 0, .int 0, .int 0, .null]))]) hD hS hA [0] rfl
          refine va_callv (va_runV (As := [.int (nI 2), .int (nI k9)]) (rest := []) ⟨hx, hb, hml, hown, hts⟩ (c_X15_listAll_2 l dC dI cI xm 0 0 0 0 0 0 0 (.ref kn) (.int 0) (.int 0) (.int 0) (.ref ml) (.ref cl) (.ref rg) (.ref tr) (.ref (aK 0)) (.ref (aK 0)) (.ref fl) (.int 0) (.int 0) .null k9 (by omega) H.size) (cwV 2 hts gX15_champion_X15_listAll rfl rfl rfl (by decide +kernel) ⟨Nat.le_of_ble_eq_true rfl, Nat.le_of_ble_eq_true rfl⟩) (pcV hPc hDc hKc hN (ci := 20) (q0 := 0) rfl rfl) rfl rfl hl.1 rfl (lv_room (Nat.le_of_ble_eq_true rfl)) dX15_champion_45 ⟨Nat.le_of_ble_eq_true rfl, Nat.le_of_ble_eq_true rfl⟩) hS (fun q _ h => hFc q h) hFc (fun u t H1 locs ht hvm hw_34 hB hz1 hk1 hS => ?_)
          obtain ⟨fA_25, fB_26, lH_27, lN_28, lO_29, lS_30, lM_31, lb_32, lbs_33⟩ := u
          obtain ⟨hP1, hK1, hD1⟩ := hB
          rw [ht] at hP1
          try dsimp only at hw_34
          obtain ⟨hP, hD⟩ := va_join (wr := [(ml, .inr (4, [.int 0, .ref e0, .int 0]))]) (w1 := [(xm, .inr (20, [.int fA_25, .int fB_26, .ref kn, .int 0, .int 0, .int 0, .ref ml, .ref cl, .ref rg, .ref tr, .ref (aK 0), .ref (aK 0), .ref fl, .int 0, .int 0, .int lH_27, .int lN_28, .int lO_29, .int lS_30, .int lM_31, .ref lb_32])), (lb_32, .inr (18, lbs_33))]) hP hD [0] [1] rfl rfl (by decide) (by decide) hk1 hFc hP1 hD1
          generalize H1 = H at hP hS ⊢
          have hP : va_P (dC, dI) vwCl [(ml, .inr (4, [.int 0, .ref e0, .int 0])), (xm, .inr (20, [.int fA_25, .int fB_26, .ref kn, .int 0, .int 0, .int 0, .ref ml, .ref cl, .ref rg, .ref tr, .ref (aK 0), .ref (aK 0), .ref fl, .int 0, .int 0, .int lH_27, .int lN_28, .int lO_29, .int lS_30, .int lM_31, .ref lb_32])), (lb_32, .inr (18, lbs_33))] H := hP
          have hD : va_D A [(ml, .inr (4, [.int 0, .ref e0, .int 0])), (xm, .inr (20, [.int fA_25, .int fB_26, .ref kn, .int 0, .int 0, .int 0, .ref ml, .ref cl, .ref rg, .ref tr, .ref (aK 0), .ref (aK 0), .ref fl, .int 0, .int 0, .int lH_27, .int lN_28, .int lO_29, .int lS_30, .int lM_31, .ref lb_32])), (lb_32, .inr (18, lbs_33))] := hD
          refine W.widen (k := 14340) (n := 5805426) (Nat.le_of_ble_eq_true rfl) (Nat.le_of_ble_eq_true rfl) ?_
          refine lv_aload_n hx hb dX15_champion_48 rfl (lv_at hl 0 rfl) ?_
          refine va_get (D := (dC, dI)) (ci := 20) (v := .ref ml) (C := RX15) (T := TX15) (N := 21) hx hb hts iWX15 hown hK hP 1 rfl rfl 6 (by decide) (hts (.fieldLink RX15 181 "BeaverhallModel" "machines" "Ljava/util/ArrayList;") (by decide +kernel)) (fun _ h9 => h9) rfl dX15_champion_49 ?_
          refine lv_aload_n hx hb dX15_champion_52 rfl (lv_at hl 0 rfl) ?_
          refine va_get (D := (dC, dI)) (ci := 20) (v := .ref lb_32) (C := RX15) (T := TX15) (N := 21) hx hb hts iWX15 hown hK hP 1 rfl rfl 20 (by decide) (hts (.fieldLink RX15 313 "BeaverhallModel" "listedBest" "LBeaverhallModel$Machine;") (by decide +kernel)) (fun _ h9 => h9) rfl dX15_champion_53 ?_
          have hPc := hP.sub (ws' := [(ml, .inr (4, [.int 0, .ref e0, .int 0])), (lb_32, .inr (18, lbs_33))]) [0, 2] rfl
          have hDc := hD.sub (ws' := [(ml, .inr (4, [.int 0, .ref e0, .int 0])), (lb_32, .inr (18, lbs_33))]) [0, 2] (by decide) rfl
          have hKc := hK.sub (tys' := [(cI, .int)]) [0] rfl
          have hFc := va_free (wc := [(ml, .inr (4, [.int 0, .ref e0, .int 0])), (lb_32, .inr (18, lbs_33))]) hD hS hA [0, 2] rfl
          refine va_calli (va_runV (As := [.ref lb_32]) (rest := []) ⟨hx, hb, hml, hown, hts⟩ (c_Jx4a65c_add_9ea2d l dC dI e0 aK aV cI ml lb_32 (.inr (18, lbs_33)) RX13 ooH_obj 0 H.size) (cwV 1 hts gX15_champion_Jx4a65c_add_9ea2d rfl rfl rfl (by decide +kernel) ⟨Nat.le_of_ble_eq_true rfl, Nat.le_of_ble_eq_true rfl⟩) (pcVz (zM_ok e0 aK aV) hPc hDc hKc hN hZ hS hFc (ci := 4) (q0 := 0) rfl rfl) rfl rfl hl.1 rfl (lv_room (Nat.le_of_ble_eq_true rfl)) dX15_champion_56 ⟨Nat.le_of_ble_eq_true rfl, Nat.le_of_ble_eq_true rfl⟩) hS (fun q _ h => hFc q h) hFc (fun r_37 u t H1 locs ht hvm hw_38 hB hz1 hk1 hS => ?_)
          obtain ⟨q_35, m_36⟩ := u
          obtain ⟨hP1, hK1, hD1⟩ := hB
          rw [ht] at hP1
          try dsimp only at hw_38
          obtain ⟨hP, hD⟩ := va_join (wr := [(xm, .inr (20, [.int fA_25, .int fB_26, .ref kn, .int 0, .int 0, .int 0, .ref ml, .ref cl, .ref rg, .ref tr, .ref (aK 0), .ref (aK 0), .ref fl, .int 0, .int 0, .int lH_27, .int lN_28, .int lO_29, .int lS_30, .int lM_31, .ref lb_32]))]) (w1 := [(ml, .inr (4, [.int m_36, .ref q_35, .int 1])), (lb_32, .inr (18, lbs_33))]) hP hD [0, 2] [1] rfl rfl (by decide) (by decide) hk1 hFc hP1 hD1
          generalize H1 = H at hP hS ⊢
          have hP : va_P (dC, dI) vwCl [(xm, .inr (20, [.int fA_25, .int fB_26, .ref kn, .int 0, .int 0, .int 0, .ref ml, .ref cl, .ref rg, .ref tr, .ref (aK 0), .ref (aK 0), .ref fl, .int 0, .int 0, .int lH_27, .int lN_28, .int lO_29, .int lS_30, .int lM_31, .ref lb_32])), (ml, .inr (4, [.int m_36, .ref q_35, .int 1])), (lb_32, .inr (18, lbs_33))] H := hP
          have hD : va_D A [(xm, .inr (20, [.int fA_25, .int fB_26, .ref kn, .int 0, .int 0, .int 0, .ref ml, .ref cl, .ref rg, .ref tr, .ref (aK 0), .ref (aK 0), .ref fl, .int 0, .int 0, .int lH_27, .int lN_28, .int lO_29, .int lS_30, .int lM_31, .ref lb_32])), (ml, .inr (4, [.int m_36, .ref q_35, .int 1])), (lb_32, .inr (18, lbs_33))] := hD
          refine W.widen (k := 14341) (n := 5805436) (Nat.le_of_ble_eq_true rfl) (Nat.le_of_ble_eq_true rfl) ?_
          refine lv_pop hx hb dX15_champion_59 rfl ?_
          refine lv_aload_n hx hb dX15_champion_60 rfl (lv_at hl 0 rfl) ?_
          refine va_get (D := (dC, dI)) (ci := 20) (v := .ref ml) (C := RX15) (T := TX15) (N := 21) hx hb hts iWX15 hown hK hP 0 rfl rfl 6 (by decide) (hts (.fieldLink RX15 181 "BeaverhallModel" "machines" "Ljava/util/ArrayList;") (by decide +kernel)) (fun _ h9 => h9) rfl dX15_champion_61 ?_
          have hPc := hP.sub (ws' := [(ml, .inr (4, [.int m_36, .ref q_35, .int 1]))]) [1] rfl
          have hDc := hD.sub (ws' := [(ml, .inr (4, [.int m_36, .ref q_35, .int 1]))]) [1] (by decide) rfl
          have hKc := hK.sub (tys' := []) [] rfl
          have hFc := va_free (wc := [(ml, .inr (4, [.int m_36, .ref q_35, .int 1]))]) hD hS hA [1] rfl
          refine va_calli (va_runV (As := []) (rest := []) ⟨hx, hb, hml, hown, hts⟩ (c_Jx4a65c_size_8abf5 l dC dI ml q_35 m_36 1 H.size) (cwV 0 hts gX15_champion_Jx4a65c_size_8abf5 rfl rfl rfl (by decide +kernel) ⟨Nat.le_of_ble_eq_true rfl, Nat.le_of_ble_eq_true rfl⟩) (pcV hPc hDc hKc hN (ci := 4) (q0 := 0) rfl rfl) rfl rfl hl.1 rfl (lv_room (Nat.le_of_ble_eq_true rfl)) dX15_champion_64 ⟨Nat.le_of_ble_eq_true rfl, Nat.le_of_ble_eq_true rfl⟩) hS (fun q _ h => hFc q h) hFc (fun r_39 u t H1 locs ht hvm hw_40 hB hz1 hk1 hS => ?_)
          obtain ⟨hP1, hK1, hD1⟩ := hB
          rw [ht] at hP1
          try dsimp only at hw_40
          obtain ⟨hP, hD⟩ := va_join (wr := [(xm, .inr (20, [.int fA_25, .int fB_26, .ref kn, .int 0, .int 0, .int 0, .ref ml, .ref cl, .ref rg, .ref tr, .ref (aK 0), .ref (aK 0), .ref fl, .int 0, .int 0, .int lH_27, .int lN_28, .int lO_29, .int lS_30, .int lM_31, .ref lb_32])), (lb_32, .inr (18, lbs_33))]) (w1 := [(ml, .inr (4, [.int m_36, .ref q_35, .int 1]))]) hP hD [1] [0, 2] rfl rfl (by decide) (by decide) hk1 hFc hP1 hD1
          generalize H1 = H at hP hS ⊢
          have hP : va_P (dC, dI) vwCl [(xm, .inr (20, [.int fA_25, .int fB_26, .ref kn, .int 0, .int 0, .int 0, .ref ml, .ref cl, .ref rg, .ref tr, .ref (aK 0), .ref (aK 0), .ref fl, .int 0, .int 0, .int lH_27, .int lN_28, .int lO_29, .int lS_30, .int lM_31, .ref lb_32])), (lb_32, .inr (18, lbs_33)), (ml, .inr (4, [.int m_36, .ref q_35, .int 1]))] H := hP
          have hD : va_D A [(xm, .inr (20, [.int fA_25, .int fB_26, .ref kn, .int 0, .int 0, .int 0, .ref ml, .ref cl, .ref rg, .ref tr, .ref (aK 0), .ref (aK 0), .ref fl, .int 0, .int 0, .int lH_27, .int lN_28, .int lO_29, .int lS_30, .int lM_31, .ref lb_32])), (lb_32, .inr (18, lbs_33)), (ml, .inr (4, [.int m_36, .ref q_35, .int 1]))] := hD
          subst hw_40
          refine lv_iconst (v := 1) hx hb dX15_champion_67 (by decide) ?_
          refine lv_isub hx hb dX15_champion_68 ?_
          have hP9 := hP.sub (ws' := [(xm, .inr (20, [.int fA_25, .int fB_26, .ref kn, .int 0, .int 0, .int 0, .ref ml, .ref cl, .ref rg, .ref tr, .ref (aK 0), .ref (aK 0), .ref fl, .int 0, .int 0, .int lH_27, .int lN_28, .int lO_29, .int lS_30, .int lM_31, .ref lb_32]))]) [0] rfl
          have hD9 := hD.sub (ws' := [(xm, .inr (20, [.int fA_25, .int fB_26, .ref kn, .int 0, .int 0, .int 0, .ref ml, .ref cl, .ref rg, .ref tr, .ref (aK 0), .ref (aK 0), .ref fl, .int 0, .int 0, .int lH_27, .int lN_28, .int lO_29, .int lS_30, .int lM_31, .ref lb_32]))]) [0] (by decide) rfl
          have hK9 := hK.sub (tys' := [(cI, .int)]) [0] rfl
          exact W.iret (v := ((1 : Int32) - 1)) hx hb hr (fun t ht hW => ⟨⟨((1 : Int32) - 1), [.int fA_25, .int fB_26, .ref kn, .int 0, .int 0, .int 0, .ref ml, .ref cl, .ref rg, .ref tr, .ref (aK 0), .ref (aK 0), .ref fl, .int 0, .int 0, .int lH_27, .int lN_28, .int lO_29, .int lS_30, .int lM_31, .ref lb_32], rfl, (Or.inl ⟨hn_4, rfl, by decide⟩), ⟨by rw [ht]; exact hP9, va_K.moved hW.alike hK9, hD9⟩⟩, hS.F ht⟩) hS.2.2 dX15_champion_69
      · exact (c37_8 (by decide)).elim
    · exact absurd c22_7 (by decide)
  · have hn_41 := (hw_2).elim (fun h => absurd (h.1.symm.trans c6_3) (by decide)) (fun h => h.2)
    refine lv_iconst (v := 1) hx hb dX15_champion_9 (by decide) ?_
    refine lv_goto (tgt := 30) hx hb dX15_champion_10 (by decide) ?_
    refine va_put (D := (dC, dI)) (ci := 20) (v := .int 1) (ty := .int) (C := RX15) (T := TX15) (N := 21) hx hb hts iWX15 tyX15 tyX15_ok nmX15 hown hK hP hD hS 0 rfl rfl 5 (by decide) (hts (.fieldLink RX15 209 "BeaverhallModel" "thrown" "I") (by decide +kernel)) (fun _ h9 => h9) rfl (by decide +kernel) rfl rfl (Nat.le_of_ble_eq_true rfl) dX15_champion_30 (fun H locs hP hD hS => ?_)
    have hP : va_P (dC, dI) vwCl [(xm, .inr (20, [.int 0, .int 0, .ref kn, .int 0, .int 0, .int 1, .ref ml, .ref cl, .ref rg, .ref tr, .ref (aK 0), .ref (aK 0), .ref fl, .int 0, .int 0, .int 0, .int 0, .int 0, .int 0, .int 0, .null])), (ml, .inr (4, [.int 0, .ref e0, .int 0]))] H := hP
    have hD : va_D A [(xm, .inr (20, [.int 0, .int 0, .ref kn, .int 0, .int 0, .int 1, .ref ml, .ref cl, .ref rg, .ref tr, .ref (aK 0), .ref (aK 0), .ref fl, .int 0, .int 0, .int 0, .int 0, .int 0, .int 0, .int 0, .null])), (ml, .inr (4, [.int 0, .ref e0, .int 0]))] := hD
    refine lv_aload_n hx hb dX15_champion_33 rfl (lv_at hl 0 rfl) ?_
    refine va_get (D := (dC, dI)) (ci := 20) (v := .int 1) (C := RX15) (T := TX15) (N := 21) hx hb hts iWX15 hown hK hP 0 rfl rfl 5 (by decide) (hts (.fieldLink RX15 209 "BeaverhallModel" "thrown" "I") (by decide +kernel)) (fun _ h9 => h9) rfl dX15_champion_34 ?_
    refine lv_if_le (tgt := 42) hx hb dX15_champion_37 (by decide) (fun c37_42 => ?_) (fun c37_42 => ?_)
    · exact absurd c37_42 (by decide)
    · refine lv_iconst (v := 0) hx hb dX15_champion_40 (by decide) ?_
      have hP9 := hP.sub (ws' := [(xm, .inr (20, [.int 0, .int 0, .ref kn, .int 0, .int 0, .int 1, .ref ml, .ref cl, .ref rg, .ref tr, .ref (aK 0), .ref (aK 0), .ref fl, .int 0, .int 0, .int 0, .int 0, .int 0, .int 0, .int 0, .null]))]) [0] rfl
      have hD9 := hD.sub (ws' := [(xm, .inr (20, [.int 0, .int 0, .ref kn, .int 0, .int 0, .int 1, .ref ml, .ref cl, .ref rg, .ref tr, .ref (aK 0), .ref (aK 0), .ref fl, .int 0, .int 0, .int 0, .int 0, .int 0, .int 0, .int 0, .null]))]) [0] (by decide) rfl
      have hK9 := hK.sub (tys' := [(cI, .int)]) [0] rfl
      refine W.widen (k := 14341) (n := 5805436) (Nat.le_of_ble_eq_true rfl) (Nat.le_of_ble_eq_true rfl) ?_
      exact W.iret (v := 0) hx hb hr (fun t ht hW => ⟨⟨0, [.int 0, .int 0, .ref kn, .int 0, .int 0, .int 1, .ref ml, .ref cl, .ref rg, .ref tr, .ref (aK 0), .ref (aK 0), .ref fl, .int 0, .int 0, .int 0, .int 0, .int 0, .int 0, .int 0, .null], rfl, (Or.inr ⟨(fun h9 => hn_41 h9), rfl⟩), ⟨by rw [ht]; exact hP9, va_K.moved hW.alike hK9, hD9⟩⟩, hS.F ht⟩) hS.2.2 dX15_champion_41

set_option maxHeartbeats 4000000 in
set_option maxRecDepth 100000 in
/-- X15_init -/
theorem c_X15_init (l : Launch) (dC : Nat → ClassId) (dI : Nat → Nat → Nat) (e0 : Nat) (aK aV : Nat → Nat) (cI : ClassId) (xm : Nat) (sz : Nat) : Met l yX15_init wsX15_init ({ frames := 4, cells := 6, slots := 36, locals := 92 }) (va_Pc [.ref xm] (cPCz (zM e0 aK aV) dC dI [(xm, .inr (20, [.int 0, .int 0, .null, .int 0, .int 0, .int 0, .null, .null, .null, .null, .null, .null, .null, .int 0, .int 0, .int 0, .int 0, .int 0, .int 0, .int 0, .null]))] [(cI, .int)] sz)) (va_Qv (fun (u : Nat × Nat × Nat × Nat × Nat × Nat × ClassId) => True) (fun (u : Nat × Nat × Nat × Nat × Nat × Nat × ClassId) t => cQB dC dI [(xm, .inr (20, [.int 0, .int 0, .ref u.2.2.2.1, .int 0, .int 0, .int 0, .ref u.1, .ref u.2.1, .ref u.2.2.2.2.1, .ref u.2.2.2.2.2.1, .ref (aK 0), .ref (aK 0), .ref u.2.2.1, .int 0, .int 0, .int 0, .int 0, .int 0, .int 0, .int 0, .null])), (u.1, .inr (4, [.int 0, .ref e0, .int 0])), (u.2.1, .inr (4, [.int 0, .ref e0, .int 0])), (u.2.2.1, .inr (4, [.int 0, .ref e0, .int 0])), (u.2.2.2.2.1, .inl (cI, 4, .inl (fun _ => 0))), (u.2.2.2.2.2.1, .inl (u.2.2.2.2.2.2, 4, .inr (.inr (.inr (.inr (va_up (va_up (va_up (va_up (fun _ => none) (Int32.toNatClampNeg 0) (some (aK 0))) (Int32.toNatClampNeg 1) (some (aK 0))) (Int32.toNatClampNeg 2) (some (aK 0))) (Int32.toNatClampNeg 3) (some (aK 0))))))))] [(cI, .int), (u.2.2.2.2.2.2, .object "java/lang/String")] (va_A [(xm, .inr (20, [.int 0, .int 0, .null, .int 0, .int 0, .int 0, .null, .null, .null, .null, .null, .null, .null, .int 0, .int 0, .int 0, .int 0, .int 0, .int 0, .int 0, .null]))] sz) t) (va_A [(xm, .inr (20, [.int 0, .int 0, .null, .int 0, .int 0, .int 0, .null, .null, .null, .null, .null, .null, .null, .int 0, .int 0, .int 0, .int 0, .int 0, .int 0, .int 0, .null]))] sz)) 6 36 (va_A [(xm, .inr (20, [.int 0, .int 0, .null, .int 0, .int 0, .int 0, .null, .null, .null, .null, .null, .null, .null, .int 0, .int 0, .int 0, .int 0, .int 0, .int 0, .int 0, .null]))] sz) := by
  refine Met.ofW (cc := cX15_init) (maxL := 1) (ret := none) (by decide) rfl ?_
  intro p e s m args below meth c s₁ B hml hv
  obtain ⟨rfl, ⟨hsz, hP, hK, hD0, hN⟩, hZ⟩ := hv
  have hx := B.exec
  have hb := B.bytes
  have hr := B.returns
  have hts := atoms_spec (ws := wsX15_init) B.pre
  have hown : s.vm.findClass RX15 = some m.cls := findClass_of_methodNamed B.named
  have hlocks := B.notSynchronized
  have hin : meth.name = "<init>" := (name_of_methodNamed B.named B.method).1
  subst hsz
  have hD := hD0.self (sz := s.heap.size)
  generalize hAe : va_A [(xm, .inr (20, [.int 0, .int 0, .null, .int 0, .int 0, .int 0, .null, .null, .null, .null, .null, .null, .null, .int 0, .int 0, .int 0, .int 0, .int 0, .int 0, .int 0, .null]))] s.heap.size = A at hD hZ ⊢
  have hA : ∀ q : Nat, s.heap.size ≤ q → A q := fun q h => by rw [← hAe]; exact Or.inr h
  have hS : va_S A s.heap s.heap [] := va_S.rf
  have hP : va_P (dC, dI) vwCl [(xm, .inr (20, [.int 0, .int 0, .null, .int 0, .int 0, .int 0, .null, .null, .null, .null, .null, .null, .null, .int 0, .int 0, .int 0, .int 0, .int 0, .int 0, .int 0, .null]))] s.heap := hP
  have hD : va_D A [(xm, .inr (20, [.int 0, .int 0, .null, .int 0, .int 0, .int 0, .null, .null, .null, .null, .null, .null, .null, .int 0, .int 0, .int 0, .int 0, .int 0, .int 0, .int 0, .null]))] := hD
  have hl := lv_entry ([.ref xm]) (n := 1) (Nat.le_of_ble_eq_true rfl)
  rw [lg_entry_eq]
  generalize (lg_sl ([.ref xm]) ++ List.replicate (1 - (lg_sl ([.ref xm])).length) Slot.unset).toArray = ls at hl ⊢
  have hl : lv_has ls 1 [(0, .ref xm)] := hl
  have iWJx4a65c : ∀ w ∈ u_ws RJx4a65c TJx4a65c 3, w ∈ wsX15_init := by decide +kernel
  have iWX15 : ∀ w ∈ u_ws RX15 TX15 21, w ∈ wsX15_init := by decide +kernel
  refine lv_aload_n hx hb dX15_init_0 rfl (lv_at hl 0 rfl) ?_
  refine W.objInit hx hb hown (hts (.methodLink RX15 174 Lib.objectInit) (by decide +kernel)) (hts (.instanceMethod Lib.objectInit) (by decide +kernel)) (hts (.code Lib.objectInit ⟨#[0xb1]⟩ 1 none) (by decide +kernel)) rfl (by rw [hml]; exact hl.1) rfl dX15_init_1 (Nat.le_of_ble_eq_true rfl) (Nat.le_of_ble_eq_true rfl) ?_
  refine W.eq (g2 := F0 m 4 ls []) rfl ?_
  refine lv_aload_n hx hb dX15_init_4 rfl (lv_at hl 0 rfl) ?_
  refine lv_bipush (v := 19) hx hb dX15_init_5 (by decide) ?_
  refine va_newa (atype := .int) (ty := .int) (a0 := (19, .inl (fun _ => 0))) (N' := 19) hx hb (hts (.arrayClass .int) (by decide +kernel)) rfl hK hP hD hS hA (fun _ => rfl) (by decide) (by decide) (Nat.le_of_ble_eq_true rfl) (Nat.le_of_ble_eq_true rfl) (Nat.le_of_ble_eq_true rfl) dX15_init_7 (fun q_2 cA_1 H hK hP hD hS => ?_)
  have ecA_1 : cI = cA_1 := cA_one hK (i := 0) (j := 1) rfl rfl
  subst ecA_1
  have hK := hK.sub (tys' := [(cI, .int)]) [0] rfl
  have hP : va_P (dC, dI) vwCl [(xm, .inr (20, [.int 0, .int 0, .null, .int 0, .int 0, .int 0, .null, .null, .null, .null, .null, .null, .null, .int 0, .int 0, .int 0, .int 0, .int 0, .int 0, .int 0, .null])), (q_2, .inl (cI, 19, .inl (fun _ => 0)))] H := hP
  have hD : va_D A [(xm, .inr (20, [.int 0, .int 0, .null, .int 0, .int 0, .int 0, .null, .null, .null, .null, .null, .null, .null, .int 0, .int 0, .int 0, .int 0, .int 0, .int 0, .int 0, .null])), (q_2, .inl (cI, 19, .inl (fun _ => 0)))] := hD
  refine W.widen (k := 1) (n := 19) (Nat.le_of_ble_eq_true rfl) (Nat.le_of_ble_eq_true rfl) ?_
  refine va_putF (D := (dC, dI)) (ci := 20) (v := .ref q_2) (ty := .array .int) (C := RX15) (T := TX15) (N := 21) hx hb hts iWX15 tyX15 tyX15_ok nmX15 hown hK hP hD hS 0 rfl rfl 2 (by decide) (hts (.fieldLink RX15 88 "BeaverhallModel" "known" "[I") (by decide +kernel)) (fun _ h9 => h9) rfl hin rfl (by decide +kernel) rfl rfl (Nat.le_of_ble_eq_true rfl) dX15_init_9 (fun H locs hP hD hS => ?_)
  have hP : va_P (dC, dI) vwCl [(xm, .inr (20, [.int 0, .int 0, .ref q_2, .int 0, .int 0, .int 0, .null, .null, .null, .null, .null, .null, .null, .int 0, .int 0, .int 0, .int 0, .int 0, .int 0, .int 0, .null])), (q_2, .inl (cI, 19, .inl (fun _ => 0)))] H := hP
  have hD : va_D A [(xm, .inr (20, [.int 0, .int 0, .ref q_2, .int 0, .int 0, .int 0, .null, .null, .null, .null, .null, .null, .null, .int 0, .int 0, .int 0, .int 0, .int 0, .int 0, .int 0, .null])), (q_2, .inl (cI, 19, .inl (fun _ => 0)))] := hD
  refine lv_aload_n hx hb dX15_init_12 rfl (lv_at hl 0 rfl) ?_
  refine va_new (ci := 4) (fs := [.int 0, .null, .int 0]) (C := RJx4a65c) (T := TJx4a65c) (N := 3) hx hb hts iWJx4a65c tyJx4a65c tyJx4a65c_ok hown (hts (.classLink RX15 178 RJx4a65c) (by decide +kernel)) (hts (.instantiable RJx4a65c 3) (by decide +kernel)) (hts (.initialized RJx4a65c) (by decide +kernel)) hK hP hD hS hA rfl (fun j hj => by rcases (show j = 0 ∨ j = 1 ∨ j = 2 by omega) with rfl | rfl | rfl <;> rfl) (Nat.le_of_ble_eq_true rfl) (Nat.le_of_ble_eq_true rfl) dX15_init_13 (fun q_3 H hP hD hS => ?_)
  have hP : va_P (dC, dI) vwCl [(xm, .inr (20, [.int 0, .int 0, .ref q_2, .int 0, .int 0, .int 0, .null, .null, .null, .null, .null, .null, .null, .int 0, .int 0, .int 0, .int 0, .int 0, .int 0, .int 0, .null])), (q_2, .inl (cI, 19, .inl (fun _ => 0))), (q_3, .inr (4, [.int 0, .null, .int 0]))] H := hP
  have hD : va_D A [(xm, .inr (20, [.int 0, .int 0, .ref q_2, .int 0, .int 0, .int 0, .null, .null, .null, .null, .null, .null, .null, .int 0, .int 0, .int 0, .int 0, .int 0, .int 0, .int 0, .null])), (q_2, .inl (cI, 19, .inl (fun _ => 0))), (q_3, .inr (4, [.int 0, .null, .int 0]))] := hD
  refine W.widen (k := 2) (n := 22) (Nat.le_of_ble_eq_true rfl) (Nat.le_of_ble_eq_true rfl) ?_
  refine lv_dup hx hb dX15_init_16 rfl ?_
  have hPc := hP.sub (ws' := [(q_3, .inr (4, [.int 0, .null, .int 0]))]) [2] rfl
  have hDc := hD.sub (ws' := [(q_3, .inr (4, [.int 0, .null, .int 0]))]) [2] (by decide) rfl
  have hKc := hK.sub (tys' := []) [] rfl
  have hFc := va_free (wc := [(q_3, .inr (4, [.int 0, .null, .int 0]))]) hD hS hA [2] rfl
  refine va_callv (va_runI (As := []) (rest := [.ref q_3, .ref xm]) ⟨hx, hb, hml, hown, hts⟩ (c_Jx4a65c_init_da8c8 l dC dI e0 aK aV q_3 H.size) (cwI 0 hts gX15_init_Jx4a65c_init_da8c8 rfl rfl rfl (hts (.initialized RJx4a65c) (by decide +kernel)) (hts (.methodLink RX15 180 yJx4a65c_init_da8c8) (by decide +kernel)) (hts (.instanceMethod yJx4a65c_init_da8c8) (by decide +kernel)) rfl (by decide +kernel) ⟨Nat.le_of_ble_eq_true rfl, Nat.le_of_ble_eq_true rfl⟩) (pcSz (zM_ok e0 aK aV) hPc hDc hKc hN hZ hS hFc) rfl rfl hl.1 rfl (lv_room (Nat.le_of_ble_eq_true rfl)) dX15_init_17 ⟨Nat.le_of_ble_eq_true rfl, Nat.le_of_ble_eq_true rfl⟩) hS (fun q _ h => hFc q h) hFc (fun u t H1 locs ht hvm hw_4 hB hz1 hk1 hS => ?_)
  obtain ⟨hP1, hK1, hD1⟩ := hB
  rw [ht] at hP1
  try dsimp only at hw_4
  obtain ⟨hP, hD⟩ := va_join (wr := [(xm, .inr (20, [.int 0, .int 0, .ref q_2, .int 0, .int 0, .int 0, .null, .null, .null, .null, .null, .null, .null, .int 0, .int 0, .int 0, .int 0, .int 0, .int 0, .int 0, .null])), (q_2, .inl (cI, 19, .inl (fun _ => 0)))]) (w1 := [(q_3, .inr (4, [.int 0, .ref e0, .int 0]))]) hP hD [2] [0, 1] rfl rfl (by decide) (by decide) hk1 hFc hP1 hD1
  generalize H1 = H at hP hS ⊢
  have hP : va_P (dC, dI) vwCl [(xm, .inr (20, [.int 0, .int 0, .ref q_2, .int 0, .int 0, .int 0, .null, .null, .null, .null, .null, .null, .null, .int 0, .int 0, .int 0, .int 0, .int 0, .int 0, .int 0, .null])), (q_2, .inl (cI, 19, .inl (fun _ => 0))), (q_3, .inr (4, [.int 0, .ref e0, .int 0]))] H := hP
  have hD : va_D A [(xm, .inr (20, [.int 0, .int 0, .ref q_2, .int 0, .int 0, .int 0, .null, .null, .null, .null, .null, .null, .null, .int 0, .int 0, .int 0, .int 0, .int 0, .int 0, .int 0, .null])), (q_2, .inl (cI, 19, .inl (fun _ => 0))), (q_3, .inr (4, [.int 0, .ref e0, .int 0]))] := hD
  refine va_putF (D := (dC, dI)) (ci := 20) (v := .ref q_3) (ty := .object "java/util/ArrayList") (C := RX15) (T := TX15) (N := 21) hx hb hts iWX15 tyX15 tyX15_ok nmX15 hown hK hP hD hS 0 rfl rfl 6 (by decide) (hts (.fieldLink RX15 181 "BeaverhallModel" "machines" "Ljava/util/ArrayList;") (by decide +kernel)) (fun _ h9 => h9) rfl hin rfl (by decide +kernel) rfl rfl (Nat.le_of_ble_eq_true rfl) dX15_init_20 (fun H locs hP hD hS => ?_)
  have hP : va_P (dC, dI) vwCl [(xm, .inr (20, [.int 0, .int 0, .ref q_2, .int 0, .int 0, .int 0, .ref q_3, .null, .null, .null, .null, .null, .null, .int 0, .int 0, .int 0, .int 0, .int 0, .int 0, .int 0, .null])), (q_2, .inl (cI, 19, .inl (fun _ => 0))), (q_3, .inr (4, [.int 0, .ref e0, .int 0]))] H := hP
  have hD : va_D A [(xm, .inr (20, [.int 0, .int 0, .ref q_2, .int 0, .int 0, .int 0, .ref q_3, .null, .null, .null, .null, .null, .null, .int 0, .int 0, .int 0, .int 0, .int 0, .int 0, .int 0, .null])), (q_2, .inl (cI, 19, .inl (fun _ => 0))), (q_3, .inr (4, [.int 0, .ref e0, .int 0]))] := hD
  refine lv_aload_n hx hb dX15_init_23 rfl (lv_at hl 0 rfl) ?_
  refine va_new (ci := 4) (fs := [.int 0, .null, .int 0]) (C := RJx4a65c) (T := TJx4a65c) (N := 3) hx hb hts iWJx4a65c tyJx4a65c tyJx4a65c_ok hown (hts (.classLink RX15 178 RJx4a65c) (by decide +kernel)) (hts (.instantiable RJx4a65c 3) (by decide +kernel)) (hts (.initialized RJx4a65c) (by decide +kernel)) hK hP hD hS hA rfl (fun j hj => by rcases (show j = 0 ∨ j = 1 ∨ j = 2 by omega) with rfl | rfl | rfl <;> rfl) (Nat.le_of_ble_eq_true rfl) (Nat.le_of_ble_eq_true rfl) dX15_init_24 (fun q_5 H hP hD hS => ?_)
  have hP : va_P (dC, dI) vwCl [(xm, .inr (20, [.int 0, .int 0, .ref q_2, .int 0, .int 0, .int 0, .ref q_3, .null, .null, .null, .null, .null, .null, .int 0, .int 0, .int 0, .int 0, .int 0, .int 0, .int 0, .null])), (q_2, .inl (cI, 19, .inl (fun _ => 0))), (q_3, .inr (4, [.int 0, .ref e0, .int 0])), (q_5, .inr (4, [.int 0, .null, .int 0]))] H := hP
  have hD : va_D A [(xm, .inr (20, [.int 0, .int 0, .ref q_2, .int 0, .int 0, .int 0, .ref q_3, .null, .null, .null, .null, .null, .null, .int 0, .int 0, .int 0, .int 0, .int 0, .int 0, .int 0, .null])), (q_2, .inl (cI, 19, .inl (fun _ => 0))), (q_3, .inr (4, [.int 0, .ref e0, .int 0])), (q_5, .inr (4, [.int 0, .null, .int 0]))] := hD
  refine W.widen (k := 3) (n := 25) (Nat.le_of_ble_eq_true rfl) (Nat.le_of_ble_eq_true rfl) ?_
  refine lv_dup hx hb dX15_init_27 rfl ?_
  have hPc := hP.sub (ws' := [(q_5, .inr (4, [.int 0, .null, .int 0]))]) [3] rfl
  have hDc := hD.sub (ws' := [(q_5, .inr (4, [.int 0, .null, .int 0]))]) [3] (by decide) rfl
  have hKc := hK.sub (tys' := []) [] rfl
  have hFc := va_free (wc := [(q_5, .inr (4, [.int 0, .null, .int 0]))]) hD hS hA [3] rfl
  refine va_callv (va_runI (As := []) (rest := [.ref q_5, .ref xm]) ⟨hx, hb, hml, hown, hts⟩ (c_Jx4a65c_init_da8c8 l dC dI e0 aK aV q_5 H.size) (cwI 0 hts gX15_init_Jx4a65c_init_da8c8 rfl rfl rfl (hts (.initialized RJx4a65c) (by decide +kernel)) (hts (.methodLink RX15 180 yJx4a65c_init_da8c8) (by decide +kernel)) (hts (.instanceMethod yJx4a65c_init_da8c8) (by decide +kernel)) rfl (by decide +kernel) ⟨Nat.le_of_ble_eq_true rfl, Nat.le_of_ble_eq_true rfl⟩) (pcSz (zM_ok e0 aK aV) hPc hDc hKc hN hZ hS hFc) rfl rfl hl.1 rfl (lv_room (Nat.le_of_ble_eq_true rfl)) dX15_init_28 ⟨Nat.le_of_ble_eq_true rfl, Nat.le_of_ble_eq_true rfl⟩) hS (fun q _ h => hFc q h) hFc (fun u t H1 locs ht hvm hw_6 hB hz1 hk1 hS => ?_)
  obtain ⟨hP1, hK1, hD1⟩ := hB
  rw [ht] at hP1
  try dsimp only at hw_6
  obtain ⟨hP, hD⟩ := va_join (wr := [(xm, .inr (20, [.int 0, .int 0, .ref q_2, .int 0, .int 0, .int 0, .ref q_3, .null, .null, .null, .null, .null, .null, .int 0, .int 0, .int 0, .int 0, .int 0, .int 0, .int 0, .null])), (q_2, .inl (cI, 19, .inl (fun _ => 0))), (q_3, .inr (4, [.int 0, .ref e0, .int 0]))]) (w1 := [(q_5, .inr (4, [.int 0, .ref e0, .int 0]))]) hP hD [3] [0, 1, 2] rfl rfl (by decide) (by decide) hk1 hFc hP1 hD1
  generalize H1 = H at hP hS ⊢
  have hP : va_P (dC, dI) vwCl [(xm, .inr (20, [.int 0, .int 0, .ref q_2, .int 0, .int 0, .int 0, .ref q_3, .null, .null, .null, .null, .null, .null, .int 0, .int 0, .int 0, .int 0, .int 0, .int 0, .int 0, .null])), (q_2, .inl (cI, 19, .inl (fun _ => 0))), (q_3, .inr (4, [.int 0, .ref e0, .int 0])), (q_5, .inr (4, [.int 0, .ref e0, .int 0]))] H := hP
  have hD : va_D A [(xm, .inr (20, [.int 0, .int 0, .ref q_2, .int 0, .int 0, .int 0, .ref q_3, .null, .null, .null, .null, .null, .null, .int 0, .int 0, .int 0, .int 0, .int 0, .int 0, .int 0, .null])), (q_2, .inl (cI, 19, .inl (fun _ => 0))), (q_3, .inr (4, [.int 0, .ref e0, .int 0])), (q_5, .inr (4, [.int 0, .ref e0, .int 0]))] := hD
  refine va_putF (D := (dC, dI)) (ci := 20) (v := .ref q_5) (ty := .object "java/util/ArrayList") (C := RX15) (T := TX15) (N := 21) hx hb hts iWX15 tyX15 tyX15_ok nmX15 hown hK hP hD hS 0 rfl rfl 7 (by decide) (hts (.fieldLink RX15 185 "BeaverhallModel" "counters" "Ljava/util/ArrayList;") (by decide +kernel)) (fun _ h9 => h9) rfl hin rfl (by decide +kernel) rfl rfl (Nat.le_of_ble_eq_true rfl) dX15_init_31 (fun H locs hP hD hS => ?_)
  have hP : va_P (dC, dI) vwCl [(xm, .inr (20, [.int 0, .int 0, .ref q_2, .int 0, .int 0, .int 0, .ref q_3, .ref q_5, .null, .null, .null, .null, .null, .int 0, .int 0, .int 0, .int 0, .int 0, .int 0, .int 0, .null])), (q_2, .inl (cI, 19, .inl (fun _ => 0))), (q_3, .inr (4, [.int 0, .ref e0, .int 0])), (q_5, .inr (4, [.int 0, .ref e0, .int 0]))] H := hP
  have hD : va_D A [(xm, .inr (20, [.int 0, .int 0, .ref q_2, .int 0, .int 0, .int 0, .ref q_3, .ref q_5, .null, .null, .null, .null, .null, .int 0, .int 0, .int 0, .int 0, .int 0, .int 0, .int 0, .null])), (q_2, .inl (cI, 19, .inl (fun _ => 0))), (q_3, .inr (4, [.int 0, .ref e0, .int 0])), (q_5, .inr (4, [.int 0, .ref e0, .int 0]))] := hD
  refine lv_aload_n hx hb dX15_init_34 rfl (lv_at hl 0 rfl) ?_
  refine lv_iconst (v := 4) hx hb dX15_init_35 (by decide) ?_
  refine va_newa (atype := .int) (ty := .int) (a0 := (4, .inl (fun _ => 0))) (N' := 4) hx hb (hts (.arrayClass .int) (by decide +kernel)) rfl hK hP hD hS hA (fun _ => rfl) (by decide) (by decide) (Nat.le_of_ble_eq_true rfl) (Nat.le_of_ble_eq_true rfl) (Nat.le_of_ble_eq_true rfl) dX15_init_36 (fun q_8 cA_7 H hK hP hD hS => ?_)
  have ecA_7 : cI = cA_7 := cA_one hK (i := 0) (j := 1) rfl rfl
  subst ecA_7
  have hK := hK.sub (tys' := [(cI, .int)]) [0] rfl
  have hP : va_P (dC, dI) vwCl [(xm, .inr (20, [.int 0, .int 0, .ref q_2, .int 0, .int 0, .int 0, .ref q_3, .ref q_5, .null, .null, .null, .null, .null, .int 0, .int 0, .int 0, .int 0, .int 0, .int 0, .int 0, .null])), (q_2, .inl (cI, 19, .inl (fun _ => 0))), (q_3, .inr (4, [.int 0, .ref e0, .int 0])), (q_5, .inr (4, [.int 0, .ref e0, .int 0])), (q_8, .inl (cI, 4, .inl (fun _ => 0)))] H := hP
  have hD : va_D A [(xm, .inr (20, [.int 0, .int 0, .ref q_2, .int 0, .int 0, .int 0, .ref q_3, .ref q_5, .null, .null, .null, .null, .null, .int 0, .int 0, .int 0, .int 0, .int 0, .int 0, .int 0, .null])), (q_2, .inl (cI, 19, .inl (fun _ => 0))), (q_3, .inr (4, [.int 0, .ref e0, .int 0])), (q_5, .inr (4, [.int 0, .ref e0, .int 0])), (q_8, .inl (cI, 4, .inl (fun _ => 0)))] := hD
  refine W.widen (k := 4) (n := 29) (Nat.le_of_ble_eq_true rfl) (Nat.le_of_ble_eq_true rfl) ?_
  refine va_putF (D := (dC, dI)) (ci := 20) (v := .ref q_8) (ty := .array .int) (C := RX15) (T := TX15) (N := 21) hx hb hts iWX15 tyX15 tyX15_ok nmX15 hown hK hP hD hS 0 rfl rfl 8 (by decide) (hts (.fieldLink RX15 188 "BeaverhallModel" "registers" "[I") (by decide +kernel)) (fun _ h9 => h9) rfl hin rfl (by decide +kernel) rfl rfl (Nat.le_of_ble_eq_true rfl) dX15_init_38 (fun H locs hP hD hS => ?_)
  have hP : va_P (dC, dI) vwCl [(xm, .inr (20, [.int 0, .int 0, .ref q_2, .int 0, .int 0, .int 0, .ref q_3, .ref q_5, .ref q_8, .null, .null, .null, .null, .int 0, .int 0, .int 0, .int 0, .int 0, .int 0, .int 0, .null])), (q_2, .inl (cI, 19, .inl (fun _ => 0))), (q_3, .inr (4, [.int 0, .ref e0, .int 0])), (q_5, .inr (4, [.int 0, .ref e0, .int 0])), (q_8, .inl (cI, 4, .inl (fun _ => 0)))] H := hP
  have hD : va_D A [(xm, .inr (20, [.int 0, .int 0, .ref q_2, .int 0, .int 0, .int 0, .ref q_3, .ref q_5, .ref q_8, .null, .null, .null, .null, .int 0, .int 0, .int 0, .int 0, .int 0, .int 0, .int 0, .null])), (q_2, .inl (cI, 19, .inl (fun _ => 0))), (q_3, .inr (4, [.int 0, .ref e0, .int 0])), (q_5, .inr (4, [.int 0, .ref e0, .int 0])), (q_8, .inl (cI, 4, .inl (fun _ => 0)))] := hD
  refine lv_aload_n hx hb dX15_init_41 rfl (lv_at hl 0 rfl) ?_
  refine lv_iconst (v := 4) hx hb dX15_init_42 (by decide) ?_
  refine va_newq (C := "java/lang/String") (N' := 4) hx hb hown (hts (.classLink RX15 191 "java/lang/String") (by decide +kernel)) hZ.2.2.2.1 hK hP hD hS hA (by decide) (by decide) (Nat.le_of_ble_eq_true rfl) (Nat.le_of_ble_eq_true rfl) (Nat.le_of_ble_eq_true rfl) dX15_init_43 (fun q_10 cA_9 H hK hP hD hS => ?_)
  have hK : va_K (dC, dI) vwCl [(cI, .int), (cA_9, .object "java/lang/String")] s := hK
  have hP : va_P (dC, dI) vwCl [(xm, .inr (20, [.int 0, .int 0, .ref q_2, .int 0, .int 0, .int 0, .ref q_3, .ref q_5, .ref q_8, .null, .null, .null, .null, .int 0, .int 0, .int 0, .int 0, .int 0, .int 0, .int 0, .null])), (q_2, .inl (cI, 19, .inl (fun _ => 0))), (q_3, .inr (4, [.int 0, .ref e0, .int 0])), (q_5, .inr (4, [.int 0, .ref e0, .int 0])), (q_8, .inl (cI, 4, .inl (fun _ => 0))), (q_10, .inl (cA_9, 4, .inr (.inr (.inr (.inr (fun _ => none))))))] H := hP
  have hD : va_D A [(xm, .inr (20, [.int 0, .int 0, .ref q_2, .int 0, .int 0, .int 0, .ref q_3, .ref q_5, .ref q_8, .null, .null, .null, .null, .int 0, .int 0, .int 0, .int 0, .int 0, .int 0, .int 0, .null])), (q_2, .inl (cI, 19, .inl (fun _ => 0))), (q_3, .inr (4, [.int 0, .ref e0, .int 0])), (q_5, .inr (4, [.int 0, .ref e0, .int 0])), (q_8, .inl (cI, 4, .inl (fun _ => 0))), (q_10, .inl (cA_9, 4, .inr (.inr (.inr (.inr (fun _ => none))))))] := hD
  refine W.widen (k := 5) (n := 33) (Nat.le_of_ble_eq_true rfl) (Nat.le_of_ble_eq_true rfl) ?_
  refine lv_dup hx hb dX15_init_46 rfl ?_
  refine lv_iconst (v := 0) hx hb dX15_init_47 (by decide) ?_
  refine va_ldcS hx hb hown hZ.2.1.1 dX15_init_48 ?_
  refine vb_astq (C := "java/lang/String") hx hb hK hP hD hS 5 1 rfl rfl (vk_recv hZ.1.2.2.2 (show 0 < 2 by decide) hS) vb_asgS (show vp_in (nI 0) 4 from vp_in_nI (by decide) (by decide)) dX15_init_50 (fun H locs hP hD hS => ?_)
  have hP : va_P (dC, dI) vwCl [(xm, .inr (20, [.int 0, .int 0, .ref q_2, .int 0, .int 0, .int 0, .ref q_3, .ref q_5, .ref q_8, .null, .null, .null, .null, .int 0, .int 0, .int 0, .int 0, .int 0, .int 0, .int 0, .null])), (q_2, .inl (cI, 19, .inl (fun _ => 0))), (q_3, .inr (4, [.int 0, .ref e0, .int 0])), (q_5, .inr (4, [.int 0, .ref e0, .int 0])), (q_8, .inl (cI, 4, .inl (fun _ => 0))), (q_10, .inl (cA_9, 4, .inr (.inr (.inr (.inr (va_up (fun _ => none) ((0 : Int32)).toNatClampNeg (some (aK 0))))))))] H := hP
  have hD : va_D A [(xm, .inr (20, [.int 0, .int 0, .ref q_2, .int 0, .int 0, .int 0, .ref q_3, .ref q_5, .ref q_8, .null, .null, .null, .null, .int 0, .int 0, .int 0, .int 0, .int 0, .int 0, .int 0, .null])), (q_2, .inl (cI, 19, .inl (fun _ => 0))), (q_3, .inr (4, [.int 0, .ref e0, .int 0])), (q_5, .inr (4, [.int 0, .ref e0, .int 0])), (q_8, .inl (cI, 4, .inl (fun _ => 0))), (q_10, .inl (cA_9, 4, .inr (.inr (.inr (.inr (va_up (fun _ => none) ((0 : Int32)).toNatClampNeg (some (aK 0))))))))] := hD
  refine lv_dup hx hb dX15_init_51 rfl ?_
  refine lv_iconst (v := 1) hx hb dX15_init_52 (by decide) ?_
  refine va_ldcS hx hb hown hZ.2.1.1 dX15_init_53 ?_
  refine vb_astq (C := "java/lang/String") hx hb hK hP hD hS 5 1 rfl rfl (vk_recv hZ.1.2.2.2 (show 0 < 2 by decide) hS) vb_asgS (show vp_in (nI 1) 4 from vp_in_nI (by decide) (by decide)) dX15_init_55 (fun H locs hP hD hS => ?_)
  have hP : va_P (dC, dI) vwCl [(xm, .inr (20, [.int 0, .int 0, .ref q_2, .int 0, .int 0, .int 0, .ref q_3, .ref q_5, .ref q_8, .null, .null, .null, .null, .int 0, .int 0, .int 0, .int 0, .int 0, .int 0, .int 0, .null])), (q_2, .inl (cI, 19, .inl (fun _ => 0))), (q_3, .inr (4, [.int 0, .ref e0, .int 0])), (q_5, .inr (4, [.int 0, .ref e0, .int 0])), (q_8, .inl (cI, 4, .inl (fun _ => 0))), (q_10, .inl (cA_9, 4, .inr (.inr (.inr (.inr (va_up (va_up (fun _ => none) ((0 : Int32)).toNatClampNeg (some (aK 0))) ((1 : Int32)).toNatClampNeg (some (aK 0))))))))] H := hP
  have hD : va_D A [(xm, .inr (20, [.int 0, .int 0, .ref q_2, .int 0, .int 0, .int 0, .ref q_3, .ref q_5, .ref q_8, .null, .null, .null, .null, .int 0, .int 0, .int 0, .int 0, .int 0, .int 0, .int 0, .null])), (q_2, .inl (cI, 19, .inl (fun _ => 0))), (q_3, .inr (4, [.int 0, .ref e0, .int 0])), (q_5, .inr (4, [.int 0, .ref e0, .int 0])), (q_8, .inl (cI, 4, .inl (fun _ => 0))), (q_10, .inl (cA_9, 4, .inr (.inr (.inr (.inr (va_up (va_up (fun _ => none) ((0 : Int32)).toNatClampNeg (some (aK 0))) ((1 : Int32)).toNatClampNeg (some (aK 0))))))))] := hD
  refine lv_dup hx hb dX15_init_56 rfl ?_
  refine lv_iconst (v := 2) hx hb dX15_init_57 (by decide) ?_
  refine va_ldcS hx hb hown hZ.2.1.1 dX15_init_58 ?_
  refine vb_astq (C := "java/lang/String") hx hb hK hP hD hS 5 1 rfl rfl (vk_recv hZ.1.2.2.2 (show 0 < 2 by decide) hS) vb_asgS (show vp_in (nI 2) 4 from vp_in_nI (by decide) (by decide)) dX15_init_60 (fun H locs hP hD hS => ?_)
  have hP : va_P (dC, dI) vwCl [(xm, .inr (20, [.int 0, .int 0, .ref q_2, .int 0, .int 0, .int 0, .ref q_3, .ref q_5, .ref q_8, .null, .null, .null, .null, .int 0, .int 0, .int 0, .int 0, .int 0, .int 0, .int 0, .null])), (q_2, .inl (cI, 19, .inl (fun _ => 0))), (q_3, .inr (4, [.int 0, .ref e0, .int 0])), (q_5, .inr (4, [.int 0, .ref e0, .int 0])), (q_8, .inl (cI, 4, .inl (fun _ => 0))), (q_10, .inl (cA_9, 4, .inr (.inr (.inr (.inr (va_up (va_up (va_up (fun _ => none) ((0 : Int32)).toNatClampNeg (some (aK 0))) ((1 : Int32)).toNatClampNeg (some (aK 0))) ((2 : Int32)).toNatClampNeg (some (aK 0))))))))] H := hP
  have hD : va_D A [(xm, .inr (20, [.int 0, .int 0, .ref q_2, .int 0, .int 0, .int 0, .ref q_3, .ref q_5, .ref q_8, .null, .null, .null, .null, .int 0, .int 0, .int 0, .int 0, .int 0, .int 0, .int 0, .null])), (q_2, .inl (cI, 19, .inl (fun _ => 0))), (q_3, .inr (4, [.int 0, .ref e0, .int 0])), (q_5, .inr (4, [.int 0, .ref e0, .int 0])), (q_8, .inl (cI, 4, .inl (fun _ => 0))), (q_10, .inl (cA_9, 4, .inr (.inr (.inr (.inr (va_up (va_up (va_up (fun _ => none) ((0 : Int32)).toNatClampNeg (some (aK 0))) ((1 : Int32)).toNatClampNeg (some (aK 0))) ((2 : Int32)).toNatClampNeg (some (aK 0))))))))] := hD
  refine lv_dup hx hb dX15_init_61 rfl ?_
  refine lv_iconst (v := 3) hx hb dX15_init_62 (by decide) ?_
  refine va_ldcS hx hb hown hZ.2.1.1 dX15_init_63 ?_
  refine vb_astq (C := "java/lang/String") hx hb hK hP hD hS 5 1 rfl rfl (vk_recv hZ.1.2.2.2 (show 0 < 2 by decide) hS) vb_asgS (show vp_in (nI 3) 4 from vp_in_nI (by decide) (by decide)) dX15_init_65 (fun H locs hP hD hS => ?_)
  have hP : va_P (dC, dI) vwCl [(xm, .inr (20, [.int 0, .int 0, .ref q_2, .int 0, .int 0, .int 0, .ref q_3, .ref q_5, .ref q_8, .null, .null, .null, .null, .int 0, .int 0, .int 0, .int 0, .int 0, .int 0, .int 0, .null])), (q_2, .inl (cI, 19, .inl (fun _ => 0))), (q_3, .inr (4, [.int 0, .ref e0, .int 0])), (q_5, .inr (4, [.int 0, .ref e0, .int 0])), (q_8, .inl (cI, 4, .inl (fun _ => 0))), (q_10, .inl (cA_9, 4, .inr (.inr (.inr (.inr (va_up (va_up (va_up (va_up (fun _ => none) ((0 : Int32)).toNatClampNeg (some (aK 0))) ((1 : Int32)).toNatClampNeg (some (aK 0))) ((2 : Int32)).toNatClampNeg (some (aK 0))) ((3 : Int32)).toNatClampNeg (some (aK 0))))))))] H := hP
  have hD : va_D A [(xm, .inr (20, [.int 0, .int 0, .ref q_2, .int 0, .int 0, .int 0, .ref q_3, .ref q_5, .ref q_8, .null, .null, .null, .null, .int 0, .int 0, .int 0, .int 0, .int 0, .int 0, .int 0, .null])), (q_2, .inl (cI, 19, .inl (fun _ => 0))), (q_3, .inr (4, [.int 0, .ref e0, .int 0])), (q_5, .inr (4, [.int 0, .ref e0, .int 0])), (q_8, .inl (cI, 4, .inl (fun _ => 0))), (q_10, .inl (cA_9, 4, .inr (.inr (.inr (.inr (va_up (va_up (va_up (va_up (fun _ => none) ((0 : Int32)).toNatClampNeg (some (aK 0))) ((1 : Int32)).toNatClampNeg (some (aK 0))) ((2 : Int32)).toNatClampNeg (some (aK 0))) ((3 : Int32)).toNatClampNeg (some (aK 0))))))))] := hD
  refine va_putF (D := (dC, dI)) (ci := 20) (v := .ref q_10) (ty := .array (.object "java/lang/String")) (C := RX15) (T := TX15) (N := 21) hx hb hts iWX15 tyX15 tyX15_ok nmX15 hown hK hP hD hS 0 rfl rfl 9 (by decide) (hts (.fieldLink RX15 195 "BeaverhallModel" "tagRows" "[Ljava/lang/String;") (by decide +kernel)) (fun _ h9 => h9) rfl hin rfl (by decide +kernel) rfl rfl (Nat.le_of_ble_eq_true rfl) dX15_init_66 (fun H locs hP hD hS => ?_)
  have hP : va_P (dC, dI) vwCl [(xm, .inr (20, [.int 0, .int 0, .ref q_2, .int 0, .int 0, .int 0, .ref q_3, .ref q_5, .ref q_8, .ref q_10, .null, .null, .null, .int 0, .int 0, .int 0, .int 0, .int 0, .int 0, .int 0, .null])), (q_2, .inl (cI, 19, .inl (fun _ => 0))), (q_3, .inr (4, [.int 0, .ref e0, .int 0])), (q_5, .inr (4, [.int 0, .ref e0, .int 0])), (q_8, .inl (cI, 4, .inl (fun _ => 0))), (q_10, .inl (cA_9, 4, .inr (.inr (.inr (.inr (va_up (va_up (va_up (va_up (fun _ => none) ((0 : Int32)).toNatClampNeg (some (aK 0))) ((1 : Int32)).toNatClampNeg (some (aK 0))) ((2 : Int32)).toNatClampNeg (some (aK 0))) ((3 : Int32)).toNatClampNeg (some (aK 0))))))))] H := hP
  have hD : va_D A [(xm, .inr (20, [.int 0, .int 0, .ref q_2, .int 0, .int 0, .int 0, .ref q_3, .ref q_5, .ref q_8, .ref q_10, .null, .null, .null, .int 0, .int 0, .int 0, .int 0, .int 0, .int 0, .int 0, .null])), (q_2, .inl (cI, 19, .inl (fun _ => 0))), (q_3, .inr (4, [.int 0, .ref e0, .int 0])), (q_5, .inr (4, [.int 0, .ref e0, .int 0])), (q_8, .inl (cI, 4, .inl (fun _ => 0))), (q_10, .inl (cA_9, 4, .inr (.inr (.inr (.inr (va_up (va_up (va_up (va_up (fun _ => none) ((0 : Int32)).toNatClampNeg (some (aK 0))) ((1 : Int32)).toNatClampNeg (some (aK 0))) ((2 : Int32)).toNatClampNeg (some (aK 0))) ((3 : Int32)).toNatClampNeg (some (aK 0))))))))] := hD
  refine lv_aload_n hx hb dX15_init_69 rfl (lv_at hl 0 rfl) ?_
  refine va_ldcS hx hb hown hZ.2.1.1 dX15_init_70 ?_
  refine va_put (D := (dC, dI)) (ci := 20) (v := .ref (aK 0)) (ty := .object "java/lang/String") (C := RX15) (T := TX15) (N := 21) hx hb hts iWX15 tyX15 tyX15_ok nmX15 hown hK hP hD hS 0 rfl rfl 10 (by decide) (hts (.fieldLink RX15 199 "BeaverhallModel" "tagStart" "Ljava/lang/String;") (by decide +kernel)) (fun _ h9 => h9) rfl (by decide +kernel) rfl rfl (Nat.le_of_ble_eq_true rfl) dX15_init_72 (fun H locs hP hD hS => ?_)
  have hP : va_P (dC, dI) vwCl [(xm, .inr (20, [.int 0, .int 0, .ref q_2, .int 0, .int 0, .int 0, .ref q_3, .ref q_5, .ref q_8, .ref q_10, .ref (aK 0), .null, .null, .int 0, .int 0, .int 0, .int 0, .int 0, .int 0, .int 0, .null])), (q_2, .inl (cI, 19, .inl (fun _ => 0))), (q_3, .inr (4, [.int 0, .ref e0, .int 0])), (q_5, .inr (4, [.int 0, .ref e0, .int 0])), (q_8, .inl (cI, 4, .inl (fun _ => 0))), (q_10, .inl (cA_9, 4, .inr (.inr (.inr (.inr (va_up (va_up (va_up (va_up (fun _ => none) ((0 : Int32)).toNatClampNeg (some (aK 0))) ((1 : Int32)).toNatClampNeg (some (aK 0))) ((2 : Int32)).toNatClampNeg (some (aK 0))) ((3 : Int32)).toNatClampNeg (some (aK 0))))))))] H := hP
  have hD : va_D A [(xm, .inr (20, [.int 0, .int 0, .ref q_2, .int 0, .int 0, .int 0, .ref q_3, .ref q_5, .ref q_8, .ref q_10, .ref (aK 0), .null, .null, .int 0, .int 0, .int 0, .int 0, .int 0, .int 0, .int 0, .null])), (q_2, .inl (cI, 19, .inl (fun _ => 0))), (q_3, .inr (4, [.int 0, .ref e0, .int 0])), (q_5, .inr (4, [.int 0, .ref e0, .int 0])), (q_8, .inl (cI, 4, .inl (fun _ => 0))), (q_10, .inl (cA_9, 4, .inr (.inr (.inr (.inr (va_up (va_up (va_up (va_up (fun _ => none) ((0 : Int32)).toNatClampNeg (some (aK 0))) ((1 : Int32)).toNatClampNeg (some (aK 0))) ((2 : Int32)).toNatClampNeg (some (aK 0))) ((3 : Int32)).toNatClampNeg (some (aK 0))))))))] := hD
  refine lv_aload_n hx hb dX15_init_75 rfl (lv_at hl 0 rfl) ?_
  refine va_ldcS hx hb hown hZ.2.1.1 dX15_init_76 ?_
  refine va_put (D := (dC, dI)) (ci := 20) (v := .ref (aK 0)) (ty := .object "java/lang/String") (C := RX15) (T := TX15) (N := 21) hx hb hts iWX15 tyX15 tyX15_ok nmX15 hown hK hP hD hS 0 rfl rfl 11 (by decide) (hts (.fieldLink RX15 203 "BeaverhallModel" "tagged" "Ljava/lang/String;") (by decide +kernel)) (fun _ h9 => h9) rfl (by decide +kernel) rfl rfl (Nat.le_of_ble_eq_true rfl) dX15_init_78 (fun H locs hP hD hS => ?_)
  have hP : va_P (dC, dI) vwCl [(xm, .inr (20, [.int 0, .int 0, .ref q_2, .int 0, .int 0, .int 0, .ref q_3, .ref q_5, .ref q_8, .ref q_10, .ref (aK 0), .ref (aK 0), .null, .int 0, .int 0, .int 0, .int 0, .int 0, .int 0, .int 0, .null])), (q_2, .inl (cI, 19, .inl (fun _ => 0))), (q_3, .inr (4, [.int 0, .ref e0, .int 0])), (q_5, .inr (4, [.int 0, .ref e0, .int 0])), (q_8, .inl (cI, 4, .inl (fun _ => 0))), (q_10, .inl (cA_9, 4, .inr (.inr (.inr (.inr (va_up (va_up (va_up (va_up (fun _ => none) ((0 : Int32)).toNatClampNeg (some (aK 0))) ((1 : Int32)).toNatClampNeg (some (aK 0))) ((2 : Int32)).toNatClampNeg (some (aK 0))) ((3 : Int32)).toNatClampNeg (some (aK 0))))))))] H := hP
  have hD : va_D A [(xm, .inr (20, [.int 0, .int 0, .ref q_2, .int 0, .int 0, .int 0, .ref q_3, .ref q_5, .ref q_8, .ref q_10, .ref (aK 0), .ref (aK 0), .null, .int 0, .int 0, .int 0, .int 0, .int 0, .int 0, .int 0, .null])), (q_2, .inl (cI, 19, .inl (fun _ => 0))), (q_3, .inr (4, [.int 0, .ref e0, .int 0])), (q_5, .inr (4, [.int 0, .ref e0, .int 0])), (q_8, .inl (cI, 4, .inl (fun _ => 0))), (q_10, .inl (cA_9, 4, .inr (.inr (.inr (.inr (va_up (va_up (va_up (va_up (fun _ => none) ((0 : Int32)).toNatClampNeg (some (aK 0))) ((1 : Int32)).toNatClampNeg (some (aK 0))) ((2 : Int32)).toNatClampNeg (some (aK 0))) ((3 : Int32)).toNatClampNeg (some (aK 0))))))))] := hD
  refine lv_aload_n hx hb dX15_init_81 rfl (lv_at hl 0 rfl) ?_
  refine va_new (ci := 4) (fs := [.int 0, .null, .int 0]) (C := RJx4a65c) (T := TJx4a65c) (N := 3) hx hb hts iWJx4a65c tyJx4a65c tyJx4a65c_ok hown (hts (.classLink RX15 178 RJx4a65c) (by decide +kernel)) (hts (.instantiable RJx4a65c 3) (by decide +kernel)) (hts (.initialized RJx4a65c) (by decide +kernel)) hK hP hD hS hA rfl (fun j hj => by rcases (show j = 0 ∨ j = 1 ∨ j = 2 by omega) with rfl | rfl | rfl <;> rfl) (Nat.le_of_ble_eq_true rfl) (Nat.le_of_ble_eq_true rfl) dX15_init_82 (fun q_15 H hP hD hS => ?_)
  have hP : va_P (dC, dI) vwCl [(xm, .inr (20, [.int 0, .int 0, .ref q_2, .int 0, .int 0, .int 0, .ref q_3, .ref q_5, .ref q_8, .ref q_10, .ref (aK 0), .ref (aK 0), .null, .int 0, .int 0, .int 0, .int 0, .int 0, .int 0, .int 0, .null])), (q_2, .inl (cI, 19, .inl (fun _ => 0))), (q_3, .inr (4, [.int 0, .ref e0, .int 0])), (q_5, .inr (4, [.int 0, .ref e0, .int 0])), (q_8, .inl (cI, 4, .inl (fun _ => 0))), (q_10, .inl (cA_9, 4, .inr (.inr (.inr (.inr (va_up (va_up (va_up (va_up (fun _ => none) ((0 : Int32)).toNatClampNeg (some (aK 0))) ((1 : Int32)).toNatClampNeg (some (aK 0))) ((2 : Int32)).toNatClampNeg (some (aK 0))) ((3 : Int32)).toNatClampNeg (some (aK 0)))))))), (q_15, .inr (4, [.int 0, .null, .int 0]))] H := hP
  have hD : va_D A [(xm, .inr (20, [.int 0, .int 0, .ref q_2, .int 0, .int 0, .int 0, .ref q_3, .ref q_5, .ref q_8, .ref q_10, .ref (aK 0), .ref (aK 0), .null, .int 0, .int 0, .int 0, .int 0, .int 0, .int 0, .int 0, .null])), (q_2, .inl (cI, 19, .inl (fun _ => 0))), (q_3, .inr (4, [.int 0, .ref e0, .int 0])), (q_5, .inr (4, [.int 0, .ref e0, .int 0])), (q_8, .inl (cI, 4, .inl (fun _ => 0))), (q_10, .inl (cA_9, 4, .inr (.inr (.inr (.inr (va_up (va_up (va_up (va_up (fun _ => none) ((0 : Int32)).toNatClampNeg (some (aK 0))) ((1 : Int32)).toNatClampNeg (some (aK 0))) ((2 : Int32)).toNatClampNeg (some (aK 0))) ((3 : Int32)).toNatClampNeg (some (aK 0)))))))), (q_15, .inr (4, [.int 0, .null, .int 0]))] := hD
  refine W.widen (k := 6) (n := 36) (Nat.le_of_ble_eq_true rfl) (Nat.le_of_ble_eq_true rfl) ?_
  refine lv_dup hx hb dX15_init_85 rfl ?_
  have hPc := hP.sub (ws' := [(q_15, .inr (4, [.int 0, .null, .int 0]))]) [6] rfl
  have hDc := hD.sub (ws' := [(q_15, .inr (4, [.int 0, .null, .int 0]))]) [6] (by decide) rfl
  have hKc := hK.sub (tys' := []) [] rfl
  have hFc := va_free (wc := [(q_15, .inr (4, [.int 0, .null, .int 0]))]) hD hS hA [6] rfl
  refine va_callv (va_runI (As := []) (rest := [.ref q_15, .ref xm]) ⟨hx, hb, hml, hown, hts⟩ (c_Jx4a65c_init_da8c8 l dC dI e0 aK aV q_15 H.size) (cwI 0 hts gX15_init_Jx4a65c_init_da8c8 rfl rfl rfl (hts (.initialized RJx4a65c) (by decide +kernel)) (hts (.methodLink RX15 180 yJx4a65c_init_da8c8) (by decide +kernel)) (hts (.instanceMethod yJx4a65c_init_da8c8) (by decide +kernel)) rfl (by decide +kernel) ⟨Nat.le_of_ble_eq_true rfl, Nat.le_of_ble_eq_true rfl⟩) (pcSz (zM_ok e0 aK aV) hPc hDc hKc hN hZ hS hFc) rfl rfl hl.1 rfl (lv_room (Nat.le_of_ble_eq_true rfl)) dX15_init_86 ⟨Nat.le_of_ble_eq_true rfl, Nat.le_of_ble_eq_true rfl⟩) hS (fun q _ h => hFc q h) hFc (fun u t H1 locs ht hvm hw_16 hB hz1 hk1 hS => ?_)
  obtain ⟨hP1, hK1, hD1⟩ := hB
  rw [ht] at hP1
  try dsimp only at hw_16
  obtain ⟨hP, hD⟩ := va_join (wr := [(xm, .inr (20, [.int 0, .int 0, .ref q_2, .int 0, .int 0, .int 0, .ref q_3, .ref q_5, .ref q_8, .ref q_10, .ref (aK 0), .ref (aK 0), .null, .int 0, .int 0, .int 0, .int 0, .int 0, .int 0, .int 0, .null])), (q_2, .inl (cI, 19, .inl (fun _ => 0))), (q_3, .inr (4, [.int 0, .ref e0, .int 0])), (q_5, .inr (4, [.int 0, .ref e0, .int 0])), (q_8, .inl (cI, 4, .inl (fun _ => 0))), (q_10, .inl (cA_9, 4, .inr (.inr (.inr (.inr (va_up (va_up (va_up (va_up (fun _ => none) ((0 : Int32)).toNatClampNeg (some (aK 0))) ((1 : Int32)).toNatClampNeg (some (aK 0))) ((2 : Int32)).toNatClampNeg (some (aK 0))) ((3 : Int32)).toNatClampNeg (some (aK 0))))))))]) (w1 := [(q_15, .inr (4, [.int 0, .ref e0, .int 0]))]) hP hD [6] [0, 1, 2, 3, 4, 5] rfl rfl (by decide) (by decide) hk1 hFc hP1 hD1
  generalize H1 = H at hP hS ⊢
  have hP : va_P (dC, dI) vwCl [(xm, .inr (20, [.int 0, .int 0, .ref q_2, .int 0, .int 0, .int 0, .ref q_3, .ref q_5, .ref q_8, .ref q_10, .ref (aK 0), .ref (aK 0), .null, .int 0, .int 0, .int 0, .int 0, .int 0, .int 0, .int 0, .null])), (q_2, .inl (cI, 19, .inl (fun _ => 0))), (q_3, .inr (4, [.int 0, .ref e0, .int 0])), (q_5, .inr (4, [.int 0, .ref e0, .int 0])), (q_8, .inl (cI, 4, .inl (fun _ => 0))), (q_10, .inl (cA_9, 4, .inr (.inr (.inr (.inr (va_up (va_up (va_up (va_up (fun _ => none) ((0 : Int32)).toNatClampNeg (some (aK 0))) ((1 : Int32)).toNatClampNeg (some (aK 0))) ((2 : Int32)).toNatClampNeg (some (aK 0))) ((3 : Int32)).toNatClampNeg (some (aK 0)))))))), (q_15, .inr (4, [.int 0, .ref e0, .int 0]))] H := hP
  have hD : va_D A [(xm, .inr (20, [.int 0, .int 0, .ref q_2, .int 0, .int 0, .int 0, .ref q_3, .ref q_5, .ref q_8, .ref q_10, .ref (aK 0), .ref (aK 0), .null, .int 0, .int 0, .int 0, .int 0, .int 0, .int 0, .int 0, .null])), (q_2, .inl (cI, 19, .inl (fun _ => 0))), (q_3, .inr (4, [.int 0, .ref e0, .int 0])), (q_5, .inr (4, [.int 0, .ref e0, .int 0])), (q_8, .inl (cI, 4, .inl (fun _ => 0))), (q_10, .inl (cA_9, 4, .inr (.inr (.inr (.inr (va_up (va_up (va_up (va_up (fun _ => none) ((0 : Int32)).toNatClampNeg (some (aK 0))) ((1 : Int32)).toNatClampNeg (some (aK 0))) ((2 : Int32)).toNatClampNeg (some (aK 0))) ((3 : Int32)).toNatClampNeg (some (aK 0)))))))), (q_15, .inr (4, [.int 0, .ref e0, .int 0]))] := hD
  refine va_putF (D := (dC, dI)) (ci := 20) (v := .ref q_15) (ty := .object "java/util/ArrayList") (C := RX15) (T := TX15) (N := 21) hx hb hts iWX15 tyX15 tyX15_ok nmX15 hown hK hP hD hS 0 rfl rfl 12 (by decide) (hts (.fieldLink RX15 206 "BeaverhallModel" "fractions" "Ljava/util/ArrayList;") (by decide +kernel)) (fun _ h9 => h9) rfl hin rfl (by decide +kernel) rfl rfl (Nat.le_of_ble_eq_true rfl) dX15_init_89 (fun H locs hP hD hS => ?_)
  have hP : va_P (dC, dI) vwCl [(xm, .inr (20, [.int 0, .int 0, .ref q_2, .int 0, .int 0, .int 0, .ref q_3, .ref q_5, .ref q_8, .ref q_10, .ref (aK 0), .ref (aK 0), .ref q_15, .int 0, .int 0, .int 0, .int 0, .int 0, .int 0, .int 0, .null])), (q_2, .inl (cI, 19, .inl (fun _ => 0))), (q_3, .inr (4, [.int 0, .ref e0, .int 0])), (q_5, .inr (4, [.int 0, .ref e0, .int 0])), (q_8, .inl (cI, 4, .inl (fun _ => 0))), (q_10, .inl (cA_9, 4, .inr (.inr (.inr (.inr (va_up (va_up (va_up (va_up (fun _ => none) ((0 : Int32)).toNatClampNeg (some (aK 0))) ((1 : Int32)).toNatClampNeg (some (aK 0))) ((2 : Int32)).toNatClampNeg (some (aK 0))) ((3 : Int32)).toNatClampNeg (some (aK 0)))))))), (q_15, .inr (4, [.int 0, .ref e0, .int 0]))] H := hP
  have hD : va_D A [(xm, .inr (20, [.int 0, .int 0, .ref q_2, .int 0, .int 0, .int 0, .ref q_3, .ref q_5, .ref q_8, .ref q_10, .ref (aK 0), .ref (aK 0), .ref q_15, .int 0, .int 0, .int 0, .int 0, .int 0, .int 0, .int 0, .null])), (q_2, .inl (cI, 19, .inl (fun _ => 0))), (q_3, .inr (4, [.int 0, .ref e0, .int 0])), (q_5, .inr (4, [.int 0, .ref e0, .int 0])), (q_8, .inl (cI, 4, .inl (fun _ => 0))), (q_10, .inl (cA_9, 4, .inr (.inr (.inr (.inr (va_up (va_up (va_up (va_up (fun _ => none) ((0 : Int32)).toNatClampNeg (some (aK 0))) ((1 : Int32)).toNatClampNeg (some (aK 0))) ((2 : Int32)).toNatClampNeg (some (aK 0))) ((3 : Int32)).toNatClampNeg (some (aK 0)))))))), (q_15, .inr (4, [.int 0, .ref e0, .int 0]))] := hD
  have hP9 := hP.sub (ws' := [(xm, .inr (20, [.int 0, .int 0, .ref q_2, .int 0, .int 0, .int 0, .ref q_3, .ref q_5, .ref q_8, .ref q_10, .ref (aK 0), .ref (aK 0), .ref q_15, .int 0, .int 0, .int 0, .int 0, .int 0, .int 0, .int 0, .null])), (q_3, .inr (4, [.int 0, .ref e0, .int 0])), (q_5, .inr (4, [.int 0, .ref e0, .int 0])), (q_15, .inr (4, [.int 0, .ref e0, .int 0])), (q_8, .inl (cI, 4, .inl (fun _ => 0))), (q_10, .inl (cA_9, 4, .inr (.inr (.inr (.inr (va_up (va_up (va_up (va_up (fun _ => none) ((0 : Int32)).toNatClampNeg (some (aK 0))) ((1 : Int32)).toNatClampNeg (some (aK 0))) ((2 : Int32)).toNatClampNeg (some (aK 0))) ((3 : Int32)).toNatClampNeg (some (aK 0))))))))]) [0, 2, 3, 6, 4, 5] rfl
  have hD9 := hD.sub (ws' := [(xm, .inr (20, [.int 0, .int 0, .ref q_2, .int 0, .int 0, .int 0, .ref q_3, .ref q_5, .ref q_8, .ref q_10, .ref (aK 0), .ref (aK 0), .ref q_15, .int 0, .int 0, .int 0, .int 0, .int 0, .int 0, .int 0, .null])), (q_3, .inr (4, [.int 0, .ref e0, .int 0])), (q_5, .inr (4, [.int 0, .ref e0, .int 0])), (q_15, .inr (4, [.int 0, .ref e0, .int 0])), (q_8, .inl (cI, 4, .inl (fun _ => 0))), (q_10, .inl (cA_9, 4, .inr (.inr (.inr (.inr (va_up (va_up (va_up (va_up (fun _ => none) ((0 : Int32)).toNatClampNeg (some (aK 0))) ((1 : Int32)).toNatClampNeg (some (aK 0))) ((2 : Int32)).toNatClampNeg (some (aK 0))) ((3 : Int32)).toNatClampNeg (some (aK 0))))))))]) [0, 2, 3, 6, 4, 5] (by decide) rfl
  have hK9 := hK.sub (tys' := [(cI, .int), (cA_9, .object "java/lang/String")]) [0, 1] rfl
  exact W.vret hx hb hr (fun t ht hW => ⟨⟨(q_3, q_5, q_15, q_2, q_8, q_10, cA_9), rfl, trivial, ⟨by rw [ht]; exact hP9, va_K.moved hW.alike hK9, hD9⟩⟩, hS.F ht⟩) hS.2.2 dX15_init_92
