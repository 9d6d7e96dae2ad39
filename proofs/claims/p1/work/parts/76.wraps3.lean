theorem dL_ways_0 : decode cL_ways 0 = .ok (.aload_n 3, 1) := by decide +kernel
theorem dL_ways_1 : decode cL_ways 1 = .ok (.iconst 0, 1) := by decide +kernel
theorem dL_ways_2 : decode cL_ways 2 = .ok (.aload_n 0, 1) := by decide +kernel
theorem dL_ways_3 : decode cL_ways 3 = .ok (.iload_n 1, 1) := by decide +kernel
theorem dL_ways_4 : decode cL_ways 4 = .ok (.iload_n 2, 1) := by decide +kernel
set_option maxRecDepth 20000 in
theorem ggL_ways_X11_ways : GoodIn wsL_ways wsX11_ways := goodIn_ca (goodIn_ca (goodIn_ca (goodIn_r _ [7, 8, 9, 10, 11, 12, 6, 13, 14, 15, 16, 17, 18, 19, 20, 21, 22, 23, 24, 25, 26, 27, 28, 29, 30, 31, 32, 33, 34, 35, 36, 37, 38, 39, 40, 41, 42, 43, 44, 45, 46, 47, 48, 49, 50, 51, 52, 53, 54, 55, 56, 57, 58, 59, 60, 61, 62, 63, 64, 65, 66, 67, 68, 69, 70, 71, 72, 73, 74, 75, 76, 77, 78, 79, 80, 81, 82, 83, 84, 85, 86, 87, 88, 89, 90, 91, 92, 93, 94, 95, 96, 97, 98, 99, 100, 101, 102, 103, 104, 105, 106, 107, 108, 109, 110] rfl (by decide +kernel)) (goodIn_sub (fun _ h => List.mem_cons_of_mem _ (List.mem_append_left _ (List.mem_append_right _ h))) (by decide +kernel))) (goodIn_sub (fun _ h => List.mem_cons_of_mem _ (List.mem_append_right _ h)) (by decide +kernel))) (goodIn_sub (fun _ h => List.mem_cons_of_mem _ (List.mem_append_left _ (List.mem_append_left _ (List.mem_append_right _ h)))) (by decide +kernel))
set_option maxRecDepth 20000 in
theorem gL_ways_X11_ways : GoodIn wsL_ways (wsV RL 79 RX11 yX11_ways wsX11_ways) := goodIn_app (goodIn_of _ (by decide +kernel)) ggL_ways_X11_ways
theorem dL_ways_5 : decode cL_ways 5 = .ok (.invokevirtual 79, 3) := by decide +kernel
theorem dL_ways_13 : decode cL_ways 13 = .ok (.astore 4, 2) := by decide +kernel
theorem dL_ways_15 : decode cL_ways 15 = .ok (.iconst 1, 1) := by decide +kernel
theorem dL_ways_16 : decode cL_ways 16 = .ok (.ireturn, 1) := by decide +kernel
theorem dL_tell_0 : decode cL_tell 0 = .ok (.aload 4, 2) := by decide +kernel
theorem dL_tell_2 : decode cL_tell 2 = .ok (.iconst 0, 1) := by decide +kernel
theorem dL_tell_3 : decode cL_tell 3 = .ok (.aload_n 0, 1) := by decide +kernel
theorem dL_tell_4 : decode cL_tell 4 = .ok (.iload_n 1, 1) := by decide +kernel
theorem dL_tell_5 : decode cL_tell 5 = .ok (.iload_n 2, 1) := by decide +kernel
theorem dL_tell_6 : decode cL_tell 6 = .ok (.iload_n 3, 1) := by decide +kernel
set_option maxRecDepth 20000 in
theorem ggL_tell_X11_tell : GoodIn wsL_tell wsX11_tell := goodIn_ca (goodIn_ca (goodIn_ca (goodIn_r _ [7, 8, 9, 10, 6, 11, 12, 13, 14, 15, 16, 17, 18, 19, 20, 21, 22, 23, 24, 25, 26, 27, 28, 29, 30, 31, 32, 33, 34, 35, 36, 37, 38, 39, 40, 41, 42, 43, 44, 45, 46, 47, 48, 49] rfl (by decide +kernel)) (goodIn_sub (fun _ h => List.mem_cons_of_mem _ (List.mem_append_left _ (List.mem_append_right _ h))) (by decide +kernel))) (goodIn_sub (fun _ h => List.mem_cons_of_mem _ (List.mem_append_right _ h)) (by decide +kernel))) (goodIn_sub (fun _ h => List.mem_cons_of_mem _ (List.mem_append_left _ (List.mem_append_left _ (List.mem_append_right _ h)))) (by decide +kernel))
set_option maxRecDepth 20000 in
theorem gL_tell_X11_tell : GoodIn wsL_tell (wsV RL 97 RX11 yX11_tell wsX11_tell) := goodIn_app (goodIn_of _ (by decide +kernel)) ggL_tell_X11_tell
theorem dL_tell_7 : decode cL_tell 7 = .ok (.invokevirtual 97, 3) := by decide +kernel
theorem dL_tell_15 : decode cL_tell 15 = .ok (.astore 5, 2) := by decide +kernel
theorem dL_tell_17 : decode cL_tell 17 = .ok (.iconst 1, 1) := by decide +kernel
theorem dL_tell_18 : decode cL_tell 18 = .ok (.ireturn, 1) := by decide +kernel
theorem dL_isDisputed_0 : decode cL_isDisputed 0 = .ok (.aload_n 2, 1) := by decide +kernel
theorem dL_isDisputed_1 : decode cL_isDisputed 1 = .ok (.iconst 0, 1) := by decide +kernel
theorem dL_isDisputed_2 : decode cL_isDisputed 2 = .ok (.aload_n 0, 1) := by decide +kernel
theorem dL_isDisputed_3 : decode cL_isDisputed 3 = .ok (.iload_n 1, 1) := by decide +kernel
set_option maxRecDepth 20000 in
theorem ggL_isDisputed_X11_isDisputed : GoodIn wsL_isDisputed wsX11_isDisputed := goodIn_ca (goodIn_ca (goodIn_r _ [6, 7, 8, 9, 5, 10, 11, 12, 13, 14, 15, 16, 17, 18, 19, 20, 21, 22, 23, 24, 25, 26, 27, 28, 29, 30, 31, 32, 33, 34, 35, 36, 37, 38, 39, 40, 41, 42, 43] rfl (by decide +kernel)) (goodIn_sub (fun _ h => List.mem_cons_of_mem _ (List.mem_append_right _ h)) (by decide +kernel))) (goodIn_sub (fun _ h => List.mem_cons_of_mem _ (List.mem_append_left _ (List.mem_append_right _ h))) (by decide +kernel))
set_option maxRecDepth 20000 in
theorem gL_isDisputed_X11_isDisputed : GoodIn wsL_isDisputed (wsV RL 100 RX11 yX11_isDisputed wsX11_isDisputed) := goodIn_app (goodIn_of _ (by decide +kernel)) ggL_isDisputed_X11_isDisputed
theorem dL_isDisputed_4 : decode cL_isDisputed 4 = .ok (.invokevirtual 100, 3) := by decide +kernel
theorem dL_isDisputed_19 : decode cL_isDisputed 19 = .ok (.astore_n 3, 1) := by decide +kernel
theorem dL_isDisputed_20 : decode cL_isDisputed 20 = .ok (.iconst 1, 1) := by decide +kernel
theorem dL_isDisputed_21 : decode cL_isDisputed 21 = .ok (.ireturn, 1) := by decide +kernel
theorem dL_holdoutAt_0 : decode cL_holdoutAt 0 = .ok (.aload_n 2, 1) := by decide +kernel
theorem dL_holdoutAt_1 : decode cL_holdoutAt 1 = .ok (.iconst 0, 1) := by decide +kernel
theorem dL_holdoutAt_2 : decode cL_holdoutAt 2 = .ok (.aload_n 0, 1) := by decide +kernel
theorem dL_holdoutAt_3 : decode cL_holdoutAt 3 = .ok (.iload_n 1, 1) := by decide +kernel
set_option maxRecDepth 20000 in
theorem ggL_holdoutAt_X11_holdoutAt : GoodIn wsL_holdoutAt wsX11_holdoutAt := goodIn_ca (goodIn_ca (goodIn_ca (goodIn_r _ [6, 7, 8, 9, 10, 11, 5, 12, 13, 14, 15, 16, 17, 18, 19, 20, 21, 22, 23, 24, 25, 26, 27, 28, 29, 30, 31, 32, 33, 34, 35, 36, 37, 38, 39, 40, 41, 42, 43, 44, 45, 46, 47, 48, 49, 50, 51, 52, 53, 54, 55, 56, 57, 58, 59, 60, 61, 62, 63, 64, 65, 66, 67, 68, 69, 70, 71, 72, 73, 74, 75, 76, 77, 78, 79, 80, 81, 82, 83, 84, 85, 86, 87, 88, 89, 90, 91, 92, 93, 94, 95, 96, 97, 98, 99, 100, 101, 102, 103, 104, 105, 106, 107, 108, 109, 110, 111, 112, 113, 114, 115, 116, 117, 118, 119, 120, 121, 122, 123, 124, 125, 126, 127, 128, 129, 130, 131, 132, 133, 134, 135, 136, 137, 138, 139, 140, 141, 142, 143, 144, 145, 146, 147, 148, 149, 150, 151, 152, 153, 154, 155, 156, 157, 158, 159, 160, 161, 162, 163, 164, 165, 166, 167, 168, 169, 170, 171, 172, 173, 174, 175, 176, 177, 178, 179, 180, 181, 182, 183, 184, 185, 186, 187, 188, 189, 190, 191, 192, 193, 194, 195, 196, 197, 198, 199, 200, 201, 202, 203, 204, 205, 206, 207, 208, 209, 210, 211, 212, 213, 214, 215, 216, 217, 218, 219, 220, 221, 222, 223, 224, 225, 226, 227, 228, 229, 230, 231, 232, 233, 234, 235, 236, 237, 238, 239, 240, 241, 242, 243, 244, 245, 246, 247, 248, 249, 250, 251, 252, 253, 254, 255, 256, 257, 258, 259, 260, 261, 262, 263, 264, 265, 266, 267, 268, 269, 270, 271, 272, 273, 274] rfl (by decide +kernel)) (goodIn_sub (fun _ h => List.mem_cons_of_mem _ (List.mem_append_left _ (List.mem_append_right _ h))) (by decide +kernel))) (goodIn_sub (fun _ h => List.mem_cons_of_mem _ (List.mem_append_left _ (List.mem_append_left _ (List.mem_append_right _ h)))) (by decide +kernel))) (goodIn_sub (fun _ h => List.mem_cons_of_mem _ (List.mem_append_right _ h)) (by decide +kernel))
set_option maxRecDepth 20000 in
theorem gL_holdoutAt_X11_holdoutAt : GoodIn wsL_holdoutAt (wsV RL 103 RX11 yX11_holdoutAt wsX11_holdoutAt) := goodIn_app (goodIn_of _ (by decide +kernel)) ggL_holdoutAt_X11_holdoutAt
theorem dL_holdoutAt_4 : decode cL_holdoutAt 4 = .ok (.invokevirtual 103, 3) := by decide +kernel
theorem dL_holdoutAt_12 : decode cL_holdoutAt 12 = .ok (.astore_n 3, 1) := by decide +kernel
theorem dL_holdoutAt_13 : decode cL_holdoutAt 13 = .ok (.iconst 1, 1) := by decide +kernel
theorem dL_holdoutAt_14 : decode cL_holdoutAt 14 = .ok (.ireturn, 1) := by decide +kernel
theorem dL_tagLetter_0 : decode cL_tagLetter 0 = .ok (.aload_n 2, 1) := by decide +kernel
theorem dL_tagLetter_1 : decode cL_tagLetter 1 = .ok (.iconst 0, 1) := by decide +kernel
theorem dL_tagLetter_2 : decode cL_tagLetter 2 = .ok (.aload_n 0, 1) := by decide +kernel
theorem dL_tagLetter_3 : decode cL_tagLetter 3 = .ok (.iload_n 1, 1) := by decide +kernel
set_option maxRecDepth 20000 in
theorem ggL_tagLetter_X11_tagLetter : GoodIn wsL_tagLetter wsX11_tagLetter := goodIn_ca (goodIn_ca (goodIn_r _ [6, 7, 8, 9, 10, 5, 11, 12, 13, 14, 15, 16, 17, 18, 19, 20, 21, 22, 23, 24, 25, 26, 27, 28, 29, 30, 31, 32, 33, 34, 35, 36, 37] rfl (by decide +kernel)) (goodIn_sub (fun _ h => List.mem_cons_of_mem _ (List.mem_append_right _ h)) (by decide +kernel))) (goodIn_sub (fun _ h => List.mem_cons_of_mem _ (List.mem_append_left _ (List.mem_append_right _ h))) (by decide +kernel))
set_option maxRecDepth 20000 in
theorem gL_tagLetter_X11_tagLetter : GoodIn wsL_tagLetter (wsV RL 126 RX11 yX11_tagLetter wsX11_tagLetter) := goodIn_app (goodIn_of _ (by decide +kernel)) ggL_tagLetter_X11_tagLetter
theorem dL_tagLetter_4 : decode cL_tagLetter 4 = .ok (.invokevirtual 126, 3) := by decide +kernel
theorem dL_tagLetter_12 : decode cL_tagLetter 12 = .ok (.astore_n 3, 1) := by decide +kernel
theorem dL_tagLetter_13 : decode cL_tagLetter 13 = .ok (.iconst 1, 1) := by decide +kernel
theorem dL_tagLetter_14 : decode cL_tagLetter 14 = .ok (.ireturn, 1) := by decide +kernel
theorem dL_meanMarks_0 : decode cL_meanMarks 0 = .ok (.aload_n 1, 1) := by decide +kernel
theorem dL_meanMarks_1 : decode cL_meanMarks 1 = .ok (.iconst 0, 1) := by decide +kernel
theorem dL_meanMarks_2 : decode cL_meanMarks 2 = .ok (.aload_n 0, 1) := by decide +kernel
set_option maxRecDepth 20000 in
theorem ggL_meanMarks_X11_meanMarks : GoodIn wsL_meanMarks wsX11_meanMarks := goodIn_ca (goodIn_ca (goodIn_ca (goodIn_r _ [6, 7, 8, 9, 10, 11, 12, 13, 5, 14, 15, 16, 17, 18, 19, 20, 21, 22, 23, 24, 25, 26, 27, 28, 29, 30, 31, 32, 33, 34, 35, 36, 37, 38, 39, 40, 41, 42, 43, 44, 45, 46, 47, 48, 49, 50, 51, 52, 53, 54, 55, 56, 57, 58, 59, 60, 61, 62, 63, 64, 65, 66, 67, 68, 69, 70, 71, 72, 73, 74, 75, 76, 77, 78, 79, 80, 81, 82, 83, 84, 85, 86, 87, 88, 89, 90, 91, 92, 93, 94, 95, 96, 97, 98, 99, 100, 101, 102, 103, 104, 105, 106, 107, 108, 109, 110, 111, 112, 113, 114, 115, 116, 117, 118, 119, 120, 121, 122, 123, 124, 125, 126, 127, 128, 129, 130, 131, 132, 133, 134, 135, 136, 137, 138, 139, 140, 141, 142, 143, 144, 145, 146, 147, 148, 149, 150, 151, 152, 153, 154, 155, 156, 157, 158, 159, 160, 161, 162, 163, 164, 165, 166, 167, 168, 169, 170, 171, 172, 173, 174, 175, 176, 177, 178, 179, 180, 181, 182, 183, 184, 185, 186, 187, 188, 189, 190, 191, 192, 193, 194, 195, 196, 197, 198, 199, 200, 201, 202, 203, 204, 205, 206, 207, 208, 209, 210, 211, 212, 213, 214, 215, 216, 217, 218, 219, 220, 221, 222, 223, 224, 225, 226, 227, 228, 229, 230, 231, 232, 233, 234, 235, 236, 237, 238, 239, 240, 241, 242, 243, 244, 245, 246, 247, 248, 249, 250, 251, 252, 253, 254, 255, 256, 257, 258, 259, 260, 261, 262, 263, 264, 265, 266, 267, 268, 269, 270, 271, 272, 273, 274, 275, 276, 277, 278, 279, 280, 281] rfl (by decide +kernel)) (goodIn_sub (fun _ h => List.mem_cons_of_mem _ (List.mem_append_left _ (List.mem_append_right _ h))) (by decide +kernel))) (goodIn_sub (fun _ h => List.mem_cons_of_mem _ (List.mem_append_right _ h)) (by decide +kernel))) (goodIn_sub (fun _ h => List.mem_cons_of_mem _ (List.mem_append_left _ (List.mem_append_left _ (List.mem_append_right _ h)))) (by decide +kernel))
set_option maxRecDepth 20000 in
theorem gL_meanMarks_X11_meanMarks : GoodIn wsL_meanMarks (wsV RL 136 RX11 yX11_meanMarks wsX11_meanMarks) := goodIn_app (goodIn_of _ (by decide +kernel)) ggL_meanMarks_X11_meanMarks
theorem dL_meanMarks_3 : decode cL_meanMarks 3 = .ok (.invokevirtual 136, 3) := by decide +kernel
theorem dL_meanMarks_10 : decode cL_meanMarks 10 = .ok (.astore_n 2, 1) := by decide +kernel
theorem dL_meanMarks_11 : decode cL_meanMarks 11 = .ok (.iconst 1, 1) := by decide +kernel
theorem dL_meanMarks_12 : decode cL_meanMarks 12 = .ok (.ireturn, 1) := by decide +kernel
theorem dL_record_0 : decode cL_record 0 = .ok (.aload_n 2, 1) := by decide +kernel
theorem dL_record_1 : decode cL_record 1 = .ok (.iconst 0, 1) := by decide +kernel
theorem dL_record_2 : decode cL_record 2 = .ok (.aload_n 0, 1) := by decide +kernel
theorem dL_record_3 : decode cL_record 3 = .ok (.iload_n 1, 1) := by decide +kernel
set_option maxRecDepth 20000 in
theorem ggL_record_X11_record : GoodIn wsL_record wsX11_record := goodIn_ca (goodIn_ca (goodIn_ca (goodIn_ca (goodIn_r _ [7, 8, 9, 10, 11, 12, 6, 13, 14, 15, 16, 17, 18, 19, 20, 21, 22, 23, 24, 25, 26, 27, 28, 29, 30, 31, 32, 33, 34, 35, 36, 37, 38, 39, 40, 41, 42, 43, 44, 45, 46, 47, 48, 49, 50, 51, 52, 53, 54, 55, 56, 57, 58, 59, 60, 61, 62, 63, 64, 65, 66, 67, 68, 69, 70, 71, 72, 73, 74, 75, 76, 77, 78, 79, 80, 81, 82, 83, 84, 85, 86, 87, 88, 89, 90, 91, 92, 93, 94, 95, 96, 97, 98, 99, 100, 101, 102, 103, 104, 105, 106, 107, 108, 109, 110, 111, 112, 113, 114, 115, 116, 117, 118, 119, 120, 121, 122, 123, 124, 125, 126, 127, 128, 129, 130, 131, 132, 133, 134, 135, 136, 137, 138, 139, 140, 141, 142, 143, 144, 145, 146, 147, 148, 149, 150, 151, 152, 153, 154, 155, 156, 157, 158, 159, 160, 161, 162, 163, 164, 165, 166, 167, 168, 169, 170, 171, 172, 173, 174, 175, 176, 177, 178, 179, 180, 181, 182, 183, 184, 185, 186, 187, 188, 189, 190, 191, 192, 193, 194, 195, 196, 197, 198, 199, 200, 201, 202, 203, 204, 205, 206, 207, 208, 209, 210, 211, 212, 213, 214, 215, 216, 217, 218, 219, 220, 221, 222, 223, 224, 225, 226, 227, 228, 229, 230, 231, 232, 233, 234, 235, 236, 237, 238, 239, 240, 241, 242, 243, 244, 245, 246, 247, 248, 249, 250, 251, 252, 253, 254, 255, 256, 257, 258, 259, 260, 261, 262, 263, 264, 265, 266, 267, 268, 269, 270, 271, 272, 273, 274, 275, 276, 277, 278, 279, 280, 281, 282, 283, 284, 285, 286, 287, 288, 289, 290, 291] rfl (by decide +kernel)) (goodIn_sub (fun _ h => List.mem_cons_of_mem _ (List.mem_append_left _ (List.mem_append_left _ (List.mem_append_right _ h)))) (by decide +kernel))) (goodIn_sub (fun _ h => List.mem_cons_of_mem _ (List.mem_append_left _ (List.mem_append_right _ h))) (by decide +kernel))) (goodIn_sub (fun _ h => List.mem_cons_of_mem _ (List.mem_append_left _ (List.mem_append_left _ (List.mem_append_left _ (List.mem_append_right _ h))))) (by decide +kernel))) (goodIn_sub (fun _ h => List.mem_cons_of_mem _ (List.mem_append_right _ h)) (by decide +kernel))
set_option maxRecDepth 20000 in
theorem gL_record_X11_record : GoodIn wsL_record (wsV RL 93 RX11 yX11_record wsX11_record) := goodIn_app (goodIn_of _ (by decide +kernel)) ggL_record_X11_record
theorem dL_record_4 : decode cL_record 4 = .ok (.invokevirtual 93, 3) := by decide +kernel
theorem dL_record_12 : decode cL_record 12 = .ok (.astore_n 3, 1) := by decide +kernel
theorem dL_record_13 : decode cL_record 13 = .ok (.iconst 1, 1) := by decide +kernel
theorem dL_record_14 : decode cL_record 14 = .ok (.ireturn, 1) := by decide +kernel
theorem dL_record_15 : decode cL_record 15 = .ok (.astore_n 3, 1) := by decide +kernel
theorem dL_record_16 : decode cL_record 16 = .ok (.iconst 2, 1) := by decide +kernel
theorem dL_record_17 : decode cL_record 17 = .ok (.ireturn, 1) := by decide +kernel
set_option maxHeartbeats 4000000 in
set_option maxRecDepth 100000 in
/-- L_ways -/
theorem c_L_ways (l : Launch) (hfl : l.stackTraces = false) (dC : Nat → ClassId) (dI : Nat → Nat → Nat) (ya ms ju li ct tg fw : Nat) (a1 a2 : Int32) (cL : ClassId) (ou : Nat) (of9 : Nat → Int64) (sz : Nat) : vx_Met l yL_ways wsL_ways ({ frames := 8, cells := 1, slots := 6, locals := 145 }) (va_Pc [.ref ya, .int a1, .int a2, .ref ou] (cPCz (zX) dC dI [(ya, .inr (16, [.ref ms, .int 0, .ref ju, .ref li, .ref ct, .ref tg, .ref fw])), (ou, .inl (cL, 1, .inr (.inl of9)))] [(cL, .long)] sz)) (va_Qi (fun (r : Int32) (u : Nat → Int64) => r = 1) (fun (u : Nat → Int64) t => cQB dC dI [(ou, .inl (cL, 1, .inr (.inl u)))] [(cL, .long)] (va_A [(ya, .inr (16, [.ref ms, .int 0, .ref ju, .ref li, .ref ct, .ref tg, .ref fw])), (ou, .inl (cL, 1, .inr (.inl of9)))] sz) t) (va_A [(ya, .inr (16, [.ref ms, .int 0, .ref ju, .ref li, .ref ct, .ref tg, .ref fw])), (ou, .inl (cL, 1, .inr (.inl of9)))] sz)) (vx_X (fun (_ : Unit) => True) (fun (E9 : String) (_ : Unit) (_ : State) => False) (va_A [(ya, .inr (16, [.ref ms, .int 0, .ref ju, .ref li, .ref ct, .ref tg, .ref fw])), (ou, .inl (cL, 1, .inr (.inl of9)))] sz)) 1 6 (va_A [(ya, .inr (16, [.ref ms, .int 0, .ref ju, .ref li, .ref ct, .ref tg, .ref fw])), (ou, .inl (cL, 1, .inr (.inl of9)))] sz) := by
  refine vx_ofWH (cc := cL_ways) (maxL := 5) (ret := (some .int)) (hh := [(0, 10, 13, 21), (0, 10, 17, 13)]) (by decide) rfl ?_
  intro p e s m args below meth c s₁ B hml hv
  obtain ⟨rfl, ⟨hsz, hP, hK, hD0, hN⟩, hZ⟩ := hv
  have hx := B.exec
  have hb := B.bytes
  have hr := B.returns
  have hts := atoms_spec (ws := wsL_ways) B.pre
  have hown : s.vm.findClass RL = some m.cls := findClass_of_methodNamed B.named
  have hlocks := B.notSynchronized
  subst hsz
  have hD := hD0.self (sz := s.heap.size)
  generalize hAe : va_A [(ya, .inr (16, [.ref ms, .int 0, .ref ju, .ref li, .ref ct, .ref tg, .ref fw])), (ou, .inl (cL, 1, .inr (.inl of9)))] s.heap.size = A at hD hZ ⊢
  have hA : ∀ q : Nat, s.heap.size ≤ q → A q := fun q h => by rw [← hAe]; exact Or.inr h
  have hS : va_S A s.heap s.heap [] := va_S.rf
  have hP : va_P (dC, dI) vwCl [(ya, .inr (16, [.ref ms, .int 0, .ref ju, .ref li, .ref ct, .ref tg, .ref fw])), (ou, .inl (cL, 1, .inr (.inl of9)))] s.heap := hP
  have hD : va_D A [(ya, .inr (16, [.ref ms, .int 0, .ref ju, .ref li, .ref ct, .ref tg, .ref fw])), (ou, .inl (cL, 1, .inr (.inl of9)))] := hD
  have hl := lv_entry ([.ref ya, .int a1, .int a2, .ref ou]) (n := 5) (Nat.le_of_ble_eq_true rfl)
  rw [lg_entry_eq]
  generalize (lg_sl ([.ref ya, .int a1, .int a2, .ref ou]) ++ List.replicate (5 - (lg_sl ([.ref ya, .int a1, .int a2, .ref ou])).length) Slot.unset).toArray = ls at hl ⊢
  have hl : lv_has ls 5 [(0, .ref ya), (1, .int a1), (2, .int a2), (3, .ref ou)] := hl
  have htab : c.exceptionTable.toList = tableOf [(0, 10, 13, 21), (0, 10, 17, 13)] := vx_table (x := yL_ways) B (hts (.codeWith yL_ways cL_ways 5 (some .int) [(0, 10, 13, 21), (0, 10, 17, 13)]) (show _ ∈ wsL_ways from List.mem_cons_self))
  refine lv_aload_n hx hb dL_ways_0 rfl (lv_at hl 3 rfl) ?_
  refine lv_iconst (v := 0) hx hb dL_ways_1 (by decide) ?_
  refine lv_aload_n hx hb dL_ways_2 rfl (lv_at hl 0 rfl) ?_
  refine lv_iload_n hx hb dL_ways_3 rfl (lv_at hl 1 rfl) ?_
  refine lv_iload_n hx hb dL_ways_4 rfl (lv_at hl 2 rfl) ?_
  have hPc := hP.sub (ws' := [(ya, .inr (16, [.ref ms, .int 0, .ref ju, .ref li, .ref ct, .ref tg, .ref fw]))]) [0] rfl
  have hDc := hD.sub (ws' := [(ya, .inr (16, [.ref ms, .int 0, .ref ju, .ref li, .ref ct, .ref tg, .ref fw]))]) [0] (by decide) rfl
  have hKc := hK.sub (tys' := []) [] rfl
  have hFc := va_free (wc := [(ya, .inr (16, [.ref ms, .int 0, .ref ju, .ref li, .ref ct, .ref tg, .ref fw]))]) hD hS hA [0] rfl
  refine vx_callX (vx_runV (As := [.int a1, .int a2]) (rest := [.int 0, .ref ou]) ⟨hx, hb, hml, hown, hts⟩ (c_X11_ways l hfl dC dI ya ms ju li ct tg fw a1 a2 s.heap.size) (cwV 2 hts gL_ways_X11_ways rfl rfl rfl (by decide +kernel) ⟨Nat.le_of_ble_eq_true rfl, Nat.le_of_ble_eq_true rfl⟩) (pcVz (zX_ok) hPc hDc hKc hN hZ hS hFc (ci := 16) (q0 := 0) rfl rfl) rfl rfl hl.1 rfl (lv_room (Nat.le_of_ble_eq_true rfl)) dL_ways_5 ⟨Nat.le_of_ble_eq_true rfl, Nat.le_of_ble_eq_true rfl⟩) hS hFc (fun q _ h => hFc q h) (fun _ _ _ h => h) (fun E9 ce9 q9 u9 t9 H9 locs9 ht9 hvm9 hp9 hE9 hz9 hk9 hS9 hc9 hv9 hcl9 => ?_)
  subst hE9
  refine vx_catch (name := "java/lang/IndexOutOfBoundsException") hown [] ⟨0, 10, 13, 21⟩ [⟨0, 10, 17, 13⟩] htab (fun z hz => by cases hz) (by decide) (by decide) (hts (.classLink RL 21 "java/lang/IndexOutOfBoundsException") (by decide +kernel)) (zX_use hZ (.castable "java/lang/IndexOutOfBoundsException" "java/lang/IndexOutOfBoundsException") (by decide)) hc9 hv9 hcl9 ?_
  refine W.eq (g2 := F0 m 13 ls [.ref q9]) rfl ?_
  obtain ⟨hP, hD⟩ := va_join (wr := [(ou, .inl (cL, 1, .inr (.inl of9)))]) (w1 := []) hP hD [0] [1] rfl rfl (by decide) (by decide) hk9 hFc P_nil D_nil
  have hS := hS9
  generalize H9 = H at hP hS ⊢
  have hP : va_P (dC, dI) vwCl [(ou, .inl (cL, 1, .inr (.inl of9)))] H := hP
  have hD : va_D A [(ou, .inl (cL, 1, .inr (.inl of9)))] := hD
  refine W.widen (k := 1) (n := 6) (Nat.le_of_ble_eq_true rfl) (Nat.le_of_ble_eq_true rfl) ?_
  refine lv_astore (lv' := [(4, .ref q9), (0, .ref ya), (1, .int a1), (2, .int a2), (3, .ref ou)]) hx hb dL_ways_13 hl (by decide) rfl (fun ls hl => ?_)
  refine lv_iconst (v := 1) hx hb dL_ways_15 (by decide) ?_
  refine vx_ret ?_
  have hP9 := hP.sub (ws' := [(ou, .inl (cL, 1, .inr (.inl of9)))]) [0] rfl
  have hD9 := hD.sub (ws' := [(ou, .inl (cL, 1, .inr (.inl of9)))]) [0] (by decide) rfl
  have hK9 := hK.sub (tys' := [(cL, .long)]) [0] rfl
  exact W.iret (v := 1) hx hb hr (fun t ht hW => ⟨⟨1, of9, rfl, rfl, ⟨by rw [ht]; exact hP9, va_K.moved hW.alike hK9, hD9⟩⟩, hS.F ht⟩) hS.2.2 dL_ways_16

set_option maxHeartbeats 4000000 in
set_option maxRecDepth 100000 in
/-- L_tell -/
theorem c_L_tell (l : Launch) (hfl : l.stackTraces = false) (dC : Nat → ClassId) (dI : Nat → Nat → Nat) (ya ms ju li ct tg fw : Nat) (a1 a2 a3 : Int32) (cL : ClassId) (ou : Nat) (of9 : Nat → Int64) (sz : Nat) : vx_Met l yL_tell wsL_tell ({ frames := 8, cells := 1, slots := 6, locals := 146 }) (va_Pc [.ref ya, .int a1, .int a2, .int a3, .ref ou] (cPCz (zX) dC dI [(ya, .inr (16, [.ref ms, .int 0, .ref ju, .ref li, .ref ct, .ref tg, .ref fw])), (ou, .inl (cL, 1, .inr (.inl of9)))] [(cL, .long)] sz)) (va_Qi (fun (r : Int32) (u : Nat → Int64) => r = 1) (fun (u : Nat → Int64) t => cQB dC dI [(ou, .inl (cL, 1, .inr (.inl u)))] [(cL, .long)] (va_A [(ya, .inr (16, [.ref ms, .int 0, .ref ju, .ref li, .ref ct, .ref tg, .ref fw])), (ou, .inl (cL, 1, .inr (.inl of9)))] sz) t) (va_A [(ya, .inr (16, [.ref ms, .int 0, .ref ju, .ref li, .ref ct, .ref tg, .ref fw])), (ou, .inl (cL, 1, .inr (.inl of9)))] sz)) (vx_X (fun (_ : Unit) => True) (fun (E9 : String) (_ : Unit) (_ : State) => False) (va_A [(ya, .inr (16, [.ref ms, .int 0, .ref ju, .ref li, .ref ct, .ref tg, .ref fw])), (ou, .inl (cL, 1, .inr (.inl of9)))] sz)) 1 6 (va_A [(ya, .inr (16, [.ref ms, .int 0, .ref ju, .ref li, .ref ct, .ref tg, .ref fw])), (ou, .inl (cL, 1, .inr (.inl of9)))] sz) := by
  refine vx_ofWH (cc := cL_tell) (maxL := 6) (ret := (some .int)) (hh := [(0, 12, 15, 21), (0, 12, 19, 13)]) (by decide) rfl ?_
  intro p e s m args below meth c s₁ B hml hv
  obtain ⟨rfl, ⟨hsz, hP, hK, hD0, hN⟩, hZ⟩ := hv
  have hx := B.exec
  have hb := B.bytes
  have hr := B.returns
  have hts := atoms_spec (ws := wsL_tell) B.pre
  have hown : s.vm.findClass RL = some m.cls := findClass_of_methodNamed B.named
  have hlocks := B.notSynchronized
  subst hsz
  have hD := hD0.self (sz := s.heap.size)
  generalize hAe : va_A [(ya, .inr (16, [.ref ms, .int 0, .ref ju, .ref li, .ref ct, .ref tg, .ref fw])), (ou, .inl (cL, 1, .inr (.inl of9)))] s.heap.size = A at hD hZ ⊢
  have hA : ∀ q : Nat, s.heap.size ≤ q → A q := fun q h => by rw [← hAe]; exact Or.inr h
  have hS : va_S A s.heap s.heap [] := va_S.rf
  have hP : va_P (dC, dI) vwCl [(ya, .inr (16, [.ref ms, .int 0, .ref ju, .ref li, .ref ct, .ref tg, .ref fw])), (ou, .inl (cL, 1, .inr (.inl of9)))] s.heap := hP
  have hD : va_D A [(ya, .inr (16, [.ref ms, .int 0, .ref ju, .ref li, .ref ct, .ref tg, .ref fw])), (ou, .inl (cL, 1, .inr (.inl of9)))] := hD
  have hl := lv_entry ([.ref ya, .int a1, .int a2, .int a3, .ref ou]) (n := 6) (Nat.le_of_ble_eq_true rfl)
  rw [lg_entry_eq]
  generalize (lg_sl ([.ref ya, .int a1, .int a2, .int a3, .ref ou]) ++ List.replicate (6 - (lg_sl ([.ref ya, .int a1, .int a2, .int a3, .ref ou])).length) Slot.unset).toArray = ls at hl ⊢
  have hl : lv_has ls 6 [(0, .ref ya), (1, .int a1), (2, .int a2), (3, .int a3), (4, .ref ou)] := hl
  have htab : c.exceptionTable.toList = tableOf [(0, 12, 15, 21), (0, 12, 19, 13)] := vx_table (x := yL_tell) B (hts (.codeWith yL_tell cL_tell 6 (some .int) [(0, 12, 15, 21), (0, 12, 19, 13)]) (show _ ∈ wsL_tell from List.mem_cons_self))
  refine lv_aload hx hb dL_tell_0 (lv_at hl 4 rfl) ?_
  refine lv_iconst (v := 0) hx hb dL_tell_2 (by decide) ?_
  refine lv_aload_n hx hb dL_tell_3 rfl (lv_at hl 0 rfl) ?_
  refine lv_iload_n hx hb dL_tell_4 rfl (lv_at hl 1 rfl) ?_
  refine lv_iload_n hx hb dL_tell_5 rfl (lv_at hl 2 rfl) ?_
  refine lv_iload_n hx hb dL_tell_6 rfl (lv_at hl 3 rfl) ?_
  have hPc := hP.sub (ws' := [(ya, .inr (16, [.ref ms, .int 0, .ref ju, .ref li, .ref ct, .ref tg, .ref fw]))]) [0] rfl
  have hDc := hD.sub (ws' := [(ya, .inr (16, [.ref ms, .int 0, .ref ju, .ref li, .ref ct, .ref tg, .ref fw]))]) [0] (by decide) rfl
  have hKc := hK.sub (tys' := []) [] rfl
  have hFc := va_free (wc := [(ya, .inr (16, [.ref ms, .int 0, .ref ju, .ref li, .ref ct, .ref tg, .ref fw]))]) hD hS hA [0] rfl
  refine vx_callX (vx_runV (As := [.int a1, .int a2, .int a3]) (rest := [.int 0, .ref ou]) ⟨hx, hb, hml, hown, hts⟩ (c_X11_tell l hfl dC dI ya ms ju li ct tg fw a1 a2 a3 s.heap.size) (cwV 3 hts gL_tell_X11_tell rfl rfl rfl (by decide +kernel) ⟨Nat.le_of_ble_eq_true rfl, Nat.le_of_ble_eq_true rfl⟩) (pcVz (zX_ok) hPc hDc hKc hN hZ hS hFc (ci := 16) (q0 := 0) rfl rfl) rfl rfl hl.1 rfl (lv_room (Nat.le_of_ble_eq_true rfl)) dL_tell_7 ⟨Nat.le_of_ble_eq_true rfl, Nat.le_of_ble_eq_true rfl⟩) hS hFc (fun q _ h => hFc q h) (fun _ _ _ h => h) (fun E9 ce9 q9 u9 t9 H9 locs9 ht9 hvm9 hp9 hE9 hz9 hk9 hS9 hc9 hv9 hcl9 => ?_)
  subst hE9
  refine vx_catch (name := "java/lang/IndexOutOfBoundsException") hown [] ⟨0, 12, 15, 21⟩ [⟨0, 12, 19, 13⟩] htab (fun z hz => by cases hz) (by decide) (by decide) (hts (.classLink RL 21 "java/lang/IndexOutOfBoundsException") (by decide +kernel)) (zX_use hZ (.castable "java/lang/IndexOutOfBoundsException" "java/lang/IndexOutOfBoundsException") (by decide)) hc9 hv9 hcl9 ?_
  refine W.eq (g2 := F0 m 15 ls [.ref q9]) rfl ?_
  obtain ⟨hP, hD⟩ := va_join (wr := [(ou, .inl (cL, 1, .inr (.inl of9)))]) (w1 := []) hP hD [0] [1] rfl rfl (by decide) (by decide) hk9 hFc P_nil D_nil
  have hS := hS9
  generalize H9 = H at hP hS ⊢
  have hP : va_P (dC, dI) vwCl [(ou, .inl (cL, 1, .inr (.inl of9)))] H := hP
  have hD : va_D A [(ou, .inl (cL, 1, .inr (.inl of9)))] := hD
  refine W.widen (k := 1) (n := 6) (Nat.le_of_ble_eq_true rfl) (Nat.le_of_ble_eq_true rfl) ?_
  refine lv_astore (lv' := [(5, .ref q9), (0, .ref ya), (1, .int a1), (2, .int a2), (3, .int a3), (4, .ref ou)]) hx hb dL_tell_15 hl (by decide) rfl (fun ls hl => ?_)
  refine lv_iconst (v := 1) hx hb dL_tell_17 (by decide) ?_
  refine vx_ret ?_
  have hP9 := hP.sub (ws' := [(ou, .inl (cL, 1, .inr (.inl of9)))]) [0] rfl
  have hD9 := hD.sub (ws' := [(ou, .inl (cL, 1, .inr (.inl of9)))]) [0] (by decide) rfl
  have hK9 := hK.sub (tys' := [(cL, .long)]) [0] rfl
  exact W.iret (v := 1) hx hb hr (fun t ht hW => ⟨⟨1, of9, rfl, rfl, ⟨by rw [ht]; exact hP9, va_K.moved hW.alike hK9, hD9⟩⟩, hS.F ht⟩) hS.2.2 dL_tell_18

set_option maxHeartbeats 4000000 in
set_option maxRecDepth 100000 in
/-- L_isDisputed -/
theorem c_L_isDisputed (l : Launch) (hfl : l.stackTraces = false) (dC : Nat → ClassId) (dI : Nat → Nat → Nat) (ya ms ju li ct tg fw : Nat) (a1 : Int32) (cL : ClassId) (ou : Nat) (of9 : Nat → Int64) (sz : Nat) : vx_Met l yL_isDisputed wsL_isDisputed ({ frames := 8, cells := 1, slots := 6, locals := 143 }) (va_Pc [.ref ya, .int a1, .ref ou] (cPCz (zX) dC dI [(ya, .inr (16, [.ref ms, .int 0, .ref ju, .ref li, .ref ct, .ref tg, .ref fw])), (ou, .inl (cL, 1, .inr (.inl of9)))] [(cL, .long)] sz)) (va_Qi (fun (r : Int32) (u : Nat → Int64) => r = 1) (fun (u : Nat → Int64) t => cQB dC dI [(ou, .inl (cL, 1, .inr (.inl u)))] [(cL, .long)] (va_A [(ya, .inr (16, [.ref ms, .int 0, .ref ju, .ref li, .ref ct, .ref tg, .ref fw])), (ou, .inl (cL, 1, .inr (.inl of9)))] sz) t) (va_A [(ya, .inr (16, [.ref ms, .int 0, .ref ju, .ref li, .ref ct, .ref tg, .ref fw])), (ou, .inl (cL, 1, .inr (.inl of9)))] sz)) (vx_X (fun (_ : Unit) => True) (fun (E9 : String) (_ : Unit) (_ : State) => False) (va_A [(ya, .inr (16, [.ref ms, .int 0, .ref ju, .ref li, .ref ct, .ref tg, .ref fw])), (ou, .inl (cL, 1, .inr (.inl of9)))] sz)) 1 6 (va_A [(ya, .inr (16, [.ref ms, .int 0, .ref ju, .ref li, .ref ct, .ref tg, .ref fw])), (ou, .inl (cL, 1, .inr (.inl of9)))] sz) := by
  refine vx_ofWH (cc := cL_isDisputed) (maxL := 4) (ret := (some .int)) (hh := [(0, 16, 19, 21)]) (by decide) rfl ?_
  intro p e s m args below meth c s₁ B hml hv
  obtain ⟨rfl, ⟨hsz, hP, hK, hD0, hN⟩, hZ⟩ := hv
  have hx := B.exec
  have hb := B.bytes
  have hr := B.returns
  have hts := atoms_spec (ws := wsL_isDisputed) B.pre
  have hown : s.vm.findClass RL = some m.cls := findClass_of_methodNamed B.named
  have hlocks := B.notSynchronized
  subst hsz
  have hD := hD0.self (sz := s.heap.size)
  generalize hAe : va_A [(ya, .inr (16, [.ref ms, .int 0, .ref ju, .ref li, .ref ct, .ref tg, .ref fw])), (ou, .inl (cL, 1, .inr (.inl of9)))] s.heap.size = A at hD hZ ⊢
  have hA : ∀ q : Nat, s.heap.size ≤ q → A q := fun q h => by rw [← hAe]; exact Or.inr h
  have hS : va_S A s.heap s.heap [] := va_S.rf
  have hP : va_P (dC, dI) vwCl [(ya, .inr (16, [.ref ms, .int 0, .ref ju, .ref li, .ref ct, .ref tg, .ref fw])), (ou, .inl (cL, 1, .inr (.inl of9)))] s.heap := hP
  have hD : va_D A [(ya, .inr (16, [.ref ms, .int 0, .ref ju, .ref li, .ref ct, .ref tg, .ref fw])), (ou, .inl (cL, 1, .inr (.inl of9)))] := hD
  have hl := lv_entry ([.ref ya, .int a1, .ref ou]) (n := 4) (Nat.le_of_ble_eq_true rfl)
  rw [lg_entry_eq]
  generalize (lg_sl ([.ref ya, .int a1, .ref ou]) ++ List.replicate (4 - (lg_sl ([.ref ya, .int a1, .ref ou])).length) Slot.unset).toArray = ls at hl ⊢
  have hl : lv_has ls 4 [(0, .ref ya), (1, .int a1), (2, .ref ou)] := hl
  have htab : c.exceptionTable.toList = tableOf [(0, 16, 19, 21)] := vx_table (x := yL_isDisputed) B (hts (.codeWith yL_isDisputed cL_isDisputed 4 (some .int) [(0, 16, 19, 21)]) (show _ ∈ wsL_isDisputed from List.mem_cons_self))
  refine lv_aload_n hx hb dL_isDisputed_0 rfl (lv_at hl 2 rfl) ?_
  refine lv_iconst (v := 0) hx hb dL_isDisputed_1 (by decide) ?_
  refine lv_aload_n hx hb dL_isDisputed_2 rfl (lv_at hl 0 rfl) ?_
  refine lv_iload_n hx hb dL_isDisputed_3 rfl (lv_at hl 1 rfl) ?_
  have hPc := hP.sub (ws' := [(ya, .inr (16, [.ref ms, .int 0, .ref ju, .ref li, .ref ct, .ref tg, .ref fw]))]) [0] rfl
  have hDc := hD.sub (ws' := [(ya, .inr (16, [.ref ms, .int 0, .ref ju, .ref li, .ref ct, .ref tg, .ref fw]))]) [0] (by decide) rfl
  have hKc := hK.sub (tys' := []) [] rfl
  have hFc := va_free (wc := [(ya, .inr (16, [.ref ms, .int 0, .ref ju, .ref li, .ref ct, .ref tg, .ref fw]))]) hD hS hA [0] rfl
  refine vx_callX (vx_runV (As := [.int a1]) (rest := [.int 0, .ref ou]) ⟨hx, hb, hml, hown, hts⟩ (c_X11_isDisputed l hfl dC dI ya ms ju li ct tg fw a1 s.heap.size) (cwV 1 hts gL_isDisputed_X11_isDisputed rfl rfl rfl (by decide +kernel) ⟨Nat.le_of_ble_eq_true rfl, Nat.le_of_ble_eq_true rfl⟩) (pcVz (zX_ok) hPc hDc hKc hN hZ hS hFc (ci := 16) (q0 := 0) rfl rfl) rfl rfl hl.1 rfl (lv_room (Nat.le_of_ble_eq_true rfl)) dL_isDisputed_4 ⟨Nat.le_of_ble_eq_true rfl, Nat.le_of_ble_eq_true rfl⟩) hS hFc (fun q _ h => hFc q h) (fun _ _ _ h => h) (fun E9 ce9 q9 u9 t9 H9 locs9 ht9 hvm9 hp9 hE9 hz9 hk9 hS9 hc9 hv9 hcl9 => ?_)
  subst hE9
  refine vx_catch (name := "java/lang/IndexOutOfBoundsException") hown [] ⟨0, 16, 19, 21⟩ [] htab (fun z hz => by cases hz) (by decide) (by decide) (hts (.classLink RL 21 "java/lang/IndexOutOfBoundsException") (by decide +kernel)) (zX_use hZ (.castable "java/lang/IndexOutOfBoundsException" "java/lang/IndexOutOfBoundsException") (by decide)) hc9 hv9 hcl9 ?_
  refine W.eq (g2 := F0 m 19 ls [.ref q9]) rfl ?_
  obtain ⟨hP, hD⟩ := va_join (wr := [(ou, .inl (cL, 1, .inr (.inl of9)))]) (w1 := []) hP hD [0] [1] rfl rfl (by decide) (by decide) hk9 hFc P_nil D_nil
  have hS := hS9
  generalize H9 = H at hP hS ⊢
  have hP : va_P (dC, dI) vwCl [(ou, .inl (cL, 1, .inr (.inl of9)))] H := hP
  have hD : va_D A [(ou, .inl (cL, 1, .inr (.inl of9)))] := hD
  refine W.widen (k := 1) (n := 6) (Nat.le_of_ble_eq_true rfl) (Nat.le_of_ble_eq_true rfl) ?_
  refine lv_astore_n (lv' := [(3, .ref q9), (0, .ref ya), (1, .int a1), (2, .ref ou)]) hx hb dL_isDisputed_19 rfl hl (by decide) rfl (fun ls hl => ?_)
  refine lv_iconst (v := 1) hx hb dL_isDisputed_20 (by decide) ?_
  refine vx_ret ?_
  have hP9 := hP.sub (ws' := [(ou, .inl (cL, 1, .inr (.inl of9)))]) [0] rfl
  have hD9 := hD.sub (ws' := [(ou, .inl (cL, 1, .inr (.inl of9)))]) [0] (by decide) rfl
  have hK9 := hK.sub (tys' := [(cL, .long)]) [0] rfl
  exact W.iret (v := 1) hx hb hr (fun t ht hW => ⟨⟨1, of9, rfl, rfl, ⟨by rw [ht]; exact hP9, va_K.moved hW.alike hK9, hD9⟩⟩, hS.F ht⟩) hS.2.2 dL_isDisputed_21

set_option maxHeartbeats 4000000 in
set_option maxRecDepth 100000 in
/-- L_holdoutAt -/
theorem c_L_holdoutAt (l : Launch) (hfl : l.stackTraces = false) (dC : Nat → ClassId) (dI : Nat → Nat → Nat) (ya ms ju li ct tg fw : Nat) (a1 : Int32) (cL : ClassId) (ou : Nat) (of9 : Nat → Int64) (sz : Nat) : vx_Met l yL_holdoutAt wsL_holdoutAt ({ frames := 8, cells := 1, slots := 6, locals := 144 }) (va_Pc [.ref ya, .int a1, .ref ou] (cPCz (zX) dC dI [(ya, .inr (16, [.ref ms, .int 0, .ref ju, .ref li, .ref ct, .ref tg, .ref fw])), (ou, .inl (cL, 1, .inr (.inl of9)))] [(cL, .long)] sz)) (va_Qi (fun (r : Int32) (u : Nat → Int64) => r = 1) (fun (u : Nat → Int64) t => cQB dC dI [(ou, .inl (cL, 1, .inr (.inl u)))] [(cL, .long)] (va_A [(ya, .inr (16, [.ref ms, .int 0, .ref ju, .ref li, .ref ct, .ref tg, .ref fw])), (ou, .inl (cL, 1, .inr (.inl of9)))] sz) t) (va_A [(ya, .inr (16, [.ref ms, .int 0, .ref ju, .ref li, .ref ct, .ref tg, .ref fw])), (ou, .inl (cL, 1, .inr (.inl of9)))] sz)) (vx_X (fun (_ : Unit) => True) (fun (E9 : String) (_ : Unit) (_ : State) => False) (va_A [(ya, .inr (16, [.ref ms, .int 0, .ref ju, .ref li, .ref ct, .ref tg, .ref fw])), (ou, .inl (cL, 1, .inr (.inl of9)))] sz)) 1 6 (va_A [(ya, .inr (16, [.ref ms, .int 0, .ref ju, .ref li, .ref ct, .ref tg, .ref fw])), (ou, .inl (cL, 1, .inr (.inl of9)))] sz) := by
  refine vx_ofWH (cc := cL_holdoutAt) (maxL := 4) (ret := (some .int)) (hh := [(0, 9, 12, 27)]) (by decide) rfl ?_
  intro p e s m args below meth c s₁ B hml hv
  obtain ⟨rfl, ⟨hsz, hP, hK, hD0, hN⟩, hZ⟩ := hv
  have hx := B.exec
  have hb := B.bytes
  have hr := B.returns
  have hts := atoms_spec (ws := wsL_holdoutAt) B.pre
  have hown : s.vm.findClass RL = some m.cls := findClass_of_methodNamed B.named
  have hlocks := B.notSynchronized
  subst hsz
  have hD := hD0.self (sz := s.heap.size)
  generalize hAe : va_A [(ya, .inr (16, [.ref ms, .int 0, .ref ju, .ref li, .ref ct, .ref tg, .ref fw])), (ou, .inl (cL, 1, .inr (.inl of9)))] s.heap.size = A at hD hZ ⊢
  have hA : ∀ q : Nat, s.heap.size ≤ q → A q := fun q h => by rw [← hAe]; exact Or.inr h
  have hS : va_S A s.heap s.heap [] := va_S.rf
  have hP : va_P (dC, dI) vwCl [(ya, .inr (16, [.ref ms, .int 0, .ref ju, .ref li, .ref ct, .ref tg, .ref fw])), (ou, .inl (cL, 1, .inr (.inl of9)))] s.heap := hP
  have hD : va_D A [(ya, .inr (16, [.ref ms, .int 0, .ref ju, .ref li, .ref ct, .ref tg, .ref fw])), (ou, .inl (cL, 1, .inr (.inl of9)))] := hD
  have hl := lv_entry ([.ref ya, .int a1, .ref ou]) (n := 4) (Nat.le_of_ble_eq_true rfl)
  rw [lg_entry_eq]
  generalize (lg_sl ([.ref ya, .int a1, .ref ou]) ++ List.replicate (4 - (lg_sl ([.ref ya, .int a1, .ref ou])).length) Slot.unset).toArray = ls at hl ⊢
  have hl : lv_has ls 4 [(0, .ref ya), (1, .int a1), (2, .ref ou)] := hl
  have htab : c.exceptionTable.toList = tableOf [(0, 9, 12, 27)] := vx_table (x := yL_holdoutAt) B (hts (.codeWith yL_holdoutAt cL_holdoutAt 4 (some .int) [(0, 9, 12, 27)]) (show _ ∈ wsL_holdoutAt from List.mem_cons_self))
  refine lv_aload_n hx hb dL_holdoutAt_0 rfl (lv_at hl 2 rfl) ?_
  refine lv_iconst (v := 0) hx hb dL_holdoutAt_1 (by decide) ?_
  refine lv_aload_n hx hb dL_holdoutAt_2 rfl (lv_at hl 0 rfl) ?_
  refine lv_iload_n hx hb dL_holdoutAt_3 rfl (lv_at hl 1 rfl) ?_
  have hPc := hP.sub (ws' := [(ya, .inr (16, [.ref ms, .int 0, .ref ju, .ref li, .ref ct, .ref tg, .ref fw]))]) [0] rfl
  have hDc := hD.sub (ws' := [(ya, .inr (16, [.ref ms, .int 0, .ref ju, .ref li, .ref ct, .ref tg, .ref fw]))]) [0] (by decide) rfl
  have hKc := hK.sub (tys' := []) [] rfl
  have hFc := va_free (wc := [(ya, .inr (16, [.ref ms, .int 0, .ref ju, .ref li, .ref ct, .ref tg, .ref fw]))]) hD hS hA [0] rfl
  refine vx_callX (vx_runV (As := [.int a1]) (rest := [.int 0, .ref ou]) ⟨hx, hb, hml, hown, hts⟩ (c_X11_holdoutAt l hfl dC dI ya ms ju li ct tg fw a1 s.heap.size) (cwV 1 hts gL_holdoutAt_X11_holdoutAt rfl rfl rfl (by decide +kernel) ⟨Nat.le_of_ble_eq_true rfl, Nat.le_of_ble_eq_true rfl⟩) (pcVz (zX_ok) hPc hDc hKc hN hZ hS hFc (ci := 16) (q0 := 0) rfl rfl) rfl rfl hl.1 rfl (lv_room (Nat.le_of_ble_eq_true rfl)) dL_holdoutAt_4 ⟨Nat.le_of_ble_eq_true rfl, Nat.le_of_ble_eq_true rfl⟩) hS hFc (fun q _ h => hFc q h) (fun _ _ _ h => h) (fun E9 ce9 q9 u9 t9 H9 locs9 ht9 hvm9 hp9 hE9 hz9 hk9 hS9 hc9 hv9 hcl9 => ?_)
  subst hE9
  refine vx_catch (name := "java/util/NoSuchElementException") hown [] ⟨0, 9, 12, 27⟩ [] htab (fun z hz => by cases hz) (by decide) (by decide) (hts (.classLink RL 27 "java/util/NoSuchElementException") (by decide +kernel)) (zX_use hZ (.castable "java/util/NoSuchElementException" "java/util/NoSuchElementException") (by decide)) hc9 hv9 hcl9 ?_
  refine W.eq (g2 := F0 m 12 ls [.ref q9]) rfl ?_
  obtain ⟨hP, hD⟩ := va_join (wr := [(ou, .inl (cL, 1, .inr (.inl of9)))]) (w1 := []) hP hD [0] [1] rfl rfl (by decide) (by decide) hk9 hFc P_nil D_nil
  have hS := hS9
  generalize H9 = H at hP hS ⊢
  have hP : va_P (dC, dI) vwCl [(ou, .inl (cL, 1, .inr (.inl of9)))] H := hP
  have hD : va_D A [(ou, .inl (cL, 1, .inr (.inl of9)))] := hD
  refine W.widen (k := 1) (n := 6) (Nat.le_of_ble_eq_true rfl) (Nat.le_of_ble_eq_true rfl) ?_
  refine lv_astore_n (lv' := [(3, .ref q9), (0, .ref ya), (1, .int a1), (2, .ref ou)]) hx hb dL_holdoutAt_12 rfl hl (by decide) rfl (fun ls hl => ?_)
  refine lv_iconst (v := 1) hx hb dL_holdoutAt_13 (by decide) ?_
  refine vx_ret ?_
  have hP9 := hP.sub (ws' := [(ou, .inl (cL, 1, .inr (.inl of9)))]) [0] rfl
  have hD9 := hD.sub (ws' := [(ou, .inl (cL, 1, .inr (.inl of9)))]) [0] (by decide) rfl
  have hK9 := hK.sub (tys' := [(cL, .long)]) [0] rfl
  exact W.iret (v := 1) hx hb hr (fun t ht hW => ⟨⟨1, of9, rfl, rfl, ⟨by rw [ht]; exact hP9, va_K.moved hW.alike hK9, hD9⟩⟩, hS.F ht⟩) hS.2.2 dL_holdoutAt_14

set_option maxHeartbeats 4000000 in
set_option maxRecDepth 100000 in
/-- L_tagLetter -/
theorem c_L_tagLetter (l : Launch) (hfl : l.stackTraces = false) (dC : Nat → ClassId) (dI : Nat → Nat → Nat) (ya ms ju li ct tg fw : Nat) (ts tr tk te : Nat) (a1 : Int32) (cL : ClassId) (ou : Nat) (of9 : Nat → Int64) (sz : Nat) : vx_Met l yL_tagLetter wsL_tagLetter ({ frames := 8, cells := 1, slots := 6, locals := 141 }) (va_Pc [.ref ya, .int a1, .ref ou] (cPCz (zX) dC dI [(ya, .inr (16, [.ref ms, .int 0, .ref ju, .ref li, .ref ct, .ref tg, .ref fw])), (tg, .inr (14, [.int 0, .int 0, .ref ts, .ref tr, .ref tk, .ref te])), (ou, .inl (cL, 1, .inr (.inl of9)))] [(cL, .long)] sz)) (va_Qi (fun (r : Int32) (u : Nat → Int64) => r = 1) (fun (u : Nat → Int64) t => cQB dC dI [(ou, .inl (cL, 1, .inr (.inl u)))] [(cL, .long)] (va_A [(ya, .inr (16, [.ref ms, .int 0, .ref ju, .ref li, .ref ct, .ref tg, .ref fw])), (tg, .inr (14, [.int 0, .int 0, .ref ts, .ref tr, .ref tk, .ref te])), (ou, .inl (cL, 1, .inr (.inl of9)))] sz) t) (va_A [(ya, .inr (16, [.ref ms, .int 0, .ref ju, .ref li, .ref ct, .ref tg, .ref fw])), (tg, .inr (14, [.int 0, .int 0, .ref ts, .ref tr, .ref tk, .ref te])), (ou, .inl (cL, 1, .inr (.inl of9)))] sz)) (vx_X (fun (_ : Unit) => True) (fun (E9 : String) (_ : Unit) (_ : State) => False) (va_A [(ya, .inr (16, [.ref ms, .int 0, .ref ju, .ref li, .ref ct, .ref tg, .ref fw])), (tg, .inr (14, [.int 0, .int 0, .ref ts, .ref tr, .ref tk, .ref te])), (ou, .inl (cL, 1, .inr (.inl of9)))] sz)) 1 6 (va_A [(ya, .inr (16, [.ref ms, .int 0, .ref ju, .ref li, .ref ct, .ref tg, .ref fw])), (tg, .inr (14, [.int 0, .int 0, .ref ts, .ref tr, .ref tk, .ref te])), (ou, .inl (cL, 1, .inr (.inl of9)))] sz) := by
  refine vx_ofWH (cc := cL_tagLetter) (maxL := 4) (ret := (some .int)) (hh := [(0, 9, 12, 27)]) (by decide) rfl ?_
  intro p e s m args below meth c s₁ B hml hv
  obtain ⟨rfl, ⟨hsz, hP, hK, hD0, hN⟩, hZ⟩ := hv
  have hx := B.exec
  have hb := B.bytes
  have hr := B.returns
  have hts := atoms_spec (ws := wsL_tagLetter) B.pre
  have hown : s.vm.findClass RL = some m.cls := findClass_of_methodNamed B.named
  have hlocks := B.notSynchronized
  subst hsz
  have hD := hD0.self (sz := s.heap.size)
  generalize hAe : va_A [(ya, .inr (16, [.ref ms, .int 0, .ref ju, .ref li, .ref ct, .ref tg, .ref fw])), (tg, .inr (14, [.int 0, .int 0, .ref ts, .ref tr, .ref tk, .ref te])), (ou, .inl (cL, 1, .inr (.inl of9)))] s.heap.size = A at hD hZ ⊢
  have hA : ∀ q : Nat, s.heap.size ≤ q → A q := fun q h => by rw [← hAe]; exact Or.inr h
  have hS : va_S A s.heap s.heap [] := va_S.rf
  have hP : va_P (dC, dI) vwCl [(ya, .inr (16, [.ref ms, .int 0, .ref ju, .ref li, .ref ct, .ref tg, .ref fw])), (tg, .inr (14, [.int 0, .int 0, .ref ts, .ref tr, .ref tk, .ref te])), (ou, .inl (cL, 1, .inr (.inl of9)))] s.heap := hP
  have hD : va_D A [(ya, .inr (16, [.ref ms, .int 0, .ref ju, .ref li, .ref ct, .ref tg, .ref fw])), (tg, .inr (14, [.int 0, .int 0, .ref ts, .ref tr, .ref tk, .ref te])), (ou, .inl (cL, 1, .inr (.inl of9)))] := hD
  have hl := lv_entry ([.ref ya, .int a1, .ref ou]) (n := 4) (Nat.le_of_ble_eq_true rfl)
  rw [lg_entry_eq]
  generalize (lg_sl ([.ref ya, .int a1, .ref ou]) ++ List.replicate (4 - (lg_sl ([.ref ya, .int a1, .ref ou])).length) Slot.unset).toArray = ls at hl ⊢
  have hl : lv_has ls 4 [(0, .ref ya), (1, .int a1), (2, .ref ou)] := hl
  have htab : c.exceptionTable.toList = tableOf [(0, 9, 12, 27)] := vx_table (x := yL_tagLetter) B (hts (.codeWith yL_tagLetter cL_tagLetter 4 (some .int) [(0, 9, 12, 27)]) (show _ ∈ wsL_tagLetter from List.mem_cons_self))
  refine lv_aload_n hx hb dL_tagLetter_0 rfl (lv_at hl 2 rfl) ?_
  refine lv_iconst (v := 0) hx hb dL_tagLetter_1 (by decide) ?_
  refine lv_aload_n hx hb dL_tagLetter_2 rfl (lv_at hl 0 rfl) ?_
  refine lv_iload_n hx hb dL_tagLetter_3 rfl (lv_at hl 1 rfl) ?_
  have hPc := hP.sub (ws' := [(ya, .inr (16, [.ref ms, .int 0, .ref ju, .ref li, .ref ct, .ref tg, .ref fw])), (tg, .inr (14, [.int 0, .int 0, .ref ts, .ref tr, .ref tk, .ref te]))]) [0, 1] rfl
  have hDc := hD.sub (ws' := [(ya, .inr (16, [.ref ms, .int 0, .ref ju, .ref li, .ref ct, .ref tg, .ref fw])), (tg, .inr (14, [.int 0, .int 0, .ref ts, .ref tr, .ref tk, .ref te]))]) [0, 1] (by decide) rfl
  have hKc := hK.sub (tys' := []) [] rfl
  have hFc := va_free (wc := [(ya, .inr (16, [.ref ms, .int 0, .ref ju, .ref li, .ref ct, .ref tg, .ref fw])), (tg, .inr (14, [.int 0, .int 0, .ref ts, .ref tr, .ref tk, .ref te]))]) hD hS hA [0, 1] rfl
  refine vx_callX (vx_runV (As := [.int a1]) (rest := [.int 0, .ref ou]) ⟨hx, hb, hml, hown, hts⟩ (c_X11_tagLetter l hfl dC dI ya ms ju li ct tg fw ts tr tk te a1 s.heap.size) (cwV 1 hts gL_tagLetter_X11_tagLetter rfl rfl rfl (by decide +kernel) ⟨Nat.le_of_ble_eq_true rfl, Nat.le_of_ble_eq_true rfl⟩) (pcVz (zX_ok) hPc hDc hKc hN hZ hS hFc (ci := 16) (q0 := 0) rfl rfl) rfl rfl hl.1 rfl (lv_room (Nat.le_of_ble_eq_true rfl)) dL_tagLetter_4 ⟨Nat.le_of_ble_eq_true rfl, Nat.le_of_ble_eq_true rfl⟩) hS hFc (fun q _ h => hFc q h) (fun _ _ _ h => h) (fun E9 ce9 q9 u9 t9 H9 locs9 ht9 hvm9 hp9 hE9 hz9 hk9 hS9 hc9 hv9 hcl9 => ?_)
  subst hE9
  refine vx_catch (name := "java/util/NoSuchElementException") hown [] ⟨0, 9, 12, 27⟩ [] htab (fun z hz => by cases hz) (by decide) (by decide) (hts (.classLink RL 27 "java/util/NoSuchElementException") (by decide +kernel)) (zX_use hZ (.castable "java/util/NoSuchElementException" "java/util/NoSuchElementException") (by decide)) hc9 hv9 hcl9 ?_
  refine W.eq (g2 := F0 m 12 ls [.ref q9]) rfl ?_
  obtain ⟨hP, hD⟩ := va_join (wr := [(ou, .inl (cL, 1, .inr (.inl of9)))]) (w1 := []) hP hD [0, 1] [2] rfl rfl (by decide) (by decide) hk9 hFc P_nil D_nil
  have hS := hS9
  generalize H9 = H at hP hS ⊢
  have hP : va_P (dC, dI) vwCl [(ou, .inl (cL, 1, .inr (.inl of9)))] H := hP
  have hD : va_D A [(ou, .inl (cL, 1, .inr (.inl of9)))] := hD
  refine W.widen (k := 1) (n := 6) (Nat.le_of_ble_eq_true rfl) (Nat.le_of_ble_eq_true rfl) ?_
  refine lv_astore_n (lv' := [(3, .ref q9), (0, .ref ya), (1, .int a1), (2, .ref ou)]) hx hb dL_tagLetter_12 rfl hl (by decide) rfl (fun ls hl => ?_)
  refine lv_iconst (v := 1) hx hb dL_tagLetter_13 (by decide) ?_
  refine vx_ret ?_
  have hP9 := hP.sub (ws' := [(ou, .inl (cL, 1, .inr (.inl of9)))]) [0] rfl
  have hD9 := hD.sub (ws' := [(ou, .inl (cL, 1, .inr (.inl of9)))]) [0] (by decide) rfl
  have hK9 := hK.sub (tys' := [(cL, .long)]) [0] rfl
  exact W.iret (v := 1) hx hb hr (fun t ht hW => ⟨⟨1, of9, rfl, rfl, ⟨by rw [ht]; exact hP9, va_K.moved hW.alike hK9, hD9⟩⟩, hS.F ht⟩) hS.2.2 dL_tagLetter_14

set_option maxHeartbeats 4000000 in
set_option maxRecDepth 100000 in
/-- L_meanMarks -/
theorem c_L_meanMarks (l : Launch) (hfl : l.stackTraces = false) (dC : Nat → ClassId) (dI : Nat → Nat → Nat) (ya ms ju li ct tg fw : Nat) (cD : ClassId) (ou : Nat) (of9 : Nat → UInt64) (sz : Nat) : vx_Met l yL_meanMarks wsL_meanMarks ({ frames := 7, cells := 1, slots := 6, locals := 125 }) (va_Pc [.ref ya, .ref ou] (cPCz (zX) dC dI [(ya, .inr (16, [.ref ms, .int 0, .ref ju, .ref li, .ref ct, .ref tg, .ref fw])), (ou, .inl (cD, 1, .inr (.inr (.inr (.inl of9)))))] [(cD, .double)] sz)) (va_Qi (fun (r : Int32) (u : Nat → UInt64) => r = 1) (fun (u : Nat → UInt64) t => cQB dC dI [(ou, .inl (cD, 1, .inr (.inr (.inr (.inl u)))))] [(cD, .double)] (va_A [(ya, .inr (16, [.ref ms, .int 0, .ref ju, .ref li, .ref ct, .ref tg, .ref fw])), (ou, .inl (cD, 1, .inr (.inr (.inr (.inl of9)))))] sz) t) (va_A [(ya, .inr (16, [.ref ms, .int 0, .ref ju, .ref li, .ref ct, .ref tg, .ref fw])), (ou, .inl (cD, 1, .inr (.inr (.inr (.inl of9)))))] sz)) (vx_X (fun (_ : Unit) => True) (fun (E9 : String) (_ : Unit) (_ : State) => False) (va_A [(ya, .inr (16, [.ref ms, .int 0, .ref ju, .ref li, .ref ct, .ref tg, .ref fw])), (ou, .inl (cD, 1, .inr (.inr (.inr (.inl of9)))))] sz)) 1 6 (va_A [(ya, .inr (16, [.ref ms, .int 0, .ref ju, .ref li, .ref ct, .ref tg, .ref fw])), (ou, .inl (cD, 1, .inr (.inr (.inr (.inl of9)))))] sz) := by
  refine vx_ofWH (cc := cL_meanMarks) (maxL := 3) (ret := (some .int)) (hh := [(0, 7, 10, 140)]) (by decide) rfl ?_
  intro p e s m args below meth c s₁ B hml hv
  obtain ⟨rfl, ⟨hsz, hP, hK, hD0, hN⟩, hZ⟩ := hv
  have hx := B.exec
  have hb := B.bytes
  have hr := B.returns
  have hts := atoms_spec (ws := wsL_meanMarks) B.pre
  have hown : s.vm.findClass RL = some m.cls := findClass_of_methodNamed B.named
  have hlocks := B.notSynchronized
  subst hsz
  have hD := hD0.self (sz := s.heap.size)
  generalize hAe : va_A [(ya, .inr (16, [.ref ms, .int 0, .ref ju, .ref li, .ref ct, .ref tg, .ref fw])), (ou, .inl (cD, 1, .inr (.inr (.inr (.inl of9)))))] s.heap.size = A at hD hZ ⊢
  have hA : ∀ q : Nat, s.heap.size ≤ q → A q := fun q h => by rw [← hAe]; exact Or.inr h
  have hS : va_S A s.heap s.heap [] := va_S.rf
  have hP : va_P (dC, dI) vwCl [(ya, .inr (16, [.ref ms, .int 0, .ref ju, .ref li, .ref ct, .ref tg, .ref fw])), (ou, .inl (cD, 1, .inr (.inr (.inr (.inl of9)))))] s.heap := hP
  have hD : va_D A [(ya, .inr (16, [.ref ms, .int 0, .ref ju, .ref li, .ref ct, .ref tg, .ref fw])), (ou, .inl (cD, 1, .inr (.inr (.inr (.inl of9)))))] := hD
  have hl := lv_entry ([.ref ya, .ref ou]) (n := 3) (Nat.le_of_ble_eq_true rfl)
  rw [lg_entry_eq]
  generalize (lg_sl ([.ref ya, .ref ou]) ++ List.replicate (3 - (lg_sl ([.ref ya, .ref ou])).length) Slot.unset).toArray = ls at hl ⊢
  have hl : lv_has ls 3 [(0, .ref ya), (1, .ref ou)] := hl
  have htab : c.exceptionTable.toList = tableOf [(0, 7, 10, 140)] := vx_table (x := yL_meanMarks) B (hts (.codeWith yL_meanMarks cL_meanMarks 3 (some .int) [(0, 7, 10, 140)]) (show _ ∈ wsL_meanMarks from List.mem_cons_self))
  refine lv_aload_n hx hb dL_meanMarks_0 rfl (lv_at hl 1 rfl) ?_
  refine lv_iconst (v := 0) hx hb dL_meanMarks_1 (by decide) ?_
  refine lv_aload_n hx hb dL_meanMarks_2 rfl (lv_at hl 0 rfl) ?_
  have hPc := hP.sub (ws' := [(ya, .inr (16, [.ref ms, .int 0, .ref ju, .ref li, .ref ct, .ref tg, .ref fw]))]) [0] rfl
  have hDc := hD.sub (ws' := [(ya, .inr (16, [.ref ms, .int 0, .ref ju, .ref li, .ref ct, .ref tg, .ref fw]))]) [0] (by decide) rfl
  have hKc := hK.sub (tys' := []) [] rfl
  have hFc := va_free (wc := [(ya, .inr (16, [.ref ms, .int 0, .ref ju, .ref li, .ref ct, .ref tg, .ref fw]))]) hD hS hA [0] rfl
  refine vx_callX (vx_runV (As := []) (rest := [.int 0, .ref ou]) ⟨hx, hb, hml, hown, hts⟩ (c_X11_meanMarks l hfl dC dI ya ms ju li ct tg fw s.heap.size) (cwV 0 hts gL_meanMarks_X11_meanMarks rfl rfl rfl (by decide +kernel) ⟨Nat.le_of_ble_eq_true rfl, Nat.le_of_ble_eq_true rfl⟩) (pcVz (zX_ok) hPc hDc hKc hN hZ hS hFc (ci := 16) (q0 := 0) rfl rfl) rfl rfl hl.1 rfl (lv_room (Nat.le_of_ble_eq_true rfl)) dL_meanMarks_3 ⟨Nat.le_of_ble_eq_true rfl, Nat.le_of_ble_eq_true rfl⟩) hS hFc (fun q _ h => hFc q h) (fun _ _ _ h => h) (fun E9 ce9 q9 u9 t9 H9 locs9 ht9 hvm9 hp9 hE9 hz9 hk9 hS9 hc9 hv9 hcl9 => ?_)
  subst hE9
  refine vx_catch (name := "java/lang/ArithmeticException") hown [] ⟨0, 7, 10, 140⟩ [] htab (fun z hz => by cases hz) (by decide) (by decide) (hts (.classLink RL 140 "java/lang/ArithmeticException") (by decide +kernel)) (zX_use hZ (.castable "java/lang/ArithmeticException" "java/lang/ArithmeticException") (by decide)) hc9 hv9 hcl9 ?_
  refine W.eq (g2 := F0 m 10 ls [.ref q9]) rfl ?_
  obtain ⟨hP, hD⟩ := va_join (wr := [(ou, .inl (cD, 1, .inr (.inr (.inr (.inl of9)))))]) (w1 := []) hP hD [0] [1] rfl rfl (by decide) (by decide) hk9 hFc P_nil D_nil
  have hS := hS9
  generalize H9 = H at hP hS ⊢
  have hP : va_P (dC, dI) vwCl [(ou, .inl (cD, 1, .inr (.inr (.inr (.inl of9)))))] H := hP
  have hD : va_D A [(ou, .inl (cD, 1, .inr (.inr (.inr (.inl of9)))))] := hD
  refine W.widen (k := 1) (n := 6) (Nat.le_of_ble_eq_true rfl) (Nat.le_of_ble_eq_true rfl) ?_
  refine lv_astore_n (lv' := [(2, .ref q9), (0, .ref ya), (1, .ref ou)]) hx hb dL_meanMarks_10 rfl hl (by decide) rfl (fun ls hl => ?_)
  refine lv_iconst (v := 1) hx hb dL_meanMarks_11 (by decide) ?_
  refine vx_ret ?_
  have hP9 := hP.sub (ws' := [(ou, .inl (cD, 1, .inr (.inr (.inr (.inl of9)))))]) [0] rfl
  have hD9 := hD.sub (ws' := [(ou, .inl (cD, 1, .inr (.inr (.inr (.inl of9)))))]) [0] (by decide) rfl
  have hK9 := hK.sub (tys' := [(cD, .double)]) [0] rfl
  exact W.iret (v := 1) hx hb hr (fun t ht hW => ⟨⟨1, of9, rfl, rfl, ⟨by rw [ht]; exact hP9, va_K.moved hW.alike hK9, hD9⟩⟩, hS.F ht⟩) hS.2.2 dL_meanMarks_12

set_option maxHeartbeats 4000000 in
set_option maxRecDepth 100000 in
/-- L_record -/
theorem c_L_record (l : Launch) (hfl : l.stackTraces = false) (dC : Nat → ClassId) (dI : Nat → Nat → Nat) (ya ms ju li ct tg fw : Nat) (a1 : Int32) (cL : ClassId) (ou : Nat) (of9 : Nat → Int64) (sz : Nat) : vx_Met l yL_record wsL_record ({ frames := 8, cells := 2, slots := 12, locals := 146 }) (va_Pc [.ref ya, .int a1, .ref ou] (cPCz (zX) dC dI [(ya, .inr (16, [.ref ms, .int 0, .ref ju, .ref li, .ref ct, .ref tg, .ref fw])), (ou, .inl (cL, 1, .inr (.inl of9)))] [(cL, .long)] sz)) (va_Qi (fun (r : Int32) (u : Nat → Int64) => (r = 1 ∧ ¬ (a1 = 115 ∨ a1 = 109)) ∨ (r = 2 ∧ (a1 = 115 ∨ a1 = 109))) (fun (u : Nat → Int64) t => cQB dC dI [(ou, .inl (cL, 1, .inr (.inl u)))] [(cL, .long)] (va_A [(ya, .inr (16, [.ref ms, .int 0, .ref ju, .ref li, .ref ct, .ref tg, .ref fw])), (ou, .inl (cL, 1, .inr (.inl of9)))] sz) t) (va_A [(ya, .inr (16, [.ref ms, .int 0, .ref ju, .ref li, .ref ct, .ref tg, .ref fw])), (ou, .inl (cL, 1, .inr (.inl of9)))] sz)) (vx_X (fun (_ : Unit) => True) (fun (E9 : String) (_ : Unit) (_ : State) => False) (va_A [(ya, .inr (16, [.ref ms, .int 0, .ref ju, .ref li, .ref ct, .ref tg, .ref fw])), (ou, .inl (cL, 1, .inr (.inl of9)))] sz)) 2 12 (va_A [(ya, .inr (16, [.ref ms, .int 0, .ref ju, .ref li, .ref ct, .ref tg, .ref fw])), (ou, .inl (cL, 1, .inr (.inl of9)))] sz) := by
  refine vx_ofWH (cc := cL_record) (maxL := 4) (ret := (some .int)) (hh := [(0, 9, 12, 13), (0, 9, 15, 27)]) (by decide) rfl ?_
  intro p e s m args below meth c s₁ B hml hv
  obtain ⟨rfl, ⟨hsz, hP, hK, hD0, hN⟩, hZ⟩ := hv
  have hx := B.exec
  have hb := B.bytes
  have hr := B.returns
  have hts := atoms_spec (ws := wsL_record) B.pre
  have hown : s.vm.findClass RL = some m.cls := findClass_of_methodNamed B.named
  have hlocks := B.notSynchronized
  subst hsz
  have hD := hD0.self (sz := s.heap.size)
  generalize hAe : va_A [(ya, .inr (16, [.ref ms, .int 0, .ref ju, .ref li, .ref ct, .ref tg, .ref fw])), (ou, .inl (cL, 1, .inr (.inl of9)))] s.heap.size = A at hD hZ ⊢
  have hA : ∀ q : Nat, s.heap.size ≤ q → A q := fun q h => by rw [← hAe]; exact Or.inr h
  have hS : va_S A s.heap s.heap [] := va_S.rf
  have hP : va_P (dC, dI) vwCl [(ya, .inr (16, [.ref ms, .int 0, .ref ju, .ref li, .ref ct, .ref tg, .ref fw])), (ou, .inl (cL, 1, .inr (.inl of9)))] s.heap := hP
  have hD : va_D A [(ya, .inr (16, [.ref ms, .int 0, .ref ju, .ref li, .ref ct, .ref tg, .ref fw])), (ou, .inl (cL, 1, .inr (.inl of9)))] := hD
  have hl := lv_entry ([.ref ya, .int a1, .ref ou]) (n := 4) (Nat.le_of_ble_eq_true rfl)
  rw [lg_entry_eq]
  generalize (lg_sl ([.ref ya, .int a1, .ref ou]) ++ List.replicate (4 - (lg_sl ([.ref ya, .int a1, .ref ou])).length) Slot.unset).toArray = ls at hl ⊢
  have hl : lv_has ls 4 [(0, .ref ya), (1, .int a1), (2, .ref ou)] := hl
  have htab : c.exceptionTable.toList = tableOf [(0, 9, 12, 13), (0, 9, 15, 27)] := vx_table (x := yL_record) B (hts (.codeWith yL_record cL_record 4 (some .int) [(0, 9, 12, 13), (0, 9, 15, 27)]) (show _ ∈ wsL_record from List.mem_cons_self))
  refine lv_aload_n hx hb dL_record_0 rfl (lv_at hl 2 rfl) ?_
  refine lv_iconst (v := 0) hx hb dL_record_1 (by decide) ?_
  refine lv_aload_n hx hb dL_record_2 rfl (lv_at hl 0 rfl) ?_
  refine lv_iload_n hx hb dL_record_3 rfl (lv_at hl 1 rfl) ?_
  have hPc := hP.sub (ws' := [(ya, .inr (16, [.ref ms, .int 0, .ref ju, .ref li, .ref ct, .ref tg, .ref fw]))]) [0] rfl
  have hDc := hD.sub (ws' := [(ya, .inr (16, [.ref ms, .int 0, .ref ju, .ref li, .ref ct, .ref tg, .ref fw]))]) [0] (by decide) rfl
  have hKc := hK.sub (tys' := []) [] rfl
  have hFc := va_free (wc := [(ya, .inr (16, [.ref ms, .int 0, .ref ju, .ref li, .ref ct, .ref tg, .ref fw]))]) hD hS hA [0] rfl
  refine vx_callX (vx_runV (As := [.int a1]) (rest := [.int 0, .ref ou]) ⟨hx, hb, hml, hown, hts⟩ (c_X11_record l hfl dC dI ya ms ju li ct tg fw a1 s.heap.size) (cwV 1 hts gL_record_X11_record rfl rfl rfl (by decide +kernel) ⟨Nat.le_of_ble_eq_true rfl, Nat.le_of_ble_eq_true rfl⟩) (pcVz (zX_ok) hPc hDc hKc hN hZ hS hFc (ci := 16) (q0 := 0) rfl rfl) rfl rfl hl.1 rfl (lv_room (Nat.le_of_ble_eq_true rfl)) dL_record_4 ⟨Nat.le_of_ble_eq_true rfl, Nat.le_of_ble_eq_true rfl⟩) hS hFc (fun q _ h => hFc q h) (fun _ _ _ h => h) (fun E9 ce9 q9 u9 t9 H9 locs9 ht9 hvm9 hp9 hE9 hz9 hk9 hS9 hc9 hv9 hcl9 => ?_)
  rcases hE9 with hE9 | hE9
  · obtain ⟨rfl, hno⟩ := hE9
    refine vx_catch (name := "java/lang/IllegalArgumentException") hown [] ⟨0, 9, 12, 13⟩ [⟨0, 9, 15, 27⟩] htab (fun z hz => by cases hz) (by decide) (by decide) (hts (.classLink RL 13 "java/lang/IllegalArgumentException") (by decide +kernel)) (zX_use hZ (.castable "java/lang/IllegalArgumentException" "java/lang/IllegalArgumentException") (by decide)) hc9 hv9 hcl9 ?_
    refine W.eq (g2 := F0 m 12 ls [.ref q9]) rfl ?_
    obtain ⟨hP, hD⟩ := va_join (wr := [(ou, .inl (cL, 1, .inr (.inl of9)))]) (w1 := []) hP hD [0] [1] rfl rfl (by decide) (by decide) hk9 hFc P_nil D_nil
    have hS := hS9
    generalize H9 = H at hP hS ⊢
    have hP : va_P (dC, dI) vwCl [(ou, .inl (cL, 1, .inr (.inl of9)))] H := hP
    have hD : va_D A [(ou, .inl (cL, 1, .inr (.inl of9)))] := hD
    refine W.widen (k := 2) (n := 12) (Nat.le_of_ble_eq_true rfl) (Nat.le_of_ble_eq_true rfl) ?_
    refine lv_astore_n (lv' := [(3, .ref q9), (0, .ref ya), (1, .int a1), (2, .ref ou)]) hx hb dL_record_12 rfl hl (by decide) rfl (fun ls hl => ?_)
    refine lv_iconst (v := 1) hx hb dL_record_13 (by decide) ?_
    refine vx_ret ?_
    have hP9 := hP.sub (ws' := [(ou, .inl (cL, 1, .inr (.inl of9)))]) [0] rfl
    have hD9 := hD.sub (ws' := [(ou, .inl (cL, 1, .inr (.inl of9)))]) [0] (by decide) rfl
    have hK9 := hK.sub (tys' := [(cL, .long)]) [0] rfl
    exact W.iret (v := 1) hx hb hr (fun t ht hW => ⟨⟨1, of9, rfl, Or.inl ⟨rfl, hno⟩, ⟨by rw [ht]; exact hP9, va_K.moved hW.alike hK9, hD9⟩⟩, hS.F ht⟩) hS.2.2 dL_record_14
  · obtain ⟨rfl, hno⟩ := hE9
    refine vx_catch (name := "java/util/NoSuchElementException") hown [⟨0, 9, 12, 13⟩] ⟨0, 9, 15, 27⟩ [] htab (fun z hz => by obtain rfl := List.mem_singleton.mp hz; exact Or.inr ⟨by decide, _, hts (.classLink RL 13 "java/lang/IllegalArgumentException") (by decide +kernel), hZ.2.2.2.moved (Vm.Alike.refl _)⟩) (by decide) (by decide) (hts (.classLink RL 27 "java/util/NoSuchElementException") (by decide +kernel)) (zX_use hZ (.castable "java/util/NoSuchElementException" "java/util/NoSuchElementException") (by decide)) hc9 hv9 hcl9 ?_
    refine W.eq (g2 := F0 m 15 ls [.ref q9]) rfl ?_
    obtain ⟨hP, hD⟩ := va_join (wr := [(ou, .inl (cL, 1, .inr (.inl of9)))]) (w1 := []) hP hD [0] [1] rfl rfl (by decide) (by decide) hk9 hFc P_nil D_nil
    have hS := hS9
    generalize H9 = H at hP hS ⊢
    have hP : va_P (dC, dI) vwCl [(ou, .inl (cL, 1, .inr (.inl of9)))] H := hP
    have hD : va_D A [(ou, .inl (cL, 1, .inr (.inl of9)))] := hD
    refine W.widen (k := 2) (n := 12) (Nat.le_of_ble_eq_true rfl) (Nat.le_of_ble_eq_true rfl) ?_
    refine lv_astore_n (lv' := [(3, .ref q9), (0, .ref ya), (1, .int a1), (2, .ref ou)]) hx hb dL_record_15 rfl hl (by decide) rfl (fun ls hl => ?_)
    refine lv_iconst (v := 2) hx hb dL_record_16 (by decide) ?_
    refine vx_ret ?_
    have hP9 := hP.sub (ws' := [(ou, .inl (cL, 1, .inr (.inl of9)))]) [0] rfl
    have hD9 := hD.sub (ws' := [(ou, .inl (cL, 1, .inr (.inl of9)))]) [0] (by decide) rfl
    have hK9 := hK.sub (tys' := [(cL, .long)]) [0] rfl
    exact W.iret (v := 2) hx hb hr (fun t ht hW => ⟨⟨2, of9, rfl, Or.inr ⟨rfl, hno⟩, ⟨by rw [ht]; exact hP9, va_K.moved hW.alike hK9, hD9⟩⟩, hS.F ht⟩) hS.2.2 dL_record_17
