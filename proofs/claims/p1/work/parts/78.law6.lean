theorem dL_law_2686 : decode cL_law 2686 = .ok (.aload_n 1, 1) := by decide +kernel
theorem dL_law_2687 : decode cL_law 2687 = .ok (.aload 4, 2) := by decide +kernel
def q_ggL_law_L_meanMarks : List Cond := .codeWith yL_meanMarks cL_meanMarks 3 (some .int) [(0, 7, 10, 140)] :: ((wsL_meanMarks_r1 ++ (wsL_meanMarks_r2 ++ (wsL_meanMarks_r3 ++ (wsL_meanMarks_r4 ++ (wsL_meanMarks_r5 ++ (wsL_meanMarks_r6 ++ (wsL_meanMarks_r7 ++ (wsL_meanMarks_r8 ++ (wsL_meanMarks_r9 ++ wsL_meanMarks_r10))))))))) ++ wsX110 ++ wsX50 ++ wsX20 ++ wsX70 ++ wsX100 ++ wsX40)
theorem q0_ggL_law_L_meanMarks : GoodIn wsL_law ((q_ggL_law_L_meanMarks.drop 0).take 24) := gi_two _ [(75, 2), (75, 3), (75, 4), (75, 5), (75, 6), (0, 2), (75, 7), (75, 8), (75, 9), (0, 17), (43, 23), (13, 18), (13, 19), (13, 20), (13, 21), (13, 22), (13, 23), (0, 16), (51, 15), (51, 16), (51, 17), (51, 18), (0, 21), (43, 2)] rfl (by decide +kernel)
theorem q1_ggL_law_L_meanMarks : GoodIn wsL_law ((q_ggL_law_L_meanMarks.drop 24).take 24) := gi_two _ [(43, 3), (43, 4), (5, 0), (43, 5), (5, 18), (44, 23), (45, 0), (45, 1), (0, 20), (45, 2), (33, 2), (33, 3), (33, 4), (45, 3), (45, 4), (11, 21), (45, 5), (2, 4), (45, 6), (45, 7), (45, 8), (45, 9), (1, 20), (32, 16)] rfl (by decide +kernel)
theorem q2_ggL_law_L_meanMarks : GoodIn wsL_law ((q_ggL_law_L_meanMarks.drop 48).take 24) := gi_two _ [(32, 20), (19, 3), (19, 4), (1, 19), (19, 5), (19, 6), (19, 7), (19, 8), (19, 9), (3, 0), (2, 17), (2, 18), (2, 19), (2, 20), (2, 21), (2, 22), (19, 10), (19, 11), (12, 11), (19, 12), (19, 13), (19, 14), (19, 15), (19, 16)] rfl (by decide +kernel)
theorem q3_ggL_law_L_meanMarks : GoodIn wsL_law ((q_ggL_law_L_meanMarks.drop 72).take 24) := gi_two _ [(19, 17), (19, 18), (12, 23), (13, 0), (19, 19), (11, 20), (11, 22), (19, 20), (19, 21), (19, 22), (19, 23), (20, 0), (14, 13), (14, 14), (14, 15), (6, 0), (6, 1), (5, 21), (20, 1), (20, 2), (20, 3), (20, 4), (20, 5), (20, 6)] rfl (by decide +kernel)
theorem q4_ggL_law_L_meanMarks : GoodIn wsL_law ((q_ggL_law_L_meanMarks.drop 96).take 24) := gi_two _ [(20, 7), (20, 8), (20, 9), (20, 10), (20, 11), (20, 12), (20, 13), (32, 21), (22, 14), (22, 15), (22, 16), (32, 22), (23, 13), (23, 14), (23, 15), (45, 10), (45, 11), (45, 12), (45, 13), (2, 5), (45, 14), (45, 15), (34, 10), (34, 11)] rfl (by decide +kernel)
theorem q5_ggL_law_L_meanMarks : GoodIn wsL_law ((q_ggL_law_L_meanMarks.drop 120).take 24) := gi_two _ [(34, 12), (45, 16), (45, 17), (45, 18), (45, 19), (45, 20), (45, 21), (45, 22), (45, 23), (46, 0), (46, 1), (46, 2), (34, 0), (34, 1), (34, 2), (34, 3), (13, 2), (13, 3), (13, 4), (46, 3), (35, 3), (35, 4), (35, 5), (35, 6)] rfl (by decide +kernel)
theorem q6_ggL_law_L_meanMarks : GoodIn wsL_law ((q_ggL_law_L_meanMarks.drop 144).take 24) := gi_two _ [(35, 7), (35, 8), (2, 3), (35, 9), (3, 17), (35, 10), (35, 11), (35, 12), (35, 13), (3, 19), (3, 18), (3, 21), (3, 20), (35, 14), (35, 15), (35, 16), (35, 17), (14, 16), (14, 17), (35, 18), (35, 19), (35, 20), (35, 21), (35, 22)] rfl (by decide +kernel)
theorem q7_ggL_law_L_meanMarks : GoodIn wsL_law ((q_ggL_law_L_meanMarks.drop 168).take 24) := gi_two _ [(35, 23), (36, 0), (30, 8), (30, 9), (36, 1), (36, 2), (36, 3), (36, 4), (36, 5), (36, 6), (36, 7), (36, 8), (36, 9), (36, 10), (36, 11), (36, 12), (36, 13), (36, 14), (36, 15), (36, 16), (36, 17), (36, 18), (36, 19), (46, 4)] rfl (by decide +kernel)
theorem q8_ggL_law_L_meanMarks : GoodIn wsL_law ((q_ggL_law_L_meanMarks.drop 192).take 24) := gi_two _ [(46, 5), (46, 6), (46, 7), (2, 13), (32, 19), (36, 20), (36, 21), (36, 22), (2, 12), (36, 23), (4, 13), (4, 12), (4, 14), (4, 15), (4, 16), (4, 18), (4, 17), (37, 0), (37, 1), (37, 2), (37, 3), (37, 4), (37, 5), (37, 6)] rfl (by decide +kernel)
theorem q9_ggL_law_L_meanMarks : GoodIn wsL_law ((q_ggL_law_L_meanMarks.drop 216).take 24) := gi_two _ [(37, 7), (37, 8), (37, 9), (37, 10), (37, 11), (37, 12), (37, 13), (37, 14), (37, 15), (37, 16), (37, 17), (37, 18), (37, 19), (37, 20), (37, 21), (37, 22), (37, 23), (38, 0), (38, 1), (38, 2), (38, 3), (38, 4), (38, 5), (77, 0)] rfl (by decide +kernel)
theorem q10_ggL_law_L_meanMarks : GoodIn wsL_law ((q_ggL_law_L_meanMarks.drop 240).take 24) := gi_two _ [(77, 1), (77, 2), (77, 3), (77, 4), (77, 5), (77, 6), (89, 0), (89, 1), (89, 2), (89, 3), (89, 4), (89, 5), (89, 6), (89, 7), (89, 8), (89, 9), (89, 10), (79, 0), (79, 1), (79, 2), (79, 3), (79, 4), (79, 5), (84, 0)] rfl (by decide +kernel)
theorem q11_ggL_law_L_meanMarks : GoodIn wsL_law ((q_ggL_law_L_meanMarks.drop 264).take 24) := gi_two _ [(84, 1), (84, 2), (84, 3), (84, 4), (84, 5), (84, 6), (86, 0), (86, 1), (86, 2), (86, 3), (86, 4), (88, 0), (88, 1), (88, 2), (88, 3), (88, 4), (88, 5), (88, 6)] rfl (by decide +kernel)
theorem qe_ggL_law_L_meanMarks : GoodIn wsL_law (q_ggL_law_L_meanMarks.drop 288) := gi_two _ [] rfl (by decide +kernel)
theorem qa_ggL_law_L_meanMarks : GoodIn wsL_law (q_ggL_law_L_meanMarks) := (gi_step 0 24 q0_ggL_law_L_meanMarks (gi_step 24 24 q1_ggL_law_L_meanMarks (gi_step 48 24 q2_ggL_law_L_meanMarks (gi_step 72 24 q3_ggL_law_L_meanMarks (gi_step 96 24 q4_ggL_law_L_meanMarks (gi_step 120 24 q5_ggL_law_L_meanMarks (gi_step 144 24 q6_ggL_law_L_meanMarks (gi_step 168 24 q7_ggL_law_L_meanMarks (gi_step 192 24 q8_ggL_law_L_meanMarks (gi_step 216 24 q9_ggL_law_L_meanMarks (gi_step 240 24 q10_ggL_law_L_meanMarks (gi_step 264 24 q11_ggL_law_L_meanMarks qe_ggL_law_L_meanMarks))))))))))))
set_option maxRecDepth 20000 in
theorem ggL_law_L_meanMarks : GoodIn wsL_law wsL_meanMarks := goodIn_ca (goodIn_ca (goodIn_ca (qa_ggL_law_L_meanMarks) (goodIn_sub (fun _ h => List.mem_append_left _ (List.mem_append_left _ (List.mem_append_left _ (List.mem_append_left _ (List.mem_append_left _ (List.mem_append_left _ (List.mem_append_left _ (List.mem_append_right _ h)))))))) (by decide +kernel))) (goodIn_sub (fun _ h => List.mem_append_right _ h) (by decide +kernel))) (goodIn_sub (fun _ h => List.mem_append_left _ (List.mem_append_left _ (List.mem_append_left _ (List.mem_append_left _ (List.mem_append_right _ h))))) (by decide +kernel))
set_option maxRecDepth 20000 in
theorem gL_law_L_meanMarks : GoodIn wsL_law (va_wsS RL 295 yL_meanMarks wsL_meanMarks) := goodIn_app (goodIn_of _ (by decide +kernel)) ggL_law_L_meanMarks
theorem dL_law_2689 : decode cL_law 2689 = .ok (.invokestatic 295, 3) := by decide +kernel
theorem dL_law_2692 : decode cL_law 2692 = .ok (.istore 6, 2) := by decide +kernel
theorem dL_law_2694 : decode cL_law 2694 = .ok (.aload_n 2, 1) := by decide +kernel
def q_ggL_law_X15_meanMarks : List Cond := .code yX15_meanMarks cX15_meanMarks 7 (some .double) :: ((wsX15_meanMarks_r1 ++ (wsX15_meanMarks_r2 ++ (wsX15_meanMarks_r3 ++ (wsX15_meanMarks_r4 ++ (wsX15_meanMarks_r5 ++ (wsX15_meanMarks_r6 ++ (wsX15_meanMarks_r7 ++ (wsX15_meanMarks_r8 ++ wsX15_meanMarks_r9)))))))) ++ wsX150 ++ wsX130 ++ wsJx354110 ++ wsJx4a65c0 ++ wsX140 ++ wsX120)
theorem q0_ggL_law_X15_meanMarks : GoodIn wsL_law ((q_ggL_law_X15_meanMarks.drop 0).take 24) := gi_two _ [(75, 13), (7, 13), (15, 2), (10, 0), (53, 15), (53, 16), (53, 17), (7, 12), (53, 18), (53, 19), (53, 20), (53, 21), (53, 22), (53, 23), (54, 0), (54, 1), (54, 2), (0, 13), (0, 14), (54, 3), (54, 4), (11, 6), (54, 5), (54, 6)] rfl (by decide +kernel)
theorem q1_ggL_law_X15_meanMarks : GoodIn wsL_law ((q_ggL_law_X15_meanMarks.drop 24).take 24) := gi_two _ [(54, 7), (54, 8), (54, 9), (54, 10), (54, 11), (54, 12), (54, 13), (54, 14), (54, 15), (54, 16), (54, 17), (54, 18), (54, 19), (46, 12), (46, 13), (46, 14), (0, 5), (46, 15), (38, 10), (38, 11), (20, 19), (20, 20), (20, 21), (46, 16)] rfl (by decide +kernel)
theorem q2_ggL_law_X15_meanMarks : GoodIn wsL_law ((q_ggL_law_X15_meanMarks.drop 48).take 24) := gi_two _ [(45, 4), (11, 21), (45, 5), (38, 16), (38, 17), (38, 18), (38, 19), (20, 22), (20, 23), (21, 0), (21, 1), (2, 23), (21, 2), (21, 3), (21, 4), (21, 5), (21, 6), (21, 7), (21, 8), (21, 9), (21, 10), (21, 11), (21, 12), (21, 13)] rfl (by decide +kernel)
theorem q3_ggL_law_X15_meanMarks : GoodIn wsL_law ((q_ggL_law_X15_meanMarks.drop 72).take 24) := gi_two _ [(21, 14), (21, 15), (21, 16), (21, 17), (21, 18), (12, 23), (13, 0), (21, 19), (21, 20), (11, 20), (11, 22), (21, 21), (21, 22), (21, 23), (22, 0), (22, 1), (22, 2), (22, 3), (22, 4), (22, 5), (16, 4), (16, 5), (10, 3), (16, 6)] rfl (by decide +kernel)
theorem q4_ggL_law_X15_meanMarks : GoodIn wsL_law ((q_ggL_law_X15_meanMarks.drop 96).take 24) := gi_two _ [(10, 21), (27, 7), (27, 8), (27, 9), (27, 10), (38, 20), (38, 21), (38, 22), (38, 23), (39, 12), (39, 4), (39, 5), (39, 6), (39, 7), (39, 8), (39, 9), (39, 10), (39, 11), (39, 13), (39, 14), (39, 15), (39, 16), (18, 10), (18, 11)] rfl (by decide +kernel)
theorem q5_ggL_law_X15_meanMarks : GoodIn wsL_law ((q_ggL_law_X15_meanMarks.drop 120).take 24) := gi_two _ [(18, 12), (18, 13), (18, 14), (10, 2), (10, 19), (10, 20), (10, 22), (10, 23), (11, 0), (16, 11), (18, 15), (10, 13), (10, 14), (10, 15), (10, 16), (10, 17), (10, 18), (10, 4), (10, 5), (10, 6), (40, 1), (40, 2), (40, 3), (40, 4)] rfl (by decide +kernel)
theorem q6_ggL_law_X15_meanMarks : GoodIn wsL_law ((q_ggL_law_X15_meanMarks.drop 144).take 24) := gi_two _ [(40, 5), (40, 6), (40, 7), (40, 8), (40, 9), (40, 10), (40, 11), (40, 12), (7, 9), (40, 13), (40, 14), (40, 15), (40, 16), (40, 17), (40, 18), (40, 19), (40, 20), (40, 21), (40, 22), (40, 23), (41, 0), (41, 1), (41, 2), (41, 3)] rfl (by decide +kernel)
theorem q7_ggL_law_X15_meanMarks : GoodIn wsL_law ((q_ggL_law_X15_meanMarks.drop 168).take 24) := gi_two _ [(41, 4), (41, 5), (41, 6), (41, 7), (41, 8), (41, 9), (41, 10), (41, 11), (41, 12), (41, 13), (41, 14), (41, 15), (41, 16), (41, 17), (41, 18), (41, 19), (41, 20), (41, 21), (41, 22), (41, 23), (42, 0), (42, 1), (42, 2), (42, 3)] rfl (by decide +kernel)
theorem q8_ggL_law_X15_meanMarks : GoodIn wsL_law ((q_ggL_law_X15_meanMarks.drop 192).take 24) := gi_two _ [(42, 4), (42, 5), (42, 6), (42, 7), (42, 8), (42, 9), (42, 10), (42, 11), (42, 12), (42, 13), (42, 14), (42, 15), (42, 16), (42, 17), (42, 18), (78, 0), (78, 1), (78, 2), (78, 3), (78, 4), (78, 5), (78, 6), (78, 7), (78, 8)] rfl (by decide +kernel)
theorem q9_ggL_law_X15_meanMarks : GoodIn wsL_law ((q_ggL_law_X15_meanMarks.drop 216).take 24) := gi_two _ [(78, 9), (78, 10), (78, 11), (78, 12), (78, 13), (78, 14), (78, 15), (78, 16), (78, 17), (78, 18), (78, 19), (78, 20), (91, 0), (91, 1), (91, 2), (91, 3), (91, 4), (91, 5), (91, 6), (91, 7), (91, 8), (91, 9), (91, 10), (91, 11)] rfl (by decide +kernel)
theorem q10_ggL_law_X15_meanMarks : GoodIn wsL_law ((q_ggL_law_X15_meanMarks.drop 240).take 24) := gi_two _ [(95, 0), (95, 1), (95, 2), (95, 3), (90, 0), (90, 1), (90, 2), (92, 0), (92, 1), (92, 2), (92, 3), (92, 4), (92, 5), (92, 6), (92, 7), (92, 8), (94, 0), (94, 1), (94, 2), (94, 3), (94, 4), (94, 5), (94, 6), (94, 7)] rfl (by decide +kernel)
theorem q11_ggL_law_X15_meanMarks : GoodIn wsL_law ((q_ggL_law_X15_meanMarks.drop 264).take 24) := gi_two _ [(94, 8), (94, 9), (94, 10)] rfl (by decide +kernel)
theorem qe_ggL_law_X15_meanMarks : GoodIn wsL_law (q_ggL_law_X15_meanMarks.drop 288) := gi_two _ [] rfl (by decide +kernel)
theorem qa_ggL_law_X15_meanMarks : GoodIn wsL_law (q_ggL_law_X15_meanMarks) := (gi_step 0 24 q0_ggL_law_X15_meanMarks (gi_step 24 24 q1_ggL_law_X15_meanMarks (gi_step 48 24 q2_ggL_law_X15_meanMarks (gi_step 72 24 q3_ggL_law_X15_meanMarks (gi_step 96 24 q4_ggL_law_X15_meanMarks (gi_step 120 24 q5_ggL_law_X15_meanMarks (gi_step 144 24 q6_ggL_law_X15_meanMarks (gi_step 168 24 q7_ggL_law_X15_meanMarks (gi_step 192 24 q8_ggL_law_X15_meanMarks (gi_step 216 24 q9_ggL_law_X15_meanMarks (gi_step 240 24 q10_ggL_law_X15_meanMarks (gi_step 264 24 q11_ggL_law_X15_meanMarks qe_ggL_law_X15_meanMarks))))))))))))
set_option maxRecDepth 20000 in
theorem ggL_law_X15_meanMarks : GoodIn wsL_law wsX15_meanMarks := goodIn_ca (goodIn_ca (qa_ggL_law_X15_meanMarks) (goodIn_sub (fun _ h => List.mem_append_left _ (List.mem_append_left _ (List.mem_append_left _ (List.mem_append_left _ (List.mem_append_left _ (List.mem_append_left _ (List.mem_append_left _ (List.mem_append_right _ h)))))))) (by decide +kernel))) (goodIn_sub (fun _ h => List.mem_append_left _ (List.mem_append_right _ h)) (by decide +kernel))
set_option maxRecDepth 20000 in
theorem gL_law_X15_meanMarks : GoodIn wsL_law (wsV RL 298 RX15 yX15_meanMarks wsX15_meanMarks) := goodIn_app (goodIn_of _ (by decide +kernel)) ggL_law_X15_meanMarks
theorem dL_law_2695 : decode cL_law 2695 = .ok (.invokevirtual 298, 3) := by decide +kernel
theorem dL_law_2698 : decode cL_law 2698 = .ok (.dstore 7, 2) := by decide +kernel
theorem dL_law_2700 : decode cL_law 2700 = .ok (.aload_n 2, 1) := by decide +kernel
theorem dL_law_2701 : decode cL_law 2701 = .ok (.invokevirtual 152, 3) := by decide +kernel
theorem dL_law_2704 : decode cL_law 2704 = .ok (.iload 6, 2) := by decide +kernel
theorem dL_law_2706 : decode cL_law 2706 = .ok (.if_icmp .eq 5, 3) := by decide +kernel
theorem dL_law_2711 : decode cL_law 2711 = .ok (.iload 6, 2) := by decide +kernel
theorem dL_law_2713 : decode cL_law 2713 = .ok (.ifCond .ne 35, 3) := by decide +kernel
theorem dL_law_2748 : decode cL_law 2748 = .ok (.goto 30, 3) := by decide +kernel
theorem dL_law_2751 : decode cL_law 2751 = .ok (.aload_n 1, 1) := by decide +kernel
set_option maxRecDepth 20000 in
theorem ggL_law_X11_checksum : GoodIn wsL_law wsX11_checksum := goodIn_ca (goodIn_ca (gi_two _ [(75, 17), (75, 18), (0, 17), (13, 18), (13, 19), (13, 20), (0, 2), (13, 21), (13, 22), (13, 23), (0, 16), (75, 19), (75, 20), (75, 21), (5, 0), (75, 22), (6, 0), (6, 1), (75, 23), (14, 12), (14, 13), (14, 14), (14, 15), (5, 21), (77, 0), (77, 1), (77, 2), (77, 3), (77, 4), (77, 5), (77, 6), (89, 0), (89, 1), (89, 2), (89, 3), (89, 4), (89, 5), (89, 6), (89, 7), (89, 8), (89, 9), (89, 10)] rfl (by decide +kernel)) (goodIn_sub (fun _ h => List.mem_append_left _ (List.mem_append_left _ (List.mem_append_left _ (List.mem_append_left _ (List.mem_append_right _ h))))) (by decide +kernel))) (goodIn_sub (fun _ h => List.mem_append_left _ (List.mem_append_left _ (List.mem_append_left _ (List.mem_append_left _ (List.mem_append_left _ (List.mem_append_left _ (List.mem_append_left _ (List.mem_append_right _ h)))))))) (by decide +kernel))
set_option maxRecDepth 20000 in
theorem gL_law_X11_checksum : GoodIn wsL_law (wsV RL 299 RX11 yX11_checksum wsX11_checksum) := goodIn_app (goodIn_of _ (by decide +kernel)) ggL_law_X11_checksum
theorem dL_law_2752 : decode cL_law 2752 = .ok (.invokevirtual 299, 3) := by decide +kernel
theorem dL_law_2755 : decode cL_law 2755 = .ok (.aload_n 2, 1) := by decide +kernel
set_option maxRecDepth 20000 in
theorem ggL_law_X15_checksum : GoodIn wsL_law wsX15_checksum := goodIn_ca (gi_two _ [(76, 3), (10, 0), (76, 4), (7, 13), (15, 2), (76, 5), (53, 15), (53, 16), (53, 17), (7, 12), (53, 18), (53, 19), (53, 20), (53, 21), (53, 22), (53, 23), (54, 0), (54, 1), (54, 2), (0, 13), (0, 14), (54, 3), (54, 4), (11, 6), (54, 5), (54, 6), (54, 7), (54, 8), (54, 9), (54, 10), (54, 11), (54, 12), (54, 13), (54, 14), (54, 15), (54, 16), (54, 17), (54, 18), (54, 19), (78, 0), (78, 1), (78, 2), (78, 3), (78, 4), (78, 5), (78, 6), (78, 7), (78, 8), (78, 9), (78, 10), (78, 11), (78, 12), (78, 13), (78, 14), (78, 15), (78, 16), (78, 17), (78, 18), (78, 19), (78, 20), (91, 0), (91, 1), (91, 2), (91, 3), (91, 4), (91, 5), (91, 6), (91, 7), (91, 8), (91, 9), (91, 10), (91, 11), (95, 0), (95, 1), (95, 2), (95, 3), (90, 0), (90, 1), (90, 2)] rfl (by decide +kernel)) (goodIn_sub (fun _ h => List.mem_append_left _ (List.mem_append_left _ (List.mem_append_left _ (List.mem_append_left _ (List.mem_append_left _ (List.mem_append_left _ (List.mem_append_left _ (List.mem_append_right _ h)))))))) (by decide +kernel))
set_option maxRecDepth 20000 in
theorem gL_law_X15_checksum : GoodIn wsL_law (wsV RL 303 RX15 yX15_checksum wsX15_checksum) := goodIn_app (goodIn_of _ (by decide +kernel)) ggL_law_X15_checksum
theorem dL_law_2756 : decode cL_law 2756 = .ok (.invokevirtual 303, 3) := by decide +kernel
theorem dL_law_2759 : decode cL_law 2759 = .ok (.lcmp, 1) := by decide +kernel
theorem dL_law_2760 : decode cL_law 2760 = .ok (.ifCond .eq 18, 3) := by decide +kernel
theorem dL_law_2765 : decode cL_law 2765 = .ok (.aload_n 1, 1) := by decide +kernel
def q_ggL_law_X11_isSound : List Cond := .code yX11_isSound cX11_isSound 2 (some .boolean) :: ((wsX11_isSound_r1 ++ (wsX11_isSound_r2 ++ (wsX11_isSound_r3 ++ (wsX11_isSound_r4 ++ (wsX11_isSound_r5 ++ (wsX11_isSound_r6 ++ (wsX11_isSound_r7 ++ (wsX11_isSound_r8 ++ (wsX11_isSound_r9 ++ (wsX11_isSound_r10 ++ (wsX11_isSound_r11 ++ wsX11_isSound_r12))))))))))) ++ wsX110 ++ wsX20 ++ wsX80 ++ wsX70 ++ wsX50 ++ wsX100 ++ wsX40)
theorem q0_ggL_law_X11_isSound : GoodIn wsL_law ((q_ggL_law_X11_isSound.drop 0).take 24) := gi_two _ [(76, 9), (0, 17), (0, 21), (13, 18), (13, 19), (13, 20), (0, 2), (13, 21), (13, 22), (13, 23), (0, 16), (76, 10), (76, 11), (76, 12), (0, 20), (76, 13), (1, 20), (2, 9), (76, 14), (32, 16), (76, 15), (45, 0), (45, 1), (45, 2)] rfl (by decide +kernel)
theorem q1_ggL_law_X11_isSound : GoodIn wsL_law ((q_ggL_law_X11_isSound.drop 24).take 24) := gi_two _ [(33, 2), (33, 3), (33, 4), (45, 3), (45, 4), (11, 21), (45, 5), (2, 4), (45, 6), (45, 7), (45, 8), (45, 9), (32, 20), (19, 3), (19, 4), (1, 19), (19, 5), (19, 6), (19, 7), (19, 8), (19, 9), (3, 0), (2, 17), (2, 18)] rfl (by decide +kernel)
theorem q2_ggL_law_X11_isSound : GoodIn wsL_law ((q_ggL_law_X11_isSound.drop 48).take 24) := gi_two _ [(2, 19), (2, 20), (2, 21), (2, 22), (19, 10), (19, 11), (12, 11), (19, 12), (19, 13), (19, 14), (19, 15), (19, 16), (19, 17), (19, 18), (12, 23), (13, 0), (19, 19), (11, 20), (11, 22), (19, 20), (19, 21), (19, 22), (19, 23), (20, 0)] rfl (by decide +kernel)
theorem q3_ggL_law_X11_isSound : GoodIn wsL_law ((q_ggL_law_X11_isSound.drop 72).take 24) := gi_two _ [(14, 13), (14, 14), (5, 0), (14, 15), (6, 0), (6, 1), (5, 21), (20, 1), (20, 2), (20, 3), (20, 4), (20, 5), (20, 6), (20, 7), (20, 8), (20, 9), (20, 10), (20, 11), (20, 12), (20, 13), (32, 21), (22, 14), (22, 15), (22, 16)] rfl (by decide +kernel)
theorem q4_ggL_law_X11_isSound : GoodIn wsL_law ((q_ggL_law_X11_isSound.drop 96).take 24) := gi_two _ [(32, 22), (23, 13), (23, 14), (23, 15), (45, 10), (45, 11), (45, 12), (45, 13), (2, 5), (45, 14), (45, 15), (34, 10), (34, 11), (34, 12), (45, 16), (45, 17), (45, 18), (45, 19), (45, 20), (45, 21), (45, 22), (45, 23), (46, 0), (46, 1)] rfl (by decide +kernel)
theorem q5_ggL_law_X11_isSound : GoodIn wsL_law ((q_ggL_law_X11_isSound.drop 120).take 24) := gi_two _ [(46, 2), (34, 0), (34, 1), (34, 2), (34, 3), (13, 2), (13, 3), (13, 4), (46, 3), (35, 3), (35, 4), (35, 5), (35, 6), (35, 7), (35, 8), (2, 3), (35, 9), (3, 17), (35, 10), (35, 11), (35, 12), (35, 13), (3, 19), (3, 18)] rfl (by decide +kernel)
theorem q6_ggL_law_X11_isSound : GoodIn wsL_law ((q_ggL_law_X11_isSound.drop 144).take 24) := gi_two _ [(3, 21), (3, 20), (35, 14), (35, 15), (35, 16), (35, 17), (14, 16), (14, 17), (35, 18), (35, 19), (35, 20), (35, 21), (35, 22), (35, 23), (36, 0), (30, 8), (30, 9), (36, 1), (36, 2), (36, 3), (36, 4), (36, 5), (36, 6), (36, 7)] rfl (by decide +kernel)
theorem q7_ggL_law_X11_isSound : GoodIn wsL_law ((q_ggL_law_X11_isSound.drop 168).take 24) := gi_two _ [(36, 8), (36, 9), (36, 10), (36, 11), (36, 12), (36, 13), (36, 14), (36, 15), (36, 16), (36, 17), (36, 18), (36, 19), (46, 4), (46, 5), (46, 6), (46, 7), (2, 13), (32, 19), (36, 20), (36, 21), (36, 22), (2, 12), (36, 23), (4, 13)] rfl (by decide +kernel)
theorem q8_ggL_law_X11_isSound : GoodIn wsL_law ((q_ggL_law_X11_isSound.drop 192).take 24) := gi_two _ [(4, 12), (4, 14), (4, 15), (4, 16), (4, 18), (4, 17), (37, 0), (37, 1), (37, 2), (37, 3), (37, 4), (37, 5), (37, 6), (37, 7), (37, 8), (37, 9), (37, 10), (37, 11), (37, 12), (37, 13), (37, 14), (37, 15), (37, 16), (37, 17)] rfl (by decide +kernel)
theorem q9_ggL_law_X11_isSound : GoodIn wsL_law ((q_ggL_law_X11_isSound.drop 216).take 24) := gi_two _ [(37, 18), (37, 19), (37, 20), (37, 21), (37, 22), (37, 23), (38, 0), (38, 1), (38, 2), (38, 3), (38, 4), (38, 5), (76, 16), (43, 3), (43, 4), (43, 5), (5, 18), (76, 17), (29, 8), (29, 9), (29, 10), (29, 11), (29, 12), (29, 13)] rfl (by decide +kernel)
theorem q10_ggL_law_X11_isSound : GoodIn wsL_law ((q_ggL_law_X11_isSound.drop 240).take 24) := gi_two _ [(2, 8), (29, 14), (4, 2), (4, 3), (4, 4), (4, 1), (4, 5), (4, 8), (29, 15), (29, 16), (29, 17), (29, 18), (29, 19), (29, 20), (29, 21), (29, 22), (29, 23), (30, 0), (30, 1), (30, 2), (30, 3), (30, 4), (30, 5), (30, 6)] rfl (by decide +kernel)
theorem q11_ggL_law_X11_isSound : GoodIn wsL_law ((q_ggL_law_X11_isSound.drop 264).take 24) := gi_two _ [(30, 7), (4, 6), (4, 7), (30, 10), (30, 11), (30, 12), (30, 13), (30, 14), (30, 15), (30, 16), (30, 17), (30, 18), (30, 19), (30, 20), (30, 21), (30, 22), (30, 23), (76, 18), (28, 9), (28, 10), (28, 11), (28, 12), (28, 13), (77, 0)] rfl (by decide +kernel)
theorem q12_ggL_law_X11_isSound : GoodIn wsL_law ((q_ggL_law_X11_isSound.drop 288).take 24) := gi_two _ [(77, 1), (77, 2), (77, 3), (77, 4), (77, 5), (77, 6), (79, 0), (79, 1), (79, 2), (79, 3), (79, 4), (79, 5), (87, 0), (87, 1), (87, 2), (87, 3), (87, 4), (87, 5), (87, 6), (87, 7), (84, 0), (84, 1), (84, 2), (84, 3)] rfl (by decide +kernel)
theorem q13_ggL_law_X11_isSound : GoodIn wsL_law ((q_ggL_law_X11_isSound.drop 312).take 24) := gi_two _ [(84, 4), (84, 5), (84, 6), (89, 0), (89, 1), (89, 2), (89, 3), (89, 4), (89, 5), (89, 6), (89, 7), (89, 8), (89, 9), (89, 10), (86, 0), (86, 1), (86, 2), (86, 3), (86, 4), (88, 0), (88, 1), (88, 2), (88, 3), (88, 4)] rfl (by decide +kernel)
theorem q14_ggL_law_X11_isSound : GoodIn wsL_law ((q_ggL_law_X11_isSound.drop 336).take 24) := gi_two _ [(88, 5), (88, 6)] rfl (by decide +kernel)
theorem qe_ggL_law_X11_isSound : GoodIn wsL_law (q_ggL_law_X11_isSound.drop 360) := gi_two _ [] rfl (by decide +kernel)
theorem qa_ggL_law_X11_isSound : GoodIn wsL_law (q_ggL_law_X11_isSound) := (gi_step 0 24 q0_ggL_law_X11_isSound (gi_step 24 24 q1_ggL_law_X11_isSound (gi_step 48 24 q2_ggL_law_X11_isSound (gi_step 72 24 q3_ggL_law_X11_isSound (gi_step 96 24 q4_ggL_law_X11_isSound (gi_step 120 24 q5_ggL_law_X11_isSound (gi_step 144 24 q6_ggL_law_X11_isSound (gi_step 168 24 q7_ggL_law_X11_isSound (gi_step 192 24 q8_ggL_law_X11_isSound (gi_step 216 24 q9_ggL_law_X11_isSound (gi_step 240 24 q10_ggL_law_X11_isSound (gi_step 264 24 q11_ggL_law_X11_isSound (gi_step 288 24 q12_ggL_law_X11_isSound (gi_step 312 24 q13_ggL_law_X11_isSound (gi_step 336 24 q14_ggL_law_X11_isSound qe_ggL_law_X11_isSound)))))))))))))))
set_option maxRecDepth 20000 in
theorem ggL_law_X11_isSound : GoodIn wsL_law wsX11_isSound := goodIn_ca (goodIn_ca (qa_ggL_law_X11_isSound) (goodIn_sub (fun _ h => List.mem_append_left _ (List.mem_append_left _ (List.mem_append_left _ (List.mem_append_left _ (List.mem_append_right _ h))))) (by decide +kernel))) (goodIn_sub (fun _ h => List.mem_append_left _ (List.mem_append_left _ (List.mem_append_left _ (List.mem_append_left _ (List.mem_append_left _ (List.mem_append_left _ (List.mem_append_left _ (List.mem_append_right _ h)))))))) (by decide +kernel))
set_option maxRecDepth 20000 in
theorem gL_law_X11_isSound : GoodIn wsL_law (wsV RL 304 RX11 yX11_isSound wsX11_isSound) := goodIn_app (goodIn_of _ (by decide +kernel)) ggL_law_X11_isSound
theorem dL_law_2766 : decode cL_law 2766 = .ok (.invokevirtual 304, 3) := by decide +kernel
theorem dL_law_2769 : decode cL_law 2769 = .ok (.aload_n 2, 1) := by decide +kernel
set_option maxRecDepth 20000 in
theorem ggL_law_X15_isSound : GoodIn wsL_law wsX15_isSound := gi_two _ [(76, 22), (10, 0), (78, 0), (78, 1), (78, 2), (78, 3), (78, 4), (78, 5), (78, 6), (78, 7), (78, 8), (78, 9), (78, 10), (78, 11), (78, 12), (78, 13), (78, 14), (78, 15), (78, 16), (78, 17), (78, 18), (78, 19), (78, 20)] rfl (by decide +kernel)
set_option maxRecDepth 20000 in
theorem gL_law_X15_isSound : GoodIn wsL_law (wsV RL 307 RX15 yX15_isSound wsX15_isSound) := goodIn_app (goodIn_of _ (by decide +kernel)) ggL_law_X15_isSound
theorem dL_law_2770 : decode cL_law 2770 = .ok (.invokevirtual 307, 3) := by decide +kernel
theorem dL_law_2773 : decode cL_law 2773 = .ok (.if_icmp .eq 5, 3) := by decide +kernel
set_option maxHeartbeats 8000000 in
set_option maxRecDepth 100000 in
/-- the law: law_40_meanMarks -/
theorem law_40_meanMarks {p : Program} {e : Env} {s : State} {m : MethodId} {below : List Frame} {meth : Method} {c : Code} {l : Launch} {b : Nat} {xs : Nat → Int32} (hx : p.tables.exec = Jvm.exec) (hb : c.code = cL_law) (hr : meth.sig.returnType = ret) (hml : c.maxLocals = 9) (hfl : l.stackTraces = false) (hown : s.vm.findClass RL = some m.cls) (hts : ∀ w ∈ wsL_law, w.before #[Value.ref b] s = true) (hX : va_X b 7 xs s s.heap) (hbl : b < s.heap.size) (hlocks : meth.locks = false) {A : Nat → Prop} (hbA : ¬ A b) (hAo : ∀ q, A q → s.heap.size ≤ q) (hA : ∀ q : Nat, s.heap.size ≤ q → A q) (dC : Nat → ClassId) (dI : Nat → Nat → Nat) (hN : nwA s) (e0 : Nat) (aK aV : Nat → Nat) (hZ : zX A s s.heap ∧ zM e0 aK aV A s s.heap) (ya ms ju rj tj ro rn tn rh th ca sa da xa wb z1 z2 jt z3 br z4 z5 z6 lk z7 z8 li bm l2 z9 bo h2 mm l1 z10 oo h1 ct cr cu cg cp co tg ts tr tk te fw fo fu xm ml cl fl rg tR ou od kn : Nat) (cI cM cS cL cD cB : ClassId) {H : Heap} {locs : List Loc} (hP : va_P (dC, dI) vwCl [(ya, .inr (16, [.ref ms, .int 0, .ref ju, .ref li, .ref ct, .ref tg, .ref fw])), (od, .inl (cD, 1, .inr (.inr (.inr (.inl (fun _ => 0)))))), (xm, .inr (20, [.int 0, .int 0, .ref kn, .int 0, .int 0, .int 0, .ref ml, .ref cl, .ref rg, .ref tR, .ref (aK 0), .ref (aK 0), .ref fl, .int 0, .int 0, .int 0, .int 0, .int 0, .int 0, .int 0, .null])), (ml, .inr (4, [.int 0, .ref e0, .int 0]))] H) (hD : va_D A [(ya, .inr (16, [.ref ms, .int 0, .ref ju, .ref li, .ref ct, .ref tg, .ref fw])), (od, .inl (cD, 1, .inr (.inr (.inr (.inl (fun _ => 0)))))), (xm, .inr (20, [.int 0, .int 0, .ref kn, .int 0, .int 0, .int 0, .ref ml, .ref cl, .ref rg, .ref tR, .ref (aK 0), .ref (aK 0), .ref fl, .int 0, .int 0, .int 0, .int 0, .int 0, .int 0, .int 0, .null])), (ml, .inr (4, [.int 0, .ref e0, .int 0]))]) (hK : va_K (dC, dI) vwCl [(cD, .double)] s) (hS : va_S A s.heap H locs) {ls : Array Slot} (hl : lv_has ls 9 [(0, .ref b), (1, .ref ya), (2, .ref xm), (3, .ref ou), (4, .ref od), (5, .int 0)]) : W p l e room_1 s m #[Value.ref b] below meth c H locs 200 60000 (lw_Z below #[Value.ref b] s) (F0 m 2686 ls []) := by
  obtain ⟨s1, hs1⟩ : ∃ z, z = xs ((0 : Int32) + 1).toNatClampNeg := ⟨_, rfl⟩
  obtain ⟨s2, hs2⟩ : ∃ z, z = xs ((0 : Int32) + 2).toNatClampNeg := ⟨_, rfl⟩
  obtain ⟨s3, hs3⟩ : ∃ z, z = xs ((0 : Int32) + 3).toNatClampNeg := ⟨_, rfl⟩
  obtain ⟨s4, hs4⟩ : ∃ z, z = xs ((0 : Int32) + 4).toNatClampNeg := ⟨_, rfl⟩
  obtain ⟨s5, hs5⟩ : ∃ z, z = xs ((0 : Int32) + 5).toNatClampNeg := ⟨_, rfl⟩
  obtain ⟨s6, hs6⟩ : ∃ z, z = xs ((0 : Int32) + 6).toNatClampNeg := ⟨_, rfl⟩
  obtain ⟨ch1, hch1⟩ : ∃ z, z = (s1.toUInt32 % 65536).toInt32 := ⟨_, rfl⟩
  obtain ⟨ch2, hch2⟩ : ∃ z, z = (s2.toUInt32 % 65536).toInt32 := ⟨_, rfl⟩
  obtain ⟨ch3, hch3⟩ : ∃ z, z = (s3.toUInt32 % 65536).toInt32 := ⟨_, rfl⟩
  obtain ⟨ch4, hch4⟩ : ∃ z, z = (s4.toUInt32 % 65536).toInt32 := ⟨_, rfl⟩
  obtain ⟨ch5, hch5⟩ : ∃ z, z = (s5.toUInt32 % 65536).toInt32 := ⟨_, rfl⟩
  obtain ⟨ch6, hch6⟩ : ∃ z, z = (s6.toUInt32 % 65536).toInt32 := ⟨_, rfl⟩
  refine lv_aload_n hx hb dL_law_2686 rfl (lv_at hl 1 rfl) ?_
  refine lv_aload hx hb dL_law_2687 (lv_at hl 4 rfl) ?_
  have hPc := hP.sub (ws' := [(ya, .inr (16, [.ref ms, .int 0, .ref ju, .ref li, .ref ct, .ref tg, .ref fw])), (od, .inl (cD, 1, .inr (.inr (.inr (.inl (fun _ => 0))))))]) [0, 1] rfl
  have hDc := hD.sub (ws' := [(ya, .inr (16, [.ref ms, .int 0, .ref ju, .ref li, .ref ct, .ref tg, .ref fw])), (od, .inl (cD, 1, .inr (.inr (.inr (.inl (fun _ => 0))))))]) [0, 1] (by decide) rfl
  have hKc := hK.sub (tys' := [(cD, .double)]) [0] rfl
  have hFc := va_free (wc := [(ya, .inr (16, [.ref ms, .int 0, .ref ju, .ref li, .ref ct, .ref tg, .ref fw])), (od, .inl (cD, 1, .inr (.inr (.inr (.inl (fun _ => 0))))))]) hD hS hA [0, 1] rfl
  refine vx_calli (vx_runSX (As := [.ref ya, .ref od]) (rest := []) ⟨hx, hb, hml, hown, hts⟩ (c_L_meanMarks l hfl dC dI ya ms ju li ct tg fw cD od (fun _ => 0) H.size) (vx_cwSW 2 hts gL_law_L_meanMarks rfl rfl rfl (by decide +kernel) ⟨Nat.le_of_ble_eq_true rfl, Nat.le_of_ble_eq_true rfl⟩) (pcSz (zX_ok) hPc hDc hKc hN hZ.1 hS hFc) rfl rfl hl.1 rfl (lv_room (Nat.le_of_ble_eq_true rfl)) dL_law_2689 ⟨Nat.le_of_ble_eq_true rfl, Nat.le_of_ble_eq_true rfl⟩) hS (fun q _ h => hFc q h) hFc (fun q _ h => hFc q h) (fun E9 ce9 q9 u9 t9 H9 locs9 ht9 hvm9 hp9 hE9 hz9 hk9 hS9 hc9 hv9 hcl9 => hE9.elim) (fun r_2 u t H1 locs ht hvm hw_3 hB hz1 hk1 hS => ?_)
  obtain ⟨hP1, hK1, hD1⟩ := hB
  rw [ht] at hP1
  try dsimp only at hw_3
  obtain ⟨hP, hD⟩ := va_join (wr := [(xm, .inr (20, [.int 0, .int 0, .ref kn, .int 0, .int 0, .int 0, .ref ml, .ref cl, .ref rg, .ref tR, .ref (aK 0), .ref (aK 0), .ref fl, .int 0, .int 0, .int 0, .int 0, .int 0, .int 0, .int 0, .null])), (ml, .inr (4, [.int 0, .ref e0, .int 0]))]) (w1 := [(od, .inl (cD, 1, .inr (.inr (.inr (.inl u)))))]) hP hD [0, 1] [2, 3] rfl rfl (by decide) (by decide) hk1 hFc hP1 hD1
  generalize H1 = H at hP hS ⊢
  have hP : va_P (dC, dI) vwCl [(xm, .inr (20, [.int 0, .int 0, .ref kn, .int 0, .int 0, .int 0, .ref ml, .ref cl, .ref rg, .ref tR, .ref (aK 0), .ref (aK 0), .ref fl, .int 0, .int 0, .int 0, .int 0, .int 0, .int 0, .int 0, .null])), (ml, .inr (4, [.int 0, .ref e0, .int 0])), (od, .inl (cD, 1, .inr (.inr (.inr (.inl u)))))] H := hP
  have hD : va_D A [(xm, .inr (20, [.int 0, .int 0, .ref kn, .int 0, .int 0, .int 0, .ref ml, .ref cl, .ref rg, .ref tR, .ref (aK 0), .ref (aK 0), .ref fl, .int 0, .int 0, .int 0, .int 0, .int 0, .int 0, .int 0, .null])), (ml, .inr (4, [.int 0, .ref e0, .int 0])), (od, .inl (cD, 1, .inr (.inr (.inr (.inl u)))))] := hD
  refine W.widen (k := 201) (n := 60006) (Nat.le_of_ble_eq_true rfl) (Nat.le_of_ble_eq_true rfl) ?_
  obtain ⟨of_1, eof_1⟩ : ∃ z, z = u := ⟨_, rfl⟩
  subst eof_1
  have hP : va_P (dC, dI) vwCl [(xm, .inr (20, [.int 0, .int 0, .ref kn, .int 0, .int 0, .int 0, .ref ml, .ref cl, .ref rg, .ref tR, .ref (aK 0), .ref (aK 0), .ref fl, .int 0, .int 0, .int 0, .int 0, .int 0, .int 0, .int 0, .null])), (ml, .inr (4, [.int 0, .ref e0, .int 0])), (od, .inl (cD, 1, .inr (.inr (.inr (.inl of_1)))))] H := hP
  have hD : va_D A [(xm, .inr (20, [.int 0, .int 0, .ref kn, .int 0, .int 0, .int 0, .ref ml, .ref cl, .ref rg, .ref tR, .ref (aK 0), .ref (aK 0), .ref fl, .int 0, .int 0, .int 0, .int 0, .int 0, .int 0, .int 0, .null])), (ml, .inr (4, [.int 0, .ref e0, .int 0])), (od, .inl (cD, 1, .inr (.inr (.inr (.inl of_1)))))] := hD
  obtain rfl : r_2 = 1 := hw_3
  refine lv_istore (lv' := [(6, .int 1), (0, .ref b), (1, .ref ya), (2, .ref xm), (3, .ref ou), (4, .ref od), (5, .int 0)]) hx hb dL_law_2692 hl (by decide) rfl (fun ls hl => ?_)
  refine lv_aload_n hx hb dL_law_2694 rfl (lv_at hl 3 rfl) ?_
  have hPc := hP.sub (ws' := [(xm, .inr (20, [.int 0, .int 0, .ref kn, .int 0, .int 0, .int 0, .ref ml, .ref cl, .ref rg, .ref tR, .ref (aK 0), .ref (aK 0), .ref fl, .int 0, .int 0, .int 0, .int 0, .int 0, .int 0, .int 0, .null])), (ml, .inr (4, [.int 0, .ref e0, .int 0]))]) [0, 1] rfl
  have hDc := hD.sub (ws' := [(xm, .inr (20, [.int 0, .int 0, .ref kn, .int 0, .int 0, .int 0, .ref ml, .ref cl, .ref rg, .ref tR, .ref (aK 0), .ref (aK 0), .ref fl, .int 0, .int 0, .int 0, .int 0, .int 0, .int 0, .int 0, .null])), (ml, .inr (4, [.int 0, .ref e0, .int 0]))]) [0, 1] (by decide) rfl
  have hKc := hK.sub (tys' := []) [] rfl
  have hFc := va_free (wc := [(xm, .inr (20, [.int 0, .int 0, .ref kn, .int 0, .int 0, .int 0, .ref ml, .ref cl, .ref rg, .ref tR, .ref (aK 0), .ref (aK 0), .ref fl, .int 0, .int 0, .int 0, .int 0, .int 0, .int 0, .int 0, .null])), (ml, .inr (4, [.int 0, .ref e0, .int 0]))]) hD hS hA [0, 1] rfl
  refine va_calld (va_runV (As := []) (rest := []) ⟨hx, hb, hml, hown, hts⟩ (c_X15_meanMarks l dC dI xm ml cl fl kn rg tR e0 aK aV H.size) (cwV 0 hts gL_law_X15_meanMarks rfl rfl rfl (by decide +kernel) ⟨Nat.le_of_ble_eq_true rfl, Nat.le_of_ble_eq_true rfl⟩) (pcVz (zM_ok e0 aK aV) hPc hDc hKc hN hZ.2 hS hFc (ci := 20) (q0 := 0) rfl rfl) rfl rfl hl.1 rfl (lv_room (Nat.le_of_ble_eq_true rfl)) dL_law_2695 ⟨Nat.le_of_ble_eq_true rfl, Nat.le_of_ble_eq_true rfl⟩) hS (fun q _ h => hFc q h) hFc (fun r_5 u t H1 locs ht hvm hw_6 hB hz1 hk1 hS => ?_)
  obtain ⟨hP1, hK1, hD1⟩ := hB
  rw [ht] at hP1
  try dsimp only at hw_6
  obtain ⟨hP, hD⟩ := va_join (wr := [(od, .inl (cD, 1, .inr (.inr (.inr (.inl of_1)))))]) (w1 := [(xm, .inr (20, u))]) hP hD [0, 1] [2] rfl rfl (by decide) (by decide) hk1 hFc hP1 hD1
  generalize H1 = H at hP hS ⊢
  have hP : va_P (dC, dI) vwCl [(od, .inl (cD, 1, .inr (.inr (.inr (.inl of_1))))), (xm, .inr (20, u))] H := hP
  have hD : va_D A [(od, .inl (cD, 1, .inr (.inr (.inr (.inl of_1))))), (xm, .inr (20, u))] := hD
  refine W.widen (k := 202) (n := 60010) (Nat.le_of_ble_eq_true rfl) (Nat.le_of_ble_eq_true rfl) ?_
  obtain ⟨fs_4, efs_4⟩ : ∃ z, z = u := ⟨_, rfl⟩
  subst efs_4
  have hP : va_P (dC, dI) vwCl [(od, .inl (cD, 1, .inr (.inr (.inr (.inl of_1))))), (xm, .inr (20, fs_4))] H := hP
  have hD : va_D A [(od, .inl (cD, 1, .inr (.inr (.inr (.inl of_1))))), (xm, .inr (20, fs_4))] := hD
  refine lv_dstore (lv' := [(7, .double r_5), (6, .int 1), (0, .ref b), (1, .ref ya), (2, .ref xm), (3, .ref ou), (4, .ref od), (5, .int 0)]) hx hb dL_law_2698 hl (by decide) rfl (fun ls hl => ?_)
  refine lv_aload_n hx hb dL_law_2700 rfl (lv_at hl 4 rfl) ?_
  have hPc := hP.sub (ws' := [(xm, .inr (20, fs_4))]) [1] rfl
  have hDc := hD.sub (ws' := [(xm, .inr (20, fs_4))]) [1] (by decide) rfl
  have hKc := hK.sub (tys' := []) [] rfl
  have hFc := va_free (wc := [(xm, .inr (20, fs_4))]) hD hS hA [1] rfl
  refine va_calli (va_runV (As := []) (rest := []) ⟨hx, hb, hml, hown, hts⟩ (c_X15_thrown l dC dI xm fs_4 1 hw_6 H.size) (cwV 0 hts gL_law_X15_thrown rfl rfl rfl (by decide +kernel) ⟨Nat.le_of_ble_eq_true rfl, Nat.le_of_ble_eq_true rfl⟩) (pcV hPc hDc hKc hN (ci := 20) (q0 := 0) rfl rfl) rfl rfl hl.1 rfl (lv_room (Nat.le_of_ble_eq_true rfl)) dL_law_2701 ⟨Nat.le_of_ble_eq_true rfl, Nat.le_of_ble_eq_true rfl⟩) hS (fun q _ h => hFc q h) hFc (fun r_7 u t H1 locs ht hvm hw_8 hB hz1 hk1 hS => ?_)
  obtain ⟨hP1, hK1, hD1⟩ := hB
  rw [ht] at hP1
  try dsimp only at hw_8
  obtain ⟨hP, hD⟩ := va_join (wr := [(od, .inl (cD, 1, .inr (.inr (.inr (.inl of_1)))))]) (w1 := []) hP hD [1] [0] rfl rfl (by decide) (by decide) hk1 hFc hP1 hD1
  generalize H1 = H at hP hS ⊢
  have hP : va_P (dC, dI) vwCl [(od, .inl (cD, 1, .inr (.inr (.inr (.inl of_1)))))] H := hP
  have hD : va_D A [(od, .inl (cD, 1, .inr (.inr (.inr (.inl of_1)))))] := hD
  obtain rfl : r_7 = 1 := hw_8
  refine lv_iload hx hb dL_law_2704 (lv_at hl 1 rfl) ?_
  refine lv_icmp_eq (tgt := 2711) hx hb dL_law_2706 (by decide) (fun c2706_9 => ?_) (fun c2706_9 => ?_)
  · refine lv_iload hx hb dL_law_2711 (lv_at hl 1 rfl) ?_
    refine lv_if_ne (tgt := 2748) hx hb dL_law_2713 (by decide) (fun c2713_10 => ?_) (fun c2713_10 => ?_)
    · refine lv_goto (tgt := 2778) hx hb dL_law_2748 (by decide) ?_
      refine W.widen (k := 600006) (n := 7302039) (Nat.le_of_ble_eq_true rfl) (Nat.le_of_ble_eq_true rfl) ?_
      exact law_end hx hb hr hml hX hbl hlocks hbA hAo hS (lv_sub hl [2, 7] rfl)
    · exact absurd c2713_10 (by decide)
  · exact (c2706_9 (by decide)).elim

set_option maxHeartbeats 8000000 in
set_option maxRecDepth 100000 in
/-- the law: law_41_checksum -/
theorem law_41_checksum {p : Program} {e : Env} {s : State} {m : MethodId} {below : List Frame} {meth : Method} {c : Code} {l : Launch} {b : Nat} {xs : Nat → Int32} (hx : p.tables.exec = Jvm.exec) (hb : c.code = cL_law) (hr : meth.sig.returnType = ret) (hml : c.maxLocals = 9) (hfl : l.stackTraces = false) (hown : s.vm.findClass RL = some m.cls) (hts : ∀ w ∈ wsL_law, w.before #[Value.ref b] s = true) (hX : va_X b 7 xs s s.heap) (hbl : b < s.heap.size) (hlocks : meth.locks = false) {A : Nat → Prop} (hbA : ¬ A b) (hAo : ∀ q, A q → s.heap.size ≤ q) (hA : ∀ q : Nat, s.heap.size ≤ q → A q) (dC : Nat → ClassId) (dI : Nat → Nat → Nat) (hN : nwA s) (e0 : Nat) (aK aV : Nat → Nat) (hZ : zX A s s.heap ∧ zM e0 aK aV A s s.heap) (ya ms ju rj tj ro rn tn rh th ca sa da xa wb z1 z2 jt z3 br z4 z5 z6 lk z7 z8 li bm l2 z9 bo h2 mm l1 z10 oo h1 ct cr cu cg cp co tg ts tr tk te fw fo fu xm ml cl fl rg tR ou od kn : Nat) (cI cM cS cL cD cB : ClassId) {H : Heap} {locs : List Loc} (hP : va_P (dC, dI) vwCl [(ya, .inr (16, [.ref ms, .int 0, .ref ju, .ref li, .ref ct, .ref tg, .ref fw])), (xm, .inr (20, [.int 0, .int 0, .ref kn, .int 0, .int 0, .int 0, .ref ml, .ref cl, .ref rg, .ref tR, .ref (aK 0), .ref (aK 0), .ref fl, .int 0, .int 0, .int 0, .int 0, .int 0, .int 0, .int 0, .null])), (ml, .inr (4, [.int 0, .ref e0, .int 0]))] H) (hD : va_D A [(ya, .inr (16, [.ref ms, .int 0, .ref ju, .ref li, .ref ct, .ref tg, .ref fw])), (xm, .inr (20, [.int 0, .int 0, .ref kn, .int 0, .int 0, .int 0, .ref ml, .ref cl, .ref rg, .ref tR, .ref (aK 0), .ref (aK 0), .ref fl, .int 0, .int 0, .int 0, .int 0, .int 0, .int 0, .int 0, .null])), (ml, .inr (4, [.int 0, .ref e0, .int 0]))]) (hK : va_K (dC, dI) vwCl [] s) (hS : va_S A s.heap H locs) {ls : Array Slot} (hl : lv_has ls 9 [(0, .ref b), (1, .ref ya), (2, .ref xm), (3, .ref ou), (4, .ref od), (5, .int 0)]) : W p l e room_1 s m #[Value.ref b] below meth c H locs 200 60000 (lw_Z below #[Value.ref b] s) (F0 m 2751 ls []) := by
  obtain ⟨s1, hs1⟩ : ∃ z, z = xs ((0 : Int32) + 1).toNatClampNeg := ⟨_, rfl⟩
  obtain ⟨s2, hs2⟩ : ∃ z, z = xs ((0 : Int32) + 2).toNatClampNeg := ⟨_, rfl⟩
  obtain ⟨s3, hs3⟩ : ∃ z, z = xs ((0 : Int32) + 3).toNatClampNeg := ⟨_, rfl⟩
  obtain ⟨s4, hs4⟩ : ∃ z, z = xs ((0 : Int32) + 4).toNatClampNeg := ⟨_, rfl⟩
  obtain ⟨s5, hs5⟩ : ∃ z, z = xs ((0 : Int32) + 5).toNatClampNeg := ⟨_, rfl⟩
  obtain ⟨s6, hs6⟩ : ∃ z, z = xs ((0 : Int32) + 6).toNatClampNeg := ⟨_, rfl⟩
  obtain ⟨ch1, hch1⟩ : ∃ z, z = (s1.toUInt32 % 65536).toInt32 := ⟨_, rfl⟩
  obtain ⟨ch2, hch2⟩ : ∃ z, z = (s2.toUInt32 % 65536).toInt32 := ⟨_, rfl⟩
  obtain ⟨ch3, hch3⟩ : ∃ z, z = (s3.toUInt32 % 65536).toInt32 := ⟨_, rfl⟩
  obtain ⟨ch4, hch4⟩ : ∃ z, z = (s4.toUInt32 % 65536).toInt32 := ⟨_, rfl⟩
  obtain ⟨ch5, hch5⟩ : ∃ z, z = (s5.toUInt32 % 65536).toInt32 := ⟨_, rfl⟩
  obtain ⟨ch6, hch6⟩ : ∃ z, z = (s6.toUInt32 % 65536).toInt32 := ⟨_, rfl⟩
  refine lv_aload_n hx hb dL_law_2751 rfl (lv_at hl 1 rfl) ?_
  have hPc := hP.sub (ws' := [(ya, .inr (16, [.ref ms, .int 0, .ref ju, .ref li, .ref ct, .ref tg, .ref fw]))]) [0] rfl
  have hDc := hD.sub (ws' := [(ya, .inr (16, [.ref ms, .int 0, .ref ju, .ref li, .ref ct, .ref tg, .ref fw]))]) [0] (by decide) rfl
  have hKc := hK.sub (tys' := []) [] rfl
  have hFc := va_free (wc := [(ya, .inr (16, [.ref ms, .int 0, .ref ju, .ref li, .ref ct, .ref tg, .ref fw]))]) hD hS hA [0] rfl
  refine vx_calll (vx_runV (As := []) (rest := []) ⟨hx, hb, hml, hown, hts⟩ (c_X11_checksum l hfl dC dI ya ms ju li ct tg fw H.size) (cwV 0 hts gL_law_X11_checksum rfl rfl rfl (by decide +kernel) ⟨Nat.le_of_ble_eq_true rfl, Nat.le_of_ble_eq_true rfl⟩) (pcVz (zX_ok) hPc hDc hKc hN hZ.1 hS hFc (ci := 16) (q0 := 0) rfl rfl) rfl rfl hl.1 rfl (lv_room (Nat.le_of_ble_eq_true rfl)) dL_law_2752 ⟨Nat.le_of_ble_eq_true rfl, Nat.le_of_ble_eq_true rfl⟩) hS (fun q _ h => hFc q h) hFc (fun q _ h => hFc q h) (fun E9 ce9 q9 u9 t9 H9 locs9 ht9 hvm9 hp9 hE9 hz9 hk9 hS9 hc9 hv9 hcl9 => hE9.elim) (fun r_1 u t H1 locs ht hvm hw_2 hB hz1 hk1 hS => ?_)
  obtain ⟨hP1, hK1, hD1⟩ := hB
  rw [ht] at hP1
  try dsimp only at hw_2
  obtain ⟨hP, hD⟩ := va_join (wr := [(xm, .inr (20, [.int 0, .int 0, .ref kn, .int 0, .int 0, .int 0, .ref ml, .ref cl, .ref rg, .ref tR, .ref (aK 0), .ref (aK 0), .ref fl, .int 0, .int 0, .int 0, .int 0, .int 0, .int 0, .int 0, .null])), (ml, .inr (4, [.int 0, .ref e0, .int 0]))]) (w1 := []) hP hD [0] [1, 2] rfl rfl (by decide) (by decide) hk1 hFc hP1 hD1
  generalize H1 = H at hP hS ⊢
  have hP : va_P (dC, dI) vwCl [(xm, .inr (20, [.int 0, .int 0, .ref kn, .int 0, .int 0, .int 0, .ref ml, .ref cl, .ref rg, .ref tR, .ref (aK 0), .ref (aK 0), .ref fl, .int 0, .int 0, .int 0, .int 0, .int 0, .int 0, .int 0, .null])), (ml, .inr (4, [.int 0, .ref e0, .int 0]))] H := hP
  have hD : va_D A [(xm, .inr (20, [.int 0, .int 0, .ref kn, .int 0, .int 0, .int 0, .ref ml, .ref cl, .ref rg, .ref tR, .ref (aK 0), .ref (aK 0), .ref fl, .int 0, .int 0, .int 0, .int 0, .int 0, .int 0, .int 0, .null])), (ml, .inr (4, [.int 0, .ref e0, .int 0]))] := hD
  obtain rfl : r_1 = 7 := hw_2
  refine lv_aload_n hx hb dL_law_2755 rfl (lv_at hl 2 rfl) ?_
  have hPc := hP.sub (ws' := [(xm, .inr (20, [.int 0, .int 0, .ref kn, .int 0, .int 0, .int 0, .ref ml, .ref cl, .ref rg, .ref tR, .ref (aK 0), .ref (aK 0), .ref fl, .int 0, .int 0, .int 0, .int 0, .int 0, .int 0, .int 0, .null])), (ml, .inr (4, [.int 0, .ref e0, .int 0]))]) [0, 1] rfl
  have hDc := hD.sub (ws' := [(xm, .inr (20, [.int 0, .int 0, .ref kn, .int 0, .int 0, .int 0, .ref ml, .ref cl, .ref rg, .ref tR, .ref (aK 0), .ref (aK 0), .ref fl, .int 0, .int 0, .int 0, .int 0, .int 0, .int 0, .int 0, .null])), (ml, .inr (4, [.int 0, .ref e0, .int 0]))]) [0, 1] (by decide) rfl
  have hKc := hK.sub (tys' := []) [] rfl
  have hFc := va_free (wc := [(xm, .inr (20, [.int 0, .int 0, .ref kn, .int 0, .int 0, .int 0, .ref ml, .ref cl, .ref rg, .ref tR, .ref (aK 0), .ref (aK 0), .ref fl, .int 0, .int 0, .int 0, .int 0, .int 0, .int 0, .int 0, .null])), (ml, .inr (4, [.int 0, .ref e0, .int 0]))]) hD hS hA [0, 1] rfl
  refine va_calll (va_runV (As := []) (rest := [.long 7]) ⟨hx, hb, hml, hown, hts⟩ (c_X15_checksum l dC dI xm ml cl fl kn rg tR e0 aK aV H.size) (cwV 0 hts gL_law_X15_checksum rfl rfl rfl (by decide +kernel) ⟨Nat.le_of_ble_eq_true rfl, Nat.le_of_ble_eq_true rfl⟩) (pcVz (zM_ok e0 aK aV) hPc hDc hKc hN hZ.2 hS hFc (ci := 20) (q0 := 0) rfl rfl) rfl rfl hl.1 rfl (lv_room (Nat.le_of_ble_eq_true rfl)) dL_law_2756 ⟨Nat.le_of_ble_eq_true rfl, Nat.le_of_ble_eq_true rfl⟩) hS (fun q _ h => hFc q h) hFc (fun r_4 u t H1 locs ht hvm hw_5 hB hz1 hk1 hS => ?_)
  obtain ⟨hP1, hK1, hD1⟩ := hB
  rw [ht] at hP1
  try dsimp only at hw_5
  obtain ⟨hP, hD⟩ := va_join (wr := []) (w1 := [(xm, .inr (20, u))]) hP hD [0, 1] [] rfl rfl (by decide) (by decide) hk1 hFc hP1 hD1
  generalize H1 = H at hP hS ⊢
  have hP : va_P (dC, dI) vwCl [(xm, .inr (20, u))] H := hP
  have hD : va_D A [(xm, .inr (20, u))] := hD
  refine W.widen (k := 201) (n := 60004) (Nat.le_of_ble_eq_true rfl) (Nat.le_of_ble_eq_true rfl) ?_
  obtain ⟨fs_3, efs_3⟩ : ∃ z, z = u := ⟨_, rfl⟩
  subst efs_3
  have hP : va_P (dC, dI) vwCl [(xm, .inr (20, fs_3))] H := hP
  have hD : va_D A [(xm, .inr (20, fs_3))] := hD
  obtain rfl : r_4 = 7 := hw_5.2
  refine W.lcmp hx hb dL_law_2759 ?_
  refine lv_if_eq (tgt := 2778) hx hb dL_law_2760 (by decide) (fun c2760_6 => ?_) (fun c2760_6 => ?_)
  · refine W.widen (k := 600006) (n := 7302039) (Nat.le_of_ble_eq_true rfl) (Nat.le_of_ble_eq_true rfl) ?_
    exact law_end hx hb hr hml hX hbl hlocks hbA hAo hS (lv_sub hl [0, 5] rfl)
  · exact absurd ((lg_cmp_eq _ _).mpr (by first | rfl | (subst_vars; rfl))) c2760_6

set_option maxHeartbeats 8000000 in
set_option maxRecDepth 100000 in
/-- the law: law_42_isSound -/
theorem law_42_isSound {p : Program} {e : Env} {s : State} {m : MethodId} {below : List Frame} {meth : Method} {c : Code} {l : Launch} {b : Nat} {xs : Nat → Int32} (hx : p.tables.exec = Jvm.exec) (hb : c.code = cL_law) (hr : meth.sig.returnType = ret) (hml : c.maxLocals = 9) (hfl : l.stackTraces = false) (hown : s.vm.findClass RL = some m.cls) (hts : ∀ w ∈ wsL_law, w.before #[Value.ref b] s = true) (hX : va_X b 7 xs s s.heap) (hbl : b < s.heap.size) (hlocks : meth.locks = false) {A : Nat → Prop} (hbA : ¬ A b) (hAo : ∀ q, A q → s.heap.size ≤ q) (hA : ∀ q : Nat, s.heap.size ≤ q → A q) (dC : Nat → ClassId) (dI : Nat → Nat → Nat) (hN : nwA s) (e0 : Nat) (aK aV : Nat → Nat) (hZ : zX A s s.heap ∧ zM e0 aK aV A s s.heap) (ya ms ju rj tj ro rn tn rh th ca sa da xa wb z1 z2 jt z3 br z4 z5 z6 lk z7 z8 li bm l2 z9 bo h2 mm l1 z10 oo h1 ct cr cu cg cp co tg ts tr tk te fw fo fu xm ml cl fl rg tR ou od kn : Nat) (cI cM cS cL cD cB : ClassId) {H : Heap} {locs : List Loc} (hP : va_P (dC, dI) vwCl [(ya, .inr (16, [.ref ms, .int 0, .ref ju, .ref li, .ref ct, .ref tg, .ref fw])), (xm, .inr (20, [.int 0, .int 0, .ref kn, .int 0, .int 0, .int 0, .ref ml, .ref cl, .ref rg, .ref tR, .ref (aK 0), .ref (aK 0), .ref fl, .int 0, .int 0, .int 0, .int 0, .int 0, .int 0, .int 0, .null]))] H) (hD : va_D A [(ya, .inr (16, [.ref ms, .int 0, .ref ju, .ref li, .ref ct, .ref tg, .ref fw])), (xm, .inr (20, [.int 0, .int 0, .ref kn, .int 0, .int 0, .int 0, .ref ml, .ref cl, .ref rg, .ref tR, .ref (aK 0), .ref (aK 0), .ref fl, .int 0, .int 0, .int 0, .int 0, .int 0, .int 0, .int 0, .null]))]) (hK : va_K (dC, dI) vwCl [] s) (hS : va_S A s.heap H locs) {ls : Array Slot} (hl : lv_has ls 9 [(0, .ref b), (1, .ref ya), (2, .ref xm), (3, .ref ou), (4, .ref od), (5, .int 0)]) : W p l e room_1 s m #[Value.ref b] below meth c H locs 200 60000 (lw_Z below #[Value.ref b] s) (F0 m 2765 ls []) := by
  obtain ⟨s1, hs1⟩ : ∃ z, z = xs ((0 : Int32) + 1).toNatClampNeg := ⟨_, rfl⟩
  obtain ⟨s2, hs2⟩ : ∃ z, z = xs ((0 : Int32) + 2).toNatClampNeg := ⟨_, rfl⟩
  obtain ⟨s3, hs3⟩ : ∃ z, z = xs ((0 : Int32) + 3).toNatClampNeg := ⟨_, rfl⟩
  obtain ⟨s4, hs4⟩ : ∃ z, z = xs ((0 : Int32) + 4).toNatClampNeg := ⟨_, rfl⟩
  obtain ⟨s5, hs5⟩ : ∃ z, z = xs ((0 : Int32) + 5).toNatClampNeg := ⟨_, rfl⟩
  obtain ⟨s6, hs6⟩ : ∃ z, z = xs ((0 : Int32) + 6).toNatClampNeg := ⟨_, rfl⟩
  obtain ⟨ch1, hch1⟩ : ∃ z, z = (s1.toUInt32 % 65536).toInt32 := ⟨_, rfl⟩
  obtain ⟨ch2, hch2⟩ : ∃ z, z = (s2.toUInt32 % 65536).toInt32 := ⟨_, rfl⟩
  obtain ⟨ch3, hch3⟩ : ∃ z, z = (s3.toUInt32 % 65536).toInt32 := ⟨_, rfl⟩
  obtain ⟨ch4, hch4⟩ : ∃ z, z = (s4.toUInt32 % 65536).toInt32 := ⟨_, rfl⟩
  obtain ⟨ch5, hch5⟩ : ∃ z, z = (s5.toUInt32 % 65536).toInt32 := ⟨_, rfl⟩
  obtain ⟨ch6, hch6⟩ : ∃ z, z = (s6.toUInt32 % 65536).toInt32 := ⟨_, rfl⟩
  refine lv_aload_n hx hb dL_law_2765 rfl (lv_at hl 1 rfl) ?_
  have hPc := hP.sub (ws' := [(ya, .inr (16, [.ref ms, .int 0, .ref ju, .ref li, .ref ct, .ref tg, .ref fw]))]) [0] rfl
  have hDc := hD.sub (ws' := [(ya, .inr (16, [.ref ms, .int 0, .ref ju, .ref li, .ref ct, .ref tg, .ref fw]))]) [0] (by decide) rfl
  have hKc := hK.sub (tys' := []) [] rfl
  have hFc := va_free (wc := [(ya, .inr (16, [.ref ms, .int 0, .ref ju, .ref li, .ref ct, .ref tg, .ref fw]))]) hD hS hA [0] rfl
  refine vx_calli (vx_runV (As := []) (rest := []) ⟨hx, hb, hml, hown, hts⟩ (c_X11_isSound l hfl dC dI ya ms ju li ct tg fw H.size) (cwV 0 hts gL_law_X11_isSound rfl rfl rfl (by decide +kernel) ⟨Nat.le_of_ble_eq_true rfl, Nat.le_of_ble_eq_true rfl⟩) (pcVz (zX_ok) hPc hDc hKc hN hZ.1 hS hFc (ci := 16) (q0 := 0) rfl rfl) rfl rfl hl.1 rfl (lv_room (Nat.le_of_ble_eq_true rfl)) dL_law_2766 ⟨Nat.le_of_ble_eq_true rfl, Nat.le_of_ble_eq_true rfl⟩) hS (fun q _ h => hFc q h) hFc (fun q _ h => hFc q h) (fun E9 ce9 q9 u9 t9 H9 locs9 ht9 hvm9 hp9 hE9 hz9 hk9 hS9 hc9 hv9 hcl9 => hE9.elim) (fun r_1 u t H1 locs ht hvm hw_2 hB hz1 hk1 hS => ?_)
  obtain ⟨hP1, hK1, hD1⟩ := hB
  rw [ht] at hP1
  try dsimp only at hw_2
  obtain ⟨hP, hD⟩ := va_join (wr := [(xm, .inr (20, [.int 0, .int 0, .ref kn, .int 0, .int 0, .int 0, .ref ml, .ref cl, .ref rg, .ref tR, .ref (aK 0), .ref (aK 0), .ref fl, .int 0, .int 0, .int 0, .int 0, .int 0, .int 0, .int 0, .null]))]) (w1 := []) hP hD [0] [1] rfl rfl (by decide) (by decide) hk1 hFc hP1 hD1
  generalize H1 = H at hP hS ⊢
  have hP : va_P (dC, dI) vwCl [(xm, .inr (20, [.int 0, .int 0, .ref kn, .int 0, .int 0, .int 0, .ref ml, .ref cl, .ref rg, .ref tR, .ref (aK 0), .ref (aK 0), .ref fl, .int 0, .int 0, .int 0, .int 0, .int 0, .int 0, .int 0, .null]))] H := hP
  have hD : va_D A [(xm, .inr (20, [.int 0, .int 0, .ref kn, .int 0, .int 0, .int 0, .ref ml, .ref cl, .ref rg, .ref tR, .ref (aK 0), .ref (aK 0), .ref fl, .int 0, .int 0, .int 0, .int 0, .int 0, .int 0, .int 0, .null]))] := hD
  obtain rfl : r_1 = 1 := hw_2
  refine lv_aload_n hx hb dL_law_2769 rfl (lv_at hl 2 rfl) ?_
  have hPc := hP.sub (ws' := [(xm, .inr (20, [.int 0, .int 0, .ref kn, .int 0, .int 0, .int 0, .ref ml, .ref cl, .ref rg, .ref tR, .ref (aK 0), .ref (aK 0), .ref fl, .int 0, .int 0, .int 0, .int 0, .int 0, .int 0, .int 0, .null]))]) [0] rfl
  have hDc := hD.sub (ws' := [(xm, .inr (20, [.int 0, .int 0, .ref kn, .int 0, .int 0, .int 0, .ref ml, .ref cl, .ref rg, .ref tR, .ref (aK 0), .ref (aK 0), .ref fl, .int 0, .int 0, .int 0, .int 0, .int 0, .int 0, .int 0, .null]))]) [0] (by decide) rfl
  have hKc := hK.sub (tys' := []) [] rfl
  have hFc := va_free (wc := [(xm, .inr (20, [.int 0, .int 0, .ref kn, .int 0, .int 0, .int 0, .ref ml, .ref cl, .ref rg, .ref tR, .ref (aK 0), .ref (aK 0), .ref fl, .int 0, .int 0, .int 0, .int 0, .int 0, .int 0, .int 0, .null]))]) hD hS hA [0] rfl
  refine va_calli (va_runV (As := []) (rest := [.int 1]) ⟨hx, hb, hml, hown, hts⟩ (c_X15_isSound l dC dI xm ml cl fl kn rg tR e0 aK aV H.size) (cwV 0 hts gL_law_X15_isSound rfl rfl rfl (by decide +kernel) ⟨Nat.le_of_ble_eq_true rfl, Nat.le_of_ble_eq_true rfl⟩) (pcV hPc hDc hKc hN (ci := 20) (q0 := 0) rfl rfl) rfl rfl hl.1 rfl (lv_room (Nat.le_of_ble_eq_true rfl)) dL_law_2770 ⟨Nat.le_of_ble_eq_true rfl, Nat.le_of_ble_eq_true rfl⟩) hS (fun q _ h => hFc q h) hFc (fun r_4 u t H1 locs ht hvm hw_5 hB hz1 hk1 hS => ?_)
  obtain ⟨hP1, hK1, hD1⟩ := hB
  rw [ht] at hP1
  try dsimp only at hw_5
  obtain ⟨hP, hD⟩ := va_join (wr := []) (w1 := [(xm, .inr (20, u))]) hP hD [0] [] rfl rfl (by decide) (by decide) hk1 hFc hP1 hD1
  generalize H1 = H at hP hS ⊢
  have hP : va_P (dC, dI) vwCl [(xm, .inr (20, u))] H := hP
  have hD : va_D A [(xm, .inr (20, u))] := hD
  obtain ⟨fs_3, efs_3⟩ : ∃ z, z = u := ⟨_, rfl⟩
  subst efs_3
  have hP : va_P (dC, dI) vwCl [(xm, .inr (20, fs_3))] H := hP
  have hD : va_D A [(xm, .inr (20, fs_3))] := hD
  obtain rfl : r_4 = 1 := hw_5.2
  refine lv_icmp_eq (tgt := 2778) hx hb dL_law_2773 (by decide) (fun c2773_6 => ?_) (fun c2773_6 => ?_)
  · refine W.widen (k := 600006) (n := 7302039) (Nat.le_of_ble_eq_true rfl) (Nat.le_of_ble_eq_true rfl) ?_
    exact law_end hx hb hr hml hX hbl hlocks hbA hAo hS (lv_sub hl [0, 5] rfl)
  · exact (c2773_6 (by decide)).elim
