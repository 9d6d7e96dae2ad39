theorem dL_law_839 : decode cL_law 839 = .ok (.aload_n 1, 1) := by decide +kernel
theorem dL_law_840 : decode cL_law 840 = .ok (.aload_n 0, 1) := by decide +kernel
theorem dL_law_841 : decode cL_law 841 = .ok (.iload 5, 2) := by decide +kernel
theorem dL_law_843 : decode cL_law 843 = .ok (.iconst 1, 1) := by decide +kernel
theorem dL_law_844 : decode cL_law 844 = .ok (.iadd, 1) := by decide +kernel
theorem dL_law_845 : decode cL_law 845 = .ok (.iaload, 1) := by decide +kernel
theorem dL_law_846 : decode cL_law 846 = .ok (.aload_n 3, 1) := by decide +kernel
set_option maxRecDepth 20000 in
theorem ggL_law_L_print : GoodIn wsL_law wsL_print := goodIn_ca (goodIn_ca (goodIn_ca (gi_two _ [(28, 3), (13, 12), (16, 20), (28, 4), (28, 5), (28, 6), (0, 2), (28, 7), (19, 0), (18, 23), (13, 18), (13, 19), (13, 20), (13, 21), (13, 22), (13, 23), (0, 17), (0, 16), (17, 2), (17, 3), (17, 4), (17, 5), (17, 6), (28, 8), (28, 9), (28, 10), (1, 19), (28, 11), (28, 12), (28, 13), (2, 17), (2, 18), (2, 20), (2, 21), (19, 20), (19, 21), (19, 22), (19, 23), (3, 0), (89, 0), (89, 1), (89, 2), (89, 3), (89, 4), (89, 5), (89, 6), (89, 7), (89, 8), (89, 9), (89, 10), (77, 0), (77, 1), (77, 2), (77, 3), (77, 4), (77, 5), (77, 6), (84, 0), (84, 1), (84, 2), (84, 3), (84, 4), (84, 5), (84, 6)] rfl (by decide +kernel)) (goodIn_sub (fun _ h => List.mem_append_left _ (List.mem_append_left _ (List.mem_append_left _ (List.mem_append_left _ (List.mem_append_left _ (List.mem_append_left _ (List.mem_append_left _ (List.mem_append_right _ h)))))))) (by decide +kernel))) (goodIn_sub (fun _ h => List.mem_append_left _ (List.mem_append_left _ (List.mem_append_left _ (List.mem_append_left _ (List.mem_append_right _ h))))) (by decide +kernel))) (goodIn_sub (fun _ h => List.mem_append_left _ (List.mem_append_left _ (List.mem_append_left _ (List.mem_append_right _ h)))) (by decide +kernel))
set_option maxRecDepth 20000 in
theorem gL_law_L_print : GoodIn wsL_law (va_wsS RL 182 yL_print wsL_print) := goodIn_app (goodIn_of _ (by decide +kernel)) ggL_law_L_print
theorem dL_law_847 : decode cL_law 847 = .ok (.invokestatic 182, 3) := by decide +kernel
theorem dL_law_850 : decode cL_law 850 = .ok (.istore 6, 2) := by decide +kernel
theorem dL_law_852 : decode cL_law 852 = .ok (.aload_n 2, 1) := by decide +kernel
theorem dL_law_853 : decode cL_law 853 = .ok (.aload_n 0, 1) := by decide +kernel
theorem dL_law_854 : decode cL_law 854 = .ok (.iload 5, 2) := by decide +kernel
theorem dL_law_856 : decode cL_law 856 = .ok (.iconst 1, 1) := by decide +kernel
theorem dL_law_857 : decode cL_law 857 = .ok (.iadd, 1) := by decide +kernel
theorem dL_law_858 : decode cL_law 858 = .ok (.iaload, 1) := by decide +kernel
set_option maxRecDepth 20000 in
theorem ggL_law_X15_print : GoodIn wsL_law wsX15_print := goodIn_ca (gi_two _ [(28, 17), (22, 21), (22, 22), (22, 23), (0, 5), (23, 0), (7, 13), (15, 2), (10, 0), (15, 3), (15, 4), (15, 5), (15, 6), (10, 7), (10, 8), (10, 9), (7, 12), (10, 10), (10, 11), (10, 4), (10, 5), (10, 6), (15, 7), (15, 8), (15, 9), (15, 10), (15, 11), (15, 12), (15, 13), (15, 14), (15, 15), (15, 16), (15, 17), (15, 18), (15, 19), (15, 20), (15, 21), (15, 22), (8, 1), (28, 18), (28, 19), (28, 20), (20, 21), (28, 21), (28, 22), (28, 23), (21, 16), (21, 15), (21, 17), (21, 19), (21, 2), (78, 0), (78, 1), (78, 2), (78, 3), (78, 4), (78, 5), (78, 6), (78, 7), (78, 8), (78, 9), (78, 10), (78, 11), (78, 12), (78, 13), (78, 14), (78, 15), (78, 16), (78, 17), (78, 18), (78, 19), (78, 20), (91, 0), (91, 1), (91, 2), (91, 3), (91, 4), (91, 5), (91, 6), (91, 7), (91, 8), (91, 9), (91, 10), (91, 11), (90, 0), (90, 1), (90, 2), (92, 0), (92, 1), (92, 2), (92, 3), (92, 4), (92, 5), (92, 6), (92, 7), (92, 8)] rfl (by decide +kernel)) (goodIn_sub (fun _ h => List.mem_append_left _ (List.mem_append_left _ (List.mem_append_left _ (List.mem_append_left _ (List.mem_append_left _ (List.mem_append_left _ (List.mem_append_left _ (List.mem_append_right _ h)))))))) (by decide +kernel))
set_option maxRecDepth 20000 in
theorem gL_law_X15_print : GoodIn wsL_law (wsV RL 184 RX15 yX15_print wsX15_print) := goodIn_app (goodIn_of _ (by decide +kernel)) ggL_law_X15_print
theorem dL_law_859 : decode cL_law 859 = .ok (.invokevirtual 184, 3) := by decide +kernel
theorem dL_law_862 : decode cL_law 862 = .ok (.lstore 7, 2) := by decide +kernel
theorem dL_law_864 : decode cL_law 864 = .ok (.aload_n 2, 1) := by decide +kernel
theorem dL_law_865 : decode cL_law 865 = .ok (.invokevirtual 152, 3) := by decide +kernel
theorem dL_law_868 : decode cL_law 868 = .ok (.iload 6, 2) := by decide +kernel
theorem dL_law_870 : decode cL_law 870 = .ok (.if_icmp .eq 5, 3) := by decide +kernel
theorem dL_law_875 : decode cL_law 875 = .ok (.iload 6, 2) := by decide +kernel
theorem dL_law_877 : decode cL_law 877 = .ok (.ifCond .ne 14, 3) := by decide +kernel
theorem dL_law_891 : decode cL_law 891 = .ok (.goto 1887, 3) := by decide +kernel
theorem dL_law_894 : decode cL_law 894 = .ok (.aload_n 1, 1) := by decide +kernel
theorem dL_law_895 : decode cL_law 895 = .ok (.aload_n 0, 1) := by decide +kernel
theorem dL_law_896 : decode cL_law 896 = .ok (.iload 5, 2) := by decide +kernel
theorem dL_law_898 : decode cL_law 898 = .ok (.iconst 1, 1) := by decide +kernel
theorem dL_law_899 : decode cL_law 899 = .ok (.iadd, 1) := by decide +kernel
theorem dL_law_900 : decode cL_law 900 = .ok (.iaload, 1) := by decide +kernel
theorem dL_law_901 : decode cL_law 901 = .ok (.aload_n 0, 1) := by decide +kernel
theorem dL_law_902 : decode cL_law 902 = .ok (.iload 5, 2) := by decide +kernel
theorem dL_law_904 : decode cL_law 904 = .ok (.iconst 2, 1) := by decide +kernel
theorem dL_law_905 : decode cL_law 905 = .ok (.iadd, 1) := by decide +kernel
theorem dL_law_906 : decode cL_law 906 = .ok (.iaload, 1) := by decide +kernel
theorem dL_law_907 : decode cL_law 907 = .ok (.aload_n 3, 1) := by decide +kernel
def q_ggL_law_L_printByRuns : List Cond := .codeWith yL_printByRuns cL_printByRuns 5 (some .int) [(0, 9, 12, 21), (0, 9, 16, 13)] :: ((wsL_printByRuns_r1 ++ (wsL_printByRuns_r2 ++ (wsL_printByRuns_r3 ++ wsL_printByRuns_r4))) ++ wsX110 ++ wsX20 ++ wsX80 ++ wsX50)
theorem q0_ggL_law_L_printByRuns : GoodIn wsL_law ((q_ggL_law_L_printByRuns.drop 0).take 24) := gi_two _ [(29, 2), (13, 12), (8, 16), (29, 3), (29, 4), (29, 5), (0, 2), (29, 6), (0, 21), (13, 18), (13, 19), (13, 20), (13, 21), (13, 22), (13, 23), (0, 17), (0, 16), (9, 3), (9, 4), (9, 5), (8, 22), (8, 23), (9, 0), (9, 1)] rfl (by decide +kernel)
theorem q1_ggL_law_L_printByRuns : GoodIn wsL_law ((q_ggL_law_L_printByRuns.drop 24).take 24) := gi_two _ [(9, 2), (29, 7), (29, 8), (29, 9), (0, 20), (29, 10), (2, 9), (29, 11), (29, 12), (29, 13), (2, 8), (29, 14), (4, 2), (4, 3), (4, 4), (4, 1), (4, 5), (4, 8), (14, 16), (14, 17), (29, 15), (29, 16), (29, 17), (29, 18)] rfl (by decide +kernel)
theorem q2_ggL_law_L_printByRuns : GoodIn wsL_law ((q_ggL_law_L_printByRuns.drop 48).take 24) := gi_two _ [(29, 19), (29, 20), (14, 13), (14, 14), (5, 0), (14, 15), (6, 0), (6, 1), (5, 21), (29, 21), (20, 2), (20, 3), (29, 22), (20, 12), (20, 13), (29, 23), (20, 5), (20, 6), (30, 0), (30, 1), (30, 2), (30, 3), (30, 4), (30, 5)] rfl (by decide +kernel)
theorem q3_ggL_law_L_printByRuns : GoodIn wsL_law ((q_ggL_law_L_printByRuns.drop 72).take 24) := gi_two _ [(30, 6), (30, 7), (4, 6), (4, 7), (30, 8), (30, 9), (30, 10), (30, 11), (30, 12), (30, 13), (30, 14), (30, 15), (30, 16), (30, 17), (30, 18), (30, 19), (30, 20), (30, 21), (30, 22), (30, 23), (77, 0), (77, 1), (77, 2), (77, 3)] rfl (by decide +kernel)
theorem q4_ggL_law_L_printByRuns : GoodIn wsL_law ((q_ggL_law_L_printByRuns.drop 96).take 24) := gi_two _ [(77, 4), (77, 5), (77, 6), (79, 0), (79, 1), (79, 2), (79, 3), (79, 4), (79, 5), (87, 0), (87, 1), (87, 2), (87, 3), (87, 4), (87, 5), (87, 6), (87, 7), (89, 0), (89, 1), (89, 2), (89, 3), (89, 4), (89, 5), (89, 6)] rfl (by decide +kernel)
theorem q5_ggL_law_L_printByRuns : GoodIn wsL_law ((q_ggL_law_L_printByRuns.drop 120).take 24) := gi_two _ [(89, 7), (89, 8), (89, 9), (89, 10)] rfl (by decide +kernel)
theorem qe_ggL_law_L_printByRuns : GoodIn wsL_law (q_ggL_law_L_printByRuns.drop 144) := gi_two _ [] rfl (by decide +kernel)
theorem qa_ggL_law_L_printByRuns : GoodIn wsL_law (q_ggL_law_L_printByRuns) := (gi_step 0 24 q0_ggL_law_L_printByRuns (gi_step 24 24 q1_ggL_law_L_printByRuns (gi_step 48 24 q2_ggL_law_L_printByRuns (gi_step 72 24 q3_ggL_law_L_printByRuns (gi_step 96 24 q4_ggL_law_L_printByRuns (gi_step 120 24 q5_ggL_law_L_printByRuns qe_ggL_law_L_printByRuns))))))
set_option maxRecDepth 20000 in
theorem ggL_law_L_printByRuns : GoodIn wsL_law wsL_printByRuns := goodIn_ca (goodIn_ca (goodIn_ca (qa_ggL_law_L_printByRuns) (goodIn_sub (fun _ h => List.mem_append_left _ (List.mem_append_left _ (List.mem_append_left _ (List.mem_append_left _ (List.mem_append_left _ (List.mem_append_left _ (List.mem_append_left _ (List.mem_append_right _ h)))))))) (by decide +kernel))) (goodIn_sub (fun _ h => List.mem_append_left _ (List.mem_append_left _ (List.mem_append_left _ (List.mem_append_left _ (List.mem_append_right _ h))))) (by decide +kernel))) (goodIn_sub (fun _ h => List.mem_append_left _ (List.mem_append_left _ (List.mem_append_left _ (List.mem_append_left _ (List.mem_append_left _ (List.mem_append_left _ (List.mem_append_right _ h))))))) (by decide +kernel))
set_option maxRecDepth 20000 in
theorem gL_law_L_printByRuns : GoodIn wsL_law (va_wsS RL 185 yL_printByRuns wsL_printByRuns) := goodIn_app (goodIn_of _ (by decide +kernel)) ggL_law_L_printByRuns
theorem dL_law_908 : decode cL_law 908 = .ok (.invokestatic 185, 3) := by decide +kernel
theorem dL_law_911 : decode cL_law 911 = .ok (.istore 6, 2) := by decide +kernel
theorem dL_law_913 : decode cL_law 913 = .ok (.aload_n 2, 1) := by decide +kernel
theorem dL_law_914 : decode cL_law 914 = .ok (.aload_n 0, 1) := by decide +kernel
theorem dL_law_915 : decode cL_law 915 = .ok (.iload 5, 2) := by decide +kernel
theorem dL_law_917 : decode cL_law 917 = .ok (.iconst 1, 1) := by decide +kernel
theorem dL_law_918 : decode cL_law 918 = .ok (.iadd, 1) := by decide +kernel
theorem dL_law_919 : decode cL_law 919 = .ok (.iaload, 1) := by decide +kernel
theorem dL_law_920 : decode cL_law 920 = .ok (.aload_n 0, 1) := by decide +kernel
theorem dL_law_921 : decode cL_law 921 = .ok (.iload 5, 2) := by decide +kernel
theorem dL_law_923 : decode cL_law 923 = .ok (.iconst 2, 1) := by decide +kernel
theorem dL_law_924 : decode cL_law 924 = .ok (.iadd, 1) := by decide +kernel
theorem dL_law_925 : decode cL_law 925 = .ok (.iaload, 1) := by decide +kernel
def q_ggL_law_X15_printByRuns : List Cond := .code yX15_printByRuns cX15_printByRuns 3 (some .long) :: ((wsX15_printByRuns_r1 ++ (wsX15_printByRuns_r2 ++ (wsX15_printByRuns_r3 ++ wsX15_printByRuns_r4))) ++ wsX150 ++ wsX140 ++ wsJx4a65c0 ++ wsX130)
theorem q0_ggL_law_X15_printByRuns : GoodIn wsL_law ((q_ggL_law_X15_printByRuns.drop 0).take 24) := gi_two _ [(31, 3), (20, 18), (10, 0), (20, 19), (20, 20), (20, 21), (7, 13), (15, 2), (15, 3), (15, 4), (15, 5), (0, 5), (15, 6), (10, 7), (10, 8), (10, 9), (7, 12), (10, 10), (10, 11), (10, 4), (10, 5), (10, 6), (15, 7), (15, 8)] rfl (by decide +kernel)
theorem q1_ggL_law_X15_printByRuns : GoodIn wsL_law ((q_ggL_law_X15_printByRuns.drop 24).take 24) := gi_two _ [(15, 9), (15, 10), (15, 11), (15, 12), (15, 13), (15, 14), (15, 15), (15, 16), (15, 17), (15, 18), (15, 19), (15, 20), (15, 21), (15, 22), (8, 1), (20, 22), (20, 23), (21, 0), (21, 1), (0, 13), (0, 14), (2, 23), (21, 2), (21, 3)] rfl (by decide +kernel)
theorem q2_ggL_law_X15_printByRuns : GoodIn wsL_law ((q_ggL_law_X15_printByRuns.drop 48).take 24) := gi_two _ [(21, 4), (21, 5), (21, 6), (21, 7), (21, 8), (21, 9), (21, 10), (21, 11), (21, 12), (21, 13), (21, 14), (21, 15), (21, 16), (21, 17), (21, 18), (12, 23), (11, 21), (13, 0), (21, 19), (21, 20), (11, 20), (11, 22), (21, 21), (21, 22)] rfl (by decide +kernel)
theorem q3_ggL_law_X15_printByRuns : GoodIn wsL_law ((q_ggL_law_X15_printByRuns.drop 72).take 24) := gi_two _ [(21, 23), (22, 0), (22, 1), (22, 2), (22, 3), (22, 4), (22, 5), (16, 4), (16, 5), (10, 3), (16, 6), (10, 21), (28, 18), (28, 19), (28, 20), (28, 21), (28, 22), (28, 23), (78, 0), (78, 1), (78, 2), (78, 3), (78, 4), (78, 5)] rfl (by decide +kernel)
theorem q4_ggL_law_X15_printByRuns : GoodIn wsL_law ((q_ggL_law_X15_printByRuns.drop 96).take 24) := gi_two _ [(78, 6), (78, 7), (78, 8), (78, 9), (78, 10), (78, 11), (78, 12), (78, 13), (78, 14), (78, 15), (78, 16), (78, 17), (78, 18), (78, 19), (78, 20), (92, 0), (92, 1), (92, 2), (92, 3), (92, 4), (92, 5), (92, 6), (92, 7), (92, 8)] rfl (by decide +kernel)
theorem q5_ggL_law_X15_printByRuns : GoodIn wsL_law ((q_ggL_law_X15_printByRuns.drop 120).take 24) := gi_two _ [(90, 0), (90, 1), (90, 2), (91, 0), (91, 1), (91, 2), (91, 3), (91, 4), (91, 5), (91, 6), (91, 7), (91, 8), (91, 9), (91, 10), (91, 11)] rfl (by decide +kernel)
theorem qe_ggL_law_X15_printByRuns : GoodIn wsL_law (q_ggL_law_X15_printByRuns.drop 144) := gi_two _ [] rfl (by decide +kernel)
theorem qa_ggL_law_X15_printByRuns : GoodIn wsL_law (q_ggL_law_X15_printByRuns) := (gi_step 0 24 q0_ggL_law_X15_printByRuns (gi_step 24 24 q1_ggL_law_X15_printByRuns (gi_step 48 24 q2_ggL_law_X15_printByRuns (gi_step 72 24 q3_ggL_law_X15_printByRuns (gi_step 96 24 q4_ggL_law_X15_printByRuns (gi_step 120 24 q5_ggL_law_X15_printByRuns qe_ggL_law_X15_printByRuns))))))
set_option maxRecDepth 20000 in
theorem ggL_law_X15_printByRuns : GoodIn wsL_law wsX15_printByRuns := goodIn_ca (qa_ggL_law_X15_printByRuns) (goodIn_sub (fun _ h => List.mem_append_left _ (List.mem_append_left _ (List.mem_append_left _ (List.mem_append_left _ (List.mem_append_left _ (List.mem_append_left _ (List.mem_append_left _ (List.mem_append_right _ h)))))))) (by decide +kernel))
set_option maxRecDepth 20000 in
theorem gL_law_X15_printByRuns : GoodIn wsL_law (wsV RL 187 RX15 yX15_printByRuns wsX15_printByRuns) := goodIn_app (goodIn_of _ (by decide +kernel)) ggL_law_X15_printByRuns
theorem dL_law_926 : decode cL_law 926 = .ok (.invokevirtual 187, 3) := by decide +kernel
theorem dL_law_929 : decode cL_law 929 = .ok (.lstore 7, 2) := by decide +kernel
theorem dL_law_931 : decode cL_law 931 = .ok (.aload_n 2, 1) := by decide +kernel
theorem dL_law_932 : decode cL_law 932 = .ok (.invokevirtual 152, 3) := by decide +kernel
theorem dL_law_935 : decode cL_law 935 = .ok (.iload 6, 2) := by decide +kernel
theorem dL_law_937 : decode cL_law 937 = .ok (.if_icmp .eq 5, 3) := by decide +kernel
theorem dL_law_942 : decode cL_law 942 = .ok (.iload 6, 2) := by decide +kernel
theorem dL_law_944 : decode cL_law 944 = .ok (.ifCond .ne 14, 3) := by decide +kernel
theorem dL_law_958 : decode cL_law 958 = .ok (.goto 1820, 3) := by decide +kernel
theorem dL_law_961 : decode cL_law 961 = .ok (.aload_n 1, 1) := by decide +kernel
theorem dL_law_962 : decode cL_law 962 = .ok (.aload_n 0, 1) := by decide +kernel
theorem dL_law_963 : decode cL_law 963 = .ok (.iload 5, 2) := by decide +kernel
theorem dL_law_965 : decode cL_law 965 = .ok (.iconst 1, 1) := by decide +kernel
theorem dL_law_966 : decode cL_law 966 = .ok (.iadd, 1) := by decide +kernel
theorem dL_law_967 : decode cL_law 967 = .ok (.iaload, 1) := by decide +kernel
theorem dL_law_968 : decode cL_law 968 = .ok (.aload_n 3, 1) := by decide +kernel
set_option maxRecDepth 20000 in
theorem ggL_law_L_runsOf : GoodIn wsL_law wsL_runsOf := goodIn_ca (goodIn_ca (goodIn_ca (gi_two _ [(31, 6), (13, 12), (16, 20), (31, 7), (31, 8), (31, 9), (0, 2), (31, 10), (19, 0), (18, 23), (13, 18), (13, 19), (13, 20), (13, 21), (13, 22), (13, 23), (0, 17), (0, 16), (17, 2), (17, 3), (17, 4), (17, 5), (17, 6), (31, 11), (31, 12), (31, 13), (1, 19), (31, 14), (2, 20), (2, 21), (19, 20), (19, 21), (19, 22), (19, 23), (3, 0), (89, 0), (89, 1), (89, 2), (89, 3), (89, 4), (89, 5), (89, 6), (89, 7), (89, 8), (89, 9), (89, 10), (77, 0), (77, 1), (77, 2), (77, 3), (77, 4), (77, 5), (77, 6), (84, 0), (84, 1), (84, 2), (84, 3), (84, 4), (84, 5), (84, 6)] rfl (by decide +kernel)) (goodIn_sub (fun _ h => List.mem_append_left _ (List.mem_append_left _ (List.mem_append_left _ (List.mem_append_left _ (List.mem_append_left _ (List.mem_append_left _ (List.mem_append_left _ (List.mem_append_right _ h)))))))) (by decide +kernel))) (goodIn_sub (fun _ h => List.mem_append_left _ (List.mem_append_left _ (List.mem_append_left _ (List.mem_append_left _ (List.mem_append_right _ h))))) (by decide +kernel))) (goodIn_sub (fun _ h => List.mem_append_left _ (List.mem_append_left _ (List.mem_append_left _ (List.mem_append_right _ h)))) (by decide +kernel))
set_option maxRecDepth 20000 in
theorem gL_law_L_runsOf : GoodIn wsL_law (va_wsS RL 188 yL_runsOf wsL_runsOf) := goodIn_app (goodIn_of _ (by decide +kernel)) ggL_law_L_runsOf
theorem dL_law_969 : decode cL_law 969 = .ok (.invokestatic 188, 3) := by decide +kernel
theorem dL_law_972 : decode cL_law 972 = .ok (.istore 6, 2) := by decide +kernel
theorem dL_law_974 : decode cL_law 974 = .ok (.aload_n 2, 1) := by decide +kernel
theorem dL_law_975 : decode cL_law 975 = .ok (.aload_n 0, 1) := by decide +kernel
theorem dL_law_976 : decode cL_law 976 = .ok (.iload 5, 2) := by decide +kernel
theorem dL_law_978 : decode cL_law 978 = .ok (.iconst 1, 1) := by decide +kernel
theorem dL_law_979 : decode cL_law 979 = .ok (.iadd, 1) := by decide +kernel
theorem dL_law_980 : decode cL_law 980 = .ok (.iaload, 1) := by decide +kernel
set_option maxRecDepth 20000 in
theorem ggL_law_X15_runsOf : GoodIn wsL_law wsX15_runsOf := goodIn_ca (gi_two _ [(31, 18), (22, 21), (22, 22), (22, 23), (0, 5), (23, 0), (7, 13), (15, 2), (10, 0), (15, 3), (15, 4), (15, 5), (15, 6), (10, 7), (10, 8), (10, 9), (7, 12), (10, 10), (10, 11), (10, 4), (10, 5), (10, 6), (15, 7), (15, 8), (15, 9), (15, 10), (15, 11), (15, 12), (15, 13), (15, 14), (15, 15), (15, 16), (15, 17), (15, 18), (15, 19), (15, 20), (15, 21), (15, 22), (8, 1), (31, 19), (31, 20), (31, 21), (20, 21), (31, 22), (21, 17), (21, 19), (21, 2), (78, 0), (78, 1), (78, 2), (78, 3), (78, 4), (78, 5), (78, 6), (78, 7), (78, 8), (78, 9), (78, 10), (78, 11), (78, 12), (78, 13), (78, 14), (78, 15), (78, 16), (78, 17), (78, 18), (78, 19), (78, 20), (91, 0), (91, 1), (91, 2), (91, 3), (91, 4), (91, 5), (91, 6), (91, 7), (91, 8), (91, 9), (91, 10), (91, 11), (90, 0), (90, 1), (90, 2), (92, 0), (92, 1), (92, 2), (92, 3), (92, 4), (92, 5), (92, 6), (92, 7), (92, 8)] rfl (by decide +kernel)) (goodIn_sub (fun _ h => List.mem_append_left _ (List.mem_append_left _ (List.mem_append_left _ (List.mem_append_left _ (List.mem_append_left _ (List.mem_append_left _ (List.mem_append_left _ (List.mem_append_right _ h)))))))) (by decide +kernel))
set_option maxRecDepth 20000 in
theorem gL_law_X15_runsOf : GoodIn wsL_law (wsV RL 190 RX15 yX15_runsOf wsX15_runsOf) := goodIn_app (goodIn_of _ (by decide +kernel)) ggL_law_X15_runsOf
theorem dL_law_981 : decode cL_law 981 = .ok (.invokevirtual 190, 3) := by decide +kernel
theorem dL_law_984 : decode cL_law 984 = .ok (.istore 7, 2) := by decide +kernel
theorem dL_law_986 : decode cL_law 986 = .ok (.aload_n 2, 1) := by decide +kernel
theorem dL_law_987 : decode cL_law 987 = .ok (.invokevirtual 152, 3) := by decide +kernel
theorem dL_law_990 : decode cL_law 990 = .ok (.iload 6, 2) := by decide +kernel
theorem dL_law_992 : decode cL_law 992 = .ok (.if_icmp .eq 5, 3) := by decide +kernel
theorem dL_law_997 : decode cL_law 997 = .ok (.iload 6, 2) := by decide +kernel
theorem dL_law_999 : decode cL_law 999 = .ok (.ifCond .ne 15, 3) := by decide +kernel
theorem dL_law_1014 : decode cL_law 1014 = .ok (.goto 1764, 3) := by decide +kernel
theorem dL_law_1017 : decode cL_law 1017 = .ok (.aload_n 1, 1) := by decide +kernel
theorem dL_law_1018 : decode cL_law 1018 = .ok (.aload_n 0, 1) := by decide +kernel
theorem dL_law_1019 : decode cL_law 1019 = .ok (.iload 5, 2) := by decide +kernel
theorem dL_law_1021 : decode cL_law 1021 = .ok (.iconst 1, 1) := by decide +kernel
theorem dL_law_1022 : decode cL_law 1022 = .ok (.iadd, 1) := by decide +kernel
theorem dL_law_1023 : decode cL_law 1023 = .ok (.iaload, 1) := by decide +kernel
theorem dL_law_1024 : decode cL_law 1024 = .ok (.aload_n 0, 1) := by decide +kernel
theorem dL_law_1025 : decode cL_law 1025 = .ok (.iload 5, 2) := by decide +kernel
theorem dL_law_1027 : decode cL_law 1027 = .ok (.iconst 2, 1) := by decide +kernel
theorem dL_law_1028 : decode cL_law 1028 = .ok (.iadd, 1) := by decide +kernel
theorem dL_law_1029 : decode cL_law 1029 = .ok (.iaload, 1) := by decide +kernel
theorem dL_law_1030 : decode cL_law 1030 = .ok (.i2c, 1) := by decide +kernel
theorem dL_law_1031 : decode cL_law 1031 = .ok (.aload_n 0, 1) := by decide +kernel
theorem dL_law_1032 : decode cL_law 1032 = .ok (.iload 5, 2) := by decide +kernel
theorem dL_law_1034 : decode cL_law 1034 = .ok (.iconst 3, 1) := by decide +kernel
theorem dL_law_1035 : decode cL_law 1035 = .ok (.iadd, 1) := by decide +kernel
theorem dL_law_1036 : decode cL_law 1036 = .ok (.iaload, 1) := by decide +kernel
theorem dL_law_1037 : decode cL_law 1037 = .ok (.aload_n 3, 1) := by decide +kernel
def q_ggL_law_L_decide : List Cond := .codeWith yL_decide cL_decide 6 (some .int) [(0, 19, 22, 21), (0, 19, 26, 13), (0, 19, 30, 63)] :: ((wsL_decide_r1 ++ (wsL_decide_r2 ++ (wsL_decide_r3 ++ (wsL_decide_r4 ++ (wsL_decide_r5 ++ (wsL_decide_r6 ++ (wsL_decide_r7 ++ (wsL_decide_r8 ++ (wsL_decide_r9 ++ (wsL_decide_r10 ++ (wsL_decide_r11 ++ wsL_decide_r12))))))))))) ++ wsX50 ++ wsX110 ++ wsX20 ++ wsX70 ++ wsX60 ++ wsX40 ++ wsX100)
theorem q0_ggL_law_L_decide : GoodIn wsL_law ((q_ggL_law_L_decide.drop 0).take 24) := gi_two _ [(32, 1), (13, 12), (8, 16), (32, 2), (32, 3), (32, 4), (32, 5), (0, 2), (32, 6), (32, 7), (32, 8), (17, 22), (0, 21), (13, 18), (13, 19), (13, 20), (13, 21), (13, 22), (13, 23), (0, 17), (0, 16), (32, 9), (32, 10), (0, 20)] rfl (by decide +kernel)
theorem q1_ggL_law_L_decide : GoodIn wsL_law ((q_ggL_law_L_decide.drop 24).take 24) := gi_two _ [(32, 11), (9, 3), (9, 4), (9, 5), (8, 22), (8, 23), (9, 0), (9, 1), (9, 2), (32, 12), (32, 13), (32, 14), (32, 15), (1, 20), (32, 16), (2, 0), (32, 17), (32, 18), (2, 4), (2, 13), (32, 19), (32, 20), (19, 3), (19, 4)] rfl (by decide +kernel)
theorem q2_ggL_law_L_decide : GoodIn wsL_law ((q_ggL_law_L_decide.drop 48).take 24) := gi_two _ [(1, 19), (19, 5), (19, 6), (19, 7), (19, 8), (19, 9), (3, 0), (2, 17), (2, 18), (2, 19), (2, 20), (2, 21), (2, 22), (19, 10), (19, 11), (12, 11), (19, 12), (19, 13), (19, 14), (19, 15), (19, 16), (19, 17), (19, 18), (12, 23)] rfl (by decide +kernel)
theorem q3_ggL_law_L_decide : GoodIn wsL_law ((q_ggL_law_L_decide.drop 72).take 24) := gi_two _ [(11, 21), (13, 0), (19, 19), (11, 20), (11, 22), (19, 20), (19, 21), (19, 22), (19, 23), (20, 0), (14, 13), (14, 14), (5, 0), (14, 15), (6, 0), (6, 1), (5, 21), (20, 1), (20, 2), (20, 3), (20, 4), (20, 5), (20, 6), (20, 7)] rfl (by decide +kernel)
theorem q4_ggL_law_L_decide : GoodIn wsL_law ((q_ggL_law_L_decide.drop 96).take 24) := gi_two _ [(20, 8), (20, 9), (20, 10), (20, 11), (20, 12), (20, 13), (32, 21), (22, 14), (22, 15), (22, 16), (32, 22), (23, 13), (23, 14), (23, 15), (32, 23), (33, 0), (33, 1), (33, 2), (33, 3), (33, 4), (33, 5), (33, 6), (33, 7), (1, 23)] rfl (by decide +kernel)
theorem q5_ggL_law_L_decide : GoodIn wsL_law ((q_ggL_law_L_decide.drop 120).take 24) := gi_two _ [(33, 8), (3, 9), (3, 4), (3, 5), (33, 9), (33, 10), (33, 11), (33, 12), (3, 7), (3, 10), (3, 11), (3, 12), (33, 13), (33, 14), (33, 15), (33, 16), (14, 16), (14, 17), (33, 17), (33, 18), (33, 19), (33, 20), (33, 21), (33, 22)] rfl (by decide +kernel)
theorem q6_ggL_law_L_decide : GoodIn wsL_law ((q_ggL_law_L_decide.drop 144).take 24) := gi_two _ [(3, 8), (33, 23), (34, 0), (34, 1), (34, 2), (34, 3), (13, 2), (13, 3), (13, 4), (30, 8), (30, 9), (34, 4), (34, 5), (34, 6), (34, 7), (34, 8), (34, 9), (34, 10), (34, 11), (34, 12), (34, 13), (34, 14), (34, 15), (34, 16)] rfl (by decide +kernel)
theorem q7_ggL_law_L_decide : GoodIn wsL_law ((q_ggL_law_L_decide.drop 168).take 24) := gi_two _ [(34, 17), (34, 18), (34, 19), (34, 20), (3, 13), (34, 21), (34, 22), (34, 23), (35, 0), (35, 1), (35, 2), (35, 3), (35, 4), (35, 5), (35, 6), (35, 7), (35, 8), (2, 3), (35, 9), (3, 17), (35, 10), (35, 11), (35, 12), (35, 13)] rfl (by decide +kernel)
theorem q8_ggL_law_L_decide : GoodIn wsL_law ((q_ggL_law_L_decide.drop 192).take 24) := gi_two _ [(3, 19), (3, 18), (3, 21), (3, 20), (35, 14), (35, 15), (35, 16), (35, 17), (35, 18), (35, 19), (35, 20), (35, 21), (35, 22), (35, 23), (36, 0), (36, 1), (36, 2), (36, 3), (36, 4), (36, 5), (36, 6), (36, 7), (36, 8), (36, 9)] rfl (by decide +kernel)
theorem q9_ggL_law_L_decide : GoodIn wsL_law ((q_ggL_law_L_decide.drop 216).take 24) := gi_two _ [(36, 10), (36, 11), (36, 12), (36, 13), (36, 14), (36, 15), (36, 16), (36, 17), (36, 18), (36, 19), (36, 20), (36, 21), (36, 22), (2, 12), (36, 23), (4, 13), (4, 12), (4, 14), (4, 15), (4, 16), (4, 18), (4, 17), (37, 0), (37, 1)] rfl (by decide +kernel)
theorem q10_ggL_law_L_decide : GoodIn wsL_law ((q_ggL_law_L_decide.drop 240).take 24) := gi_two _ [(37, 2), (37, 3), (37, 4), (37, 5), (37, 6), (37, 7), (37, 8), (37, 9), (37, 10), (37, 11), (37, 12), (37, 13), (37, 14), (37, 15), (37, 16), (37, 17), (37, 18), (37, 19), (37, 20), (37, 21), (37, 22), (37, 23), (38, 0), (38, 1)] rfl (by decide +kernel)
theorem q11_ggL_law_L_decide : GoodIn wsL_law ((q_ggL_law_L_decide.drop 264).take 24) := gi_two _ [(38, 2), (38, 3), (38, 4), (38, 5), (89, 0), (89, 1), (89, 2), (89, 3), (89, 4), (89, 5), (89, 6), (89, 7), (89, 8), (89, 9), (89, 10), (77, 0), (77, 1), (77, 2), (77, 3), (77, 4), (77, 5), (77, 6), (79, 0), (79, 1)] rfl (by decide +kernel)
theorem q12_ggL_law_L_decide : GoodIn wsL_law ((q_ggL_law_L_decide.drop 288).take 24) := gi_two _ [(79, 2), (79, 3), (79, 4), (79, 5), (84, 0), (84, 1), (84, 2), (84, 3), (84, 4), (84, 5), (84, 6), (85, 0), (85, 1), (85, 2), (85, 3), (85, 4), (85, 5), (85, 6), (85, 7), (85, 8), (88, 0), (88, 1), (88, 2), (88, 3)] rfl (by decide +kernel)
theorem q13_ggL_law_L_decide : GoodIn wsL_law ((q_ggL_law_L_decide.drop 312).take 24) := gi_two _ [(88, 4), (88, 5), (88, 6), (86, 0), (86, 1), (86, 2), (86, 3), (86, 4)] rfl (by decide +kernel)
theorem qe_ggL_law_L_decide : GoodIn wsL_law (q_ggL_law_L_decide.drop 336) := gi_two _ [] rfl (by decide +kernel)
theorem qa_ggL_law_L_decide : GoodIn wsL_law (q_ggL_law_L_decide) := (gi_step 0 24 q0_ggL_law_L_decide (gi_step 24 24 q1_ggL_law_L_decide (gi_step 48 24 q2_ggL_law_L_decide (gi_step 72 24 q3_ggL_law_L_decide (gi_step 96 24 q4_ggL_law_L_decide (gi_step 120 24 q5_ggL_law_L_decide (gi_step 144 24 q6_ggL_law_L_decide (gi_step 168 24 q7_ggL_law_L_decide (gi_step 192 24 q8_ggL_law_L_decide (gi_step 216 24 q9_ggL_law_L_decide (gi_step 240 24 q10_ggL_law_L_decide (gi_step 264 24 q11_ggL_law_L_decide (gi_step 288 24 q12_ggL_law_L_decide (gi_step 312 24 q13_ggL_law_L_decide qe_ggL_law_L_decide))))))))))))))
set_option maxRecDepth 20000 in
theorem ggL_law_L_decide : GoodIn wsL_law wsL_decide := goodIn_ca (goodIn_ca (goodIn_ca (goodIn_ca (qa_ggL_law_L_decide) (goodIn_sub (fun _ h => List.mem_append_left _ (List.mem_append_left _ (List.mem_append_left _ (List.mem_append_left _ (List.mem_append_left _ (List.mem_append_left _ (List.mem_append_left _ (List.mem_append_right _ h)))))))) (by decide +kernel))) (goodIn_sub (fun _ h => List.mem_append_left _ (List.mem_append_left _ (List.mem_append_right _ h))) (by decide +kernel))) (goodIn_sub (fun _ h => List.mem_append_left _ (List.mem_append_left _ (List.mem_append_left _ (List.mem_append_left _ (List.mem_append_right _ h))))) (by decide +kernel))) (goodIn_sub (fun _ h => List.mem_append_left _ (List.mem_append_left _ (List.mem_append_left _ (List.mem_append_left _ (List.mem_append_left _ (List.mem_append_left _ (List.mem_append_right _ h))))))) (by decide +kernel))
set_option maxRecDepth 20000 in
theorem gL_law_L_decide : GoodIn wsL_law (va_wsS RL 191 yL_decide wsL_decide) := goodIn_app (goodIn_of _ (by decide +kernel)) ggL_law_L_decide
theorem dL_law_1038 : decode cL_law 1038 = .ok (.invokestatic 191, 3) := by decide +kernel
theorem dL_law_1041 : decode cL_law 1041 = .ok (.istore 6, 2) := by decide +kernel
theorem dL_law_1043 : decode cL_law 1043 = .ok (.aload_n 2, 1) := by decide +kernel
theorem dL_law_1044 : decode cL_law 1044 = .ok (.aload_n 0, 1) := by decide +kernel
theorem dL_law_1045 : decode cL_law 1045 = .ok (.iload 5, 2) := by decide +kernel
theorem dL_law_1047 : decode cL_law 1047 = .ok (.iconst 1, 1) := by decide +kernel
theorem dL_law_1048 : decode cL_law 1048 = .ok (.iadd, 1) := by decide +kernel
theorem dL_law_1049 : decode cL_law 1049 = .ok (.iaload, 1) := by decide +kernel
theorem dL_law_1050 : decode cL_law 1050 = .ok (.aload_n 0, 1) := by decide +kernel
theorem dL_law_1051 : decode cL_law 1051 = .ok (.iload 5, 2) := by decide +kernel
theorem dL_law_1053 : decode cL_law 1053 = .ok (.iconst 2, 1) := by decide +kernel
theorem dL_law_1054 : decode cL_law 1054 = .ok (.iadd, 1) := by decide +kernel
theorem dL_law_1055 : decode cL_law 1055 = .ok (.iaload, 1) := by decide +kernel
theorem dL_law_1056 : decode cL_law 1056 = .ok (.i2c, 1) := by decide +kernel
theorem dL_law_1057 : decode cL_law 1057 = .ok (.aload_n 0, 1) := by decide +kernel
theorem dL_law_1058 : decode cL_law 1058 = .ok (.iload 5, 2) := by decide +kernel
theorem dL_law_1060 : decode cL_law 1060 = .ok (.iconst 3, 1) := by decide +kernel
theorem dL_law_1061 : decode cL_law 1061 = .ok (.iadd, 1) := by decide +kernel
theorem dL_law_1062 : decode cL_law 1062 = .ok (.iaload, 1) := by decide +kernel
def q_ggL_law_X15_decide : List Cond := .code yX15_decide cX15_decide 6 (some .boolean) :: ((wsX15_decide_r1 ++ (wsX15_decide_r2 ++ (wsX15_decide_r3 ++ (wsX15_decide_r4 ++ (wsX15_decide_r5 ++ (wsX15_decide_r6 ++ (wsX15_decide_r7 ++ (wsX15_decide_r8 ++ (wsX15_decide_r9 ++ (wsX15_decide_r10 ++ (wsX15_decide_r11 ++ (wsX15_decide_r12 ++ wsX15_decide_r13)))))))))))) ++ wsX150 ++ wsX130 ++ wsJx4a65c0 ++ wsJ00 ++ wsX140 ++ wsX120)
theorem q0_ggL_law_X15_decide : GoodIn wsL_law ((q_ggL_law_X15_decide.drop 0).take 24) := gi_two _ [(38, 9), (7, 13), (15, 2), (10, 0), (38, 10), (38, 11), (15, 3), (15, 4), (15, 5), (0, 5), (15, 6), (10, 7), (10, 8), (10, 9), (7, 12), (10, 10), (10, 11), (10, 4), (10, 5), (10, 6), (15, 7), (15, 8), (15, 9), (15, 10)] rfl (by decide +kernel)
theorem q1_ggL_law_X15_decide : GoodIn wsL_law ((q_ggL_law_X15_decide.drop 24).take 24) := gi_two _ [(15, 11), (15, 12), (15, 13), (15, 14), (15, 15), (15, 16), (15, 17), (15, 18), (15, 19), (15, 20), (15, 21), (15, 22), (8, 1), (23, 20), (23, 21), (23, 22), (23, 23), (24, 0), (24, 1), (24, 2), (24, 3), (24, 4), (24, 5), (24, 6)] rfl (by decide +kernel)
theorem q2_ggL_law_X15_decide : GoodIn wsL_law ((q_ggL_law_X15_decide.drop 48).take 24) := gi_two _ [(24, 7), (24, 8), (24, 9), (24, 10), (24, 11), (24, 12), (24, 13), (24, 14), (24, 15), (24, 16), (24, 17), (24, 18), (24, 19), (24, 20), (24, 21), (24, 22), (24, 23), (25, 0), (11, 20), (11, 21), (11, 22), (25, 1), (12, 23), (13, 0)] rfl (by decide +kernel)
theorem q3_ggL_law_X15_decide : GoodIn wsL_law ((q_ggL_law_X15_decide.drop 72).take 24) := gi_two _ [(25, 2), (25, 3), (25, 4), (25, 5), (25, 6), (25, 7), (25, 8), (25, 9), (25, 10), (25, 11), (25, 12), (25, 13), (25, 14), (25, 15), (25, 16), (25, 17), (25, 18), (25, 19), (25, 20), (25, 21), (25, 22), (25, 23), (26, 0), (26, 1)] rfl (by decide +kernel)
theorem q4_ggL_law_X15_decide : GoodIn wsL_law ((q_ggL_law_X15_decide.drop 96).take 24) := gi_two _ [(26, 2), (26, 3), (26, 4), (26, 5), (26, 6), (26, 7), (26, 8), (26, 9), (26, 10), (26, 11), (26, 12), (26, 13), (26, 14), (26, 15), (26, 16), (26, 17), (26, 18), (26, 19), (26, 20), (26, 21), (26, 22), (26, 23), (27, 0), (27, 1)] rfl (by decide +kernel)
theorem q5_ggL_law_X15_decide : GoodIn wsL_law ((q_ggL_law_X15_decide.drop 120).take 24) := gi_two _ [(27, 2), (27, 3), (27, 4), (27, 5), (27, 6), (38, 12), (38, 13), (38, 14), (38, 15), (38, 16), (38, 17), (38, 18), (38, 19), (20, 19), (20, 20), (20, 21), (20, 22), (20, 23), (21, 0), (21, 1), (0, 13), (0, 14), (2, 23), (21, 2)] rfl (by decide +kernel)
theorem q6_ggL_law_X15_decide : GoodIn wsL_law ((q_ggL_law_X15_decide.drop 144).take 24) := gi_two _ [(21, 3), (21, 4), (21, 5), (21, 6), (21, 7), (21, 8), (21, 9), (21, 10), (21, 11), (21, 12), (21, 13), (21, 14), (21, 15), (21, 16), (21, 17), (21, 18), (21, 19), (21, 20), (21, 21), (21, 22), (21, 23), (22, 0), (22, 1), (22, 2)] rfl (by decide +kernel)
theorem q7_ggL_law_X15_decide : GoodIn wsL_law ((q_ggL_law_X15_decide.drop 168).take 24) := gi_two _ [(22, 3), (22, 4), (22, 5), (16, 4), (16, 5), (10, 3), (16, 6), (10, 21), (27, 7), (27, 8), (27, 9), (27, 10), (38, 20), (38, 21), (38, 22), (38, 23), (39, 0), (39, 1), (39, 2), (39, 3), (39, 4), (39, 5), (39, 6), (39, 7)] rfl (by decide +kernel)
theorem q8_ggL_law_X15_decide : GoodIn wsL_law ((q_ggL_law_X15_decide.drop 192).take 24) := gi_two _ [(39, 8), (39, 9), (39, 10), (39, 11), (39, 12), (39, 13), (39, 14), (39, 15), (39, 16), (39, 17), (39, 18), (39, 19), (39, 20), (39, 21), (39, 22), (39, 23), (40, 0), (40, 1), (40, 2), (40, 3), (40, 4), (40, 5), (40, 6), (40, 7)] rfl (by decide +kernel)
theorem q9_ggL_law_X15_decide : GoodIn wsL_law ((q_ggL_law_X15_decide.drop 216).take 24) := gi_two _ [(40, 8), (18, 10), (18, 11), (18, 12), (18, 13), (18, 14), (10, 2), (10, 19), (10, 20), (10, 22), (10, 23), (11, 0), (16, 11), (18, 15), (10, 13), (10, 14), (10, 15), (10, 16), (10, 17), (10, 18), (40, 9), (40, 10), (40, 11), (40, 12)] rfl (by decide +kernel)
theorem q10_ggL_law_X15_decide : GoodIn wsL_law ((q_ggL_law_X15_decide.drop 240).take 24) := gi_two _ [(7, 9), (40, 13), (40, 14), (40, 15), (40, 16), (40, 17), (40, 18), (40, 19), (40, 20), (40, 21), (40, 22), (40, 23), (41, 0), (41, 1), (41, 2), (41, 3), (41, 4), (41, 5), (41, 6), (41, 7), (41, 8), (41, 9), (41, 10), (41, 11)] rfl (by decide +kernel)
theorem q11_ggL_law_X15_decide : GoodIn wsL_law ((q_ggL_law_X15_decide.drop 264).take 24) := gi_two _ [(41, 12), (41, 13), (41, 14), (41, 15), (41, 16), (41, 17), (41, 18), (41, 19), (41, 20), (41, 21), (41, 22), (41, 23), (42, 0), (42, 1), (42, 2), (42, 3), (42, 4), (42, 5), (42, 6), (42, 7), (42, 8), (42, 9), (42, 10), (42, 11)] rfl (by decide +kernel)
theorem q12_ggL_law_X15_decide : GoodIn wsL_law ((q_ggL_law_X15_decide.drop 288).take 24) := gi_two _ [(42, 12), (42, 13), (42, 14), (42, 15), (42, 16), (42, 17), (42, 18), (78, 0), (78, 1), (78, 2), (78, 3), (78, 4), (78, 5), (78, 6), (78, 7), (78, 8), (78, 9), (78, 10), (78, 11), (78, 12), (78, 13), (78, 14), (78, 15), (78, 16)] rfl (by decide +kernel)
theorem q13_ggL_law_X15_decide : GoodIn wsL_law ((q_ggL_law_X15_decide.drop 312).take 24) := gi_two _ [(78, 17), (78, 18), (78, 19), (78, 20), (91, 0), (91, 1), (91, 2), (91, 3), (91, 4), (91, 5), (91, 6), (91, 7), (91, 8), (91, 9), (91, 10), (91, 11), (90, 0), (90, 1), (90, 2), (93, 0), (93, 1), (93, 2), (93, 3), (92, 0)] rfl (by decide +kernel)
theorem q14_ggL_law_X15_decide : GoodIn wsL_law ((q_ggL_law_X15_decide.drop 336).take 24) := gi_two _ [(92, 1), (92, 2), (92, 3), (92, 4), (92, 5), (92, 6), (92, 7), (92, 8), (94, 0), (94, 1), (94, 2), (94, 3), (94, 4), (94, 5), (94, 6), (94, 7), (94, 8), (94, 9), (94, 10)] rfl (by decide +kernel)
theorem qe_ggL_law_X15_decide : GoodIn wsL_law (q_ggL_law_X15_decide.drop 360) := gi_two _ [] rfl (by decide +kernel)
theorem qa_ggL_law_X15_decide : GoodIn wsL_law (q_ggL_law_X15_decide) := (gi_step 0 24 q0_ggL_law_X15_decide (gi_step 24 24 q1_ggL_law_X15_decide (gi_step 48 24 q2_ggL_law_X15_decide (gi_step 72 24 q3_ggL_law_X15_decide (gi_step 96 24 q4_ggL_law_X15_decide (gi_step 120 24 q5_ggL_law_X15_decide (gi_step 144 24 q6_ggL_law_X15_decide (gi_step 168 24 q7_ggL_law_X15_decide (gi_step 192 24 q8_ggL_law_X15_decide (gi_step 216 24 q9_ggL_law_X15_decide (gi_step 240 24 q10_ggL_law_X15_decide (gi_step 264 24 q11_ggL_law_X15_decide (gi_step 288 24 q12_ggL_law_X15_decide (gi_step 312 24 q13_ggL_law_X15_decide (gi_step 336 24 q14_ggL_law_X15_decide qe_ggL_law_X15_decide)))))))))))))))
set_option maxRecDepth 20000 in
theorem ggL_law_X15_decide : GoodIn wsL_law wsX15_decide := goodIn_ca (goodIn_ca (qa_ggL_law_X15_decide) (goodIn_sub (fun _ h => List.mem_append_left _ (List.mem_append_left _ (List.mem_append_left _ (List.mem_append_left _ (List.mem_append_left _ (List.mem_append_left _ (List.mem_append_left _ (List.mem_append_right _ h)))))))) (by decide +kernel))) (goodIn_sub (fun _ h => List.mem_append_left _ (List.mem_append_right _ h)) (by decide +kernel))
set_option maxRecDepth 20000 in
theorem gL_law_X15_decide : GoodIn wsL_law (wsV RL 194 RX15 yX15_decide wsX15_decide) := goodIn_app (goodIn_of _ (by decide +kernel)) ggL_law_X15_decide
theorem dL_law_1063 : decode cL_law 1063 = .ok (.invokevirtual 194, 3) := by decide +kernel
theorem dL_law_1066 : decode cL_law 1066 = .ok (.istore 7, 2) := by decide +kernel
theorem dL_law_1068 : decode cL_law 1068 = .ok (.aload_n 2, 1) := by decide +kernel
theorem dL_law_1069 : decode cL_law 1069 = .ok (.invokevirtual 152, 3) := by decide +kernel
theorem dL_law_1072 : decode cL_law 1072 = .ok (.iload 6, 2) := by decide +kernel
theorem dL_law_1074 : decode cL_law 1074 = .ok (.if_icmp .eq 5, 3) := by decide +kernel
theorem dL_law_1079 : decode cL_law 1079 = .ok (.iload 6, 2) := by decide +kernel
theorem dL_law_1081 : decode cL_law 1081 = .ok (.ifCond .ne 22, 3) := by decide +kernel
theorem dL_law_1103 : decode cL_law 1103 = .ok (.goto 1675, 3) := by decide +kernel
theorem dL_law_1106 : decode cL_law 1106 = .ok (.aload_n 1, 1) := by decide +kernel
theorem dL_law_1107 : decode cL_law 1107 = .ok (.aload_n 0, 1) := by decide +kernel
theorem dL_law_1108 : decode cL_law 1108 = .ok (.iload 5, 2) := by decide +kernel
theorem dL_law_1110 : decode cL_law 1110 = .ok (.iconst 1, 1) := by decide +kernel
theorem dL_law_1111 : decode cL_law 1111 = .ok (.iadd, 1) := by decide +kernel
theorem dL_law_1112 : decode cL_law 1112 = .ok (.iaload, 1) := by decide +kernel
theorem dL_law_1113 : decode cL_law 1113 = .ok (.aload_n 3, 1) := by decide +kernel
set_option maxRecDepth 20000 in
theorem ggL_law_L_verdict : GoodIn wsL_law wsL_verdict := goodIn_ca (goodIn_ca (gi_two _ [(42, 21), (13, 12), (42, 22), (42, 23), (43, 0), (0, 2), (43, 1), (13, 18), (13, 19), (13, 20), (13, 21), (13, 22), (13, 23), (0, 17), (0, 16), (43, 2), (43, 3), (43, 4), (5, 0), (43, 5), (5, 18), (77, 0), (77, 1), (77, 2), (77, 3), (77, 4), (77, 5), (77, 6), (89, 0), (89, 1), (89, 2), (89, 3), (89, 4), (89, 5), (89, 6), (89, 7), (89, 8), (89, 9), (89, 10)] rfl (by decide +kernel)) (goodIn_sub (fun _ h => List.mem_append_left _ (List.mem_append_left _ (List.mem_append_left _ (List.mem_append_left _ (List.mem_append_left _ (List.mem_append_left _ (List.mem_append_left _ (List.mem_append_right _ h)))))))) (by decide +kernel))) (goodIn_sub (fun _ h => List.mem_append_left _ (List.mem_append_left _ (List.mem_append_left _ (List.mem_append_left _ (List.mem_append_right _ h))))) (by decide +kernel))
set_option maxRecDepth 20000 in
theorem gL_law_L_verdict : GoodIn wsL_law (va_wsS RL 195 yL_verdict wsL_verdict) := goodIn_app (goodIn_of _ (by decide +kernel)) ggL_law_L_verdict
theorem dL_law_1114 : decode cL_law 1114 = .ok (.invokestatic 195, 3) := by decide +kernel
theorem dL_law_1117 : decode cL_law 1117 = .ok (.istore 6, 2) := by decide +kernel
theorem dL_law_1119 : decode cL_law 1119 = .ok (.aload_n 2, 1) := by decide +kernel
theorem dL_law_1120 : decode cL_law 1120 = .ok (.aload_n 0, 1) := by decide +kernel
theorem dL_law_1121 : decode cL_law 1121 = .ok (.iload 5, 2) := by decide +kernel
theorem dL_law_1123 : decode cL_law 1123 = .ok (.iconst 1, 1) := by decide +kernel
theorem dL_law_1124 : decode cL_law 1124 = .ok (.iadd, 1) := by decide +kernel
theorem dL_law_1125 : decode cL_law 1125 = .ok (.iaload, 1) := by decide +kernel
set_option maxRecDepth 20000 in
theorem ggL_law_X15_verdict : GoodIn wsL_law wsX15_verdict := gi_two _ [(43, 9), (7, 13), (15, 2), (15, 3), (15, 4), (15, 5), (0, 5), (15, 6), (10, 0), (10, 7), (10, 8), (10, 9), (7, 12), (10, 10), (10, 11), (10, 4), (10, 5), (10, 6), (15, 7), (15, 8), (15, 9), (15, 10), (15, 11), (15, 12), (15, 13), (15, 14), (15, 15), (15, 16), (15, 17), (15, 18), (15, 19), (15, 20), (15, 21), (15, 22), (8, 1), (43, 10), (43, 11), (43, 12), (10, 3), (43, 13), (10, 16), (78, 0), (78, 1), (78, 2), (78, 3), (78, 4), (78, 5), (78, 6), (78, 7), (78, 8), (78, 9), (78, 10), (78, 11), (78, 12), (78, 13), (78, 14), (78, 15), (78, 16), (78, 17), (78, 18), (78, 19), (78, 20), (90, 0), (90, 1), (90, 2), (91, 0), (91, 1), (91, 2), (91, 3), (91, 4), (91, 5), (91, 6), (91, 7), (91, 8), (91, 9), (91, 10), (91, 11)] rfl (by decide +kernel)
set_option maxRecDepth 20000 in
theorem gL_law_X15_verdict : GoodIn wsL_law (wsV RL 197 RX15 yX15_verdict wsX15_verdict) := goodIn_app (goodIn_of _ (by decide +kernel)) ggL_law_X15_verdict
theorem dL_law_1126 : decode cL_law 1126 = .ok (.invokevirtual 197, 3) := by decide +kernel
theorem dL_law_1129 : decode cL_law 1129 = .ok (.istore 7, 2) := by decide +kernel
theorem dL_law_1131 : decode cL_law 1131 = .ok (.aload_n 2, 1) := by decide +kernel
theorem dL_law_1132 : decode cL_law 1132 = .ok (.invokevirtual 152, 3) := by decide +kernel
theorem dL_law_1135 : decode cL_law 1135 = .ok (.iload 6, 2) := by decide +kernel
theorem dL_law_1137 : decode cL_law 1137 = .ok (.if_icmp .eq 5, 3) := by decide +kernel
theorem dL_law_1142 : decode cL_law 1142 = .ok (.iload 6, 2) := by decide +kernel
theorem dL_law_1144 : decode cL_law 1144 = .ok (.ifCond .ne 15, 3) := by decide +kernel
theorem dL_law_1159 : decode cL_law 1159 = .ok (.goto 1619, 3) := by decide +kernel
theorem dL_law_1162 : decode cL_law 1162 = .ok (.aload_n 1, 1) := by decide +kernel
theorem dL_law_1163 : decode cL_law 1163 = .ok (.aload_n 0, 1) := by decide +kernel
theorem dL_law_1164 : decode cL_law 1164 = .ok (.iload 5, 2) := by decide +kernel
theorem dL_law_1166 : decode cL_law 1166 = .ok (.iconst 1, 1) := by decide +kernel
theorem dL_law_1167 : decode cL_law 1167 = .ok (.iadd, 1) := by decide +kernel
theorem dL_law_1168 : decode cL_law 1168 = .ok (.iaload, 1) := by decide +kernel
theorem dL_law_1169 : decode cL_law 1169 = .ok (.aload_n 0, 1) := by decide +kernel
theorem dL_law_1170 : decode cL_law 1170 = .ok (.iload 5, 2) := by decide +kernel
theorem dL_law_1172 : decode cL_law 1172 = .ok (.iconst 2, 1) := by decide +kernel
theorem dL_law_1173 : decode cL_law 1173 = .ok (.iadd, 1) := by decide +kernel
theorem dL_law_1174 : decode cL_law 1174 = .ok (.iaload, 1) := by decide +kernel
theorem dL_law_1175 : decode cL_law 1175 = .ok (.i2c, 1) := by decide +kernel
theorem dL_law_1176 : decode cL_law 1176 = .ok (.aload_n 3, 1) := by decide +kernel
set_option maxRecDepth 20000 in
theorem ggL_law_L_certificate : GoodIn wsL_law wsL_certificate := goodIn_ca (goodIn_ca (goodIn_ca (goodIn_ca (gi_two _ [(43, 16), (13, 12), (8, 16), (16, 20), (43, 17), (43, 18), (43, 19), (0, 2), (43, 20), (43, 21), (43, 22), (43, 23), (13, 18), (13, 19), (13, 20), (13, 21), (13, 22), (13, 23), (0, 17), (0, 16), (8, 22), (8, 23), (9, 0), (9, 1), (9, 2), (17, 2), (17, 3), (17, 4), (17, 5), (17, 6), (89, 0), (89, 1), (89, 2), (89, 3), (89, 4), (89, 5), (89, 6), (89, 7), (89, 8), (89, 9), (89, 10), (77, 0), (77, 1), (77, 2), (77, 3), (77, 4), (77, 5), (77, 6)] rfl (by decide +kernel)) (goodIn_sub (fun _ h => List.mem_append_left _ (List.mem_append_left _ (List.mem_append_left _ (List.mem_append_left _ (List.mem_append_left _ (List.mem_append_left _ (List.mem_append_left _ (List.mem_append_right _ h)))))))) (by decide +kernel))) (goodIn_sub (fun _ h => List.mem_append_left _ (List.mem_append_left _ (List.mem_append_left _ (List.mem_append_left _ (List.mem_append_right _ h))))) (by decide +kernel))) (goodIn_sub (fun _ h => List.mem_append_left _ (List.mem_append_left _ (List.mem_append_left _ (List.mem_append_left _ (List.mem_append_left _ (List.mem_append_left _ (List.mem_append_right _ h))))))) (by decide +kernel))) (goodIn_sub (fun _ h => List.mem_append_left _ (List.mem_append_left _ (List.mem_append_left _ (List.mem_append_right _ h)))) (by decide +kernel))
set_option maxRecDepth 20000 in
theorem gL_law_L_certificate : GoodIn wsL_law (va_wsS RL 198 yL_certificate wsL_certificate) := goodIn_app (goodIn_of _ (by decide +kernel)) ggL_law_L_certificate
theorem dL_law_1177 : decode cL_law 1177 = .ok (.invokestatic 198, 3) := by decide +kernel
theorem dL_law_1180 : decode cL_law 1180 = .ok (.istore 6, 2) := by decide +kernel
theorem dL_law_1182 : decode cL_law 1182 = .ok (.aload_n 2, 1) := by decide +kernel
theorem dL_law_1183 : decode cL_law 1183 = .ok (.aload_n 0, 1) := by decide +kernel
theorem dL_law_1184 : decode cL_law 1184 = .ok (.iload 5, 2) := by decide +kernel
theorem dL_law_1186 : decode cL_law 1186 = .ok (.iconst 1, 1) := by decide +kernel
theorem dL_law_1187 : decode cL_law 1187 = .ok (.iadd, 1) := by decide +kernel
theorem dL_law_1188 : decode cL_law 1188 = .ok (.iaload, 1) := by decide +kernel
theorem dL_law_1189 : decode cL_law 1189 = .ok (.aload_n 0, 1) := by decide +kernel
theorem dL_law_1190 : decode cL_law 1190 = .ok (.iload 5, 2) := by decide +kernel
theorem dL_law_1192 : decode cL_law 1192 = .ok (.iconst 2, 1) := by decide +kernel
theorem dL_law_1193 : decode cL_law 1193 = .ok (.iadd, 1) := by decide +kernel
theorem dL_law_1194 : decode cL_law 1194 = .ok (.iaload, 1) := by decide +kernel
theorem dL_law_1195 : decode cL_law 1195 = .ok (.i2c, 1) := by decide +kernel
set_option maxRecDepth 20000 in
theorem ggL_law_X15_certificate : GoodIn wsL_law wsX15_certificate := gi_two _ [(44, 3), (7, 13), (15, 2), (10, 0), (15, 3), (15, 4), (15, 5), (0, 5), (15, 6), (10, 7), (10, 8), (10, 9), (7, 12), (10, 10), (10, 11), (10, 4), (10, 5), (10, 6), (15, 7), (15, 8), (15, 9), (15, 10), (15, 11), (15, 12), (15, 13), (15, 14), (15, 15), (15, 16), (15, 17), (15, 18), (15, 19), (15, 20), (15, 21), (15, 22), (8, 1), (78, 0), (78, 1), (78, 2), (78, 3), (78, 4), (78, 5), (78, 6), (78, 7), (78, 8), (78, 9), (78, 10), (78, 11), (78, 12), (78, 13), (78, 14), (78, 15), (78, 16), (78, 17), (78, 18), (78, 19), (78, 20), (91, 0), (91, 1), (91, 2), (91, 3), (91, 4), (91, 5), (91, 6), (91, 7), (91, 8), (91, 9), (91, 10), (91, 11), (90, 0), (90, 1), (90, 2)] rfl (by decide +kernel)
set_option maxRecDepth 20000 in
theorem gL_law_X15_certificate : GoodIn wsL_law (wsV RL 200 RX15 yX15_certificate wsX15_certificate) := goodIn_app (goodIn_of _ (by decide +kernel)) ggL_law_X15_certificate
theorem dL_law_1196 : decode cL_law 1196 = .ok (.invokevirtual 200, 3) := by decide +kernel
theorem dL_law_1199 : decode cL_law 1199 = .ok (.istore 7, 2) := by decide +kernel
theorem dL_law_1201 : decode cL_law 1201 = .ok (.aload_n 2, 1) := by decide +kernel
theorem dL_law_1202 : decode cL_law 1202 = .ok (.invokevirtual 152, 3) := by decide +kernel
theorem dL_law_1205 : decode cL_law 1205 = .ok (.iload 6, 2) := by decide +kernel
theorem dL_law_1207 : decode cL_law 1207 = .ok (.if_icmp .eq 5, 3) := by decide +kernel
theorem dL_law_1212 : decode cL_law 1212 = .ok (.iload 6, 2) := by decide +kernel
theorem dL_law_1214 : decode cL_law 1214 = .ok (.ifCond .ne 15, 3) := by decide +kernel
theorem dL_law_1229 : decode cL_law 1229 = .ok (.goto 1549, 3) := by decide +kernel
theorem dL_law_1232 : decode cL_law 1232 = .ok (.aload_n 1, 1) := by decide +kernel
theorem dL_law_1233 : decode cL_law 1233 = .ok (.aload_n 0, 1) := by decide +kernel
theorem dL_law_1234 : decode cL_law 1234 = .ok (.iload 5, 2) := by decide +kernel
theorem dL_law_1236 : decode cL_law 1236 = .ok (.iconst 1, 1) := by decide +kernel
theorem dL_law_1237 : decode cL_law 1237 = .ok (.iadd, 1) := by decide +kernel
theorem dL_law_1238 : decode cL_law 1238 = .ok (.iaload, 1) := by decide +kernel
theorem dL_law_1239 : decode cL_law 1239 = .ok (.aload_n 0, 1) := by decide +kernel
theorem dL_law_1240 : decode cL_law 1240 = .ok (.iload 5, 2) := by decide +kernel
theorem dL_law_1242 : decode cL_law 1242 = .ok (.iconst 2, 1) := by decide +kernel
theorem dL_law_1243 : decode cL_law 1243 = .ok (.iadd, 1) := by decide +kernel
theorem dL_law_1244 : decode cL_law 1244 = .ok (.iaload, 1) := by decide +kernel
theorem dL_law_1245 : decode cL_law 1245 = .ok (.i2c, 1) := by decide +kernel
theorem dL_law_1246 : decode cL_law 1246 = .ok (.aload_n 0, 1) := by decide +kernel
theorem dL_law_1247 : decode cL_law 1247 = .ok (.iload 5, 2) := by decide +kernel
theorem dL_law_1249 : decode cL_law 1249 = .ok (.iconst 3, 1) := by decide +kernel
theorem dL_law_1250 : decode cL_law 1250 = .ok (.iadd, 1) := by decide +kernel
theorem dL_law_1251 : decode cL_law 1251 = .ok (.iaload, 1) := by decide +kernel
theorem dL_law_1252 : decode cL_law 1252 = .ok (.aload_n 3, 1) := by decide +kernel
set_option maxRecDepth 20000 in
theorem ggL_law_L_forge : GoodIn wsL_law wsL_forge := goodIn_ca (goodIn_ca (goodIn_ca (goodIn_ca (gi_two _ [(44, 6), (13, 12), (8, 16), (16, 20), (44, 7), (44, 8), (44, 9), (0, 2), (44, 10), (43, 21), (43, 22), (43, 23), (13, 18), (13, 19), (13, 20), (13, 21), (13, 22), (13, 23), (0, 17), (0, 16), (8, 22), (8, 23), (9, 0), (9, 1), (9, 2), (9, 3), (9, 4), (9, 5), (17, 2), (17, 3), (17, 4), (17, 5), (17, 6), (89, 0), (89, 1), (89, 2), (89, 3), (89, 4), (89, 5), (89, 6), (89, 7), (89, 8), (89, 9), (89, 10), (77, 0), (77, 1), (77, 2), (77, 3), (77, 4), (77, 5), (77, 6)] rfl (by decide +kernel)) (goodIn_sub (fun _ h => List.mem_append_left _ (List.mem_append_left _ (List.mem_append_left _ (List.mem_append_left _ (List.mem_append_left _ (List.mem_append_left _ (List.mem_append_left _ (List.mem_append_right _ h)))))))) (by decide +kernel))) (goodIn_sub (fun _ h => List.mem_append_left _ (List.mem_append_left _ (List.mem_append_left _ (List.mem_append_left _ (List.mem_append_right _ h))))) (by decide +kernel))) (goodIn_sub (fun _ h => List.mem_append_left _ (List.mem_append_left _ (List.mem_append_left _ (List.mem_append_left _ (List.mem_append_left _ (List.mem_append_left _ (List.mem_append_right _ h))))))) (by decide +kernel))) (goodIn_sub (fun _ h => List.mem_append_left _ (List.mem_append_left _ (List.mem_append_left _ (List.mem_append_right _ h)))) (by decide +kernel))
set_option maxRecDepth 20000 in
theorem gL_law_L_forge : GoodIn wsL_law (va_wsS RL 201 yL_forge wsL_forge) := goodIn_app (goodIn_of _ (by decide +kernel)) ggL_law_L_forge
theorem dL_law_1253 : decode cL_law 1253 = .ok (.invokestatic 201, 3) := by decide +kernel
theorem dL_law_1256 : decode cL_law 1256 = .ok (.istore 6, 2) := by decide +kernel
theorem dL_law_1258 : decode cL_law 1258 = .ok (.aload_n 2, 1) := by decide +kernel
theorem dL_law_1259 : decode cL_law 1259 = .ok (.aload_n 0, 1) := by decide +kernel
theorem dL_law_1260 : decode cL_law 1260 = .ok (.iload 5, 2) := by decide +kernel
theorem dL_law_1262 : decode cL_law 1262 = .ok (.iconst 1, 1) := by decide +kernel
theorem dL_law_1263 : decode cL_law 1263 = .ok (.iadd, 1) := by decide +kernel
theorem dL_law_1264 : decode cL_law 1264 = .ok (.iaload, 1) := by decide +kernel
theorem dL_law_1265 : decode cL_law 1265 = .ok (.aload_n 0, 1) := by decide +kernel
theorem dL_law_1266 : decode cL_law 1266 = .ok (.iload 5, 2) := by decide +kernel
theorem dL_law_1268 : decode cL_law 1268 = .ok (.iconst 2, 1) := by decide +kernel
theorem dL_law_1269 : decode cL_law 1269 = .ok (.iadd, 1) := by decide +kernel
theorem dL_law_1270 : decode cL_law 1270 = .ok (.iaload, 1) := by decide +kernel
theorem dL_law_1271 : decode cL_law 1271 = .ok (.i2c, 1) := by decide +kernel
theorem dL_law_1272 : decode cL_law 1272 = .ok (.aload_n 0, 1) := by decide +kernel
theorem dL_law_1273 : decode cL_law 1273 = .ok (.iload 5, 2) := by decide +kernel
theorem dL_law_1275 : decode cL_law 1275 = .ok (.iconst 3, 1) := by decide +kernel
theorem dL_law_1276 : decode cL_law 1276 = .ok (.iadd, 1) := by decide +kernel
theorem dL_law_1277 : decode cL_law 1277 = .ok (.iaload, 1) := by decide +kernel
set_option maxRecDepth 20000 in
theorem ggL_law_X15_forge : GoodIn wsL_law wsX15_forge := gi_two _ [(44, 14), (7, 13), (15, 2), (44, 15), (20, 18), (10, 0), (15, 3), (15, 4), (15, 5), (0, 5), (15, 6), (10, 7), (10, 8), (10, 9), (7, 12), (10, 10), (10, 11), (10, 4), (10, 5), (10, 6), (15, 7), (15, 8), (15, 9), (15, 10), (15, 11), (15, 12), (15, 13), (15, 14), (15, 15), (15, 16), (15, 17), (15, 18), (15, 19), (15, 20), (15, 21), (15, 22), (8, 1), (78, 0), (78, 1), (78, 2), (78, 3), (78, 4), (78, 5), (78, 6), (78, 7), (78, 8), (78, 9), (78, 10), (78, 11), (78, 12), (78, 13), (78, 14), (78, 15), (78, 16), (78, 17), (78, 18), (78, 19), (78, 20), (91, 0), (91, 1), (91, 2), (91, 3), (91, 4), (91, 5), (91, 6), (91, 7), (91, 8), (91, 9), (91, 10), (91, 11), (90, 0), (90, 1), (90, 2)] rfl (by decide +kernel)
set_option maxRecDepth 20000 in
theorem gL_law_X15_forge : GoodIn wsL_law (wsV RL 203 RX15 yX15_forge wsX15_forge) := goodIn_app (goodIn_of _ (by decide +kernel)) ggL_law_X15_forge
theorem dL_law_1278 : decode cL_law 1278 = .ok (.invokevirtual 203, 3) := by decide +kernel
theorem dL_law_1281 : decode cL_law 1281 = .ok (.istore 7, 2) := by decide +kernel
theorem dL_law_1283 : decode cL_law 1283 = .ok (.aload_n 2, 1) := by decide +kernel
theorem dL_law_1284 : decode cL_law 1284 = .ok (.invokevirtual 152, 3) := by decide +kernel
theorem dL_law_1287 : decode cL_law 1287 = .ok (.iload 6, 2) := by decide +kernel
theorem dL_law_1289 : decode cL_law 1289 = .ok (.if_icmp .eq 5, 3) := by decide +kernel
theorem dL_law_1294 : decode cL_law 1294 = .ok (.iload 6, 2) := by decide +kernel
theorem dL_law_1296 : decode cL_law 1296 = .ok (.ifCond .ne 15, 3) := by decide +kernel
theorem dL_law_1311 : decode cL_law 1311 = .ok (.goto 1467, 3) := by decide +kernel
theorem dL_law_1314 : decode cL_law 1314 = .ok (.aload_n 1, 1) := by decide +kernel
theorem dL_law_1315 : decode cL_law 1315 = .ok (.aload_n 0, 1) := by decide +kernel
theorem dL_law_1316 : decode cL_law 1316 = .ok (.iload 5, 2) := by decide +kernel
theorem dL_law_1318 : decode cL_law 1318 = .ok (.iconst 1, 1) := by decide +kernel
theorem dL_law_1319 : decode cL_law 1319 = .ok (.iadd, 1) := by decide +kernel
theorem dL_law_1320 : decode cL_law 1320 = .ok (.iaload, 1) := by decide +kernel
theorem dL_law_1321 : decode cL_law 1321 = .ok (.aload_n 3, 1) := by decide +kernel
def q_ggL_law_L_passes : List Cond := .codeWith yL_passes cL_passes 4 (some .int) [(0, 16, 19, 21)] :: ((wsL_passes_r1 ++ (wsL_passes_r2 ++ (wsL_passes_r3 ++ (wsL_passes_r4 ++ (wsL_passes_r5 ++ (wsL_passes_r6 ++ (wsL_passes_r7 ++ (wsL_passes_r8 ++ (wsL_passes_r9 ++ wsL_passes_r10))))))))) ++ wsX110 ++ wsX50 ++ wsX20 ++ wsX70 ++ wsX100 ++ wsX40)
theorem q0_ggL_law_L_passes : GoodIn wsL_law ((q_ggL_law_L_passes.drop 0).take 24) := gi_two _ [(44, 18), (13, 12), (44, 19), (44, 20), (44, 21), (0, 2), (44, 22), (0, 21), (13, 18), (13, 19), (13, 20), (13, 21), (13, 22), (13, 23), (0, 17), (0, 16), (44, 23), (45, 0), (45, 1), (0, 20), (45, 2), (33, 2), (33, 3), (33, 4)] rfl (by decide +kernel)
theorem q1_ggL_law_L_passes : GoodIn wsL_law ((q_ggL_law_L_passes.drop 24).take 24) := gi_two _ [(45, 3), (45, 4), (11, 21), (45, 5), (2, 4), (45, 6), (45, 7), (45, 8), (45, 9), (1, 20), (32, 16), (32, 20), (19, 3), (19, 4), (1, 19), (19, 5), (19, 6), (19, 7), (19, 8), (19, 9), (3, 0), (2, 17), (2, 18), (2, 19)] rfl (by decide +kernel)
theorem q2_ggL_law_L_passes : GoodIn wsL_law ((q_ggL_law_L_passes.drop 48).take 24) := gi_two _ [(2, 20), (2, 21), (2, 22), (19, 10), (19, 11), (12, 11), (19, 12), (19, 13), (19, 14), (19, 15), (19, 16), (19, 17), (19, 18), (12, 23), (13, 0), (19, 19), (11, 20), (11, 22), (19, 20), (19, 21), (19, 22), (19, 23), (20, 0), (14, 13)] rfl (by decide +kernel)
theorem q3_ggL_law_L_passes : GoodIn wsL_law ((q_ggL_law_L_passes.drop 72).take 24) := gi_two _ [(14, 14), (5, 0), (14, 15), (6, 0), (6, 1), (5, 21), (20, 1), (20, 2), (20, 3), (20, 4), (20, 5), (20, 6), (20, 7), (20, 8), (20, 9), (20, 10), (20, 11), (20, 12), (20, 13), (32, 21), (22, 14), (22, 15), (22, 16), (32, 22)] rfl (by decide +kernel)
theorem q4_ggL_law_L_passes : GoodIn wsL_law ((q_ggL_law_L_passes.drop 96).take 24) := gi_two _ [(23, 13), (23, 14), (23, 15), (45, 10), (45, 11), (45, 12), (45, 13), (2, 5), (45, 14), (45, 15), (34, 10), (34, 11), (34, 12), (45, 16), (45, 17), (45, 18), (45, 19), (45, 20), (45, 21), (45, 22), (45, 23), (46, 0), (46, 1), (46, 2)] rfl (by decide +kernel)
theorem q5_ggL_law_L_passes : GoodIn wsL_law ((q_ggL_law_L_passes.drop 120).take 24) := gi_two _ [(34, 0), (34, 1), (34, 2), (34, 3), (13, 2), (13, 3), (13, 4), (46, 3), (35, 3), (35, 4), (35, 5), (35, 6), (35, 7), (35, 8), (2, 3), (35, 9), (3, 17), (35, 10), (35, 11), (35, 12), (35, 13), (3, 19), (3, 18), (3, 21)] rfl (by decide +kernel)
theorem q6_ggL_law_L_passes : GoodIn wsL_law ((q_ggL_law_L_passes.drop 144).take 24) := gi_two _ [(3, 20), (35, 14), (35, 15), (35, 16), (35, 17), (14, 16), (14, 17), (35, 18), (35, 19), (35, 20), (35, 21), (35, 22), (35, 23), (36, 0), (30, 8), (30, 9), (36, 1), (36, 2), (36, 3), (36, 4), (36, 5), (36, 6), (36, 7), (36, 8)] rfl (by decide +kernel)
theorem q7_ggL_law_L_passes : GoodIn wsL_law ((q_ggL_law_L_passes.drop 168).take 24) := gi_two _ [(36, 9), (36, 10), (36, 11), (36, 12), (36, 13), (36, 14), (36, 15), (36, 16), (36, 17), (36, 18), (36, 19), (46, 4), (46, 5), (46, 6), (46, 7), (2, 13), (32, 19), (36, 20), (36, 21), (36, 22), (2, 12), (36, 23), (4, 13), (4, 12)] rfl (by decide +kernel)
theorem q8_ggL_law_L_passes : GoodIn wsL_law ((q_ggL_law_L_passes.drop 192).take 24) := gi_two _ [(4, 14), (4, 15), (4, 16), (4, 18), (4, 17), (37, 0), (37, 1), (37, 2), (37, 3), (37, 4), (37, 5), (37, 6), (37, 7), (37, 8), (37, 9), (37, 10), (37, 11), (37, 12), (37, 13), (37, 14), (37, 15), (37, 16), (37, 17), (37, 18)] rfl (by decide +kernel)
theorem q9_ggL_law_L_passes : GoodIn wsL_law ((q_ggL_law_L_passes.drop 216).take 24) := gi_two _ [(37, 19), (37, 20), (37, 21), (37, 22), (37, 23), (38, 0), (38, 1), (38, 2), (38, 3), (38, 4), (38, 5), (77, 0), (77, 1), (77, 2), (77, 3), (77, 4), (77, 5), (77, 6), (89, 0), (89, 1), (89, 2), (89, 3), (89, 4), (89, 5)] rfl (by decide +kernel)
theorem q10_ggL_law_L_passes : GoodIn wsL_law ((q_ggL_law_L_passes.drop 240).take 24) := gi_two _ [(89, 6), (89, 7), (89, 8), (89, 9), (89, 10), (79, 0), (79, 1), (79, 2), (79, 3), (79, 4), (79, 5), (84, 0), (84, 1), (84, 2), (84, 3), (84, 4), (84, 5), (84, 6), (86, 0), (86, 1), (86, 2), (86, 3), (86, 4), (88, 0)] rfl (by decide +kernel)
theorem q11_ggL_law_L_passes : GoodIn wsL_law ((q_ggL_law_L_passes.drop 264).take 24) := gi_two _ [(88, 1), (88, 2), (88, 3), (88, 4), (88, 5), (88, 6)] rfl (by decide +kernel)
theorem qe_ggL_law_L_passes : GoodIn wsL_law (q_ggL_law_L_passes.drop 288) := gi_two _ [] rfl (by decide +kernel)
theorem qa_ggL_law_L_passes : GoodIn wsL_law (q_ggL_law_L_passes) := (gi_step 0 24 q0_ggL_law_L_passes (gi_step 24 24 q1_ggL_law_L_passes (gi_step 48 24 q2_ggL_law_L_passes (gi_step 72 24 q3_ggL_law_L_passes (gi_step 96 24 q4_ggL_law_L_passes (gi_step 120 24 q5_ggL_law_L_passes (gi_step 144 24 q6_ggL_law_L_passes (gi_step 168 24 q7_ggL_law_L_passes (gi_step 192 24 q8_ggL_law_L_passes (gi_step 216 24 q9_ggL_law_L_passes (gi_step 240 24 q10_ggL_law_L_passes (gi_step 264 24 q11_ggL_law_L_passes qe_ggL_law_L_passes))))))))))))
set_option maxRecDepth 20000 in
theorem ggL_law_L_passes : GoodIn wsL_law wsL_passes := goodIn_ca (goodIn_ca (qa_ggL_law_L_passes) (goodIn_sub (fun _ h => List.mem_append_left _ (List.mem_append_left _ (List.mem_append_left _ (List.mem_append_left _ (List.mem_append_left _ (List.mem_append_left _ (List.mem_append_left _ (List.mem_append_right _ h)))))))) (by decide +kernel))) (goodIn_sub (fun _ h => List.mem_append_left _ (List.mem_append_left _ (List.mem_append_left _ (List.mem_append_left _ (List.mem_append_right _ h))))) (by decide +kernel))
set_option maxRecDepth 20000 in
theorem gL_law_L_passes : GoodIn wsL_law (va_wsS RL 204 yL_passes wsL_passes) := goodIn_app (goodIn_of _ (by decide +kernel)) ggL_law_L_passes
theorem dL_law_1322 : decode cL_law 1322 = .ok (.invokestatic 204, 3) := by decide +kernel
theorem dL_law_1325 : decode cL_law 1325 = .ok (.istore 6, 2) := by decide +kernel
theorem dL_law_1327 : decode cL_law 1327 = .ok (.aload_n 2, 1) := by decide +kernel
theorem dL_law_1328 : decode cL_law 1328 = .ok (.aload_n 0, 1) := by decide +kernel
theorem dL_law_1329 : decode cL_law 1329 = .ok (.iload 5, 2) := by decide +kernel
theorem dL_law_1331 : decode cL_law 1331 = .ok (.iconst 1, 1) := by decide +kernel
theorem dL_law_1332 : decode cL_law 1332 = .ok (.iadd, 1) := by decide +kernel
theorem dL_law_1333 : decode cL_law 1333 = .ok (.iaload, 1) := by decide +kernel
def q_ggL_law_X15_passes : List Cond := .code yX15_passes cX15_passes 2 (some .boolean) :: ((wsX15_passes_r1 ++ (wsX15_passes_r2 ++ (wsX15_passes_r3 ++ (wsX15_passes_r4 ++ (wsX15_passes_r5 ++ (wsX15_passes_r6 ++ (wsX15_passes_r7 ++ (wsX15_passes_r8 ++ wsX15_passes_r9)))))))) ++ wsX150 ++ wsJx4a65c0 ++ wsX130 ++ wsX140 ++ wsX120)
theorem q0_ggL_law_X15_passes : GoodIn wsL_law ((q_ggL_law_X15_passes.drop 0).take 24) := gi_two _ [(46, 11), (7, 13), (15, 2), (15, 3), (15, 4), (15, 5), (0, 5), (15, 6), (10, 0), (10, 7), (10, 8), (10, 9), (7, 12), (10, 10), (10, 11), (10, 4), (10, 5), (10, 6), (15, 7), (15, 8), (15, 9), (15, 10), (15, 11), (15, 12)] rfl (by decide +kernel)
theorem q1_ggL_law_X15_passes : GoodIn wsL_law ((q_ggL_law_X15_passes.drop 24).take 24) := gi_two _ [(15, 13), (15, 14), (15, 15), (15, 16), (15, 17), (15, 18), (15, 19), (15, 20), (15, 21), (15, 22), (8, 1), (46, 12), (46, 13), (46, 14), (46, 15), (38, 10), (38, 11), (20, 19), (20, 20), (20, 21), (46, 16), (45, 4), (11, 21), (45, 5)] rfl (by decide +kernel)
theorem q2_ggL_law_X15_passes : GoodIn wsL_law ((q_ggL_law_X15_passes.drop 48).take 24) := gi_two _ [(38, 16), (38, 17), (38, 18), (38, 19), (20, 22), (20, 23), (21, 0), (21, 1), (0, 13), (0, 14), (2, 23), (21, 2), (21, 3), (21, 4), (21, 5), (21, 6), (21, 7), (21, 8), (21, 9), (21, 10), (21, 11), (21, 12), (21, 13), (21, 14)] rfl (by decide +kernel)
theorem q3_ggL_law_X15_passes : GoodIn wsL_law ((q_ggL_law_X15_passes.drop 72).take 24) := gi_two _ [(21, 15), (21, 16), (21, 17), (21, 18), (12, 23), (13, 0), (21, 19), (21, 20), (11, 20), (11, 22), (21, 21), (21, 22), (21, 23), (22, 0), (22, 1), (22, 2), (22, 3), (22, 4), (22, 5), (16, 4), (16, 5), (10, 3), (16, 6), (10, 21)] rfl (by decide +kernel)
theorem q4_ggL_law_X15_passes : GoodIn wsL_law ((q_ggL_law_X15_passes.drop 96).take 24) := gi_two _ [(27, 7), (27, 8), (27, 9), (27, 10), (38, 20), (38, 21), (38, 22), (38, 23), (39, 12), (39, 4), (39, 5), (39, 6), (39, 7), (39, 8), (39, 9), (39, 10), (39, 11), (39, 13), (39, 14), (39, 15), (39, 16), (18, 10), (18, 11), (18, 12)] rfl (by decide +kernel)
theorem q5_ggL_law_X15_passes : GoodIn wsL_law ((q_ggL_law_X15_passes.drop 120).take 24) := gi_two _ [(18, 13), (18, 14), (10, 2), (10, 19), (10, 20), (10, 22), (10, 23), (11, 0), (16, 11), (18, 15), (10, 13), (10, 14), (10, 15), (10, 16), (10, 17), (10, 18), (40, 1), (40, 2), (40, 3), (40, 4), (40, 5), (40, 6), (40, 7), (40, 8)] rfl (by decide +kernel)
theorem q6_ggL_law_X15_passes : GoodIn wsL_law ((q_ggL_law_X15_passes.drop 144).take 24) := gi_two _ [(40, 9), (40, 10), (40, 11), (40, 12), (7, 9), (40, 13), (40, 14), (40, 15), (40, 16), (40, 17), (40, 18), (40, 19), (40, 20), (40, 21), (40, 22), (40, 23), (41, 0), (41, 1), (41, 2), (41, 3), (41, 4), (41, 5), (41, 6), (41, 7)] rfl (by decide +kernel)
theorem q7_ggL_law_X15_passes : GoodIn wsL_law ((q_ggL_law_X15_passes.drop 168).take 24) := gi_two _ [(41, 8), (41, 9), (41, 10), (41, 11), (41, 12), (41, 13), (41, 14), (41, 15), (41, 16), (41, 17), (41, 18), (41, 19), (41, 20), (41, 21), (41, 22), (41, 23), (42, 0), (42, 1), (42, 2), (42, 3), (42, 4), (42, 5), (42, 6), (42, 7)] rfl (by decide +kernel)
theorem q8_ggL_law_X15_passes : GoodIn wsL_law ((q_ggL_law_X15_passes.drop 192).take 24) := gi_two _ [(42, 8), (42, 9), (42, 10), (42, 11), (42, 12), (42, 13), (42, 14), (42, 15), (42, 16), (42, 17), (42, 18), (78, 0), (78, 1), (78, 2), (78, 3), (78, 4), (78, 5), (78, 6), (78, 7), (78, 8), (78, 9), (78, 10), (78, 11), (78, 12)] rfl (by decide +kernel)
theorem q9_ggL_law_X15_passes : GoodIn wsL_law ((q_ggL_law_X15_passes.drop 216).take 24) := gi_two _ [(78, 13), (78, 14), (78, 15), (78, 16), (78, 17), (78, 18), (78, 19), (78, 20), (90, 0), (90, 1), (90, 2), (91, 0), (91, 1), (91, 2), (91, 3), (91, 4), (91, 5), (91, 6), (91, 7), (91, 8), (91, 9), (91, 10), (91, 11), (92, 0)] rfl (by decide +kernel)
theorem q10_ggL_law_X15_passes : GoodIn wsL_law ((q_ggL_law_X15_passes.drop 240).take 24) := gi_two _ [(92, 1), (92, 2), (92, 3), (92, 4), (92, 5), (92, 6), (92, 7), (92, 8), (94, 0), (94, 1), (94, 2), (94, 3), (94, 4), (94, 5), (94, 6), (94, 7), (94, 8), (94, 9), (94, 10)] rfl (by decide +kernel)
theorem qe_ggL_law_X15_passes : GoodIn wsL_law (q_ggL_law_X15_passes.drop 264) := gi_two _ [] rfl (by decide +kernel)
theorem qa_ggL_law_X15_passes : GoodIn wsL_law (q_ggL_law_X15_passes) := (gi_step 0 24 q0_ggL_law_X15_passes (gi_step 24 24 q1_ggL_law_X15_passes (gi_step 48 24 q2_ggL_law_X15_passes (gi_step 72 24 q3_ggL_law_X15_passes (gi_step 96 24 q4_ggL_law_X15_passes (gi_step 120 24 q5_ggL_law_X15_passes (gi_step 144 24 q6_ggL_law_X15_passes (gi_step 168 24 q7_ggL_law_X15_passes (gi_step 192 24 q8_ggL_law_X15_passes (gi_step 216 24 q9_ggL_law_X15_passes (gi_step 240 24 q10_ggL_law_X15_passes qe_ggL_law_X15_passes)))))))))))
set_option maxRecDepth 20000 in
theorem ggL_law_X15_passes : GoodIn wsL_law wsX15_passes := goodIn_ca (goodIn_ca (qa_ggL_law_X15_passes) (goodIn_sub (fun _ h => List.mem_append_left _ (List.mem_append_left _ (List.mem_append_left _ (List.mem_append_left _ (List.mem_append_left _ (List.mem_append_left _ (List.mem_append_left _ (List.mem_append_right _ h)))))))) (by decide +kernel))) (goodIn_sub (fun _ h => List.mem_append_left _ (List.mem_append_right _ h)) (by decide +kernel))
set_option maxRecDepth 20000 in
theorem gL_law_X15_passes : GoodIn wsL_law (wsV RL 206 RX15 yX15_passes wsX15_passes) := goodIn_app (goodIn_of _ (by decide +kernel)) ggL_law_X15_passes
theorem dL_law_1334 : decode cL_law 1334 = .ok (.invokevirtual 206, 3) := by decide +kernel
theorem dL_law_1337 : decode cL_law 1337 = .ok (.istore 7, 2) := by decide +kernel
theorem dL_law_1339 : decode cL_law 1339 = .ok (.aload_n 2, 1) := by decide +kernel
theorem dL_law_1340 : decode cL_law 1340 = .ok (.invokevirtual 152, 3) := by decide +kernel
theorem dL_law_1343 : decode cL_law 1343 = .ok (.iload 6, 2) := by decide +kernel
theorem dL_law_1345 : decode cL_law 1345 = .ok (.if_icmp .eq 5, 3) := by decide +kernel
theorem dL_law_1350 : decode cL_law 1350 = .ok (.iload 6, 2) := by decide +kernel
theorem dL_law_1352 : decode cL_law 1352 = .ok (.ifCond .ne 22, 3) := by decide +kernel
theorem dL_law_1374 : decode cL_law 1374 = .ok (.goto 1404, 3) := by decide +kernel
set_option maxHeartbeats 8000000 in
set_option maxRecDepth 100000 in
/-- the law: law_8_print -/
theorem law_8_print {p : Program} {e : Env} {s : State} {m : MethodId} {below : List Frame} {meth : Method} {c : Code} {l : Launch} {b : Nat} {xs : Nat → Int32} (hx : p.tables.exec = Jvm.exec) (hb : c.code = cL_law) (hr : meth.sig.returnType = ret) (hml : c.maxLocals = 9) (hfl : l.stackTraces = false) (hown : s.vm.findClass RL = some m.cls) (hts : ∀ w ∈ wsL_law, w.before #[Value.ref b] s = true) (hX : va_X b 7 xs s s.heap) (hbl : b < s.heap.size) (hlocks : meth.locks = false) {A : Nat → Prop} (hbA : ¬ A b) (hAo : ∀ q, A q → s.heap.size ≤ q) (hA : ∀ q : Nat, s.heap.size ≤ q → A q) (dC : Nat → ClassId) (dI : Nat → Nat → Nat) (hN : nwA s) (e0 : Nat) (aK aV : Nat → Nat) (hZ : zX A s s.heap ∧ zM e0 aK aV A s s.heap) (ya ms ju rj tj ro rn tn rh th ca sa da xa wb z1 z2 jt z3 br z4 z5 z6 lk z7 z8 li bm l2 z9 bo h2 mm l1 z10 oo h1 ct cr cu cg cp co tg ts tr tk te fw fo fu xm ml cl fl rg tR ou od kn : Nat) (cI cM cS cL cD cB : ClassId) {H : Heap} {locs : List Loc} (hP : va_P (dC, dI) vwCl [(ya, .inr (16, [.ref ms, .int 0, .ref ju, .ref li, .ref ct, .ref tg, .ref fw])), (ou, .inl (cL, 1, .inr (.inl (fun _ => 0)))), (xm, .inr (20, [.int 0, .int 0, .ref kn, .int 0, .int 0, .int 0, .ref ml, .ref cl, .ref rg, .ref tR, .ref (aK 0), .ref (aK 0), .ref fl, .int 0, .int 0, .int 0, .int 0, .int 0, .int 0, .int 0, .null])), (ml, .inr (4, [.int 0, .ref e0, .int 0]))] H) (hD : va_D A [(ya, .inr (16, [.ref ms, .int 0, .ref ju, .ref li, .ref ct, .ref tg, .ref fw])), (ou, .inl (cL, 1, .inr (.inl (fun _ => 0)))), (xm, .inr (20, [.int 0, .int 0, .ref kn, .int 0, .int 0, .int 0, .ref ml, .ref cl, .ref rg, .ref tR, .ref (aK 0), .ref (aK 0), .ref fl, .int 0, .int 0, .int 0, .int 0, .int 0, .int 0, .int 0, .null])), (ml, .inr (4, [.int 0, .ref e0, .int 0]))]) (hK : va_K (dC, dI) vwCl [(cL, .long)] s) (hS : va_S A s.heap H locs) {ls : Array Slot} (hl : lv_has ls 9 [(0, .ref b), (1, .ref ya), (2, .ref xm), (3, .ref ou), (4, .ref od), (5, .int 0)]) : W p l e room_1 s m #[Value.ref b] below meth c H locs 200 60000 (lw_Z below #[Value.ref b] s) (F0 m 839 ls []) := by
  obtain ⟨s1, hs1⟩ : ∃ z, z = xs ((0 : Int32) + 1).toNatClampNeg := ⟨_, rfl⟩
  obtain ⟨s2, hs2⟩ : ∃ z, z = xs ((0 : Int32) + 2).toNatClampNeg := ⟨_, rfl⟩
  obtain ⟨s3, hs3⟩ : ∃ z, z = xs ((0 : Int32) + 3).toNatClampNeg := ⟨_, rfl⟩
  obtain ⟨s4, hs4⟩ : ∃ z, z = xs ((0 : Int32) + 4).toNatClampNeg := ⟨_, rfl⟩
  obtain ⟨s5, hs5⟩ : ∃ z, z = xs ((0 : Int32) + 5).toNatClampNeg := ⟨_, rfl⟩
  obtain ⟨s6, hs6⟩ : ∃ z, z = xs ((0 : Int32) + 6).toNatClampNeg := ⟨_, rfl⟩
  obtain ⟨ch1, hch1⟩ : ∃ z, z = (s1.toUInt32 % 65536).toInt32 := ⟨_, rfl⟩
  obtain ⟨ch2, hch2⟩ : ∃ z, z = (s2.toUInt32 % 65536).toInt32 := ⟨_, rfl⟩
  obtain ⟨ch3, hch3⟩ : ∃ z, z = (s3.toUInt32 % 65536).toInt32 := ⟨_, rfl⟩
  obtain ⟨ch4, hch4⟩ : ∃ z, z = (s4.toUInt32 % 65536).toInt32 := ⟨_, rfl⟩
  obtain ⟨ch5, hch5⟩ : ∃ z, z = (s5.toUInt32 % 65536).toInt32 := ⟨_, rfl⟩
  obtain ⟨ch6, hch6⟩ : ∃ z, z = (s6.toUInt32 % 65536).toInt32 := ⟨_, rfl⟩
  refine lv_aload_n hx hb dL_law_839 rfl (lv_at hl 1 rfl) ?_
  refine lv_aload_n hx hb dL_law_840 rfl (lv_at hl 0 rfl) ?_
  refine lv_iload hx hb dL_law_841 (lv_at hl 5 rfl) ?_
  refine lv_iconst (v := 1) hx hb dL_law_843 (by decide) ?_
  refine lv_iadd hx hb dL_law_844 ?_
  refine va_sld hx hb hX hbl hbA hS sx1 dL_law_845 ?_
  refine lv_topi (fun x_1 ex_1 => ?_)
  obtain rfl : s1 = x_1 := (show x_1 = s1 from ex_1.trans hs1.symm).symm
  refine lv_aload_n hx hb dL_law_846 rfl (lv_at hl 3 rfl) ?_
  have hPc := hP.sub (ws' := [(ya, .inr (16, [.ref ms, .int 0, .ref ju, .ref li, .ref ct, .ref tg, .ref fw])), (ou, .inl (cL, 1, .inr (.inl (fun _ => 0))))]) [0, 1] rfl
  have hDc := hD.sub (ws' := [(ya, .inr (16, [.ref ms, .int 0, .ref ju, .ref li, .ref ct, .ref tg, .ref fw])), (ou, .inl (cL, 1, .inr (.inl (fun _ => 0))))]) [0, 1] (by decide) rfl
  have hKc := hK.sub (tys' := [(cL, .long)]) [0] rfl
  have hFc := va_free (wc := [(ya, .inr (16, [.ref ms, .int 0, .ref ju, .ref li, .ref ct, .ref tg, .ref fw])), (ou, .inl (cL, 1, .inr (.inl (fun _ => 0))))]) hD hS hA [0, 1] rfl
  refine vx_calli (vx_runSX (As := [.ref ya, .int s1, .ref ou]) (rest := []) ⟨hx, hb, hml, hown, hts⟩ (c_L_print l hfl dC dI ya ms ju li ct tg fw s1 cL ou (fun _ => 0) H.size) (vx_cwSW 3 hts gL_law_L_print rfl rfl rfl (by decide +kernel) ⟨Nat.le_of_ble_eq_true rfl, Nat.le_of_ble_eq_true rfl⟩) (pcSz (zX_ok) hPc hDc hKc hN hZ.1 hS hFc) rfl rfl hl.1 rfl (lv_room (Nat.le_of_ble_eq_true rfl)) dL_law_847 ⟨Nat.le_of_ble_eq_true rfl, Nat.le_of_ble_eq_true rfl⟩) hS (fun q _ h => hFc q h) hFc (fun q _ h => hFc q h) (fun E9 ce9 q9 u9 t9 H9 locs9 ht9 hvm9 hp9 hE9 hz9 hk9 hS9 hc9 hv9 hcl9 => hE9.elim) (fun r_3 u t H1 locs ht hvm hw_4 hB hz1 hk1 hS => ?_)
  obtain ⟨hP1, hK1, hD1⟩ := hB
  rw [ht] at hP1
  try dsimp only at hw_4
  obtain ⟨hP, hD⟩ := va_join (wr := [(xm, .inr (20, [.int 0, .int 0, .ref kn, .int 0, .int 0, .int 0, .ref ml, .ref cl, .ref rg, .ref tR, .ref (aK 0), .ref (aK 0), .ref fl, .int 0, .int 0, .int 0, .int 0, .int 0, .int 0, .int 0, .null])), (ml, .inr (4, [.int 0, .ref e0, .int 0]))]) (w1 := [(ou, .inl (cL, 1, .inr (.inl u)))]) hP hD [0, 1] [2, 3] rfl rfl (by decide) (by decide) hk1 hFc hP1 hD1
  generalize H1 = H at hP hS ⊢
  have hP : va_P (dC, dI) vwCl [(xm, .inr (20, [.int 0, .int 0, .ref kn, .int 0, .int 0, .int 0, .ref ml, .ref cl, .ref rg, .ref tR, .ref (aK 0), .ref (aK 0), .ref fl, .int 0, .int 0, .int 0, .int 0, .int 0, .int 0, .int 0, .null])), (ml, .inr (4, [.int 0, .ref e0, .int 0])), (ou, .inl (cL, 1, .inr (.inl u)))] H := hP
  have hD : va_D A [(xm, .inr (20, [.int 0, .int 0, .ref kn, .int 0, .int 0, .int 0, .ref ml, .ref cl, .ref rg, .ref tR, .ref (aK 0), .ref (aK 0), .ref fl, .int 0, .int 0, .int 0, .int 0, .int 0, .int 0, .int 0, .null])), (ml, .inr (4, [.int 0, .ref e0, .int 0])), (ou, .inl (cL, 1, .inr (.inl u)))] := hD
  refine W.widen (k := 201) (n := 60006) (Nat.le_of_ble_eq_true rfl) (Nat.le_of_ble_eq_true rfl) ?_
  obtain ⟨of_2, eof_2⟩ : ∃ z, z = u := ⟨_, rfl⟩
  subst eof_2
  have hP : va_P (dC, dI) vwCl [(xm, .inr (20, [.int 0, .int 0, .ref kn, .int 0, .int 0, .int 0, .ref ml, .ref cl, .ref rg, .ref tR, .ref (aK 0), .ref (aK 0), .ref fl, .int 0, .int 0, .int 0, .int 0, .int 0, .int 0, .int 0, .null])), (ml, .inr (4, [.int 0, .ref e0, .int 0])), (ou, .inl (cL, 1, .inr (.inl of_2)))] H := hP
  have hD : va_D A [(xm, .inr (20, [.int 0, .int 0, .ref kn, .int 0, .int 0, .int 0, .ref ml, .ref cl, .ref rg, .ref tR, .ref (aK 0), .ref (aK 0), .ref fl, .int 0, .int 0, .int 0, .int 0, .int 0, .int 0, .int 0, .null])), (ml, .inr (4, [.int 0, .ref e0, .int 0])), (ou, .inl (cL, 1, .inr (.inl of_2)))] := hD
  obtain rfl : r_3 = 1 := hw_4
  refine lv_istore (lv' := [(6, .int 1), (0, .ref b), (1, .ref ya), (2, .ref xm), (3, .ref ou), (4, .ref od), (5, .int 0)]) hx hb dL_law_850 hl (by decide) rfl (fun ls hl => ?_)
  refine lv_aload_n hx hb dL_law_852 rfl (lv_at hl 3 rfl) ?_
  refine lv_aload_n hx hb dL_law_853 rfl (lv_at hl 1 rfl) ?_
  refine lv_iload hx hb dL_law_854 (lv_at hl 6 rfl) ?_
  refine lv_iconst (v := 1) hx hb dL_law_856 (by decide) ?_
  refine lv_iadd hx hb dL_law_857 ?_
  refine va_sld hx hb hX hbl hbA hS sx1 dL_law_858 ?_
  refine lv_topi (fun x_5 ex_5 => ?_)
  obtain rfl : s1 = x_5 := (show x_5 = s1 from ex_5.trans hs1.symm).symm
  have hPc := hP.sub (ws' := [(xm, .inr (20, [.int 0, .int 0, .ref kn, .int 0, .int 0, .int 0, .ref ml, .ref cl, .ref rg, .ref tR, .ref (aK 0), .ref (aK 0), .ref fl, .int 0, .int 0, .int 0, .int 0, .int 0, .int 0, .int 0, .null])), (ml, .inr (4, [.int 0, .ref e0, .int 0]))]) [0, 1] rfl
  have hDc := hD.sub (ws' := [(xm, .inr (20, [.int 0, .int 0, .ref kn, .int 0, .int 0, .int 0, .ref ml, .ref cl, .ref rg, .ref tR, .ref (aK 0), .ref (aK 0), .ref fl, .int 0, .int 0, .int 0, .int 0, .int 0, .int 0, .int 0, .null])), (ml, .inr (4, [.int 0, .ref e0, .int 0]))]) [0, 1] (by decide) rfl
  have hKc := hK.sub (tys' := []) [] rfl
  have hFc := va_free (wc := [(xm, .inr (20, [.int 0, .int 0, .ref kn, .int 0, .int 0, .int 0, .ref ml, .ref cl, .ref rg, .ref tR, .ref (aK 0), .ref (aK 0), .ref fl, .int 0, .int 0, .int 0, .int 0, .int 0, .int 0, .int 0, .null])), (ml, .inr (4, [.int 0, .ref e0, .int 0]))]) hD hS hA [0, 1] rfl
  refine va_calll (va_runV (As := [.int s1]) (rest := []) ⟨hx, hb, hml, hown, hts⟩ (c_X15_print l dC dI xm ml cl fl kn rg tR e0 aK aV s1 H.size) (cwV 1 hts gL_law_X15_print rfl rfl rfl (by decide +kernel) ⟨Nat.le_of_ble_eq_true rfl, Nat.le_of_ble_eq_true rfl⟩) (pcV hPc hDc hKc hN (ci := 20) (q0 := 0) rfl rfl) rfl rfl hl.1 rfl (lv_room (Nat.le_of_ble_eq_true rfl)) dL_law_859 ⟨Nat.le_of_ble_eq_true rfl, Nat.le_of_ble_eq_true rfl⟩) hS (fun q _ h => hFc q h) hFc (fun r_7 u t H1 locs ht hvm hw_8 hB hz1 hk1 hS => ?_)
  obtain ⟨hP1, hK1, hD1⟩ := hB
  rw [ht] at hP1
  try dsimp only at hw_8
  obtain ⟨hP, hD⟩ := va_join (wr := [(ou, .inl (cL, 1, .inr (.inl of_2)))]) (w1 := [(xm, .inr (20, u))]) hP hD [0, 1] [2] rfl rfl (by decide) (by decide) hk1 hFc hP1 hD1
  generalize H1 = H at hP hS ⊢
  have hP : va_P (dC, dI) vwCl [(ou, .inl (cL, 1, .inr (.inl of_2))), (xm, .inr (20, u))] H := hP
  have hD : va_D A [(ou, .inl (cL, 1, .inr (.inl of_2))), (xm, .inr (20, u))] := hD
  obtain ⟨fs_6, efs_6⟩ : ∃ z, z = u := ⟨_, rfl⟩
  subst efs_6
  have hP : va_P (dC, dI) vwCl [(ou, .inl (cL, 1, .inr (.inl of_2))), (xm, .inr (20, fs_6))] H := hP
  have hD : va_D A [(ou, .inl (cL, 1, .inr (.inl of_2))), (xm, .inr (20, fs_6))] := hD
  refine lv_lstore (lv' := [(7, .long r_7), (6, .int 1), (0, .ref b), (1, .ref ya), (2, .ref xm), (3, .ref ou), (4, .ref od), (5, .int 0)]) hx hb dL_law_862 hl (by decide) rfl (fun ls hl => ?_)
  refine lv_aload_n hx hb dL_law_864 rfl (lv_at hl 4 rfl) ?_
  have hPc := hP.sub (ws' := [(xm, .inr (20, fs_6))]) [1] rfl
  have hDc := hD.sub (ws' := [(xm, .inr (20, fs_6))]) [1] (by decide) rfl
  have hKc := hK.sub (tys' := []) [] rfl
  have hFc := va_free (wc := [(xm, .inr (20, fs_6))]) hD hS hA [1] rfl
  refine va_calli (va_runV (As := []) (rest := []) ⟨hx, hb, hml, hown, hts⟩ (c_X15_thrown l dC dI xm fs_6 1 hw_8 H.size) (cwV 0 hts gL_law_X15_thrown rfl rfl rfl (by decide +kernel) ⟨Nat.le_of_ble_eq_true rfl, Nat.le_of_ble_eq_true rfl⟩) (pcV hPc hDc hKc hN (ci := 20) (q0 := 0) rfl rfl) rfl rfl hl.1 rfl (lv_room (Nat.le_of_ble_eq_true rfl)) dL_law_865 ⟨Nat.le_of_ble_eq_true rfl, Nat.le_of_ble_eq_true rfl⟩) hS (fun q _ h => hFc q h) hFc (fun r_9 u t H1 locs ht hvm hw_10 hB hz1 hk1 hS => ?_)
  obtain ⟨hP1, hK1, hD1⟩ := hB
  rw [ht] at hP1
  try dsimp only at hw_10
  obtain ⟨hP, hD⟩ := va_join (wr := [(ou, .inl (cL, 1, .inr (.inl of_2)))]) (w1 := []) hP hD [1] [0] rfl rfl (by decide) (by decide) hk1 hFc hP1 hD1
  generalize H1 = H at hP hS ⊢
  have hP : va_P (dC, dI) vwCl [(ou, .inl (cL, 1, .inr (.inl of_2)))] H := hP
  have hD : va_D A [(ou, .inl (cL, 1, .inr (.inl of_2)))] := hD
  obtain rfl : r_9 = 1 := hw_10
  refine lv_iload hx hb dL_law_868 (lv_at hl 1 rfl) ?_
  refine lv_icmp_eq (tgt := 875) hx hb dL_law_870 (by decide) (fun c870_11 => ?_) (fun c870_11 => ?_)
  · refine lv_iload hx hb dL_law_875 (lv_at hl 1 rfl) ?_
    refine lv_if_ne (tgt := 891) hx hb dL_law_877 (by decide) (fun c877_12 => ?_) (fun c877_12 => ?_)
    · refine lv_goto (tgt := 2778) hx hb dL_law_891 (by decide) ?_
      refine W.widen (k := 600006) (n := 7302039) (Nat.le_of_ble_eq_true rfl) (Nat.le_of_ble_eq_true rfl) ?_
      exact law_end hx hb hr hml hX hbl hlocks hbA hAo hS (lv_sub hl [2, 7] rfl)
    · exact absurd c877_12 (by decide)
  · exact (c870_11 (by decide)).elim

set_option maxHeartbeats 8000000 in
set_option maxRecDepth 100000 in
/-- the law: law_9_printByRuns -/
theorem law_9_printByRuns {p : Program} {e : Env} {s : State} {m : MethodId} {below : List Frame} {meth : Method} {c : Code} {l : Launch} {b : Nat} {xs : Nat → Int32} (hx : p.tables.exec = Jvm.exec) (hb : c.code = cL_law) (hr : meth.sig.returnType = ret) (hml : c.maxLocals = 9) (hfl : l.stackTraces = false) (hown : s.vm.findClass RL = some m.cls) (hts : ∀ w ∈ wsL_law, w.before #[Value.ref b] s = true) (hX : va_X b 7 xs s s.heap) (hbl : b < s.heap.size) (hlocks : meth.locks = false) {A : Nat → Prop} (hbA : ¬ A b) (hAo : ∀ q, A q → s.heap.size ≤ q) (hA : ∀ q : Nat, s.heap.size ≤ q → A q) (dC : Nat → ClassId) (dI : Nat → Nat → Nat) (hN : nwA s) (e0 : Nat) (aK aV : Nat → Nat) (hZ : zX A s s.heap ∧ zM e0 aK aV A s s.heap) (ya ms ju rj tj ro rn tn rh th ca sa da xa wb z1 z2 jt z3 br z4 z5 z6 lk z7 z8 li bm l2 z9 bo h2 mm l1 z10 oo h1 ct cr cu cg cp co tg ts tr tk te fw fo fu xm ml cl fl rg tR ou od kn : Nat) (cI cM cS cL cD cB : ClassId) {H : Heap} {locs : List Loc} (hP : va_P (dC, dI) vwCl [(ya, .inr (16, [.ref ms, .int 0, .ref ju, .ref li, .ref ct, .ref tg, .ref fw])), (ou, .inl (cL, 1, .inr (.inl (fun _ => 0)))), (xm, .inr (20, [.int 0, .int 0, .ref kn, .int 0, .int 0, .int 0, .ref ml, .ref cl, .ref rg, .ref tR, .ref (aK 0), .ref (aK 0), .ref fl, .int 0, .int 0, .int 0, .int 0, .int 0, .int 0, .int 0, .null])), (ml, .inr (4, [.int 0, .ref e0, .int 0]))] H) (hD : va_D A [(ya, .inr (16, [.ref ms, .int 0, .ref ju, .ref li, .ref ct, .ref tg, .ref fw])), (ou, .inl (cL, 1, .inr (.inl (fun _ => 0)))), (xm, .inr (20, [.int 0, .int 0, .ref kn, .int 0, .int 0, .int 0, .ref ml, .ref cl, .ref rg, .ref tR, .ref (aK 0), .ref (aK 0), .ref fl, .int 0, .int 0, .int 0, .int 0, .int 0, .int 0, .int 0, .null])), (ml, .inr (4, [.int 0, .ref e0, .int 0]))]) (hK : va_K (dC, dI) vwCl [(cL, .long)] s) (hS : va_S A s.heap H locs) {ls : Array Slot} (hl : lv_has ls 9 [(0, .ref b), (1, .ref ya), (2, .ref xm), (3, .ref ou), (4, .ref od), (5, .int 0)]) : W p l e room_1 s m #[Value.ref b] below meth c H locs 200 60000 (lw_Z below #[Value.ref b] s) (F0 m 894 ls []) := by
  obtain ⟨s1, hs1⟩ : ∃ z, z = xs ((0 : Int32) + 1).toNatClampNeg := ⟨_, rfl⟩
  obtain ⟨s2, hs2⟩ : ∃ z, z = xs ((0 : Int32) + 2).toNatClampNeg := ⟨_, rfl⟩
  obtain ⟨s3, hs3⟩ : ∃ z, z = xs ((0 : Int32) + 3).toNatClampNeg := ⟨_, rfl⟩
  obtain ⟨s4, hs4⟩ : ∃ z, z = xs ((0 : Int32) + 4).toNatClampNeg := ⟨_, rfl⟩
  obtain ⟨s5, hs5⟩ : ∃ z, z = xs ((0 : Int32) + 5).toNatClampNeg := ⟨_, rfl⟩
  obtain ⟨s6, hs6⟩ : ∃ z, z = xs ((0 : Int32) + 6).toNatClampNeg := ⟨_, rfl⟩
  obtain ⟨ch1, hch1⟩ : ∃ z, z = (s1.toUInt32 % 65536).toInt32 := ⟨_, rfl⟩
  obtain ⟨ch2, hch2⟩ : ∃ z, z = (s2.toUInt32 % 65536).toInt32 := ⟨_, rfl⟩
  obtain ⟨ch3, hch3⟩ : ∃ z, z = (s3.toUInt32 % 65536).toInt32 := ⟨_, rfl⟩
  obtain ⟨ch4, hch4⟩ : ∃ z, z = (s4.toUInt32 % 65536).toInt32 := ⟨_, rfl⟩
  obtain ⟨ch5, hch5⟩ : ∃ z, z = (s5.toUInt32 % 65536).toInt32 := ⟨_, rfl⟩
  obtain ⟨ch6, hch6⟩ : ∃ z, z = (s6.toUInt32 % 65536).toInt32 := ⟨_, rfl⟩
  refine lv_aload_n hx hb dL_law_894 rfl (lv_at hl 1 rfl) ?_
  refine lv_aload_n hx hb dL_law_895 rfl (lv_at hl 0 rfl) ?_
  refine lv_iload hx hb dL_law_896 (lv_at hl 5 rfl) ?_
  refine lv_iconst (v := 1) hx hb dL_law_898 (by decide) ?_
  refine lv_iadd hx hb dL_law_899 ?_
  refine va_sld hx hb hX hbl hbA hS sx1 dL_law_900 ?_
  refine lv_topi (fun x_1 ex_1 => ?_)
  obtain rfl : s1 = x_1 := (show x_1 = s1 from ex_1.trans hs1.symm).symm
  refine lv_aload_n hx hb dL_law_901 rfl (lv_at hl 0 rfl) ?_
  refine lv_iload hx hb dL_law_902 (lv_at hl 5 rfl) ?_
  refine lv_iconst (v := 2) hx hb dL_law_904 (by decide) ?_
  refine lv_iadd hx hb dL_law_905 ?_
  refine va_sld hx hb hX hbl hbA hS sx2 dL_law_906 ?_
  refine lv_topi (fun x_2 ex_2 => ?_)
  obtain rfl : s2 = x_2 := (show x_2 = s2 from ex_2.trans hs2.symm).symm
  refine lv_aload_n hx hb dL_law_907 rfl (lv_at hl 3 rfl) ?_
  have hPc := hP.sub (ws' := [(ya, .inr (16, [.ref ms, .int 0, .ref ju, .ref li, .ref ct, .ref tg, .ref fw])), (ou, .inl (cL, 1, .inr (.inl (fun _ => 0))))]) [0, 1] rfl
  have hDc := hD.sub (ws' := [(ya, .inr (16, [.ref ms, .int 0, .ref ju, .ref li, .ref ct, .ref tg, .ref fw])), (ou, .inl (cL, 1, .inr (.inl (fun _ => 0))))]) [0, 1] (by decide) rfl
  have hKc := hK.sub (tys' := [(cL, .long)]) [0] rfl
  have hFc := va_free (wc := [(ya, .inr (16, [.ref ms, .int 0, .ref ju, .ref li, .ref ct, .ref tg, .ref fw])), (ou, .inl (cL, 1, .inr (.inl (fun _ => 0))))]) hD hS hA [0, 1] rfl
  refine vx_calli (vx_runSX (As := [.ref ya, .int s1, .int s2, .ref ou]) (rest := []) ⟨hx, hb, hml, hown, hts⟩ (c_L_printByRuns l hfl dC dI ya ms ju li ct tg fw s1 s2 cL ou (fun _ => 0) H.size) (vx_cwSW 4 hts gL_law_L_printByRuns rfl rfl rfl (by decide +kernel) ⟨Nat.le_of_ble_eq_true rfl, Nat.le_of_ble_eq_true rfl⟩) (pcSz (zX_ok) hPc hDc hKc hN hZ.1 hS hFc) rfl rfl hl.1 rfl (lv_room (Nat.le_of_ble_eq_true rfl)) dL_law_908 ⟨Nat.le_of_ble_eq_true rfl, Nat.le_of_ble_eq_true rfl⟩) hS (fun q _ h => hFc q h) hFc (fun q _ h => hFc q h) (fun E9 ce9 q9 u9 t9 H9 locs9 ht9 hvm9 hp9 hE9 hz9 hk9 hS9 hc9 hv9 hcl9 => hE9.elim) (fun r_4 u t H1 locs ht hvm hw_5 hB hz1 hk1 hS => ?_)
  obtain ⟨hP1, hK1, hD1⟩ := hB
  rw [ht] at hP1
  try dsimp only at hw_5
  obtain ⟨hP, hD⟩ := va_join (wr := [(xm, .inr (20, [.int 0, .int 0, .ref kn, .int 0, .int 0, .int 0, .ref ml, .ref cl, .ref rg, .ref tR, .ref (aK 0), .ref (aK 0), .ref fl, .int 0, .int 0, .int 0, .int 0, .int 0, .int 0, .int 0, .null])), (ml, .inr (4, [.int 0, .ref e0, .int 0]))]) (w1 := [(ou, .inl (cL, 1, .inr (.inl u)))]) hP hD [0, 1] [2, 3] rfl rfl (by decide) (by decide) hk1 hFc hP1 hD1
  generalize H1 = H at hP hS ⊢
  have hP : va_P (dC, dI) vwCl [(xm, .inr (20, [.int 0, .int 0, .ref kn, .int 0, .int 0, .int 0, .ref ml, .ref cl, .ref rg, .ref tR, .ref (aK 0), .ref (aK 0), .ref fl, .int 0, .int 0, .int 0, .int 0, .int 0, .int 0, .int 0, .null])), (ml, .inr (4, [.int 0, .ref e0, .int 0])), (ou, .inl (cL, 1, .inr (.inl u)))] H := hP
  have hD : va_D A [(xm, .inr (20, [.int 0, .int 0, .ref kn, .int 0, .int 0, .int 0, .ref ml, .ref cl, .ref rg, .ref tR, .ref (aK 0), .ref (aK 0), .ref fl, .int 0, .int 0, .int 0, .int 0, .int 0, .int 0, .int 0, .null])), (ml, .inr (4, [.int 0, .ref e0, .int 0])), (ou, .inl (cL, 1, .inr (.inl u)))] := hD
  refine W.widen (k := 201) (n := 60006) (Nat.le_of_ble_eq_true rfl) (Nat.le_of_ble_eq_true rfl) ?_
  obtain ⟨of_3, eof_3⟩ : ∃ z, z = u := ⟨_, rfl⟩
  subst eof_3
  have hP : va_P (dC, dI) vwCl [(xm, .inr (20, [.int 0, .int 0, .ref kn, .int 0, .int 0, .int 0, .ref ml, .ref cl, .ref rg, .ref tR, .ref (aK 0), .ref (aK 0), .ref fl, .int 0, .int 0, .int 0, .int 0, .int 0, .int 0, .int 0, .null])), (ml, .inr (4, [.int 0, .ref e0, .int 0])), (ou, .inl (cL, 1, .inr (.inl of_3)))] H := hP
  have hD : va_D A [(xm, .inr (20, [.int 0, .int 0, .ref kn, .int 0, .int 0, .int 0, .ref ml, .ref cl, .ref rg, .ref tR, .ref (aK 0), .ref (aK 0), .ref fl, .int 0, .int 0, .int 0, .int 0, .int 0, .int 0, .int 0, .null])), (ml, .inr (4, [.int 0, .ref e0, .int 0])), (ou, .inl (cL, 1, .inr (.inl of_3)))] := hD
  obtain rfl : r_4 = 1 := hw_5
  refine lv_istore (lv' := [(6, .int 1), (0, .ref b), (1, .ref ya), (2, .ref xm), (3, .ref ou), (4, .ref od), (5, .int 0)]) hx hb dL_law_911 hl (by decide) rfl (fun ls hl => ?_)
  refine lv_aload_n hx hb dL_law_913 rfl (lv_at hl 3 rfl) ?_
  refine lv_aload_n hx hb dL_law_914 rfl (lv_at hl 1 rfl) ?_
  refine lv_iload hx hb dL_law_915 (lv_at hl 6 rfl) ?_
  refine lv_iconst (v := 1) hx hb dL_law_917 (by decide) ?_
  refine lv_iadd hx hb dL_law_918 ?_
  refine va_sld hx hb hX hbl hbA hS sx1 dL_law_919 ?_
  refine lv_topi (fun x_6 ex_6 => ?_)
  obtain rfl : s1 = x_6 := (show x_6 = s1 from ex_6.trans hs1.symm).symm
  refine lv_aload_n hx hb dL_law_920 rfl (lv_at hl 1 rfl) ?_
  refine lv_iload hx hb dL_law_921 (lv_at hl 6 rfl) ?_
  refine lv_iconst (v := 2) hx hb dL_law_923 (by decide) ?_
  refine lv_iadd hx hb dL_law_924 ?_
  refine va_sld hx hb hX hbl hbA hS sx2 dL_law_925 ?_
  refine lv_topi (fun x_7 ex_7 => ?_)
  obtain rfl : s2 = x_7 := (show x_7 = s2 from ex_7.trans hs2.symm).symm
  have hPc := hP.sub (ws' := [(xm, .inr (20, [.int 0, .int 0, .ref kn, .int 0, .int 0, .int 0, .ref ml, .ref cl, .ref rg, .ref tR, .ref (aK 0), .ref (aK 0), .ref fl, .int 0, .int 0, .int 0, .int 0, .int 0, .int 0, .int 0, .null])), (ml, .inr (4, [.int 0, .ref e0, .int 0]))]) [0, 1] rfl
  have hDc := hD.sub (ws' := [(xm, .inr (20, [.int 0, .int 0, .ref kn, .int 0, .int 0, .int 0, .ref ml, .ref cl, .ref rg, .ref tR, .ref (aK 0), .ref (aK 0), .ref fl, .int 0, .int 0, .int 0, .int 0, .int 0, .int 0, .int 0, .null])), (ml, .inr (4, [.int 0, .ref e0, .int 0]))]) [0, 1] (by decide) rfl
  have hKc := hK.sub (tys' := []) [] rfl
  have hFc := va_free (wc := [(xm, .inr (20, [.int 0, .int 0, .ref kn, .int 0, .int 0, .int 0, .ref ml, .ref cl, .ref rg, .ref tR, .ref (aK 0), .ref (aK 0), .ref fl, .int 0, .int 0, .int 0, .int 0, .int 0, .int 0, .int 0, .null])), (ml, .inr (4, [.int 0, .ref e0, .int 0]))]) hD hS hA [0, 1] rfl
  refine va_calll (va_runV (As := [.int s1, .int s2]) (rest := []) ⟨hx, hb, hml, hown, hts⟩ (c_X15_printByRuns l dC dI xm ml cl fl kn rg tR e0 aK aV s1 s2 H.size) (cwV 2 hts gL_law_X15_printByRuns rfl rfl rfl (by decide +kernel) ⟨Nat.le_of_ble_eq_true rfl, Nat.le_of_ble_eq_true rfl⟩) (pcV hPc hDc hKc hN (ci := 20) (q0 := 0) rfl rfl) rfl rfl hl.1 rfl (lv_room (Nat.le_of_ble_eq_true rfl)) dL_law_926 ⟨Nat.le_of_ble_eq_true rfl, Nat.le_of_ble_eq_true rfl⟩) hS (fun q _ h => hFc q h) hFc (fun r_9 u t H1 locs ht hvm hw_10 hB hz1 hk1 hS => ?_)
  obtain ⟨hP1, hK1, hD1⟩ := hB
  rw [ht] at hP1
  try dsimp only at hw_10
  obtain ⟨hP, hD⟩ := va_join (wr := [(ou, .inl (cL, 1, .inr (.inl of_3)))]) (w1 := [(xm, .inr (20, u))]) hP hD [0, 1] [2] rfl rfl (by decide) (by decide) hk1 hFc hP1 hD1
  generalize H1 = H at hP hS ⊢
  have hP : va_P (dC, dI) vwCl [(ou, .inl (cL, 1, .inr (.inl of_3))), (xm, .inr (20, u))] H := hP
  have hD : va_D A [(ou, .inl (cL, 1, .inr (.inl of_3))), (xm, .inr (20, u))] := hD
  obtain ⟨fs_8, efs_8⟩ : ∃ z, z = u := ⟨_, rfl⟩
  subst efs_8
  have hP : va_P (dC, dI) vwCl [(ou, .inl (cL, 1, .inr (.inl of_3))), (xm, .inr (20, fs_8))] H := hP
  have hD : va_D A [(ou, .inl (cL, 1, .inr (.inl of_3))), (xm, .inr (20, fs_8))] := hD
  refine lv_lstore (lv' := [(7, .long r_9), (6, .int 1), (0, .ref b), (1, .ref ya), (2, .ref xm), (3, .ref ou), (4, .ref od), (5, .int 0)]) hx hb dL_law_929 hl (by decide) rfl (fun ls hl => ?_)
  refine lv_aload_n hx hb dL_law_931 rfl (lv_at hl 4 rfl) ?_
  have hPc := hP.sub (ws' := [(xm, .inr (20, fs_8))]) [1] rfl
  have hDc := hD.sub (ws' := [(xm, .inr (20, fs_8))]) [1] (by decide) rfl
  have hKc := hK.sub (tys' := []) [] rfl
  have hFc := va_free (wc := [(xm, .inr (20, fs_8))]) hD hS hA [1] rfl
  refine va_calli (va_runV (As := []) (rest := []) ⟨hx, hb, hml, hown, hts⟩ (c_X15_thrown l dC dI xm fs_8 1 hw_10 H.size) (cwV 0 hts gL_law_X15_thrown rfl rfl rfl (by decide +kernel) ⟨Nat.le_of_ble_eq_true rfl, Nat.le_of_ble_eq_true rfl⟩) (pcV hPc hDc hKc hN (ci := 20) (q0 := 0) rfl rfl) rfl rfl hl.1 rfl (lv_room (Nat.le_of_ble_eq_true rfl)) dL_law_932 ⟨Nat.le_of_ble_eq_true rfl, Nat.le_of_ble_eq_true rfl⟩) hS (fun q _ h => hFc q h) hFc (fun r_11 u t H1 locs ht hvm hw_12 hB hz1 hk1 hS => ?_)
  obtain ⟨hP1, hK1, hD1⟩ := hB
  rw [ht] at hP1
  try dsimp only at hw_12
  obtain ⟨hP, hD⟩ := va_join (wr := [(ou, .inl (cL, 1, .inr (.inl of_3)))]) (w1 := []) hP hD [1] [0] rfl rfl (by decide) (by decide) hk1 hFc hP1 hD1
  generalize H1 = H at hP hS ⊢
  have hP : va_P (dC, dI) vwCl [(ou, .inl (cL, 1, .inr (.inl of_3)))] H := hP
  have hD : va_D A [(ou, .inl (cL, 1, .inr (.inl of_3)))] := hD
  obtain rfl : r_11 = 1 := hw_12
  refine lv_iload hx hb dL_law_935 (lv_at hl 1 rfl) ?_
  refine lv_icmp_eq (tgt := 942) hx hb dL_law_937 (by decide) (fun c937_13 => ?_) (fun c937_13 => ?_)
  · refine lv_iload hx hb dL_law_942 (lv_at hl 1 rfl) ?_
    refine lv_if_ne (tgt := 958) hx hb dL_law_944 (by decide) (fun c944_14 => ?_) (fun c944_14 => ?_)
    · refine lv_goto (tgt := 2778) hx hb dL_law_958 (by decide) ?_
      refine W.widen (k := 600006) (n := 7302039) (Nat.le_of_ble_eq_true rfl) (Nat.le_of_ble_eq_true rfl) ?_
      exact law_end hx hb hr hml hX hbl hlocks hbA hAo hS (lv_sub hl [2, 7] rfl)
    · exact absurd c944_14 (by decide)
  · exact (c937_13 (by decide)).elim

set_option maxHeartbeats 8000000 in
set_option maxRecDepth 100000 in
/-- the law: law_10_runsOf -/
theorem law_10_runsOf {p : Program} {e : Env} {s : State} {m : MethodId} {below : List Frame} {meth : Method} {c : Code} {l : Launch} {b : Nat} {xs : Nat → Int32} (hx : p.tables.exec = Jvm.exec) (hb : c.code = cL_law) (hr : meth.sig.returnType = ret) (hml : c.maxLocals = 9) (hfl : l.stackTraces = false) (hown : s.vm.findClass RL = some m.cls) (hts : ∀ w ∈ wsL_law, w.before #[Value.ref b] s = true) (hX : va_X b 7 xs s s.heap) (hbl : b < s.heap.size) (hlocks : meth.locks = false) {A : Nat → Prop} (hbA : ¬ A b) (hAo : ∀ q, A q → s.heap.size ≤ q) (hA : ∀ q : Nat, s.heap.size ≤ q → A q) (dC : Nat → ClassId) (dI : Nat → Nat → Nat) (hN : nwA s) (e0 : Nat) (aK aV : Nat → Nat) (hZ : zX A s s.heap ∧ zM e0 aK aV A s s.heap) (ya ms ju rj tj ro rn tn rh th ca sa da xa wb z1 z2 jt z3 br z4 z5 z6 lk z7 z8 li bm l2 z9 bo h2 mm l1 z10 oo h1 ct cr cu cg cp co tg ts tr tk te fw fo fu xm ml cl fl rg tR ou od kn : Nat) (cI cM cS cL cD cB : ClassId) {H : Heap} {locs : List Loc} (hP : va_P (dC, dI) vwCl [(ya, .inr (16, [.ref ms, .int 0, .ref ju, .ref li, .ref ct, .ref tg, .ref fw])), (ou, .inl (cL, 1, .inr (.inl (fun _ => 0)))), (xm, .inr (20, [.int 0, .int 0, .ref kn, .int 0, .int 0, .int 0, .ref ml, .ref cl, .ref rg, .ref tR, .ref (aK 0), .ref (aK 0), .ref fl, .int 0, .int 0, .int 0, .int 0, .int 0, .int 0, .int 0, .null])), (ml, .inr (4, [.int 0, .ref e0, .int 0]))] H) (hD : va_D A [(ya, .inr (16, [.ref ms, .int 0, .ref ju, .ref li, .ref ct, .ref tg, .ref fw])), (ou, .inl (cL, 1, .inr (.inl (fun _ => 0)))), (xm, .inr (20, [.int 0, .int 0, .ref kn, .int 0, .int 0, .int 0, .ref ml, .ref cl, .ref rg, .ref tR, .ref (aK 0), .ref (aK 0), .ref fl, .int 0, .int 0, .int 0, .int 0, .int 0, .int 0, .int 0, .null])), (ml, .inr (4, [.int 0, .ref e0, .int 0]))]) (hK : va_K (dC, dI) vwCl [(cL, .long)] s) (hS : va_S A s.heap H locs) {ls : Array Slot} (hl : lv_has ls 9 [(0, .ref b), (1, .ref ya), (2, .ref xm), (3, .ref ou), (4, .ref od), (5, .int 0)]) : W p l e room_1 s m #[Value.ref b] below meth c H locs 200 60000 (lw_Z below #[Value.ref b] s) (F0 m 961 ls []) := by
  obtain ⟨s1, hs1⟩ : ∃ z, z = xs ((0 : Int32) + 1).toNatClampNeg := ⟨_, rfl⟩
  obtain ⟨s2, hs2⟩ : ∃ z, z = xs ((0 : Int32) + 2).toNatClampNeg := ⟨_, rfl⟩
  obtain ⟨s3, hs3⟩ : ∃ z, z = xs ((0 : Int32) + 3).toNatClampNeg := ⟨_, rfl⟩
  obtain ⟨s4, hs4⟩ : ∃ z, z = xs ((0 : Int32) + 4).toNatClampNeg := ⟨_, rfl⟩
  obtain ⟨s5, hs5⟩ : ∃ z, z = xs ((0 : Int32) + 5).toNatClampNeg := ⟨_, rfl⟩
  obtain ⟨s6, hs6⟩ : ∃ z, z = xs ((0 : Int32) + 6).toNatClampNeg := ⟨_, rfl⟩
  obtain ⟨ch1, hch1⟩ : ∃ z, z = (s1.toUInt32 % 65536).toInt32 := ⟨_, rfl⟩
  obtain ⟨ch2, hch2⟩ : ∃ z, z = (s2.toUInt32 % 65536).toInt32 := ⟨_, rfl⟩
  obtain ⟨ch3, hch3⟩ : ∃ z, z = (s3.toUInt32 % 65536).toInt32 := ⟨_, rfl⟩
  obtain ⟨ch4, hch4⟩ : ∃ z, z = (s4.toUInt32 % 65536).toInt32 := ⟨_, rfl⟩
  obtain ⟨ch5, hch5⟩ : ∃ z, z = (s5.toUInt32 % 65536).toInt32 := ⟨_, rfl⟩
  obtain ⟨ch6, hch6⟩ : ∃ z, z = (s6.toUInt32 % 65536).toInt32 := ⟨_, rfl⟩
  refine lv_aload_n hx hb dL_law_961 rfl (lv_at hl 1 rfl) ?_
  refine lv_aload_n hx hb dL_law_962 rfl (lv_at hl 0 rfl) ?_
  refine lv_iload hx hb dL_law_963 (lv_at hl 5 rfl) ?_
  refine lv_iconst (v := 1) hx hb dL_law_965 (by decide) ?_
  refine lv_iadd hx hb dL_law_966 ?_
  refine va_sld hx hb hX hbl hbA hS sx1 dL_law_967 ?_
  refine lv_topi (fun x_1 ex_1 => ?_)
  obtain rfl : s1 = x_1 := (show x_1 = s1 from ex_1.trans hs1.symm).symm
  refine lv_aload_n hx hb dL_law_968 rfl (lv_at hl 3 rfl) ?_
  have hPc := hP.sub (ws' := [(ya, .inr (16, [.ref ms, .int 0, .ref ju, .ref li, .ref ct, .ref tg, .ref fw])), (ou, .inl (cL, 1, .inr (.inl (fun _ => 0))))]) [0, 1] rfl
  have hDc := hD.sub (ws' := [(ya, .inr (16, [.ref ms, .int 0, .ref ju, .ref li, .ref ct, .ref tg, .ref fw])), (ou, .inl (cL, 1, .inr (.inl (fun _ => 0))))]) [0, 1] (by decide) rfl
  have hKc := hK.sub (tys' := [(cL, .long)]) [0] rfl
  have hFc := va_free (wc := [(ya, .inr (16, [.ref ms, .int 0, .ref ju, .ref li, .ref ct, .ref tg, .ref fw])), (ou, .inl (cL, 1, .inr (.inl (fun _ => 0))))]) hD hS hA [0, 1] rfl
  refine vx_calli (vx_runSX (As := [.ref ya, .int s1, .ref ou]) (rest := []) ⟨hx, hb, hml, hown, hts⟩ (c_L_runsOf l hfl dC dI ya ms ju li ct tg fw s1 cL ou (fun _ => 0) H.size) (vx_cwSW 3 hts gL_law_L_runsOf rfl rfl rfl (by decide +kernel) ⟨Nat.le_of_ble_eq_true rfl, Nat.le_of_ble_eq_true rfl⟩) (pcSz (zX_ok) hPc hDc hKc hN hZ.1 hS hFc) rfl rfl hl.1 rfl (lv_room (Nat.le_of_ble_eq_true rfl)) dL_law_969 ⟨Nat.le_of_ble_eq_true rfl, Nat.le_of_ble_eq_true rfl⟩) hS (fun q _ h => hFc q h) hFc (fun q _ h => hFc q h) (fun E9 ce9 q9 u9 t9 H9 locs9 ht9 hvm9 hp9 hE9 hz9 hk9 hS9 hc9 hv9 hcl9 => hE9.elim) (fun r_3 u t H1 locs ht hvm hw_4 hB hz1 hk1 hS => ?_)
  obtain ⟨hP1, hK1, hD1⟩ := hB
  rw [ht] at hP1
  try dsimp only at hw_4
  obtain ⟨hP, hD⟩ := va_join (wr := [(xm, .inr (20, [.int 0, .int 0, .ref kn, .int 0, .int 0, .int 0, .ref ml, .ref cl, .ref rg, .ref tR, .ref (aK 0), .ref (aK 0), .ref fl, .int 0, .int 0, .int 0, .int 0, .int 0, .int 0, .int 0, .null])), (ml, .inr (4, [.int 0, .ref e0, .int 0]))]) (w1 := [(ou, .inl (cL, 1, .inr (.inl u)))]) hP hD [0, 1] [2, 3] rfl rfl (by decide) (by decide) hk1 hFc hP1 hD1
  generalize H1 = H at hP hS ⊢
  have hP : va_P (dC, dI) vwCl [(xm, .inr (20, [.int 0, .int 0, .ref kn, .int 0, .int 0, .int 0, .ref ml, .ref cl, .ref rg, .ref tR, .ref (aK 0), .ref (aK 0), .ref fl, .int 0, .int 0, .int 0, .int 0, .int 0, .int 0, .int 0, .null])), (ml, .inr (4, [.int 0, .ref e0, .int 0])), (ou, .inl (cL, 1, .inr (.inl u)))] H := hP
  have hD : va_D A [(xm, .inr (20, [.int 0, .int 0, .ref kn, .int 0, .int 0, .int 0, .ref ml, .ref cl, .ref rg, .ref tR, .ref (aK 0), .ref (aK 0), .ref fl, .int 0, .int 0, .int 0, .int 0, .int 0, .int 0, .int 0, .null])), (ml, .inr (4, [.int 0, .ref e0, .int 0])), (ou, .inl (cL, 1, .inr (.inl u)))] := hD
  refine W.widen (k := 201) (n := 60006) (Nat.le_of_ble_eq_true rfl) (Nat.le_of_ble_eq_true rfl) ?_
  obtain ⟨of_2, eof_2⟩ : ∃ z, z = u := ⟨_, rfl⟩
  subst eof_2
  have hP : va_P (dC, dI) vwCl [(xm, .inr (20, [.int 0, .int 0, .ref kn, .int 0, .int 0, .int 0, .ref ml, .ref cl, .ref rg, .ref tR, .ref (aK 0), .ref (aK 0), .ref fl, .int 0, .int 0, .int 0, .int 0, .int 0, .int 0, .int 0, .null])), (ml, .inr (4, [.int 0, .ref e0, .int 0])), (ou, .inl (cL, 1, .inr (.inl of_2)))] H := hP
  have hD : va_D A [(xm, .inr (20, [.int 0, .int 0, .ref kn, .int 0, .int 0, .int 0, .ref ml, .ref cl, .ref rg, .ref tR, .ref (aK 0), .ref (aK 0), .ref fl, .int 0, .int 0, .int 0, .int 0, .int 0, .int 0, .int 0, .null])), (ml, .inr (4, [.int 0, .ref e0, .int 0])), (ou, .inl (cL, 1, .inr (.inl of_2)))] := hD
  obtain rfl : r_3 = 1 := hw_4
  refine lv_istore (lv' := [(6, .int 1), (0, .ref b), (1, .ref ya), (2, .ref xm), (3, .ref ou), (4, .ref od), (5, .int 0)]) hx hb dL_law_972 hl (by decide) rfl (fun ls hl => ?_)
  refine lv_aload_n hx hb dL_law_974 rfl (lv_at hl 3 rfl) ?_
  refine lv_aload_n hx hb dL_law_975 rfl (lv_at hl 1 rfl) ?_
  refine lv_iload hx hb dL_law_976 (lv_at hl 6 rfl) ?_
  refine lv_iconst (v := 1) hx hb dL_law_978 (by decide) ?_
  refine lv_iadd hx hb dL_law_979 ?_
  refine va_sld hx hb hX hbl hbA hS sx1 dL_law_980 ?_
  refine lv_topi (fun x_5 ex_5 => ?_)
  obtain rfl : s1 = x_5 := (show x_5 = s1 from ex_5.trans hs1.symm).symm
  have hPc := hP.sub (ws' := [(xm, .inr (20, [.int 0, .int 0, .ref kn, .int 0, .int 0, .int 0, .ref ml, .ref cl, .ref rg, .ref tR, .ref (aK 0), .ref (aK 0), .ref fl, .int 0, .int 0, .int 0, .int 0, .int 0, .int 0, .int 0, .null])), (ml, .inr (4, [.int 0, .ref e0, .int 0]))]) [0, 1] rfl
  have hDc := hD.sub (ws' := [(xm, .inr (20, [.int 0, .int 0, .ref kn, .int 0, .int 0, .int 0, .ref ml, .ref cl, .ref rg, .ref tR, .ref (aK 0), .ref (aK 0), .ref fl, .int 0, .int 0, .int 0, .int 0, .int 0, .int 0, .int 0, .null])), (ml, .inr (4, [.int 0, .ref e0, .int 0]))]) [0, 1] (by decide) rfl
  have hKc := hK.sub (tys' := []) [] rfl
  have hFc := va_free (wc := [(xm, .inr (20, [.int 0, .int 0, .ref kn, .int 0, .int 0, .int 0, .ref ml, .ref cl, .ref rg, .ref tR, .ref (aK 0), .ref (aK 0), .ref fl, .int 0, .int 0, .int 0, .int 0, .int 0, .int 0, .int 0, .null])), (ml, .inr (4, [.int 0, .ref e0, .int 0]))]) hD hS hA [0, 1] rfl
  refine va_calli (va_runV (As := [.int s1]) (rest := []) ⟨hx, hb, hml, hown, hts⟩ (c_X15_runsOf l dC dI xm ml cl fl kn rg tR e0 aK aV s1 H.size) (cwV 1 hts gL_law_X15_runsOf rfl rfl rfl (by decide +kernel) ⟨Nat.le_of_ble_eq_true rfl, Nat.le_of_ble_eq_true rfl⟩) (pcV hPc hDc hKc hN (ci := 20) (q0 := 0) rfl rfl) rfl rfl hl.1 rfl (lv_room (Nat.le_of_ble_eq_true rfl)) dL_law_981 ⟨Nat.le_of_ble_eq_true rfl, Nat.le_of_ble_eq_true rfl⟩) hS (fun q _ h => hFc q h) hFc (fun r_7 u t H1 locs ht hvm hw_8 hB hz1 hk1 hS => ?_)
  obtain ⟨hP1, hK1, hD1⟩ := hB
  rw [ht] at hP1
  try dsimp only at hw_8
  obtain ⟨hP, hD⟩ := va_join (wr := [(ou, .inl (cL, 1, .inr (.inl of_2)))]) (w1 := [(xm, .inr (20, u))]) hP hD [0, 1] [2] rfl rfl (by decide) (by decide) hk1 hFc hP1 hD1
  generalize H1 = H at hP hS ⊢
  have hP : va_P (dC, dI) vwCl [(ou, .inl (cL, 1, .inr (.inl of_2))), (xm, .inr (20, u))] H := hP
  have hD : va_D A [(ou, .inl (cL, 1, .inr (.inl of_2))), (xm, .inr (20, u))] := hD
  obtain ⟨fs_6, efs_6⟩ : ∃ z, z = u := ⟨_, rfl⟩
  subst efs_6
  have hP : va_P (dC, dI) vwCl [(ou, .inl (cL, 1, .inr (.inl of_2))), (xm, .inr (20, fs_6))] H := hP
  have hD : va_D A [(ou, .inl (cL, 1, .inr (.inl of_2))), (xm, .inr (20, fs_6))] := hD
  refine lv_istore (lv' := [(7, .int r_7), (6, .int 1), (0, .ref b), (1, .ref ya), (2, .ref xm), (3, .ref ou), (4, .ref od), (5, .int 0)]) hx hb dL_law_984 hl (by decide) rfl (fun ls hl => ?_)
  refine lv_aload_n hx hb dL_law_986 rfl (lv_at hl 4 rfl) ?_
  have hPc := hP.sub (ws' := [(xm, .inr (20, fs_6))]) [1] rfl
  have hDc := hD.sub (ws' := [(xm, .inr (20, fs_6))]) [1] (by decide) rfl
  have hKc := hK.sub (tys' := []) [] rfl
  have hFc := va_free (wc := [(xm, .inr (20, fs_6))]) hD hS hA [1] rfl
  refine va_calli (va_runV (As := []) (rest := []) ⟨hx, hb, hml, hown, hts⟩ (c_X15_thrown l dC dI xm fs_6 1 hw_8 H.size) (cwV 0 hts gL_law_X15_thrown rfl rfl rfl (by decide +kernel) ⟨Nat.le_of_ble_eq_true rfl, Nat.le_of_ble_eq_true rfl⟩) (pcV hPc hDc hKc hN (ci := 20) (q0 := 0) rfl rfl) rfl rfl hl.1 rfl (lv_room (Nat.le_of_ble_eq_true rfl)) dL_law_987 ⟨Nat.le_of_ble_eq_true rfl, Nat.le_of_ble_eq_true rfl⟩) hS (fun q _ h => hFc q h) hFc (fun r_9 u t H1 locs ht hvm hw_10 hB hz1 hk1 hS => ?_)
  obtain ⟨hP1, hK1, hD1⟩ := hB
  rw [ht] at hP1
  try dsimp only at hw_10
  obtain ⟨hP, hD⟩ := va_join (wr := [(ou, .inl (cL, 1, .inr (.inl of_2)))]) (w1 := []) hP hD [1] [0] rfl rfl (by decide) (by decide) hk1 hFc hP1 hD1
  generalize H1 = H at hP hS ⊢
  have hP : va_P (dC, dI) vwCl [(ou, .inl (cL, 1, .inr (.inl of_2)))] H := hP
  have hD : va_D A [(ou, .inl (cL, 1, .inr (.inl of_2)))] := hD
  obtain rfl : r_9 = 1 := hw_10
  refine lv_iload hx hb dL_law_990 (lv_at hl 1 rfl) ?_
  refine lv_icmp_eq (tgt := 997) hx hb dL_law_992 (by decide) (fun c992_11 => ?_) (fun c992_11 => ?_)
  · refine lv_iload hx hb dL_law_997 (lv_at hl 1 rfl) ?_
    refine lv_if_ne (tgt := 1014) hx hb dL_law_999 (by decide) (fun c999_12 => ?_) (fun c999_12 => ?_)
    · refine lv_goto (tgt := 2778) hx hb dL_law_1014 (by decide) ?_
      refine W.widen (k := 600006) (n := 7302039) (Nat.le_of_ble_eq_true rfl) (Nat.le_of_ble_eq_true rfl) ?_
      exact law_end hx hb hr hml hX hbl hlocks hbA hAo hS (lv_sub hl [2, 7] rfl)
    · exact absurd c999_12 (by decide)
  · exact (c992_11 (by decide)).elim

set_option maxHeartbeats 8000000 in
set_option maxRecDepth 100000 in
/-- the law: law_11_decide -/
theorem law_11_decide {p : Program} {e : Env} {s : State} {m : MethodId} {below : List Frame} {meth : Method} {c : Code} {l : Launch} {b : Nat} {xs : Nat → Int32} (hx : p.tables.exec = Jvm.exec) (hb : c.code = cL_law) (hr : meth.sig.returnType = ret) (hml : c.maxLocals = 9) (hfl : l.stackTraces = false) (hown : s.vm.findClass RL = some m.cls) (hts : ∀ w ∈ wsL_law, w.before #[Value.ref b] s = true) (hX : va_X b 7 xs s s.heap) (hbl : b < s.heap.size) (hlocks : meth.locks = false) {A : Nat → Prop} (hbA : ¬ A b) (hAo : ∀ q, A q → s.heap.size ≤ q) (hA : ∀ q : Nat, s.heap.size ≤ q → A q) (dC : Nat → ClassId) (dI : Nat → Nat → Nat) (hN : nwA s) (e0 : Nat) (aK aV : Nat → Nat) (hZ : zX A s s.heap ∧ zM e0 aK aV A s s.heap) (ya ms ju rj tj ro rn tn rh th ca sa da xa wb z1 z2 jt z3 br z4 z5 z6 lk z7 z8 li bm l2 z9 bo h2 mm l1 z10 oo h1 ct cr cu cg cp co tg ts tr tk te fw fo fu xm ml cl fl rg tR ou od kn : Nat) (cI cM cS cL cD cB : ClassId) {H : Heap} {locs : List Loc} (hP : va_P (dC, dI) vwCl [(ya, .inr (16, [.ref ms, .int 0, .ref ju, .ref li, .ref ct, .ref tg, .ref fw])), (ou, .inl (cL, 1, .inr (.inl (fun _ => 0)))), (xm, .inr (20, [.int 0, .int 0, .ref kn, .int 0, .int 0, .int 0, .ref ml, .ref cl, .ref rg, .ref tR, .ref (aK 0), .ref (aK 0), .ref fl, .int 0, .int 0, .int 0, .int 0, .int 0, .int 0, .int 0, .null])), (ml, .inr (4, [.int 0, .ref e0, .int 0]))] H) (hD : va_D A [(ya, .inr (16, [.ref ms, .int 0, .ref ju, .ref li, .ref ct, .ref tg, .ref fw])), (ou, .inl (cL, 1, .inr (.inl (fun _ => 0)))), (xm, .inr (20, [.int 0, .int 0, .ref kn, .int 0, .int 0, .int 0, .ref ml, .ref cl, .ref rg, .ref tR, .ref (aK 0), .ref (aK 0), .ref fl, .int 0, .int 0, .int 0, .int 0, .int 0, .int 0, .int 0, .null])), (ml, .inr (4, [.int 0, .ref e0, .int 0]))]) (hK : va_K (dC, dI) vwCl [(cL, .long)] s) (hS : va_S A s.heap H locs) {ls : Array Slot} (hl : lv_has ls 9 [(0, .ref b), (1, .ref ya), (2, .ref xm), (3, .ref ou), (4, .ref od), (5, .int 0)]) : W p l e room_1 s m #[Value.ref b] below meth c H locs 200 60000 (lw_Z below #[Value.ref b] s) (F0 m 1017 ls []) := by
  obtain ⟨s1, hs1⟩ : ∃ z, z = xs ((0 : Int32) + 1).toNatClampNeg := ⟨_, rfl⟩
  obtain ⟨s2, hs2⟩ : ∃ z, z = xs ((0 : Int32) + 2).toNatClampNeg := ⟨_, rfl⟩
  obtain ⟨s3, hs3⟩ : ∃ z, z = xs ((0 : Int32) + 3).toNatClampNeg := ⟨_, rfl⟩
  obtain ⟨s4, hs4⟩ : ∃ z, z = xs ((0 : Int32) + 4).toNatClampNeg := ⟨_, rfl⟩
  obtain ⟨s5, hs5⟩ : ∃ z, z = xs ((0 : Int32) + 5).toNatClampNeg := ⟨_, rfl⟩
  obtain ⟨s6, hs6⟩ : ∃ z, z = xs ((0 : Int32) + 6).toNatClampNeg := ⟨_, rfl⟩
  obtain ⟨ch1, hch1⟩ : ∃ z, z = (s1.toUInt32 % 65536).toInt32 := ⟨_, rfl⟩
  obtain ⟨ch2, hch2⟩ : ∃ z, z = (s2.toUInt32 % 65536).toInt32 := ⟨_, rfl⟩
  obtain ⟨ch3, hch3⟩ : ∃ z, z = (s3.toUInt32 % 65536).toInt32 := ⟨_, rfl⟩
  obtain ⟨ch4, hch4⟩ : ∃ z, z = (s4.toUInt32 % 65536).toInt32 := ⟨_, rfl⟩
  obtain ⟨ch5, hch5⟩ : ∃ z, z = (s5.toUInt32 % 65536).toInt32 := ⟨_, rfl⟩
  obtain ⟨ch6, hch6⟩ : ∃ z, z = (s6.toUInt32 % 65536).toInt32 := ⟨_, rfl⟩
  refine lv_aload_n hx hb dL_law_1017 rfl (lv_at hl 1 rfl) ?_
  refine lv_aload_n hx hb dL_law_1018 rfl (lv_at hl 0 rfl) ?_
  refine lv_iload hx hb dL_law_1019 (lv_at hl 5 rfl) ?_
  refine lv_iconst (v := 1) hx hb dL_law_1021 (by decide) ?_
  refine lv_iadd hx hb dL_law_1022 ?_
  refine va_sld hx hb hX hbl hbA hS sx1 dL_law_1023 ?_
  refine lv_topi (fun x_1 ex_1 => ?_)
  obtain rfl : s1 = x_1 := (show x_1 = s1 from ex_1.trans hs1.symm).symm
  refine lv_aload_n hx hb dL_law_1024 rfl (lv_at hl 0 rfl) ?_
  refine lv_iload hx hb dL_law_1025 (lv_at hl 5 rfl) ?_
  refine lv_iconst (v := 2) hx hb dL_law_1027 (by decide) ?_
  refine lv_iadd hx hb dL_law_1028 ?_
  refine va_sld hx hb hX hbl hbA hS sx2 dL_law_1029 ?_
  refine lv_topi (fun x_2 ex_2 => ?_)
  obtain rfl : s2 = x_2 := (show x_2 = s2 from ex_2.trans hs2.symm).symm
  refine lv_i2c hx hb dL_law_1030 rfl ?_
  refine lv_topi (fun x_3 ex_3 => ?_)
  obtain rfl : ch2 = x_3 := (show x_3 = ch2 from ex_3.trans hch2.symm).symm
  refine lv_aload_n hx hb dL_law_1031 rfl (lv_at hl 0 rfl) ?_
  refine lv_iload hx hb dL_law_1032 (lv_at hl 5 rfl) ?_
  refine lv_iconst (v := 3) hx hb dL_law_1034 (by decide) ?_
  refine lv_iadd hx hb dL_law_1035 ?_
  refine va_sld hx hb hX hbl hbA hS sx3 dL_law_1036 ?_
  refine lv_topi (fun x_4 ex_4 => ?_)
  obtain rfl : s3 = x_4 := (show x_4 = s3 from ex_4.trans hs3.symm).symm
  refine lv_aload_n hx hb dL_law_1037 rfl (lv_at hl 3 rfl) ?_
  have hPc := hP.sub (ws' := [(ya, .inr (16, [.ref ms, .int 0, .ref ju, .ref li, .ref ct, .ref tg, .ref fw])), (ou, .inl (cL, 1, .inr (.inl (fun _ => 0))))]) [0, 1] rfl
  have hDc := hD.sub (ws' := [(ya, .inr (16, [.ref ms, .int 0, .ref ju, .ref li, .ref ct, .ref tg, .ref fw])), (ou, .inl (cL, 1, .inr (.inl (fun _ => 0))))]) [0, 1] (by decide) rfl
  have hKc := hK.sub (tys' := [(cL, .long)]) [0] rfl
  have hFc := va_free (wc := [(ya, .inr (16, [.ref ms, .int 0, .ref ju, .ref li, .ref ct, .ref tg, .ref fw])), (ou, .inl (cL, 1, .inr (.inl (fun _ => 0))))]) hD hS hA [0, 1] rfl
  refine vx_calli (vx_runSX (As := [.ref ya, .int s1, .int ch2, .int s3, .ref ou]) (rest := []) ⟨hx, hb, hml, hown, hts⟩ (c_L_decide l hfl dC dI ya ms ju li ct tg fw s1 ch2 s3 cL ou (fun _ => 0) H.size) (vx_cwSW 5 hts gL_law_L_decide rfl rfl rfl (by decide +kernel) ⟨Nat.le_of_ble_eq_true rfl, Nat.le_of_ble_eq_true rfl⟩) (pcSz (zX_ok) hPc hDc hKc hN hZ.1 hS hFc) rfl rfl hl.1 rfl (lv_room (Nat.le_of_ble_eq_true rfl)) dL_law_1038 ⟨Nat.le_of_ble_eq_true rfl, Nat.le_of_ble_eq_true rfl⟩) hS (fun q _ h => hFc q h) hFc (fun q _ h => hFc q h) (fun E9 ce9 q9 u9 t9 H9 locs9 ht9 hvm9 hp9 hE9 hz9 hk9 hS9 hc9 hv9 hcl9 => hE9.elim) (fun r_6 u t H1 locs ht hvm hw_7 hB hz1 hk1 hS => ?_)
  obtain ⟨hP1, hK1, hD1⟩ := hB
  rw [ht] at hP1
  try dsimp only at hw_7
  obtain ⟨hP, hD⟩ := va_join (wr := [(xm, .inr (20, [.int 0, .int 0, .ref kn, .int 0, .int 0, .int 0, .ref ml, .ref cl, .ref rg, .ref tR, .ref (aK 0), .ref (aK 0), .ref fl, .int 0, .int 0, .int 0, .int 0, .int 0, .int 0, .int 0, .null])), (ml, .inr (4, [.int 0, .ref e0, .int 0]))]) (w1 := [(ou, .inl (cL, 1, .inr (.inl u)))]) hP hD [0, 1] [2, 3] rfl rfl (by decide) (by decide) hk1 hFc hP1 hD1
  generalize H1 = H at hP hS ⊢
  have hP : va_P (dC, dI) vwCl [(xm, .inr (20, [.int 0, .int 0, .ref kn, .int 0, .int 0, .int 0, .ref ml, .ref cl, .ref rg, .ref tR, .ref (aK 0), .ref (aK 0), .ref fl, .int 0, .int 0, .int 0, .int 0, .int 0, .int 0, .int 0, .null])), (ml, .inr (4, [.int 0, .ref e0, .int 0])), (ou, .inl (cL, 1, .inr (.inl u)))] H := hP
  have hD : va_D A [(xm, .inr (20, [.int 0, .int 0, .ref kn, .int 0, .int 0, .int 0, .ref ml, .ref cl, .ref rg, .ref tR, .ref (aK 0), .ref (aK 0), .ref fl, .int 0, .int 0, .int 0, .int 0, .int 0, .int 0, .int 0, .null])), (ml, .inr (4, [.int 0, .ref e0, .int 0])), (ou, .inl (cL, 1, .inr (.inl u)))] := hD
  refine W.widen (k := 201) (n := 60006) (Nat.le_of_ble_eq_true rfl) (Nat.le_of_ble_eq_true rfl) ?_
  obtain ⟨of_5, eof_5⟩ : ∃ z, z = u := ⟨_, rfl⟩
  subst eof_5
  have hP : va_P (dC, dI) vwCl [(xm, .inr (20, [.int 0, .int 0, .ref kn, .int 0, .int 0, .int 0, .ref ml, .ref cl, .ref rg, .ref tR, .ref (aK 0), .ref (aK 0), .ref fl, .int 0, .int 0, .int 0, .int 0, .int 0, .int 0, .int 0, .null])), (ml, .inr (4, [.int 0, .ref e0, .int 0])), (ou, .inl (cL, 1, .inr (.inl of_5)))] H := hP
  have hD : va_D A [(xm, .inr (20, [.int 0, .int 0, .ref kn, .int 0, .int 0, .int 0, .ref ml, .ref cl, .ref rg, .ref tR, .ref (aK 0), .ref (aK 0), .ref fl, .int 0, .int 0, .int 0, .int 0, .int 0, .int 0, .int 0, .null])), (ml, .inr (4, [.int 0, .ref e0, .int 0])), (ou, .inl (cL, 1, .inr (.inl of_5)))] := hD
  obtain rfl : r_6 = 1 := hw_7
  refine lv_istore (lv' := [(6, .int 1), (0, .ref b), (1, .ref ya), (2, .ref xm), (3, .ref ou), (4, .ref od), (5, .int 0)]) hx hb dL_law_1041 hl (by decide) rfl (fun ls hl => ?_)
  refine lv_aload_n hx hb dL_law_1043 rfl (lv_at hl 3 rfl) ?_
  refine lv_aload_n hx hb dL_law_1044 rfl (lv_at hl 1 rfl) ?_
  refine lv_iload hx hb dL_law_1045 (lv_at hl 6 rfl) ?_
  refine lv_iconst (v := 1) hx hb dL_law_1047 (by decide) ?_
  refine lv_iadd hx hb dL_law_1048 ?_
  refine va_sld hx hb hX hbl hbA hS sx1 dL_law_1049 ?_
  refine lv_topi (fun x_8 ex_8 => ?_)
  obtain rfl : s1 = x_8 := (show x_8 = s1 from ex_8.trans hs1.symm).symm
  refine lv_aload_n hx hb dL_law_1050 rfl (lv_at hl 1 rfl) ?_
  refine lv_iload hx hb dL_law_1051 (lv_at hl 6 rfl) ?_
  refine lv_iconst (v := 2) hx hb dL_law_1053 (by decide) ?_
  refine lv_iadd hx hb dL_law_1054 ?_
  refine va_sld hx hb hX hbl hbA hS sx2 dL_law_1055 ?_
  refine lv_topi (fun x_9 ex_9 => ?_)
  obtain rfl : s2 = x_9 := (show x_9 = s2 from ex_9.trans hs2.symm).symm
  refine lv_i2c hx hb dL_law_1056 rfl ?_
  refine lv_topi (fun x_10 ex_10 => ?_)
  obtain rfl : ch2 = x_10 := (show x_10 = ch2 from ex_10.trans hch2.symm).symm
  refine lv_aload_n hx hb dL_law_1057 rfl (lv_at hl 1 rfl) ?_
  refine lv_iload hx hb dL_law_1058 (lv_at hl 6 rfl) ?_
  refine lv_iconst (v := 3) hx hb dL_law_1060 (by decide) ?_
  refine lv_iadd hx hb dL_law_1061 ?_
  refine va_sld hx hb hX hbl hbA hS sx3 dL_law_1062 ?_
  refine lv_topi (fun x_11 ex_11 => ?_)
  obtain rfl : s3 = x_11 := (show x_11 = s3 from ex_11.trans hs3.symm).symm
  have hPc := hP.sub (ws' := [(xm, .inr (20, [.int 0, .int 0, .ref kn, .int 0, .int 0, .int 0, .ref ml, .ref cl, .ref rg, .ref tR, .ref (aK 0), .ref (aK 0), .ref fl, .int 0, .int 0, .int 0, .int 0, .int 0, .int 0, .int 0, .null])), (ml, .inr (4, [.int 0, .ref e0, .int 0]))]) [0, 1] rfl
  have hDc := hD.sub (ws' := [(xm, .inr (20, [.int 0, .int 0, .ref kn, .int 0, .int 0, .int 0, .ref ml, .ref cl, .ref rg, .ref tR, .ref (aK 0), .ref (aK 0), .ref fl, .int 0, .int 0, .int 0, .int 0, .int 0, .int 0, .int 0, .null])), (ml, .inr (4, [.int 0, .ref e0, .int 0]))]) [0, 1] (by decide) rfl
  have hKc := hK.sub (tys' := []) [] rfl
  have hFc := va_free (wc := [(xm, .inr (20, [.int 0, .int 0, .ref kn, .int 0, .int 0, .int 0, .ref ml, .ref cl, .ref rg, .ref tR, .ref (aK 0), .ref (aK 0), .ref fl, .int 0, .int 0, .int 0, .int 0, .int 0, .int 0, .int 0, .null])), (ml, .inr (4, [.int 0, .ref e0, .int 0]))]) hD hS hA [0, 1] rfl
  refine va_calli (va_runV (As := [.int s1, .int ch2, .int s3]) (rest := []) ⟨hx, hb, hml, hown, hts⟩ (c_X15_decide l dC dI xm ml cl fl kn rg tR e0 aK aV s1 ch2 s3 H.size) (cwV 3 hts gL_law_X15_decide rfl rfl rfl (by decide +kernel) ⟨Nat.le_of_ble_eq_true rfl, Nat.le_of_ble_eq_true rfl⟩) (pcV hPc hDc hKc hN (ci := 20) (q0 := 0) rfl rfl) rfl rfl hl.1 rfl (lv_room (Nat.le_of_ble_eq_true rfl)) dL_law_1063 ⟨Nat.le_of_ble_eq_true rfl, Nat.le_of_ble_eq_true rfl⟩) hS (fun q _ h => hFc q h) hFc (fun r_13 u t H1 locs ht hvm hw_14 hB hz1 hk1 hS => ?_)
  obtain ⟨hP1, hK1, hD1⟩ := hB
  rw [ht] at hP1
  try dsimp only at hw_14
  obtain ⟨hP, hD⟩ := va_join (wr := [(ou, .inl (cL, 1, .inr (.inl of_5)))]) (w1 := [(xm, .inr (20, u))]) hP hD [0, 1] [2] rfl rfl (by decide) (by decide) hk1 hFc hP1 hD1
  generalize H1 = H at hP hS ⊢
  have hP : va_P (dC, dI) vwCl [(ou, .inl (cL, 1, .inr (.inl of_5))), (xm, .inr (20, u))] H := hP
  have hD : va_D A [(ou, .inl (cL, 1, .inr (.inl of_5))), (xm, .inr (20, u))] := hD
  obtain ⟨fs_12, efs_12⟩ : ∃ z, z = u := ⟨_, rfl⟩
  subst efs_12
  have hP : va_P (dC, dI) vwCl [(ou, .inl (cL, 1, .inr (.inl of_5))), (xm, .inr (20, fs_12))] H := hP
  have hD : va_D A [(ou, .inl (cL, 1, .inr (.inl of_5))), (xm, .inr (20, fs_12))] := hD
  refine lv_istore (lv' := [(7, .int r_13), (6, .int 1), (0, .ref b), (1, .ref ya), (2, .ref xm), (3, .ref ou), (4, .ref od), (5, .int 0)]) hx hb dL_law_1066 hl (by decide) rfl (fun ls hl => ?_)
  refine lv_aload_n hx hb dL_law_1068 rfl (lv_at hl 4 rfl) ?_
  have hPc := hP.sub (ws' := [(xm, .inr (20, fs_12))]) [1] rfl
  have hDc := hD.sub (ws' := [(xm, .inr (20, fs_12))]) [1] (by decide) rfl
  have hKc := hK.sub (tys' := []) [] rfl
  have hFc := va_free (wc := [(xm, .inr (20, fs_12))]) hD hS hA [1] rfl
  refine va_calli (va_runV (As := []) (rest := []) ⟨hx, hb, hml, hown, hts⟩ (c_X15_thrown l dC dI xm fs_12 1 hw_14 H.size) (cwV 0 hts gL_law_X15_thrown rfl rfl rfl (by decide +kernel) ⟨Nat.le_of_ble_eq_true rfl, Nat.le_of_ble_eq_true rfl⟩) (pcV hPc hDc hKc hN (ci := 20) (q0 := 0) rfl rfl) rfl rfl hl.1 rfl (lv_room (Nat.le_of_ble_eq_true rfl)) dL_law_1069 ⟨Nat.le_of_ble_eq_true rfl, Nat.le_of_ble_eq_true rfl⟩) hS (fun q _ h => hFc q h) hFc (fun r_15 u t H1 locs ht hvm hw_16 hB hz1 hk1 hS => ?_)
  obtain ⟨hP1, hK1, hD1⟩ := hB
  rw [ht] at hP1
  try dsimp only at hw_16
  obtain ⟨hP, hD⟩ := va_join (wr := [(ou, .inl (cL, 1, .inr (.inl of_5)))]) (w1 := []) hP hD [1] [0] rfl rfl (by decide) (by decide) hk1 hFc hP1 hD1
  generalize H1 = H at hP hS ⊢
  have hP : va_P (dC, dI) vwCl [(ou, .inl (cL, 1, .inr (.inl of_5)))] H := hP
  have hD : va_D A [(ou, .inl (cL, 1, .inr (.inl of_5)))] := hD
  obtain rfl : r_15 = 1 := hw_16
  refine lv_iload hx hb dL_law_1072 (lv_at hl 1 rfl) ?_
  refine lv_icmp_eq (tgt := 1079) hx hb dL_law_1074 (by decide) (fun c1074_17 => ?_) (fun c1074_17 => ?_)
  · refine lv_iload hx hb dL_law_1079 (lv_at hl 1 rfl) ?_
    refine lv_if_ne (tgt := 1103) hx hb dL_law_1081 (by decide) (fun c1081_18 => ?_) (fun c1081_18 => ?_)
    · refine lv_goto (tgt := 2778) hx hb dL_law_1103 (by decide) ?_
      refine W.widen (k := 600006) (n := 7302039) (Nat.le_of_ble_eq_true rfl) (Nat.le_of_ble_eq_true rfl) ?_
      exact law_end hx hb hr hml hX hbl hlocks hbA hAo hS (lv_sub hl [2, 7] rfl)
    · exact absurd c1081_18 (by decide)
  · exact (c1074_17 (by decide)).elim

set_option maxHeartbeats 8000000 in
set_option maxRecDepth 100000 in
/-- the law: law_12_verdict -/
theorem law_12_verdict {p : Program} {e : Env} {s : State} {m : MethodId} {below : List Frame} {meth : Method} {c : Code} {l : Launch} {b : Nat} {xs : Nat → Int32} (hx : p.tables.exec = Jvm.exec) (hb : c.code = cL_law) (hr : meth.sig.returnType = ret) (hml : c.maxLocals = 9) (hfl : l.stackTraces = false) (hown : s.vm.findClass RL = some m.cls) (hts : ∀ w ∈ wsL_law, w.before #[Value.ref b] s = true) (hX : va_X b 7 xs s s.heap) (hbl : b < s.heap.size) (hlocks : meth.locks = false) {A : Nat → Prop} (hbA : ¬ A b) (hAo : ∀ q, A q → s.heap.size ≤ q) (hA : ∀ q : Nat, s.heap.size ≤ q → A q) (dC : Nat → ClassId) (dI : Nat → Nat → Nat) (hN : nwA s) (e0 : Nat) (aK aV : Nat → Nat) (hZ : zX A s s.heap ∧ zM e0 aK aV A s s.heap) (ya ms ju rj tj ro rn tn rh th ca sa da xa wb z1 z2 jt z3 br z4 z5 z6 lk z7 z8 li bm l2 z9 bo h2 mm l1 z10 oo h1 ct cr cu cg cp co tg ts tr tk te fw fo fu xm ml cl fl rg tR ou od kn : Nat) (cI cM cS cL cD cB : ClassId) {H : Heap} {locs : List Loc} (hP : va_P (dC, dI) vwCl [(ya, .inr (16, [.ref ms, .int 0, .ref ju, .ref li, .ref ct, .ref tg, .ref fw])), (ou, .inl (cL, 1, .inr (.inl (fun _ => 0)))), (xm, .inr (20, [.int 0, .int 0, .ref kn, .int 0, .int 0, .int 0, .ref ml, .ref cl, .ref rg, .ref tR, .ref (aK 0), .ref (aK 0), .ref fl, .int 0, .int 0, .int 0, .int 0, .int 0, .int 0, .int 0, .null])), (ml, .inr (4, [.int 0, .ref e0, .int 0]))] H) (hD : va_D A [(ya, .inr (16, [.ref ms, .int 0, .ref ju, .ref li, .ref ct, .ref tg, .ref fw])), (ou, .inl (cL, 1, .inr (.inl (fun _ => 0)))), (xm, .inr (20, [.int 0, .int 0, .ref kn, .int 0, .int 0, .int 0, .ref ml, .ref cl, .ref rg, .ref tR, .ref (aK 0), .ref (aK 0), .ref fl, .int 0, .int 0, .int 0, .int 0, .int 0, .int 0, .int 0, .null])), (ml, .inr (4, [.int 0, .ref e0, .int 0]))]) (hK : va_K (dC, dI) vwCl [(cL, .long)] s) (hS : va_S A s.heap H locs) {ls : Array Slot} (hl : lv_has ls 9 [(0, .ref b), (1, .ref ya), (2, .ref xm), (3, .ref ou), (4, .ref od), (5, .int 0)]) : W p l e room_1 s m #[Value.ref b] below meth c H locs 200 60000 (lw_Z below #[Value.ref b] s) (F0 m 1106 ls []) := by
  obtain ⟨s1, hs1⟩ : ∃ z, z = xs ((0 : Int32) + 1).toNatClampNeg := ⟨_, rfl⟩
  obtain ⟨s2, hs2⟩ : ∃ z, z = xs ((0 : Int32) + 2).toNatClampNeg := ⟨_, rfl⟩
  obtain ⟨s3, hs3⟩ : ∃ z, z = xs ((0 : Int32) + 3).toNatClampNeg := ⟨_, rfl⟩
  obtain ⟨s4, hs4⟩ : ∃ z, z = xs ((0 : Int32) + 4).toNatClampNeg := ⟨_, rfl⟩
  obtain ⟨s5, hs5⟩ : ∃ z, z = xs ((0 : Int32) + 5).toNatClampNeg := ⟨_, rfl⟩
  obtain ⟨s6, hs6⟩ : ∃ z, z = xs ((0 : Int32) + 6).toNatClampNeg := ⟨_, rfl⟩
  obtain ⟨ch1, hch1⟩ : ∃ z, z = (s1.toUInt32 % 65536).toInt32 := ⟨_, rfl⟩
  obtain ⟨ch2, hch2⟩ : ∃ z, z = (s2.toUInt32 % 65536).toInt32 := ⟨_, rfl⟩
  obtain ⟨ch3, hch3⟩ : ∃ z, z = (s3.toUInt32 % 65536).toInt32 := ⟨_, rfl⟩
  obtain ⟨ch4, hch4⟩ : ∃ z, z = (s4.toUInt32 % 65536).toInt32 := ⟨_, rfl⟩
  obtain ⟨ch5, hch5⟩ : ∃ z, z = (s5.toUInt32 % 65536).toInt32 := ⟨_, rfl⟩
  obtain ⟨ch6, hch6⟩ : ∃ z, z = (s6.toUInt32 % 65536).toInt32 := ⟨_, rfl⟩
  refine lv_aload_n hx hb dL_law_1106 rfl (lv_at hl 1 rfl) ?_
  refine lv_aload_n hx hb dL_law_1107 rfl (lv_at hl 0 rfl) ?_
  refine lv_iload hx hb dL_law_1108 (lv_at hl 5 rfl) ?_
  refine lv_iconst (v := 1) hx hb dL_law_1110 (by decide) ?_
  refine lv_iadd hx hb dL_law_1111 ?_
  refine va_sld hx hb hX hbl hbA hS sx1 dL_law_1112 ?_
  refine lv_topi (fun x_1 ex_1 => ?_)
  obtain rfl : s1 = x_1 := (show x_1 = s1 from ex_1.trans hs1.symm).symm
  refine lv_aload_n hx hb dL_law_1113 rfl (lv_at hl 3 rfl) ?_
  have hPc := hP.sub (ws' := [(ya, .inr (16, [.ref ms, .int 0, .ref ju, .ref li, .ref ct, .ref tg, .ref fw])), (ou, .inl (cL, 1, .inr (.inl (fun _ => 0))))]) [0, 1] rfl
  have hDc := hD.sub (ws' := [(ya, .inr (16, [.ref ms, .int 0, .ref ju, .ref li, .ref ct, .ref tg, .ref fw])), (ou, .inl (cL, 1, .inr (.inl (fun _ => 0))))]) [0, 1] (by decide) rfl
  have hKc := hK.sub (tys' := [(cL, .long)]) [0] rfl
  have hFc := va_free (wc := [(ya, .inr (16, [.ref ms, .int 0, .ref ju, .ref li, .ref ct, .ref tg, .ref fw])), (ou, .inl (cL, 1, .inr (.inl (fun _ => 0))))]) hD hS hA [0, 1] rfl
  refine vx_calli (vx_runSX (As := [.ref ya, .int s1, .ref ou]) (rest := []) ⟨hx, hb, hml, hown, hts⟩ (c_L_verdict l hfl dC dI ya ms ju li ct tg fw s1 cL ou (fun _ => 0) H.size) (vx_cwSW 3 hts gL_law_L_verdict rfl rfl rfl (by decide +kernel) ⟨Nat.le_of_ble_eq_true rfl, Nat.le_of_ble_eq_true rfl⟩) (pcSz (zX_ok) hPc hDc hKc hN hZ.1 hS hFc) rfl rfl hl.1 rfl (lv_room (Nat.le_of_ble_eq_true rfl)) dL_law_1114 ⟨Nat.le_of_ble_eq_true rfl, Nat.le_of_ble_eq_true rfl⟩) hS (fun q _ h => hFc q h) hFc (fun q _ h => hFc q h) (fun E9 ce9 q9 u9 t9 H9 locs9 ht9 hvm9 hp9 hE9 hz9 hk9 hS9 hc9 hv9 hcl9 => hE9.elim) (fun r_3 u t H1 locs ht hvm hw_4 hB hz1 hk1 hS => ?_)
  obtain ⟨hP1, hK1, hD1⟩ := hB
  rw [ht] at hP1
  try dsimp only at hw_4
  obtain ⟨hP, hD⟩ := va_join (wr := [(xm, .inr (20, [.int 0, .int 0, .ref kn, .int 0, .int 0, .int 0, .ref ml, .ref cl, .ref rg, .ref tR, .ref (aK 0), .ref (aK 0), .ref fl, .int 0, .int 0, .int 0, .int 0, .int 0, .int 0, .int 0, .null])), (ml, .inr (4, [.int 0, .ref e0, .int 0]))]) (w1 := [(ou, .inl (cL, 1, .inr (.inl u)))]) hP hD [0, 1] [2, 3] rfl rfl (by decide) (by decide) hk1 hFc hP1 hD1
  generalize H1 = H at hP hS ⊢
  have hP : va_P (dC, dI) vwCl [(xm, .inr (20, [.int 0, .int 0, .ref kn, .int 0, .int 0, .int 0, .ref ml, .ref cl, .ref rg, .ref tR, .ref (aK 0), .ref (aK 0), .ref fl, .int 0, .int 0, .int 0, .int 0, .int 0, .int 0, .int 0, .null])), (ml, .inr (4, [.int 0, .ref e0, .int 0])), (ou, .inl (cL, 1, .inr (.inl u)))] H := hP
  have hD : va_D A [(xm, .inr (20, [.int 0, .int 0, .ref kn, .int 0, .int 0, .int 0, .ref ml, .ref cl, .ref rg, .ref tR, .ref (aK 0), .ref (aK 0), .ref fl, .int 0, .int 0, .int 0, .int 0, .int 0, .int 0, .int 0, .null])), (ml, .inr (4, [.int 0, .ref e0, .int 0])), (ou, .inl (cL, 1, .inr (.inl u)))] := hD
  refine W.widen (k := 201) (n := 60006) (Nat.le_of_ble_eq_true rfl) (Nat.le_of_ble_eq_true rfl) ?_
  obtain ⟨of_2, eof_2⟩ : ∃ z, z = u := ⟨_, rfl⟩
  subst eof_2
  have hP : va_P (dC, dI) vwCl [(xm, .inr (20, [.int 0, .int 0, .ref kn, .int 0, .int 0, .int 0, .ref ml, .ref cl, .ref rg, .ref tR, .ref (aK 0), .ref (aK 0), .ref fl, .int 0, .int 0, .int 0, .int 0, .int 0, .int 0, .int 0, .null])), (ml, .inr (4, [.int 0, .ref e0, .int 0])), (ou, .inl (cL, 1, .inr (.inl of_2)))] H := hP
  have hD : va_D A [(xm, .inr (20, [.int 0, .int 0, .ref kn, .int 0, .int 0, .int 0, .ref ml, .ref cl, .ref rg, .ref tR, .ref (aK 0), .ref (aK 0), .ref fl, .int 0, .int 0, .int 0, .int 0, .int 0, .int 0, .int 0, .null])), (ml, .inr (4, [.int 0, .ref e0, .int 0])), (ou, .inl (cL, 1, .inr (.inl of_2)))] := hD
  obtain rfl : r_3 = 1 := hw_4
  refine lv_istore (lv' := [(6, .int 1), (0, .ref b), (1, .ref ya), (2, .ref xm), (3, .ref ou), (4, .ref od), (5, .int 0)]) hx hb dL_law_1117 hl (by decide) rfl (fun ls hl => ?_)
  refine lv_aload_n hx hb dL_law_1119 rfl (lv_at hl 3 rfl) ?_
  refine lv_aload_n hx hb dL_law_1120 rfl (lv_at hl 1 rfl) ?_
  refine lv_iload hx hb dL_law_1121 (lv_at hl 6 rfl) ?_
  refine lv_iconst (v := 1) hx hb dL_law_1123 (by decide) ?_
  refine lv_iadd hx hb dL_law_1124 ?_
  refine va_sld hx hb hX hbl hbA hS sx1 dL_law_1125 ?_
  refine lv_topi (fun x_5 ex_5 => ?_)
  obtain rfl : s1 = x_5 := (show x_5 = s1 from ex_5.trans hs1.symm).symm
  have hPc := hP.sub (ws' := [(xm, .inr (20, [.int 0, .int 0, .ref kn, .int 0, .int 0, .int 0, .ref ml, .ref cl, .ref rg, .ref tR, .ref (aK 0), .ref (aK 0), .ref fl, .int 0, .int 0, .int 0, .int 0, .int 0, .int 0, .int 0, .null])), (ml, .inr (4, [.int 0, .ref e0, .int 0]))]) [0, 1] rfl
  have hDc := hD.sub (ws' := [(xm, .inr (20, [.int 0, .int 0, .ref kn, .int 0, .int 0, .int 0, .ref ml, .ref cl, .ref rg, .ref tR, .ref (aK 0), .ref (aK 0), .ref fl, .int 0, .int 0, .int 0, .int 0, .int 0, .int 0, .int 0, .null])), (ml, .inr (4, [.int 0, .ref e0, .int 0]))]) [0, 1] (by decide) rfl
  have hKc := hK.sub (tys' := []) [] rfl
  have hFc := va_free (wc := [(xm, .inr (20, [.int 0, .int 0, .ref kn, .int 0, .int 0, .int 0, .ref ml, .ref cl, .ref rg, .ref tR, .ref (aK 0), .ref (aK 0), .ref fl, .int 0, .int 0, .int 0, .int 0, .int 0, .int 0, .int 0, .null])), (ml, .inr (4, [.int 0, .ref e0, .int 0]))]) hD hS hA [0, 1] rfl
  refine va_calli (va_runV (As := [.int s1]) (rest := []) ⟨hx, hb, hml, hown, hts⟩ (c_X15_verdict l dC dI xm ml cl fl kn rg tR e0 aK aV s1 H.size) (cwV 1 hts gL_law_X15_verdict rfl rfl rfl (by decide +kernel) ⟨Nat.le_of_ble_eq_true rfl, Nat.le_of_ble_eq_true rfl⟩) (pcV hPc hDc hKc hN (ci := 20) (q0 := 0) rfl rfl) rfl rfl hl.1 rfl (lv_room (Nat.le_of_ble_eq_true rfl)) dL_law_1126 ⟨Nat.le_of_ble_eq_true rfl, Nat.le_of_ble_eq_true rfl⟩) hS (fun q _ h => hFc q h) hFc (fun r_7 u t H1 locs ht hvm hw_8 hB hz1 hk1 hS => ?_)
  obtain ⟨hP1, hK1, hD1⟩ := hB
  rw [ht] at hP1
  try dsimp only at hw_8
  obtain ⟨hP, hD⟩ := va_join (wr := [(ou, .inl (cL, 1, .inr (.inl of_2)))]) (w1 := [(xm, .inr (20, u))]) hP hD [0, 1] [2] rfl rfl (by decide) (by decide) hk1 hFc hP1 hD1
  generalize H1 = H at hP hS ⊢
  have hP : va_P (dC, dI) vwCl [(ou, .inl (cL, 1, .inr (.inl of_2))), (xm, .inr (20, u))] H := hP
  have hD : va_D A [(ou, .inl (cL, 1, .inr (.inl of_2))), (xm, .inr (20, u))] := hD
  obtain ⟨fs_6, efs_6⟩ : ∃ z, z = u := ⟨_, rfl⟩
  subst efs_6
  have hP : va_P (dC, dI) vwCl [(ou, .inl (cL, 1, .inr (.inl of_2))), (xm, .inr (20, fs_6))] H := hP
  have hD : va_D A [(ou, .inl (cL, 1, .inr (.inl of_2))), (xm, .inr (20, fs_6))] := hD
  refine lv_istore (lv' := [(7, .int r_7), (6, .int 1), (0, .ref b), (1, .ref ya), (2, .ref xm), (3, .ref ou), (4, .ref od), (5, .int 0)]) hx hb dL_law_1129 hl (by decide) rfl (fun ls hl => ?_)
  refine lv_aload_n hx hb dL_law_1131 rfl (lv_at hl 4 rfl) ?_
  have hPc := hP.sub (ws' := [(xm, .inr (20, fs_6))]) [1] rfl
  have hDc := hD.sub (ws' := [(xm, .inr (20, fs_6))]) [1] (by decide) rfl
  have hKc := hK.sub (tys' := []) [] rfl
  have hFc := va_free (wc := [(xm, .inr (20, fs_6))]) hD hS hA [1] rfl
  refine va_calli (va_runV (As := []) (rest := []) ⟨hx, hb, hml, hown, hts⟩ (c_X15_thrown l dC dI xm fs_6 1 hw_8 H.size) (cwV 0 hts gL_law_X15_thrown rfl rfl rfl (by decide +kernel) ⟨Nat.le_of_ble_eq_true rfl, Nat.le_of_ble_eq_true rfl⟩) (pcV hPc hDc hKc hN (ci := 20) (q0 := 0) rfl rfl) rfl rfl hl.1 rfl (lv_room (Nat.le_of_ble_eq_true rfl)) dL_law_1132 ⟨Nat.le_of_ble_eq_true rfl, Nat.le_of_ble_eq_true rfl⟩) hS (fun q _ h => hFc q h) hFc (fun r_9 u t H1 locs ht hvm hw_10 hB hz1 hk1 hS => ?_)
  obtain ⟨hP1, hK1, hD1⟩ := hB
  rw [ht] at hP1
  try dsimp only at hw_10
  obtain ⟨hP, hD⟩ := va_join (wr := [(ou, .inl (cL, 1, .inr (.inl of_2)))]) (w1 := []) hP hD [1] [0] rfl rfl (by decide) (by decide) hk1 hFc hP1 hD1
  generalize H1 = H at hP hS ⊢
  have hP : va_P (dC, dI) vwCl [(ou, .inl (cL, 1, .inr (.inl of_2)))] H := hP
  have hD : va_D A [(ou, .inl (cL, 1, .inr (.inl of_2)))] := hD
  obtain rfl : r_9 = 1 := hw_10
  refine lv_iload hx hb dL_law_1135 (lv_at hl 1 rfl) ?_
  refine lv_icmp_eq (tgt := 1142) hx hb dL_law_1137 (by decide) (fun c1137_11 => ?_) (fun c1137_11 => ?_)
  · refine lv_iload hx hb dL_law_1142 (lv_at hl 1 rfl) ?_
    refine lv_if_ne (tgt := 1159) hx hb dL_law_1144 (by decide) (fun c1144_12 => ?_) (fun c1144_12 => ?_)
    · refine lv_goto (tgt := 2778) hx hb dL_law_1159 (by decide) ?_
      refine W.widen (k := 600006) (n := 7302039) (Nat.le_of_ble_eq_true rfl) (Nat.le_of_ble_eq_true rfl) ?_
      exact law_end hx hb hr hml hX hbl hlocks hbA hAo hS (lv_sub hl [2, 7] rfl)
    · exact absurd c1144_12 (by decide)
  · exact (c1137_11 (by decide)).elim

set_option maxHeartbeats 8000000 in
set_option maxRecDepth 100000 in
/-- the law: law_13_certificate -/
theorem law_13_certificate {p : Program} {e : Env} {s : State} {m : MethodId} {below : List Frame} {meth : Method} {c : Code} {l : Launch} {b : Nat} {xs : Nat → Int32} (hx : p.tables.exec = Jvm.exec) (hb : c.code = cL_law) (hr : meth.sig.returnType = ret) (hml : c.maxLocals = 9) (hfl : l.stackTraces = false) (hown : s.vm.findClass RL = some m.cls) (hts : ∀ w ∈ wsL_law, w.before #[Value.ref b] s = true) (hX : va_X b 7 xs s s.heap) (hbl : b < s.heap.size) (hlocks : meth.locks = false) {A : Nat → Prop} (hbA : ¬ A b) (hAo : ∀ q, A q → s.heap.size ≤ q) (hA : ∀ q : Nat, s.heap.size ≤ q → A q) (dC : Nat → ClassId) (dI : Nat → Nat → Nat) (hN : nwA s) (e0 : Nat) (aK aV : Nat → Nat) (hZ : zX A s s.heap ∧ zM e0 aK aV A s s.heap) (ya ms ju rj tj ro rn tn rh th ca sa da xa wb z1 z2 jt z3 br z4 z5 z6 lk z7 z8 li bm l2 z9 bo h2 mm l1 z10 oo h1 ct cr cu cg cp co tg ts tr tk te fw fo fu xm ml cl fl rg tR ou od kn : Nat) (cI cM cS cL cD cB : ClassId) {H : Heap} {locs : List Loc} (hP : va_P (dC, dI) vwCl [(ya, .inr (16, [.ref ms, .int 0, .ref ju, .ref li, .ref ct, .ref tg, .ref fw])), (ou, .inl (cL, 1, .inr (.inl (fun _ => 0)))), (xm, .inr (20, [.int 0, .int 0, .ref kn, .int 0, .int 0, .int 0, .ref ml, .ref cl, .ref rg, .ref tR, .ref (aK 0), .ref (aK 0), .ref fl, .int 0, .int 0, .int 0, .int 0, .int 0, .int 0, .int 0, .null])), (ml, .inr (4, [.int 0, .ref e0, .int 0]))] H) (hD : va_D A [(ya, .inr (16, [.ref ms, .int 0, .ref ju, .ref li, .ref ct, .ref tg, .ref fw])), (ou, .inl (cL, 1, .inr (.inl (fun _ => 0)))), (xm, .inr (20, [.int 0, .int 0, .ref kn, .int 0, .int 0, .int 0, .ref ml, .ref cl, .ref rg, .ref tR, .ref (aK 0), .ref (aK 0), .ref fl, .int 0, .int 0, .int 0, .int 0, .int 0, .int 0, .int 0, .null])), (ml, .inr (4, [.int 0, .ref e0, .int 0]))]) (hK : va_K (dC, dI) vwCl [(cL, .long)] s) (hS : va_S A s.heap H locs) {ls : Array Slot} (hl : lv_has ls 9 [(0, .ref b), (1, .ref ya), (2, .ref xm), (3, .ref ou), (4, .ref od), (5, .int 0)]) : W p l e room_1 s m #[Value.ref b] below meth c H locs 200 60000 (lw_Z below #[Value.ref b] s) (F0 m 1162 ls []) := by
  obtain ⟨s1, hs1⟩ : ∃ z, z = xs ((0 : Int32) + 1).toNatClampNeg := ⟨_, rfl⟩
  obtain ⟨s2, hs2⟩ : ∃ z, z = xs ((0 : Int32) + 2).toNatClampNeg := ⟨_, rfl⟩
  obtain ⟨s3, hs3⟩ : ∃ z, z = xs ((0 : Int32) + 3).toNatClampNeg := ⟨_, rfl⟩
  obtain ⟨s4, hs4⟩ : ∃ z, z = xs ((0 : Int32) + 4).toNatClampNeg := ⟨_, rfl⟩
  obtain ⟨s5, hs5⟩ : ∃ z, z = xs ((0 : Int32) + 5).toNatClampNeg := ⟨_, rfl⟩
  obtain ⟨s6, hs6⟩ : ∃ z, z = xs ((0 : Int32) + 6).toNatClampNeg := ⟨_, rfl⟩
  obtain ⟨ch1, hch1⟩ : ∃ z, z = (s1.toUInt32 % 65536).toInt32 := ⟨_, rfl⟩
  obtain ⟨ch2, hch2⟩ : ∃ z, z = (s2.toUInt32 % 65536).toInt32 := ⟨_, rfl⟩
  obtain ⟨ch3, hch3⟩ : ∃ z, z = (s3.toUInt32 % 65536).toInt32 := ⟨_, rfl⟩
  obtain ⟨ch4, hch4⟩ : ∃ z, z = (s4.toUInt32 % 65536).toInt32 := ⟨_, rfl⟩
  obtain ⟨ch5, hch5⟩ : ∃ z, z = (s5.toUInt32 % 65536).toInt32 := ⟨_, rfl⟩
  obtain ⟨ch6, hch6⟩ : ∃ z, z = (s6.toUInt32 % 65536).toInt32 := ⟨_, rfl⟩
  refine lv_aload_n hx hb dL_law_1162 rfl (lv_at hl 1 rfl) ?_
  refine lv_aload_n hx hb dL_law_1163 rfl (lv_at hl 0 rfl) ?_
  refine lv_iload hx hb dL_law_1164 (lv_at hl 5 rfl) ?_
  refine lv_iconst (v := 1) hx hb dL_law_1166 (by decide) ?_
  refine lv_iadd hx hb dL_law_1167 ?_
  refine va_sld hx hb hX hbl hbA hS sx1 dL_law_1168 ?_
  refine lv_topi (fun x_1 ex_1 => ?_)
  obtain rfl : s1 = x_1 := (show x_1 = s1 from ex_1.trans hs1.symm).symm
  refine lv_aload_n hx hb dL_law_1169 rfl (lv_at hl 0 rfl) ?_
  refine lv_iload hx hb dL_law_1170 (lv_at hl 5 rfl) ?_
  refine lv_iconst (v := 2) hx hb dL_law_1172 (by decide) ?_
  refine lv_iadd hx hb dL_law_1173 ?_
  refine va_sld hx hb hX hbl hbA hS sx2 dL_law_1174 ?_
  refine lv_topi (fun x_2 ex_2 => ?_)
  obtain rfl : s2 = x_2 := (show x_2 = s2 from ex_2.trans hs2.symm).symm
  refine lv_i2c hx hb dL_law_1175 rfl ?_
  refine lv_topi (fun x_3 ex_3 => ?_)
  obtain rfl : ch2 = x_3 := (show x_3 = ch2 from ex_3.trans hch2.symm).symm
  refine lv_aload_n hx hb dL_law_1176 rfl (lv_at hl 3 rfl) ?_
  have hPc := hP.sub (ws' := [(ya, .inr (16, [.ref ms, .int 0, .ref ju, .ref li, .ref ct, .ref tg, .ref fw])), (ou, .inl (cL, 1, .inr (.inl (fun _ => 0))))]) [0, 1] rfl
  have hDc := hD.sub (ws' := [(ya, .inr (16, [.ref ms, .int 0, .ref ju, .ref li, .ref ct, .ref tg, .ref fw])), (ou, .inl (cL, 1, .inr (.inl (fun _ => 0))))]) [0, 1] (by decide) rfl
  have hKc := hK.sub (tys' := [(cL, .long)]) [0] rfl
  have hFc := va_free (wc := [(ya, .inr (16, [.ref ms, .int 0, .ref ju, .ref li, .ref ct, .ref tg, .ref fw])), (ou, .inl (cL, 1, .inr (.inl (fun _ => 0))))]) hD hS hA [0, 1] rfl
  refine vx_calli (vx_runSX (As := [.ref ya, .int s1, .int ch2, .ref ou]) (rest := []) ⟨hx, hb, hml, hown, hts⟩ (c_L_certificate l hfl dC dI ya ms ju li ct tg fw s1 ch2 cL ou (fun _ => 0) H.size) (vx_cwSW 4 hts gL_law_L_certificate rfl rfl rfl (by decide +kernel) ⟨Nat.le_of_ble_eq_true rfl, Nat.le_of_ble_eq_true rfl⟩) (pcSz (zX_ok) hPc hDc hKc hN hZ.1 hS hFc) rfl rfl hl.1 rfl (lv_room (Nat.le_of_ble_eq_true rfl)) dL_law_1177 ⟨Nat.le_of_ble_eq_true rfl, Nat.le_of_ble_eq_true rfl⟩) hS (fun q _ h => hFc q h) hFc (fun q _ h => hFc q h) (fun E9 ce9 q9 u9 t9 H9 locs9 ht9 hvm9 hp9 hE9 hz9 hk9 hS9 hc9 hv9 hcl9 => hE9.elim) (fun r_5 u t H1 locs ht hvm hw_6 hB hz1 hk1 hS => ?_)
  obtain ⟨hP1, hK1, hD1⟩ := hB
  rw [ht] at hP1
  try dsimp only at hw_6
  obtain ⟨hP, hD⟩ := va_join (wr := [(xm, .inr (20, [.int 0, .int 0, .ref kn, .int 0, .int 0, .int 0, .ref ml, .ref cl, .ref rg, .ref tR, .ref (aK 0), .ref (aK 0), .ref fl, .int 0, .int 0, .int 0, .int 0, .int 0, .int 0, .int 0, .null])), (ml, .inr (4, [.int 0, .ref e0, .int 0]))]) (w1 := [(ou, .inl (cL, 1, .inr (.inl u)))]) hP hD [0, 1] [2, 3] rfl rfl (by decide) (by decide) hk1 hFc hP1 hD1
  generalize H1 = H at hP hS ⊢
  have hP : va_P (dC, dI) vwCl [(xm, .inr (20, [.int 0, .int 0, .ref kn, .int 0, .int 0, .int 0, .ref ml, .ref cl, .ref rg, .ref tR, .ref (aK 0), .ref (aK 0), .ref fl, .int 0, .int 0, .int 0, .int 0, .int 0, .int 0, .int 0, .null])), (ml, .inr (4, [.int 0, .ref e0, .int 0])), (ou, .inl (cL, 1, .inr (.inl u)))] H := hP
  have hD : va_D A [(xm, .inr (20, [.int 0, .int 0, .ref kn, .int 0, .int 0, .int 0, .ref ml, .ref cl, .ref rg, .ref tR, .ref (aK 0), .ref (aK 0), .ref fl, .int 0, .int 0, .int 0, .int 0, .int 0, .int 0, .int 0, .null])), (ml, .inr (4, [.int 0, .ref e0, .int 0])), (ou, .inl (cL, 1, .inr (.inl u)))] := hD
  refine W.widen (k := 201) (n := 60006) (Nat.le_of_ble_eq_true rfl) (Nat.le_of_ble_eq_true rfl) ?_
  obtain ⟨of_4, eof_4⟩ : ∃ z, z = u := ⟨_, rfl⟩
  subst eof_4
  have hP : va_P (dC, dI) vwCl [(xm, .inr (20, [.int 0, .int 0, .ref kn, .int 0, .int 0, .int 0, .ref ml, .ref cl, .ref rg, .ref tR, .ref (aK 0), .ref (aK 0), .ref fl, .int 0, .int 0, .int 0, .int 0, .int 0, .int 0, .int 0, .null])), (ml, .inr (4, [.int 0, .ref e0, .int 0])), (ou, .inl (cL, 1, .inr (.inl of_4)))] H := hP
  have hD : va_D A [(xm, .inr (20, [.int 0, .int 0, .ref kn, .int 0, .int 0, .int 0, .ref ml, .ref cl, .ref rg, .ref tR, .ref (aK 0), .ref (aK 0), .ref fl, .int 0, .int 0, .int 0, .int 0, .int 0, .int 0, .int 0, .null])), (ml, .inr (4, [.int 0, .ref e0, .int 0])), (ou, .inl (cL, 1, .inr (.inl of_4)))] := hD
  obtain rfl : r_5 = 1 := hw_6
  refine lv_istore (lv' := [(6, .int 1), (0, .ref b), (1, .ref ya), (2, .ref xm), (3, .ref ou), (4, .ref od), (5, .int 0)]) hx hb dL_law_1180 hl (by decide) rfl (fun ls hl => ?_)
  refine lv_aload_n hx hb dL_law_1182 rfl (lv_at hl 3 rfl) ?_
  refine lv_aload_n hx hb dL_law_1183 rfl (lv_at hl 1 rfl) ?_
  refine lv_iload hx hb dL_law_1184 (lv_at hl 6 rfl) ?_
  refine lv_iconst (v := 1) hx hb dL_law_1186 (by decide) ?_
  refine lv_iadd hx hb dL_law_1187 ?_
  refine va_sld hx hb hX hbl hbA hS sx1 dL_law_1188 ?_
  refine lv_topi (fun x_7 ex_7 => ?_)
  obtain rfl : s1 = x_7 := (show x_7 = s1 from ex_7.trans hs1.symm).symm
  refine lv_aload_n hx hb dL_law_1189 rfl (lv_at hl 1 rfl) ?_
  refine lv_iload hx hb dL_law_1190 (lv_at hl 6 rfl) ?_
  refine lv_iconst (v := 2) hx hb dL_law_1192 (by decide) ?_
  refine lv_iadd hx hb dL_law_1193 ?_
  refine va_sld hx hb hX hbl hbA hS sx2 dL_law_1194 ?_
  refine lv_topi (fun x_8 ex_8 => ?_)
  obtain rfl : s2 = x_8 := (show x_8 = s2 from ex_8.trans hs2.symm).symm
  refine lv_i2c hx hb dL_law_1195 rfl ?_
  refine lv_topi (fun x_9 ex_9 => ?_)
  obtain rfl : ch2 = x_9 := (show x_9 = ch2 from ex_9.trans hch2.symm).symm
  have hPc := hP.sub (ws' := [(xm, .inr (20, [.int 0, .int 0, .ref kn, .int 0, .int 0, .int 0, .ref ml, .ref cl, .ref rg, .ref tR, .ref (aK 0), .ref (aK 0), .ref fl, .int 0, .int 0, .int 0, .int 0, .int 0, .int 0, .int 0, .null])), (ml, .inr (4, [.int 0, .ref e0, .int 0]))]) [0, 1] rfl
  have hDc := hD.sub (ws' := [(xm, .inr (20, [.int 0, .int 0, .ref kn, .int 0, .int 0, .int 0, .ref ml, .ref cl, .ref rg, .ref tR, .ref (aK 0), .ref (aK 0), .ref fl, .int 0, .int 0, .int 0, .int 0, .int 0, .int 0, .int 0, .null])), (ml, .inr (4, [.int 0, .ref e0, .int 0]))]) [0, 1] (by decide) rfl
  have hKc := hK.sub (tys' := []) [] rfl
  have hFc := va_free (wc := [(xm, .inr (20, [.int 0, .int 0, .ref kn, .int 0, .int 0, .int 0, .ref ml, .ref cl, .ref rg, .ref tR, .ref (aK 0), .ref (aK 0), .ref fl, .int 0, .int 0, .int 0, .int 0, .int 0, .int 0, .int 0, .null])), (ml, .inr (4, [.int 0, .ref e0, .int 0]))]) hD hS hA [0, 1] rfl
  refine va_calli (va_runV (As := [.int s1, .int ch2]) (rest := []) ⟨hx, hb, hml, hown, hts⟩ (c_X15_certificate l dC dI xm ml cl fl kn rg tR e0 aK aV s1 ch2 H.size) (cwV 2 hts gL_law_X15_certificate rfl rfl rfl (by decide +kernel) ⟨Nat.le_of_ble_eq_true rfl, Nat.le_of_ble_eq_true rfl⟩) (pcV hPc hDc hKc hN (ci := 20) (q0 := 0) rfl rfl) rfl rfl hl.1 rfl (lv_room (Nat.le_of_ble_eq_true rfl)) dL_law_1196 ⟨Nat.le_of_ble_eq_true rfl, Nat.le_of_ble_eq_true rfl⟩) hS (fun q _ h => hFc q h) hFc (fun r_11 u t H1 locs ht hvm hw_12 hB hz1 hk1 hS => ?_)
  obtain ⟨hP1, hK1, hD1⟩ := hB
  rw [ht] at hP1
  try dsimp only at hw_12
  obtain ⟨hP, hD⟩ := va_join (wr := [(ou, .inl (cL, 1, .inr (.inl of_4)))]) (w1 := [(xm, .inr (20, u))]) hP hD [0, 1] [2] rfl rfl (by decide) (by decide) hk1 hFc hP1 hD1
  generalize H1 = H at hP hS ⊢
  have hP : va_P (dC, dI) vwCl [(ou, .inl (cL, 1, .inr (.inl of_4))), (xm, .inr (20, u))] H := hP
  have hD : va_D A [(ou, .inl (cL, 1, .inr (.inl of_4))), (xm, .inr (20, u))] := hD
  obtain ⟨fs_10, efs_10⟩ : ∃ z, z = u := ⟨_, rfl⟩
  subst efs_10
  have hP : va_P (dC, dI) vwCl [(ou, .inl (cL, 1, .inr (.inl of_4))), (xm, .inr (20, fs_10))] H := hP
  have hD : va_D A [(ou, .inl (cL, 1, .inr (.inl of_4))), (xm, .inr (20, fs_10))] := hD
  refine lv_istore (lv' := [(7, .int r_11), (6, .int 1), (0, .ref b), (1, .ref ya), (2, .ref xm), (3, .ref ou), (4, .ref od), (5, .int 0)]) hx hb dL_law_1199 hl (by decide) rfl (fun ls hl => ?_)
  refine lv_aload_n hx hb dL_law_1201 rfl (lv_at hl 4 rfl) ?_
  have hPc := hP.sub (ws' := [(xm, .inr (20, fs_10))]) [1] rfl
  have hDc := hD.sub (ws' := [(xm, .inr (20, fs_10))]) [1] (by decide) rfl
  have hKc := hK.sub (tys' := []) [] rfl
  have hFc := va_free (wc := [(xm, .inr (20, fs_10))]) hD hS hA [1] rfl
  refine va_calli (va_runV (As := []) (rest := []) ⟨hx, hb, hml, hown, hts⟩ (c_X15_thrown l dC dI xm fs_10 1 hw_12 H.size) (cwV 0 hts gL_law_X15_thrown rfl rfl rfl (by decide +kernel) ⟨Nat.le_of_ble_eq_true rfl, Nat.le_of_ble_eq_true rfl⟩) (pcV hPc hDc hKc hN (ci := 20) (q0 := 0) rfl rfl) rfl rfl hl.1 rfl (lv_room (Nat.le_of_ble_eq_true rfl)) dL_law_1202 ⟨Nat.le_of_ble_eq_true rfl, Nat.le_of_ble_eq_true rfl⟩) hS (fun q _ h => hFc q h) hFc (fun r_13 u t H1 locs ht hvm hw_14 hB hz1 hk1 hS => ?_)
  obtain ⟨hP1, hK1, hD1⟩ := hB
  rw [ht] at hP1
  try dsimp only at hw_14
  obtain ⟨hP, hD⟩ := va_join (wr := [(ou, .inl (cL, 1, .inr (.inl of_4)))]) (w1 := []) hP hD [1] [0] rfl rfl (by decide) (by decide) hk1 hFc hP1 hD1
  generalize H1 = H at hP hS ⊢
  have hP : va_P (dC, dI) vwCl [(ou, .inl (cL, 1, .inr (.inl of_4)))] H := hP
  have hD : va_D A [(ou, .inl (cL, 1, .inr (.inl of_4)))] := hD
  obtain rfl : r_13 = 1 := hw_14
  refine lv_iload hx hb dL_law_1205 (lv_at hl 1 rfl) ?_
  refine lv_icmp_eq (tgt := 1212) hx hb dL_law_1207 (by decide) (fun c1207_15 => ?_) (fun c1207_15 => ?_)
  · refine lv_iload hx hb dL_law_1212 (lv_at hl 1 rfl) ?_
    refine lv_if_ne (tgt := 1229) hx hb dL_law_1214 (by decide) (fun c1214_16 => ?_) (fun c1214_16 => ?_)
    · refine lv_goto (tgt := 2778) hx hb dL_law_1229 (by decide) ?_
      refine W.widen (k := 600006) (n := 7302039) (Nat.le_of_ble_eq_true rfl) (Nat.le_of_ble_eq_true rfl) ?_
      exact law_end hx hb hr hml hX hbl hlocks hbA hAo hS (lv_sub hl [2, 7] rfl)
    · exact absurd c1214_16 (by decide)
  · exact (c1207_15 (by decide)).elim

set_option maxHeartbeats 8000000 in
set_option maxRecDepth 100000 in
/-- the law: law_14_forge -/
theorem law_14_forge {p : Program} {e : Env} {s : State} {m : MethodId} {below : List Frame} {meth : Method} {c : Code} {l : Launch} {b : Nat} {xs : Nat → Int32} (hx : p.tables.exec = Jvm.exec) (hb : c.code = cL_law) (hr : meth.sig.returnType = ret) (hml : c.maxLocals = 9) (hfl : l.stackTraces = false) (hown : s.vm.findClass RL = some m.cls) (hts : ∀ w ∈ wsL_law, w.before #[Value.ref b] s = true) (hX : va_X b 7 xs s s.heap) (hbl : b < s.heap.size) (hlocks : meth.locks = false) {A : Nat → Prop} (hbA : ¬ A b) (hAo : ∀ q, A q → s.heap.size ≤ q) (hA : ∀ q : Nat, s.heap.size ≤ q → A q) (dC : Nat → ClassId) (dI : Nat → Nat → Nat) (hN : nwA s) (e0 : Nat) (aK aV : Nat → Nat) (hZ : zX A s s.heap ∧ zM e0 aK aV A s s.heap) (ya ms ju rj tj ro rn tn rh th ca sa da xa wb z1 z2 jt z3 br z4 z5 z6 lk z7 z8 li bm l2 z9 bo h2 mm l1 z10 oo h1 ct cr cu cg cp co tg ts tr tk te fw fo fu xm ml cl fl rg tR ou od kn : Nat) (cI cM cS cL cD cB : ClassId) {H : Heap} {locs : List Loc} (hP : va_P (dC, dI) vwCl [(ya, .inr (16, [.ref ms, .int 0, .ref ju, .ref li, .ref ct, .ref tg, .ref fw])), (ou, .inl (cL, 1, .inr (.inl (fun _ => 0)))), (xm, .inr (20, [.int 0, .int 0, .ref kn, .int 0, .int 0, .int 0, .ref ml, .ref cl, .ref rg, .ref tR, .ref (aK 0), .ref (aK 0), .ref fl, .int 0, .int 0, .int 0, .int 0, .int 0, .int 0, .int 0, .null])), (ml, .inr (4, [.int 0, .ref e0, .int 0]))] H) (hD : va_D A [(ya, .inr (16, [.ref ms, .int 0, .ref ju, .ref li, .ref ct, .ref tg, .ref fw])), (ou, .inl (cL, 1, .inr (.inl (fun _ => 0)))), (xm, .inr (20, [.int 0, .int 0, .ref kn, .int 0, .int 0, .int 0, .ref ml, .ref cl, .ref rg, .ref tR, .ref (aK 0), .ref (aK 0), .ref fl, .int 0, .int 0, .int 0, .int 0, .int 0, .int 0, .int 0, .null])), (ml, .inr (4, [.int 0, .ref e0, .int 0]))]) (hK : va_K (dC, dI) vwCl [(cL, .long)] s) (hS : va_S A s.heap H locs) {ls : Array Slot} (hl : lv_has ls 9 [(0, .ref b), (1, .ref ya), (2, .ref xm), (3, .ref ou), (4, .ref od), (5, .int 0)]) : W p l e room_1 s m #[Value.ref b] below meth c H locs 200 60000 (lw_Z below #[Value.ref b] s) (F0 m 1232 ls []) := by
  obtain ⟨s1, hs1⟩ : ∃ z, z = xs ((0 : Int32) + 1).toNatClampNeg := ⟨_, rfl⟩
  obtain ⟨s2, hs2⟩ : ∃ z, z = xs ((0 : Int32) + 2).toNatClampNeg := ⟨_, rfl⟩
  obtain ⟨s3, hs3⟩ : ∃ z, z = xs ((0 : Int32) + 3).toNatClampNeg := ⟨_, rfl⟩
  obtain ⟨s4, hs4⟩ : ∃ z, z = xs ((0 : Int32) + 4).toNatClampNeg := ⟨_, rfl⟩
  obtain ⟨s5, hs5⟩ : ∃ z, z = xs ((0 : Int32) + 5).toNatClampNeg := ⟨_, rfl⟩
  obtain ⟨s6, hs6⟩ : ∃ z, z = xs ((0 : Int32) + 6).toNatClampNeg := ⟨_, rfl⟩
  obtain ⟨ch1, hch1⟩ : ∃ z, z = (s1.toUInt32 % 65536).toInt32 := ⟨_, rfl⟩
  obtain ⟨ch2, hch2⟩ : ∃ z, z = (s2.toUInt32 % 65536).toInt32 := ⟨_, rfl⟩
  obtain ⟨ch3, hch3⟩ : ∃ z, z = (s3.toUInt32 % 65536).toInt32 := ⟨_, rfl⟩
  obtain ⟨ch4, hch4⟩ : ∃ z, z = (s4.toUInt32 % 65536).toInt32 := ⟨_, rfl⟩
  obtain ⟨ch5, hch5⟩ : ∃ z, z = (s5.toUInt32 % 65536).toInt32 := ⟨_, rfl⟩
  obtain ⟨ch6, hch6⟩ : ∃ z, z = (s6.toUInt32 % 65536).toInt32 := ⟨_, rfl⟩
  refine lv_aload_n hx hb dL_law_1232 rfl (lv_at hl 1 rfl) ?_
  refine lv_aload_n hx hb dL_law_1233 rfl (lv_at hl 0 rfl) ?_
  refine lv_iload hx hb dL_law_1234 (lv_at hl 5 rfl) ?_
  refine lv_iconst (v := 1) hx hb dL_law_1236 (by decide) ?_
  refine lv_iadd hx hb dL_law_1237 ?_
  refine va_sld hx hb hX hbl hbA hS sx1 dL_law_1238 ?_
  refine lv_topi (fun x_1 ex_1 => ?_)
  obtain rfl : s1 = x_1 := (show x_1 = s1 from ex_1.trans hs1.symm).symm
  refine lv_aload_n hx hb dL_law_1239 rfl (lv_at hl 0 rfl) ?_
  refine lv_iload hx hb dL_law_1240 (lv_at hl 5 rfl) ?_
  refine lv_iconst (v := 2) hx hb dL_law_1242 (by decide) ?_
  refine lv_iadd hx hb dL_law_1243 ?_
  refine va_sld hx hb hX hbl hbA hS sx2 dL_law_1244 ?_
  refine lv_topi (fun x_2 ex_2 => ?_)
  obtain rfl : s2 = x_2 := (show x_2 = s2 from ex_2.trans hs2.symm).symm
  refine lv_i2c hx hb dL_law_1245 rfl ?_
  refine lv_topi (fun x_3 ex_3 => ?_)
  obtain rfl : ch2 = x_3 := (show x_3 = ch2 from ex_3.trans hch2.symm).symm
  refine lv_aload_n hx hb dL_law_1246 rfl (lv_at hl 0 rfl) ?_
  refine lv_iload hx hb dL_law_1247 (lv_at hl 5 rfl) ?_
  refine lv_iconst (v := 3) hx hb dL_law_1249 (by decide) ?_
  refine lv_iadd hx hb dL_law_1250 ?_
  refine va_sld hx hb hX hbl hbA hS sx3 dL_law_1251 ?_
  refine lv_topi (fun x_4 ex_4 => ?_)
  obtain rfl : s3 = x_4 := (show x_4 = s3 from ex_4.trans hs3.symm).symm
  refine lv_aload_n hx hb dL_law_1252 rfl (lv_at hl 3 rfl) ?_
  have hPc := hP.sub (ws' := [(ya, .inr (16, [.ref ms, .int 0, .ref ju, .ref li, .ref ct, .ref tg, .ref fw])), (ou, .inl (cL, 1, .inr (.inl (fun _ => 0))))]) [0, 1] rfl
  have hDc := hD.sub (ws' := [(ya, .inr (16, [.ref ms, .int 0, .ref ju, .ref li, .ref ct, .ref tg, .ref fw])), (ou, .inl (cL, 1, .inr (.inl (fun _ => 0))))]) [0, 1] (by decide) rfl
  have hKc := hK.sub (tys' := [(cL, .long)]) [0] rfl
  have hFc := va_free (wc := [(ya, .inr (16, [.ref ms, .int 0, .ref ju, .ref li, .ref ct, .ref tg, .ref fw])), (ou, .inl (cL, 1, .inr (.inl (fun _ => 0))))]) hD hS hA [0, 1] rfl
  refine vx_calli (vx_runSX (As := [.ref ya, .int s1, .int ch2, .int s3, .ref ou]) (rest := []) ⟨hx, hb, hml, hown, hts⟩ (c_L_forge l hfl dC dI ya ms ju li ct tg fw s1 ch2 s3 cL ou (fun _ => 0) H.size) (vx_cwSW 5 hts gL_law_L_forge rfl rfl rfl (by decide +kernel) ⟨Nat.le_of_ble_eq_true rfl, Nat.le_of_ble_eq_true rfl⟩) (pcSz (zX_ok) hPc hDc hKc hN hZ.1 hS hFc) rfl rfl hl.1 rfl (lv_room (Nat.le_of_ble_eq_true rfl)) dL_law_1253 ⟨Nat.le_of_ble_eq_true rfl, Nat.le_of_ble_eq_true rfl⟩) hS (fun q _ h => hFc q h) hFc (fun q _ h => hFc q h) (fun E9 ce9 q9 u9 t9 H9 locs9 ht9 hvm9 hp9 hE9 hz9 hk9 hS9 hc9 hv9 hcl9 => hE9.elim) (fun r_6 u t H1 locs ht hvm hw_7 hB hz1 hk1 hS => ?_)
  obtain ⟨hP1, hK1, hD1⟩ := hB
  rw [ht] at hP1
  try dsimp only at hw_7
  obtain ⟨hP, hD⟩ := va_join (wr := [(xm, .inr (20, [.int 0, .int 0, .ref kn, .int 0, .int 0, .int 0, .ref ml, .ref cl, .ref rg, .ref tR, .ref (aK 0), .ref (aK 0), .ref fl, .int 0, .int 0, .int 0, .int 0, .int 0, .int 0, .int 0, .null])), (ml, .inr (4, [.int 0, .ref e0, .int 0]))]) (w1 := [(ou, .inl (cL, 1, .inr (.inl u)))]) hP hD [0, 1] [2, 3] rfl rfl (by decide) (by decide) hk1 hFc hP1 hD1
  generalize H1 = H at hP hS ⊢
  have hP : va_P (dC, dI) vwCl [(xm, .inr (20, [.int 0, .int 0, .ref kn, .int 0, .int 0, .int 0, .ref ml, .ref cl, .ref rg, .ref tR, .ref (aK 0), .ref (aK 0), .ref fl, .int 0, .int 0, .int 0, .int 0, .int 0, .int 0, .int 0, .null])), (ml, .inr (4, [.int 0, .ref e0, .int 0])), (ou, .inl (cL, 1, .inr (.inl u)))] H := hP
  have hD : va_D A [(xm, .inr (20, [.int 0, .int 0, .ref kn, .int 0, .int 0, .int 0, .ref ml, .ref cl, .ref rg, .ref tR, .ref (aK 0), .ref (aK 0), .ref fl, .int 0, .int 0, .int 0, .int 0, .int 0, .int 0, .int 0, .null])), (ml, .inr (4, [.int 0, .ref e0, .int 0])), (ou, .inl (cL, 1, .inr (.inl u)))] := hD
  refine W.widen (k := 201) (n := 60006) (Nat.le_of_ble_eq_true rfl) (Nat.le_of_ble_eq_true rfl) ?_
  obtain ⟨of_5, eof_5⟩ : ∃ z, z = u := ⟨_, rfl⟩
  subst eof_5
  have hP : va_P (dC, dI) vwCl [(xm, .inr (20, [.int 0, .int 0, .ref kn, .int 0, .int 0, .int 0, .ref ml, .ref cl, .ref rg, .ref tR, .ref (aK 0), .ref (aK 0), .ref fl, .int 0, .int 0, .int 0, .int 0, .int 0, .int 0, .int 0, .null])), (ml, .inr (4, [.int 0, .ref e0, .int 0])), (ou, .inl (cL, 1, .inr (.inl of_5)))] H := hP
  have hD : va_D A [(xm, .inr (20, [.int 0, .int 0, .ref kn, .int 0, .int 0, .int 0, .ref ml, .ref cl, .ref rg, .ref tR, .ref (aK 0), .ref (aK 0), .ref fl, .int 0, .int 0, .int 0, .int 0, .int 0, .int 0, .int 0, .null])), (ml, .inr (4, [.int 0, .ref e0, .int 0])), (ou, .inl (cL, 1, .inr (.inl of_5)))] := hD
  obtain rfl : r_6 = 1 := hw_7
  refine lv_istore (lv' := [(6, .int 1), (0, .ref b), (1, .ref ya), (2, .ref xm), (3, .ref ou), (4, .ref od), (5, .int 0)]) hx hb dL_law_1256 hl (by decide) rfl (fun ls hl => ?_)
  refine lv_aload_n hx hb dL_law_1258 rfl (lv_at hl 3 rfl) ?_
  refine lv_aload_n hx hb dL_law_1259 rfl (lv_at hl 1 rfl) ?_
  refine lv_iload hx hb dL_law_1260 (lv_at hl 6 rfl) ?_
  refine lv_iconst (v := 1) hx hb dL_law_1262 (by decide) ?_
  refine lv_iadd hx hb dL_law_1263 ?_
  refine va_sld hx hb hX hbl hbA hS sx1 dL_law_1264 ?_
  refine lv_topi (fun x_8 ex_8 => ?_)
  obtain rfl : s1 = x_8 := (show x_8 = s1 from ex_8.trans hs1.symm).symm
  refine lv_aload_n hx hb dL_law_1265 rfl (lv_at hl 1 rfl) ?_
  refine lv_iload hx hb dL_law_1266 (lv_at hl 6 rfl) ?_
  refine lv_iconst (v := 2) hx hb dL_law_1268 (by decide) ?_
  refine lv_iadd hx hb dL_law_1269 ?_
  refine va_sld hx hb hX hbl hbA hS sx2 dL_law_1270 ?_
  refine lv_topi (fun x_9 ex_9 => ?_)
  obtain rfl : s2 = x_9 := (show x_9 = s2 from ex_9.trans hs2.symm).symm
  refine lv_i2c hx hb dL_law_1271 rfl ?_
  refine lv_topi (fun x_10 ex_10 => ?_)
  obtain rfl : ch2 = x_10 := (show x_10 = ch2 from ex_10.trans hch2.symm).symm
  refine lv_aload_n hx hb dL_law_1272 rfl (lv_at hl 1 rfl) ?_
  refine lv_iload hx hb dL_law_1273 (lv_at hl 6 rfl) ?_
  refine lv_iconst (v := 3) hx hb dL_law_1275 (by decide) ?_
  refine lv_iadd hx hb dL_law_1276 ?_
  refine va_sld hx hb hX hbl hbA hS sx3 dL_law_1277 ?_
  refine lv_topi (fun x_11 ex_11 => ?_)
  obtain rfl : s3 = x_11 := (show x_11 = s3 from ex_11.trans hs3.symm).symm
  have hPc := hP.sub (ws' := [(xm, .inr (20, [.int 0, .int 0, .ref kn, .int 0, .int 0, .int 0, .ref ml, .ref cl, .ref rg, .ref tR, .ref (aK 0), .ref (aK 0), .ref fl, .int 0, .int 0, .int 0, .int 0, .int 0, .int 0, .int 0, .null])), (ml, .inr (4, [.int 0, .ref e0, .int 0]))]) [0, 1] rfl
  have hDc := hD.sub (ws' := [(xm, .inr (20, [.int 0, .int 0, .ref kn, .int 0, .int 0, .int 0, .ref ml, .ref cl, .ref rg, .ref tR, .ref (aK 0), .ref (aK 0), .ref fl, .int 0, .int 0, .int 0, .int 0, .int 0, .int 0, .int 0, .null])), (ml, .inr (4, [.int 0, .ref e0, .int 0]))]) [0, 1] (by decide) rfl
  have hKc := hK.sub (tys' := []) [] rfl
  have hFc := va_free (wc := [(xm, .inr (20, [.int 0, .int 0, .ref kn, .int 0, .int 0, .int 0, .ref ml, .ref cl, .ref rg, .ref tR, .ref (aK 0), .ref (aK 0), .ref fl, .int 0, .int 0, .int 0, .int 0, .int 0, .int 0, .int 0, .null])), (ml, .inr (4, [.int 0, .ref e0, .int 0]))]) hD hS hA [0, 1] rfl
  refine va_calli (va_runV (As := [.int s1, .int ch2, .int s3]) (rest := []) ⟨hx, hb, hml, hown, hts⟩ (c_X15_forge l dC dI xm ml cl fl kn rg tR e0 aK aV s1 ch2 s3 H.size) (cwV 3 hts gL_law_X15_forge rfl rfl rfl (by decide +kernel) ⟨Nat.le_of_ble_eq_true rfl, Nat.le_of_ble_eq_true rfl⟩) (pcV hPc hDc hKc hN (ci := 20) (q0 := 0) rfl rfl) rfl rfl hl.1 rfl (lv_room (Nat.le_of_ble_eq_true rfl)) dL_law_1278 ⟨Nat.le_of_ble_eq_true rfl, Nat.le_of_ble_eq_true rfl⟩) hS (fun q _ h => hFc q h) hFc (fun r_13 u t H1 locs ht hvm hw_14 hB hz1 hk1 hS => ?_)
  obtain ⟨hP1, hK1, hD1⟩ := hB
  rw [ht] at hP1
  try dsimp only at hw_14
  obtain ⟨hP, hD⟩ := va_join (wr := [(ou, .inl (cL, 1, .inr (.inl of_5)))]) (w1 := [(xm, .inr (20, u))]) hP hD [0, 1] [2] rfl rfl (by decide) (by decide) hk1 hFc hP1 hD1
  generalize H1 = H at hP hS ⊢
  have hP : va_P (dC, dI) vwCl [(ou, .inl (cL, 1, .inr (.inl of_5))), (xm, .inr (20, u))] H := hP
  have hD : va_D A [(ou, .inl (cL, 1, .inr (.inl of_5))), (xm, .inr (20, u))] := hD
  obtain ⟨fs_12, efs_12⟩ : ∃ z, z = u := ⟨_, rfl⟩
  subst efs_12
  have hP : va_P (dC, dI) vwCl [(ou, .inl (cL, 1, .inr (.inl of_5))), (xm, .inr (20, fs_12))] H := hP
  have hD : va_D A [(ou, .inl (cL, 1, .inr (.inl of_5))), (xm, .inr (20, fs_12))] := hD
  refine lv_istore (lv' := [(7, .int r_13), (6, .int 1), (0, .ref b), (1, .ref ya), (2, .ref xm), (3, .ref ou), (4, .ref od), (5, .int 0)]) hx hb dL_law_1281 hl (by decide) rfl (fun ls hl => ?_)
  refine lv_aload_n hx hb dL_law_1283 rfl (lv_at hl 4 rfl) ?_
  have hPc := hP.sub (ws' := [(xm, .inr (20, fs_12))]) [1] rfl
  have hDc := hD.sub (ws' := [(xm, .inr (20, fs_12))]) [1] (by decide) rfl
  have hKc := hK.sub (tys' := []) [] rfl
  have hFc := va_free (wc := [(xm, .inr (20, fs_12))]) hD hS hA [1] rfl
  refine va_calli (va_runV (As := []) (rest := []) ⟨hx, hb, hml, hown, hts⟩ (c_X15_thrown l dC dI xm fs_12 1 hw_14 H.size) (cwV 0 hts gL_law_X15_thrown rfl rfl rfl (by decide +kernel) ⟨Nat.le_of_ble_eq_true rfl, Nat.le_of_ble_eq_true rfl⟩) (pcV hPc hDc hKc hN (ci := 20) (q0 := 0) rfl rfl) rfl rfl hl.1 rfl (lv_room (Nat.le_of_ble_eq_true rfl)) dL_law_1284 ⟨Nat.le_of_ble_eq_true rfl, Nat.le_of_ble_eq_true rfl⟩) hS (fun q _ h => hFc q h) hFc (fun r_15 u t H1 locs ht hvm hw_16 hB hz1 hk1 hS => ?_)
  obtain ⟨hP1, hK1, hD1⟩ := hB
  rw [ht] at hP1
  try dsimp only at hw_16
  obtain ⟨hP, hD⟩ := va_join (wr := [(ou, .inl (cL, 1, .inr (.inl of_5)))]) (w1 := []) hP hD [1] [0] rfl rfl (by decide) (by decide) hk1 hFc hP1 hD1
  generalize H1 = H at hP hS ⊢
  have hP : va_P (dC, dI) vwCl [(ou, .inl (cL, 1, .inr (.inl of_5)))] H := hP
  have hD : va_D A [(ou, .inl (cL, 1, .inr (.inl of_5)))] := hD
  obtain rfl : r_15 = 1 := hw_16
  refine lv_iload hx hb dL_law_1287 (lv_at hl 1 rfl) ?_
  refine lv_icmp_eq (tgt := 1294) hx hb dL_law_1289 (by decide) (fun c1289_17 => ?_) (fun c1289_17 => ?_)
  · refine lv_iload hx hb dL_law_1294 (lv_at hl 1 rfl) ?_
    refine lv_if_ne (tgt := 1311) hx hb dL_law_1296 (by decide) (fun c1296_18 => ?_) (fun c1296_18 => ?_)
    · refine lv_goto (tgt := 2778) hx hb dL_law_1311 (by decide) ?_
      refine W.widen (k := 600006) (n := 7302039) (Nat.le_of_ble_eq_true rfl) (Nat.le_of_ble_eq_true rfl) ?_
      exact law_end hx hb hr hml hX hbl hlocks hbA hAo hS (lv_sub hl [2, 7] rfl)
    · exact absurd c1296_18 (by decide)
  · exact (c1289_17 (by decide)).elim

set_option maxHeartbeats 8000000 in
set_option maxRecDepth 100000 in
/-- the law: law_15_passes -/
theorem law_15_passes {p : Program} {e : Env} {s : State} {m : MethodId} {below : List Frame} {meth : Method} {c : Code} {l : Launch} {b : Nat} {xs : Nat → Int32} (hx : p.tables.exec = Jvm.exec) (hb : c.code = cL_law) (hr : meth.sig.returnType = ret) (hml : c.maxLocals = 9) (hfl : l.stackTraces = false) (hown : s.vm.findClass RL = some m.cls) (hts : ∀ w ∈ wsL_law, w.before #[Value.ref b] s = true) (hX : va_X b 7 xs s s.heap) (hbl : b < s.heap.size) (hlocks : meth.locks = false) {A : Nat → Prop} (hbA : ¬ A b) (hAo : ∀ q, A q → s.heap.size ≤ q) (hA : ∀ q : Nat, s.heap.size ≤ q → A q) (dC : Nat → ClassId) (dI : Nat → Nat → Nat) (hN : nwA s) (e0 : Nat) (aK aV : Nat → Nat) (hZ : zX A s s.heap ∧ zM e0 aK aV A s s.heap) (ya ms ju rj tj ro rn tn rh th ca sa da xa wb z1 z2 jt z3 br z4 z5 z6 lk z7 z8 li bm l2 z9 bo h2 mm l1 z10 oo h1 ct cr cu cg cp co tg ts tr tk te fw fo fu xm ml cl fl rg tR ou od kn : Nat) (cI cM cS cL cD cB : ClassId) {H : Heap} {locs : List Loc} (hP : va_P (dC, dI) vwCl [(ya, .inr (16, [.ref ms, .int 0, .ref ju, .ref li, .ref ct, .ref tg, .ref fw])), (ou, .inl (cL, 1, .inr (.inl (fun _ => 0)))), (xm, .inr (20, [.int 0, .int 0, .ref kn, .int 0, .int 0, .int 0, .ref ml, .ref cl, .ref rg, .ref tR, .ref (aK 0), .ref (aK 0), .ref fl, .int 0, .int 0, .int 0, .int 0, .int 0, .int 0, .int 0, .null])), (ml, .inr (4, [.int 0, .ref e0, .int 0]))] H) (hD : va_D A [(ya, .inr (16, [.ref ms, .int 0, .ref ju, .ref li, .ref ct, .ref tg, .ref fw])), (ou, .inl (cL, 1, .inr (.inl (fun _ => 0)))), (xm, .inr (20, [.int 0, .int 0, .ref kn, .int 0, .int 0, .int 0, .ref ml, .ref cl, .ref rg, .ref tR, .ref (aK 0), .ref (aK 0), .ref fl, .int 0, .int 0, .int 0, .int 0, .int 0, .int 0, .int 0, .null])), (ml, .inr (4, [.int 0, .ref e0, .int 0]))]) (hK : va_K (dC, dI) vwCl [(cL, .long)] s) (hS : va_S A s.heap H locs) {ls : Array Slot} (hl : lv_has ls 9 [(0, .ref b), (1, .ref ya), (2, .ref xm), (3, .ref ou), (4, .ref od), (5, .int 0)]) : W p l e room_1 s m #[Value.ref b] below meth c H locs 200 60000 (lw_Z below #[Value.ref b] s) (F0 m 1314 ls []) := by
  obtain ⟨s1, hs1⟩ : ∃ z, z = xs ((0 : Int32) + 1).toNatClampNeg := ⟨_, rfl⟩
  obtain ⟨s2, hs2⟩ : ∃ z, z = xs ((0 : Int32) + 2).toNatClampNeg := ⟨_, rfl⟩
  obtain ⟨s3, hs3⟩ : ∃ z, z = xs ((0 : Int32) + 3).toNatClampNeg := ⟨_, rfl⟩
  obtain ⟨s4, hs4⟩ : ∃ z, z = xs ((0 : Int32) + 4).toNatClampNeg := ⟨_, rfl⟩
  obtain ⟨s5, hs5⟩ : ∃ z, z = xs ((0 : Int32) + 5).toNatClampNeg := ⟨_, rfl⟩
  obtain ⟨s6, hs6⟩ : ∃ z, z = xs ((0 : Int32) + 6).toNatClampNeg := ⟨_, rfl⟩
  obtain ⟨ch1, hch1⟩ : ∃ z, z = (s1.toUInt32 % 65536).toInt32 := ⟨_, rfl⟩
  obtain ⟨ch2, hch2⟩ : ∃ z, z = (s2.toUInt32 % 65536).toInt32 := ⟨_, rfl⟩
  obtain ⟨ch3, hch3⟩ : ∃ z, z = (s3.toUInt32 % 65536).toInt32 := ⟨_, rfl⟩
  obtain ⟨ch4, hch4⟩ : ∃ z, z = (s4.toUInt32 % 65536).toInt32 := ⟨_, rfl⟩
  obtain ⟨ch5, hch5⟩ : ∃ z, z = (s5.toUInt32 % 65536).toInt32 := ⟨_, rfl⟩
  obtain ⟨ch6, hch6⟩ : ∃ z, z = (s6.toUInt32 % 65536).toInt32 := ⟨_, rfl⟩
  refine lv_aload_n hx hb dL_law_1314 rfl (lv_at hl 1 rfl) ?_
  refine lv_aload_n hx hb dL_law_1315 rfl (lv_at hl 0 rfl) ?_
  refine lv_iload hx hb dL_law_1316 (lv_at hl 5 rfl) ?_
  refine lv_iconst (v := 1) hx hb dL_law_1318 (by decide) ?_
  refine lv_iadd hx hb dL_law_1319 ?_
  refine va_sld hx hb hX hbl hbA hS sx1 dL_law_1320 ?_
  refine lv_topi (fun x_1 ex_1 => ?_)
  obtain rfl : s1 = x_1 := (show x_1 = s1 from ex_1.trans hs1.symm).symm
  refine lv_aload_n hx hb dL_law_1321 rfl (lv_at hl 3 rfl) ?_
  have hPc := hP.sub (ws' := [(ya, .inr (16, [.ref ms, .int 0, .ref ju, .ref li, .ref ct, .ref tg, .ref fw])), (ou, .inl (cL, 1, .inr (.inl (fun _ => 0))))]) [0, 1] rfl
  have hDc := hD.sub (ws' := [(ya, .inr (16, [.ref ms, .int 0, .ref ju, .ref li, .ref ct, .ref tg, .ref fw])), (ou, .inl (cL, 1, .inr (.inl (fun _ => 0))))]) [0, 1] (by decide) rfl
  have hKc := hK.sub (tys' := [(cL, .long)]) [0] rfl
  have hFc := va_free (wc := [(ya, .inr (16, [.ref ms, .int 0, .ref ju, .ref li, .ref ct, .ref tg, .ref fw])), (ou, .inl (cL, 1, .inr (.inl (fun _ => 0))))]) hD hS hA [0, 1] rfl
  refine vx_calli (vx_runSX (As := [.ref ya, .int s1, .ref ou]) (rest := []) ⟨hx, hb, hml, hown, hts⟩ (c_L_passes l hfl dC dI ya ms ju li ct tg fw s1 cL ou (fun _ => 0) H.size) (vx_cwSW 3 hts gL_law_L_passes rfl rfl rfl (by decide +kernel) ⟨Nat.le_of_ble_eq_true rfl, Nat.le_of_ble_eq_true rfl⟩) (pcSz (zX_ok) hPc hDc hKc hN hZ.1 hS hFc) rfl rfl hl.1 rfl (lv_room (Nat.le_of_ble_eq_true rfl)) dL_law_1322 ⟨Nat.le_of_ble_eq_true rfl, Nat.le_of_ble_eq_true rfl⟩) hS (fun q _ h => hFc q h) hFc (fun q _ h => hFc q h) (fun E9 ce9 q9 u9 t9 H9 locs9 ht9 hvm9 hp9 hE9 hz9 hk9 hS9 hc9 hv9 hcl9 => hE9.elim) (fun r_3 u t H1 locs ht hvm hw_4 hB hz1 hk1 hS => ?_)
  obtain ⟨hP1, hK1, hD1⟩ := hB
  rw [ht] at hP1
  try dsimp only at hw_4
  obtain ⟨hP, hD⟩ := va_join (wr := [(xm, .inr (20, [.int 0, .int 0, .ref kn, .int 0, .int 0, .int 0, .ref ml, .ref cl, .ref rg, .ref tR, .ref (aK 0), .ref (aK 0), .ref fl, .int 0, .int 0, .int 0, .int 0, .int 0, .int 0, .int 0, .null])), (ml, .inr (4, [.int 0, .ref e0, .int 0]))]) (w1 := [(ou, .inl (cL, 1, .inr (.inl u)))]) hP hD [0, 1] [2, 3] rfl rfl (by decide) (by decide) hk1 hFc hP1 hD1
  generalize H1 = H at hP hS ⊢
  have hP : va_P (dC, dI) vwCl [(xm, .inr (20, [.int 0, .int 0, .ref kn, .int 0, .int 0, .int 0, .ref ml, .ref cl, .ref rg, .ref tR, .ref (aK 0), .ref (aK 0), .ref fl, .int 0, .int 0, .int 0, .int 0, .int 0, .int 0, .int 0, .null])), (ml, .inr (4, [.int 0, .ref e0, .int 0])), (ou, .inl (cL, 1, .inr (.inl u)))] H := hP
  have hD : va_D A [(xm, .inr (20, [.int 0, .int 0, .ref kn, .int 0, .int 0, .int 0, .ref ml, .ref cl, .ref rg, .ref tR, .ref (aK 0), .ref (aK 0), .ref fl, .int 0, .int 0, .int 0, .int 0, .int 0, .int 0, .int 0, .null])), (ml, .inr (4, [.int 0, .ref e0, .int 0])), (ou, .inl (cL, 1, .inr (.inl u)))] := hD
  refine W.widen (k := 201) (n := 60006) (Nat.le_of_ble_eq_true rfl) (Nat.le_of_ble_eq_true rfl) ?_
  obtain ⟨of_2, eof_2⟩ : ∃ z, z = u := ⟨_, rfl⟩
  subst eof_2
  have hP : va_P (dC, dI) vwCl [(xm, .inr (20, [.int 0, .int 0, .ref kn, .int 0, .int 0, .int 0, .ref ml, .ref cl, .ref rg, .ref tR, .ref (aK 0), .ref (aK 0), .ref fl, .int 0, .int 0, .int 0, .int 0, .int 0, .int 0, .int 0, .null])), (ml, .inr (4, [.int 0, .ref e0, .int 0])), (ou, .inl (cL, 1, .inr (.inl of_2)))] H := hP
  have hD : va_D A [(xm, .inr (20, [.int 0, .int 0, .ref kn, .int 0, .int 0, .int 0, .ref ml, .ref cl, .ref rg, .ref tR, .ref (aK 0), .ref (aK 0), .ref fl, .int 0, .int 0, .int 0, .int 0, .int 0, .int 0, .int 0, .null])), (ml, .inr (4, [.int 0, .ref e0, .int 0])), (ou, .inl (cL, 1, .inr (.inl of_2)))] := hD
  obtain rfl : r_3 = 1 := hw_4
  refine lv_istore (lv' := [(6, .int 1), (0, .ref b), (1, .ref ya), (2, .ref xm), (3, .ref ou), (4, .ref od), (5, .int 0)]) hx hb dL_law_1325 hl (by decide) rfl (fun ls hl => ?_)
  refine lv_aload_n hx hb dL_law_1327 rfl (lv_at hl 3 rfl) ?_
  refine lv_aload_n hx hb dL_law_1328 rfl (lv_at hl 1 rfl) ?_
  refine lv_iload hx hb dL_law_1329 (lv_at hl 6 rfl) ?_
  refine lv_iconst (v := 1) hx hb dL_law_1331 (by decide) ?_
  refine lv_iadd hx hb dL_law_1332 ?_
  refine va_sld hx hb hX hbl hbA hS sx1 dL_law_1333 ?_
  refine lv_topi (fun x_5 ex_5 => ?_)
  obtain rfl : s1 = x_5 := (show x_5 = s1 from ex_5.trans hs1.symm).symm
  have hPc := hP.sub (ws' := [(xm, .inr (20, [.int 0, .int 0, .ref kn, .int 0, .int 0, .int 0, .ref ml, .ref cl, .ref rg, .ref tR, .ref (aK 0), .ref (aK 0), .ref fl, .int 0, .int 0, .int 0, .int 0, .int 0, .int 0, .int 0, .null])), (ml, .inr (4, [.int 0, .ref e0, .int 0]))]) [0, 1] rfl
  have hDc := hD.sub (ws' := [(xm, .inr (20, [.int 0, .int 0, .ref kn, .int 0, .int 0, .int 0, .ref ml, .ref cl, .ref rg, .ref tR, .ref (aK 0), .ref (aK 0), .ref fl, .int 0, .int 0, .int 0, .int 0, .int 0, .int 0, .int 0, .null])), (ml, .inr (4, [.int 0, .ref e0, .int 0]))]) [0, 1] (by decide) rfl
  have hKc := hK.sub (tys' := []) [] rfl
  have hFc := va_free (wc := [(xm, .inr (20, [.int 0, .int 0, .ref kn, .int 0, .int 0, .int 0, .ref ml, .ref cl, .ref rg, .ref tR, .ref (aK 0), .ref (aK 0), .ref fl, .int 0, .int 0, .int 0, .int 0, .int 0, .int 0, .int 0, .null])), (ml, .inr (4, [.int 0, .ref e0, .int 0]))]) hD hS hA [0, 1] rfl
  refine va_calli (va_runV (As := [.int s1]) (rest := []) ⟨hx, hb, hml, hown, hts⟩ (c_X15_passes l dC dI xm ml cl fl kn rg tR e0 aK aV s1 H.size) (cwV 1 hts gL_law_X15_passes rfl rfl rfl (by decide +kernel) ⟨Nat.le_of_ble_eq_true rfl, Nat.le_of_ble_eq_true rfl⟩) (pcV hPc hDc hKc hN (ci := 20) (q0 := 0) rfl rfl) rfl rfl hl.1 rfl (lv_room (Nat.le_of_ble_eq_true rfl)) dL_law_1334 ⟨Nat.le_of_ble_eq_true rfl, Nat.le_of_ble_eq_true rfl⟩) hS (fun q _ h => hFc q h) hFc (fun r_7 u t H1 locs ht hvm hw_8 hB hz1 hk1 hS => ?_)
  obtain ⟨hP1, hK1, hD1⟩ := hB
  rw [ht] at hP1
  try dsimp only at hw_8
  obtain ⟨hP, hD⟩ := va_join (wr := [(ou, .inl (cL, 1, .inr (.inl of_2)))]) (w1 := [(xm, .inr (20, u))]) hP hD [0, 1] [2] rfl rfl (by decide) (by decide) hk1 hFc hP1 hD1
  generalize H1 = H at hP hS ⊢
  have hP : va_P (dC, dI) vwCl [(ou, .inl (cL, 1, .inr (.inl of_2))), (xm, .inr (20, u))] H := hP
  have hD : va_D A [(ou, .inl (cL, 1, .inr (.inl of_2))), (xm, .inr (20, u))] := hD
  obtain ⟨fs_6, efs_6⟩ : ∃ z, z = u := ⟨_, rfl⟩
  subst efs_6
  have hP : va_P (dC, dI) vwCl [(ou, .inl (cL, 1, .inr (.inl of_2))), (xm, .inr (20, fs_6))] H := hP
  have hD : va_D A [(ou, .inl (cL, 1, .inr (.inl of_2))), (xm, .inr (20, fs_6))] := hD
  refine lv_istore (lv' := [(7, .int r_7), (6, .int 1), (0, .ref b), (1, .ref ya), (2, .ref xm), (3, .ref ou), (4, .ref od), (5, .int 0)]) hx hb dL_law_1337 hl (by decide) rfl (fun ls hl => ?_)
  refine lv_aload_n hx hb dL_law_1339 rfl (lv_at hl 4 rfl) ?_
  have hPc := hP.sub (ws' := [(xm, .inr (20, fs_6))]) [1] rfl
  have hDc := hD.sub (ws' := [(xm, .inr (20, fs_6))]) [1] (by decide) rfl
  have hKc := hK.sub (tys' := []) [] rfl
  have hFc := va_free (wc := [(xm, .inr (20, fs_6))]) hD hS hA [1] rfl
  refine va_calli (va_runV (As := []) (rest := []) ⟨hx, hb, hml, hown, hts⟩ (c_X15_thrown l dC dI xm fs_6 1 hw_8 H.size) (cwV 0 hts gL_law_X15_thrown rfl rfl rfl (by decide +kernel) ⟨Nat.le_of_ble_eq_true rfl, Nat.le_of_ble_eq_true rfl⟩) (pcV hPc hDc hKc hN (ci := 20) (q0 := 0) rfl rfl) rfl rfl hl.1 rfl (lv_room (Nat.le_of_ble_eq_true rfl)) dL_law_1340 ⟨Nat.le_of_ble_eq_true rfl, Nat.le_of_ble_eq_true rfl⟩) hS (fun q _ h => hFc q h) hFc (fun r_9 u t H1 locs ht hvm hw_10 hB hz1 hk1 hS => ?_)
  obtain ⟨hP1, hK1, hD1⟩ := hB
  rw [ht] at hP1
  try dsimp only at hw_10
  obtain ⟨hP, hD⟩ := va_join (wr := [(ou, .inl (cL, 1, .inr (.inl of_2)))]) (w1 := []) hP hD [1] [0] rfl rfl (by decide) (by decide) hk1 hFc hP1 hD1
  generalize H1 = H at hP hS ⊢
  have hP : va_P (dC, dI) vwCl [(ou, .inl (cL, 1, .inr (.inl of_2)))] H := hP
  have hD : va_D A [(ou, .inl (cL, 1, .inr (.inl of_2)))] := hD
  obtain rfl : r_9 = 1 := hw_10
  refine lv_iload hx hb dL_law_1343 (lv_at hl 1 rfl) ?_
  refine lv_icmp_eq (tgt := 1350) hx hb dL_law_1345 (by decide) (fun c1345_11 => ?_) (fun c1345_11 => ?_)
  · refine lv_iload hx hb dL_law_1350 (lv_at hl 1 rfl) ?_
    refine lv_if_ne (tgt := 1374) hx hb dL_law_1352 (by decide) (fun c1352_12 => ?_) (fun c1352_12 => ?_)
    · refine lv_goto (tgt := 2778) hx hb dL_law_1374 (by decide) ?_
      refine W.widen (k := 600006) (n := 7302039) (Nat.le_of_ble_eq_true rfl) (Nat.le_of_ble_eq_true rfl) ?_
      exact law_end hx hb hr hml hX hbl hlocks hbA hAo hS (lv_sub hl [2, 7] rfl)
    · exact absurd c1352_12 (by decide)
  · exact (c1345_11 (by decide)).elim
