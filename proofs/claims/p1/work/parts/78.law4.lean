theorem dL_law_1901 : decode cL_law 1901 = .ok (.aload_n 1, 1) := by decide +kernel
theorem dL_law_1902 : decode cL_law 1902 = .ok (.aload_n 0, 1) := by decide +kernel
theorem dL_law_1903 : decode cL_law 1903 = .ok (.iload 5, 2) := by decide +kernel
theorem dL_law_1905 : decode cL_law 1905 = .ok (.iconst 1, 1) := by decide +kernel
theorem dL_law_1906 : decode cL_law 1906 = .ok (.iadd, 1) := by decide +kernel
theorem dL_law_1907 : decode cL_law 1907 = .ok (.iaload, 1) := by decide +kernel
theorem dL_law_1908 : decode cL_law 1908 = .ok (.aload_n 3, 1) := by decide +kernel
def q_ggL_law_L_holdoutAt : List Cond := .codeWith yL_holdoutAt cL_holdoutAt 4 (some .int) [(0, 9, 12, 27)] :: ((wsL_holdoutAt_r1 ++ (wsL_holdoutAt_r2 ++ (wsL_holdoutAt_r3 ++ (wsL_holdoutAt_r4 ++ (wsL_holdoutAt_r5 ++ (wsL_holdoutAt_r6 ++ (wsL_holdoutAt_r7 ++ (wsL_holdoutAt_r8 ++ (wsL_holdoutAt_r9 ++ wsL_holdoutAt_r10))))))))) ++ wsX110 ++ wsX50 ++ wsX20 ++ wsX70 ++ wsX100 ++ wsX40)
theorem q0_ggL_law_L_holdoutAt : GoodIn wsL_law ((q_ggL_law_L_holdoutAt.drop 0).take 24) := gi_two _ [(54, 22), (16, 20), (54, 23), (55, 0), (55, 1), (0, 2), (55, 2), (0, 17), (0, 21), (13, 18), (13, 19), (13, 20), (13, 21), (13, 22), (13, 23), (0, 16), (44, 23), (45, 0), (45, 1), (0, 20), (45, 2), (33, 2), (33, 3), (33, 4)] rfl (by decide +kernel)
theorem q1_ggL_law_L_holdoutAt : GoodIn wsL_law ((q_ggL_law_L_holdoutAt.drop 24).take 24) := gi_two _ [(45, 3), (45, 4), (11, 21), (45, 5), (2, 4), (45, 6), (45, 7), (45, 8), (45, 9), (1, 20), (32, 16), (32, 20), (19, 3), (19, 4), (1, 19), (19, 5), (19, 6), (19, 7), (19, 8), (19, 9), (3, 0), (2, 17), (2, 18), (2, 19)] rfl (by decide +kernel)
theorem q2_ggL_law_L_holdoutAt : GoodIn wsL_law ((q_ggL_law_L_holdoutAt.drop 48).take 24) := gi_two _ [(2, 20), (2, 21), (2, 22), (19, 10), (19, 11), (12, 11), (19, 12), (19, 13), (19, 14), (19, 15), (19, 16), (19, 17), (19, 18), (12, 23), (13, 0), (19, 19), (11, 20), (11, 22), (19, 20), (19, 21), (19, 22), (19, 23), (20, 0), (14, 13)] rfl (by decide +kernel)
theorem q3_ggL_law_L_holdoutAt : GoodIn wsL_law ((q_ggL_law_L_holdoutAt.drop 72).take 24) := gi_two _ [(14, 14), (5, 0), (14, 15), (6, 0), (6, 1), (5, 21), (20, 1), (20, 2), (20, 3), (20, 4), (20, 5), (20, 6), (20, 7), (20, 8), (20, 9), (20, 10), (20, 11), (20, 12), (20, 13), (32, 21), (22, 14), (22, 15), (22, 16), (32, 22)] rfl (by decide +kernel)
theorem q4_ggL_law_L_holdoutAt : GoodIn wsL_law ((q_ggL_law_L_holdoutAt.drop 96).take 24) := gi_two _ [(23, 13), (23, 14), (23, 15), (45, 10), (45, 11), (45, 12), (45, 13), (2, 5), (45, 14), (45, 15), (34, 10), (34, 11), (34, 12), (45, 16), (45, 17), (45, 18), (45, 19), (45, 20), (45, 21), (45, 22), (45, 23), (46, 0), (46, 1), (46, 2)] rfl (by decide +kernel)
theorem q5_ggL_law_L_holdoutAt : GoodIn wsL_law ((q_ggL_law_L_holdoutAt.drop 120).take 24) := gi_two _ [(34, 0), (34, 1), (34, 2), (34, 3), (13, 2), (13, 3), (13, 4), (46, 3), (35, 3), (35, 4), (35, 5), (35, 6), (35, 7), (35, 8), (2, 3), (35, 9), (3, 17), (35, 10), (35, 11), (35, 12), (35, 13), (3, 19), (3, 18), (3, 21)] rfl (by decide +kernel)
theorem q6_ggL_law_L_holdoutAt : GoodIn wsL_law ((q_ggL_law_L_holdoutAt.drop 144).take 24) := gi_two _ [(3, 20), (35, 14), (35, 15), (35, 16), (35, 17), (14, 16), (14, 17), (35, 18), (35, 19), (35, 20), (35, 21), (35, 22), (35, 23), (36, 0), (30, 8), (30, 9), (36, 1), (36, 2), (36, 3), (36, 4), (36, 5), (36, 6), (36, 7), (36, 8)] rfl (by decide +kernel)
theorem q7_ggL_law_L_holdoutAt : GoodIn wsL_law ((q_ggL_law_L_holdoutAt.drop 168).take 24) := gi_two _ [(36, 9), (36, 10), (36, 11), (36, 12), (36, 13), (36, 14), (36, 15), (36, 16), (36, 17), (36, 18), (36, 19), (46, 4), (46, 5), (46, 6), (46, 7), (2, 13), (32, 19), (36, 20), (36, 21), (36, 22), (2, 12), (36, 23), (4, 13), (4, 12)] rfl (by decide +kernel)
theorem q8_ggL_law_L_holdoutAt : GoodIn wsL_law ((q_ggL_law_L_holdoutAt.drop 192).take 24) := gi_two _ [(4, 14), (4, 15), (4, 16), (4, 18), (4, 17), (37, 0), (37, 1), (37, 2), (37, 3), (37, 4), (37, 5), (37, 6), (37, 7), (37, 8), (37, 9), (37, 10), (37, 11), (37, 12), (37, 13), (37, 14), (37, 15), (37, 16), (37, 17), (37, 18)] rfl (by decide +kernel)
theorem q9_ggL_law_L_holdoutAt : GoodIn wsL_law ((q_ggL_law_L_holdoutAt.drop 216).take 24) := gi_two _ [(37, 19), (37, 20), (37, 21), (37, 22), (37, 23), (38, 0), (38, 1), (38, 2), (38, 3), (38, 4), (38, 5), (17, 2), (17, 3), (17, 4), (17, 5), (17, 6), (77, 0), (77, 1), (77, 2), (77, 3), (77, 4), (77, 5), (77, 6), (89, 0)] rfl (by decide +kernel)
theorem q10_ggL_law_L_holdoutAt : GoodIn wsL_law ((q_ggL_law_L_holdoutAt.drop 240).take 24) := gi_two _ [(89, 1), (89, 2), (89, 3), (89, 4), (89, 5), (89, 6), (89, 7), (89, 8), (89, 9), (89, 10), (79, 0), (79, 1), (79, 2), (79, 3), (79, 4), (79, 5), (84, 0), (84, 1), (84, 2), (84, 3), (84, 4), (84, 5), (84, 6), (86, 0)] rfl (by decide +kernel)
theorem q11_ggL_law_L_holdoutAt : GoodIn wsL_law ((q_ggL_law_L_holdoutAt.drop 264).take 24) := gi_two _ [(86, 1), (86, 2), (86, 3), (86, 4), (88, 0), (88, 1), (88, 2), (88, 3), (88, 4), (88, 5), (88, 6)] rfl (by decide +kernel)
theorem qe_ggL_law_L_holdoutAt : GoodIn wsL_law (q_ggL_law_L_holdoutAt.drop 288) := gi_two _ [] rfl (by decide +kernel)
theorem qa_ggL_law_L_holdoutAt : GoodIn wsL_law (q_ggL_law_L_holdoutAt) := (gi_step 0 24 q0_ggL_law_L_holdoutAt (gi_step 24 24 q1_ggL_law_L_holdoutAt (gi_step 48 24 q2_ggL_law_L_holdoutAt (gi_step 72 24 q3_ggL_law_L_holdoutAt (gi_step 96 24 q4_ggL_law_L_holdoutAt (gi_step 120 24 q5_ggL_law_L_holdoutAt (gi_step 144 24 q6_ggL_law_L_holdoutAt (gi_step 168 24 q7_ggL_law_L_holdoutAt (gi_step 192 24 q8_ggL_law_L_holdoutAt (gi_step 216 24 q9_ggL_law_L_holdoutAt (gi_step 240 24 q10_ggL_law_L_holdoutAt (gi_step 264 24 q11_ggL_law_L_holdoutAt qe_ggL_law_L_holdoutAt))))))))))))
set_option maxRecDepth 20000 in
theorem ggL_law_L_holdoutAt : GoodIn wsL_law wsL_holdoutAt := goodIn_ca (goodIn_ca (goodIn_ca (qa_ggL_law_L_holdoutAt) (goodIn_sub (fun _ h => List.mem_append_left _ (List.mem_append_left _ (List.mem_append_left _ (List.mem_append_left _ (List.mem_append_left _ (List.mem_append_left _ (List.mem_append_left _ (List.mem_append_right _ h)))))))) (by decide +kernel))) (goodIn_sub (fun _ h => List.mem_append_left _ (List.mem_append_left _ (List.mem_append_left _ (List.mem_append_left _ (List.mem_append_right _ h))))) (by decide +kernel))) (goodIn_sub (fun _ h => List.mem_append_left _ (List.mem_append_left _ (List.mem_append_left _ (List.mem_append_right _ h)))) (by decide +kernel))
set_option maxRecDepth 20000 in
theorem gL_law_L_holdoutAt : GoodIn wsL_law (va_wsS RL 235 yL_holdoutAt wsL_holdoutAt) := goodIn_app (goodIn_of _ (by decide +kernel)) ggL_law_L_holdoutAt
theorem dL_law_1909 : decode cL_law 1909 = .ok (.invokestatic 235, 3) := by decide +kernel
theorem dL_law_1912 : decode cL_law 1912 = .ok (.istore 6, 2) := by decide +kernel
theorem dL_law_1914 : decode cL_law 1914 = .ok (.aload_n 2, 1) := by decide +kernel
theorem dL_law_1915 : decode cL_law 1915 = .ok (.aload_n 0, 1) := by decide +kernel
theorem dL_law_1916 : decode cL_law 1916 = .ok (.iload 5, 2) := by decide +kernel
theorem dL_law_1918 : decode cL_law 1918 = .ok (.iconst 1, 1) := by decide +kernel
theorem dL_law_1919 : decode cL_law 1919 = .ok (.iadd, 1) := by decide +kernel
theorem dL_law_1920 : decode cL_law 1920 = .ok (.iaload, 1) := by decide +kernel
def q_ggL_law_X15_holdoutAt : List Cond := .code yX15_holdoutAt cX15_holdoutAt 4 (some .int) :: ((wsX15_holdoutAt_r1 ++ (wsX15_holdoutAt_r2 ++ (wsX15_holdoutAt_r3 ++ (wsX15_holdoutAt_r4 ++ (wsX15_holdoutAt_r5 ++ (wsX15_holdoutAt_r6 ++ (wsX15_holdoutAt_r7 ++ (wsX15_holdoutAt_r8 ++ wsX15_holdoutAt_r9)))))))) ++ wsX150 ++ wsJx4a65c0 ++ wsX130 ++ wsX140 ++ wsX120)
theorem q0_ggL_law_X15_holdoutAt : GoodIn wsL_law ((q_ggL_law_X15_holdoutAt.drop 0).take 24) := gi_two _ [(55, 6), (7, 13), (15, 2), (10, 0), (10, 7), (10, 8), (10, 9), (7, 12), (10, 10), (10, 11), (15, 7), (15, 8), (15, 9), (15, 10), (15, 11), (15, 12), (15, 13), (15, 14), (15, 15), (15, 16), (15, 17), (15, 18), (15, 19), (15, 20)] rfl (by decide +kernel)
theorem q1_ggL_law_X15_holdoutAt : GoodIn wsL_law ((q_ggL_law_X15_holdoutAt.drop 24).take 24) := gi_two _ [(15, 21), (15, 22), (8, 1), (46, 12), (46, 13), (46, 14), (0, 5), (46, 15), (38, 10), (38, 11), (20, 19), (20, 20), (20, 21), (46, 16), (45, 4), (11, 21), (45, 5), (38, 16), (38, 17), (38, 18), (38, 19), (20, 22), (20, 23), (21, 0)] rfl (by decide +kernel)
theorem q2_ggL_law_X15_holdoutAt : GoodIn wsL_law ((q_ggL_law_X15_holdoutAt.drop 48).take 24) := gi_two _ [(21, 1), (0, 13), (0, 14), (2, 23), (21, 2), (21, 3), (21, 4), (21, 5), (21, 6), (21, 7), (21, 8), (21, 9), (21, 10), (21, 11), (21, 12), (21, 13), (21, 14), (21, 15), (21, 16), (21, 17), (21, 18), (12, 23), (13, 0), (21, 19)] rfl (by decide +kernel)
theorem q3_ggL_law_X15_holdoutAt : GoodIn wsL_law ((q_ggL_law_X15_holdoutAt.drop 72).take 24) := gi_two _ [(21, 20), (11, 20), (11, 22), (21, 21), (21, 22), (21, 23), (22, 0), (22, 1), (22, 2), (22, 3), (22, 4), (22, 5), (16, 4), (16, 5), (10, 3), (16, 6), (10, 21), (27, 7), (27, 8), (27, 9), (27, 10), (38, 20), (38, 21), (38, 22)] rfl (by decide +kernel)
theorem q4_ggL_law_X15_holdoutAt : GoodIn wsL_law ((q_ggL_law_X15_holdoutAt.drop 96).take 24) := gi_two _ [(38, 23), (39, 12), (39, 4), (39, 5), (39, 6), (39, 7), (39, 8), (39, 9), (39, 10), (39, 11), (39, 13), (39, 14), (39, 15), (39, 16), (18, 10), (18, 11), (18, 12), (18, 13), (18, 14), (10, 2), (10, 19), (10, 20), (10, 22), (10, 23)] rfl (by decide +kernel)
theorem q5_ggL_law_X15_holdoutAt : GoodIn wsL_law ((q_ggL_law_X15_holdoutAt.drop 120).take 24) := gi_two _ [(11, 0), (16, 11), (18, 15), (10, 13), (10, 14), (10, 15), (10, 16), (10, 17), (10, 18), (10, 4), (10, 5), (10, 6), (40, 1), (40, 2), (40, 3), (40, 4), (40, 5), (40, 6), (40, 7), (40, 8), (40, 9), (40, 10), (40, 11), (40, 12)] rfl (by decide +kernel)
theorem q6_ggL_law_X15_holdoutAt : GoodIn wsL_law ((q_ggL_law_X15_holdoutAt.drop 144).take 24) := gi_two _ [(7, 9), (40, 13), (40, 14), (40, 15), (40, 16), (40, 17), (40, 18), (40, 19), (40, 20), (40, 21), (40, 22), (40, 23), (41, 0), (41, 1), (41, 2), (41, 3), (41, 4), (41, 5), (41, 6), (41, 7), (41, 8), (41, 9), (41, 10), (41, 11)] rfl (by decide +kernel)
theorem q7_ggL_law_X15_holdoutAt : GoodIn wsL_law ((q_ggL_law_X15_holdoutAt.drop 168).take 24) := gi_two _ [(41, 12), (41, 13), (41, 14), (41, 15), (41, 16), (41, 17), (41, 18), (41, 19), (41, 20), (41, 21), (41, 22), (41, 23), (42, 0), (42, 1), (42, 2), (42, 3), (42, 4), (42, 5), (42, 6), (42, 7), (42, 8), (42, 9), (42, 10), (42, 11)] rfl (by decide +kernel)
theorem q8_ggL_law_X15_holdoutAt : GoodIn wsL_law ((q_ggL_law_X15_holdoutAt.drop 192).take 24) := gi_two _ [(42, 12), (42, 13), (42, 14), (42, 15), (42, 16), (42, 17), (42, 18), (15, 23), (16, 0), (16, 1), (16, 2), (78, 0), (78, 1), (78, 2), (78, 3), (78, 4), (78, 5), (78, 6), (78, 7), (78, 8), (78, 9), (78, 10), (78, 11), (78, 12)] rfl (by decide +kernel)
theorem q9_ggL_law_X15_holdoutAt : GoodIn wsL_law ((q_ggL_law_X15_holdoutAt.drop 216).take 24) := gi_two _ [(78, 13), (78, 14), (78, 15), (78, 16), (78, 17), (78, 18), (78, 19), (78, 20), (90, 0), (90, 1), (90, 2), (91, 0), (91, 1), (91, 2), (91, 3), (91, 4), (91, 5), (91, 6), (91, 7), (91, 8), (91, 9), (91, 10), (91, 11), (92, 0)] rfl (by decide +kernel)
theorem q10_ggL_law_X15_holdoutAt : GoodIn wsL_law ((q_ggL_law_X15_holdoutAt.drop 240).take 24) := gi_two _ [(92, 1), (92, 2), (92, 3), (92, 4), (92, 5), (92, 6), (92, 7), (92, 8), (94, 0), (94, 1), (94, 2), (94, 3), (94, 4), (94, 5), (94, 6), (94, 7), (94, 8), (94, 9), (94, 10)] rfl (by decide +kernel)
theorem qe_ggL_law_X15_holdoutAt : GoodIn wsL_law (q_ggL_law_X15_holdoutAt.drop 264) := gi_two _ [] rfl (by decide +kernel)
theorem qa_ggL_law_X15_holdoutAt : GoodIn wsL_law (q_ggL_law_X15_holdoutAt) := (gi_step 0 24 q0_ggL_law_X15_holdoutAt (gi_step 24 24 q1_ggL_law_X15_holdoutAt (gi_step 48 24 q2_ggL_law_X15_holdoutAt (gi_step 72 24 q3_ggL_law_X15_holdoutAt (gi_step 96 24 q4_ggL_law_X15_holdoutAt (gi_step 120 24 q5_ggL_law_X15_holdoutAt (gi_step 144 24 q6_ggL_law_X15_holdoutAt (gi_step 168 24 q7_ggL_law_X15_holdoutAt (gi_step 192 24 q8_ggL_law_X15_holdoutAt (gi_step 216 24 q9_ggL_law_X15_holdoutAt (gi_step 240 24 q10_ggL_law_X15_holdoutAt qe_ggL_law_X15_holdoutAt)))))))))))
set_option maxRecDepth 20000 in
theorem ggL_law_X15_holdoutAt : GoodIn wsL_law wsX15_holdoutAt := goodIn_ca (goodIn_ca (qa_ggL_law_X15_holdoutAt) (goodIn_sub (fun _ h => List.mem_append_left _ (List.mem_append_left _ (List.mem_append_left _ (List.mem_append_left _ (List.mem_append_left _ (List.mem_append_left _ (List.mem_append_left _ (List.mem_append_right _ h)))))))) (by decide +kernel))) (goodIn_sub (fun _ h => List.mem_append_left _ (List.mem_append_right _ h)) (by decide +kernel))
set_option maxRecDepth 20000 in
theorem gL_law_X15_holdoutAt : GoodIn wsL_law (wsV RL 237 RX15 yX15_holdoutAt wsX15_holdoutAt) := goodIn_app (goodIn_of _ (by decide +kernel)) ggL_law_X15_holdoutAt
theorem dL_law_1921 : decode cL_law 1921 = .ok (.invokevirtual 237, 3) := by decide +kernel
theorem dL_law_1924 : decode cL_law 1924 = .ok (.istore 7, 2) := by decide +kernel
theorem dL_law_1926 : decode cL_law 1926 = .ok (.aload_n 2, 1) := by decide +kernel
theorem dL_law_1927 : decode cL_law 1927 = .ok (.invokevirtual 152, 3) := by decide +kernel
theorem dL_law_1930 : decode cL_law 1930 = .ok (.iload 6, 2) := by decide +kernel
theorem dL_law_1932 : decode cL_law 1932 = .ok (.if_icmp .eq 5, 3) := by decide +kernel
theorem dL_law_1937 : decode cL_law 1937 = .ok (.iload 6, 2) := by decide +kernel
theorem dL_law_1939 : decode cL_law 1939 = .ok (.ifCond .ne 15, 3) := by decide +kernel
theorem dL_law_1954 : decode cL_law 1954 = .ok (.goto 824, 3) := by decide +kernel
theorem dL_law_1957 : decode cL_law 1957 = .ok (.aload_n 1, 1) := by decide +kernel
theorem dL_law_1958 : decode cL_law 1958 = .ok (.aload_n 0, 1) := by decide +kernel
theorem dL_law_1959 : decode cL_law 1959 = .ok (.iload 5, 2) := by decide +kernel
theorem dL_law_1961 : decode cL_law 1961 = .ok (.iconst 1, 1) := by decide +kernel
theorem dL_law_1962 : decode cL_law 1962 = .ok (.iadd, 1) := by decide +kernel
theorem dL_law_1963 : decode cL_law 1963 = .ok (.iaload, 1) := by decide +kernel
theorem dL_law_1964 : decode cL_law 1964 = .ok (.i2c, 1) := by decide +kernel
theorem dL_law_1965 : decode cL_law 1965 = .ok (.aload_n 0, 1) := by decide +kernel
theorem dL_law_1966 : decode cL_law 1966 = .ok (.iload 5, 2) := by decide +kernel
theorem dL_law_1968 : decode cL_law 1968 = .ok (.iconst 2, 1) := by decide +kernel
theorem dL_law_1969 : decode cL_law 1969 = .ok (.iadd, 1) := by decide +kernel
theorem dL_law_1970 : decode cL_law 1970 = .ok (.iaload, 1) := by decide +kernel
theorem dL_law_1971 : decode cL_law 1971 = .ok (.aload_n 0, 1) := by decide +kernel
theorem dL_law_1972 : decode cL_law 1972 = .ok (.iload 5, 2) := by decide +kernel
theorem dL_law_1974 : decode cL_law 1974 = .ok (.iconst 3, 1) := by decide +kernel
theorem dL_law_1975 : decode cL_law 1975 = .ok (.iadd, 1) := by decide +kernel
theorem dL_law_1976 : decode cL_law 1976 = .ok (.iaload, 1) := by decide +kernel
theorem dL_law_1977 : decode cL_law 1977 = .ok (.aload_n 0, 1) := by decide +kernel
theorem dL_law_1978 : decode cL_law 1978 = .ok (.iload 5, 2) := by decide +kernel
theorem dL_law_1980 : decode cL_law 1980 = .ok (.iconst 4, 1) := by decide +kernel
theorem dL_law_1981 : decode cL_law 1981 = .ok (.iadd, 1) := by decide +kernel
theorem dL_law_1982 : decode cL_law 1982 = .ok (.iaload, 1) := by decide +kernel
theorem dL_law_1983 : decode cL_law 1983 = .ok (.aload_n 3, 1) := by decide +kernel
set_option maxRecDepth 20000 in
theorem ggL_law_L_count : GoodIn wsL_law wsL_count := goodIn_ca (goodIn_ca (goodIn_ca (gi_two _ [(55, 9), (8, 16), (8, 17), (55, 10), (55, 11), (55, 12), (0, 2), (55, 13), (9, 10), (9, 11), (1, 5), (55, 14), (8, 22), (8, 23), (9, 0), (9, 1), (9, 2), (9, 3), (9, 4), (9, 5), (55, 15), (55, 16), (55, 17), (1, 4), (55, 18), (6, 7), (6, 5), (6, 8), (6, 9), (6, 10), (55, 19), (12, 23), (11, 21), (13, 0), (14, 16), (14, 17), (77, 0), (77, 1), (77, 2), (77, 3), (77, 4), (77, 5), (77, 6), (81, 0), (81, 1), (81, 2), (81, 3), (81, 4), (81, 5)] rfl (by decide +kernel)) (goodIn_sub (fun _ h => List.mem_append_left _ (List.mem_append_left _ (List.mem_append_left _ (List.mem_append_left _ (List.mem_append_left _ (List.mem_append_left _ (List.mem_append_left _ (List.mem_append_right _ h)))))))) (by decide +kernel))) (goodIn_sub (fun _ h => List.mem_append_left _ (List.mem_append_left _ (List.mem_append_left _ (List.mem_append_left _ (List.mem_append_left _ (List.mem_append_right _ h)))))) (by decide +kernel))) (goodIn_sub (fun _ h => List.mem_append_left _ (List.mem_append_left _ (List.mem_append_left _ (List.mem_append_left _ (List.mem_append_left _ (List.mem_append_left _ (List.mem_append_right _ h))))))) (by decide +kernel))
set_option maxRecDepth 20000 in
theorem gL_law_L_count : GoodIn wsL_law (va_wsS RL 238 yL_count wsL_count) := goodIn_app (goodIn_of _ (by decide +kernel)) ggL_law_L_count
theorem dL_law_1984 : decode cL_law 1984 = .ok (.invokestatic 238, 3) := by decide +kernel
theorem dL_law_1987 : decode cL_law 1987 = .ok (.istore 6, 2) := by decide +kernel
theorem dL_law_1989 : decode cL_law 1989 = .ok (.aload_n 2, 1) := by decide +kernel
theorem dL_law_1990 : decode cL_law 1990 = .ok (.aload_n 0, 1) := by decide +kernel
theorem dL_law_1991 : decode cL_law 1991 = .ok (.iload 5, 2) := by decide +kernel
theorem dL_law_1993 : decode cL_law 1993 = .ok (.iconst 1, 1) := by decide +kernel
theorem dL_law_1994 : decode cL_law 1994 = .ok (.iadd, 1) := by decide +kernel
theorem dL_law_1995 : decode cL_law 1995 = .ok (.iaload, 1) := by decide +kernel
theorem dL_law_1996 : decode cL_law 1996 = .ok (.i2c, 1) := by decide +kernel
theorem dL_law_1997 : decode cL_law 1997 = .ok (.aload_n 0, 1) := by decide +kernel
theorem dL_law_1998 : decode cL_law 1998 = .ok (.iload 5, 2) := by decide +kernel
theorem dL_law_2000 : decode cL_law 2000 = .ok (.iconst 2, 1) := by decide +kernel
theorem dL_law_2001 : decode cL_law 2001 = .ok (.iadd, 1) := by decide +kernel
theorem dL_law_2002 : decode cL_law 2002 = .ok (.iaload, 1) := by decide +kernel
theorem dL_law_2003 : decode cL_law 2003 = .ok (.aload_n 0, 1) := by decide +kernel
theorem dL_law_2004 : decode cL_law 2004 = .ok (.iload 5, 2) := by decide +kernel
theorem dL_law_2006 : decode cL_law 2006 = .ok (.iconst 3, 1) := by decide +kernel
theorem dL_law_2007 : decode cL_law 2007 = .ok (.iadd, 1) := by decide +kernel
theorem dL_law_2008 : decode cL_law 2008 = .ok (.iaload, 1) := by decide +kernel
theorem dL_law_2009 : decode cL_law 2009 = .ok (.aload_n 0, 1) := by decide +kernel
theorem dL_law_2010 : decode cL_law 2010 = .ok (.iload 5, 2) := by decide +kernel
theorem dL_law_2012 : decode cL_law 2012 = .ok (.iconst 4, 1) := by decide +kernel
theorem dL_law_2013 : decode cL_law 2013 = .ok (.iadd, 1) := by decide +kernel
theorem dL_law_2014 : decode cL_law 2014 = .ok (.iaload, 1) := by decide +kernel
set_option maxRecDepth 20000 in
theorem ggL_law_X15_count : GoodIn wsL_law wsX15_count := goodIn_ca (gi_two _ [(55, 23), (52, 14), (56, 0), (7, 14), (10, 0), (2, 23), (10, 4), (10, 5), (0, 5), (10, 6), (10, 7), (10, 8), (10, 9), (7, 12), (10, 10), (10, 11), (11, 1), (11, 2), (11, 3), (11, 4), (11, 5), (11, 6), (8, 1), (11, 7), (11, 8), (11, 9), (11, 10), (11, 11), (11, 12), (11, 13), (11, 14), (11, 15), (11, 16), (11, 17), (11, 18), (8, 0), (11, 19), (11, 20), (11, 21), (11, 22), (11, 23), (12, 0), (12, 1), (12, 2), (12, 3), (12, 4), (12, 5), (12, 6), (12, 7), (12, 8), (12, 9), (12, 10), (12, 11), (12, 12), (12, 13), (12, 14), (12, 15), (12, 16), (12, 17), (12, 18), (12, 19), (12, 20), (12, 21), (12, 22), (12, 23), (13, 0), (13, 1), (13, 2), (13, 3), (13, 4), (78, 0), (78, 1), (78, 2), (78, 3), (78, 4), (78, 5), (78, 6), (78, 7), (78, 8), (78, 9), (78, 10), (78, 11), (78, 12), (78, 13), (78, 14), (78, 15), (78, 16), (78, 17), (78, 18), (78, 19), (78, 20), (90, 0), (90, 1), (90, 2)] rfl (by decide +kernel)) (goodIn_sub (fun _ h => List.mem_append_left _ (List.mem_append_left _ (List.mem_append_left _ (List.mem_append_left _ (List.mem_append_left _ (List.mem_append_left _ (List.mem_append_left _ (List.mem_append_right _ h)))))))) (by decide +kernel))
set_option maxRecDepth 20000 in
theorem gL_law_X15_count : GoodIn wsL_law (wsV RL 241 RX15 yX15_count wsX15_count) := goodIn_app (goodIn_of _ (by decide +kernel)) ggL_law_X15_count
theorem dL_law_2015 : decode cL_law 2015 = .ok (.invokevirtual 241, 3) := by decide +kernel
theorem dL_law_2018 : decode cL_law 2018 = .ok (.istore 7, 2) := by decide +kernel
theorem dL_law_2020 : decode cL_law 2020 = .ok (.aload_n 2, 1) := by decide +kernel
theorem dL_law_2021 : decode cL_law 2021 = .ok (.invokevirtual 152, 3) := by decide +kernel
theorem dL_law_2024 : decode cL_law 2024 = .ok (.iload 6, 2) := by decide +kernel
theorem dL_law_2026 : decode cL_law 2026 = .ok (.if_icmp .eq 5, 3) := by decide +kernel
theorem dL_law_2031 : decode cL_law 2031 = .ok (.iload 6, 2) := by decide +kernel
theorem dL_law_2033 : decode cL_law 2033 = .ok (.ifCond .ne 15, 3) := by decide +kernel
theorem dL_law_2036 : decode cL_law 2036 = .ok (.aload_n 3, 1) := by decide +kernel
theorem dL_law_2037 : decode cL_law 2037 = .ok (.iconst 0, 1) := by decide +kernel
theorem dL_law_2038 : decode cL_law 2038 = .ok (.laload, 1) := by decide +kernel
theorem dL_law_2039 : decode cL_law 2039 = .ok (.iload 7, 2) := by decide +kernel
theorem dL_law_2041 : decode cL_law 2041 = .ok (.i2l, 1) := by decide +kernel
theorem dL_law_2042 : decode cL_law 2042 = .ok (.lcmp, 1) := by decide +kernel
theorem dL_law_2043 : decode cL_law 2043 = .ok (.ifCond .eq 5, 3) := by decide +kernel
theorem dL_law_2048 : decode cL_law 2048 = .ok (.goto 730, 3) := by decide +kernel
theorem dL_law_2051 : decode cL_law 2051 = .ok (.aload_n 1, 1) := by decide +kernel
set_option maxRecDepth 20000 in
theorem ggL_law_X11_uncount : GoodIn wsL_law wsX11_uncount := gi_two _ [(56, 4), (1, 5), (55, 14), (77, 0), (77, 1), (77, 2), (77, 3), (77, 4), (77, 5), (77, 6), (81, 0), (81, 1), (81, 2), (81, 3), (81, 4), (81, 5)] rfl (by decide +kernel)
set_option maxRecDepth 20000 in
theorem gL_law_X11_uncount : GoodIn wsL_law (wsV RL 242 RX11 yX11_uncount wsX11_uncount) := goodIn_app (goodIn_of _ (by decide +kernel)) ggL_law_X11_uncount
theorem dL_law_2052 : decode cL_law 2052 = .ok (.invokevirtual 242, 3) := by decide +kernel
theorem dL_law_2055 : decode cL_law 2055 = .ok (.aload_n 2, 1) := by decide +kernel
set_option maxRecDepth 20000 in
theorem ggL_law_X15_uncount : GoodIn wsL_law wsX15_uncount := gi_two _ [(56, 8), (10, 0), (7, 14), (10, 7), (10, 8), (10, 9), (7, 12), (10, 10), (10, 11), (56, 9), (56, 10), (56, 11), (56, 12), (11, 5), (11, 6), (8, 1), (78, 0), (78, 1), (78, 2), (78, 3), (78, 4), (78, 5), (78, 6), (78, 7), (78, 8), (78, 9), (78, 10), (78, 11), (78, 12), (78, 13), (78, 14), (78, 15), (78, 16), (78, 17), (78, 18), (78, 19), (78, 20), (90, 0), (90, 1), (90, 2)] rfl (by decide +kernel)
set_option maxRecDepth 20000 in
theorem gL_law_X15_uncount : GoodIn wsL_law (wsV RL 245 RX15 yX15_uncount wsX15_uncount) := goodIn_app (goodIn_of _ (by decide +kernel)) ggL_law_X15_uncount
theorem dL_law_2056 : decode cL_law 2056 = .ok (.invokevirtual 245, 3) := by decide +kernel
theorem dL_law_2059 : decode cL_law 2059 = .ok (.if_icmp .eq 719, 3) := by decide +kernel
theorem dL_law_2064 : decode cL_law 2064 = .ok (.aload_n 1, 1) := by decide +kernel
theorem dL_law_2065 : decode cL_law 2065 = .ok (.aload_n 0, 1) := by decide +kernel
theorem dL_law_2066 : decode cL_law 2066 = .ok (.iload 5, 2) := by decide +kernel
theorem dL_law_2068 : decode cL_law 2068 = .ok (.iconst 1, 1) := by decide +kernel
theorem dL_law_2069 : decode cL_law 2069 = .ok (.iadd, 1) := by decide +kernel
theorem dL_law_2070 : decode cL_law 2070 = .ok (.iaload, 1) := by decide +kernel
theorem dL_law_2071 : decode cL_law 2071 = .ok (.aload_n 0, 1) := by decide +kernel
theorem dL_law_2072 : decode cL_law 2072 = .ok (.iload 5, 2) := by decide +kernel
theorem dL_law_2074 : decode cL_law 2074 = .ok (.iconst 2, 1) := by decide +kernel
theorem dL_law_2075 : decode cL_law 2075 = .ok (.iadd, 1) := by decide +kernel
theorem dL_law_2076 : decode cL_law 2076 = .ok (.iaload, 1) := by decide +kernel
theorem dL_law_2077 : decode cL_law 2077 = .ok (.aload_n 0, 1) := by decide +kernel
theorem dL_law_2078 : decode cL_law 2078 = .ok (.iload 5, 2) := by decide +kernel
theorem dL_law_2080 : decode cL_law 2080 = .ok (.iconst 3, 1) := by decide +kernel
theorem dL_law_2081 : decode cL_law 2081 = .ok (.iadd, 1) := by decide +kernel
theorem dL_law_2082 : decode cL_law 2082 = .ok (.iaload, 1) := by decide +kernel
theorem dL_law_2083 : decode cL_law 2083 = .ok (.aload_n 3, 1) := by decide +kernel
set_option maxRecDepth 20000 in
theorem ggL_law_L_runCounters : GoodIn wsL_law wsL_runCounters := goodIn_ca (goodIn_ca (gi_two _ [(56, 15), (8, 16), (56, 16), (56, 17), (56, 18), (0, 2), (56, 19), (1, 5), (9, 3), (9, 4), (9, 5), (8, 22), (8, 23), (9, 0), (9, 1), (9, 2), (56, 20), (56, 21), (56, 22), (1, 4), (56, 23), (6, 6), (6, 5), (57, 0), (19, 11), (12, 11), (19, 12), (14, 16), (14, 17), (57, 1), (57, 2), (57, 3), (57, 4), (6, 8), (6, 7), (6, 9), (6, 10), (30, 8), (30, 9), (77, 0), (77, 1), (77, 2), (77, 3), (77, 4), (77, 5), (77, 6), (81, 0), (81, 1), (81, 2), (81, 3), (81, 4), (81, 5)] rfl (by decide +kernel)) (goodIn_sub (fun _ h => List.mem_append_left _ (List.mem_append_left _ (List.mem_append_left _ (List.mem_append_left _ (List.mem_append_left _ (List.mem_append_left _ (List.mem_append_left _ (List.mem_append_right _ h)))))))) (by decide +kernel))) (goodIn_sub (fun _ h => List.mem_append_left _ (List.mem_append_left _ (List.mem_append_left _ (List.mem_append_left _ (List.mem_append_left _ (List.mem_append_left _ (List.mem_append_right _ h))))))) (by decide +kernel))
set_option maxRecDepth 20000 in
theorem gL_law_L_runCounters : GoodIn wsL_law (va_wsS RL 246 yL_runCounters wsL_runCounters) := goodIn_app (goodIn_of _ (by decide +kernel)) ggL_law_L_runCounters
theorem dL_law_2084 : decode cL_law 2084 = .ok (.invokestatic 246, 3) := by decide +kernel
theorem dL_law_2087 : decode cL_law 2087 = .ok (.istore 6, 2) := by decide +kernel
theorem dL_law_2089 : decode cL_law 2089 = .ok (.aload_n 2, 1) := by decide +kernel
theorem dL_law_2090 : decode cL_law 2090 = .ok (.aload_n 0, 1) := by decide +kernel
theorem dL_law_2091 : decode cL_law 2091 = .ok (.iload 5, 2) := by decide +kernel
theorem dL_law_2093 : decode cL_law 2093 = .ok (.iconst 1, 1) := by decide +kernel
theorem dL_law_2094 : decode cL_law 2094 = .ok (.iadd, 1) := by decide +kernel
theorem dL_law_2095 : decode cL_law 2095 = .ok (.iaload, 1) := by decide +kernel
theorem dL_law_2096 : decode cL_law 2096 = .ok (.aload_n 0, 1) := by decide +kernel
theorem dL_law_2097 : decode cL_law 2097 = .ok (.iload 5, 2) := by decide +kernel
theorem dL_law_2099 : decode cL_law 2099 = .ok (.iconst 2, 1) := by decide +kernel
theorem dL_law_2100 : decode cL_law 2100 = .ok (.iadd, 1) := by decide +kernel
theorem dL_law_2101 : decode cL_law 2101 = .ok (.iaload, 1) := by decide +kernel
theorem dL_law_2102 : decode cL_law 2102 = .ok (.aload_n 0, 1) := by decide +kernel
theorem dL_law_2103 : decode cL_law 2103 = .ok (.iload 5, 2) := by decide +kernel
theorem dL_law_2105 : decode cL_law 2105 = .ok (.iconst 3, 1) := by decide +kernel
theorem dL_law_2106 : decode cL_law 2106 = .ok (.iadd, 1) := by decide +kernel
theorem dL_law_2107 : decode cL_law 2107 = .ok (.iaload, 1) := by decide +kernel
set_option maxRecDepth 20000 in
theorem ggL_law_X15_runCounters : GoodIn wsL_law wsX15_runCounters := goodIn_ca (gi_two _ [(57, 8), (57, 9), (20, 18), (10, 0), (7, 15), (7, 14), (57, 10), (10, 4), (10, 5), (0, 5), (10, 6), (10, 7), (10, 8), (10, 9), (7, 12), (10, 10), (10, 11), (15, 7), (15, 8), (15, 9), (15, 10), (15, 11), (15, 12), (15, 13), (15, 14), (15, 15), (15, 16), (15, 17), (15, 18), (15, 19), (15, 20), (15, 21), (15, 22), (8, 1), (78, 0), (78, 1), (78, 2), (78, 3), (78, 4), (78, 5), (78, 6), (78, 7), (78, 8), (78, 9), (78, 10), (78, 11), (78, 12), (78, 13), (78, 14), (78, 15), (78, 16), (78, 17), (78, 18), (78, 19), (78, 20), (90, 0), (90, 1), (90, 2)] rfl (by decide +kernel)) (goodIn_sub (fun _ h => List.mem_append_left _ (List.mem_append_left _ (List.mem_append_left _ (List.mem_append_left _ (List.mem_append_left _ (List.mem_append_left _ (List.mem_append_left _ (List.mem_append_right _ h)))))))) (by decide +kernel))
set_option maxRecDepth 20000 in
theorem gL_law_X15_runCounters : GoodIn wsL_law (wsV RL 248 RX15 yX15_runCounters wsX15_runCounters) := goodIn_app (goodIn_of _ (by decide +kernel)) ggL_law_X15_runCounters
theorem dL_law_2108 : decode cL_law 2108 = .ok (.invokevirtual 248, 3) := by decide +kernel
theorem dL_law_2111 : decode cL_law 2111 = .ok (.istore 7, 2) := by decide +kernel
theorem dL_law_2113 : decode cL_law 2113 = .ok (.aload_n 2, 1) := by decide +kernel
theorem dL_law_2114 : decode cL_law 2114 = .ok (.invokevirtual 152, 3) := by decide +kernel
theorem dL_law_2117 : decode cL_law 2117 = .ok (.iload 6, 2) := by decide +kernel
theorem dL_law_2119 : decode cL_law 2119 = .ok (.if_icmp .eq 5, 3) := by decide +kernel
theorem dL_law_2124 : decode cL_law 2124 = .ok (.iload 6, 2) := by decide +kernel
theorem dL_law_2126 : decode cL_law 2126 = .ok (.ifCond .ne 15, 3) := by decide +kernel
theorem dL_law_2129 : decode cL_law 2129 = .ok (.aload_n 3, 1) := by decide +kernel
theorem dL_law_2130 : decode cL_law 2130 = .ok (.iconst 0, 1) := by decide +kernel
theorem dL_law_2131 : decode cL_law 2131 = .ok (.laload, 1) := by decide +kernel
theorem dL_law_2132 : decode cL_law 2132 = .ok (.iload 7, 2) := by decide +kernel
theorem dL_law_2134 : decode cL_law 2134 = .ok (.i2l, 1) := by decide +kernel
theorem dL_law_2135 : decode cL_law 2135 = .ok (.lcmp, 1) := by decide +kernel
theorem dL_law_2136 : decode cL_law 2136 = .ok (.ifCond .eq 5, 3) := by decide +kernel
theorem dL_law_2141 : decode cL_law 2141 = .ok (.goto 637, 3) := by decide +kernel
theorem dL_law_2144 : decode cL_law 2144 = .ok (.aload_n 1, 1) := by decide +kernel
theorem dL_law_2145 : decode cL_law 2145 = .ok (.aload_n 0, 1) := by decide +kernel
theorem dL_law_2146 : decode cL_law 2146 = .ok (.iload 5, 2) := by decide +kernel
theorem dL_law_2148 : decode cL_law 2148 = .ok (.iconst 1, 1) := by decide +kernel
theorem dL_law_2149 : decode cL_law 2149 = .ok (.iadd, 1) := by decide +kernel
theorem dL_law_2150 : decode cL_law 2150 = .ok (.iaload, 1) := by decide +kernel
theorem dL_law_2151 : decode cL_law 2151 = .ok (.aload_n 3, 1) := by decide +kernel
set_option maxRecDepth 20000 in
theorem ggL_law_L_register : GoodIn wsL_law wsL_register := goodIn_ca (goodIn_ca (gi_two _ [(57, 13), (13, 12), (57, 14), (57, 15), (57, 16), (0, 2), (57, 17), (13, 22), (13, 23), (1, 5), (57, 18), (9, 3), (9, 4), (9, 5), (57, 19), (30, 8), (30, 9), (77, 0), (77, 1), (77, 2), (77, 3), (77, 4), (77, 5), (77, 6), (81, 0), (81, 1), (81, 2), (81, 3), (81, 4), (81, 5)] rfl (by decide +kernel)) (goodIn_sub (fun _ h => List.mem_append_left _ (List.mem_append_left _ (List.mem_append_left _ (List.mem_append_left _ (List.mem_append_left _ (List.mem_append_left _ (List.mem_append_left _ (List.mem_append_right _ h)))))))) (by decide +kernel))) (goodIn_sub (fun _ h => List.mem_append_left _ (List.mem_append_left _ (List.mem_append_left _ (List.mem_append_left _ (List.mem_append_right _ h))))) (by decide +kernel))
set_option maxRecDepth 20000 in
theorem gL_law_L_register : GoodIn wsL_law (va_wsS RL 249 yL_register wsL_register) := goodIn_app (goodIn_of _ (by decide +kernel)) ggL_law_L_register
theorem dL_law_2152 : decode cL_law 2152 = .ok (.invokestatic 249, 3) := by decide +kernel
theorem dL_law_2155 : decode cL_law 2155 = .ok (.istore 6, 2) := by decide +kernel
theorem dL_law_2157 : decode cL_law 2157 = .ok (.aload_n 2, 1) := by decide +kernel
theorem dL_law_2158 : decode cL_law 2158 = .ok (.aload_n 0, 1) := by decide +kernel
theorem dL_law_2159 : decode cL_law 2159 = .ok (.iload 5, 2) := by decide +kernel
theorem dL_law_2161 : decode cL_law 2161 = .ok (.iconst 1, 1) := by decide +kernel
theorem dL_law_2162 : decode cL_law 2162 = .ok (.iadd, 1) := by decide +kernel
theorem dL_law_2163 : decode cL_law 2163 = .ok (.iaload, 1) := by decide +kernel
set_option maxRecDepth 20000 in
theorem ggL_law_X15_register : GoodIn wsL_law wsX15_register := goodIn_ca (gi_two _ [(57, 23), (52, 14), (10, 0), (7, 15), (10, 4), (10, 5), (0, 5), (10, 6), (78, 0), (78, 1), (78, 2), (78, 3), (78, 4), (78, 5), (78, 6), (78, 7), (78, 8), (78, 9), (78, 10), (78, 11), (78, 12), (78, 13), (78, 14), (78, 15), (78, 16), (78, 17), (78, 18), (78, 19), (78, 20)] rfl (by decide +kernel)) (goodIn_sub (fun _ h => List.mem_append_left _ (List.mem_append_left _ (List.mem_append_left _ (List.mem_append_left _ (List.mem_append_left _ (List.mem_append_left _ (List.mem_append_left _ (List.mem_append_right _ h)))))))) (by decide +kernel))
set_option maxRecDepth 20000 in
theorem gL_law_X15_register : GoodIn wsL_law (wsV RL 251 RX15 yX15_register wsX15_register) := goodIn_app (goodIn_of _ (by decide +kernel)) ggL_law_X15_register
theorem dL_law_2164 : decode cL_law 2164 = .ok (.invokevirtual 251, 3) := by decide +kernel
theorem dL_law_2167 : decode cL_law 2167 = .ok (.istore 7, 2) := by decide +kernel
theorem dL_law_2169 : decode cL_law 2169 = .ok (.aload_n 2, 1) := by decide +kernel
theorem dL_law_2170 : decode cL_law 2170 = .ok (.invokevirtual 152, 3) := by decide +kernel
theorem dL_law_2173 : decode cL_law 2173 = .ok (.iload 6, 2) := by decide +kernel
theorem dL_law_2175 : decode cL_law 2175 = .ok (.if_icmp .eq 5, 3) := by decide +kernel
theorem dL_law_2180 : decode cL_law 2180 = .ok (.iload 6, 2) := by decide +kernel
theorem dL_law_2182 : decode cL_law 2182 = .ok (.ifCond .ne 15, 3) := by decide +kernel
theorem dL_law_2185 : decode cL_law 2185 = .ok (.aload_n 3, 1) := by decide +kernel
theorem dL_law_2186 : decode cL_law 2186 = .ok (.iconst 0, 1) := by decide +kernel
theorem dL_law_2187 : decode cL_law 2187 = .ok (.laload, 1) := by decide +kernel
theorem dL_law_2188 : decode cL_law 2188 = .ok (.iload 7, 2) := by decide +kernel
theorem dL_law_2190 : decode cL_law 2190 = .ok (.i2l, 1) := by decide +kernel
theorem dL_law_2191 : decode cL_law 2191 = .ok (.lcmp, 1) := by decide +kernel
theorem dL_law_2192 : decode cL_law 2192 = .ok (.ifCond .eq 5, 3) := by decide +kernel
theorem dL_law_2197 : decode cL_law 2197 = .ok (.goto 581, 3) := by decide +kernel
theorem dL_law_2200 : decode cL_law 2200 = .ok (.aload_n 1, 1) := by decide +kernel
theorem dL_law_2201 : decode cL_law 2201 = .ok (.aload_n 0, 1) := by decide +kernel
theorem dL_law_2202 : decode cL_law 2202 = .ok (.iload 5, 2) := by decide +kernel
theorem dL_law_2204 : decode cL_law 2204 = .ok (.iconst 1, 1) := by decide +kernel
theorem dL_law_2205 : decode cL_law 2205 = .ok (.iadd, 1) := by decide +kernel
theorem dL_law_2206 : decode cL_law 2206 = .ok (.iaload, 1) := by decide +kernel
theorem dL_law_2207 : decode cL_law 2207 = .ok (.i2c, 1) := by decide +kernel
theorem dL_law_2208 : decode cL_law 2208 = .ok (.aload_n 0, 1) := by decide +kernel
theorem dL_law_2209 : decode cL_law 2209 = .ok (.iload 5, 2) := by decide +kernel
theorem dL_law_2211 : decode cL_law 2211 = .ok (.iconst 2, 1) := by decide +kernel
theorem dL_law_2212 : decode cL_law 2212 = .ok (.iadd, 1) := by decide +kernel
theorem dL_law_2213 : decode cL_law 2213 = .ok (.iaload, 1) := by decide +kernel
theorem dL_law_2214 : decode cL_law 2214 = .ok (.i2c, 1) := by decide +kernel
theorem dL_law_2215 : decode cL_law 2215 = .ok (.aload_n 3, 1) := by decide +kernel
set_option maxRecDepth 20000 in
theorem ggL_law_L_tagRow : GoodIn wsL_law wsL_tagRow := goodIn_ca (goodIn_ca (goodIn_ca (gi_two _ [(58, 2), (8, 16), (8, 17), (58, 3), (58, 4), (58, 5), (0, 2), (58, 6), (9, 10), (9, 11), (1, 9), (9, 3), (9, 4), (9, 5), (8, 22), (8, 23), (9, 0), (9, 1), (9, 2), (58, 7), (58, 8), (58, 9), (1, 8), (58, 10), (6, 18), (30, 8), (30, 9), (58, 11), (58, 12), (58, 13), (58, 14), (6, 17), (14, 16), (14, 17), (77, 0), (77, 1), (77, 2), (77, 3), (77, 4), (77, 5), (77, 6), (82, 0), (82, 1), (82, 2), (82, 3), (82, 4), (82, 5)] rfl (by decide +kernel)) (goodIn_sub (fun _ h => List.mem_append_left _ (List.mem_append_left _ (List.mem_append_left _ (List.mem_append_left _ (List.mem_append_left _ (List.mem_append_left _ (List.mem_append_left _ (List.mem_append_right _ h)))))))) (by decide +kernel))) (goodIn_sub (fun _ h => List.mem_append_left _ (List.mem_append_left _ (List.mem_append_left _ (List.mem_append_left _ (List.mem_append_left _ (List.mem_append_right _ h)))))) (by decide +kernel))) (goodIn_sub (fun _ h => List.mem_append_left _ (List.mem_append_left _ (List.mem_append_left _ (List.mem_append_left _ (List.mem_append_left _ (List.mem_append_left _ (List.mem_append_right _ h))))))) (by decide +kernel))
set_option maxRecDepth 20000 in
theorem gL_law_L_tagRow : GoodIn wsL_law (va_wsS RL 252 yL_tagRow wsL_tagRow) := goodIn_app (goodIn_of _ (by decide +kernel)) ggL_law_L_tagRow
theorem dL_law_2216 : decode cL_law 2216 = .ok (.invokestatic 252, 3) := by decide +kernel
theorem dL_law_2219 : decode cL_law 2219 = .ok (.istore 6, 2) := by decide +kernel
theorem dL_law_2221 : decode cL_law 2221 = .ok (.aload_n 2, 1) := by decide +kernel
theorem dL_law_2222 : decode cL_law 2222 = .ok (.aload_n 0, 1) := by decide +kernel
theorem dL_law_2223 : decode cL_law 2223 = .ok (.iload 5, 2) := by decide +kernel
theorem dL_law_2225 : decode cL_law 2225 = .ok (.iconst 1, 1) := by decide +kernel
theorem dL_law_2226 : decode cL_law 2226 = .ok (.iadd, 1) := by decide +kernel
theorem dL_law_2227 : decode cL_law 2227 = .ok (.iaload, 1) := by decide +kernel
theorem dL_law_2228 : decode cL_law 2228 = .ok (.i2c, 1) := by decide +kernel
theorem dL_law_2229 : decode cL_law 2229 = .ok (.aload_n 0, 1) := by decide +kernel
theorem dL_law_2230 : decode cL_law 2230 = .ok (.iload 5, 2) := by decide +kernel
theorem dL_law_2232 : decode cL_law 2232 = .ok (.iconst 2, 1) := by decide +kernel
theorem dL_law_2233 : decode cL_law 2233 = .ok (.iadd, 1) := by decide +kernel
theorem dL_law_2234 : decode cL_law 2234 = .ok (.iaload, 1) := by decide +kernel
theorem dL_law_2235 : decode cL_law 2235 = .ok (.i2c, 1) := by decide +kernel
def q_ggL_law_X15_tagRow : List Cond := .code yX15_tagRow cX15_tagRow 4 (some .int) :: ((wsX15_tagRow_r1 ++ (wsX15_tagRow_r2 ++ (wsX15_tagRow_r3 ++ (wsX15_tagRow_r4 ++ (wsX15_tagRow_r5 ++ (wsX15_tagRow_r6 ++ (wsX15_tagRow_r7 ++ (wsX15_tagRow_r8 ++ (wsX15_tagRow_r9 ++ (wsX15_tagRow_r10 ++ wsX15_tagRow_r11)))))))))) ++ wsX150 ++ wsJ40 ++ wsJ00)
theorem q0_ggL_law_X15_tagRow : GoodIn wsL_law ((q_ggL_law_X15_tagRow.drop 0).take 24) := gi_two _ [(58, 18), (58, 19), (49, 19), (7, 17), (10, 0), (58, 20), (58, 21), (58, 22), (10, 4), (10, 5), (0, 5), (10, 6), (58, 23), (24, 13), (24, 14), (23, 23), (24, 15), (24, 5), (24, 16), (24, 17), (24, 18), (24, 19), (24, 10), (24, 11)] rfl (by decide +kernel)
theorem q1_ggL_law_X15_tagRow : GoodIn wsL_law ((q_ggL_law_X15_tagRow.drop 24).take 24) := gi_two _ [(59, 0), (59, 1), (59, 2), (59, 3), (59, 4), (59, 5), (59, 6), (59, 7), (0, 13), (0, 14), (59, 8), (59, 9), (59, 10), (59, 11), (59, 12), (59, 13), (25, 10), (59, 14), (59, 15), (59, 16), (59, 17), (59, 18), (59, 19), (59, 20)] rfl (by decide +kernel)
theorem q2_ggL_law_X15_tagRow : GoodIn wsL_law ((q_ggL_law_X15_tagRow.drop 48).take 24) := gi_two _ [(59, 21), (59, 22), (59, 23), (60, 0), (60, 1), (60, 2), (60, 3), (60, 4), (60, 5), (60, 6), (60, 7), (60, 8), (60, 9), (60, 10), (60, 11), (60, 12), (60, 13), (60, 14), (60, 15), (60, 16), (60, 17), (60, 18), (60, 19), (60, 20)] rfl (by decide +kernel)
theorem q3_ggL_law_X15_tagRow : GoodIn wsL_law ((q_ggL_law_X15_tagRow.drop 72).take 24) := gi_two _ [(60, 21), (12, 1), (12, 2), (12, 3), (12, 4), (11, 20), (11, 21), (11, 22), (12, 5), (12, 6), (12, 7), (12, 8), (60, 22), (60, 23), (12, 11), (61, 0), (61, 1), (61, 2), (61, 3), (61, 4), (61, 5), (61, 6), (12, 22), (12, 23)] rfl (by decide +kernel)
theorem q4_ggL_law_X15_tagRow : GoodIn wsL_law ((q_ggL_law_X15_tagRow.drop 96).take 24) := gi_two _ [(13, 0), (13, 1), (13, 2), (13, 3), (13, 4), (61, 7), (61, 8), (61, 9), (61, 10), (61, 11), (61, 12), (61, 13), (61, 14), (26, 13), (25, 18), (25, 19), (25, 20), (25, 21), (25, 22), (25, 23), (26, 0), (26, 1), (26, 2), (26, 3)] rfl (by decide +kernel)
theorem q5_ggL_law_X15_tagRow : GoodIn wsL_law ((q_ggL_law_X15_tagRow.drop 120).take 24) := gi_two _ [(26, 4), (26, 5), (15, 17), (26, 6), (61, 15), (61, 16), (61, 17), (26, 14), (26, 15), (61, 18), (61, 19), (61, 20), (61, 21), (61, 22), (61, 23), (62, 0), (62, 1), (62, 2), (62, 3), (62, 4), (62, 5), (62, 6), (62, 7), (62, 8)] rfl (by decide +kernel)
theorem q6_ggL_law_X15_tagRow : GoodIn wsL_law ((q_ggL_law_X15_tagRow.drop 144).take 24) := gi_two _ [(62, 9), (62, 10), (62, 11), (62, 12), (24, 22), (62, 13), (62, 14), (62, 15), (62, 16), (62, 17), (62, 18), (62, 19), (62, 20), (62, 21), (62, 22), (62, 23), (63, 0), (63, 1), (63, 2), (63, 3), (63, 4), (63, 5), (63, 6), (63, 7)] rfl (by decide +kernel)
theorem q7_ggL_law_X15_tagRow : GoodIn wsL_law ((q_ggL_law_X15_tagRow.drop 168).take 24) := gi_two _ [(63, 8), (63, 9), (63, 10), (63, 11), (63, 12), (63, 13), (63, 14), (63, 15), (63, 16), (63, 17), (63, 18), (63, 19), (63, 20), (63, 21), (63, 22), (63, 23), (64, 0), (64, 1), (64, 2), (64, 3), (64, 4), (15, 16), (15, 18), (64, 5)] rfl (by decide +kernel)
theorem q8_ggL_law_X15_tagRow : GoodIn wsL_law ((q_ggL_law_X15_tagRow.drop 192).take 24) := gi_two _ [(64, 6), (64, 7), (64, 8), (64, 9), (64, 10), (64, 11), (64, 12), (64, 13), (64, 14), (64, 15), (64, 16), (64, 17), (64, 18), (64, 19), (64, 20), (64, 21), (64, 22), (64, 23), (65, 0), (65, 1), (65, 2), (65, 3), (65, 4), (65, 5)] rfl (by decide +kernel)
theorem q9_ggL_law_X15_tagRow : GoodIn wsL_law ((q_ggL_law_X15_tagRow.drop 216).take 24) := gi_two _ [(65, 6), (65, 7), (65, 8), (65, 9), (65, 10), (65, 11), (65, 12), (65, 13), (65, 14), (65, 15), (65, 16), (65, 17), (65, 18), (65, 19), (65, 20), (65, 21), (65, 22), (65, 23), (66, 0), (66, 1), (26, 10), (26, 11), (26, 12), (66, 2)] rfl (by decide +kernel)
theorem q10_ggL_law_X15_tagRow : GoodIn wsL_law ((q_ggL_law_X15_tagRow.drop 240).take 24) := gi_two _ [(66, 3), (66, 4), (66, 5), (78, 0), (78, 1), (78, 2), (78, 3), (78, 4), (78, 5), (78, 6), (78, 7), (78, 8), (78, 9), (78, 10), (78, 11), (78, 12), (78, 13), (78, 14), (78, 15), (78, 16), (78, 17), (78, 18), (78, 19), (78, 20)] rfl (by decide +kernel)
theorem q11_ggL_law_X15_tagRow : GoodIn wsL_law ((q_ggL_law_X15_tagRow.drop 264).take 24) := gi_two _ [(96, 0), (96, 1), (96, 2), (96, 3), (93, 0), (93, 1), (93, 2), (93, 3)] rfl (by decide +kernel)
theorem qe_ggL_law_X15_tagRow : GoodIn wsL_law (q_ggL_law_X15_tagRow.drop 288) := gi_two _ [] rfl (by decide +kernel)
theorem qa_ggL_law_X15_tagRow : GoodIn wsL_law (q_ggL_law_X15_tagRow) := (gi_step 0 24 q0_ggL_law_X15_tagRow (gi_step 24 24 q1_ggL_law_X15_tagRow (gi_step 48 24 q2_ggL_law_X15_tagRow (gi_step 72 24 q3_ggL_law_X15_tagRow (gi_step 96 24 q4_ggL_law_X15_tagRow (gi_step 120 24 q5_ggL_law_X15_tagRow (gi_step 144 24 q6_ggL_law_X15_tagRow (gi_step 168 24 q7_ggL_law_X15_tagRow (gi_step 192 24 q8_ggL_law_X15_tagRow (gi_step 216 24 q9_ggL_law_X15_tagRow (gi_step 240 24 q10_ggL_law_X15_tagRow (gi_step 264 24 q11_ggL_law_X15_tagRow qe_ggL_law_X15_tagRow))))))))))))
set_option maxRecDepth 20000 in
theorem ggL_law_X15_tagRow : GoodIn wsL_law wsX15_tagRow := qa_ggL_law_X15_tagRow
set_option maxRecDepth 20000 in
theorem gL_law_X15_tagRow : GoodIn wsL_law (wsV RL 255 RX15 yX15_tagRow wsX15_tagRow) := goodIn_app (goodIn_of _ (by decide +kernel)) ggL_law_X15_tagRow
theorem dL_law_2236 : decode cL_law 2236 = .ok (.invokevirtual 255, 3) := by decide +kernel
theorem dL_law_2239 : decode cL_law 2239 = .ok (.istore 7, 2) := by decide +kernel
theorem dL_law_2241 : decode cL_law 2241 = .ok (.aload_n 2, 1) := by decide +kernel
theorem dL_law_2242 : decode cL_law 2242 = .ok (.invokevirtual 152, 3) := by decide +kernel
theorem dL_law_2245 : decode cL_law 2245 = .ok (.iload 6, 2) := by decide +kernel
theorem dL_law_2247 : decode cL_law 2247 = .ok (.if_icmp .eq 5, 3) := by decide +kernel
theorem dL_law_2252 : decode cL_law 2252 = .ok (.iload 6, 2) := by decide +kernel
theorem dL_law_2254 : decode cL_law 2254 = .ok (.ifCond .ne 15, 3) := by decide +kernel
theorem dL_law_2257 : decode cL_law 2257 = .ok (.aload_n 3, 1) := by decide +kernel
theorem dL_law_2258 : decode cL_law 2258 = .ok (.iconst 0, 1) := by decide +kernel
theorem dL_law_2259 : decode cL_law 2259 = .ok (.laload, 1) := by decide +kernel
theorem dL_law_2260 : decode cL_law 2260 = .ok (.iload 7, 2) := by decide +kernel
theorem dL_law_2262 : decode cL_law 2262 = .ok (.i2l, 1) := by decide +kernel
theorem dL_law_2263 : decode cL_law 2263 = .ok (.lcmp, 1) := by decide +kernel
theorem dL_law_2264 : decode cL_law 2264 = .ok (.ifCond .eq 5, 3) := by decide +kernel
theorem dL_law_2269 : decode cL_law 2269 = .ok (.goto 509, 3) := by decide +kernel
theorem dL_law_2272 : decode cL_law 2272 = .ok (.aload_n 1, 1) := by decide +kernel
theorem dL_law_2273 : decode cL_law 2273 = .ok (.aload_n 0, 1) := by decide +kernel
theorem dL_law_2274 : decode cL_law 2274 = .ok (.iload 5, 2) := by decide +kernel
theorem dL_law_2276 : decode cL_law 2276 = .ok (.iconst 1, 1) := by decide +kernel
theorem dL_law_2277 : decode cL_law 2277 = .ok (.iadd, 1) := by decide +kernel
theorem dL_law_2278 : decode cL_law 2278 = .ok (.iaload, 1) := by decide +kernel
theorem dL_law_2279 : decode cL_law 2279 = .ok (.i2c, 1) := by decide +kernel
theorem dL_law_2280 : decode cL_law 2280 = .ok (.aload_n 3, 1) := by decide +kernel
set_option maxRecDepth 20000 in
theorem ggL_law_L_tagStart : GoodIn wsL_law wsL_tagStart := goodIn_ca (goodIn_ca (goodIn_ca (gi_two _ [(66, 8), (8, 16), (8, 17), (66, 9), (66, 10), (66, 11), (0, 2), (66, 12), (9, 10), (9, 11), (1, 9), (66, 13), (9, 3), (9, 4), (9, 5), (8, 22), (8, 23), (9, 0), (9, 1), (9, 2), (66, 14), (66, 15), (66, 16), (1, 8), (66, 17), (6, 14), (6, 16), (14, 16), (14, 17), (77, 0), (77, 1), (77, 2), (77, 3), (77, 4), (77, 5), (77, 6), (82, 0), (82, 1), (82, 2), (82, 3), (82, 4), (82, 5)] rfl (by decide +kernel)) (goodIn_sub (fun _ h => List.mem_append_left _ (List.mem_append_left _ (List.mem_append_left _ (List.mem_append_left _ (List.mem_append_left _ (List.mem_append_left _ (List.mem_append_left _ (List.mem_append_right _ h)))))))) (by decide +kernel))) (goodIn_sub (fun _ h => List.mem_append_left _ (List.mem_append_left _ (List.mem_append_left _ (List.mem_append_left _ (List.mem_append_left _ (List.mem_append_right _ h)))))) (by decide +kernel))) (goodIn_sub (fun _ h => List.mem_append_left _ (List.mem_append_left _ (List.mem_append_left _ (List.mem_append_left _ (List.mem_append_left _ (List.mem_append_left _ (List.mem_append_right _ h))))))) (by decide +kernel))
set_option maxRecDepth 20000 in
theorem gL_law_L_tagStart : GoodIn wsL_law (va_wsS RL 256 yL_tagStart wsL_tagStart) := goodIn_app (goodIn_of _ (by decide +kernel)) ggL_law_L_tagStart
theorem dL_law_2281 : decode cL_law 2281 = .ok (.invokestatic 256, 3) := by decide +kernel
theorem dL_law_2284 : decode cL_law 2284 = .ok (.istore 6, 2) := by decide +kernel
theorem dL_law_2286 : decode cL_law 2286 = .ok (.aload_n 2, 1) := by decide +kernel
theorem dL_law_2287 : decode cL_law 2287 = .ok (.aload_n 0, 1) := by decide +kernel
theorem dL_law_2288 : decode cL_law 2288 = .ok (.iload 5, 2) := by decide +kernel
theorem dL_law_2290 : decode cL_law 2290 = .ok (.iconst 1, 1) := by decide +kernel
theorem dL_law_2291 : decode cL_law 2291 = .ok (.iadd, 1) := by decide +kernel
theorem dL_law_2292 : decode cL_law 2292 = .ok (.iaload, 1) := by decide +kernel
theorem dL_law_2293 : decode cL_law 2293 = .ok (.i2c, 1) := by decide +kernel
def q_ggL_law_X15_tagStart : List Cond := .code yX15_tagStart cX15_tagStart 2 (some .int) :: ((wsX15_tagStart_r1 ++ (wsX15_tagStart_r2 ++ (wsX15_tagStart_r3 ++ (wsX15_tagStart_r4 ++ (wsX15_tagStart_r5 ++ (wsX15_tagStart_r6 ++ (wsX15_tagStart_r7 ++ (wsX15_tagStart_r8 ++ (wsX15_tagStart_r9 ++ (wsX15_tagStart_r10 ++ wsX15_tagStart_r11)))))))))) ++ wsX150 ++ wsJ40 ++ wsJ00)
theorem q0_ggL_law_X15_tagStart : GoodIn wsL_law ((q_ggL_law_X15_tagStart.drop 0).take 24) := gi_two _ [(66, 21), (58, 19), (49, 19), (7, 18), (10, 0), (58, 20), (58, 21), (58, 22), (10, 4), (10, 5), (0, 5), (10, 6), (58, 23), (24, 13), (24, 14), (23, 23), (24, 15), (24, 5), (24, 16), (24, 17), (24, 18), (24, 19), (24, 10), (24, 11)] rfl (by decide +kernel)
theorem q1_ggL_law_X15_tagStart : GoodIn wsL_law ((q_ggL_law_X15_tagStart.drop 24).take 24) := gi_two _ [(59, 0), (59, 1), (59, 2), (59, 3), (59, 4), (59, 5), (59, 6), (59, 7), (0, 13), (0, 14), (59, 8), (59, 9), (59, 10), (59, 11), (59, 12), (59, 13), (25, 10), (59, 14), (59, 15), (59, 16), (59, 17), (59, 18), (59, 19), (59, 20)] rfl (by decide +kernel)
theorem q2_ggL_law_X15_tagStart : GoodIn wsL_law ((q_ggL_law_X15_tagStart.drop 48).take 24) := gi_two _ [(59, 21), (59, 22), (59, 23), (60, 0), (60, 1), (60, 2), (60, 3), (60, 4), (60, 5), (60, 6), (60, 7), (60, 8), (60, 9), (60, 10), (60, 11), (60, 12), (60, 13), (60, 14), (60, 15), (60, 16), (60, 17), (60, 18), (60, 19), (60, 20)] rfl (by decide +kernel)
theorem q3_ggL_law_X15_tagStart : GoodIn wsL_law ((q_ggL_law_X15_tagStart.drop 72).take 24) := gi_two _ [(60, 21), (12, 1), (12, 2), (12, 3), (12, 4), (11, 20), (11, 21), (11, 22), (12, 5), (12, 6), (12, 7), (12, 8), (60, 22), (60, 23), (12, 11), (61, 0), (61, 1), (61, 2), (61, 3), (61, 4), (61, 5), (61, 6), (12, 22), (12, 23)] rfl (by decide +kernel)
theorem q4_ggL_law_X15_tagStart : GoodIn wsL_law ((q_ggL_law_X15_tagStart.drop 96).take 24) := gi_two _ [(13, 0), (13, 1), (13, 2), (13, 3), (13, 4), (61, 7), (61, 8), (61, 9), (61, 10), (61, 11), (61, 12), (61, 13), (61, 14), (26, 13), (25, 18), (25, 19), (25, 20), (25, 21), (25, 22), (25, 23), (26, 0), (26, 1), (26, 2), (26, 3)] rfl (by decide +kernel)
theorem q5_ggL_law_X15_tagStart : GoodIn wsL_law ((q_ggL_law_X15_tagStart.drop 120).take 24) := gi_two _ [(26, 4), (26, 5), (15, 17), (26, 6), (61, 15), (61, 16), (61, 17), (26, 14), (26, 15), (61, 18), (61, 19), (61, 20), (61, 21), (61, 22), (61, 23), (62, 0), (62, 1), (62, 2), (62, 3), (62, 4), (62, 5), (62, 6), (62, 7), (62, 8)] rfl (by decide +kernel)
theorem q6_ggL_law_X15_tagStart : GoodIn wsL_law ((q_ggL_law_X15_tagStart.drop 144).take 24) := gi_two _ [(62, 9), (62, 10), (62, 11), (62, 12), (24, 22), (62, 13), (62, 14), (62, 15), (62, 16), (62, 17), (62, 18), (62, 19), (62, 20), (62, 21), (62, 22), (62, 23), (63, 0), (63, 1), (63, 2), (63, 3), (63, 4), (63, 5), (63, 6), (63, 7)] rfl (by decide +kernel)
theorem q7_ggL_law_X15_tagStart : GoodIn wsL_law ((q_ggL_law_X15_tagStart.drop 168).take 24) := gi_two _ [(63, 8), (63, 9), (63, 10), (63, 11), (63, 12), (63, 13), (63, 14), (63, 15), (63, 16), (63, 17), (63, 18), (63, 19), (63, 20), (63, 21), (63, 22), (63, 23), (64, 0), (64, 1), (64, 2), (64, 3), (64, 4), (15, 16), (15, 18), (64, 5)] rfl (by decide +kernel)
theorem q8_ggL_law_X15_tagStart : GoodIn wsL_law ((q_ggL_law_X15_tagStart.drop 192).take 24) := gi_two _ [(64, 6), (64, 7), (64, 8), (64, 9), (64, 10), (64, 11), (64, 12), (64, 13), (64, 14), (64, 15), (64, 16), (64, 17), (64, 18), (64, 19), (64, 20), (64, 21), (64, 22), (64, 23), (65, 0), (65, 1), (65, 2), (65, 3), (65, 4), (65, 5)] rfl (by decide +kernel)
theorem q9_ggL_law_X15_tagStart : GoodIn wsL_law ((q_ggL_law_X15_tagStart.drop 216).take 24) := gi_two _ [(65, 6), (65, 7), (65, 8), (65, 9), (65, 10), (65, 11), (65, 12), (65, 13), (65, 14), (65, 15), (65, 16), (65, 17), (65, 18), (65, 19), (65, 20), (65, 21), (65, 22), (65, 23), (66, 0), (66, 1), (26, 10), (26, 11), (26, 12), (66, 2)] rfl (by decide +kernel)
theorem q10_ggL_law_X15_tagStart : GoodIn wsL_law ((q_ggL_law_X15_tagStart.drop 240).take 24) := gi_two _ [(66, 3), (66, 4), (66, 5), (78, 0), (78, 1), (78, 2), (78, 3), (78, 4), (78, 5), (78, 6), (78, 7), (78, 8), (78, 9), (78, 10), (78, 11), (78, 12), (78, 13), (78, 14), (78, 15), (78, 16), (78, 17), (78, 18), (78, 19), (78, 20)] rfl (by decide +kernel)
theorem q11_ggL_law_X15_tagStart : GoodIn wsL_law ((q_ggL_law_X15_tagStart.drop 264).take 24) := gi_two _ [(96, 0), (96, 1), (96, 2), (96, 3), (93, 0), (93, 1), (93, 2), (93, 3)] rfl (by decide +kernel)
theorem qe_ggL_law_X15_tagStart : GoodIn wsL_law (q_ggL_law_X15_tagStart.drop 288) := gi_two _ [] rfl (by decide +kernel)
theorem qa_ggL_law_X15_tagStart : GoodIn wsL_law (q_ggL_law_X15_tagStart) := (gi_step 0 24 q0_ggL_law_X15_tagStart (gi_step 24 24 q1_ggL_law_X15_tagStart (gi_step 48 24 q2_ggL_law_X15_tagStart (gi_step 72 24 q3_ggL_law_X15_tagStart (gi_step 96 24 q4_ggL_law_X15_tagStart (gi_step 120 24 q5_ggL_law_X15_tagStart (gi_step 144 24 q6_ggL_law_X15_tagStart (gi_step 168 24 q7_ggL_law_X15_tagStart (gi_step 192 24 q8_ggL_law_X15_tagStart (gi_step 216 24 q9_ggL_law_X15_tagStart (gi_step 240 24 q10_ggL_law_X15_tagStart (gi_step 264 24 q11_ggL_law_X15_tagStart qe_ggL_law_X15_tagStart))))))))))))
set_option maxRecDepth 20000 in
theorem ggL_law_X15_tagStart : GoodIn wsL_law wsX15_tagStart := qa_ggL_law_X15_tagStart
set_option maxRecDepth 20000 in
theorem gL_law_X15_tagStart : GoodIn wsL_law (wsV RL 258 RX15 yX15_tagStart wsX15_tagStart) := goodIn_app (goodIn_of _ (by decide +kernel)) ggL_law_X15_tagStart
theorem dL_law_2294 : decode cL_law 2294 = .ok (.invokevirtual 258, 3) := by decide +kernel
theorem dL_law_2297 : decode cL_law 2297 = .ok (.istore 7, 2) := by decide +kernel
theorem dL_law_2299 : decode cL_law 2299 = .ok (.aload_n 2, 1) := by decide +kernel
theorem dL_law_2300 : decode cL_law 2300 = .ok (.invokevirtual 152, 3) := by decide +kernel
theorem dL_law_2303 : decode cL_law 2303 = .ok (.iload 6, 2) := by decide +kernel
theorem dL_law_2305 : decode cL_law 2305 = .ok (.if_icmp .eq 5, 3) := by decide +kernel
theorem dL_law_2310 : decode cL_law 2310 = .ok (.iload 6, 2) := by decide +kernel
theorem dL_law_2312 : decode cL_law 2312 = .ok (.ifCond .ne 15, 3) := by decide +kernel
theorem dL_law_2315 : decode cL_law 2315 = .ok (.aload_n 3, 1) := by decide +kernel
theorem dL_law_2316 : decode cL_law 2316 = .ok (.iconst 0, 1) := by decide +kernel
theorem dL_law_2317 : decode cL_law 2317 = .ok (.laload, 1) := by decide +kernel
theorem dL_law_2318 : decode cL_law 2318 = .ok (.iload 7, 2) := by decide +kernel
theorem dL_law_2320 : decode cL_law 2320 = .ok (.i2l, 1) := by decide +kernel
theorem dL_law_2321 : decode cL_law 2321 = .ok (.lcmp, 1) := by decide +kernel
theorem dL_law_2322 : decode cL_law 2322 = .ok (.ifCond .eq 5, 3) := by decide +kernel
theorem dL_law_2327 : decode cL_law 2327 = .ok (.goto 451, 3) := by decide +kernel
theorem dL_law_2330 : decode cL_law 2330 = .ok (.aload_n 1, 1) := by decide +kernel
set_option maxRecDepth 20000 in
theorem ggL_law_X11_untag : GoodIn wsL_law wsX11_untag := goodIn_ca (gi_two _ [(67, 1), (1, 9), (67, 2), (67, 3), (67, 4), (1, 8), (67, 5), (6, 14), (6, 18), (67, 6), (19, 11), (12, 11), (19, 12), (77, 0), (77, 1), (77, 2), (77, 3), (77, 4), (77, 5), (77, 6), (82, 0), (82, 1), (82, 2), (82, 3), (82, 4), (82, 5)] rfl (by decide +kernel)) (goodIn_sub (fun _ h => List.mem_append_left _ (List.mem_append_left _ (List.mem_append_left _ (List.mem_append_left _ (List.mem_append_left _ (List.mem_append_left _ (List.mem_append_left _ (List.mem_append_right _ h)))))))) (by decide +kernel))
set_option maxRecDepth 20000 in
theorem gL_law_X11_untag : GoodIn wsL_law (wsV RL 259 RX11 yX11_untag wsX11_untag) := goodIn_app (goodIn_of _ (by decide +kernel)) ggL_law_X11_untag
theorem dL_law_2331 : decode cL_law 2331 = .ok (.invokevirtual 259, 3) := by decide +kernel
theorem dL_law_2334 : decode cL_law 2334 = .ok (.aload_n 2, 1) := by decide +kernel
set_option maxRecDepth 20000 in
theorem ggL_law_X15_untag : GoodIn wsL_law wsX15_untag := gi_two _ [(67, 10), (10, 0), (7, 18), (7, 17), (58, 23), (24, 13), (24, 14), (23, 23), (24, 15), (24, 5), (24, 16), (24, 17), (24, 18), (24, 19), (24, 10), (24, 11), (78, 0), (78, 1), (78, 2), (78, 3), (78, 4), (78, 5), (78, 6), (78, 7), (78, 8), (78, 9), (78, 10), (78, 11), (78, 12), (78, 13), (78, 14), (78, 15), (78, 16), (78, 17), (78, 18), (78, 19), (78, 20), (93, 0), (93, 1), (93, 2), (93, 3)] rfl (by decide +kernel)
set_option maxRecDepth 20000 in
theorem gL_law_X15_untag : GoodIn wsL_law (wsV RL 262 RX15 yX15_untag wsX15_untag) := goodIn_app (goodIn_of _ (by decide +kernel)) ggL_law_X15_untag
theorem dL_law_2335 : decode cL_law 2335 = .ok (.invokevirtual 262, 3) := by decide +kernel
theorem dL_law_2338 : decode cL_law 2338 = .ok (.if_icmp .eq 440, 3) := by decide +kernel
set_option maxHeartbeats 8000000 in
set_option maxRecDepth 100000 in
/-- the law: law_24_holdoutAt -/
theorem law_24_holdoutAt {p : Program} {e : Env} {s : State} {m : MethodId} {below : List Frame} {meth : Method} {c : Code} {l : Launch} {b : Nat} {xs : Nat → Int32} (hx : p.tables.exec = Jvm.exec) (hb : c.code = cL_law) (hr : meth.sig.returnType = ret) (hml : c.maxLocals = 9) (hfl : l.stackTraces = false) (hown : s.vm.findClass RL = some m.cls) (hts : ∀ w ∈ wsL_law, w.before #[Value.ref b] s = true) (hX : va_X b 7 xs s s.heap) (hbl : b < s.heap.size) (hlocks : meth.locks = false) {A : Nat → Prop} (hbA : ¬ A b) (hAo : ∀ q, A q → s.heap.size ≤ q) (hA : ∀ q : Nat, s.heap.size ≤ q → A q) (dC : Nat → ClassId) (dI : Nat → Nat → Nat) (hN : nwA s) (e0 : Nat) (aK aV : Nat → Nat) (hZ : zX A s s.heap ∧ zM e0 aK aV A s s.heap) (ya ms ju rj tj ro rn tn rh th ca sa da xa wb z1 z2 jt z3 br z4 z5 z6 lk z7 z8 li bm l2 z9 bo h2 mm l1 z10 oo h1 ct cr cu cg cp co tg ts tr tk te fw fo fu xm ml cl fl rg tR ou od kn : Nat) (cI cM cS cL cD cB : ClassId) {H : Heap} {locs : List Loc} (hP : va_P (dC, dI) vwCl [(ya, .inr (16, [.ref ms, .int 0, .ref ju, .ref li, .ref ct, .ref tg, .ref fw])), (ou, .inl (cL, 1, .inr (.inl (fun _ => 0)))), (xm, .inr (20, [.int 0, .int 0, .ref kn, .int 0, .int 0, .int 0, .ref ml, .ref cl, .ref rg, .ref tR, .ref (aK 0), .ref (aK 0), .ref fl, .int 0, .int 0, .int 0, .int 0, .int 0, .int 0, .int 0, .null])), (ml, .inr (4, [.int 0, .ref e0, .int 0]))] H) (hD : va_D A [(ya, .inr (16, [.ref ms, .int 0, .ref ju, .ref li, .ref ct, .ref tg, .ref fw])), (ou, .inl (cL, 1, .inr (.inl (fun _ => 0)))), (xm, .inr (20, [.int 0, .int 0, .ref kn, .int 0, .int 0, .int 0, .ref ml, .ref cl, .ref rg, .ref tR, .ref (aK 0), .ref (aK 0), .ref fl, .int 0, .int 0, .int 0, .int 0, .int 0, .int 0, .int 0, .null])), (ml, .inr (4, [.int 0, .ref e0, .int 0]))]) (hK : va_K (dC, dI) vwCl [(cL, .long)] s) (hS : va_S A s.heap H locs) {ls : Array Slot} (hl : lv_has ls 9 [(0, .ref b), (1, .ref ya), (2, .ref xm), (3, .ref ou), (4, .ref od), (5, .int 0)]) : W p l e room_1 s m #[Value.ref b] below meth c H locs 200 60000 (lw_Z below #[Value.ref b] s) (F0 m 1901 ls []) := by
  obtain ⟨s1, hs1⟩ : ∃ z, z = xs ((0 : Int32) + 1).toNatClampNeg := ⟨_, rfl⟩
  obtain ⟨s2, hs2⟩ : ∃ z, z = xs ((0 : Int32) + 2).toNatClampNeg := ⟨_, rfl⟩
  obtain ⟨s3, hs3⟩ : ∃ z, z = xs ((0 : Int32) + 3).toNatClampNeg := ⟨_, rfl⟩
  obtain ⟨s4, hs4⟩ : ∃ z, z = xs ((0 : Int32) + 4).toNatClampNeg := ⟨_, rfl⟩
  obtain ⟨s5, hs5⟩ : ∃ z, z = xs ((0 : Int32) + 5).toNatClampNeg := ⟨_, rfl⟩
  obtain ⟨s6, hs6⟩ : ∃ z, z = xs ((0 : Int32) + 6).toNatClampNeg := ⟨_, rfl⟩
  obtain ⟨ch1, hch1⟩ : ∃ z, z = (s1.toUInt32 % 65536).toInt32 := ⟨_, rfl⟩
  obtain ⟨ch2, hch2⟩ : ∃ z, z = (s2.toUInt32 % 65536).toInt32 := ⟨_, rfl⟩
  obtain ⟨ch3, hch3⟩ : ∃ z, z = (s3.toUInt32 % 65536).toInt32 := ⟨_, rfl⟩
  obtain ⟨ch4, hch4⟩ : ∃ z, z = (s4.toUInt32 % 65536).toInt32 := ⟨_, rfl⟩
  obtain ⟨ch5, hch5⟩ : ∃ z, z = (s5.toUInt32 % 65536).toInt32 := ⟨_, rfl⟩
  obtain ⟨ch6, hch6⟩ : ∃ z, z = (s6.toUInt32 % 65536).toInt32 := ⟨_, rfl⟩
  refine lv_aload_n hx hb dL_law_1901 rfl (lv_at hl 1 rfl) ?_
  refine lv_aload_n hx hb dL_law_1902 rfl (lv_at hl 0 rfl) ?_
  refine lv_iload hx hb dL_law_1903 (lv_at hl 5 rfl) ?_
  refine lv_iconst (v := 1) hx hb dL_law_1905 (by decide) ?_
  refine lv_iadd hx hb dL_law_1906 ?_
  refine va_sld hx hb hX hbl hbA hS sx1 dL_law_1907 ?_
  refine lv_topi (fun x_1 ex_1 => ?_)
  obtain rfl : s1 = x_1 := (show x_1 = s1 from ex_1.trans hs1.symm).symm
  refine lv_aload_n hx hb dL_law_1908 rfl (lv_at hl 3 rfl) ?_
  have hPc := hP.sub (ws' := [(ya, .inr (16, [.ref ms, .int 0, .ref ju, .ref li, .ref ct, .ref tg, .ref fw])), (ou, .inl (cL, 1, .inr (.inl (fun _ => 0))))]) [0, 1] rfl
  have hDc := hD.sub (ws' := [(ya, .inr (16, [.ref ms, .int 0, .ref ju, .ref li, .ref ct, .ref tg, .ref fw])), (ou, .inl (cL, 1, .inr (.inl (fun _ => 0))))]) [0, 1] (by decide) rfl
  have hKc := hK.sub (tys' := [(cL, .long)]) [0] rfl
  have hFc := va_free (wc := [(ya, .inr (16, [.ref ms, .int 0, .ref ju, .ref li, .ref ct, .ref tg, .ref fw])), (ou, .inl (cL, 1, .inr (.inl (fun _ => 0))))]) hD hS hA [0, 1] rfl
  refine vx_calli (vx_runSX (As := [.ref ya, .int s1, .ref ou]) (rest := []) ⟨hx, hb, hml, hown, hts⟩ (c_L_holdoutAt l hfl dC dI ya ms ju li ct tg fw s1 cL ou (fun _ => 0) H.size) (vx_cwSW 3 hts gL_law_L_holdoutAt rfl rfl rfl (by decide +kernel) ⟨Nat.le_of_ble_eq_true rfl, Nat.le_of_ble_eq_true rfl⟩) (pcSz (zX_ok) hPc hDc hKc hN hZ.1 hS hFc) rfl rfl hl.1 rfl (lv_room (Nat.le_of_ble_eq_true rfl)) dL_law_1909 ⟨Nat.le_of_ble_eq_true rfl, Nat.le_of_ble_eq_true rfl⟩) hS (fun q _ h => hFc q h) hFc (fun q _ h => hFc q h) (fun E9 ce9 q9 u9 t9 H9 locs9 ht9 hvm9 hp9 hE9 hz9 hk9 hS9 hc9 hv9 hcl9 => hE9.elim) (fun r_3 u t H1 locs ht hvm hw_4 hB hz1 hk1 hS => ?_)
  obtain ⟨hP1, hK1, hD1⟩ := hB
  rw [ht] at hP1
  try dsimp only at hw_4
  obtain ⟨hP, hD⟩ := va_join (wr := [(xm, .inr (20, [.int 0, .int 0, .ref kn, .int 0, .int 0, .int 0, .ref ml, .ref cl, .ref rg, .ref tR, .ref (aK 0), .ref (aK 0), .ref fl, .int 0, .int 0, .int 0, .int 0, .int 0, .int 0, .int 0, .null])), (ml, .inr (4, [.int 0, .ref e0, .int 0]))]) (w1 := [(ou, .inl (cL, 1, .inr (.inl u)))]) hP hD [0, 1] [2, 3] rfl rfl (by decide) (by decide) hk1 hFc hP1 hD1
  generalize H1 = H at hP hS ⊢
  have hP : va_P (dC, dI) vwCl [(xm, .inr (20, [.int 0, .int 0, .ref kn, .int 0, .int 0, .int 0, .ref ml, .ref cl, .ref rg, .ref tR, .ref (aK 0), .ref (aK 0), .ref fl, .int 0, .int 0, .int 0, .int 0, .int 0, .int 0, .int 0, .null])), (ml, .inr (4, [.int 0, .ref e0, .int 0])), (ou, .inl (cL, 1, .inr (.inl u)))] H := hP
  have hD : va_D A [(xm, .inr (20, [.int 0, .int 0, .ref kn, .int 0, .int 0, .int 0, .ref ml, .ref cl, .ref rg, .ref tR, .ref (aK 0), .ref (aK 0), .ref fl, .int 0, .int 0, .int 0, .int 0, .int 0, .int 0, .int 0, .null])), (ml, .inr (4, [.int 0, .ref e0, .int 0])), (ou, .inl (cL, 1, .inr (.inl u)))] := hD
  refine W.widen (k := 201) (n := 60006) (Nat.le_of_ble_eq_true rfl) (Nat.le_of_ble_eq_true rfl) ?_
  obtain ⟨of_2, eof_2⟩ : ∃ z, z = u := ⟨_, rfl⟩
  subst eof_2
  have hP : va_P (dC, dI) vwCl [(xm, .inr (20, [.int 0, .int 0, .ref kn, .int 0, .int 0, .int 0, .ref ml, .ref cl, .ref rg, .ref tR, .ref (aK 0), .ref (aK 0), .ref fl, .int 0, .int 0, .int 0, .int 0, .int 0, .int 0, .int 0, .null])), (ml, .inr (4, [.int 0, .ref e0, .int 0])), (ou, .inl (cL, 1, .inr (.inl of_2)))] H := hP
  have hD : va_D A [(xm, .inr (20, [.int 0, .int 0, .ref kn, .int 0, .int 0, .int 0, .ref ml, .ref cl, .ref rg, .ref tR, .ref (aK 0), .ref (aK 0), .ref fl, .int 0, .int 0, .int 0, .int 0, .int 0, .int 0, .int 0, .null])), (ml, .inr (4, [.int 0, .ref e0, .int 0])), (ou, .inl (cL, 1, .inr (.inl of_2)))] := hD
  obtain rfl : r_3 = 1 := hw_4
  refine lv_istore (lv' := [(6, .int 1), (0, .ref b), (1, .ref ya), (2, .ref xm), (3, .ref ou), (4, .ref od), (5, .int 0)]) hx hb dL_law_1912 hl (by decide) rfl (fun ls hl => ?_)
  refine lv_aload_n hx hb dL_law_1914 rfl (lv_at hl 3 rfl) ?_
  refine lv_aload_n hx hb dL_law_1915 rfl (lv_at hl 1 rfl) ?_
  refine lv_iload hx hb dL_law_1916 (lv_at hl 6 rfl) ?_
  refine lv_iconst (v := 1) hx hb dL_law_1918 (by decide) ?_
  refine lv_iadd hx hb dL_law_1919 ?_
  refine va_sld hx hb hX hbl hbA hS sx1 dL_law_1920 ?_
  refine lv_topi (fun x_5 ex_5 => ?_)
  obtain rfl : s1 = x_5 := (show x_5 = s1 from ex_5.trans hs1.symm).symm
  have hPc := hP.sub (ws' := [(xm, .inr (20, [.int 0, .int 0, .ref kn, .int 0, .int 0, .int 0, .ref ml, .ref cl, .ref rg, .ref tR, .ref (aK 0), .ref (aK 0), .ref fl, .int 0, .int 0, .int 0, .int 0, .int 0, .int 0, .int 0, .null])), (ml, .inr (4, [.int 0, .ref e0, .int 0]))]) [0, 1] rfl
  have hDc := hD.sub (ws' := [(xm, .inr (20, [.int 0, .int 0, .ref kn, .int 0, .int 0, .int 0, .ref ml, .ref cl, .ref rg, .ref tR, .ref (aK 0), .ref (aK 0), .ref fl, .int 0, .int 0, .int 0, .int 0, .int 0, .int 0, .int 0, .null])), (ml, .inr (4, [.int 0, .ref e0, .int 0]))]) [0, 1] (by decide) rfl
  have hKc := hK.sub (tys' := []) [] rfl
  have hFc := va_free (wc := [(xm, .inr (20, [.int 0, .int 0, .ref kn, .int 0, .int 0, .int 0, .ref ml, .ref cl, .ref rg, .ref tR, .ref (aK 0), .ref (aK 0), .ref fl, .int 0, .int 0, .int 0, .int 0, .int 0, .int 0, .int 0, .null])), (ml, .inr (4, [.int 0, .ref e0, .int 0]))]) hD hS hA [0, 1] rfl
  refine va_calli (va_runV (As := [.int s1]) (rest := []) ⟨hx, hb, hml, hown, hts⟩ (c_X15_holdoutAt l dC dI xm ml cl fl kn rg tR e0 aK aV s1 H.size) (cwV 1 hts gL_law_X15_holdoutAt rfl rfl rfl (by decide +kernel) ⟨Nat.le_of_ble_eq_true rfl, Nat.le_of_ble_eq_true rfl⟩) (pcV hPc hDc hKc hN (ci := 20) (q0 := 0) rfl rfl) rfl rfl hl.1 rfl (lv_room (Nat.le_of_ble_eq_true rfl)) dL_law_1921 ⟨Nat.le_of_ble_eq_true rfl, Nat.le_of_ble_eq_true rfl⟩) hS (fun q _ h => hFc q h) hFc (fun r_7 u t H1 locs ht hvm hw_8 hB hz1 hk1 hS => ?_)
  obtain ⟨hP1, hK1, hD1⟩ := hB
  rw [ht] at hP1
  try dsimp only at hw_8
  obtain ⟨hP, hD⟩ := va_join (wr := [(ou, .inl (cL, 1, .inr (.inl of_2)))]) (w1 := [(xm, .inr (20, u))]) hP hD [0, 1] [2] rfl rfl (by decide) (by decide) hk1 hFc hP1 hD1
  generalize H1 = H at hP hS ⊢
  have hP : va_P (dC, dI) vwCl [(ou, .inl (cL, 1, .inr (.inl of_2))), (xm, .inr (20, u))] H := hP
  have hD : va_D A [(ou, .inl (cL, 1, .inr (.inl of_2))), (xm, .inr (20, u))] := hD
  obtain ⟨fs_6, efs_6⟩ : ∃ z, z = u := ⟨_, rfl⟩
  subst efs_6
  have hP : va_P (dC, dI) vwCl [(ou, .inl (cL, 1, .inr (.inl of_2))), (xm, .inr (20, fs_6))] H := hP
  have hD : va_D A [(ou, .inl (cL, 1, .inr (.inl of_2))), (xm, .inr (20, fs_6))] := hD
  refine lv_istore (lv' := [(7, .int r_7), (6, .int 1), (0, .ref b), (1, .ref ya), (2, .ref xm), (3, .ref ou), (4, .ref od), (5, .int 0)]) hx hb dL_law_1924 hl (by decide) rfl (fun ls hl => ?_)
  refine lv_aload_n hx hb dL_law_1926 rfl (lv_at hl 4 rfl) ?_
  have hPc := hP.sub (ws' := [(xm, .inr (20, fs_6))]) [1] rfl
  have hDc := hD.sub (ws' := [(xm, .inr (20, fs_6))]) [1] (by decide) rfl
  have hKc := hK.sub (tys' := []) [] rfl
  have hFc := va_free (wc := [(xm, .inr (20, fs_6))]) hD hS hA [1] rfl
  refine va_calli (va_runV (As := []) (rest := []) ⟨hx, hb, hml, hown, hts⟩ (c_X15_thrown l dC dI xm fs_6 1 hw_8 H.size) (cwV 0 hts gL_law_X15_thrown rfl rfl rfl (by decide +kernel) ⟨Nat.le_of_ble_eq_true rfl, Nat.le_of_ble_eq_true rfl⟩) (pcV hPc hDc hKc hN (ci := 20) (q0 := 0) rfl rfl) rfl rfl hl.1 rfl (lv_room (Nat.le_of_ble_eq_true rfl)) dL_law_1927 ⟨Nat.le_of_ble_eq_true rfl, Nat.le_of_ble_eq_true rfl⟩) hS (fun q _ h => hFc q h) hFc (fun r_9 u t H1 locs ht hvm hw_10 hB hz1 hk1 hS => ?_)
  obtain ⟨hP1, hK1, hD1⟩ := hB
  rw [ht] at hP1
  try dsimp only at hw_10
  obtain ⟨hP, hD⟩ := va_join (wr := [(ou, .inl (cL, 1, .inr (.inl of_2)))]) (w1 := []) hP hD [1] [0] rfl rfl (by decide) (by decide) hk1 hFc hP1 hD1
  generalize H1 = H at hP hS ⊢
  have hP : va_P (dC, dI) vwCl [(ou, .inl (cL, 1, .inr (.inl of_2)))] H := hP
  have hD : va_D A [(ou, .inl (cL, 1, .inr (.inl of_2)))] := hD
  obtain rfl : r_9 = 1 := hw_10
  refine lv_iload hx hb dL_law_1930 (lv_at hl 1 rfl) ?_
  refine lv_icmp_eq (tgt := 1937) hx hb dL_law_1932 (by decide) (fun c1932_11 => ?_) (fun c1932_11 => ?_)
  · refine lv_iload hx hb dL_law_1937 (lv_at hl 1 rfl) ?_
    refine lv_if_ne (tgt := 1954) hx hb dL_law_1939 (by decide) (fun c1939_12 => ?_) (fun c1939_12 => ?_)
    · refine lv_goto (tgt := 2778) hx hb dL_law_1954 (by decide) ?_
      refine W.widen (k := 600006) (n := 7302039) (Nat.le_of_ble_eq_true rfl) (Nat.le_of_ble_eq_true rfl) ?_
      exact law_end hx hb hr hml hX hbl hlocks hbA hAo hS (lv_sub hl [2, 7] rfl)
    · exact absurd c1939_12 (by decide)
  · exact (c1932_11 (by decide)).elim

set_option maxHeartbeats 8000000 in
set_option maxRecDepth 100000 in
/-- the law: law_25_count -/
theorem law_25_count {p : Program} {e : Env} {s : State} {m : MethodId} {below : List Frame} {meth : Method} {c : Code} {l : Launch} {b : Nat} {xs : Nat → Int32} (hx : p.tables.exec = Jvm.exec) (hb : c.code = cL_law) (hr : meth.sig.returnType = ret) (hml : c.maxLocals = 9) (hfl : l.stackTraces = false) (hown : s.vm.findClass RL = some m.cls) (hts : ∀ w ∈ wsL_law, w.before #[Value.ref b] s = true) (hX : va_X b 7 xs s s.heap) (hbl : b < s.heap.size) (hlocks : meth.locks = false) {A : Nat → Prop} (hbA : ¬ A b) (hAo : ∀ q, A q → s.heap.size ≤ q) (hA : ∀ q : Nat, s.heap.size ≤ q → A q) (dC : Nat → ClassId) (dI : Nat → Nat → Nat) (hN : nwA s) (e0 : Nat) (aK aV : Nat → Nat) (hZ : zX A s s.heap ∧ zM e0 aK aV A s s.heap) (ya ms ju rj tj ro rn tn rh th ca sa da xa wb z1 z2 jt z3 br z4 z5 z6 lk z7 z8 li bm l2 z9 bo h2 mm l1 z10 oo h1 ct cr cu cg cp co tg ts tr tk te fw fo fu xm ml cl fl rg tR ou od kn : Nat) (cI cM cS cL cD cB : ClassId) {H : Heap} {locs : List Loc} (hP : va_P (dC, dI) vwCl [(ya, .inr (16, [.ref ms, .int 0, .ref ju, .ref li, .ref ct, .ref tg, .ref fw])), (ct, .inr (5, [.int 0, .ref cr, .ref cu, .ref cg, .ref cp, .ref co])), (cu, .inl (cI, 12, .inl (fun _ => 0))), (cg, .inl (cI, 12, .inl (fun _ => 0))), (cp, .inl (cI, 12, .inl (fun _ => 0))), (co, .inl (cI, 12, .inl (fun _ => 0))), (ou, .inl (cL, 1, .inr (.inl (fun _ => 0)))), (xm, .inr (20, [.int 0, .int 0, .ref kn, .int 0, .int 0, .int 0, .ref ml, .ref cl, .ref rg, .ref tR, .ref (aK 0), .ref (aK 0), .ref fl, .int 0, .int 0, .int 0, .int 0, .int 0, .int 0, .int 0, .null])), (cl, .inr (4, [.int 0, .ref e0, .int 0]))] H) (hD : va_D A [(ya, .inr (16, [.ref ms, .int 0, .ref ju, .ref li, .ref ct, .ref tg, .ref fw])), (ct, .inr (5, [.int 0, .ref cr, .ref cu, .ref cg, .ref cp, .ref co])), (cu, .inl (cI, 12, .inl (fun _ => 0))), (cg, .inl (cI, 12, .inl (fun _ => 0))), (cp, .inl (cI, 12, .inl (fun _ => 0))), (co, .inl (cI, 12, .inl (fun _ => 0))), (ou, .inl (cL, 1, .inr (.inl (fun _ => 0)))), (xm, .inr (20, [.int 0, .int 0, .ref kn, .int 0, .int 0, .int 0, .ref ml, .ref cl, .ref rg, .ref tR, .ref (aK 0), .ref (aK 0), .ref fl, .int 0, .int 0, .int 0, .int 0, .int 0, .int 0, .int 0, .null])), (cl, .inr (4, [.int 0, .ref e0, .int 0]))]) (hK : va_K (dC, dI) vwCl [(cI, .int), (cL, .long)] s) (hS : va_S A s.heap H locs) {ls : Array Slot} (hl : lv_has ls 9 [(0, .ref b), (1, .ref ya), (2, .ref xm), (3, .ref ou), (4, .ref od), (5, .int 0)]) : W p l e room_1 s m #[Value.ref b] below meth c H locs 200 60000 (lw_Z below #[Value.ref b] s) (F0 m 1957 ls []) := by
  obtain ⟨s1, hs1⟩ : ∃ z, z = xs ((0 : Int32) + 1).toNatClampNeg := ⟨_, rfl⟩
  obtain ⟨s2, hs2⟩ : ∃ z, z = xs ((0 : Int32) + 2).toNatClampNeg := ⟨_, rfl⟩
  obtain ⟨s3, hs3⟩ : ∃ z, z = xs ((0 : Int32) + 3).toNatClampNeg := ⟨_, rfl⟩
  obtain ⟨s4, hs4⟩ : ∃ z, z = xs ((0 : Int32) + 4).toNatClampNeg := ⟨_, rfl⟩
  obtain ⟨s5, hs5⟩ : ∃ z, z = xs ((0 : Int32) + 5).toNatClampNeg := ⟨_, rfl⟩
  obtain ⟨s6, hs6⟩ : ∃ z, z = xs ((0 : Int32) + 6).toNatClampNeg := ⟨_, rfl⟩
  obtain ⟨ch1, hch1⟩ : ∃ z, z = (s1.toUInt32 % 65536).toInt32 := ⟨_, rfl⟩
  obtain ⟨ch2, hch2⟩ : ∃ z, z = (s2.toUInt32 % 65536).toInt32 := ⟨_, rfl⟩
  obtain ⟨ch3, hch3⟩ : ∃ z, z = (s3.toUInt32 % 65536).toInt32 := ⟨_, rfl⟩
  obtain ⟨ch4, hch4⟩ : ∃ z, z = (s4.toUInt32 % 65536).toInt32 := ⟨_, rfl⟩
  obtain ⟨ch5, hch5⟩ : ∃ z, z = (s5.toUInt32 % 65536).toInt32 := ⟨_, rfl⟩
  obtain ⟨ch6, hch6⟩ : ∃ z, z = (s6.toUInt32 % 65536).toInt32 := ⟨_, rfl⟩
  refine lv_aload_n hx hb dL_law_1957 rfl (lv_at hl 1 rfl) ?_
  refine lv_aload_n hx hb dL_law_1958 rfl (lv_at hl 0 rfl) ?_
  refine lv_iload hx hb dL_law_1959 (lv_at hl 5 rfl) ?_
  refine lv_iconst (v := 1) hx hb dL_law_1961 (by decide) ?_
  refine lv_iadd hx hb dL_law_1962 ?_
  refine va_sld hx hb hX hbl hbA hS sx1 dL_law_1963 ?_
  refine lv_topi (fun x_1 ex_1 => ?_)
  obtain rfl : s1 = x_1 := (show x_1 = s1 from ex_1.trans hs1.symm).symm
  refine lv_i2c hx hb dL_law_1964 rfl ?_
  refine lv_topi (fun x_2 ex_2 => ?_)
  obtain rfl : ch1 = x_2 := (show x_2 = ch1 from ex_2.trans hch1.symm).symm
  refine lv_aload_n hx hb dL_law_1965 rfl (lv_at hl 0 rfl) ?_
  refine lv_iload hx hb dL_law_1966 (lv_at hl 5 rfl) ?_
  refine lv_iconst (v := 2) hx hb dL_law_1968 (by decide) ?_
  refine lv_iadd hx hb dL_law_1969 ?_
  refine va_sld hx hb hX hbl hbA hS sx2 dL_law_1970 ?_
  refine lv_topi (fun x_3 ex_3 => ?_)
  obtain rfl : s2 = x_3 := (show x_3 = s2 from ex_3.trans hs2.symm).symm
  refine lv_aload_n hx hb dL_law_1971 rfl (lv_at hl 0 rfl) ?_
  refine lv_iload hx hb dL_law_1972 (lv_at hl 5 rfl) ?_
  refine lv_iconst (v := 3) hx hb dL_law_1974 (by decide) ?_
  refine lv_iadd hx hb dL_law_1975 ?_
  refine va_sld hx hb hX hbl hbA hS sx3 dL_law_1976 ?_
  refine lv_topi (fun x_4 ex_4 => ?_)
  obtain rfl : s3 = x_4 := (show x_4 = s3 from ex_4.trans hs3.symm).symm
  refine lv_aload_n hx hb dL_law_1977 rfl (lv_at hl 0 rfl) ?_
  refine lv_iload hx hb dL_law_1978 (lv_at hl 5 rfl) ?_
  refine lv_iconst (v := 4) hx hb dL_law_1980 (by decide) ?_
  refine lv_iadd hx hb dL_law_1981 ?_
  refine va_sld hx hb hX hbl hbA hS sx4 dL_law_1982 ?_
  refine lv_topi (fun x_5 ex_5 => ?_)
  obtain rfl : s4 = x_5 := (show x_5 = s4 from ex_5.trans hs4.symm).symm
  refine lv_aload_n hx hb dL_law_1983 rfl (lv_at hl 3 rfl) ?_
  have hPc := hP.sub (ws' := [(ya, .inr (16, [.ref ms, .int 0, .ref ju, .ref li, .ref ct, .ref tg, .ref fw])), (ct, .inr (5, [.int 0, .ref cr, .ref cu, .ref cg, .ref cp, .ref co])), (cu, .inl (cI, 12, .inl (fun _ => 0))), (cg, .inl (cI, 12, .inl (fun _ => 0))), (cp, .inl (cI, 12, .inl (fun _ => 0))), (co, .inl (cI, 12, .inl (fun _ => 0))), (ou, .inl (cL, 1, .inr (.inl (fun _ => 0))))]) [0, 1, 2, 3, 4, 5, 6] rfl
  have hDc := hD.sub (ws' := [(ya, .inr (16, [.ref ms, .int 0, .ref ju, .ref li, .ref ct, .ref tg, .ref fw])), (ct, .inr (5, [.int 0, .ref cr, .ref cu, .ref cg, .ref cp, .ref co])), (cu, .inl (cI, 12, .inl (fun _ => 0))), (cg, .inl (cI, 12, .inl (fun _ => 0))), (cp, .inl (cI, 12, .inl (fun _ => 0))), (co, .inl (cI, 12, .inl (fun _ => 0))), (ou, .inl (cL, 1, .inr (.inl (fun _ => 0))))]) [0, 1, 2, 3, 4, 5, 6] (by decide) rfl
  have hKc := hK.sub (tys' := [(cI, .int), (cL, .long)]) [0, 1] rfl
  have hFc := va_free (wc := [(ya, .inr (16, [.ref ms, .int 0, .ref ju, .ref li, .ref ct, .ref tg, .ref fw])), (ct, .inr (5, [.int 0, .ref cr, .ref cu, .ref cg, .ref cp, .ref co])), (cu, .inl (cI, 12, .inl (fun _ => 0))), (cg, .inl (cI, 12, .inl (fun _ => 0))), (cp, .inl (cI, 12, .inl (fun _ => 0))), (co, .inl (cI, 12, .inl (fun _ => 0))), (ou, .inl (cL, 1, .inr (.inl (fun _ => 0))))]) hD hS hA [0, 1, 2, 3, 4, 5, 6] rfl
  refine vx_calli (vx_runSX (As := [.ref ya, .int ch1, .int s2, .int s3, .int s4, .ref ou]) (rest := []) ⟨hx, hb, hml, hown, hts⟩ (c_L_count l hfl dC dI cI ya ms ju li ct tg fw cr cu cg cp co (fun _ => 0) (fun _ => 0) (fun _ => 0) (fun _ => 0) ch1 s2 s3 s4 cL ou (fun _ => 0) H.size) (vx_cwSW 6 hts gL_law_L_count rfl rfl rfl (by decide +kernel) ⟨Nat.le_of_ble_eq_true rfl, Nat.le_of_ble_eq_true rfl⟩) (pcSz (zX_ok) hPc hDc hKc hN hZ.1 hS hFc) rfl rfl hl.1 rfl (lv_room (Nat.le_of_ble_eq_true rfl)) dL_law_1984 ⟨Nat.le_of_ble_eq_true rfl, Nat.le_of_ble_eq_true rfl⟩) hS (fun q _ h => hFc q h) hFc (fun q _ h => hFc q h) (fun E9 ce9 q9 u9 t9 H9 locs9 ht9 hvm9 hp9 hE9 hz9 hk9 hS9 hc9 hv9 hcl9 => hE9.elim) (fun r_7 u t H1 locs ht hvm hw_8 hB hz1 hk1 hS => ?_)
  obtain ⟨hP1, hK1, hD1⟩ := hB
  rw [ht] at hP1
  try dsimp only at hw_8
  obtain ⟨hP, hD⟩ := va_join (wr := [(xm, .inr (20, [.int 0, .int 0, .ref kn, .int 0, .int 0, .int 0, .ref ml, .ref cl, .ref rg, .ref tR, .ref (aK 0), .ref (aK 0), .ref fl, .int 0, .int 0, .int 0, .int 0, .int 0, .int 0, .int 0, .null])), (cl, .inr (4, [.int 0, .ref e0, .int 0]))]) (w1 := [(ou, .inl (cL, 1, .inr (.inl u)))]) hP hD [0, 1, 2, 3, 4, 5, 6] [7, 8] rfl rfl (by decide) (by decide) hk1 hFc hP1 hD1
  generalize H1 = H at hP hS ⊢
  have hP : va_P (dC, dI) vwCl [(xm, .inr (20, [.int 0, .int 0, .ref kn, .int 0, .int 0, .int 0, .ref ml, .ref cl, .ref rg, .ref tR, .ref (aK 0), .ref (aK 0), .ref fl, .int 0, .int 0, .int 0, .int 0, .int 0, .int 0, .int 0, .null])), (cl, .inr (4, [.int 0, .ref e0, .int 0])), (ou, .inl (cL, 1, .inr (.inl u)))] H := hP
  have hD : va_D A [(xm, .inr (20, [.int 0, .int 0, .ref kn, .int 0, .int 0, .int 0, .ref ml, .ref cl, .ref rg, .ref tR, .ref (aK 0), .ref (aK 0), .ref fl, .int 0, .int 0, .int 0, .int 0, .int 0, .int 0, .int 0, .null])), (cl, .inr (4, [.int 0, .ref e0, .int 0])), (ou, .inl (cL, 1, .inr (.inl u)))] := hD
  refine W.widen (k := 203) (n := 60018) (Nat.le_of_ble_eq_true rfl) (Nat.le_of_ble_eq_true rfl) ?_
  obtain ⟨of_6, eof_6⟩ : ∃ z, z = u := ⟨_, rfl⟩
  subst eof_6
  have hP : va_P (dC, dI) vwCl [(xm, .inr (20, [.int 0, .int 0, .ref kn, .int 0, .int 0, .int 0, .ref ml, .ref cl, .ref rg, .ref tR, .ref (aK 0), .ref (aK 0), .ref fl, .int 0, .int 0, .int 0, .int 0, .int 0, .int 0, .int 0, .null])), (cl, .inr (4, [.int 0, .ref e0, .int 0])), (ou, .inl (cL, 1, .inr (.inl of_6)))] H := hP
  have hD : va_D A [(xm, .inr (20, [.int 0, .int 0, .ref kn, .int 0, .int 0, .int 0, .ref ml, .ref cl, .ref rg, .ref tR, .ref (aK 0), .ref (aK 0), .ref fl, .int 0, .int 0, .int 0, .int 0, .int 0, .int 0, .int 0, .null])), (cl, .inr (4, [.int 0, .ref e0, .int 0])), (ou, .inl (cL, 1, .inr (.inl of_6)))] := hD
  rcases hw_8 with ⟨hr0, hPP, hv0⟩ | ⟨hr0, hPP⟩
  · obtain rfl : r_7 = 0 := hr0
    refine lv_istore (lv' := [(6, .int 0), (0, .ref b), (1, .ref ya), (2, .ref xm), (3, .ref ou), (4, .ref od), (5, .int 0)]) hx hb dL_law_1987 hl (by decide) rfl (fun ls hl => ?_)
    refine lv_aload_n hx hb dL_law_1989 rfl (lv_at hl 3 rfl) ?_
    refine lv_aload_n hx hb dL_law_1990 rfl (lv_at hl 1 rfl) ?_
    refine lv_iload hx hb dL_law_1991 (lv_at hl 6 rfl) ?_
    refine lv_iconst (v := 1) hx hb dL_law_1993 (by decide) ?_
    refine lv_iadd hx hb dL_law_1994 ?_
    refine va_sld hx hb hX hbl hbA hS sx1 dL_law_1995 ?_
    refine lv_topi (fun x_9 ex_9 => ?_)
    obtain rfl : s1 = x_9 := (show x_9 = s1 from ex_9.trans hs1.symm).symm
    refine lv_i2c hx hb dL_law_1996 rfl ?_
    refine lv_topi (fun x_10 ex_10 => ?_)
    obtain rfl : ch1 = x_10 := (show x_10 = ch1 from ex_10.trans hch1.symm).symm
    refine lv_aload_n hx hb dL_law_1997 rfl (lv_at hl 1 rfl) ?_
    refine lv_iload hx hb dL_law_1998 (lv_at hl 6 rfl) ?_
    refine lv_iconst (v := 2) hx hb dL_law_2000 (by decide) ?_
    refine lv_iadd hx hb dL_law_2001 ?_
    refine va_sld hx hb hX hbl hbA hS sx2 dL_law_2002 ?_
    refine lv_topi (fun x_11 ex_11 => ?_)
    obtain rfl : s2 = x_11 := (show x_11 = s2 from ex_11.trans hs2.symm).symm
    refine lv_aload_n hx hb dL_law_2003 rfl (lv_at hl 1 rfl) ?_
    refine lv_iload hx hb dL_law_2004 (lv_at hl 6 rfl) ?_
    refine lv_iconst (v := 3) hx hb dL_law_2006 (by decide) ?_
    refine lv_iadd hx hb dL_law_2007 ?_
    refine va_sld hx hb hX hbl hbA hS sx3 dL_law_2008 ?_
    refine lv_topi (fun x_12 ex_12 => ?_)
    obtain rfl : s3 = x_12 := (show x_12 = s3 from ex_12.trans hs3.symm).symm
    refine lv_aload_n hx hb dL_law_2009 rfl (lv_at hl 1 rfl) ?_
    refine lv_iload hx hb dL_law_2010 (lv_at hl 6 rfl) ?_
    refine lv_iconst (v := 4) hx hb dL_law_2012 (by decide) ?_
    refine lv_iadd hx hb dL_law_2013 ?_
    refine va_sld hx hb hX hbl hbA hS sx4 dL_law_2014 ?_
    refine lv_topi (fun x_13 ex_13 => ?_)
    obtain rfl : s4 = x_13 := (show x_13 = s4 from ex_13.trans hs4.symm).symm
    have hPc := hP.sub (ws' := [(xm, .inr (20, [.int 0, .int 0, .ref kn, .int 0, .int 0, .int 0, .ref ml, .ref cl, .ref rg, .ref tR, .ref (aK 0), .ref (aK 0), .ref fl, .int 0, .int 0, .int 0, .int 0, .int 0, .int 0, .int 0, .null])), (cl, .inr (4, [.int 0, .ref e0, .int 0]))]) [0, 1] rfl
    have hDc := hD.sub (ws' := [(xm, .inr (20, [.int 0, .int 0, .ref kn, .int 0, .int 0, .int 0, .ref ml, .ref cl, .ref rg, .ref tR, .ref (aK 0), .ref (aK 0), .ref fl, .int 0, .int 0, .int 0, .int 0, .int 0, .int 0, .int 0, .null])), (cl, .inr (4, [.int 0, .ref e0, .int 0]))]) [0, 1] (by decide) rfl
    have hKc := hK.sub (tys' := [(cI, .int)]) [0] rfl
    have hFc := va_free (wc := [(xm, .inr (20, [.int 0, .int 0, .ref kn, .int 0, .int 0, .int 0, .ref ml, .ref cl, .ref rg, .ref tR, .ref (aK 0), .ref (aK 0), .ref fl, .int 0, .int 0, .int 0, .int 0, .int 0, .int 0, .int 0, .null])), (cl, .inr (4, [.int 0, .ref e0, .int 0]))]) hD hS hA [0, 1] rfl
    refine va_calli (va_runV (As := [.int ch1, .int s2, .int s3, .int s4]) (rest := []) ⟨hx, hb, hml, hown, hts⟩ (c_X15_count l dC dI xm ml cl fl kn rg tR e0 aK aV cI ch1 s2 s3 s4 H.size) (cwV 4 hts gL_law_X15_count rfl rfl rfl (by decide +kernel) ⟨Nat.le_of_ble_eq_true rfl, Nat.le_of_ble_eq_true rfl⟩) (pcVz (zM_ok e0 aK aV) hPc hDc hKc hN hZ.2 hS hFc (ci := 20) (q0 := 0) rfl rfl) rfl rfl hl.1 rfl (lv_room (Nat.le_of_ble_eq_true rfl)) dL_law_2015 ⟨Nat.le_of_ble_eq_true rfl, Nat.le_of_ble_eq_true rfl⟩) hS (fun q _ h => hFc q h) hFc (fun r_15 u t H1 locs ht hvm hw_16 hB hz1 hk1 hS => ?_)
    obtain ⟨hP1, hK1, hD1⟩ := hB
    rw [ht] at hP1
    try dsimp only at hw_16
    obtain ⟨hP, hD⟩ := va_join (wr := [(ou, .inl (cL, 1, .inr (.inl of_6)))]) (w1 := [(xm, .inr (20, u))]) hP hD [0, 1] [2] rfl rfl (by decide) (by decide) hk1 hFc hP1 hD1
    generalize H1 = H at hP hS ⊢
    have hP : va_P (dC, dI) vwCl [(ou, .inl (cL, 1, .inr (.inl of_6))), (xm, .inr (20, u))] H := hP
    have hD : va_D A [(ou, .inl (cL, 1, .inr (.inl of_6))), (xm, .inr (20, u))] := hD
    refine W.widen (k := 205) (n := 60032) (Nat.le_of_ble_eq_true rfl) (Nat.le_of_ble_eq_true rfl) ?_
    obtain ⟨fs_14, efs_14⟩ : ∃ z, z = u := ⟨_, rfl⟩
    subst efs_14
    have hP : va_P (dC, dI) vwCl [(ou, .inl (cL, 1, .inr (.inl of_6))), (xm, .inr (20, fs_14))] H := hP
    have hD : va_D A [(ou, .inl (cL, 1, .inr (.inl of_6))), (xm, .inr (20, fs_14))] := hD
    obtain ⟨ht9, hrv⟩ := hw_16.elim (fun h => h.2) (fun h => absurd hPP h.1)
    obtain rfl : r_15 = 1 := hrv
    refine lv_istore (lv' := [(7, .int 1), (6, .int 0), (0, .ref b), (1, .ref ya), (2, .ref xm), (3, .ref ou), (4, .ref od), (5, .int 0)]) hx hb dL_law_2018 hl (by decide) rfl (fun ls hl => ?_)
    refine lv_aload_n hx hb dL_law_2020 rfl (lv_at hl 4 rfl) ?_
    have hPc := hP.sub (ws' := [(xm, .inr (20, fs_14))]) [1] rfl
    have hDc := hD.sub (ws' := [(xm, .inr (20, fs_14))]) [1] (by decide) rfl
    have hKc := hK.sub (tys' := []) [] rfl
    have hFc := va_free (wc := [(xm, .inr (20, fs_14))]) hD hS hA [1] rfl
    refine va_calli (va_runV (As := []) (rest := []) ⟨hx, hb, hml, hown, hts⟩ (c_X15_thrown l dC dI xm fs_14 0 ht9 H.size) (cwV 0 hts gL_law_X15_thrown rfl rfl rfl (by decide +kernel) ⟨Nat.le_of_ble_eq_true rfl, Nat.le_of_ble_eq_true rfl⟩) (pcV hPc hDc hKc hN (ci := 20) (q0 := 0) rfl rfl) rfl rfl hl.1 rfl (lv_room (Nat.le_of_ble_eq_true rfl)) dL_law_2021 ⟨Nat.le_of_ble_eq_true rfl, Nat.le_of_ble_eq_true rfl⟩) hS (fun q _ h => hFc q h) hFc (fun r_17 u t H1 locs ht hvm hw_18 hB hz1 hk1 hS => ?_)
    obtain ⟨hP1, hK1, hD1⟩ := hB
    rw [ht] at hP1
    try dsimp only at hw_18
    obtain ⟨hP, hD⟩ := va_join (wr := [(ou, .inl (cL, 1, .inr (.inl of_6)))]) (w1 := []) hP hD [1] [0] rfl rfl (by decide) (by decide) hk1 hFc hP1 hD1
    generalize H1 = H at hP hS ⊢
    have hP : va_P (dC, dI) vwCl [(ou, .inl (cL, 1, .inr (.inl of_6)))] H := hP
    have hD : va_D A [(ou, .inl (cL, 1, .inr (.inl of_6)))] := hD
    obtain rfl : r_17 = 0 := hw_18
    refine lv_iload hx hb dL_law_2024 (lv_at hl 1 rfl) ?_
    refine lv_icmp_eq (tgt := 2031) hx hb dL_law_2026 (by decide) (fun c2026_19 => ?_) (fun c2026_19 => ?_)
    · refine lv_iload hx hb dL_law_2031 (lv_at hl 1 rfl) ?_
      refine lv_if_ne (tgt := 2048) hx hb dL_law_2033 (by decide) (fun c2033_20 => ?_) (fun c2033_20 => ?_)
      · exact (c2033_20 (by decide)).elim
      · refine lv_aload_n hx hb dL_law_2036 rfl (lv_at hl 5 rfl) ?_
        refine lv_iconst (v := 0) hx hb dL_law_2037 (by decide) ?_
        refine va_lald hx hb hK hP 0 1 rfl rfl (show vp_in (nI 0) 1 from vp_in_nI (by decide) (by decide)) dL_law_2038 ?_
        refine lv_topl (fun z_21 ez_21 => ?_)
        obtain rfl : z_21 = (1 : Int32).toInt64 := by rw [ez_21, show (0 : Int32).toNatClampNeg = 0 from by decide]; exact hv0
        refine lv_iload hx hb dL_law_2039 (lv_at hl 0 rfl) ?_
        refine lv_i2l hx hb dL_law_2041 rfl ?_
        refine W.lcmp hx hb dL_law_2042 ?_
        refine lv_if_eq (tgt := 2048) hx hb dL_law_2043 (by decide) (fun c2043_22 => ?_) (fun c2043_22 => ?_)
        · refine lv_goto (tgt := 2778) hx hb dL_law_2048 (by decide) ?_
          refine W.widen (k := 600006) (n := 7302039) (Nat.le_of_ble_eq_true rfl) (Nat.le_of_ble_eq_true rfl) ?_
          exact law_end hx hb hr hml hX hbl hlocks hbA hAo hS (lv_sub hl [2, 7] rfl)
        · exact absurd ((lg_cmp_eq _ _).mpr (by first | rfl | (subst_vars; rfl))) c2043_22
    · exact (c2026_19 (by decide)).elim
  · obtain rfl : r_7 = 1 := hr0
    refine lv_istore (lv' := [(6, .int 1), (0, .ref b), (1, .ref ya), (2, .ref xm), (3, .ref ou), (4, .ref od), (5, .int 0)]) hx hb dL_law_1987 hl (by decide) rfl (fun ls hl => ?_)
    refine lv_aload_n hx hb dL_law_1989 rfl (lv_at hl 3 rfl) ?_
    refine lv_aload_n hx hb dL_law_1990 rfl (lv_at hl 1 rfl) ?_
    refine lv_iload hx hb dL_law_1991 (lv_at hl 6 rfl) ?_
    refine lv_iconst (v := 1) hx hb dL_law_1993 (by decide) ?_
    refine lv_iadd hx hb dL_law_1994 ?_
    refine va_sld hx hb hX hbl hbA hS sx1 dL_law_1995 ?_
    refine lv_topi (fun x_23 ex_23 => ?_)
    obtain rfl : s1 = x_23 := (show x_23 = s1 from ex_23.trans hs1.symm).symm
    refine lv_i2c hx hb dL_law_1996 rfl ?_
    refine lv_topi (fun x_24 ex_24 => ?_)
    obtain rfl : ch1 = x_24 := (show x_24 = ch1 from ex_24.trans hch1.symm).symm
    refine lv_aload_n hx hb dL_law_1997 rfl (lv_at hl 1 rfl) ?_
    refine lv_iload hx hb dL_law_1998 (lv_at hl 6 rfl) ?_
    refine lv_iconst (v := 2) hx hb dL_law_2000 (by decide) ?_
    refine lv_iadd hx hb dL_law_2001 ?_
    refine va_sld hx hb hX hbl hbA hS sx2 dL_law_2002 ?_
    refine lv_topi (fun x_25 ex_25 => ?_)
    obtain rfl : s2 = x_25 := (show x_25 = s2 from ex_25.trans hs2.symm).symm
    refine lv_aload_n hx hb dL_law_2003 rfl (lv_at hl 1 rfl) ?_
    refine lv_iload hx hb dL_law_2004 (lv_at hl 6 rfl) ?_
    refine lv_iconst (v := 3) hx hb dL_law_2006 (by decide) ?_
    refine lv_iadd hx hb dL_law_2007 ?_
    refine va_sld hx hb hX hbl hbA hS sx3 dL_law_2008 ?_
    refine lv_topi (fun x_26 ex_26 => ?_)
    obtain rfl : s3 = x_26 := (show x_26 = s3 from ex_26.trans hs3.symm).symm
    refine lv_aload_n hx hb dL_law_2009 rfl (lv_at hl 1 rfl) ?_
    refine lv_iload hx hb dL_law_2010 (lv_at hl 6 rfl) ?_
    refine lv_iconst (v := 4) hx hb dL_law_2012 (by decide) ?_
    refine lv_iadd hx hb dL_law_2013 ?_
    refine va_sld hx hb hX hbl hbA hS sx4 dL_law_2014 ?_
    refine lv_topi (fun x_27 ex_27 => ?_)
    obtain rfl : s4 = x_27 := (show x_27 = s4 from ex_27.trans hs4.symm).symm
    have hPc := hP.sub (ws' := [(xm, .inr (20, [.int 0, .int 0, .ref kn, .int 0, .int 0, .int 0, .ref ml, .ref cl, .ref rg, .ref tR, .ref (aK 0), .ref (aK 0), .ref fl, .int 0, .int 0, .int 0, .int 0, .int 0, .int 0, .int 0, .null])), (cl, .inr (4, [.int 0, .ref e0, .int 0]))]) [0, 1] rfl
    have hDc := hD.sub (ws' := [(xm, .inr (20, [.int 0, .int 0, .ref kn, .int 0, .int 0, .int 0, .ref ml, .ref cl, .ref rg, .ref tR, .ref (aK 0), .ref (aK 0), .ref fl, .int 0, .int 0, .int 0, .int 0, .int 0, .int 0, .int 0, .null])), (cl, .inr (4, [.int 0, .ref e0, .int 0]))]) [0, 1] (by decide) rfl
    have hKc := hK.sub (tys' := [(cI, .int)]) [0] rfl
    have hFc := va_free (wc := [(xm, .inr (20, [.int 0, .int 0, .ref kn, .int 0, .int 0, .int 0, .ref ml, .ref cl, .ref rg, .ref tR, .ref (aK 0), .ref (aK 0), .ref fl, .int 0, .int 0, .int 0, .int 0, .int 0, .int 0, .int 0, .null])), (cl, .inr (4, [.int 0, .ref e0, .int 0]))]) hD hS hA [0, 1] rfl
    refine va_calli (va_runV (As := [.int ch1, .int s2, .int s3, .int s4]) (rest := []) ⟨hx, hb, hml, hown, hts⟩ (c_X15_count l dC dI xm ml cl fl kn rg tR e0 aK aV cI ch1 s2 s3 s4 H.size) (cwV 4 hts gL_law_X15_count rfl rfl rfl (by decide +kernel) ⟨Nat.le_of_ble_eq_true rfl, Nat.le_of_ble_eq_true rfl⟩) (pcVz (zM_ok e0 aK aV) hPc hDc hKc hN hZ.2 hS hFc (ci := 20) (q0 := 0) rfl rfl) rfl rfl hl.1 rfl (lv_room (Nat.le_of_ble_eq_true rfl)) dL_law_2015 ⟨Nat.le_of_ble_eq_true rfl, Nat.le_of_ble_eq_true rfl⟩) hS (fun q _ h => hFc q h) hFc (fun r_29 u t H1 locs ht hvm hw_30 hB hz1 hk1 hS => ?_)
    obtain ⟨hP1, hK1, hD1⟩ := hB
    rw [ht] at hP1
    try dsimp only at hw_30
    obtain ⟨hP, hD⟩ := va_join (wr := [(ou, .inl (cL, 1, .inr (.inl of_6)))]) (w1 := [(xm, .inr (20, u))]) hP hD [0, 1] [2] rfl rfl (by decide) (by decide) hk1 hFc hP1 hD1
    generalize H1 = H at hP hS ⊢
    have hP : va_P (dC, dI) vwCl [(ou, .inl (cL, 1, .inr (.inl of_6))), (xm, .inr (20, u))] H := hP
    have hD : va_D A [(ou, .inl (cL, 1, .inr (.inl of_6))), (xm, .inr (20, u))] := hD
    refine W.widen (k := 205) (n := 60032) (Nat.le_of_ble_eq_true rfl) (Nat.le_of_ble_eq_true rfl) ?_
    obtain ⟨fs_28, efs_28⟩ : ∃ z, z = u := ⟨_, rfl⟩
    subst efs_28
    have hP : va_P (dC, dI) vwCl [(ou, .inl (cL, 1, .inr (.inl of_6))), (xm, .inr (20, fs_28))] H := hP
    have hD : va_D A [(ou, .inl (cL, 1, .inr (.inl of_6))), (xm, .inr (20, fs_28))] := hD
    have ht9 := hw_30.elim (fun h => absurd h.1 hPP) (fun h => h.2)
    refine lv_istore (lv' := [(7, .int r_29), (6, .int 1), (0, .ref b), (1, .ref ya), (2, .ref xm), (3, .ref ou), (4, .ref od), (5, .int 0)]) hx hb dL_law_2018 hl (by decide) rfl (fun ls hl => ?_)
    refine lv_aload_n hx hb dL_law_2020 rfl (lv_at hl 4 rfl) ?_
    have hPc := hP.sub (ws' := [(xm, .inr (20, fs_28))]) [1] rfl
    have hDc := hD.sub (ws' := [(xm, .inr (20, fs_28))]) [1] (by decide) rfl
    have hKc := hK.sub (tys' := []) [] rfl
    have hFc := va_free (wc := [(xm, .inr (20, fs_28))]) hD hS hA [1] rfl
    refine va_calli (va_runV (As := []) (rest := []) ⟨hx, hb, hml, hown, hts⟩ (c_X15_thrown l dC dI xm fs_28 1 ht9 H.size) (cwV 0 hts gL_law_X15_thrown rfl rfl rfl (by decide +kernel) ⟨Nat.le_of_ble_eq_true rfl, Nat.le_of_ble_eq_true rfl⟩) (pcV hPc hDc hKc hN (ci := 20) (q0 := 0) rfl rfl) rfl rfl hl.1 rfl (lv_room (Nat.le_of_ble_eq_true rfl)) dL_law_2021 ⟨Nat.le_of_ble_eq_true rfl, Nat.le_of_ble_eq_true rfl⟩) hS (fun q _ h => hFc q h) hFc (fun r_31 u t H1 locs ht hvm hw_32 hB hz1 hk1 hS => ?_)
    obtain ⟨hP1, hK1, hD1⟩ := hB
    rw [ht] at hP1
    try dsimp only at hw_32
    obtain ⟨hP, hD⟩ := va_join (wr := [(ou, .inl (cL, 1, .inr (.inl of_6)))]) (w1 := []) hP hD [1] [0] rfl rfl (by decide) (by decide) hk1 hFc hP1 hD1
    generalize H1 = H at hP hS ⊢
    have hP : va_P (dC, dI) vwCl [(ou, .inl (cL, 1, .inr (.inl of_6)))] H := hP
    have hD : va_D A [(ou, .inl (cL, 1, .inr (.inl of_6)))] := hD
    obtain rfl : r_31 = 1 := hw_32
    refine lv_iload hx hb dL_law_2024 (lv_at hl 1 rfl) ?_
    refine lv_icmp_eq (tgt := 2031) hx hb dL_law_2026 (by decide) (fun c2026_33 => ?_) (fun c2026_33 => ?_)
    · refine lv_iload hx hb dL_law_2031 (lv_at hl 1 rfl) ?_
      refine lv_if_ne (tgt := 2048) hx hb dL_law_2033 (by decide) (fun c2033_34 => ?_) (fun c2033_34 => ?_)
      · refine lv_goto (tgt := 2778) hx hb dL_law_2048 (by decide) ?_
        refine W.widen (k := 600006) (n := 7302039) (Nat.le_of_ble_eq_true rfl) (Nat.le_of_ble_eq_true rfl) ?_
        exact law_end hx hb hr hml hX hbl hlocks hbA hAo hS (lv_sub hl [2, 7] rfl)
      · exact absurd c2033_34 (by decide)
    · exact (c2026_33 (by decide)).elim

set_option maxHeartbeats 8000000 in
set_option maxRecDepth 100000 in
/-- the law: law_26_uncount -/
theorem law_26_uncount {p : Program} {e : Env} {s : State} {m : MethodId} {below : List Frame} {meth : Method} {c : Code} {l : Launch} {b : Nat} {xs : Nat → Int32} (hx : p.tables.exec = Jvm.exec) (hb : c.code = cL_law) (hr : meth.sig.returnType = ret) (hml : c.maxLocals = 9) (hfl : l.stackTraces = false) (hown : s.vm.findClass RL = some m.cls) (hts : ∀ w ∈ wsL_law, w.before #[Value.ref b] s = true) (hX : va_X b 7 xs s s.heap) (hbl : b < s.heap.size) (hlocks : meth.locks = false) {A : Nat → Prop} (hbA : ¬ A b) (hAo : ∀ q, A q → s.heap.size ≤ q) (hA : ∀ q : Nat, s.heap.size ≤ q → A q) (dC : Nat → ClassId) (dI : Nat → Nat → Nat) (hN : nwA s) (e0 : Nat) (aK aV : Nat → Nat) (hZ : zX A s s.heap ∧ zM e0 aK aV A s s.heap) (ya ms ju rj tj ro rn tn rh th ca sa da xa wb z1 z2 jt z3 br z4 z5 z6 lk z7 z8 li bm l2 z9 bo h2 mm l1 z10 oo h1 ct cr cu cg cp co tg ts tr tk te fw fo fu xm ml cl fl rg tR ou od kn : Nat) (cI cM cS cL cD cB : ClassId) {H : Heap} {locs : List Loc} (hP : va_P (dC, dI) vwCl [(ya, .inr (16, [.ref ms, .int 0, .ref ju, .ref li, .ref ct, .ref tg, .ref fw])), (ct, .inr (5, [.int 0, .ref cr, .ref cu, .ref cg, .ref cp, .ref co])), (xm, .inr (20, [.int 0, .int 0, .ref kn, .int 0, .int 0, .int 0, .ref ml, .ref cl, .ref rg, .ref tR, .ref (aK 0), .ref (aK 0), .ref fl, .int 0, .int 0, .int 0, .int 0, .int 0, .int 0, .int 0, .null])), (cl, .inr (4, [.int 0, .ref e0, .int 0]))] H) (hD : va_D A [(ya, .inr (16, [.ref ms, .int 0, .ref ju, .ref li, .ref ct, .ref tg, .ref fw])), (ct, .inr (5, [.int 0, .ref cr, .ref cu, .ref cg, .ref cp, .ref co])), (xm, .inr (20, [.int 0, .int 0, .ref kn, .int 0, .int 0, .int 0, .ref ml, .ref cl, .ref rg, .ref tR, .ref (aK 0), .ref (aK 0), .ref fl, .int 0, .int 0, .int 0, .int 0, .int 0, .int 0, .int 0, .null])), (cl, .inr (4, [.int 0, .ref e0, .int 0]))]) (hK : va_K (dC, dI) vwCl [] s) (hS : va_S A s.heap H locs) {ls : Array Slot} (hl : lv_has ls 9 [(0, .ref b), (1, .ref ya), (2, .ref xm), (3, .ref ou), (4, .ref od), (5, .int 0)]) : W p l e room_1 s m #[Value.ref b] below meth c H locs 200 60000 (lw_Z below #[Value.ref b] s) (F0 m 2051 ls []) := by
  obtain ⟨s1, hs1⟩ : ∃ z, z = xs ((0 : Int32) + 1).toNatClampNeg := ⟨_, rfl⟩
  obtain ⟨s2, hs2⟩ : ∃ z, z = xs ((0 : Int32) + 2).toNatClampNeg := ⟨_, rfl⟩
  obtain ⟨s3, hs3⟩ : ∃ z, z = xs ((0 : Int32) + 3).toNatClampNeg := ⟨_, rfl⟩
  obtain ⟨s4, hs4⟩ : ∃ z, z = xs ((0 : Int32) + 4).toNatClampNeg := ⟨_, rfl⟩
  obtain ⟨s5, hs5⟩ : ∃ z, z = xs ((0 : Int32) + 5).toNatClampNeg := ⟨_, rfl⟩
  obtain ⟨s6, hs6⟩ : ∃ z, z = xs ((0 : Int32) + 6).toNatClampNeg := ⟨_, rfl⟩
  obtain ⟨ch1, hch1⟩ : ∃ z, z = (s1.toUInt32 % 65536).toInt32 := ⟨_, rfl⟩
  obtain ⟨ch2, hch2⟩ : ∃ z, z = (s2.toUInt32 % 65536).toInt32 := ⟨_, rfl⟩
  obtain ⟨ch3, hch3⟩ : ∃ z, z = (s3.toUInt32 % 65536).toInt32 := ⟨_, rfl⟩
  obtain ⟨ch4, hch4⟩ : ∃ z, z = (s4.toUInt32 % 65536).toInt32 := ⟨_, rfl⟩
  obtain ⟨ch5, hch5⟩ : ∃ z, z = (s5.toUInt32 % 65536).toInt32 := ⟨_, rfl⟩
  obtain ⟨ch6, hch6⟩ : ∃ z, z = (s6.toUInt32 % 65536).toInt32 := ⟨_, rfl⟩
  refine lv_aload_n hx hb dL_law_2051 rfl (lv_at hl 1 rfl) ?_
  have hPc := hP.sub (ws' := [(ya, .inr (16, [.ref ms, .int 0, .ref ju, .ref li, .ref ct, .ref tg, .ref fw])), (ct, .inr (5, [.int 0, .ref cr, .ref cu, .ref cg, .ref cp, .ref co]))]) [0, 1] rfl
  have hDc := hD.sub (ws' := [(ya, .inr (16, [.ref ms, .int 0, .ref ju, .ref li, .ref ct, .ref tg, .ref fw])), (ct, .inr (5, [.int 0, .ref cr, .ref cu, .ref cg, .ref cp, .ref co]))]) [0, 1] (by decide) rfl
  have hKc := hK.sub (tys' := []) [] rfl
  have hFc := va_free (wc := [(ya, .inr (16, [.ref ms, .int 0, .ref ju, .ref li, .ref ct, .ref tg, .ref fw])), (ct, .inr (5, [.int 0, .ref cr, .ref cu, .ref cg, .ref cp, .ref co]))]) hD hS hA [0, 1] rfl
  refine vx_calli (vx_runV (As := []) (rest := []) ⟨hx, hb, hml, hown, hts⟩ (c_X11_uncount l hfl dC dI ya ms ju li ct tg fw cr cu cg cp co H.size) (cwV 0 hts gL_law_X11_uncount rfl rfl rfl (by decide +kernel) ⟨Nat.le_of_ble_eq_true rfl, Nat.le_of_ble_eq_true rfl⟩) (pcVz (zX_ok) hPc hDc hKc hN hZ.1 hS hFc (ci := 16) (q0 := 0) rfl rfl) rfl rfl hl.1 rfl (lv_room (Nat.le_of_ble_eq_true rfl)) dL_law_2052 ⟨Nat.le_of_ble_eq_true rfl, Nat.le_of_ble_eq_true rfl⟩) hS (fun q _ h => hFc q h) hFc (fun q _ h => hFc q h) (fun E9 ce9 q9 u9 t9 H9 locs9 ht9 hvm9 hp9 hE9 hz9 hk9 hS9 hc9 hv9 hcl9 => hE9.elim) (fun r_1 u t H1 locs ht hvm hw_2 hB hz1 hk1 hS => ?_)
  obtain ⟨hP1, hK1, hD1⟩ := hB
  rw [ht] at hP1
  try dsimp only at hw_2
  obtain ⟨hP, hD⟩ := va_join (wr := [(xm, .inr (20, [.int 0, .int 0, .ref kn, .int 0, .int 0, .int 0, .ref ml, .ref cl, .ref rg, .ref tR, .ref (aK 0), .ref (aK 0), .ref fl, .int 0, .int 0, .int 0, .int 0, .int 0, .int 0, .int 0, .null])), (cl, .inr (4, [.int 0, .ref e0, .int 0]))]) (w1 := []) hP hD [0, 1] [2, 3] rfl rfl (by decide) (by decide) hk1 hFc hP1 hD1
  generalize H1 = H at hP hS ⊢
  have hP : va_P (dC, dI) vwCl [(xm, .inr (20, [.int 0, .int 0, .ref kn, .int 0, .int 0, .int 0, .ref ml, .ref cl, .ref rg, .ref tR, .ref (aK 0), .ref (aK 0), .ref fl, .int 0, .int 0, .int 0, .int 0, .int 0, .int 0, .int 0, .null])), (cl, .inr (4, [.int 0, .ref e0, .int 0]))] H := hP
  have hD : va_D A [(xm, .inr (20, [.int 0, .int 0, .ref kn, .int 0, .int 0, .int 0, .ref ml, .ref cl, .ref rg, .ref tR, .ref (aK 0), .ref (aK 0), .ref fl, .int 0, .int 0, .int 0, .int 0, .int 0, .int 0, .int 0, .null])), (cl, .inr (4, [.int 0, .ref e0, .int 0]))] := hD
  obtain rfl : r_1 = 0 := hw_2
  refine lv_aload_n hx hb dL_law_2055 rfl (lv_at hl 2 rfl) ?_
  have hPc := hP.sub (ws' := [(xm, .inr (20, [.int 0, .int 0, .ref kn, .int 0, .int 0, .int 0, .ref ml, .ref cl, .ref rg, .ref tR, .ref (aK 0), .ref (aK 0), .ref fl, .int 0, .int 0, .int 0, .int 0, .int 0, .int 0, .int 0, .null])), (cl, .inr (4, [.int 0, .ref e0, .int 0]))]) [0, 1] rfl
  have hDc := hD.sub (ws' := [(xm, .inr (20, [.int 0, .int 0, .ref kn, .int 0, .int 0, .int 0, .ref ml, .ref cl, .ref rg, .ref tR, .ref (aK 0), .ref (aK 0), .ref fl, .int 0, .int 0, .int 0, .int 0, .int 0, .int 0, .int 0, .null])), (cl, .inr (4, [.int 0, .ref e0, .int 0]))]) [0, 1] (by decide) rfl
  have hKc := hK.sub (tys' := []) [] rfl
  have hFc := va_free (wc := [(xm, .inr (20, [.int 0, .int 0, .ref kn, .int 0, .int 0, .int 0, .ref ml, .ref cl, .ref rg, .ref tR, .ref (aK 0), .ref (aK 0), .ref fl, .int 0, .int 0, .int 0, .int 0, .int 0, .int 0, .int 0, .null])), (cl, .inr (4, [.int 0, .ref e0, .int 0]))]) hD hS hA [0, 1] rfl
  refine va_calli (va_runV (As := []) (rest := [.int 0]) ⟨hx, hb, hml, hown, hts⟩ (c_X15_uncount l dC dI xm ml cl fl kn rg tR e0 aK aV H.size) (cwV 0 hts gL_law_X15_uncount rfl rfl rfl (by decide +kernel) ⟨Nat.le_of_ble_eq_true rfl, Nat.le_of_ble_eq_true rfl⟩) (pcVz (zM_ok e0 aK aV) hPc hDc hKc hN hZ.2 hS hFc (ci := 20) (q0 := 0) rfl rfl) rfl rfl hl.1 rfl (lv_room (Nat.le_of_ble_eq_true rfl)) dL_law_2056 ⟨Nat.le_of_ble_eq_true rfl, Nat.le_of_ble_eq_true rfl⟩) hS (fun q _ h => hFc q h) hFc (fun r_4 u t H1 locs ht hvm hw_5 hB hz1 hk1 hS => ?_)
  obtain ⟨hP1, hK1, hD1⟩ := hB
  rw [ht] at hP1
  try dsimp only at hw_5
  obtain ⟨hP, hD⟩ := va_join (wr := []) (w1 := [(xm, .inr (20, u))]) hP hD [0, 1] [] rfl rfl (by decide) (by decide) hk1 hFc hP1 hD1
  generalize H1 = H at hP hS ⊢
  have hP : va_P (dC, dI) vwCl [(xm, .inr (20, u))] H := hP
  have hD : va_D A [(xm, .inr (20, u))] := hD
  obtain ⟨fs_3, efs_3⟩ : ∃ z, z = u := ⟨_, rfl⟩
  subst efs_3
  have hP : va_P (dC, dI) vwCl [(xm, .inr (20, fs_3))] H := hP
  have hD : va_D A [(xm, .inr (20, fs_3))] := hD
  obtain rfl : r_4 = 0 := hw_5.2
  refine lv_icmp_eq (tgt := 2778) hx hb dL_law_2059 (by decide) (fun c2059_6 => ?_) (fun c2059_6 => ?_)
  · refine W.widen (k := 600006) (n := 7302039) (Nat.le_of_ble_eq_true rfl) (Nat.le_of_ble_eq_true rfl) ?_
    exact law_end hx hb hr hml hX hbl hlocks hbA hAo hS (lv_sub hl [0, 5] rfl)
  · exact (c2059_6 (by decide)).elim

set_option maxHeartbeats 8000000 in
set_option maxRecDepth 100000 in
/-- the law: law_27_runCounters -/
theorem law_27_runCounters {p : Program} {e : Env} {s : State} {m : MethodId} {below : List Frame} {meth : Method} {c : Code} {l : Launch} {b : Nat} {xs : Nat → Int32} (hx : p.tables.exec = Jvm.exec) (hb : c.code = cL_law) (hr : meth.sig.returnType = ret) (hml : c.maxLocals = 9) (hfl : l.stackTraces = false) (hown : s.vm.findClass RL = some m.cls) (hts : ∀ w ∈ wsL_law, w.before #[Value.ref b] s = true) (hX : va_X b 7 xs s s.heap) (hbl : b < s.heap.size) (hlocks : meth.locks = false) {A : Nat → Prop} (hbA : ¬ A b) (hAo : ∀ q, A q → s.heap.size ≤ q) (hA : ∀ q : Nat, s.heap.size ≤ q → A q) (dC : Nat → ClassId) (dI : Nat → Nat → Nat) (hN : nwA s) (e0 : Nat) (aK aV : Nat → Nat) (hZ : zX A s s.heap ∧ zM e0 aK aV A s s.heap) (ya ms ju rj tj ro rn tn rh th ca sa da xa wb z1 z2 jt z3 br z4 z5 z6 lk z7 z8 li bm l2 z9 bo h2 mm l1 z10 oo h1 ct cr cu cg cp co tg ts tr tk te fw fo fu xm ml cl fl rg tR ou od kn : Nat) (cI cM cS cL cD cB : ClassId) {H : Heap} {locs : List Loc} (hP : va_P (dC, dI) vwCl [(ya, .inr (16, [.ref ms, .int 0, .ref ju, .ref li, .ref ct, .ref tg, .ref fw])), (ct, .inr (5, [.int 0, .ref cr, .ref cu, .ref cg, .ref cp, .ref co])), (cr, .inl (cI, 4, .inl (fun _ => 0))), (ou, .inl (cL, 1, .inr (.inl (fun _ => 0)))), (xm, .inr (20, [.int 0, .int 0, .ref kn, .int 0, .int 0, .int 0, .ref ml, .ref cl, .ref rg, .ref tR, .ref (aK 0), .ref (aK 0), .ref fl, .int 0, .int 0, .int 0, .int 0, .int 0, .int 0, .int 0, .null])), (cl, .inr (4, [.int 0, .ref e0, .int 0])), (rg, .inl (cI, 4, .inl (fun _ => 0)))] H) (hD : va_D A [(ya, .inr (16, [.ref ms, .int 0, .ref ju, .ref li, .ref ct, .ref tg, .ref fw])), (ct, .inr (5, [.int 0, .ref cr, .ref cu, .ref cg, .ref cp, .ref co])), (cr, .inl (cI, 4, .inl (fun _ => 0))), (ou, .inl (cL, 1, .inr (.inl (fun _ => 0)))), (xm, .inr (20, [.int 0, .int 0, .ref kn, .int 0, .int 0, .int 0, .ref ml, .ref cl, .ref rg, .ref tR, .ref (aK 0), .ref (aK 0), .ref fl, .int 0, .int 0, .int 0, .int 0, .int 0, .int 0, .int 0, .null])), (cl, .inr (4, [.int 0, .ref e0, .int 0])), (rg, .inl (cI, 4, .inl (fun _ => 0)))]) (hK : va_K (dC, dI) vwCl [(cI, .int), (cL, .long)] s) (hS : va_S A s.heap H locs) {ls : Array Slot} (hl : lv_has ls 9 [(0, .ref b), (1, .ref ya), (2, .ref xm), (3, .ref ou), (4, .ref od), (5, .int 0)]) : W p l e room_1 s m #[Value.ref b] below meth c H locs 200 60000 (lw_Z below #[Value.ref b] s) (F0 m 2064 ls []) := by
  obtain ⟨s1, hs1⟩ : ∃ z, z = xs ((0 : Int32) + 1).toNatClampNeg := ⟨_, rfl⟩
  obtain ⟨s2, hs2⟩ : ∃ z, z = xs ((0 : Int32) + 2).toNatClampNeg := ⟨_, rfl⟩
  obtain ⟨s3, hs3⟩ : ∃ z, z = xs ((0 : Int32) + 3).toNatClampNeg := ⟨_, rfl⟩
  obtain ⟨s4, hs4⟩ : ∃ z, z = xs ((0 : Int32) + 4).toNatClampNeg := ⟨_, rfl⟩
  obtain ⟨s5, hs5⟩ : ∃ z, z = xs ((0 : Int32) + 5).toNatClampNeg := ⟨_, rfl⟩
  obtain ⟨s6, hs6⟩ : ∃ z, z = xs ((0 : Int32) + 6).toNatClampNeg := ⟨_, rfl⟩
  obtain ⟨ch1, hch1⟩ : ∃ z, z = (s1.toUInt32 % 65536).toInt32 := ⟨_, rfl⟩
  obtain ⟨ch2, hch2⟩ : ∃ z, z = (s2.toUInt32 % 65536).toInt32 := ⟨_, rfl⟩
  obtain ⟨ch3, hch3⟩ : ∃ z, z = (s3.toUInt32 % 65536).toInt32 := ⟨_, rfl⟩
  obtain ⟨ch4, hch4⟩ : ∃ z, z = (s4.toUInt32 % 65536).toInt32 := ⟨_, rfl⟩
  obtain ⟨ch5, hch5⟩ : ∃ z, z = (s5.toUInt32 % 65536).toInt32 := ⟨_, rfl⟩
  obtain ⟨ch6, hch6⟩ : ∃ z, z = (s6.toUInt32 % 65536).toInt32 := ⟨_, rfl⟩
  refine lv_aload_n hx hb dL_law_2064 rfl (lv_at hl 1 rfl) ?_
  refine lv_aload_n hx hb dL_law_2065 rfl (lv_at hl 0 rfl) ?_
  refine lv_iload hx hb dL_law_2066 (lv_at hl 5 rfl) ?_
  refine lv_iconst (v := 1) hx hb dL_law_2068 (by decide) ?_
  refine lv_iadd hx hb dL_law_2069 ?_
  refine va_sld hx hb hX hbl hbA hS sx1 dL_law_2070 ?_
  refine lv_topi (fun x_1 ex_1 => ?_)
  obtain rfl : s1 = x_1 := (show x_1 = s1 from ex_1.trans hs1.symm).symm
  refine lv_aload_n hx hb dL_law_2071 rfl (lv_at hl 0 rfl) ?_
  refine lv_iload hx hb dL_law_2072 (lv_at hl 5 rfl) ?_
  refine lv_iconst (v := 2) hx hb dL_law_2074 (by decide) ?_
  refine lv_iadd hx hb dL_law_2075 ?_
  refine va_sld hx hb hX hbl hbA hS sx2 dL_law_2076 ?_
  refine lv_topi (fun x_2 ex_2 => ?_)
  obtain rfl : s2 = x_2 := (show x_2 = s2 from ex_2.trans hs2.symm).symm
  refine lv_aload_n hx hb dL_law_2077 rfl (lv_at hl 0 rfl) ?_
  refine lv_iload hx hb dL_law_2078 (lv_at hl 5 rfl) ?_
  refine lv_iconst (v := 3) hx hb dL_law_2080 (by decide) ?_
  refine lv_iadd hx hb dL_law_2081 ?_
  refine va_sld hx hb hX hbl hbA hS sx3 dL_law_2082 ?_
  refine lv_topi (fun x_3 ex_3 => ?_)
  obtain rfl : s3 = x_3 := (show x_3 = s3 from ex_3.trans hs3.symm).symm
  refine lv_aload_n hx hb dL_law_2083 rfl (lv_at hl 3 rfl) ?_
  have hPc := hP.sub (ws' := [(ya, .inr (16, [.ref ms, .int 0, .ref ju, .ref li, .ref ct, .ref tg, .ref fw])), (ct, .inr (5, [.int 0, .ref cr, .ref cu, .ref cg, .ref cp, .ref co])), (cr, .inl (cI, 4, .inl (fun _ => 0))), (ou, .inl (cL, 1, .inr (.inl (fun _ => 0))))]) [0, 1, 2, 3] rfl
  have hDc := hD.sub (ws' := [(ya, .inr (16, [.ref ms, .int 0, .ref ju, .ref li, .ref ct, .ref tg, .ref fw])), (ct, .inr (5, [.int 0, .ref cr, .ref cu, .ref cg, .ref cp, .ref co])), (cr, .inl (cI, 4, .inl (fun _ => 0))), (ou, .inl (cL, 1, .inr (.inl (fun _ => 0))))]) [0, 1, 2, 3] (by decide) rfl
  have hKc := hK.sub (tys' := [(cI, .int), (cL, .long)]) [0, 1] rfl
  have hFc := va_free (wc := [(ya, .inr (16, [.ref ms, .int 0, .ref ju, .ref li, .ref ct, .ref tg, .ref fw])), (ct, .inr (5, [.int 0, .ref cr, .ref cu, .ref cg, .ref cp, .ref co])), (cr, .inl (cI, 4, .inl (fun _ => 0))), (ou, .inl (cL, 1, .inr (.inl (fun _ => 0))))]) hD hS hA [0, 1, 2, 3] rfl
  refine vx_calli (vx_runSX (As := [.ref ya, .int s1, .int s2, .int s3, .ref ou]) (rest := []) ⟨hx, hb, hml, hown, hts⟩ (c_L_runCounters l hfl dC dI cI ya ms ju li ct tg fw cr cu cg cp co (fun _ => 0) s1 s2 s3 cL ou (fun _ => 0) H.size) (vx_cwSW 5 hts gL_law_L_runCounters rfl rfl rfl (by decide +kernel) ⟨Nat.le_of_ble_eq_true rfl, Nat.le_of_ble_eq_true rfl⟩) (pcSz (zX_ok) hPc hDc hKc hN hZ.1 hS hFc) rfl rfl hl.1 rfl (lv_room (Nat.le_of_ble_eq_true rfl)) dL_law_2084 ⟨Nat.le_of_ble_eq_true rfl, Nat.le_of_ble_eq_true rfl⟩) hS (fun q _ h => hFc q h) hFc (fun q _ h => hFc q h) (fun E9 ce9 q9 u9 t9 H9 locs9 ht9 hvm9 hp9 hE9 hz9 hk9 hS9 hc9 hv9 hcl9 => hE9.elim) (fun r_5 u t H1 locs ht hvm hw_6 hB hz1 hk1 hS => ?_)
  obtain ⟨hP1, hK1, hD1⟩ := hB
  rw [ht] at hP1
  try dsimp only at hw_6
  obtain ⟨hP, hD⟩ := va_join (wr := [(xm, .inr (20, [.int 0, .int 0, .ref kn, .int 0, .int 0, .int 0, .ref ml, .ref cl, .ref rg, .ref tR, .ref (aK 0), .ref (aK 0), .ref fl, .int 0, .int 0, .int 0, .int 0, .int 0, .int 0, .int 0, .null])), (cl, .inr (4, [.int 0, .ref e0, .int 0])), (rg, .inl (cI, 4, .inl (fun _ => 0)))]) (w1 := [(ou, .inl (cL, 1, .inr (.inl u)))]) hP hD [0, 1, 2, 3] [4, 5, 6] rfl rfl (by decide) (by decide) hk1 hFc hP1 hD1
  generalize H1 = H at hP hS ⊢
  have hP : va_P (dC, dI) vwCl [(xm, .inr (20, [.int 0, .int 0, .ref kn, .int 0, .int 0, .int 0, .ref ml, .ref cl, .ref rg, .ref tR, .ref (aK 0), .ref (aK 0), .ref fl, .int 0, .int 0, .int 0, .int 0, .int 0, .int 0, .int 0, .null])), (cl, .inr (4, [.int 0, .ref e0, .int 0])), (rg, .inl (cI, 4, .inl (fun _ => 0))), (ou, .inl (cL, 1, .inr (.inl u)))] H := hP
  have hD : va_D A [(xm, .inr (20, [.int 0, .int 0, .ref kn, .int 0, .int 0, .int 0, .ref ml, .ref cl, .ref rg, .ref tR, .ref (aK 0), .ref (aK 0), .ref fl, .int 0, .int 0, .int 0, .int 0, .int 0, .int 0, .int 0, .null])), (cl, .inr (4, [.int 0, .ref e0, .int 0])), (rg, .inl (cI, 4, .inl (fun _ => 0))), (ou, .inl (cL, 1, .inr (.inl u)))] := hD
  refine W.widen (k := 202) (n := 60012) (Nat.le_of_ble_eq_true rfl) (Nat.le_of_ble_eq_true rfl) ?_
  obtain ⟨of_4, eof_4⟩ : ∃ z, z = u := ⟨_, rfl⟩
  subst eof_4
  have hP : va_P (dC, dI) vwCl [(xm, .inr (20, [.int 0, .int 0, .ref kn, .int 0, .int 0, .int 0, .ref ml, .ref cl, .ref rg, .ref tR, .ref (aK 0), .ref (aK 0), .ref fl, .int 0, .int 0, .int 0, .int 0, .int 0, .int 0, .int 0, .null])), (cl, .inr (4, [.int 0, .ref e0, .int 0])), (rg, .inl (cI, 4, .inl (fun _ => 0))), (ou, .inl (cL, 1, .inr (.inl of_4)))] H := hP
  have hD : va_D A [(xm, .inr (20, [.int 0, .int 0, .ref kn, .int 0, .int 0, .int 0, .ref ml, .ref cl, .ref rg, .ref tR, .ref (aK 0), .ref (aK 0), .ref fl, .int 0, .int 0, .int 0, .int 0, .int 0, .int 0, .int 0, .null])), (cl, .inr (4, [.int 0, .ref e0, .int 0])), (rg, .inl (cI, 4, .inl (fun _ => 0))), (ou, .inl (cL, 1, .inr (.inl of_4)))] := hD
  rcases hw_6 with ⟨hr0, hPP, hv0⟩ | ⟨hr0, hPP⟩
  · obtain rfl : r_5 = 0 := hr0
    refine lv_istore (lv' := [(6, .int 0), (0, .ref b), (1, .ref ya), (2, .ref xm), (3, .ref ou), (4, .ref od), (5, .int 0)]) hx hb dL_law_2087 hl (by decide) rfl (fun ls hl => ?_)
    refine lv_aload_n hx hb dL_law_2089 rfl (lv_at hl 3 rfl) ?_
    refine lv_aload_n hx hb dL_law_2090 rfl (lv_at hl 1 rfl) ?_
    refine lv_iload hx hb dL_law_2091 (lv_at hl 6 rfl) ?_
    refine lv_iconst (v := 1) hx hb dL_law_2093 (by decide) ?_
    refine lv_iadd hx hb dL_law_2094 ?_
    refine va_sld hx hb hX hbl hbA hS sx1 dL_law_2095 ?_
    refine lv_topi (fun x_7 ex_7 => ?_)
    obtain rfl : s1 = x_7 := (show x_7 = s1 from ex_7.trans hs1.symm).symm
    refine lv_aload_n hx hb dL_law_2096 rfl (lv_at hl 1 rfl) ?_
    refine lv_iload hx hb dL_law_2097 (lv_at hl 6 rfl) ?_
    refine lv_iconst (v := 2) hx hb dL_law_2099 (by decide) ?_
    refine lv_iadd hx hb dL_law_2100 ?_
    refine va_sld hx hb hX hbl hbA hS sx2 dL_law_2101 ?_
    refine lv_topi (fun x_8 ex_8 => ?_)
    obtain rfl : s2 = x_8 := (show x_8 = s2 from ex_8.trans hs2.symm).symm
    refine lv_aload_n hx hb dL_law_2102 rfl (lv_at hl 1 rfl) ?_
    refine lv_iload hx hb dL_law_2103 (lv_at hl 6 rfl) ?_
    refine lv_iconst (v := 3) hx hb dL_law_2105 (by decide) ?_
    refine lv_iadd hx hb dL_law_2106 ?_
    refine va_sld hx hb hX hbl hbA hS sx3 dL_law_2107 ?_
    refine lv_topi (fun x_9 ex_9 => ?_)
    obtain rfl : s3 = x_9 := (show x_9 = s3 from ex_9.trans hs3.symm).symm
    have hPc := hP.sub (ws' := [(xm, .inr (20, [.int 0, .int 0, .ref kn, .int 0, .int 0, .int 0, .ref ml, .ref cl, .ref rg, .ref tR, .ref (aK 0), .ref (aK 0), .ref fl, .int 0, .int 0, .int 0, .int 0, .int 0, .int 0, .int 0, .null])), (cl, .inr (4, [.int 0, .ref e0, .int 0])), (rg, .inl (cI, 4, .inl (fun _ => 0)))]) [0, 1, 2] rfl
    have hDc := hD.sub (ws' := [(xm, .inr (20, [.int 0, .int 0, .ref kn, .int 0, .int 0, .int 0, .ref ml, .ref cl, .ref rg, .ref tR, .ref (aK 0), .ref (aK 0), .ref fl, .int 0, .int 0, .int 0, .int 0, .int 0, .int 0, .int 0, .null])), (cl, .inr (4, [.int 0, .ref e0, .int 0])), (rg, .inl (cI, 4, .inl (fun _ => 0)))]) [0, 1, 2] (by decide) rfl
    have hKc := hK.sub (tys' := [(cI, .int)]) [0] rfl
    have hFc := va_free (wc := [(xm, .inr (20, [.int 0, .int 0, .ref kn, .int 0, .int 0, .int 0, .ref ml, .ref cl, .ref rg, .ref tR, .ref (aK 0), .ref (aK 0), .ref fl, .int 0, .int 0, .int 0, .int 0, .int 0, .int 0, .int 0, .null])), (cl, .inr (4, [.int 0, .ref e0, .int 0])), (rg, .inl (cI, 4, .inl (fun _ => 0)))]) hD hS hA [0, 1, 2] rfl
    refine va_calli (va_runV (As := [.int s1, .int s2, .int s3]) (rest := []) ⟨hx, hb, hml, hown, hts⟩ (c_X15_runCounters l dC dI xm ml cl fl kn rg tR e0 aK aV cI s1 s2 s3 H.size) (cwV 3 hts gL_law_X15_runCounters rfl rfl rfl (by decide +kernel) ⟨Nat.le_of_ble_eq_true rfl, Nat.le_of_ble_eq_true rfl⟩) (pcV hPc hDc hKc hN (ci := 20) (q0 := 0) rfl rfl) rfl rfl hl.1 rfl (lv_room (Nat.le_of_ble_eq_true rfl)) dL_law_2108 ⟨Nat.le_of_ble_eq_true rfl, Nat.le_of_ble_eq_true rfl⟩) hS (fun q _ h => hFc q h) hFc (fun r_11 u t H1 locs ht hvm hw_12 hB hz1 hk1 hS => ?_)
    obtain ⟨hP1, hK1, hD1⟩ := hB
    rw [ht] at hP1
    try dsimp only at hw_12
    obtain ⟨hP, hD⟩ := va_join (wr := [(ou, .inl (cL, 1, .inr (.inl of_4)))]) (w1 := [(xm, .inr (20, u))]) hP hD [0, 1, 2] [3] rfl rfl (by decide) (by decide) hk1 hFc hP1 hD1
    generalize H1 = H at hP hS ⊢
    have hP : va_P (dC, dI) vwCl [(ou, .inl (cL, 1, .inr (.inl of_4))), (xm, .inr (20, u))] H := hP
    have hD : va_D A [(ou, .inl (cL, 1, .inr (.inl of_4))), (xm, .inr (20, u))] := hD
    obtain ⟨fs_10, efs_10⟩ : ∃ z, z = u := ⟨_, rfl⟩
    subst efs_10
    have hP : va_P (dC, dI) vwCl [(ou, .inl (cL, 1, .inr (.inl of_4))), (xm, .inr (20, fs_10))] H := hP
    have hD : va_D A [(ou, .inl (cL, 1, .inr (.inl of_4))), (xm, .inr (20, fs_10))] := hD
    obtain ⟨ht9, hrv⟩ := hw_12.elim (fun h => h.2) (fun h => absurd hPP h.1)
    obtain rfl : r_11 = 0 := hrv
    refine lv_istore (lv' := [(7, .int 0), (6, .int 0), (0, .ref b), (1, .ref ya), (2, .ref xm), (3, .ref ou), (4, .ref od), (5, .int 0)]) hx hb dL_law_2111 hl (by decide) rfl (fun ls hl => ?_)
    refine lv_aload_n hx hb dL_law_2113 rfl (lv_at hl 4 rfl) ?_
    have hPc := hP.sub (ws' := [(xm, .inr (20, fs_10))]) [1] rfl
    have hDc := hD.sub (ws' := [(xm, .inr (20, fs_10))]) [1] (by decide) rfl
    have hKc := hK.sub (tys' := []) [] rfl
    have hFc := va_free (wc := [(xm, .inr (20, fs_10))]) hD hS hA [1] rfl
    refine va_calli (va_runV (As := []) (rest := []) ⟨hx, hb, hml, hown, hts⟩ (c_X15_thrown l dC dI xm fs_10 0 ht9 H.size) (cwV 0 hts gL_law_X15_thrown rfl rfl rfl (by decide +kernel) ⟨Nat.le_of_ble_eq_true rfl, Nat.le_of_ble_eq_true rfl⟩) (pcV hPc hDc hKc hN (ci := 20) (q0 := 0) rfl rfl) rfl rfl hl.1 rfl (lv_room (Nat.le_of_ble_eq_true rfl)) dL_law_2114 ⟨Nat.le_of_ble_eq_true rfl, Nat.le_of_ble_eq_true rfl⟩) hS (fun q _ h => hFc q h) hFc (fun r_13 u t H1 locs ht hvm hw_14 hB hz1 hk1 hS => ?_)
    obtain ⟨hP1, hK1, hD1⟩ := hB
    rw [ht] at hP1
    try dsimp only at hw_14
    obtain ⟨hP, hD⟩ := va_join (wr := [(ou, .inl (cL, 1, .inr (.inl of_4)))]) (w1 := []) hP hD [1] [0] rfl rfl (by decide) (by decide) hk1 hFc hP1 hD1
    generalize H1 = H at hP hS ⊢
    have hP : va_P (dC, dI) vwCl [(ou, .inl (cL, 1, .inr (.inl of_4)))] H := hP
    have hD : va_D A [(ou, .inl (cL, 1, .inr (.inl of_4)))] := hD
    obtain rfl : r_13 = 0 := hw_14
    refine lv_iload hx hb dL_law_2117 (lv_at hl 1 rfl) ?_
    refine lv_icmp_eq (tgt := 2124) hx hb dL_law_2119 (by decide) (fun c2119_15 => ?_) (fun c2119_15 => ?_)
    · refine lv_iload hx hb dL_law_2124 (lv_at hl 1 rfl) ?_
      refine lv_if_ne (tgt := 2141) hx hb dL_law_2126 (by decide) (fun c2126_16 => ?_) (fun c2126_16 => ?_)
      · exact (c2126_16 (by decide)).elim
      · refine lv_aload_n hx hb dL_law_2129 rfl (lv_at hl 5 rfl) ?_
        refine lv_iconst (v := 0) hx hb dL_law_2130 (by decide) ?_
        refine va_lald hx hb hK hP 0 1 rfl rfl (show vp_in (nI 0) 1 from vp_in_nI (by decide) (by decide)) dL_law_2131 ?_
        refine lv_topl (fun z_17 ez_17 => ?_)
        obtain rfl : z_17 = (0 : Int32).toInt64 := by rw [ez_17, show (0 : Int32).toNatClampNeg = 0 from by decide]; exact hv0
        refine lv_iload hx hb dL_law_2132 (lv_at hl 0 rfl) ?_
        refine lv_i2l hx hb dL_law_2134 rfl ?_
        refine W.lcmp hx hb dL_law_2135 ?_
        refine lv_if_eq (tgt := 2141) hx hb dL_law_2136 (by decide) (fun c2136_18 => ?_) (fun c2136_18 => ?_)
        · refine lv_goto (tgt := 2778) hx hb dL_law_2141 (by decide) ?_
          refine W.widen (k := 600006) (n := 7302039) (Nat.le_of_ble_eq_true rfl) (Nat.le_of_ble_eq_true rfl) ?_
          exact law_end hx hb hr hml hX hbl hlocks hbA hAo hS (lv_sub hl [2, 7] rfl)
        · exact absurd ((lg_cmp_eq _ _).mpr (by first | rfl | (subst_vars; rfl))) c2136_18
    · exact (c2119_15 (by decide)).elim
  · obtain rfl : r_5 = 1 := hr0
    refine lv_istore (lv' := [(6, .int 1), (0, .ref b), (1, .ref ya), (2, .ref xm), (3, .ref ou), (4, .ref od), (5, .int 0)]) hx hb dL_law_2087 hl (by decide) rfl (fun ls hl => ?_)
    refine lv_aload_n hx hb dL_law_2089 rfl (lv_at hl 3 rfl) ?_
    refine lv_aload_n hx hb dL_law_2090 rfl (lv_at hl 1 rfl) ?_
    refine lv_iload hx hb dL_law_2091 (lv_at hl 6 rfl) ?_
    refine lv_iconst (v := 1) hx hb dL_law_2093 (by decide) ?_
    refine lv_iadd hx hb dL_law_2094 ?_
    refine va_sld hx hb hX hbl hbA hS sx1 dL_law_2095 ?_
    refine lv_topi (fun x_19 ex_19 => ?_)
    obtain rfl : s1 = x_19 := (show x_19 = s1 from ex_19.trans hs1.symm).symm
    refine lv_aload_n hx hb dL_law_2096 rfl (lv_at hl 1 rfl) ?_
    refine lv_iload hx hb dL_law_2097 (lv_at hl 6 rfl) ?_
    refine lv_iconst (v := 2) hx hb dL_law_2099 (by decide) ?_
    refine lv_iadd hx hb dL_law_2100 ?_
    refine va_sld hx hb hX hbl hbA hS sx2 dL_law_2101 ?_
    refine lv_topi (fun x_20 ex_20 => ?_)
    obtain rfl : s2 = x_20 := (show x_20 = s2 from ex_20.trans hs2.symm).symm
    refine lv_aload_n hx hb dL_law_2102 rfl (lv_at hl 1 rfl) ?_
    refine lv_iload hx hb dL_law_2103 (lv_at hl 6 rfl) ?_
    refine lv_iconst (v := 3) hx hb dL_law_2105 (by decide) ?_
    refine lv_iadd hx hb dL_law_2106 ?_
    refine va_sld hx hb hX hbl hbA hS sx3 dL_law_2107 ?_
    refine lv_topi (fun x_21 ex_21 => ?_)
    obtain rfl : s3 = x_21 := (show x_21 = s3 from ex_21.trans hs3.symm).symm
    have hPc := hP.sub (ws' := [(xm, .inr (20, [.int 0, .int 0, .ref kn, .int 0, .int 0, .int 0, .ref ml, .ref cl, .ref rg, .ref tR, .ref (aK 0), .ref (aK 0), .ref fl, .int 0, .int 0, .int 0, .int 0, .int 0, .int 0, .int 0, .null])), (cl, .inr (4, [.int 0, .ref e0, .int 0])), (rg, .inl (cI, 4, .inl (fun _ => 0)))]) [0, 1, 2] rfl
    have hDc := hD.sub (ws' := [(xm, .inr (20, [.int 0, .int 0, .ref kn, .int 0, .int 0, .int 0, .ref ml, .ref cl, .ref rg, .ref tR, .ref (aK 0), .ref (aK 0), .ref fl, .int 0, .int 0, .int 0, .int 0, .int 0, .int 0, .int 0, .null])), (cl, .inr (4, [.int 0, .ref e0, .int 0])), (rg, .inl (cI, 4, .inl (fun _ => 0)))]) [0, 1, 2] (by decide) rfl
    have hKc := hK.sub (tys' := [(cI, .int)]) [0] rfl
    have hFc := va_free (wc := [(xm, .inr (20, [.int 0, .int 0, .ref kn, .int 0, .int 0, .int 0, .ref ml, .ref cl, .ref rg, .ref tR, .ref (aK 0), .ref (aK 0), .ref fl, .int 0, .int 0, .int 0, .int 0, .int 0, .int 0, .int 0, .null])), (cl, .inr (4, [.int 0, .ref e0, .int 0])), (rg, .inl (cI, 4, .inl (fun _ => 0)))]) hD hS hA [0, 1, 2] rfl
    refine va_calli (va_runV (As := [.int s1, .int s2, .int s3]) (rest := []) ⟨hx, hb, hml, hown, hts⟩ (c_X15_runCounters l dC dI xm ml cl fl kn rg tR e0 aK aV cI s1 s2 s3 H.size) (cwV 3 hts gL_law_X15_runCounters rfl rfl rfl (by decide +kernel) ⟨Nat.le_of_ble_eq_true rfl, Nat.le_of_ble_eq_true rfl⟩) (pcV hPc hDc hKc hN (ci := 20) (q0 := 0) rfl rfl) rfl rfl hl.1 rfl (lv_room (Nat.le_of_ble_eq_true rfl)) dL_law_2108 ⟨Nat.le_of_ble_eq_true rfl, Nat.le_of_ble_eq_true rfl⟩) hS (fun q _ h => hFc q h) hFc (fun r_23 u t H1 locs ht hvm hw_24 hB hz1 hk1 hS => ?_)
    obtain ⟨hP1, hK1, hD1⟩ := hB
    rw [ht] at hP1
    try dsimp only at hw_24
    obtain ⟨hP, hD⟩ := va_join (wr := [(ou, .inl (cL, 1, .inr (.inl of_4)))]) (w1 := [(xm, .inr (20, u))]) hP hD [0, 1, 2] [3] rfl rfl (by decide) (by decide) hk1 hFc hP1 hD1
    generalize H1 = H at hP hS ⊢
    have hP : va_P (dC, dI) vwCl [(ou, .inl (cL, 1, .inr (.inl of_4))), (xm, .inr (20, u))] H := hP
    have hD : va_D A [(ou, .inl (cL, 1, .inr (.inl of_4))), (xm, .inr (20, u))] := hD
    obtain ⟨fs_22, efs_22⟩ : ∃ z, z = u := ⟨_, rfl⟩
    subst efs_22
    have hP : va_P (dC, dI) vwCl [(ou, .inl (cL, 1, .inr (.inl of_4))), (xm, .inr (20, fs_22))] H := hP
    have hD : va_D A [(ou, .inl (cL, 1, .inr (.inl of_4))), (xm, .inr (20, fs_22))] := hD
    have ht9 := hw_24.elim (fun h => absurd h.1 hPP) (fun h => h.2)
    refine lv_istore (lv' := [(7, .int r_23), (6, .int 1), (0, .ref b), (1, .ref ya), (2, .ref xm), (3, .ref ou), (4, .ref od), (5, .int 0)]) hx hb dL_law_2111 hl (by decide) rfl (fun ls hl => ?_)
    refine lv_aload_n hx hb dL_law_2113 rfl (lv_at hl 4 rfl) ?_
    have hPc := hP.sub (ws' := [(xm, .inr (20, fs_22))]) [1] rfl
    have hDc := hD.sub (ws' := [(xm, .inr (20, fs_22))]) [1] (by decide) rfl
    have hKc := hK.sub (tys' := []) [] rfl
    have hFc := va_free (wc := [(xm, .inr (20, fs_22))]) hD hS hA [1] rfl
    refine va_calli (va_runV (As := []) (rest := []) ⟨hx, hb, hml, hown, hts⟩ (c_X15_thrown l dC dI xm fs_22 1 ht9 H.size) (cwV 0 hts gL_law_X15_thrown rfl rfl rfl (by decide +kernel) ⟨Nat.le_of_ble_eq_true rfl, Nat.le_of_ble_eq_true rfl⟩) (pcV hPc hDc hKc hN (ci := 20) (q0 := 0) rfl rfl) rfl rfl hl.1 rfl (lv_room (Nat.le_of_ble_eq_true rfl)) dL_law_2114 ⟨Nat.le_of_ble_eq_true rfl, Nat.le_of_ble_eq_true rfl⟩) hS (fun q _ h => hFc q h) hFc (fun r_25 u t H1 locs ht hvm hw_26 hB hz1 hk1 hS => ?_)
    obtain ⟨hP1, hK1, hD1⟩ := hB
    rw [ht] at hP1
    try dsimp only at hw_26
    obtain ⟨hP, hD⟩ := va_join (wr := [(ou, .inl (cL, 1, .inr (.inl of_4)))]) (w1 := []) hP hD [1] [0] rfl rfl (by decide) (by decide) hk1 hFc hP1 hD1
    generalize H1 = H at hP hS ⊢
    have hP : va_P (dC, dI) vwCl [(ou, .inl (cL, 1, .inr (.inl of_4)))] H := hP
    have hD : va_D A [(ou, .inl (cL, 1, .inr (.inl of_4)))] := hD
    obtain rfl : r_25 = 1 := hw_26
    refine lv_iload hx hb dL_law_2117 (lv_at hl 1 rfl) ?_
    refine lv_icmp_eq (tgt := 2124) hx hb dL_law_2119 (by decide) (fun c2119_27 => ?_) (fun c2119_27 => ?_)
    · refine lv_iload hx hb dL_law_2124 (lv_at hl 1 rfl) ?_
      refine lv_if_ne (tgt := 2141) hx hb dL_law_2126 (by decide) (fun c2126_28 => ?_) (fun c2126_28 => ?_)
      · refine lv_goto (tgt := 2778) hx hb dL_law_2141 (by decide) ?_
        refine W.widen (k := 600006) (n := 7302039) (Nat.le_of_ble_eq_true rfl) (Nat.le_of_ble_eq_true rfl) ?_
        exact law_end hx hb hr hml hX hbl hlocks hbA hAo hS (lv_sub hl [2, 7] rfl)
      · exact absurd c2126_28 (by decide)
    · exact (c2119_27 (by decide)).elim

set_option maxHeartbeats 8000000 in
set_option maxRecDepth 100000 in
/-- the law: law_28_register -/
theorem law_28_register {p : Program} {e : Env} {s : State} {m : MethodId} {below : List Frame} {meth : Method} {c : Code} {l : Launch} {b : Nat} {xs : Nat → Int32} (hx : p.tables.exec = Jvm.exec) (hb : c.code = cL_law) (hr : meth.sig.returnType = ret) (hml : c.maxLocals = 9) (hfl : l.stackTraces = false) (hown : s.vm.findClass RL = some m.cls) (hts : ∀ w ∈ wsL_law, w.before #[Value.ref b] s = true) (hX : va_X b 7 xs s s.heap) (hbl : b < s.heap.size) (hlocks : meth.locks = false) {A : Nat → Prop} (hbA : ¬ A b) (hAo : ∀ q, A q → s.heap.size ≤ q) (hA : ∀ q : Nat, s.heap.size ≤ q → A q) (dC : Nat → ClassId) (dI : Nat → Nat → Nat) (hN : nwA s) (e0 : Nat) (aK aV : Nat → Nat) (hZ : zX A s s.heap ∧ zM e0 aK aV A s s.heap) (ya ms ju rj tj ro rn tn rh th ca sa da xa wb z1 z2 jt z3 br z4 z5 z6 lk z7 z8 li bm l2 z9 bo h2 mm l1 z10 oo h1 ct cr cu cg cp co tg ts tr tk te fw fo fu xm ml cl fl rg tR ou od kn : Nat) (cI cM cS cL cD cB : ClassId) {H : Heap} {locs : List Loc} (hP : va_P (dC, dI) vwCl [(ya, .inr (16, [.ref ms, .int 0, .ref ju, .ref li, .ref ct, .ref tg, .ref fw])), (ct, .inr (5, [.int 0, .ref cr, .ref cu, .ref cg, .ref cp, .ref co])), (cr, .inl (cI, 4, .inl (fun _ => 0))), (ou, .inl (cL, 1, .inr (.inl (fun _ => 0)))), (xm, .inr (20, [.int 0, .int 0, .ref kn, .int 0, .int 0, .int 0, .ref ml, .ref cl, .ref rg, .ref tR, .ref (aK 0), .ref (aK 0), .ref fl, .int 0, .int 0, .int 0, .int 0, .int 0, .int 0, .int 0, .null])), (rg, .inl (cI, 4, .inl (fun _ => 0)))] H) (hD : va_D A [(ya, .inr (16, [.ref ms, .int 0, .ref ju, .ref li, .ref ct, .ref tg, .ref fw])), (ct, .inr (5, [.int 0, .ref cr, .ref cu, .ref cg, .ref cp, .ref co])), (cr, .inl (cI, 4, .inl (fun _ => 0))), (ou, .inl (cL, 1, .inr (.inl (fun _ => 0)))), (xm, .inr (20, [.int 0, .int 0, .ref kn, .int 0, .int 0, .int 0, .ref ml, .ref cl, .ref rg, .ref tR, .ref (aK 0), .ref (aK 0), .ref fl, .int 0, .int 0, .int 0, .int 0, .int 0, .int 0, .int 0, .null])), (rg, .inl (cI, 4, .inl (fun _ => 0)))]) (hK : va_K (dC, dI) vwCl [(cI, .int), (cL, .long)] s) (hS : va_S A s.heap H locs) {ls : Array Slot} (hl : lv_has ls 9 [(0, .ref b), (1, .ref ya), (2, .ref xm), (3, .ref ou), (4, .ref od), (5, .int 0)]) : W p l e room_1 s m #[Value.ref b] below meth c H locs 200 60000 (lw_Z below #[Value.ref b] s) (F0 m 2144 ls []) := by
  obtain ⟨s1, hs1⟩ : ∃ z, z = xs ((0 : Int32) + 1).toNatClampNeg := ⟨_, rfl⟩
  obtain ⟨s2, hs2⟩ : ∃ z, z = xs ((0 : Int32) + 2).toNatClampNeg := ⟨_, rfl⟩
  obtain ⟨s3, hs3⟩ : ∃ z, z = xs ((0 : Int32) + 3).toNatClampNeg := ⟨_, rfl⟩
  obtain ⟨s4, hs4⟩ : ∃ z, z = xs ((0 : Int32) + 4).toNatClampNeg := ⟨_, rfl⟩
  obtain ⟨s5, hs5⟩ : ∃ z, z = xs ((0 : Int32) + 5).toNatClampNeg := ⟨_, rfl⟩
  obtain ⟨s6, hs6⟩ : ∃ z, z = xs ((0 : Int32) + 6).toNatClampNeg := ⟨_, rfl⟩
  obtain ⟨ch1, hch1⟩ : ∃ z, z = (s1.toUInt32 % 65536).toInt32 := ⟨_, rfl⟩
  obtain ⟨ch2, hch2⟩ : ∃ z, z = (s2.toUInt32 % 65536).toInt32 := ⟨_, rfl⟩
  obtain ⟨ch3, hch3⟩ : ∃ z, z = (s3.toUInt32 % 65536).toInt32 := ⟨_, rfl⟩
  obtain ⟨ch4, hch4⟩ : ∃ z, z = (s4.toUInt32 % 65536).toInt32 := ⟨_, rfl⟩
  obtain ⟨ch5, hch5⟩ : ∃ z, z = (s5.toUInt32 % 65536).toInt32 := ⟨_, rfl⟩
  obtain ⟨ch6, hch6⟩ : ∃ z, z = (s6.toUInt32 % 65536).toInt32 := ⟨_, rfl⟩
  refine lv_aload_n hx hb dL_law_2144 rfl (lv_at hl 1 rfl) ?_
  refine lv_aload_n hx hb dL_law_2145 rfl (lv_at hl 0 rfl) ?_
  refine lv_iload hx hb dL_law_2146 (lv_at hl 5 rfl) ?_
  refine lv_iconst (v := 1) hx hb dL_law_2148 (by decide) ?_
  refine lv_iadd hx hb dL_law_2149 ?_
  refine va_sld hx hb hX hbl hbA hS sx1 dL_law_2150 ?_
  refine lv_topi (fun x_1 ex_1 => ?_)
  obtain rfl : s1 = x_1 := (show x_1 = s1 from ex_1.trans hs1.symm).symm
  refine lv_aload_n hx hb dL_law_2151 rfl (lv_at hl 3 rfl) ?_
  have hPc := hP.sub (ws' := [(ya, .inr (16, [.ref ms, .int 0, .ref ju, .ref li, .ref ct, .ref tg, .ref fw])), (ct, .inr (5, [.int 0, .ref cr, .ref cu, .ref cg, .ref cp, .ref co])), (cr, .inl (cI, 4, .inl (fun _ => 0))), (ou, .inl (cL, 1, .inr (.inl (fun _ => 0))))]) [0, 1, 2, 3] rfl
  have hDc := hD.sub (ws' := [(ya, .inr (16, [.ref ms, .int 0, .ref ju, .ref li, .ref ct, .ref tg, .ref fw])), (ct, .inr (5, [.int 0, .ref cr, .ref cu, .ref cg, .ref cp, .ref co])), (cr, .inl (cI, 4, .inl (fun _ => 0))), (ou, .inl (cL, 1, .inr (.inl (fun _ => 0))))]) [0, 1, 2, 3] (by decide) rfl
  have hKc := hK.sub (tys' := [(cI, .int), (cL, .long)]) [0, 1] rfl
  have hFc := va_free (wc := [(ya, .inr (16, [.ref ms, .int 0, .ref ju, .ref li, .ref ct, .ref tg, .ref fw])), (ct, .inr (5, [.int 0, .ref cr, .ref cu, .ref cg, .ref cp, .ref co])), (cr, .inl (cI, 4, .inl (fun _ => 0))), (ou, .inl (cL, 1, .inr (.inl (fun _ => 0))))]) hD hS hA [0, 1, 2, 3] rfl
  refine vx_calli (vx_runSX (As := [.ref ya, .int s1, .ref ou]) (rest := []) ⟨hx, hb, hml, hown, hts⟩ (c_L_register l hfl dC dI cI ya ms ju li ct tg fw cr cu cg cp co s1 cL ou (fun _ => 0) H.size) (vx_cwSW 3 hts gL_law_L_register rfl rfl rfl (by decide +kernel) ⟨Nat.le_of_ble_eq_true rfl, Nat.le_of_ble_eq_true rfl⟩) (pcSz (zX_ok) hPc hDc hKc hN hZ.1 hS hFc) rfl rfl hl.1 rfl (lv_room (Nat.le_of_ble_eq_true rfl)) dL_law_2152 ⟨Nat.le_of_ble_eq_true rfl, Nat.le_of_ble_eq_true rfl⟩) hS (fun q _ h => hFc q h) hFc (fun q _ h => hFc q h) (fun E9 ce9 q9 u9 t9 H9 locs9 ht9 hvm9 hp9 hE9 hz9 hk9 hS9 hc9 hv9 hcl9 => hE9.elim) (fun r_3 u t H1 locs ht hvm hw_4 hB hz1 hk1 hS => ?_)
  obtain ⟨hP1, hK1, hD1⟩ := hB
  rw [ht] at hP1
  try dsimp only at hw_4
  obtain ⟨hP, hD⟩ := va_join (wr := [(xm, .inr (20, [.int 0, .int 0, .ref kn, .int 0, .int 0, .int 0, .ref ml, .ref cl, .ref rg, .ref tR, .ref (aK 0), .ref (aK 0), .ref fl, .int 0, .int 0, .int 0, .int 0, .int 0, .int 0, .int 0, .null])), (rg, .inl (cI, 4, .inl (fun _ => 0)))]) (w1 := [(ou, .inl (cL, 1, .inr (.inl u)))]) hP hD [0, 1, 2, 3] [4, 5] rfl rfl (by decide) (by decide) hk1 hFc hP1 hD1
  generalize H1 = H at hP hS ⊢
  have hP : va_P (dC, dI) vwCl [(xm, .inr (20, [.int 0, .int 0, .ref kn, .int 0, .int 0, .int 0, .ref ml, .ref cl, .ref rg, .ref tR, .ref (aK 0), .ref (aK 0), .ref fl, .int 0, .int 0, .int 0, .int 0, .int 0, .int 0, .int 0, .null])), (rg, .inl (cI, 4, .inl (fun _ => 0))), (ou, .inl (cL, 1, .inr (.inl u)))] H := hP
  have hD : va_D A [(xm, .inr (20, [.int 0, .int 0, .ref kn, .int 0, .int 0, .int 0, .ref ml, .ref cl, .ref rg, .ref tR, .ref (aK 0), .ref (aK 0), .ref fl, .int 0, .int 0, .int 0, .int 0, .int 0, .int 0, .int 0, .null])), (rg, .inl (cI, 4, .inl (fun _ => 0))), (ou, .inl (cL, 1, .inr (.inl u)))] := hD
  refine W.widen (k := 201) (n := 60006) (Nat.le_of_ble_eq_true rfl) (Nat.le_of_ble_eq_true rfl) ?_
  obtain ⟨of_2, eof_2⟩ : ∃ z, z = u := ⟨_, rfl⟩
  subst eof_2
  have hP : va_P (dC, dI) vwCl [(xm, .inr (20, [.int 0, .int 0, .ref kn, .int 0, .int 0, .int 0, .ref ml, .ref cl, .ref rg, .ref tR, .ref (aK 0), .ref (aK 0), .ref fl, .int 0, .int 0, .int 0, .int 0, .int 0, .int 0, .int 0, .null])), (rg, .inl (cI, 4, .inl (fun _ => 0))), (ou, .inl (cL, 1, .inr (.inl of_2)))] H := hP
  have hD : va_D A [(xm, .inr (20, [.int 0, .int 0, .ref kn, .int 0, .int 0, .int 0, .ref ml, .ref cl, .ref rg, .ref tR, .ref (aK 0), .ref (aK 0), .ref fl, .int 0, .int 0, .int 0, .int 0, .int 0, .int 0, .int 0, .null])), (rg, .inl (cI, 4, .inl (fun _ => 0))), (ou, .inl (cL, 1, .inr (.inl of_2)))] := hD
  rcases hw_4 with ⟨hr0, hPP, hv0⟩ | ⟨hr0, hPP⟩
  · obtain rfl : r_3 = 0 := hr0
    refine lv_istore (lv' := [(6, .int 0), (0, .ref b), (1, .ref ya), (2, .ref xm), (3, .ref ou), (4, .ref od), (5, .int 0)]) hx hb dL_law_2155 hl (by decide) rfl (fun ls hl => ?_)
    refine lv_aload_n hx hb dL_law_2157 rfl (lv_at hl 3 rfl) ?_
    refine lv_aload_n hx hb dL_law_2158 rfl (lv_at hl 1 rfl) ?_
    refine lv_iload hx hb dL_law_2159 (lv_at hl 6 rfl) ?_
    refine lv_iconst (v := 1) hx hb dL_law_2161 (by decide) ?_
    refine lv_iadd hx hb dL_law_2162 ?_
    refine va_sld hx hb hX hbl hbA hS sx1 dL_law_2163 ?_
    refine lv_topi (fun x_5 ex_5 => ?_)
    obtain rfl : s1 = x_5 := (show x_5 = s1 from ex_5.trans hs1.symm).symm
    have hPc := hP.sub (ws' := [(xm, .inr (20, [.int 0, .int 0, .ref kn, .int 0, .int 0, .int 0, .ref ml, .ref cl, .ref rg, .ref tR, .ref (aK 0), .ref (aK 0), .ref fl, .int 0, .int 0, .int 0, .int 0, .int 0, .int 0, .int 0, .null])), (rg, .inl (cI, 4, .inl (fun _ => 0)))]) [0, 1] rfl
    have hDc := hD.sub (ws' := [(xm, .inr (20, [.int 0, .int 0, .ref kn, .int 0, .int 0, .int 0, .ref ml, .ref cl, .ref rg, .ref tR, .ref (aK 0), .ref (aK 0), .ref fl, .int 0, .int 0, .int 0, .int 0, .int 0, .int 0, .int 0, .null])), (rg, .inl (cI, 4, .inl (fun _ => 0)))]) [0, 1] (by decide) rfl
    have hKc := hK.sub (tys' := [(cI, .int)]) [0] rfl
    have hFc := va_free (wc := [(xm, .inr (20, [.int 0, .int 0, .ref kn, .int 0, .int 0, .int 0, .ref ml, .ref cl, .ref rg, .ref tR, .ref (aK 0), .ref (aK 0), .ref fl, .int 0, .int 0, .int 0, .int 0, .int 0, .int 0, .int 0, .null])), (rg, .inl (cI, 4, .inl (fun _ => 0)))]) hD hS hA [0, 1] rfl
    refine va_calli (va_runV (As := [.int s1]) (rest := []) ⟨hx, hb, hml, hown, hts⟩ (c_X15_register l dC dI xm ml cl fl kn rg tR e0 aK aV cI s1 H.size) (cwV 1 hts gL_law_X15_register rfl rfl rfl (by decide +kernel) ⟨Nat.le_of_ble_eq_true rfl, Nat.le_of_ble_eq_true rfl⟩) (pcV hPc hDc hKc hN (ci := 20) (q0 := 0) rfl rfl) rfl rfl hl.1 rfl (lv_room (Nat.le_of_ble_eq_true rfl)) dL_law_2164 ⟨Nat.le_of_ble_eq_true rfl, Nat.le_of_ble_eq_true rfl⟩) hS (fun q _ h => hFc q h) hFc (fun r_7 u t H1 locs ht hvm hw_8 hB hz1 hk1 hS => ?_)
    obtain ⟨hP1, hK1, hD1⟩ := hB
    rw [ht] at hP1
    try dsimp only at hw_8
    obtain ⟨hP, hD⟩ := va_join (wr := [(ou, .inl (cL, 1, .inr (.inl of_2)))]) (w1 := [(xm, .inr (20, u))]) hP hD [0, 1] [2] rfl rfl (by decide) (by decide) hk1 hFc hP1 hD1
    generalize H1 = H at hP hS ⊢
    have hP : va_P (dC, dI) vwCl [(ou, .inl (cL, 1, .inr (.inl of_2))), (xm, .inr (20, u))] H := hP
    have hD : va_D A [(ou, .inl (cL, 1, .inr (.inl of_2))), (xm, .inr (20, u))] := hD
    obtain ⟨fs_6, efs_6⟩ : ∃ z, z = u := ⟨_, rfl⟩
    subst efs_6
    have hP : va_P (dC, dI) vwCl [(ou, .inl (cL, 1, .inr (.inl of_2))), (xm, .inr (20, fs_6))] H := hP
    have hD : va_D A [(ou, .inl (cL, 1, .inr (.inl of_2))), (xm, .inr (20, fs_6))] := hD
    obtain ⟨ht9, hrv⟩ := hw_8.elim (fun h => h.2) (fun h => absurd hPP h.1)
    obtain rfl : r_7 = 0 := hrv
    refine lv_istore (lv' := [(7, .int 0), (6, .int 0), (0, .ref b), (1, .ref ya), (2, .ref xm), (3, .ref ou), (4, .ref od), (5, .int 0)]) hx hb dL_law_2167 hl (by decide) rfl (fun ls hl => ?_)
    refine lv_aload_n hx hb dL_law_2169 rfl (lv_at hl 4 rfl) ?_
    have hPc := hP.sub (ws' := [(xm, .inr (20, fs_6))]) [1] rfl
    have hDc := hD.sub (ws' := [(xm, .inr (20, fs_6))]) [1] (by decide) rfl
    have hKc := hK.sub (tys' := []) [] rfl
    have hFc := va_free (wc := [(xm, .inr (20, fs_6))]) hD hS hA [1] rfl
    refine va_calli (va_runV (As := []) (rest := []) ⟨hx, hb, hml, hown, hts⟩ (c_X15_thrown l dC dI xm fs_6 0 ht9 H.size) (cwV 0 hts gL_law_X15_thrown rfl rfl rfl (by decide +kernel) ⟨Nat.le_of_ble_eq_true rfl, Nat.le_of_ble_eq_true rfl⟩) (pcV hPc hDc hKc hN (ci := 20) (q0 := 0) rfl rfl) rfl rfl hl.1 rfl (lv_room (Nat.le_of_ble_eq_true rfl)) dL_law_2170 ⟨Nat.le_of_ble_eq_true rfl, Nat.le_of_ble_eq_true rfl⟩) hS (fun q _ h => hFc q h) hFc (fun r_9 u t H1 locs ht hvm hw_10 hB hz1 hk1 hS => ?_)
    obtain ⟨hP1, hK1, hD1⟩ := hB
    rw [ht] at hP1
    try dsimp only at hw_10
    obtain ⟨hP, hD⟩ := va_join (wr := [(ou, .inl (cL, 1, .inr (.inl of_2)))]) (w1 := []) hP hD [1] [0] rfl rfl (by decide) (by decide) hk1 hFc hP1 hD1
    generalize H1 = H at hP hS ⊢
    have hP : va_P (dC, dI) vwCl [(ou, .inl (cL, 1, .inr (.inl of_2)))] H := hP
    have hD : va_D A [(ou, .inl (cL, 1, .inr (.inl of_2)))] := hD
    obtain rfl : r_9 = 0 := hw_10
    refine lv_iload hx hb dL_law_2173 (lv_at hl 1 rfl) ?_
    refine lv_icmp_eq (tgt := 2180) hx hb dL_law_2175 (by decide) (fun c2175_11 => ?_) (fun c2175_11 => ?_)
    · refine lv_iload hx hb dL_law_2180 (lv_at hl 1 rfl) ?_
      refine lv_if_ne (tgt := 2197) hx hb dL_law_2182 (by decide) (fun c2182_12 => ?_) (fun c2182_12 => ?_)
      · exact (c2182_12 (by decide)).elim
      · refine lv_aload_n hx hb dL_law_2185 rfl (lv_at hl 5 rfl) ?_
        refine lv_iconst (v := 0) hx hb dL_law_2186 (by decide) ?_
        refine va_lald hx hb hK hP 0 1 rfl rfl (show vp_in (nI 0) 1 from vp_in_nI (by decide) (by decide)) dL_law_2187 ?_
        refine lv_topl (fun z_13 ez_13 => ?_)
        obtain rfl : z_13 = (0 : Int32).toInt64 := by rw [ez_13, show (0 : Int32).toNatClampNeg = 0 from by decide]; exact hv0
        refine lv_iload hx hb dL_law_2188 (lv_at hl 0 rfl) ?_
        refine lv_i2l hx hb dL_law_2190 rfl ?_
        refine W.lcmp hx hb dL_law_2191 ?_
        refine lv_if_eq (tgt := 2197) hx hb dL_law_2192 (by decide) (fun c2192_14 => ?_) (fun c2192_14 => ?_)
        · refine lv_goto (tgt := 2778) hx hb dL_law_2197 (by decide) ?_
          refine W.widen (k := 600006) (n := 7302039) (Nat.le_of_ble_eq_true rfl) (Nat.le_of_ble_eq_true rfl) ?_
          exact law_end hx hb hr hml hX hbl hlocks hbA hAo hS (lv_sub hl [2, 7] rfl)
        · exact absurd ((lg_cmp_eq _ _).mpr (by first | rfl | (subst_vars; rfl))) c2192_14
    · exact (c2175_11 (by decide)).elim
  · obtain rfl : r_3 = 1 := hr0
    refine lv_istore (lv' := [(6, .int 1), (0, .ref b), (1, .ref ya), (2, .ref xm), (3, .ref ou), (4, .ref od), (5, .int 0)]) hx hb dL_law_2155 hl (by decide) rfl (fun ls hl => ?_)
    refine lv_aload_n hx hb dL_law_2157 rfl (lv_at hl 3 rfl) ?_
    refine lv_aload_n hx hb dL_law_2158 rfl (lv_at hl 1 rfl) ?_
    refine lv_iload hx hb dL_law_2159 (lv_at hl 6 rfl) ?_
    refine lv_iconst (v := 1) hx hb dL_law_2161 (by decide) ?_
    refine lv_iadd hx hb dL_law_2162 ?_
    refine va_sld hx hb hX hbl hbA hS sx1 dL_law_2163 ?_
    refine lv_topi (fun x_15 ex_15 => ?_)
    obtain rfl : s1 = x_15 := (show x_15 = s1 from ex_15.trans hs1.symm).symm
    have hPc := hP.sub (ws' := [(xm, .inr (20, [.int 0, .int 0, .ref kn, .int 0, .int 0, .int 0, .ref ml, .ref cl, .ref rg, .ref tR, .ref (aK 0), .ref (aK 0), .ref fl, .int 0, .int 0, .int 0, .int 0, .int 0, .int 0, .int 0, .null])), (rg, .inl (cI, 4, .inl (fun _ => 0)))]) [0, 1] rfl
    have hDc := hD.sub (ws' := [(xm, .inr (20, [.int 0, .int 0, .ref kn, .int 0, .int 0, .int 0, .ref ml, .ref cl, .ref rg, .ref tR, .ref (aK 0), .ref (aK 0), .ref fl, .int 0, .int 0, .int 0, .int 0, .int 0, .int 0, .int 0, .null])), (rg, .inl (cI, 4, .inl (fun _ => 0)))]) [0, 1] (by decide) rfl
    have hKc := hK.sub (tys' := [(cI, .int)]) [0] rfl
    have hFc := va_free (wc := [(xm, .inr (20, [.int 0, .int 0, .ref kn, .int 0, .int 0, .int 0, .ref ml, .ref cl, .ref rg, .ref tR, .ref (aK 0), .ref (aK 0), .ref fl, .int 0, .int 0, .int 0, .int 0, .int 0, .int 0, .int 0, .null])), (rg, .inl (cI, 4, .inl (fun _ => 0)))]) hD hS hA [0, 1] rfl
    refine va_calli (va_runV (As := [.int s1]) (rest := []) ⟨hx, hb, hml, hown, hts⟩ (c_X15_register l dC dI xm ml cl fl kn rg tR e0 aK aV cI s1 H.size) (cwV 1 hts gL_law_X15_register rfl rfl rfl (by decide +kernel) ⟨Nat.le_of_ble_eq_true rfl, Nat.le_of_ble_eq_true rfl⟩) (pcV hPc hDc hKc hN (ci := 20) (q0 := 0) rfl rfl) rfl rfl hl.1 rfl (lv_room (Nat.le_of_ble_eq_true rfl)) dL_law_2164 ⟨Nat.le_of_ble_eq_true rfl, Nat.le_of_ble_eq_true rfl⟩) hS (fun q _ h => hFc q h) hFc (fun r_17 u t H1 locs ht hvm hw_18 hB hz1 hk1 hS => ?_)
    obtain ⟨hP1, hK1, hD1⟩ := hB
    rw [ht] at hP1
    try dsimp only at hw_18
    obtain ⟨hP, hD⟩ := va_join (wr := [(ou, .inl (cL, 1, .inr (.inl of_2)))]) (w1 := [(xm, .inr (20, u))]) hP hD [0, 1] [2] rfl rfl (by decide) (by decide) hk1 hFc hP1 hD1
    generalize H1 = H at hP hS ⊢
    have hP : va_P (dC, dI) vwCl [(ou, .inl (cL, 1, .inr (.inl of_2))), (xm, .inr (20, u))] H := hP
    have hD : va_D A [(ou, .inl (cL, 1, .inr (.inl of_2))), (xm, .inr (20, u))] := hD
    obtain ⟨fs_16, efs_16⟩ : ∃ z, z = u := ⟨_, rfl⟩
    subst efs_16
    have hP : va_P (dC, dI) vwCl [(ou, .inl (cL, 1, .inr (.inl of_2))), (xm, .inr (20, fs_16))] H := hP
    have hD : va_D A [(ou, .inl (cL, 1, .inr (.inl of_2))), (xm, .inr (20, fs_16))] := hD
    have ht9 := hw_18.elim (fun h => absurd h.1 hPP) (fun h => h.2)
    refine lv_istore (lv' := [(7, .int r_17), (6, .int 1), (0, .ref b), (1, .ref ya), (2, .ref xm), (3, .ref ou), (4, .ref od), (5, .int 0)]) hx hb dL_law_2167 hl (by decide) rfl (fun ls hl => ?_)
    refine lv_aload_n hx hb dL_law_2169 rfl (lv_at hl 4 rfl) ?_
    have hPc := hP.sub (ws' := [(xm, .inr (20, fs_16))]) [1] rfl
    have hDc := hD.sub (ws' := [(xm, .inr (20, fs_16))]) [1] (by decide) rfl
    have hKc := hK.sub (tys' := []) [] rfl
    have hFc := va_free (wc := [(xm, .inr (20, fs_16))]) hD hS hA [1] rfl
    refine va_calli (va_runV (As := []) (rest := []) ⟨hx, hb, hml, hown, hts⟩ (c_X15_thrown l dC dI xm fs_16 1 ht9 H.size) (cwV 0 hts gL_law_X15_thrown rfl rfl rfl (by decide +kernel) ⟨Nat.le_of_ble_eq_true rfl, Nat.le_of_ble_eq_true rfl⟩) (pcV hPc hDc hKc hN (ci := 20) (q0 := 0) rfl rfl) rfl rfl hl.1 rfl (lv_room (Nat.le_of_ble_eq_true rfl)) dL_law_2170 ⟨Nat.le_of_ble_eq_true rfl, Nat.le_of_ble_eq_true rfl⟩) hS (fun q _ h => hFc q h) hFc (fun r_19 u t H1 locs ht hvm hw_20 hB hz1 hk1 hS => ?_)
    obtain ⟨hP1, hK1, hD1⟩ := hB
    rw [ht] at hP1
    try dsimp only at hw_20
    obtain ⟨hP, hD⟩ := va_join (wr := [(ou, .inl (cL, 1, .inr (.inl of_2)))]) (w1 := []) hP hD [1] [0] rfl rfl (by decide) (by decide) hk1 hFc hP1 hD1
    generalize H1 = H at hP hS ⊢
    have hP : va_P (dC, dI) vwCl [(ou, .inl (cL, 1, .inr (.inl of_2)))] H := hP
    have hD : va_D A [(ou, .inl (cL, 1, .inr (.inl of_2)))] := hD
    obtain rfl : r_19 = 1 := hw_20
    refine lv_iload hx hb dL_law_2173 (lv_at hl 1 rfl) ?_
    refine lv_icmp_eq (tgt := 2180) hx hb dL_law_2175 (by decide) (fun c2175_21 => ?_) (fun c2175_21 => ?_)
    · refine lv_iload hx hb dL_law_2180 (lv_at hl 1 rfl) ?_
      refine lv_if_ne (tgt := 2197) hx hb dL_law_2182 (by decide) (fun c2182_22 => ?_) (fun c2182_22 => ?_)
      · refine lv_goto (tgt := 2778) hx hb dL_law_2197 (by decide) ?_
        refine W.widen (k := 600006) (n := 7302039) (Nat.le_of_ble_eq_true rfl) (Nat.le_of_ble_eq_true rfl) ?_
        exact law_end hx hb hr hml hX hbl hlocks hbA hAo hS (lv_sub hl [2, 7] rfl)
      · exact absurd c2182_22 (by decide)
    · exact (c2175_21 (by decide)).elim

set_option maxHeartbeats 8000000 in
set_option maxRecDepth 100000 in
/-- the law: law_29_tagRow -/
theorem law_29_tagRow {p : Program} {e : Env} {s : State} {m : MethodId} {below : List Frame} {meth : Method} {c : Code} {l : Launch} {b : Nat} {xs : Nat → Int32} (hx : p.tables.exec = Jvm.exec) (hb : c.code = cL_law) (hr : meth.sig.returnType = ret) (hml : c.maxLocals = 9) (hfl : l.stackTraces = false) (hown : s.vm.findClass RL = some m.cls) (hts : ∀ w ∈ wsL_law, w.before #[Value.ref b] s = true) (hX : va_X b 7 xs s s.heap) (hbl : b < s.heap.size) (hlocks : meth.locks = false) {A : Nat → Prop} (hbA : ¬ A b) (hAo : ∀ q, A q → s.heap.size ≤ q) (hA : ∀ q : Nat, s.heap.size ≤ q → A q) (dC : Nat → ClassId) (dI : Nat → Nat → Nat) (hN : nwA s) (e0 : Nat) (aK aV : Nat → Nat) (hZ : zX A s s.heap ∧ zM e0 aK aV A s s.heap) (ya ms ju rj tj ro rn tn rh th ca sa da xa wb z1 z2 jt z3 br z4 z5 z6 lk z7 z8 li bm l2 z9 bo h2 mm l1 z10 oo h1 ct cr cu cg cp co tg ts tr tk te fw fo fu xm ml cl fl rg tR ou od kn : Nat) (cI cM cS cL cD cB : ClassId) {H : Heap} {locs : List Loc} (hP : va_P (dC, dI) vwCl [(ya, .inr (16, [.ref ms, .int 0, .ref ju, .ref li, .ref ct, .ref tg, .ref fw])), (tg, .inr (14, [.int 0, .int 0, .ref ts, .ref tr, .ref tk, .ref te])), (tr, .inl (cI, 24, .inl (fun _ => 0))), (tk, .inl (cI, 4, .inl (fun _ => 0))), (ou, .inl (cL, 1, .inr (.inl (fun _ => 0)))), (xm, .inr (20, [.int 0, .int 0, .ref kn, .int 0, .int 0, .int 0, .ref ml, .ref cl, .ref rg, .ref tR, .ref (aK 0), .ref (aK 0), .ref fl, .int 0, .int 0, .int 0, .int 0, .int 0, .int 0, .int 0, .null])), (tR, .inl (cS, 4, .inr (.inr (.inr (.inr (fun _ => some (aK 0)))))))] H) (hD : va_D A [(ya, .inr (16, [.ref ms, .int 0, .ref ju, .ref li, .ref ct, .ref tg, .ref fw])), (tg, .inr (14, [.int 0, .int 0, .ref ts, .ref tr, .ref tk, .ref te])), (tr, .inl (cI, 24, .inl (fun _ => 0))), (tk, .inl (cI, 4, .inl (fun _ => 0))), (ou, .inl (cL, 1, .inr (.inl (fun _ => 0)))), (xm, .inr (20, [.int 0, .int 0, .ref kn, .int 0, .int 0, .int 0, .ref ml, .ref cl, .ref rg, .ref tR, .ref (aK 0), .ref (aK 0), .ref fl, .int 0, .int 0, .int 0, .int 0, .int 0, .int 0, .int 0, .null])), (tR, .inl (cS, 4, .inr (.inr (.inr (.inr (fun _ => some (aK 0)))))))]) (hK : va_K (dC, dI) vwCl [(cI, .int), (cS, .object "java/lang/String"), (cL, .long), (cB, .byte)] s) (hS : va_S A s.heap H locs) {ls : Array Slot} (hl : lv_has ls 9 [(0, .ref b), (1, .ref ya), (2, .ref xm), (3, .ref ou), (4, .ref od), (5, .int 0)]) : W p l e room_1 s m #[Value.ref b] below meth c H locs 200 60000 (lw_Z below #[Value.ref b] s) (F0 m 2200 ls []) := by
  obtain ⟨s1, hs1⟩ : ∃ z, z = xs ((0 : Int32) + 1).toNatClampNeg := ⟨_, rfl⟩
  obtain ⟨s2, hs2⟩ : ∃ z, z = xs ((0 : Int32) + 2).toNatClampNeg := ⟨_, rfl⟩
  obtain ⟨s3, hs3⟩ : ∃ z, z = xs ((0 : Int32) + 3).toNatClampNeg := ⟨_, rfl⟩
  obtain ⟨s4, hs4⟩ : ∃ z, z = xs ((0 : Int32) + 4).toNatClampNeg := ⟨_, rfl⟩
  obtain ⟨s5, hs5⟩ : ∃ z, z = xs ((0 : Int32) + 5).toNatClampNeg := ⟨_, rfl⟩
  obtain ⟨s6, hs6⟩ : ∃ z, z = xs ((0 : Int32) + 6).toNatClampNeg := ⟨_, rfl⟩
  obtain ⟨ch1, hch1⟩ : ∃ z, z = (s1.toUInt32 % 65536).toInt32 := ⟨_, rfl⟩
  obtain ⟨ch2, hch2⟩ : ∃ z, z = (s2.toUInt32 % 65536).toInt32 := ⟨_, rfl⟩
  obtain ⟨ch3, hch3⟩ : ∃ z, z = (s3.toUInt32 % 65536).toInt32 := ⟨_, rfl⟩
  obtain ⟨ch4, hch4⟩ : ∃ z, z = (s4.toUInt32 % 65536).toInt32 := ⟨_, rfl⟩
  obtain ⟨ch5, hch5⟩ : ∃ z, z = (s5.toUInt32 % 65536).toInt32 := ⟨_, rfl⟩
  obtain ⟨ch6, hch6⟩ : ∃ z, z = (s6.toUInt32 % 65536).toInt32 := ⟨_, rfl⟩
  refine lv_aload_n hx hb dL_law_2200 rfl (lv_at hl 1 rfl) ?_
  refine lv_aload_n hx hb dL_law_2201 rfl (lv_at hl 0 rfl) ?_
  refine lv_iload hx hb dL_law_2202 (lv_at hl 5 rfl) ?_
  refine lv_iconst (v := 1) hx hb dL_law_2204 (by decide) ?_
  refine lv_iadd hx hb dL_law_2205 ?_
  refine va_sld hx hb hX hbl hbA hS sx1 dL_law_2206 ?_
  refine lv_topi (fun x_1 ex_1 => ?_)
  obtain rfl : s1 = x_1 := (show x_1 = s1 from ex_1.trans hs1.symm).symm
  refine lv_i2c hx hb dL_law_2207 rfl ?_
  refine lv_topi (fun x_2 ex_2 => ?_)
  obtain rfl : ch1 = x_2 := (show x_2 = ch1 from ex_2.trans hch1.symm).symm
  refine lv_aload_n hx hb dL_law_2208 rfl (lv_at hl 0 rfl) ?_
  refine lv_iload hx hb dL_law_2209 (lv_at hl 5 rfl) ?_
  refine lv_iconst (v := 2) hx hb dL_law_2211 (by decide) ?_
  refine lv_iadd hx hb dL_law_2212 ?_
  refine va_sld hx hb hX hbl hbA hS sx2 dL_law_2213 ?_
  refine lv_topi (fun x_3 ex_3 => ?_)
  obtain rfl : s2 = x_3 := (show x_3 = s2 from ex_3.trans hs2.symm).symm
  refine lv_i2c hx hb dL_law_2214 rfl ?_
  refine lv_topi (fun x_4 ex_4 => ?_)
  obtain rfl : ch2 = x_4 := (show x_4 = ch2 from ex_4.trans hch2.symm).symm
  refine lv_aload_n hx hb dL_law_2215 rfl (lv_at hl 3 rfl) ?_
  have hPc := hP.sub (ws' := [(ya, .inr (16, [.ref ms, .int 0, .ref ju, .ref li, .ref ct, .ref tg, .ref fw])), (tg, .inr (14, [.int 0, .int 0, .ref ts, .ref tr, .ref tk, .ref te])), (tr, .inl (cI, 24, .inl (fun _ => 0))), (tk, .inl (cI, 4, .inl (fun _ => 0))), (ou, .inl (cL, 1, .inr (.inl (fun _ => 0))))]) [0, 1, 2, 3, 4] rfl
  have hDc := hD.sub (ws' := [(ya, .inr (16, [.ref ms, .int 0, .ref ju, .ref li, .ref ct, .ref tg, .ref fw])), (tg, .inr (14, [.int 0, .int 0, .ref ts, .ref tr, .ref tk, .ref te])), (tr, .inl (cI, 24, .inl (fun _ => 0))), (tk, .inl (cI, 4, .inl (fun _ => 0))), (ou, .inl (cL, 1, .inr (.inl (fun _ => 0))))]) [0, 1, 2, 3, 4] (by decide) rfl
  have hKc := hK.sub (tys' := [(cI, .int), (cL, .long)]) [0, 2] rfl
  have hFc := va_free (wc := [(ya, .inr (16, [.ref ms, .int 0, .ref ju, .ref li, .ref ct, .ref tg, .ref fw])), (tg, .inr (14, [.int 0, .int 0, .ref ts, .ref tr, .ref tk, .ref te])), (tr, .inl (cI, 24, .inl (fun _ => 0))), (tk, .inl (cI, 4, .inl (fun _ => 0))), (ou, .inl (cL, 1, .inr (.inl (fun _ => 0))))]) hD hS hA [0, 1, 2, 3, 4] rfl
  refine vx_calli (vx_runSX (As := [.ref ya, .int ch1, .int ch2, .ref ou]) (rest := []) ⟨hx, hb, hml, hown, hts⟩ (c_L_tagRow l hfl dC dI cI ya ms ju li ct tg fw ts tr tk te (fun _ => 0) ch1 ch2 cL ou (fun _ => 0) H.size) (vx_cwSW 4 hts gL_law_L_tagRow rfl rfl rfl (by decide +kernel) ⟨Nat.le_of_ble_eq_true rfl, Nat.le_of_ble_eq_true rfl⟩) (pcSz (zX_ok) hPc hDc hKc hN hZ.1 hS hFc) rfl rfl hl.1 rfl (lv_room (Nat.le_of_ble_eq_true rfl)) dL_law_2216 ⟨Nat.le_of_ble_eq_true rfl, Nat.le_of_ble_eq_true rfl⟩) hS (fun q _ h => hFc q h) hFc (fun q _ h => hFc q h) (fun E9 ce9 q9 u9 t9 H9 locs9 ht9 hvm9 hp9 hE9 hz9 hk9 hS9 hc9 hv9 hcl9 => hE9.elim) (fun r_6 u t H1 locs ht hvm hw_7 hB hz1 hk1 hS => ?_)
  obtain ⟨hP1, hK1, hD1⟩ := hB
  rw [ht] at hP1
  try dsimp only at hw_7
  obtain ⟨hP, hD⟩ := va_join (wr := [(xm, .inr (20, [.int 0, .int 0, .ref kn, .int 0, .int 0, .int 0, .ref ml, .ref cl, .ref rg, .ref tR, .ref (aK 0), .ref (aK 0), .ref fl, .int 0, .int 0, .int 0, .int 0, .int 0, .int 0, .int 0, .null])), (tR, .inl (cS, 4, .inr (.inr (.inr (.inr (fun _ => some (aK 0)))))))]) (w1 := [(ou, .inl (cL, 1, .inr (.inl u)))]) hP hD [0, 1, 2, 3, 4] [5, 6] rfl rfl (by decide) (by decide) hk1 hFc hP1 hD1
  generalize H1 = H at hP hS ⊢
  have hP : va_P (dC, dI) vwCl [(xm, .inr (20, [.int 0, .int 0, .ref kn, .int 0, .int 0, .int 0, .ref ml, .ref cl, .ref rg, .ref tR, .ref (aK 0), .ref (aK 0), .ref fl, .int 0, .int 0, .int 0, .int 0, .int 0, .int 0, .int 0, .null])), (tR, .inl (cS, 4, .inr (.inr (.inr (.inr (fun _ => some (aK 0))))))), (ou, .inl (cL, 1, .inr (.inl u)))] H := hP
  have hD : va_D A [(xm, .inr (20, [.int 0, .int 0, .ref kn, .int 0, .int 0, .int 0, .ref ml, .ref cl, .ref rg, .ref tR, .ref (aK 0), .ref (aK 0), .ref fl, .int 0, .int 0, .int 0, .int 0, .int 0, .int 0, .int 0, .null])), (tR, .inl (cS, 4, .inr (.inr (.inr (.inr (fun _ => some (aK 0))))))), (ou, .inl (cL, 1, .inr (.inl u)))] := hD
  refine W.widen (k := 201) (n := 60006) (Nat.le_of_ble_eq_true rfl) (Nat.le_of_ble_eq_true rfl) ?_
  obtain ⟨of_5, eof_5⟩ : ∃ z, z = u := ⟨_, rfl⟩
  subst eof_5
  have hP : va_P (dC, dI) vwCl [(xm, .inr (20, [.int 0, .int 0, .ref kn, .int 0, .int 0, .int 0, .ref ml, .ref cl, .ref rg, .ref tR, .ref (aK 0), .ref (aK 0), .ref fl, .int 0, .int 0, .int 0, .int 0, .int 0, .int 0, .int 0, .null])), (tR, .inl (cS, 4, .inr (.inr (.inr (.inr (fun _ => some (aK 0))))))), (ou, .inl (cL, 1, .inr (.inl of_5)))] H := hP
  have hD : va_D A [(xm, .inr (20, [.int 0, .int 0, .ref kn, .int 0, .int 0, .int 0, .ref ml, .ref cl, .ref rg, .ref tR, .ref (aK 0), .ref (aK 0), .ref fl, .int 0, .int 0, .int 0, .int 0, .int 0, .int 0, .int 0, .null])), (tR, .inl (cS, 4, .inr (.inr (.inr (.inr (fun _ => some (aK 0))))))), (ou, .inl (cL, 1, .inr (.inl of_5)))] := hD
  rcases hw_7 with ⟨hr0, hPP, hv0⟩ | ⟨hr0, hPP⟩
  · obtain rfl : r_6 = 0 := hr0
    refine lv_istore (lv' := [(6, .int 0), (0, .ref b), (1, .ref ya), (2, .ref xm), (3, .ref ou), (4, .ref od), (5, .int 0)]) hx hb dL_law_2219 hl (by decide) rfl (fun ls hl => ?_)
    refine lv_aload_n hx hb dL_law_2221 rfl (lv_at hl 3 rfl) ?_
    refine lv_aload_n hx hb dL_law_2222 rfl (lv_at hl 1 rfl) ?_
    refine lv_iload hx hb dL_law_2223 (lv_at hl 6 rfl) ?_
    refine lv_iconst (v := 1) hx hb dL_law_2225 (by decide) ?_
    refine lv_iadd hx hb dL_law_2226 ?_
    refine va_sld hx hb hX hbl hbA hS sx1 dL_law_2227 ?_
    refine lv_topi (fun x_8 ex_8 => ?_)
    obtain rfl : s1 = x_8 := (show x_8 = s1 from ex_8.trans hs1.symm).symm
    refine lv_i2c hx hb dL_law_2228 rfl ?_
    refine lv_topi (fun x_9 ex_9 => ?_)
    obtain rfl : ch1 = x_9 := (show x_9 = ch1 from ex_9.trans hch1.symm).symm
    refine lv_aload_n hx hb dL_law_2229 rfl (lv_at hl 1 rfl) ?_
    refine lv_iload hx hb dL_law_2230 (lv_at hl 6 rfl) ?_
    refine lv_iconst (v := 2) hx hb dL_law_2232 (by decide) ?_
    refine lv_iadd hx hb dL_law_2233 ?_
    refine va_sld hx hb hX hbl hbA hS sx2 dL_law_2234 ?_
    refine lv_topi (fun x_10 ex_10 => ?_)
    obtain rfl : s2 = x_10 := (show x_10 = s2 from ex_10.trans hs2.symm).symm
    refine lv_i2c hx hb dL_law_2235 rfl ?_
    refine lv_topi (fun x_11 ex_11 => ?_)
    obtain rfl : ch2 = x_11 := (show x_11 = ch2 from ex_11.trans hch2.symm).symm
    have hPc := hP.sub (ws' := [(xm, .inr (20, [.int 0, .int 0, .ref kn, .int 0, .int 0, .int 0, .ref ml, .ref cl, .ref rg, .ref tR, .ref (aK 0), .ref (aK 0), .ref fl, .int 0, .int 0, .int 0, .int 0, .int 0, .int 0, .int 0, .null])), (tR, .inl (cS, 4, .inr (.inr (.inr (.inr (fun _ => some (aK 0)))))))]) [0, 1] rfl
    have hDc := hD.sub (ws' := [(xm, .inr (20, [.int 0, .int 0, .ref kn, .int 0, .int 0, .int 0, .ref ml, .ref cl, .ref rg, .ref tR, .ref (aK 0), .ref (aK 0), .ref fl, .int 0, .int 0, .int 0, .int 0, .int 0, .int 0, .int 0, .null])), (tR, .inl (cS, 4, .inr (.inr (.inr (.inr (fun _ => some (aK 0)))))))]) [0, 1] (by decide) rfl
    have hKc := hK.sub (tys' := [(cS, .object "java/lang/String"), (cB, .byte)]) [1, 3] rfl
    have hFc := va_free (wc := [(xm, .inr (20, [.int 0, .int 0, .ref kn, .int 0, .int 0, .int 0, .ref ml, .ref cl, .ref rg, .ref tR, .ref (aK 0), .ref (aK 0), .ref fl, .int 0, .int 0, .int 0, .int 0, .int 0, .int 0, .int 0, .null])), (tR, .inl (cS, 4, .inr (.inr (.inr (.inr (fun _ => some (aK 0)))))))]) hD hS hA [0, 1] rfl
    refine va_calli (va_runV (As := [.int ch1, .int ch2]) (rest := []) ⟨hx, hb, hml, hown, hts⟩ (c_X15_tagRow l dC dI xm ml cl fl kn rg tR e0 aK aV cB cS ch1 ch2 H.size) (cwV 2 hts gL_law_X15_tagRow rfl rfl rfl (by decide +kernel) ⟨Nat.le_of_ble_eq_true rfl, Nat.le_of_ble_eq_true rfl⟩) (pcVz (zM_ok e0 aK aV) hPc hDc hKc hN hZ.2 hS hFc (ci := 20) (q0 := 0) rfl rfl) rfl rfl hl.1 rfl (lv_room (Nat.le_of_ble_eq_true rfl)) dL_law_2236 ⟨Nat.le_of_ble_eq_true rfl, Nat.le_of_ble_eq_true rfl⟩) hS (fun q _ h => hFc q h) hFc (fun r_13 u t H1 locs ht hvm hw_14 hB hz1 hk1 hS => ?_)
    obtain ⟨hP1, hK1, hD1⟩ := hB
    rw [ht] at hP1
    try dsimp only at hw_14
    obtain ⟨hP, hD⟩ := va_join (wr := [(ou, .inl (cL, 1, .inr (.inl of_5)))]) (w1 := [(xm, .inr (20, u))]) hP hD [0, 1] [2] rfl rfl (by decide) (by decide) hk1 hFc hP1 hD1
    generalize H1 = H at hP hS ⊢
    have hP : va_P (dC, dI) vwCl [(ou, .inl (cL, 1, .inr (.inl of_5))), (xm, .inr (20, u))] H := hP
    have hD : va_D A [(ou, .inl (cL, 1, .inr (.inl of_5))), (xm, .inr (20, u))] := hD
    refine W.widen (k := 205) (n := 60031) (Nat.le_of_ble_eq_true rfl) (Nat.le_of_ble_eq_true rfl) ?_
    obtain ⟨fs_12, efs_12⟩ : ∃ z, z = u := ⟨_, rfl⟩
    subst efs_12
    have hP : va_P (dC, dI) vwCl [(ou, .inl (cL, 1, .inr (.inl of_5))), (xm, .inr (20, fs_12))] H := hP
    have hD : va_D A [(ou, .inl (cL, 1, .inr (.inl of_5))), (xm, .inr (20, fs_12))] := hD
    obtain ⟨ht9, hrv⟩ := hw_14.elim (fun h => h.2) (fun h => absurd hPP h.1)
    obtain rfl : r_13 = 1 := hrv
    refine lv_istore (lv' := [(7, .int 1), (6, .int 0), (0, .ref b), (1, .ref ya), (2, .ref xm), (3, .ref ou), (4, .ref od), (5, .int 0)]) hx hb dL_law_2239 hl (by decide) rfl (fun ls hl => ?_)
    refine lv_aload_n hx hb dL_law_2241 rfl (lv_at hl 4 rfl) ?_
    have hPc := hP.sub (ws' := [(xm, .inr (20, fs_12))]) [1] rfl
    have hDc := hD.sub (ws' := [(xm, .inr (20, fs_12))]) [1] (by decide) rfl
    have hKc := hK.sub (tys' := []) [] rfl
    have hFc := va_free (wc := [(xm, .inr (20, fs_12))]) hD hS hA [1] rfl
    refine va_calli (va_runV (As := []) (rest := []) ⟨hx, hb, hml, hown, hts⟩ (c_X15_thrown l dC dI xm fs_12 0 ht9 H.size) (cwV 0 hts gL_law_X15_thrown rfl rfl rfl (by decide +kernel) ⟨Nat.le_of_ble_eq_true rfl, Nat.le_of_ble_eq_true rfl⟩) (pcV hPc hDc hKc hN (ci := 20) (q0 := 0) rfl rfl) rfl rfl hl.1 rfl (lv_room (Nat.le_of_ble_eq_true rfl)) dL_law_2242 ⟨Nat.le_of_ble_eq_true rfl, Nat.le_of_ble_eq_true rfl⟩) hS (fun q _ h => hFc q h) hFc (fun r_15 u t H1 locs ht hvm hw_16 hB hz1 hk1 hS => ?_)
    obtain ⟨hP1, hK1, hD1⟩ := hB
    rw [ht] at hP1
    try dsimp only at hw_16
    obtain ⟨hP, hD⟩ := va_join (wr := [(ou, .inl (cL, 1, .inr (.inl of_5)))]) (w1 := []) hP hD [1] [0] rfl rfl (by decide) (by decide) hk1 hFc hP1 hD1
    generalize H1 = H at hP hS ⊢
    have hP : va_P (dC, dI) vwCl [(ou, .inl (cL, 1, .inr (.inl of_5)))] H := hP
    have hD : va_D A [(ou, .inl (cL, 1, .inr (.inl of_5)))] := hD
    obtain rfl : r_15 = 0 := hw_16
    refine lv_iload hx hb dL_law_2245 (lv_at hl 1 rfl) ?_
    refine lv_icmp_eq (tgt := 2252) hx hb dL_law_2247 (by decide) (fun c2247_17 => ?_) (fun c2247_17 => ?_)
    · refine lv_iload hx hb dL_law_2252 (lv_at hl 1 rfl) ?_
      refine lv_if_ne (tgt := 2269) hx hb dL_law_2254 (by decide) (fun c2254_18 => ?_) (fun c2254_18 => ?_)
      · exact (c2254_18 (by decide)).elim
      · refine lv_aload_n hx hb dL_law_2257 rfl (lv_at hl 5 rfl) ?_
        refine lv_iconst (v := 0) hx hb dL_law_2258 (by decide) ?_
        refine va_lald hx hb hK hP 0 2 rfl rfl (show vp_in (nI 0) 1 from vp_in_nI (by decide) (by decide)) dL_law_2259 ?_
        refine lv_topl (fun z_19 ez_19 => ?_)
        obtain rfl : z_19 = (1 : Int32).toInt64 := by rw [ez_19, show (0 : Int32).toNatClampNeg = 0 from by decide]; exact hv0
        refine lv_iload hx hb dL_law_2260 (lv_at hl 0 rfl) ?_
        refine lv_i2l hx hb dL_law_2262 rfl ?_
        refine W.lcmp hx hb dL_law_2263 ?_
        refine lv_if_eq (tgt := 2269) hx hb dL_law_2264 (by decide) (fun c2264_20 => ?_) (fun c2264_20 => ?_)
        · refine lv_goto (tgt := 2778) hx hb dL_law_2269 (by decide) ?_
          refine W.widen (k := 600006) (n := 7302039) (Nat.le_of_ble_eq_true rfl) (Nat.le_of_ble_eq_true rfl) ?_
          exact law_end hx hb hr hml hX hbl hlocks hbA hAo hS (lv_sub hl [2, 7] rfl)
        · exact absurd ((lg_cmp_eq _ _).mpr (by first | rfl | (subst_vars; rfl))) c2264_20
    · exact (c2247_17 (by decide)).elim
  · obtain rfl : r_6 = 1 := hr0
    refine lv_istore (lv' := [(6, .int 1), (0, .ref b), (1, .ref ya), (2, .ref xm), (3, .ref ou), (4, .ref od), (5, .int 0)]) hx hb dL_law_2219 hl (by decide) rfl (fun ls hl => ?_)
    refine lv_aload_n hx hb dL_law_2221 rfl (lv_at hl 3 rfl) ?_
    refine lv_aload_n hx hb dL_law_2222 rfl (lv_at hl 1 rfl) ?_
    refine lv_iload hx hb dL_law_2223 (lv_at hl 6 rfl) ?_
    refine lv_iconst (v := 1) hx hb dL_law_2225 (by decide) ?_
    refine lv_iadd hx hb dL_law_2226 ?_
    refine va_sld hx hb hX hbl hbA hS sx1 dL_law_2227 ?_
    refine lv_topi (fun x_21 ex_21 => ?_)
    obtain rfl : s1 = x_21 := (show x_21 = s1 from ex_21.trans hs1.symm).symm
    refine lv_i2c hx hb dL_law_2228 rfl ?_
    refine lv_topi (fun x_22 ex_22 => ?_)
    obtain rfl : ch1 = x_22 := (show x_22 = ch1 from ex_22.trans hch1.symm).symm
    refine lv_aload_n hx hb dL_law_2229 rfl (lv_at hl 1 rfl) ?_
    refine lv_iload hx hb dL_law_2230 (lv_at hl 6 rfl) ?_
    refine lv_iconst (v := 2) hx hb dL_law_2232 (by decide) ?_
    refine lv_iadd hx hb dL_law_2233 ?_
    refine va_sld hx hb hX hbl hbA hS sx2 dL_law_2234 ?_
    refine lv_topi (fun x_23 ex_23 => ?_)
    obtain rfl : s2 = x_23 := (show x_23 = s2 from ex_23.trans hs2.symm).symm
    refine lv_i2c hx hb dL_law_2235 rfl ?_
    refine lv_topi (fun x_24 ex_24 => ?_)
    obtain rfl : ch2 = x_24 := (show x_24 = ch2 from ex_24.trans hch2.symm).symm
    have hPc := hP.sub (ws' := [(xm, .inr (20, [.int 0, .int 0, .ref kn, .int 0, .int 0, .int 0, .ref ml, .ref cl, .ref rg, .ref tR, .ref (aK 0), .ref (aK 0), .ref fl, .int 0, .int 0, .int 0, .int 0, .int 0, .int 0, .int 0, .null])), (tR, .inl (cS, 4, .inr (.inr (.inr (.inr (fun _ => some (aK 0)))))))]) [0, 1] rfl
    have hDc := hD.sub (ws' := [(xm, .inr (20, [.int 0, .int 0, .ref kn, .int 0, .int 0, .int 0, .ref ml, .ref cl, .ref rg, .ref tR, .ref (aK 0), .ref (aK 0), .ref fl, .int 0, .int 0, .int 0, .int 0, .int 0, .int 0, .int 0, .null])), (tR, .inl (cS, 4, .inr (.inr (.inr (.inr (fun _ => some (aK 0)))))))]) [0, 1] (by decide) rfl
    have hKc := hK.sub (tys' := [(cS, .object "java/lang/String"), (cB, .byte)]) [1, 3] rfl
    have hFc := va_free (wc := [(xm, .inr (20, [.int 0, .int 0, .ref kn, .int 0, .int 0, .int 0, .ref ml, .ref cl, .ref rg, .ref tR, .ref (aK 0), .ref (aK 0), .ref fl, .int 0, .int 0, .int 0, .int 0, .int 0, .int 0, .int 0, .null])), (tR, .inl (cS, 4, .inr (.inr (.inr (.inr (fun _ => some (aK 0)))))))]) hD hS hA [0, 1] rfl
    refine va_calli (va_runV (As := [.int ch1, .int ch2]) (rest := []) ⟨hx, hb, hml, hown, hts⟩ (c_X15_tagRow l dC dI xm ml cl fl kn rg tR e0 aK aV cB cS ch1 ch2 H.size) (cwV 2 hts gL_law_X15_tagRow rfl rfl rfl (by decide +kernel) ⟨Nat.le_of_ble_eq_true rfl, Nat.le_of_ble_eq_true rfl⟩) (pcVz (zM_ok e0 aK aV) hPc hDc hKc hN hZ.2 hS hFc (ci := 20) (q0 := 0) rfl rfl) rfl rfl hl.1 rfl (lv_room (Nat.le_of_ble_eq_true rfl)) dL_law_2236 ⟨Nat.le_of_ble_eq_true rfl, Nat.le_of_ble_eq_true rfl⟩) hS (fun q _ h => hFc q h) hFc (fun r_26 u t H1 locs ht hvm hw_27 hB hz1 hk1 hS => ?_)
    obtain ⟨hP1, hK1, hD1⟩ := hB
    rw [ht] at hP1
    try dsimp only at hw_27
    obtain ⟨hP, hD⟩ := va_join (wr := [(ou, .inl (cL, 1, .inr (.inl of_5)))]) (w1 := [(xm, .inr (20, u))]) hP hD [0, 1] [2] rfl rfl (by decide) (by decide) hk1 hFc hP1 hD1
    generalize H1 = H at hP hS ⊢
    have hP : va_P (dC, dI) vwCl [(ou, .inl (cL, 1, .inr (.inl of_5))), (xm, .inr (20, u))] H := hP
    have hD : va_D A [(ou, .inl (cL, 1, .inr (.inl of_5))), (xm, .inr (20, u))] := hD
    refine W.widen (k := 205) (n := 60031) (Nat.le_of_ble_eq_true rfl) (Nat.le_of_ble_eq_true rfl) ?_
    obtain ⟨fs_25, efs_25⟩ : ∃ z, z = u := ⟨_, rfl⟩
    subst efs_25
    have hP : va_P (dC, dI) vwCl [(ou, .inl (cL, 1, .inr (.inl of_5))), (xm, .inr (20, fs_25))] H := hP
    have hD : va_D A [(ou, .inl (cL, 1, .inr (.inl of_5))), (xm, .inr (20, fs_25))] := hD
    have ht9 := hw_27.elim (fun h => absurd h.1 hPP) (fun h => h.2)
    refine lv_istore (lv' := [(7, .int r_26), (6, .int 1), (0, .ref b), (1, .ref ya), (2, .ref xm), (3, .ref ou), (4, .ref od), (5, .int 0)]) hx hb dL_law_2239 hl (by decide) rfl (fun ls hl => ?_)
    refine lv_aload_n hx hb dL_law_2241 rfl (lv_at hl 4 rfl) ?_
    have hPc := hP.sub (ws' := [(xm, .inr (20, fs_25))]) [1] rfl
    have hDc := hD.sub (ws' := [(xm, .inr (20, fs_25))]) [1] (by decide) rfl
    have hKc := hK.sub (tys' := []) [] rfl
    have hFc := va_free (wc := [(xm, .inr (20, fs_25))]) hD hS hA [1] rfl
    refine va_calli (va_runV (As := []) (rest := []) ⟨hx, hb, hml, hown, hts⟩ (c_X15_thrown l dC dI xm fs_25 1 ht9 H.size) (cwV 0 hts gL_law_X15_thrown rfl rfl rfl (by decide +kernel) ⟨Nat.le_of_ble_eq_true rfl, Nat.le_of_ble_eq_true rfl⟩) (pcV hPc hDc hKc hN (ci := 20) (q0 := 0) rfl rfl) rfl rfl hl.1 rfl (lv_room (Nat.le_of_ble_eq_true rfl)) dL_law_2242 ⟨Nat.le_of_ble_eq_true rfl, Nat.le_of_ble_eq_true rfl⟩) hS (fun q _ h => hFc q h) hFc (fun r_28 u t H1 locs ht hvm hw_29 hB hz1 hk1 hS => ?_)
    obtain ⟨hP1, hK1, hD1⟩ := hB
    rw [ht] at hP1
    try dsimp only at hw_29
    obtain ⟨hP, hD⟩ := va_join (wr := [(ou, .inl (cL, 1, .inr (.inl of_5)))]) (w1 := []) hP hD [1] [0] rfl rfl (by decide) (by decide) hk1 hFc hP1 hD1
    generalize H1 = H at hP hS ⊢
    have hP : va_P (dC, dI) vwCl [(ou, .inl (cL, 1, .inr (.inl of_5)))] H := hP
    have hD : va_D A [(ou, .inl (cL, 1, .inr (.inl of_5)))] := hD
    obtain rfl : r_28 = 1 := hw_29
    refine lv_iload hx hb dL_law_2245 (lv_at hl 1 rfl) ?_
    refine lv_icmp_eq (tgt := 2252) hx hb dL_law_2247 (by decide) (fun c2247_30 => ?_) (fun c2247_30 => ?_)
    · refine lv_iload hx hb dL_law_2252 (lv_at hl 1 rfl) ?_
      refine lv_if_ne (tgt := 2269) hx hb dL_law_2254 (by decide) (fun c2254_31 => ?_) (fun c2254_31 => ?_)
      · refine lv_goto (tgt := 2778) hx hb dL_law_2269 (by decide) ?_
        refine W.widen (k := 600006) (n := 7302039) (Nat.le_of_ble_eq_true rfl) (Nat.le_of_ble_eq_true rfl) ?_
        exact law_end hx hb hr hml hX hbl hlocks hbA hAo hS (lv_sub hl [2, 7] rfl)
      · exact absurd c2254_31 (by decide)
    · exact (c2247_30 (by decide)).elim

set_option maxHeartbeats 8000000 in
set_option maxRecDepth 100000 in
/-- the law: law_30_tagStart -/
theorem law_30_tagStart {p : Program} {e : Env} {s : State} {m : MethodId} {below : List Frame} {meth : Method} {c : Code} {l : Launch} {b : Nat} {xs : Nat → Int32} (hx : p.tables.exec = Jvm.exec) (hb : c.code = cL_law) (hr : meth.sig.returnType = ret) (hml : c.maxLocals = 9) (hfl : l.stackTraces = false) (hown : s.vm.findClass RL = some m.cls) (hts : ∀ w ∈ wsL_law, w.before #[Value.ref b] s = true) (hX : va_X b 7 xs s s.heap) (hbl : b < s.heap.size) (hlocks : meth.locks = false) {A : Nat → Prop} (hbA : ¬ A b) (hAo : ∀ q, A q → s.heap.size ≤ q) (hA : ∀ q : Nat, s.heap.size ≤ q → A q) (dC : Nat → ClassId) (dI : Nat → Nat → Nat) (hN : nwA s) (e0 : Nat) (aK aV : Nat → Nat) (hZ : zX A s s.heap ∧ zM e0 aK aV A s s.heap) (ya ms ju rj tj ro rn tn rh th ca sa da xa wb z1 z2 jt z3 br z4 z5 z6 lk z7 z8 li bm l2 z9 bo h2 mm l1 z10 oo h1 ct cr cu cg cp co tg ts tr tk te fw fo fu xm ml cl fl rg tR ou od kn : Nat) (cI cM cS cL cD cB : ClassId) {H : Heap} {locs : List Loc} (hP : va_P (dC, dI) vwCl [(ya, .inr (16, [.ref ms, .int 0, .ref ju, .ref li, .ref ct, .ref tg, .ref fw])), (tg, .inr (14, [.int 0, .int 0, .ref ts, .ref tr, .ref tk, .ref te])), (ts, .inl (cI, 40, .inl (fun _ => 0))), (ou, .inl (cL, 1, .inr (.inl (fun _ => 0)))), (xm, .inr (20, [.int 0, .int 0, .ref kn, .int 0, .int 0, .int 0, .ref ml, .ref cl, .ref rg, .ref tR, .ref (aK 0), .ref (aK 0), .ref fl, .int 0, .int 0, .int 0, .int 0, .int 0, .int 0, .int 0, .null]))] H) (hD : va_D A [(ya, .inr (16, [.ref ms, .int 0, .ref ju, .ref li, .ref ct, .ref tg, .ref fw])), (tg, .inr (14, [.int 0, .int 0, .ref ts, .ref tr, .ref tk, .ref te])), (ts, .inl (cI, 40, .inl (fun _ => 0))), (ou, .inl (cL, 1, .inr (.inl (fun _ => 0)))), (xm, .inr (20, [.int 0, .int 0, .ref kn, .int 0, .int 0, .int 0, .ref ml, .ref cl, .ref rg, .ref tR, .ref (aK 0), .ref (aK 0), .ref fl, .int 0, .int 0, .int 0, .int 0, .int 0, .int 0, .int 0, .null]))]) (hK : va_K (dC, dI) vwCl [(cI, .int), (cL, .long), (cB, .byte)] s) (hS : va_S A s.heap H locs) {ls : Array Slot} (hl : lv_has ls 9 [(0, .ref b), (1, .ref ya), (2, .ref xm), (3, .ref ou), (4, .ref od), (5, .int 0)]) : W p l e room_1 s m #[Value.ref b] below meth c H locs 200 60000 (lw_Z below #[Value.ref b] s) (F0 m 2272 ls []) := by
  obtain ⟨s1, hs1⟩ : ∃ z, z = xs ((0 : Int32) + 1).toNatClampNeg := ⟨_, rfl⟩
  obtain ⟨s2, hs2⟩ : ∃ z, z = xs ((0 : Int32) + 2).toNatClampNeg := ⟨_, rfl⟩
  obtain ⟨s3, hs3⟩ : ∃ z, z = xs ((0 : Int32) + 3).toNatClampNeg := ⟨_, rfl⟩
  obtain ⟨s4, hs4⟩ : ∃ z, z = xs ((0 : Int32) + 4).toNatClampNeg := ⟨_, rfl⟩
  obtain ⟨s5, hs5⟩ : ∃ z, z = xs ((0 : Int32) + 5).toNatClampNeg := ⟨_, rfl⟩
  obtain ⟨s6, hs6⟩ : ∃ z, z = xs ((0 : Int32) + 6).toNatClampNeg := ⟨_, rfl⟩
  obtain ⟨ch1, hch1⟩ : ∃ z, z = (s1.toUInt32 % 65536).toInt32 := ⟨_, rfl⟩
  obtain ⟨ch2, hch2⟩ : ∃ z, z = (s2.toUInt32 % 65536).toInt32 := ⟨_, rfl⟩
  obtain ⟨ch3, hch3⟩ : ∃ z, z = (s3.toUInt32 % 65536).toInt32 := ⟨_, rfl⟩
  obtain ⟨ch4, hch4⟩ : ∃ z, z = (s4.toUInt32 % 65536).toInt32 := ⟨_, rfl⟩
  obtain ⟨ch5, hch5⟩ : ∃ z, z = (s5.toUInt32 % 65536).toInt32 := ⟨_, rfl⟩
  obtain ⟨ch6, hch6⟩ : ∃ z, z = (s6.toUInt32 % 65536).toInt32 := ⟨_, rfl⟩
  refine lv_aload_n hx hb dL_law_2272 rfl (lv_at hl 1 rfl) ?_
  refine lv_aload_n hx hb dL_law_2273 rfl (lv_at hl 0 rfl) ?_
  refine lv_iload hx hb dL_law_2274 (lv_at hl 5 rfl) ?_
  refine lv_iconst (v := 1) hx hb dL_law_2276 (by decide) ?_
  refine lv_iadd hx hb dL_law_2277 ?_
  refine va_sld hx hb hX hbl hbA hS sx1 dL_law_2278 ?_
  refine lv_topi (fun x_1 ex_1 => ?_)
  obtain rfl : s1 = x_1 := (show x_1 = s1 from ex_1.trans hs1.symm).symm
  refine lv_i2c hx hb dL_law_2279 rfl ?_
  refine lv_topi (fun x_2 ex_2 => ?_)
  obtain rfl : ch1 = x_2 := (show x_2 = ch1 from ex_2.trans hch1.symm).symm
  refine lv_aload_n hx hb dL_law_2280 rfl (lv_at hl 3 rfl) ?_
  have hPc := hP.sub (ws' := [(ya, .inr (16, [.ref ms, .int 0, .ref ju, .ref li, .ref ct, .ref tg, .ref fw])), (tg, .inr (14, [.int 0, .int 0, .ref ts, .ref tr, .ref tk, .ref te])), (ts, .inl (cI, 40, .inl (fun _ => 0))), (ou, .inl (cL, 1, .inr (.inl (fun _ => 0))))]) [0, 1, 2, 3] rfl
  have hDc := hD.sub (ws' := [(ya, .inr (16, [.ref ms, .int 0, .ref ju, .ref li, .ref ct, .ref tg, .ref fw])), (tg, .inr (14, [.int 0, .int 0, .ref ts, .ref tr, .ref tk, .ref te])), (ts, .inl (cI, 40, .inl (fun _ => 0))), (ou, .inl (cL, 1, .inr (.inl (fun _ => 0))))]) [0, 1, 2, 3] (by decide) rfl
  have hKc := hK.sub (tys' := [(cI, .int), (cL, .long)]) [0, 1] rfl
  have hFc := va_free (wc := [(ya, .inr (16, [.ref ms, .int 0, .ref ju, .ref li, .ref ct, .ref tg, .ref fw])), (tg, .inr (14, [.int 0, .int 0, .ref ts, .ref tr, .ref tk, .ref te])), (ts, .inl (cI, 40, .inl (fun _ => 0))), (ou, .inl (cL, 1, .inr (.inl (fun _ => 0))))]) hD hS hA [0, 1, 2, 3] rfl
  refine vx_calli (vx_runSX (As := [.ref ya, .int ch1, .ref ou]) (rest := []) ⟨hx, hb, hml, hown, hts⟩ (c_L_tagStart l hfl dC dI cI ya ms ju li ct tg fw ts tr tk te (fun _ => 0) ch1 cL ou (fun _ => 0) H.size) (vx_cwSW 3 hts gL_law_L_tagStart rfl rfl rfl (by decide +kernel) ⟨Nat.le_of_ble_eq_true rfl, Nat.le_of_ble_eq_true rfl⟩) (pcSz (zX_ok) hPc hDc hKc hN hZ.1 hS hFc) rfl rfl hl.1 rfl (lv_room (Nat.le_of_ble_eq_true rfl)) dL_law_2281 ⟨Nat.le_of_ble_eq_true rfl, Nat.le_of_ble_eq_true rfl⟩) hS (fun q _ h => hFc q h) hFc (fun q _ h => hFc q h) (fun E9 ce9 q9 u9 t9 H9 locs9 ht9 hvm9 hp9 hE9 hz9 hk9 hS9 hc9 hv9 hcl9 => hE9.elim) (fun r_4 u t H1 locs ht hvm hw_5 hB hz1 hk1 hS => ?_)
  obtain ⟨hP1, hK1, hD1⟩ := hB
  rw [ht] at hP1
  try dsimp only at hw_5
  obtain ⟨hP, hD⟩ := va_join (wr := [(xm, .inr (20, [.int 0, .int 0, .ref kn, .int 0, .int 0, .int 0, .ref ml, .ref cl, .ref rg, .ref tR, .ref (aK 0), .ref (aK 0), .ref fl, .int 0, .int 0, .int 0, .int 0, .int 0, .int 0, .int 0, .null]))]) (w1 := [(ou, .inl (cL, 1, .inr (.inl u)))]) hP hD [0, 1, 2, 3] [4] rfl rfl (by decide) (by decide) hk1 hFc hP1 hD1
  generalize H1 = H at hP hS ⊢
  have hP : va_P (dC, dI) vwCl [(xm, .inr (20, [.int 0, .int 0, .ref kn, .int 0, .int 0, .int 0, .ref ml, .ref cl, .ref rg, .ref tR, .ref (aK 0), .ref (aK 0), .ref fl, .int 0, .int 0, .int 0, .int 0, .int 0, .int 0, .int 0, .null])), (ou, .inl (cL, 1, .inr (.inl u)))] H := hP
  have hD : va_D A [(xm, .inr (20, [.int 0, .int 0, .ref kn, .int 0, .int 0, .int 0, .ref ml, .ref cl, .ref rg, .ref tR, .ref (aK 0), .ref (aK 0), .ref fl, .int 0, .int 0, .int 0, .int 0, .int 0, .int 0, .int 0, .null])), (ou, .inl (cL, 1, .inr (.inl u)))] := hD
  refine W.widen (k := 201) (n := 60006) (Nat.le_of_ble_eq_true rfl) (Nat.le_of_ble_eq_true rfl) ?_
  obtain ⟨of_3, eof_3⟩ : ∃ z, z = u := ⟨_, rfl⟩
  subst eof_3
  have hP : va_P (dC, dI) vwCl [(xm, .inr (20, [.int 0, .int 0, .ref kn, .int 0, .int 0, .int 0, .ref ml, .ref cl, .ref rg, .ref tR, .ref (aK 0), .ref (aK 0), .ref fl, .int 0, .int 0, .int 0, .int 0, .int 0, .int 0, .int 0, .null])), (ou, .inl (cL, 1, .inr (.inl of_3)))] H := hP
  have hD : va_D A [(xm, .inr (20, [.int 0, .int 0, .ref kn, .int 0, .int 0, .int 0, .ref ml, .ref cl, .ref rg, .ref tR, .ref (aK 0), .ref (aK 0), .ref fl, .int 0, .int 0, .int 0, .int 0, .int 0, .int 0, .int 0, .null])), (ou, .inl (cL, 1, .inr (.inl of_3)))] := hD
  rcases hw_5 with ⟨hr0, hPP, hv0⟩ | ⟨hr0, hPP⟩
  · obtain rfl : r_4 = 0 := hr0
    refine lv_istore (lv' := [(6, .int 0), (0, .ref b), (1, .ref ya), (2, .ref xm), (3, .ref ou), (4, .ref od), (5, .int 0)]) hx hb dL_law_2284 hl (by decide) rfl (fun ls hl => ?_)
    refine lv_aload_n hx hb dL_law_2286 rfl (lv_at hl 3 rfl) ?_
    refine lv_aload_n hx hb dL_law_2287 rfl (lv_at hl 1 rfl) ?_
    refine lv_iload hx hb dL_law_2288 (lv_at hl 6 rfl) ?_
    refine lv_iconst (v := 1) hx hb dL_law_2290 (by decide) ?_
    refine lv_iadd hx hb dL_law_2291 ?_
    refine va_sld hx hb hX hbl hbA hS sx1 dL_law_2292 ?_
    refine lv_topi (fun x_6 ex_6 => ?_)
    obtain rfl : s1 = x_6 := (show x_6 = s1 from ex_6.trans hs1.symm).symm
    refine lv_i2c hx hb dL_law_2293 rfl ?_
    refine lv_topi (fun x_7 ex_7 => ?_)
    obtain rfl : ch1 = x_7 := (show x_7 = ch1 from ex_7.trans hch1.symm).symm
    have hPc := hP.sub (ws' := [(xm, .inr (20, [.int 0, .int 0, .ref kn, .int 0, .int 0, .int 0, .ref ml, .ref cl, .ref rg, .ref tR, .ref (aK 0), .ref (aK 0), .ref fl, .int 0, .int 0, .int 0, .int 0, .int 0, .int 0, .int 0, .null]))]) [0] rfl
    have hDc := hD.sub (ws' := [(xm, .inr (20, [.int 0, .int 0, .ref kn, .int 0, .int 0, .int 0, .ref ml, .ref cl, .ref rg, .ref tR, .ref (aK 0), .ref (aK 0), .ref fl, .int 0, .int 0, .int 0, .int 0, .int 0, .int 0, .int 0, .null]))]) [0] (by decide) rfl
    have hKc := hK.sub (tys' := [(cB, .byte)]) [2] rfl
    have hFc := va_free (wc := [(xm, .inr (20, [.int 0, .int 0, .ref kn, .int 0, .int 0, .int 0, .ref ml, .ref cl, .ref rg, .ref tR, .ref (aK 0), .ref (aK 0), .ref fl, .int 0, .int 0, .int 0, .int 0, .int 0, .int 0, .int 0, .null]))]) hD hS hA [0] rfl
    refine va_calli (va_runV (As := [.int ch1]) (rest := []) ⟨hx, hb, hml, hown, hts⟩ (c_X15_tagStart l dC dI xm ml cl fl kn rg tR e0 aK aV cB ch1 H.size) (cwV 1 hts gL_law_X15_tagStart rfl rfl rfl (by decide +kernel) ⟨Nat.le_of_ble_eq_true rfl, Nat.le_of_ble_eq_true rfl⟩) (pcVz (zM_ok e0 aK aV) hPc hDc hKc hN hZ.2 hS hFc (ci := 20) (q0 := 0) rfl rfl) rfl rfl hl.1 rfl (lv_room (Nat.le_of_ble_eq_true rfl)) dL_law_2294 ⟨Nat.le_of_ble_eq_true rfl, Nat.le_of_ble_eq_true rfl⟩) hS (fun q _ h => hFc q h) hFc (fun r_9 u t H1 locs ht hvm hw_10 hB hz1 hk1 hS => ?_)
    obtain ⟨hP1, hK1, hD1⟩ := hB
    rw [ht] at hP1
    try dsimp only at hw_10
    obtain ⟨hP, hD⟩ := va_join (wr := [(ou, .inl (cL, 1, .inr (.inl of_3)))]) (w1 := [(xm, .inr (20, u))]) hP hD [0] [1] rfl rfl (by decide) (by decide) hk1 hFc hP1 hD1
    generalize H1 = H at hP hS ⊢
    have hP : va_P (dC, dI) vwCl [(ou, .inl (cL, 1, .inr (.inl of_3))), (xm, .inr (20, u))] H := hP
    have hD : va_D A [(ou, .inl (cL, 1, .inr (.inl of_3))), (xm, .inr (20, u))] := hD
    refine W.widen (k := 209) (n := 60056) (Nat.le_of_ble_eq_true rfl) (Nat.le_of_ble_eq_true rfl) ?_
    obtain ⟨fs_8, efs_8⟩ : ∃ z, z = u := ⟨_, rfl⟩
    subst efs_8
    have hP : va_P (dC, dI) vwCl [(ou, .inl (cL, 1, .inr (.inl of_3))), (xm, .inr (20, fs_8))] H := hP
    have hD : va_D A [(ou, .inl (cL, 1, .inr (.inl of_3))), (xm, .inr (20, fs_8))] := hD
    obtain ⟨ht9, hrv⟩ := hw_10.elim (fun h => h.2) (fun h => absurd hPP h.1)
    obtain rfl : r_9 = 1 := hrv
    refine lv_istore (lv' := [(7, .int 1), (6, .int 0), (0, .ref b), (1, .ref ya), (2, .ref xm), (3, .ref ou), (4, .ref od), (5, .int 0)]) hx hb dL_law_2297 hl (by decide) rfl (fun ls hl => ?_)
    refine lv_aload_n hx hb dL_law_2299 rfl (lv_at hl 4 rfl) ?_
    have hPc := hP.sub (ws' := [(xm, .inr (20, fs_8))]) [1] rfl
    have hDc := hD.sub (ws' := [(xm, .inr (20, fs_8))]) [1] (by decide) rfl
    have hKc := hK.sub (tys' := []) [] rfl
    have hFc := va_free (wc := [(xm, .inr (20, fs_8))]) hD hS hA [1] rfl
    refine va_calli (va_runV (As := []) (rest := []) ⟨hx, hb, hml, hown, hts⟩ (c_X15_thrown l dC dI xm fs_8 0 ht9 H.size) (cwV 0 hts gL_law_X15_thrown rfl rfl rfl (by decide +kernel) ⟨Nat.le_of_ble_eq_true rfl, Nat.le_of_ble_eq_true rfl⟩) (pcV hPc hDc hKc hN (ci := 20) (q0 := 0) rfl rfl) rfl rfl hl.1 rfl (lv_room (Nat.le_of_ble_eq_true rfl)) dL_law_2300 ⟨Nat.le_of_ble_eq_true rfl, Nat.le_of_ble_eq_true rfl⟩) hS (fun q _ h => hFc q h) hFc (fun r_11 u t H1 locs ht hvm hw_12 hB hz1 hk1 hS => ?_)
    obtain ⟨hP1, hK1, hD1⟩ := hB
    rw [ht] at hP1
    try dsimp only at hw_12
    obtain ⟨hP, hD⟩ := va_join (wr := [(ou, .inl (cL, 1, .inr (.inl of_3)))]) (w1 := []) hP hD [1] [0] rfl rfl (by decide) (by decide) hk1 hFc hP1 hD1
    generalize H1 = H at hP hS ⊢
    have hP : va_P (dC, dI) vwCl [(ou, .inl (cL, 1, .inr (.inl of_3)))] H := hP
    have hD : va_D A [(ou, .inl (cL, 1, .inr (.inl of_3)))] := hD
    obtain rfl : r_11 = 0 := hw_12
    refine lv_iload hx hb dL_law_2303 (lv_at hl 1 rfl) ?_
    refine lv_icmp_eq (tgt := 2310) hx hb dL_law_2305 (by decide) (fun c2305_13 => ?_) (fun c2305_13 => ?_)
    · refine lv_iload hx hb dL_law_2310 (lv_at hl 1 rfl) ?_
      refine lv_if_ne (tgt := 2327) hx hb dL_law_2312 (by decide) (fun c2312_14 => ?_) (fun c2312_14 => ?_)
      · exact (c2312_14 (by decide)).elim
      · refine lv_aload_n hx hb dL_law_2315 rfl (lv_at hl 5 rfl) ?_
        refine lv_iconst (v := 0) hx hb dL_law_2316 (by decide) ?_
        refine va_lald hx hb hK hP 0 1 rfl rfl (show vp_in (nI 0) 1 from vp_in_nI (by decide) (by decide)) dL_law_2317 ?_
        refine lv_topl (fun z_15 ez_15 => ?_)
        obtain rfl : z_15 = (1 : Int32).toInt64 := by rw [ez_15, show (0 : Int32).toNatClampNeg = 0 from by decide]; exact hv0
        refine lv_iload hx hb dL_law_2318 (lv_at hl 0 rfl) ?_
        refine lv_i2l hx hb dL_law_2320 rfl ?_
        refine W.lcmp hx hb dL_law_2321 ?_
        refine lv_if_eq (tgt := 2327) hx hb dL_law_2322 (by decide) (fun c2322_16 => ?_) (fun c2322_16 => ?_)
        · refine lv_goto (tgt := 2778) hx hb dL_law_2327 (by decide) ?_
          refine W.widen (k := 600006) (n := 7302039) (Nat.le_of_ble_eq_true rfl) (Nat.le_of_ble_eq_true rfl) ?_
          exact law_end hx hb hr hml hX hbl hlocks hbA hAo hS (lv_sub hl [2, 7] rfl)
        · exact absurd ((lg_cmp_eq _ _).mpr (by first | rfl | (subst_vars; rfl))) c2322_16
    · exact (c2305_13 (by decide)).elim
  · obtain rfl : r_4 = 1 := hr0
    refine lv_istore (lv' := [(6, .int 1), (0, .ref b), (1, .ref ya), (2, .ref xm), (3, .ref ou), (4, .ref od), (5, .int 0)]) hx hb dL_law_2284 hl (by decide) rfl (fun ls hl => ?_)
    refine lv_aload_n hx hb dL_law_2286 rfl (lv_at hl 3 rfl) ?_
    refine lv_aload_n hx hb dL_law_2287 rfl (lv_at hl 1 rfl) ?_
    refine lv_iload hx hb dL_law_2288 (lv_at hl 6 rfl) ?_
    refine lv_iconst (v := 1) hx hb dL_law_2290 (by decide) ?_
    refine lv_iadd hx hb dL_law_2291 ?_
    refine va_sld hx hb hX hbl hbA hS sx1 dL_law_2292 ?_
    refine lv_topi (fun x_17 ex_17 => ?_)
    obtain rfl : s1 = x_17 := (show x_17 = s1 from ex_17.trans hs1.symm).symm
    refine lv_i2c hx hb dL_law_2293 rfl ?_
    refine lv_topi (fun x_18 ex_18 => ?_)
    obtain rfl : ch1 = x_18 := (show x_18 = ch1 from ex_18.trans hch1.symm).symm
    have hPc := hP.sub (ws' := [(xm, .inr (20, [.int 0, .int 0, .ref kn, .int 0, .int 0, .int 0, .ref ml, .ref cl, .ref rg, .ref tR, .ref (aK 0), .ref (aK 0), .ref fl, .int 0, .int 0, .int 0, .int 0, .int 0, .int 0, .int 0, .null]))]) [0] rfl
    have hDc := hD.sub (ws' := [(xm, .inr (20, [.int 0, .int 0, .ref kn, .int 0, .int 0, .int 0, .ref ml, .ref cl, .ref rg, .ref tR, .ref (aK 0), .ref (aK 0), .ref fl, .int 0, .int 0, .int 0, .int 0, .int 0, .int 0, .int 0, .null]))]) [0] (by decide) rfl
    have hKc := hK.sub (tys' := [(cB, .byte)]) [2] rfl
    have hFc := va_free (wc := [(xm, .inr (20, [.int 0, .int 0, .ref kn, .int 0, .int 0, .int 0, .ref ml, .ref cl, .ref rg, .ref tR, .ref (aK 0), .ref (aK 0), .ref fl, .int 0, .int 0, .int 0, .int 0, .int 0, .int 0, .int 0, .null]))]) hD hS hA [0] rfl
    refine va_calli (va_runV (As := [.int ch1]) (rest := []) ⟨hx, hb, hml, hown, hts⟩ (c_X15_tagStart l dC dI xm ml cl fl kn rg tR e0 aK aV cB ch1 H.size) (cwV 1 hts gL_law_X15_tagStart rfl rfl rfl (by decide +kernel) ⟨Nat.le_of_ble_eq_true rfl, Nat.le_of_ble_eq_true rfl⟩) (pcVz (zM_ok e0 aK aV) hPc hDc hKc hN hZ.2 hS hFc (ci := 20) (q0 := 0) rfl rfl) rfl rfl hl.1 rfl (lv_room (Nat.le_of_ble_eq_true rfl)) dL_law_2294 ⟨Nat.le_of_ble_eq_true rfl, Nat.le_of_ble_eq_true rfl⟩) hS (fun q _ h => hFc q h) hFc (fun r_20 u t H1 locs ht hvm hw_21 hB hz1 hk1 hS => ?_)
    obtain ⟨hP1, hK1, hD1⟩ := hB
    rw [ht] at hP1
    try dsimp only at hw_21
    obtain ⟨hP, hD⟩ := va_join (wr := [(ou, .inl (cL, 1, .inr (.inl of_3)))]) (w1 := [(xm, .inr (20, u))]) hP hD [0] [1] rfl rfl (by decide) (by decide) hk1 hFc hP1 hD1
    generalize H1 = H at hP hS ⊢
    have hP : va_P (dC, dI) vwCl [(ou, .inl (cL, 1, .inr (.inl of_3))), (xm, .inr (20, u))] H := hP
    have hD : va_D A [(ou, .inl (cL, 1, .inr (.inl of_3))), (xm, .inr (20, u))] := hD
    refine W.widen (k := 209) (n := 60056) (Nat.le_of_ble_eq_true rfl) (Nat.le_of_ble_eq_true rfl) ?_
    obtain ⟨fs_19, efs_19⟩ : ∃ z, z = u := ⟨_, rfl⟩
    subst efs_19
    have hP : va_P (dC, dI) vwCl [(ou, .inl (cL, 1, .inr (.inl of_3))), (xm, .inr (20, fs_19))] H := hP
    have hD : va_D A [(ou, .inl (cL, 1, .inr (.inl of_3))), (xm, .inr (20, fs_19))] := hD
    have ht9 := hw_21.elim (fun h => absurd h.1 hPP) (fun h => h.2)
    refine lv_istore (lv' := [(7, .int r_20), (6, .int 1), (0, .ref b), (1, .ref ya), (2, .ref xm), (3, .ref ou), (4, .ref od), (5, .int 0)]) hx hb dL_law_2297 hl (by decide) rfl (fun ls hl => ?_)
    refine lv_aload_n hx hb dL_law_2299 rfl (lv_at hl 4 rfl) ?_
    have hPc := hP.sub (ws' := [(xm, .inr (20, fs_19))]) [1] rfl
    have hDc := hD.sub (ws' := [(xm, .inr (20, fs_19))]) [1] (by decide) rfl
    have hKc := hK.sub (tys' := []) [] rfl
    have hFc := va_free (wc := [(xm, .inr (20, fs_19))]) hD hS hA [1] rfl
    refine va_calli (va_runV (As := []) (rest := []) ⟨hx, hb, hml, hown, hts⟩ (c_X15_thrown l dC dI xm fs_19 1 ht9 H.size) (cwV 0 hts gL_law_X15_thrown rfl rfl rfl (by decide +kernel) ⟨Nat.le_of_ble_eq_true rfl, Nat.le_of_ble_eq_true rfl⟩) (pcV hPc hDc hKc hN (ci := 20) (q0 := 0) rfl rfl) rfl rfl hl.1 rfl (lv_room (Nat.le_of_ble_eq_true rfl)) dL_law_2300 ⟨Nat.le_of_ble_eq_true rfl, Nat.le_of_ble_eq_true rfl⟩) hS (fun q _ h => hFc q h) hFc (fun r_22 u t H1 locs ht hvm hw_23 hB hz1 hk1 hS => ?_)
    obtain ⟨hP1, hK1, hD1⟩ := hB
    rw [ht] at hP1
    try dsimp only at hw_23
    obtain ⟨hP, hD⟩ := va_join (wr := [(ou, .inl (cL, 1, .inr (.inl of_3)))]) (w1 := []) hP hD [1] [0] rfl rfl (by decide) (by decide) hk1 hFc hP1 hD1
    generalize H1 = H at hP hS ⊢
    have hP : va_P (dC, dI) vwCl [(ou, .inl (cL, 1, .inr (.inl of_3)))] H := hP
    have hD : va_D A [(ou, .inl (cL, 1, .inr (.inl of_3)))] := hD
    obtain rfl : r_22 = 1 := hw_23
    refine lv_iload hx hb dL_law_2303 (lv_at hl 1 rfl) ?_
    refine lv_icmp_eq (tgt := 2310) hx hb dL_law_2305 (by decide) (fun c2305_24 => ?_) (fun c2305_24 => ?_)
    · refine lv_iload hx hb dL_law_2310 (lv_at hl 1 rfl) ?_
      refine lv_if_ne (tgt := 2327) hx hb dL_law_2312 (by decide) (fun c2312_25 => ?_) (fun c2312_25 => ?_)
      · refine lv_goto (tgt := 2778) hx hb dL_law_2327 (by decide) ?_
        refine W.widen (k := 600006) (n := 7302039) (Nat.le_of_ble_eq_true rfl) (Nat.le_of_ble_eq_true rfl) ?_
        exact law_end hx hb hr hml hX hbl hlocks hbA hAo hS (lv_sub hl [2, 7] rfl)
      · exact absurd c2312_25 (by decide)
    · exact (c2305_24 (by decide)).elim

set_option maxHeartbeats 8000000 in
set_option maxRecDepth 100000 in
/-- the law: law_31_untag -/
theorem law_31_untag {p : Program} {e : Env} {s : State} {m : MethodId} {below : List Frame} {meth : Method} {c : Code} {l : Launch} {b : Nat} {xs : Nat → Int32} (hx : p.tables.exec = Jvm.exec) (hb : c.code = cL_law) (hr : meth.sig.returnType = ret) (hml : c.maxLocals = 9) (hfl : l.stackTraces = false) (hown : s.vm.findClass RL = some m.cls) (hts : ∀ w ∈ wsL_law, w.before #[Value.ref b] s = true) (hX : va_X b 7 xs s s.heap) (hbl : b < s.heap.size) (hlocks : meth.locks = false) {A : Nat → Prop} (hbA : ¬ A b) (hAo : ∀ q, A q → s.heap.size ≤ q) (hA : ∀ q : Nat, s.heap.size ≤ q → A q) (dC : Nat → ClassId) (dI : Nat → Nat → Nat) (hN : nwA s) (e0 : Nat) (aK aV : Nat → Nat) (hZ : zX A s s.heap ∧ zM e0 aK aV A s s.heap) (ya ms ju rj tj ro rn tn rh th ca sa da xa wb z1 z2 jt z3 br z4 z5 z6 lk z7 z8 li bm l2 z9 bo h2 mm l1 z10 oo h1 ct cr cu cg cp co tg ts tr tk te fw fo fu xm ml cl fl rg tR ou od kn : Nat) (cI cM cS cL cD cB : ClassId) {H : Heap} {locs : List Loc} (hP : va_P (dC, dI) vwCl [(ya, .inr (16, [.ref ms, .int 0, .ref ju, .ref li, .ref ct, .ref tg, .ref fw])), (tg, .inr (14, [.int 0, .int 0, .ref ts, .ref tr, .ref tk, .ref te])), (tk, .inl (cI, 4, .inl (fun _ => 0))), (xm, .inr (20, [.int 0, .int 0, .ref kn, .int 0, .int 0, .int 0, .ref ml, .ref cl, .ref rg, .ref tR, .ref (aK 0), .ref (aK 0), .ref fl, .int 0, .int 0, .int 0, .int 0, .int 0, .int 0, .int 0, .null])), (tR, .inl (cS, 4, .inr (.inr (.inr (.inr (fun _ => some (aK 0)))))))] H) (hD : va_D A [(ya, .inr (16, [.ref ms, .int 0, .ref ju, .ref li, .ref ct, .ref tg, .ref fw])), (tg, .inr (14, [.int 0, .int 0, .ref ts, .ref tr, .ref tk, .ref te])), (tk, .inl (cI, 4, .inl (fun _ => 0))), (xm, .inr (20, [.int 0, .int 0, .ref kn, .int 0, .int 0, .int 0, .ref ml, .ref cl, .ref rg, .ref tR, .ref (aK 0), .ref (aK 0), .ref fl, .int 0, .int 0, .int 0, .int 0, .int 0, .int 0, .int 0, .null])), (tR, .inl (cS, 4, .inr (.inr (.inr (.inr (fun _ => some (aK 0)))))))]) (hK : va_K (dC, dI) vwCl [(cI, .int), (cS, .object "java/lang/String")] s) (hS : va_S A s.heap H locs) {ls : Array Slot} (hl : lv_has ls 9 [(0, .ref b), (1, .ref ya), (2, .ref xm), (3, .ref ou), (4, .ref od), (5, .int 0)]) : W p l e room_1 s m #[Value.ref b] below meth c H locs 200 60000 (lw_Z below #[Value.ref b] s) (F0 m 2330 ls []) := by
  obtain ⟨s1, hs1⟩ : ∃ z, z = xs ((0 : Int32) + 1).toNatClampNeg := ⟨_, rfl⟩
  obtain ⟨s2, hs2⟩ : ∃ z, z = xs ((0 : Int32) + 2).toNatClampNeg := ⟨_, rfl⟩
  obtain ⟨s3, hs3⟩ : ∃ z, z = xs ((0 : Int32) + 3).toNatClampNeg := ⟨_, rfl⟩
  obtain ⟨s4, hs4⟩ : ∃ z, z = xs ((0 : Int32) + 4).toNatClampNeg := ⟨_, rfl⟩
  obtain ⟨s5, hs5⟩ : ∃ z, z = xs ((0 : Int32) + 5).toNatClampNeg := ⟨_, rfl⟩
  obtain ⟨s6, hs6⟩ : ∃ z, z = xs ((0 : Int32) + 6).toNatClampNeg := ⟨_, rfl⟩
  obtain ⟨ch1, hch1⟩ : ∃ z, z = (s1.toUInt32 % 65536).toInt32 := ⟨_, rfl⟩
  obtain ⟨ch2, hch2⟩ : ∃ z, z = (s2.toUInt32 % 65536).toInt32 := ⟨_, rfl⟩
  obtain ⟨ch3, hch3⟩ : ∃ z, z = (s3.toUInt32 % 65536).toInt32 := ⟨_, rfl⟩
  obtain ⟨ch4, hch4⟩ : ∃ z, z = (s4.toUInt32 % 65536).toInt32 := ⟨_, rfl⟩
  obtain ⟨ch5, hch5⟩ : ∃ z, z = (s5.toUInt32 % 65536).toInt32 := ⟨_, rfl⟩
  obtain ⟨ch6, hch6⟩ : ∃ z, z = (s6.toUInt32 % 65536).toInt32 := ⟨_, rfl⟩
  refine lv_aload_n hx hb dL_law_2330 rfl (lv_at hl 1 rfl) ?_
  have hPc := hP.sub (ws' := [(ya, .inr (16, [.ref ms, .int 0, .ref ju, .ref li, .ref ct, .ref tg, .ref fw])), (tg, .inr (14, [.int 0, .int 0, .ref ts, .ref tr, .ref tk, .ref te])), (tk, .inl (cI, 4, .inl (fun _ => 0)))]) [0, 1, 2] rfl
  have hDc := hD.sub (ws' := [(ya, .inr (16, [.ref ms, .int 0, .ref ju, .ref li, .ref ct, .ref tg, .ref fw])), (tg, .inr (14, [.int 0, .int 0, .ref ts, .ref tr, .ref tk, .ref te])), (tk, .inl (cI, 4, .inl (fun _ => 0)))]) [0, 1, 2] (by decide) rfl
  have hKc := hK.sub (tys' := [(cI, .int)]) [0] rfl
  have hFc := va_free (wc := [(ya, .inr (16, [.ref ms, .int 0, .ref ju, .ref li, .ref ct, .ref tg, .ref fw])), (tg, .inr (14, [.int 0, .int 0, .ref ts, .ref tr, .ref tk, .ref te])), (tk, .inl (cI, 4, .inl (fun _ => 0)))]) hD hS hA [0, 1, 2] rfl
  refine vx_calli (vx_runV (As := []) (rest := []) ⟨hx, hb, hml, hown, hts⟩ (c_X11_untag l hfl dC dI cI ya ms ju li ct tg fw ts tr tk te H.size) (cwV 0 hts gL_law_X11_untag rfl rfl rfl (by decide +kernel) ⟨Nat.le_of_ble_eq_true rfl, Nat.le_of_ble_eq_true rfl⟩) (pcVz (zX_ok) hPc hDc hKc hN hZ.1 hS hFc (ci := 16) (q0 := 0) rfl rfl) rfl rfl hl.1 rfl (lv_room (Nat.le_of_ble_eq_true rfl)) dL_law_2331 ⟨Nat.le_of_ble_eq_true rfl, Nat.le_of_ble_eq_true rfl⟩) hS (fun q _ h => hFc q h) hFc (fun q _ h => hFc q h) (fun E9 ce9 q9 u9 t9 H9 locs9 ht9 hvm9 hp9 hE9 hz9 hk9 hS9 hc9 hv9 hcl9 => hE9.elim) (fun r_1 u t H1 locs ht hvm hw_2 hB hz1 hk1 hS => ?_)
  obtain ⟨hP1, hK1, hD1⟩ := hB
  rw [ht] at hP1
  try dsimp only at hw_2
  obtain ⟨hP, hD⟩ := va_join (wr := [(xm, .inr (20, [.int 0, .int 0, .ref kn, .int 0, .int 0, .int 0, .ref ml, .ref cl, .ref rg, .ref tR, .ref (aK 0), .ref (aK 0), .ref fl, .int 0, .int 0, .int 0, .int 0, .int 0, .int 0, .int 0, .null])), (tR, .inl (cS, 4, .inr (.inr (.inr (.inr (fun _ => some (aK 0)))))))]) (w1 := []) hP hD [0, 1, 2] [3, 4] rfl rfl (by decide) (by decide) hk1 hFc hP1 hD1
  generalize H1 = H at hP hS ⊢
  have hP : va_P (dC, dI) vwCl [(xm, .inr (20, [.int 0, .int 0, .ref kn, .int 0, .int 0, .int 0, .ref ml, .ref cl, .ref rg, .ref tR, .ref (aK 0), .ref (aK 0), .ref fl, .int 0, .int 0, .int 0, .int 0, .int 0, .int 0, .int 0, .null])), (tR, .inl (cS, 4, .inr (.inr (.inr (.inr (fun _ => some (aK 0)))))))] H := hP
  have hD : va_D A [(xm, .inr (20, [.int 0, .int 0, .ref kn, .int 0, .int 0, .int 0, .ref ml, .ref cl, .ref rg, .ref tR, .ref (aK 0), .ref (aK 0), .ref fl, .int 0, .int 0, .int 0, .int 0, .int 0, .int 0, .int 0, .null])), (tR, .inl (cS, 4, .inr (.inr (.inr (.inr (fun _ => some (aK 0)))))))] := hD
  obtain rfl : r_1 = 0 := hw_2
  refine lv_aload_n hx hb dL_law_2334 rfl (lv_at hl 2 rfl) ?_
  have hPc := hP.sub (ws' := [(xm, .inr (20, [.int 0, .int 0, .ref kn, .int 0, .int 0, .int 0, .ref ml, .ref cl, .ref rg, .ref tR, .ref (aK 0), .ref (aK 0), .ref fl, .int 0, .int 0, .int 0, .int 0, .int 0, .int 0, .int 0, .null])), (tR, .inl (cS, 4, .inr (.inr (.inr (.inr (fun _ => some (aK 0)))))))]) [0, 1] rfl
  have hDc := hD.sub (ws' := [(xm, .inr (20, [.int 0, .int 0, .ref kn, .int 0, .int 0, .int 0, .ref ml, .ref cl, .ref rg, .ref tR, .ref (aK 0), .ref (aK 0), .ref fl, .int 0, .int 0, .int 0, .int 0, .int 0, .int 0, .int 0, .null])), (tR, .inl (cS, 4, .inr (.inr (.inr (.inr (fun _ => some (aK 0)))))))]) [0, 1] (by decide) rfl
  have hKc := hK.sub (tys' := [(cS, .object "java/lang/String")]) [1] rfl
  have hFc := va_free (wc := [(xm, .inr (20, [.int 0, .int 0, .ref kn, .int 0, .int 0, .int 0, .ref ml, .ref cl, .ref rg, .ref tR, .ref (aK 0), .ref (aK 0), .ref fl, .int 0, .int 0, .int 0, .int 0, .int 0, .int 0, .int 0, .null])), (tR, .inl (cS, 4, .inr (.inr (.inr (.inr (fun _ => some (aK 0)))))))]) hD hS hA [0, 1] rfl
  refine va_calli (va_runV (As := []) (rest := [.int 0]) ⟨hx, hb, hml, hown, hts⟩ (c_X15_untag l dC dI xm ml cl fl kn rg tR e0 aK aV cS H.size) (cwV 0 hts gL_law_X15_untag rfl rfl rfl (by decide +kernel) ⟨Nat.le_of_ble_eq_true rfl, Nat.le_of_ble_eq_true rfl⟩) (pcVz (zM_ok e0 aK aV) hPc hDc hKc hN hZ.2 hS hFc (ci := 20) (q0 := 0) rfl rfl) rfl rfl hl.1 rfl (lv_room (Nat.le_of_ble_eq_true rfl)) dL_law_2335 ⟨Nat.le_of_ble_eq_true rfl, Nat.le_of_ble_eq_true rfl⟩) hS (fun q _ h => hFc q h) hFc (fun r_4 u t H1 locs ht hvm hw_5 hB hz1 hk1 hS => ?_)
  obtain ⟨hP1, hK1, hD1⟩ := hB
  rw [ht] at hP1
  try dsimp only at hw_5
  obtain ⟨hP, hD⟩ := va_join (wr := []) (w1 := [(xm, .inr (20, u))]) hP hD [0, 1] [] rfl rfl (by decide) (by decide) hk1 hFc hP1 hD1
  generalize H1 = H at hP hS ⊢
  have hP : va_P (dC, dI) vwCl [(xm, .inr (20, u))] H := hP
  have hD : va_D A [(xm, .inr (20, u))] := hD
  obtain ⟨fs_3, efs_3⟩ : ∃ z, z = u := ⟨_, rfl⟩
  subst efs_3
  have hP : va_P (dC, dI) vwCl [(xm, .inr (20, fs_3))] H := hP
  have hD : va_D A [(xm, .inr (20, fs_3))] := hD
  obtain rfl : r_4 = 0 := hw_5.2
  refine lv_icmp_eq (tgt := 2778) hx hb dL_law_2338 (by decide) (fun c2338_6 => ?_) (fun c2338_6 => ?_)
  · refine W.widen (k := 600006) (n := 7302039) (Nat.le_of_ble_eq_true rfl) (Nat.le_of_ble_eq_true rfl) ?_
    exact law_end hx hb hr hml hX hbl hlocks hbA hAo hS (lv_sub hl [0, 5] rfl)
  · exact (c2338_6 (by decide)).elim
