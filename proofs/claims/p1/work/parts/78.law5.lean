theorem dL_law_2343 : decode cL_law 2343 = .ok (.aload_n 1, 1) := by decide +kernel
theorem dL_law_2344 : decode cL_law 2344 = .ok (.aload_n 0, 1) := by decide +kernel
theorem dL_law_2345 : decode cL_law 2345 = .ok (.iload 5, 2) := by decide +kernel
theorem dL_law_2347 : decode cL_law 2347 = .ok (.iconst 1, 1) := by decide +kernel
theorem dL_law_2348 : decode cL_law 2348 = .ok (.iadd, 1) := by decide +kernel
theorem dL_law_2349 : decode cL_law 2349 = .ok (.iaload, 1) := by decide +kernel
theorem dL_law_2350 : decode cL_law 2350 = .ok (.aload_n 0, 1) := by decide +kernel
theorem dL_law_2351 : decode cL_law 2351 = .ok (.iload 5, 2) := by decide +kernel
theorem dL_law_2353 : decode cL_law 2353 = .ok (.iconst 2, 1) := by decide +kernel
theorem dL_law_2354 : decode cL_law 2354 = .ok (.iadd, 1) := by decide +kernel
theorem dL_law_2355 : decode cL_law 2355 = .ok (.iaload, 1) := by decide +kernel
theorem dL_law_2356 : decode cL_law 2356 = .ok (.aload_n 3, 1) := by decide +kernel
set_option maxRecDepth 20000 in
theorem ggL_law_L_tag : GoodIn wsL_law wsL_tag := goodIn_ca (goodIn_ca (gi_two _ [(67, 13), (8, 16), (67, 14), (67, 15), (67, 16), (0, 2), (67, 17), (1, 9), (8, 22), (8, 23), (9, 0), (9, 1), (9, 2), (9, 3), (9, 4), (9, 5), (67, 18), (67, 19), (67, 20), (1, 8), (67, 21), (6, 14), (6, 15), (6, 16), (6, 19), (67, 22), (13, 2), (13, 3), (13, 4), (67, 23), (68, 0), (68, 1), (68, 2), (6, 18), (6, 17), (30, 8), (30, 9), (14, 16), (14, 17), (77, 0), (77, 1), (77, 2), (77, 3), (77, 4), (77, 5), (77, 6), (82, 0), (82, 1), (82, 2), (82, 3), (82, 4), (82, 5)] rfl (by decide +kernel)) (goodIn_sub (fun _ h => List.mem_append_left _ (List.mem_append_left _ (List.mem_append_left _ (List.mem_append_left _ (List.mem_append_left _ (List.mem_append_left _ (List.mem_append_left _ (List.mem_append_right _ h)))))))) (by decide +kernel))) (goodIn_sub (fun _ h => List.mem_append_left _ (List.mem_append_left _ (List.mem_append_left _ (List.mem_append_left _ (List.mem_append_left _ (List.mem_append_left _ (List.mem_append_right _ h))))))) (by decide +kernel))
set_option maxRecDepth 20000 in
theorem gL_law_L_tag : GoodIn wsL_law (va_wsS RL 263 yL_tag wsL_tag) := goodIn_app (goodIn_of _ (by decide +kernel)) ggL_law_L_tag
theorem dL_law_2357 : decode cL_law 2357 = .ok (.invokestatic 263, 3) := by decide +kernel
theorem dL_law_2360 : decode cL_law 2360 = .ok (.istore 6, 2) := by decide +kernel
theorem dL_law_2362 : decode cL_law 2362 = .ok (.aload_n 2, 1) := by decide +kernel
theorem dL_law_2363 : decode cL_law 2363 = .ok (.aload_n 0, 1) := by decide +kernel
theorem dL_law_2364 : decode cL_law 2364 = .ok (.iload 5, 2) := by decide +kernel
theorem dL_law_2366 : decode cL_law 2366 = .ok (.iconst 1, 1) := by decide +kernel
theorem dL_law_2367 : decode cL_law 2367 = .ok (.iadd, 1) := by decide +kernel
theorem dL_law_2368 : decode cL_law 2368 = .ok (.iaload, 1) := by decide +kernel
theorem dL_law_2369 : decode cL_law 2369 = .ok (.aload_n 0, 1) := by decide +kernel
theorem dL_law_2370 : decode cL_law 2370 = .ok (.iload 5, 2) := by decide +kernel
theorem dL_law_2372 : decode cL_law 2372 = .ok (.iconst 2, 1) := by decide +kernel
theorem dL_law_2373 : decode cL_law 2373 = .ok (.iadd, 1) := by decide +kernel
theorem dL_law_2374 : decode cL_law 2374 = .ok (.iaload, 1) := by decide +kernel
def q_ggL_law_X15_tag : List Cond := .code yX15_tag cX15_tag 7 (some .int) :: ((wsX15_tag_r1 ++ (wsX15_tag_r2 ++ (wsX15_tag_r3 ++ (wsX15_tag_r4 ++ (wsX15_tag_r5 ++ (wsX15_tag_r6 ++ (wsX15_tag_r7 ++ (wsX15_tag_r8 ++ (wsX15_tag_r9 ++ (wsX15_tag_r10 ++ wsX15_tag_r11)))))))))) ++ wsX150 ++ wsJ40 ++ wsJ00)
theorem q0_ggL_law_X15_tag : GoodIn wsL_law ((q_ggL_law_X15_tag.drop 0).take 24) := gi_two _ [(68, 6), (9, 22), (52, 14), (68, 7), (10, 0), (58, 20), (58, 21), (58, 22), (7, 18), (7, 17), (7, 19), (10, 4), (10, 5), (0, 5), (10, 6), (68, 8), (68, 9), (68, 10), (68, 11), (68, 12), (59, 5), (68, 13), (59, 7), (0, 13)] rfl (by decide +kernel)
theorem q1_ggL_law_X15_tag : GoodIn wsL_law ((q_ggL_law_X15_tag.drop 24).take 24) := gi_two _ [(0, 14), (68, 14), (60, 20), (59, 11), (59, 9), (59, 10), (61, 18), (24, 13), (24, 14), (23, 23), (24, 15), (24, 5), (24, 16), (24, 17), (24, 18), (24, 19), (24, 10), (24, 11), (62, 5), (59, 12), (59, 13), (25, 10), (59, 14), (59, 15)] rfl (by decide +kernel)
theorem q2_ggL_law_X15_tag : GoodIn wsL_law ((q_ggL_law_X15_tag.drop 48).take 24) := gi_two _ [(59, 16), (59, 17), (59, 18), (68, 15), (60, 0), (68, 16), (68, 17), (68, 18), (68, 19), (68, 20), (59, 20), (59, 21), (59, 22), (59, 23), (60, 1), (60, 2), (60, 3), (60, 4), (60, 5), (60, 6), (60, 7), (60, 8), (60, 9), (60, 10)] rfl (by decide +kernel)
theorem q3_ggL_law_X15_tag : GoodIn wsL_law ((q_ggL_law_X15_tag.drop 72).take 24) := gi_two _ [(60, 11), (60, 12), (60, 13), (60, 14), (60, 15), (60, 16), (60, 17), (60, 18), (60, 19), (60, 21), (12, 1), (12, 2), (12, 3), (12, 4), (11, 20), (11, 21), (11, 22), (12, 5), (12, 6), (12, 7), (12, 8), (60, 22), (60, 23), (12, 11)] rfl (by decide +kernel)
theorem q4_ggL_law_X15_tag : GoodIn wsL_law ((q_ggL_law_X15_tag.drop 96).take 24) := gi_two _ [(61, 0), (61, 1), (61, 2), (61, 3), (61, 4), (61, 5), (61, 6), (12, 22), (12, 23), (13, 0), (13, 1), (13, 2), (13, 3), (13, 4), (61, 7), (61, 8), (61, 9), (61, 10), (61, 11), (59, 8), (61, 12), (61, 13), (61, 14), (26, 13)] rfl (by decide +kernel)
theorem q5_ggL_law_X15_tag : GoodIn wsL_law ((q_ggL_law_X15_tag.drop 120).take 24) := gi_two _ [(25, 18), (25, 19), (25, 20), (25, 21), (25, 22), (25, 23), (26, 0), (26, 1), (26, 2), (26, 3), (26, 4), (26, 5), (15, 17), (26, 6), (61, 15), (61, 16), (61, 17), (26, 14), (26, 15), (61, 19), (61, 20), (61, 21), (61, 22), (61, 23)] rfl (by decide +kernel)
theorem q6_ggL_law_X15_tag : GoodIn wsL_law ((q_ggL_law_X15_tag.drop 144).take 24) := gi_two _ [(62, 0), (62, 1), (62, 2), (62, 3), (62, 4), (62, 6), (62, 7), (62, 8), (62, 9), (62, 10), (62, 11), (62, 12), (24, 22), (62, 13), (62, 14), (62, 15), (62, 16), (62, 17), (62, 18), (62, 19), (62, 20), (62, 21), (62, 22), (62, 23)] rfl (by decide +kernel)
theorem q7_ggL_law_X15_tag : GoodIn wsL_law ((q_ggL_law_X15_tag.drop 168).take 24) := gi_two _ [(63, 0), (63, 1), (63, 2), (63, 3), (63, 4), (63, 5), (63, 6), (63, 7), (68, 21), (65, 4), (68, 22), (65, 5), (65, 6), (65, 1), (65, 7), (65, 8), (68, 23), (69, 0), (69, 1), (69, 2), (69, 3), (69, 4), (69, 5), (69, 6)] rfl (by decide +kernel)
theorem q8_ggL_law_X15_tag : GoodIn wsL_law ((q_ggL_law_X15_tag.drop 192).take 24) := gi_two _ [(69, 7), (69, 8), (64, 2), (64, 3), (64, 4), (15, 16), (15, 18), (69, 9), (26, 11), (26, 12), (58, 23), (69, 10), (69, 11), (69, 12), (69, 13), (69, 14), (69, 15), (69, 16), (69, 17), (69, 18), (69, 19), (69, 20), (69, 21), (69, 22)] rfl (by decide +kernel)
theorem q9_ggL_law_X15_tag : GoodIn wsL_law ((q_ggL_law_X15_tag.drop 216).take 24) := gi_two _ [(69, 23), (70, 0), (70, 1), (70, 2), (59, 19), (64, 5), (64, 6), (64, 7), (64, 8), (64, 9), (64, 10), (64, 11), (64, 12), (64, 13), (64, 14), (64, 15), (64, 16), (64, 17), (64, 18), (64, 19), (64, 20), (64, 21), (64, 22), (64, 23)] rfl (by decide +kernel)
theorem q10_ggL_law_X15_tag : GoodIn wsL_law ((q_ggL_law_X15_tag.drop 240).take 24) := gi_two _ [(65, 0), (65, 2), (65, 3), (65, 9), (65, 10), (65, 11), (65, 12), (65, 13), (65, 14), (65, 15), (65, 16), (65, 17), (65, 18), (65, 19), (65, 20), (65, 21), (65, 22), (65, 23), (66, 0), (66, 1), (26, 10), (66, 2), (66, 3), (66, 4)] rfl (by decide +kernel)
theorem q11_ggL_law_X15_tag : GoodIn wsL_law ((q_ggL_law_X15_tag.drop 264).take 24) := gi_two _ [(66, 5), (78, 0), (78, 1), (78, 2), (78, 3), (78, 4), (78, 5), (78, 6), (78, 7), (78, 8), (78, 9), (78, 10), (78, 11), (78, 12), (78, 13), (78, 14), (78, 15), (78, 16), (78, 17), (78, 18), (78, 19), (78, 20), (96, 0), (96, 1)] rfl (by decide +kernel)
theorem q12_ggL_law_X15_tag : GoodIn wsL_law ((q_ggL_law_X15_tag.drop 288).take 24) := gi_two _ [(96, 2), (96, 3), (93, 0), (93, 1), (93, 2), (93, 3)] rfl (by decide +kernel)
theorem qe_ggL_law_X15_tag : GoodIn wsL_law (q_ggL_law_X15_tag.drop 312) := gi_two _ [] rfl (by decide +kernel)
theorem qa_ggL_law_X15_tag : GoodIn wsL_law (q_ggL_law_X15_tag) := (gi_step 0 24 q0_ggL_law_X15_tag (gi_step 24 24 q1_ggL_law_X15_tag (gi_step 48 24 q2_ggL_law_X15_tag (gi_step 72 24 q3_ggL_law_X15_tag (gi_step 96 24 q4_ggL_law_X15_tag (gi_step 120 24 q5_ggL_law_X15_tag (gi_step 144 24 q6_ggL_law_X15_tag (gi_step 168 24 q7_ggL_law_X15_tag (gi_step 192 24 q8_ggL_law_X15_tag (gi_step 216 24 q9_ggL_law_X15_tag (gi_step 240 24 q10_ggL_law_X15_tag (gi_step 264 24 q11_ggL_law_X15_tag (gi_step 288 24 q12_ggL_law_X15_tag qe_ggL_law_X15_tag)))))))))))))
set_option maxRecDepth 20000 in
theorem ggL_law_X15_tag : GoodIn wsL_law wsX15_tag := qa_ggL_law_X15_tag
set_option maxRecDepth 20000 in
theorem gL_law_X15_tag : GoodIn wsL_law (wsV RL 265 RX15 yX15_tag wsX15_tag) := goodIn_app (goodIn_of _ (by decide +kernel)) ggL_law_X15_tag
theorem dL_law_2375 : decode cL_law 2375 = .ok (.invokevirtual 265, 3) := by decide +kernel
theorem dL_law_2378 : decode cL_law 2378 = .ok (.istore 7, 2) := by decide +kernel
theorem dL_law_2380 : decode cL_law 2380 = .ok (.aload_n 2, 1) := by decide +kernel
theorem dL_law_2381 : decode cL_law 2381 = .ok (.invokevirtual 152, 3) := by decide +kernel
theorem dL_law_2384 : decode cL_law 2384 = .ok (.iload 6, 2) := by decide +kernel
theorem dL_law_2386 : decode cL_law 2386 = .ok (.if_icmp .eq 5, 3) := by decide +kernel
theorem dL_law_2391 : decode cL_law 2391 = .ok (.iload 6, 2) := by decide +kernel
theorem dL_law_2393 : decode cL_law 2393 = .ok (.ifCond .ne 15, 3) := by decide +kernel
theorem dL_law_2396 : decode cL_law 2396 = .ok (.aload_n 3, 1) := by decide +kernel
theorem dL_law_2397 : decode cL_law 2397 = .ok (.iconst 0, 1) := by decide +kernel
theorem dL_law_2398 : decode cL_law 2398 = .ok (.laload, 1) := by decide +kernel
theorem dL_law_2399 : decode cL_law 2399 = .ok (.iload 7, 2) := by decide +kernel
theorem dL_law_2401 : decode cL_law 2401 = .ok (.i2l, 1) := by decide +kernel
theorem dL_law_2402 : decode cL_law 2402 = .ok (.lcmp, 1) := by decide +kernel
theorem dL_law_2403 : decode cL_law 2403 = .ok (.ifCond .eq 5, 3) := by decide +kernel
theorem dL_law_2408 : decode cL_law 2408 = .ok (.goto 370, 3) := by decide +kernel
theorem dL_law_2411 : decode cL_law 2411 = .ok (.aload_n 1, 1) := by decide +kernel
set_option maxRecDepth 20000 in
theorem ggL_law_X11_tagLength : GoodIn wsL_law wsX11_tagLength := gi_two _ [(70, 6), (1, 9), (70, 7), (77, 0), (77, 1), (77, 2), (77, 3), (77, 4), (77, 5), (77, 6), (82, 0), (82, 1), (82, 2), (82, 3), (82, 4), (82, 5)] rfl (by decide +kernel)
set_option maxRecDepth 20000 in
theorem gL_law_X11_tagLength : GoodIn wsL_law (wsV RL 266 RX11 yX11_tagLength wsX11_tagLength) := goodIn_app (goodIn_of _ (by decide +kernel)) ggL_law_X11_tagLength
theorem dL_law_2412 : decode cL_law 2412 = .ok (.invokevirtual 266, 3) := by decide +kernel
theorem dL_law_2415 : decode cL_law 2415 = .ok (.aload_n 2, 1) := by decide +kernel
set_option maxRecDepth 20000 in
theorem ggL_law_X15_tagLength : GoodIn wsL_law wsX15_tagLength := gi_two _ [(70, 11), (10, 0), (7, 19), (58, 23), (24, 13), (24, 14), (23, 23), (24, 15), (24, 5), (24, 16), (24, 17), (24, 18), (24, 19), (24, 10), (24, 11), (78, 0), (78, 1), (78, 2), (78, 3), (78, 4), (78, 5), (78, 6), (78, 7), (78, 8), (78, 9), (78, 10), (78, 11), (78, 12), (78, 13), (78, 14), (78, 15), (78, 16), (78, 17), (78, 18), (78, 19), (78, 20), (93, 0), (93, 1), (93, 2), (93, 3)] rfl (by decide +kernel)
set_option maxRecDepth 20000 in
theorem gL_law_X15_tagLength : GoodIn wsL_law (wsV RL 269 RX15 yX15_tagLength wsX15_tagLength) := goodIn_app (goodIn_of _ (by decide +kernel)) ggL_law_X15_tagLength
theorem dL_law_2416 : decode cL_law 2416 = .ok (.invokevirtual 269, 3) := by decide +kernel
theorem dL_law_2419 : decode cL_law 2419 = .ok (.if_icmp .eq 359, 3) := by decide +kernel
theorem dL_law_2424 : decode cL_law 2424 = .ok (.aload_n 1, 1) := by decide +kernel
theorem dL_law_2425 : decode cL_law 2425 = .ok (.aload_n 0, 1) := by decide +kernel
theorem dL_law_2426 : decode cL_law 2426 = .ok (.iload 5, 2) := by decide +kernel
theorem dL_law_2428 : decode cL_law 2428 = .ok (.iconst 1, 1) := by decide +kernel
theorem dL_law_2429 : decode cL_law 2429 = .ok (.iadd, 1) := by decide +kernel
theorem dL_law_2430 : decode cL_law 2430 = .ok (.iaload, 1) := by decide +kernel
theorem dL_law_2431 : decode cL_law 2431 = .ok (.aload_n 3, 1) := by decide +kernel
set_option maxRecDepth 20000 in
theorem ggL_law_L_tagLetter : GoodIn wsL_law wsL_tagLetter := goodIn_ca (goodIn_ca (gi_two _ [(70, 14), (16, 20), (70, 15), (70, 16), (70, 17), (0, 2), (70, 18), (1, 9), (70, 7), (9, 3), (9, 4), (9, 5), (17, 2), (17, 3), (17, 4), (17, 5), (17, 6), (70, 19), (70, 20), (70, 21), (1, 8), (70, 22), (6, 19), (30, 8), (30, 9), (77, 0), (77, 1), (77, 2), (77, 3), (77, 4), (77, 5), (77, 6), (82, 0), (82, 1), (82, 2), (82, 3), (82, 4), (82, 5)] rfl (by decide +kernel)) (goodIn_sub (fun _ h => List.mem_append_left _ (List.mem_append_left _ (List.mem_append_left _ (List.mem_append_left _ (List.mem_append_left _ (List.mem_append_left _ (List.mem_append_left _ (List.mem_append_right _ h)))))))) (by decide +kernel))) (goodIn_sub (fun _ h => List.mem_append_left _ (List.mem_append_left _ (List.mem_append_left _ (List.mem_append_right _ h)))) (by decide +kernel))
set_option maxRecDepth 20000 in
theorem gL_law_L_tagLetter : GoodIn wsL_law (va_wsS RL 270 yL_tagLetter wsL_tagLetter) := goodIn_app (goodIn_of _ (by decide +kernel)) ggL_law_L_tagLetter
theorem dL_law_2432 : decode cL_law 2432 = .ok (.invokestatic 270, 3) := by decide +kernel
theorem dL_law_2435 : decode cL_law 2435 = .ok (.istore 6, 2) := by decide +kernel
theorem dL_law_2437 : decode cL_law 2437 = .ok (.aload_n 2, 1) := by decide +kernel
theorem dL_law_2438 : decode cL_law 2438 = .ok (.aload_n 0, 1) := by decide +kernel
theorem dL_law_2439 : decode cL_law 2439 = .ok (.iload 5, 2) := by decide +kernel
theorem dL_law_2441 : decode cL_law 2441 = .ok (.iconst 1, 1) := by decide +kernel
theorem dL_law_2442 : decode cL_law 2442 = .ok (.iadd, 1) := by decide +kernel
theorem dL_law_2443 : decode cL_law 2443 = .ok (.iaload, 1) := by decide +kernel
set_option maxRecDepth 20000 in
theorem ggL_law_X15_tagLetter : GoodIn wsL_law wsX15_tagLetter := gi_two _ [(71, 2), (7, 19), (10, 0), (58, 23), (24, 13), (24, 14), (23, 23), (24, 15), (24, 5), (24, 16), (24, 17), (24, 18), (24, 19), (24, 10), (24, 11), (10, 4), (10, 5), (0, 5), (10, 6), (71, 3), (71, 4), (71, 5), (71, 6), (24, 6), (24, 7), (24, 8), (24, 9), (71, 7), (71, 8), (24, 22), (71, 9), (71, 10), (64, 2), (64, 3), (26, 3), (64, 4), (15, 16), (15, 17), (15, 18), (71, 11), (71, 12), (25, 10), (71, 13), (63, 22), (63, 23), (64, 0), (25, 21), (25, 22), (25, 23), (64, 1), (26, 10), (26, 11), (26, 12), (26, 13), (26, 14), (26, 15), (78, 0), (78, 1), (78, 2), (78, 3), (78, 4), (78, 5), (78, 6), (78, 7), (78, 8), (78, 9), (78, 10), (78, 11), (78, 12), (78, 13), (78, 14), (78, 15), (78, 16), (78, 17), (78, 18), (78, 19), (78, 20), (93, 0), (93, 1), (93, 2), (93, 3)] rfl (by decide +kernel)
set_option maxRecDepth 20000 in
theorem gL_law_X15_tagLetter : GoodIn wsL_law (wsV RL 272 RX15 yX15_tagLetter wsX15_tagLetter) := goodIn_app (goodIn_of _ (by decide +kernel)) ggL_law_X15_tagLetter
theorem dL_law_2444 : decode cL_law 2444 = .ok (.invokevirtual 272, 3) := by decide +kernel
theorem dL_law_2447 : decode cL_law 2447 = .ok (.istore 7, 2) := by decide +kernel
theorem dL_law_2449 : decode cL_law 2449 = .ok (.aload_n 2, 1) := by decide +kernel
theorem dL_law_2450 : decode cL_law 2450 = .ok (.invokevirtual 152, 3) := by decide +kernel
theorem dL_law_2453 : decode cL_law 2453 = .ok (.iload 6, 2) := by decide +kernel
theorem dL_law_2455 : decode cL_law 2455 = .ok (.if_icmp .eq 5, 3) := by decide +kernel
theorem dL_law_2460 : decode cL_law 2460 = .ok (.iload 6, 2) := by decide +kernel
theorem dL_law_2462 : decode cL_law 2462 = .ok (.ifCond .ne 15, 3) := by decide +kernel
theorem dL_law_2477 : decode cL_law 2477 = .ok (.goto 301, 3) := by decide +kernel
theorem dL_law_2480 : decode cL_law 2480 = .ok (.aload_n 1, 1) := by decide +kernel
theorem dL_law_2481 : decode cL_law 2481 = .ok (.aload_n 0, 1) := by decide +kernel
theorem dL_law_2482 : decode cL_law 2482 = .ok (.iload 5, 2) := by decide +kernel
theorem dL_law_2484 : decode cL_law 2484 = .ok (.iconst 1, 1) := by decide +kernel
theorem dL_law_2485 : decode cL_law 2485 = .ok (.iadd, 1) := by decide +kernel
theorem dL_law_2486 : decode cL_law 2486 = .ok (.iaload, 1) := by decide +kernel
theorem dL_law_2487 : decode cL_law 2487 = .ok (.aload_n 0, 1) := by decide +kernel
theorem dL_law_2488 : decode cL_law 2488 = .ok (.iload 5, 2) := by decide +kernel
theorem dL_law_2490 : decode cL_law 2490 = .ok (.iconst 2, 1) := by decide +kernel
theorem dL_law_2491 : decode cL_law 2491 = .ok (.iadd, 1) := by decide +kernel
theorem dL_law_2492 : decode cL_law 2492 = .ok (.iaload, 1) := by decide +kernel
theorem dL_law_2493 : decode cL_law 2493 = .ok (.aload_n 3, 1) := by decide +kernel
set_option maxRecDepth 20000 in
theorem ggL_law_L_fraction : GoodIn wsL_law wsL_fraction := goodIn_ca (goodIn_ca (goodIn_ca (goodIn_ca (gi_two _ [(71, 16), (8, 16), (8, 17), (71, 17), (71, 18), (71, 19), (0, 2), (71, 20), (9, 10), (9, 11), (1, 13), (71, 21), (9, 3), (9, 4), (9, 5), (8, 22), (8, 23), (9, 0), (9, 1), (9, 2), (71, 22), (71, 23), (72, 0), (1, 12), (72, 1), (6, 23), (7, 3), (7, 4), (72, 2), (72, 3), (72, 4), (14, 16), (14, 17), (77, 0), (77, 1), (77, 2), (77, 3), (77, 4), (77, 5), (77, 6), (83, 0), (83, 1), (83, 2), (83, 3), (83, 4), (83, 5)] rfl (by decide +kernel)) (goodIn_sub (fun _ h => List.mem_append_left _ (List.mem_append_left _ (List.mem_append_left _ (List.mem_append_left _ (List.mem_append_left _ (List.mem_append_left _ (List.mem_append_left _ (List.mem_append_right _ h)))))))) (by decide +kernel))) (goodIn_sub (fun _ h => List.mem_append_left _ (List.mem_append_left _ (List.mem_append_left _ (List.mem_append_left _ (List.mem_append_left _ (List.mem_append_right _ h)))))) (by decide +kernel))) (goodIn_sub (fun _ h => List.mem_append_left _ (List.mem_append_left _ (List.mem_append_left _ (List.mem_append_left _ (List.mem_append_left _ (List.mem_append_left _ (List.mem_append_right _ h))))))) (by decide +kernel))) (goodIn_sub (fun _ h => List.mem_append_left _ (List.mem_append_right _ h)) (by decide +kernel))
set_option maxRecDepth 20000 in
theorem gL_law_L_fraction : GoodIn wsL_law (va_wsS RL 273 yL_fraction wsL_fraction) := goodIn_app (goodIn_of _ (by decide +kernel)) ggL_law_L_fraction
theorem dL_law_2494 : decode cL_law 2494 = .ok (.invokestatic 273, 3) := by decide +kernel
theorem dL_law_2497 : decode cL_law 2497 = .ok (.istore 6, 2) := by decide +kernel
theorem dL_law_2499 : decode cL_law 2499 = .ok (.aload_n 2, 1) := by decide +kernel
theorem dL_law_2500 : decode cL_law 2500 = .ok (.aload_n 0, 1) := by decide +kernel
theorem dL_law_2501 : decode cL_law 2501 = .ok (.iload 5, 2) := by decide +kernel
theorem dL_law_2503 : decode cL_law 2503 = .ok (.iconst 1, 1) := by decide +kernel
theorem dL_law_2504 : decode cL_law 2504 = .ok (.iadd, 1) := by decide +kernel
theorem dL_law_2505 : decode cL_law 2505 = .ok (.iaload, 1) := by decide +kernel
theorem dL_law_2506 : decode cL_law 2506 = .ok (.aload_n 0, 1) := by decide +kernel
theorem dL_law_2507 : decode cL_law 2507 = .ok (.iload 5, 2) := by decide +kernel
theorem dL_law_2509 : decode cL_law 2509 = .ok (.iconst 2, 1) := by decide +kernel
theorem dL_law_2510 : decode cL_law 2510 = .ok (.iadd, 1) := by decide +kernel
theorem dL_law_2511 : decode cL_law 2511 = .ok (.iaload, 1) := by decide +kernel
set_option maxRecDepth 20000 in
theorem ggL_law_X15_fraction : GoodIn wsL_law wsX15_fraction := goodIn_ca (gi_two _ [(72, 8), (72, 9), (7, 20), (10, 0), (2, 23), (10, 4), (10, 5), (0, 5), (10, 6), (10, 7), (10, 8), (10, 9), (7, 12), (10, 10), (10, 11), (11, 1), (11, 2), (11, 3), (11, 4), (11, 5), (11, 6), (8, 1), (11, 7), (11, 8), (11, 9), (11, 10), (11, 11), (11, 12), (11, 13), (11, 14), (11, 15), (11, 16), (11, 17), (11, 18), (8, 0), (11, 19), (11, 20), (11, 21), (11, 22), (11, 23), (12, 0), (12, 1), (12, 2), (12, 3), (12, 4), (12, 5), (12, 6), (12, 7), (12, 8), (12, 9), (12, 10), (12, 11), (12, 12), (12, 13), (12, 14), (12, 15), (12, 16), (12, 17), (12, 18), (12, 19), (12, 20), (12, 21), (12, 22), (12, 23), (13, 0), (13, 1), (13, 2), (13, 3), (13, 4), (78, 0), (78, 1), (78, 2), (78, 3), (78, 4), (78, 5), (78, 6), (78, 7), (78, 8), (78, 9), (78, 10), (78, 11), (78, 12), (78, 13), (78, 14), (78, 15), (78, 16), (78, 17), (78, 18), (78, 19), (78, 20), (90, 0), (90, 1), (90, 2)] rfl (by decide +kernel)) (goodIn_sub (fun _ h => List.mem_append_left _ (List.mem_append_left _ (List.mem_append_left _ (List.mem_append_left _ (List.mem_append_left _ (List.mem_append_left _ (List.mem_append_left _ (List.mem_append_right _ h)))))))) (by decide +kernel))
set_option maxRecDepth 20000 in
theorem gL_law_X15_fraction : GoodIn wsL_law (wsV RL 275 RX15 yX15_fraction wsX15_fraction) := goodIn_app (goodIn_of _ (by decide +kernel)) ggL_law_X15_fraction
theorem dL_law_2512 : decode cL_law 2512 = .ok (.invokevirtual 275, 3) := by decide +kernel
theorem dL_law_2515 : decode cL_law 2515 = .ok (.istore 7, 2) := by decide +kernel
theorem dL_law_2517 : decode cL_law 2517 = .ok (.aload_n 2, 1) := by decide +kernel
theorem dL_law_2518 : decode cL_law 2518 = .ok (.invokevirtual 152, 3) := by decide +kernel
theorem dL_law_2521 : decode cL_law 2521 = .ok (.iload 6, 2) := by decide +kernel
theorem dL_law_2523 : decode cL_law 2523 = .ok (.if_icmp .eq 5, 3) := by decide +kernel
theorem dL_law_2528 : decode cL_law 2528 = .ok (.iload 6, 2) := by decide +kernel
theorem dL_law_2530 : decode cL_law 2530 = .ok (.ifCond .ne 15, 3) := by decide +kernel
theorem dL_law_2533 : decode cL_law 2533 = .ok (.aload_n 3, 1) := by decide +kernel
theorem dL_law_2534 : decode cL_law 2534 = .ok (.iconst 0, 1) := by decide +kernel
theorem dL_law_2535 : decode cL_law 2535 = .ok (.laload, 1) := by decide +kernel
theorem dL_law_2536 : decode cL_law 2536 = .ok (.iload 7, 2) := by decide +kernel
theorem dL_law_2538 : decode cL_law 2538 = .ok (.i2l, 1) := by decide +kernel
theorem dL_law_2539 : decode cL_law 2539 = .ok (.lcmp, 1) := by decide +kernel
theorem dL_law_2540 : decode cL_law 2540 = .ok (.ifCond .eq 5, 3) := by decide +kernel
theorem dL_law_2545 : decode cL_law 2545 = .ok (.goto 233, 3) := by decide +kernel
theorem dL_law_2548 : decode cL_law 2548 = .ok (.aload_n 1, 1) := by decide +kernel
set_option maxRecDepth 20000 in
theorem ggL_law_X11_unwalk : GoodIn wsL_law wsX11_unwalk := gi_two _ [(72, 13), (1, 13), (71, 21), (77, 0), (77, 1), (77, 2), (77, 3), (77, 4), (77, 5), (77, 6), (83, 0), (83, 1), (83, 2), (83, 3), (83, 4), (83, 5)] rfl (by decide +kernel)
set_option maxRecDepth 20000 in
theorem gL_law_X11_unwalk : GoodIn wsL_law (wsV RL 276 RX11 yX11_unwalk wsX11_unwalk) := goodIn_app (goodIn_of _ (by decide +kernel)) ggL_law_X11_unwalk
theorem dL_law_2549 : decode cL_law 2549 = .ok (.invokevirtual 276, 3) := by decide +kernel
theorem dL_law_2552 : decode cL_law 2552 = .ok (.aload_n 2, 1) := by decide +kernel
set_option maxRecDepth 20000 in
theorem ggL_law_X15_unwalk : GoodIn wsL_law wsX15_unwalk := gi_two _ [(72, 17), (10, 0), (7, 20), (10, 7), (10, 8), (10, 9), (7, 12), (10, 10), (10, 11), (56, 9), (56, 10), (56, 11), (56, 12), (11, 5), (11, 6), (8, 1), (78, 0), (78, 1), (78, 2), (78, 3), (78, 4), (78, 5), (78, 6), (78, 7), (78, 8), (78, 9), (78, 10), (78, 11), (78, 12), (78, 13), (78, 14), (78, 15), (78, 16), (78, 17), (78, 18), (78, 19), (78, 20), (90, 0), (90, 1), (90, 2)] rfl (by decide +kernel)
set_option maxRecDepth 20000 in
theorem gL_law_X15_unwalk : GoodIn wsL_law (wsV RL 279 RX15 yX15_unwalk wsX15_unwalk) := goodIn_app (goodIn_of _ (by decide +kernel)) ggL_law_X15_unwalk
theorem dL_law_2553 : decode cL_law 2553 = .ok (.invokevirtual 279, 3) := by decide +kernel
theorem dL_law_2556 : decode cL_law 2556 = .ok (.if_icmp .eq 222, 3) := by decide +kernel
theorem dL_law_2561 : decode cL_law 2561 = .ok (.aload_n 1, 1) := by decide +kernel
theorem dL_law_2562 : decode cL_law 2562 = .ok (.aload_n 0, 1) := by decide +kernel
theorem dL_law_2563 : decode cL_law 2563 = .ok (.iload 5, 2) := by decide +kernel
theorem dL_law_2565 : decode cL_law 2565 = .ok (.iconst 1, 1) := by decide +kernel
theorem dL_law_2566 : decode cL_law 2566 = .ok (.iadd, 1) := by decide +kernel
theorem dL_law_2567 : decode cL_law 2567 = .ok (.iaload, 1) := by decide +kernel
theorem dL_law_2568 : decode cL_law 2568 = .ok (.i2l, 1) := by decide +kernel
theorem dL_law_2569 : decode cL_law 2569 = .ok (.bipush 32, 2) := by decide +kernel
theorem dL_law_2571 : decode cL_law 2571 = .ok (.lshl, 1) := by decide +kernel
theorem dL_law_2572 : decode cL_law 2572 = .ok (.aload_n 0, 1) := by decide +kernel
theorem dL_law_2573 : decode cL_law 2573 = .ok (.iload 5, 2) := by decide +kernel
theorem dL_law_2575 : decode cL_law 2575 = .ok (.iconst 2, 1) := by decide +kernel
theorem dL_law_2576 : decode cL_law 2576 = .ok (.iadd, 1) := by decide +kernel
theorem dL_law_2577 : decode cL_law 2577 = .ok (.iaload, 1) := by decide +kernel
theorem dL_law_2578 : decode cL_law 2578 = .ok (.i2l, 1) := by decide +kernel
theorem dL_law_2579 : decode cL_law 2579 = .ok (.ldc2_w 280, 3) := by decide +kernel
theorem dL_law_2582 : decode cL_law 2582 = .ok (.land, 1) := by decide +kernel
theorem dL_law_2583 : decode cL_law 2583 = .ok (.lor, 1) := by decide +kernel
theorem dL_law_2584 : decode cL_law 2584 = .ok (.aload_n 0, 1) := by decide +kernel
theorem dL_law_2585 : decode cL_law 2585 = .ok (.iload 5, 2) := by decide +kernel
theorem dL_law_2587 : decode cL_law 2587 = .ok (.iconst 3, 1) := by decide +kernel
theorem dL_law_2588 : decode cL_law 2588 = .ok (.iadd, 1) := by decide +kernel
theorem dL_law_2589 : decode cL_law 2589 = .ok (.iaload, 1) := by decide +kernel
theorem dL_law_2590 : decode cL_law 2590 = .ok (.aload_n 3, 1) := by decide +kernel
set_option maxRecDepth 20000 in
theorem ggL_law_L_walk : GoodIn wsL_law wsL_walk := goodIn_ca (goodIn_ca (goodIn_ca (gi_two _ [(72, 20), (8, 16), (72, 21), (72, 22), (72, 23), (0, 2), (73, 0), (73, 1), (1, 13), (8, 22), (8, 23), (9, 0), (9, 1), (9, 2), (9, 3), (9, 4), (9, 5), (73, 2), (73, 3), (73, 4), (1, 12), (73, 5), (7, 2), (7, 0), (7, 1), (73, 6), (73, 7), (73, 8), (73, 9), (7, 3), (7, 4), (73, 10), (73, 11), (73, 12), (73, 13), (73, 14), (6, 23), (30, 8), (30, 9), (77, 0), (77, 1), (77, 2), (77, 3), (77, 4), (77, 5), (77, 6), (83, 0), (83, 1), (83, 2), (83, 3), (83, 4), (83, 5)] rfl (by decide +kernel)) (goodIn_sub (fun _ h => List.mem_append_left _ (List.mem_append_left _ (List.mem_append_left _ (List.mem_append_left _ (List.mem_append_left _ (List.mem_append_left _ (List.mem_append_left _ (List.mem_append_right _ h)))))))) (by decide +kernel))) (goodIn_sub (fun _ h => List.mem_append_left _ (List.mem_append_left _ (List.mem_append_left _ (List.mem_append_left _ (List.mem_append_left _ (List.mem_append_left _ (List.mem_append_right _ h))))))) (by decide +kernel))) (goodIn_sub (fun _ h => List.mem_append_left _ (List.mem_append_right _ h)) (by decide +kernel))
set_option maxRecDepth 20000 in
theorem gL_law_L_walk : GoodIn wsL_law (va_wsS RL 282 yL_walk wsL_walk) := goodIn_app (goodIn_of _ (by decide +kernel)) ggL_law_L_walk
theorem dL_law_2591 : decode cL_law 2591 = .ok (.invokestatic 282, 3) := by decide +kernel
theorem dL_law_2594 : decode cL_law 2594 = .ok (.istore 6, 2) := by decide +kernel
theorem dL_law_2596 : decode cL_law 2596 = .ok (.aload_n 2, 1) := by decide +kernel
theorem dL_law_2597 : decode cL_law 2597 = .ok (.aload_n 0, 1) := by decide +kernel
theorem dL_law_2598 : decode cL_law 2598 = .ok (.iload 5, 2) := by decide +kernel
theorem dL_law_2600 : decode cL_law 2600 = .ok (.iconst 1, 1) := by decide +kernel
theorem dL_law_2601 : decode cL_law 2601 = .ok (.iadd, 1) := by decide +kernel
theorem dL_law_2602 : decode cL_law 2602 = .ok (.iaload, 1) := by decide +kernel
theorem dL_law_2603 : decode cL_law 2603 = .ok (.i2l, 1) := by decide +kernel
theorem dL_law_2604 : decode cL_law 2604 = .ok (.bipush 32, 2) := by decide +kernel
theorem dL_law_2606 : decode cL_law 2606 = .ok (.lshl, 1) := by decide +kernel
theorem dL_law_2607 : decode cL_law 2607 = .ok (.aload_n 0, 1) := by decide +kernel
theorem dL_law_2608 : decode cL_law 2608 = .ok (.iload 5, 2) := by decide +kernel
theorem dL_law_2610 : decode cL_law 2610 = .ok (.iconst 2, 1) := by decide +kernel
theorem dL_law_2611 : decode cL_law 2611 = .ok (.iadd, 1) := by decide +kernel
theorem dL_law_2612 : decode cL_law 2612 = .ok (.iaload, 1) := by decide +kernel
theorem dL_law_2613 : decode cL_law 2613 = .ok (.i2l, 1) := by decide +kernel
theorem dL_law_2614 : decode cL_law 2614 = .ok (.ldc2_w 280, 3) := by decide +kernel
theorem dL_law_2617 : decode cL_law 2617 = .ok (.land, 1) := by decide +kernel
theorem dL_law_2618 : decode cL_law 2618 = .ok (.lor, 1) := by decide +kernel
theorem dL_law_2619 : decode cL_law 2619 = .ok (.aload_n 0, 1) := by decide +kernel
theorem dL_law_2620 : decode cL_law 2620 = .ok (.iload 5, 2) := by decide +kernel
theorem dL_law_2622 : decode cL_law 2622 = .ok (.iconst 3, 1) := by decide +kernel
theorem dL_law_2623 : decode cL_law 2623 = .ok (.iadd, 1) := by decide +kernel
theorem dL_law_2624 : decode cL_law 2624 = .ok (.iaload, 1) := by decide +kernel
set_option maxRecDepth 20000 in
theorem ggL_law_X15_walk : GoodIn wsL_law wsX15_walk := goodIn_ca (goodIn_ca (gi_two _ [(73, 18), (73, 19), (20, 18), (10, 0), (73, 20), (73, 21), (73, 22), (10, 4), (10, 5), (0, 5), (10, 6), (73, 23), (74, 0), (74, 1), (74, 2), (7, 20), (57, 10), (53, 15), (53, 16), (53, 17), (7, 12), (53, 18), (53, 19), (53, 20), (53, 21), (53, 22), (53, 23), (54, 0), (54, 1), (54, 2), (0, 13), (0, 14), (54, 3), (54, 4), (11, 6), (54, 5), (54, 6), (54, 7), (54, 8), (54, 9), (54, 10), (54, 11), (54, 12), (54, 13), (54, 14), (54, 15), (54, 16), (54, 17), (54, 18), (54, 19), (74, 3), (74, 4), (74, 5), (78, 0), (78, 1), (78, 2), (78, 3), (78, 4), (78, 5), (78, 6), (78, 7), (78, 8), (78, 9), (78, 10), (78, 11), (78, 12), (78, 13), (78, 14), (78, 15), (78, 16), (78, 17), (78, 18), (78, 19), (78, 20), (95, 0), (95, 1), (95, 2), (95, 3), (90, 0), (90, 1), (90, 2)] rfl (by decide +kernel)) (goodIn_sub (fun _ h => List.mem_append_left _ (List.mem_append_left _ (List.mem_append_left _ (List.mem_append_left _ (List.mem_append_left _ (List.mem_append_left _ (List.mem_append_left _ (List.mem_append_right _ h)))))))) (by decide +kernel))) (goodIn_sub (fun _ h => List.mem_append_left _ (List.mem_append_right _ h)) (by decide +kernel))
set_option maxRecDepth 20000 in
theorem gL_law_X15_walk : GoodIn wsL_law (wsV RL 285 RX15 yX15_walk wsX15_walk) := goodIn_app (goodIn_of _ (by decide +kernel)) ggL_law_X15_walk
theorem dL_law_2625 : decode cL_law 2625 = .ok (.invokevirtual 285, 3) := by decide +kernel
theorem dL_law_2628 : decode cL_law 2628 = .ok (.lstore 7, 2) := by decide +kernel
theorem dL_law_2630 : decode cL_law 2630 = .ok (.aload_n 2, 1) := by decide +kernel
theorem dL_law_2631 : decode cL_law 2631 = .ok (.invokevirtual 152, 3) := by decide +kernel
theorem dL_law_2634 : decode cL_law 2634 = .ok (.iload 6, 2) := by decide +kernel
theorem dL_law_2636 : decode cL_law 2636 = .ok (.if_icmp .eq 5, 3) := by decide +kernel
theorem dL_law_2641 : decode cL_law 2641 = .ok (.iload 6, 2) := by decide +kernel
theorem dL_law_2643 : decode cL_law 2643 = .ok (.ifCond .ne 14, 3) := by decide +kernel
theorem dL_law_2646 : decode cL_law 2646 = .ok (.aload_n 3, 1) := by decide +kernel
theorem dL_law_2647 : decode cL_law 2647 = .ok (.iconst 0, 1) := by decide +kernel
theorem dL_law_2648 : decode cL_law 2648 = .ok (.laload, 1) := by decide +kernel
theorem dL_law_2649 : decode cL_law 2649 = .ok (.lload 7, 2) := by decide +kernel
theorem dL_law_2651 : decode cL_law 2651 = .ok (.lcmp, 1) := by decide +kernel
theorem dL_law_2652 : decode cL_law 2652 = .ok (.ifCond .eq 5, 3) := by decide +kernel
theorem dL_law_2657 : decode cL_law 2657 = .ok (.goto 121, 3) := by decide +kernel
theorem dL_law_2660 : decode cL_law 2660 = .ok (.aload_n 1, 1) := by decide +kernel
set_option maxRecDepth 20000 in
theorem ggL_law_X11_walked : GoodIn wsL_law wsX11_walked := gi_two _ [(74, 9), (1, 13), (74, 10), (77, 0), (77, 1), (77, 2), (77, 3), (77, 4), (77, 5), (77, 6), (83, 0), (83, 1), (83, 2), (83, 3), (83, 4), (83, 5)] rfl (by decide +kernel)
set_option maxRecDepth 20000 in
theorem gL_law_X11_walked : GoodIn wsL_law (wsV RL 286 RX11 yX11_walked wsX11_walked) := goodIn_app (goodIn_of _ (by decide +kernel)) ggL_law_X11_walked
theorem dL_law_2661 : decode cL_law 2661 = .ok (.invokevirtual 286, 3) := by decide +kernel
theorem dL_law_2664 : decode cL_law 2664 = .ok (.aload_n 2, 1) := by decide +kernel
set_option maxRecDepth 20000 in
theorem ggL_law_X15_walked : GoodIn wsL_law wsX15_walked := gi_two _ [(74, 14), (10, 0), (73, 20), (78, 0), (78, 1), (78, 2), (78, 3), (78, 4), (78, 5), (78, 6), (78, 7), (78, 8), (78, 9), (78, 10), (78, 11), (78, 12), (78, 13), (78, 14), (78, 15), (78, 16), (78, 17), (78, 18), (78, 19), (78, 20)] rfl (by decide +kernel)
set_option maxRecDepth 20000 in
theorem gL_law_X15_walked : GoodIn wsL_law (wsV RL 289 RX15 yX15_walked wsX15_walked) := goodIn_app (goodIn_of _ (by decide +kernel)) ggL_law_X15_walked
theorem dL_law_2665 : decode cL_law 2665 = .ok (.invokevirtual 289, 3) := by decide +kernel
theorem dL_law_2668 : decode cL_law 2668 = .ok (.if_icmp .eq 110, 3) := by decide +kernel
theorem dL_law_2673 : decode cL_law 2673 = .ok (.aload_n 1, 1) := by decide +kernel
set_option maxRecDepth 20000 in
theorem ggL_law_X11_hasWalked : GoodIn wsL_law wsX11_hasWalked := gi_two _ [(74, 18), (1, 13), (74, 19), (77, 0), (77, 1), (77, 2), (77, 3), (77, 4), (77, 5), (77, 6), (83, 0), (83, 1), (83, 2), (83, 3), (83, 4), (83, 5)] rfl (by decide +kernel)
set_option maxRecDepth 20000 in
theorem gL_law_X11_hasWalked : GoodIn wsL_law (wsV RL 290 RX11 yX11_hasWalked wsX11_hasWalked) := goodIn_app (goodIn_of _ (by decide +kernel)) ggL_law_X11_hasWalked
theorem dL_law_2674 : decode cL_law 2674 = .ok (.invokevirtual 290, 3) := by decide +kernel
theorem dL_law_2677 : decode cL_law 2677 = .ok (.aload_n 2, 1) := by decide +kernel
set_option maxRecDepth 20000 in
theorem ggL_law_X15_hasWalked : GoodIn wsL_law wsX15_hasWalked := gi_two _ [(74, 23), (10, 0), (73, 22), (78, 0), (78, 1), (78, 2), (78, 3), (78, 4), (78, 5), (78, 6), (78, 7), (78, 8), (78, 9), (78, 10), (78, 11), (78, 12), (78, 13), (78, 14), (78, 15), (78, 16), (78, 17), (78, 18), (78, 19), (78, 20)] rfl (by decide +kernel)
set_option maxRecDepth 20000 in
theorem gL_law_X15_hasWalked : GoodIn wsL_law (wsV RL 294 RX15 yX15_hasWalked wsX15_hasWalked) := goodIn_app (goodIn_of _ (by decide +kernel)) ggL_law_X15_hasWalked
theorem dL_law_2678 : decode cL_law 2678 = .ok (.invokevirtual 294, 3) := by decide +kernel
theorem dL_law_2681 : decode cL_law 2681 = .ok (.if_icmp .eq 97, 3) := by decide +kernel
set_option maxHeartbeats 8000000 in
set_option maxRecDepth 100000 in
/-- the law: law_32_tag -/
theorem law_32_tag {p : Program} {e : Env} {s : State} {m : MethodId} {below : List Frame} {meth : Method} {c : Code} {l : Launch} {b : Nat} {xs : Nat → Int32} (hx : p.tables.exec = Jvm.exec) (hb : c.code = cL_law) (hr : meth.sig.returnType = ret) (hml : c.maxLocals = 9) (hfl : l.stackTraces = false) (hown : s.vm.findClass RL = some m.cls) (hts : ∀ w ∈ wsL_law, w.before #[Value.ref b] s = true) (hX : va_X b 7 xs s s.heap) (hbl : b < s.heap.size) (hlocks : meth.locks = false) {A : Nat → Prop} (hbA : ¬ A b) (hAo : ∀ q, A q → s.heap.size ≤ q) (hA : ∀ q : Nat, s.heap.size ≤ q → A q) (dC : Nat → ClassId) (dI : Nat → Nat → Nat) (hN : nwA s) (e0 : Nat) (aK aV : Nat → Nat) (hZ : zX A s s.heap ∧ zM e0 aK aV A s s.heap) (ya ms ju rj tj ro rn tn rh th ca sa da xa wb z1 z2 jt z3 br z4 z5 z6 lk z7 z8 li bm l2 z9 bo h2 mm l1 z10 oo h1 ct cr cu cg cp co tg ts tr tk te fw fo fu xm ml cl fl rg tR ou od kn : Nat) (cI cM cS cL cD cB : ClassId) {H : Heap} {locs : List Loc} (hP : va_P (dC, dI) vwCl [(ya, .inr (16, [.ref ms, .int 0, .ref ju, .ref li, .ref ct, .ref tg, .ref fw])), (tg, .inr (14, [.int 0, .int 0, .ref ts, .ref tr, .ref tk, .ref te])), (ts, .inl (cI, 40, .inl (fun _ => 0))), (tk, .inl (cI, 4, .inl (fun _ => 0))), (te, .inl (cI, 400, .inl (fun _ => 0))), (ou, .inl (cL, 1, .inr (.inl (fun _ => 0)))), (xm, .inr (20, [.int 0, .int 0, .ref kn, .int 0, .int 0, .int 0, .ref ml, .ref cl, .ref rg, .ref tR, .ref (aK 0), .ref (aK 0), .ref fl, .int 0, .int 0, .int 0, .int 0, .int 0, .int 0, .int 0, .null]))] H) (hD : va_D A [(ya, .inr (16, [.ref ms, .int 0, .ref ju, .ref li, .ref ct, .ref tg, .ref fw])), (tg, .inr (14, [.int 0, .int 0, .ref ts, .ref tr, .ref tk, .ref te])), (ts, .inl (cI, 40, .inl (fun _ => 0))), (tk, .inl (cI, 4, .inl (fun _ => 0))), (te, .inl (cI, 400, .inl (fun _ => 0))), (ou, .inl (cL, 1, .inr (.inl (fun _ => 0)))), (xm, .inr (20, [.int 0, .int 0, .ref kn, .int 0, .int 0, .int 0, .ref ml, .ref cl, .ref rg, .ref tR, .ref (aK 0), .ref (aK 0), .ref fl, .int 0, .int 0, .int 0, .int 0, .int 0, .int 0, .int 0, .null]))]) (hK : va_K (dC, dI) vwCl [(cI, .int), (cL, .long), (cB, .byte)] s) (hS : va_S A s.heap H locs) {ls : Array Slot} (hl : lv_has ls 9 [(0, .ref b), (1, .ref ya), (2, .ref xm), (3, .ref ou), (4, .ref od), (5, .int 0)]) : W p l e room_1 s m #[Value.ref b] below meth c H locs 200 60000 (lw_Z below #[Value.ref b] s) (F0 m 2343 ls []) := by
  obtain ⟨s1, hs1⟩ : ∃ z, z = xs ((0 : Int32) + 1).toNatClampNeg := ⟨_, rfl⟩
  obtain ⟨s2, hs2⟩ : ∃ z, z = xs ((0 : Int32) + 2).toNatClampNeg := ⟨_, rfl⟩
  obtain ⟨s3, hs3⟩ : ∃ z, z = xs ((0 : Int32) + 3).toNatClampNeg := ⟨_, rfl⟩
  obtain ⟨s4, hs4⟩ : ∃ z, z = xs ((0 : Int32) + 4).toNatClampNeg := ⟨_, rfl⟩
  obtain ⟨s5, hs5⟩ : ∃ z, z = xs ((0 : Int32) + 5).toNatClampNeg := ⟨_, rfl⟩
  obtain ⟨s6, hs6⟩ : ∃ z, z = xs ((0 : Int32) + 6).toNatClampNeg := ⟨_, rfl⟩
  obtain ⟨ch1, hch1⟩ : ∃ z, z = (s1.toUInt32 % 65536).toInt32 := ⟨_, rfl⟩
  obtain ⟨ch2, hch2⟩ : ∃ z, z = (s2.toUInt32 % 65536).toInt32 := ⟨_, rfl⟩
  obtain ⟨ch3, hch3⟩ : ∃ z, z = (s3.toUInt32 % 65536).toInt32 := ⟨_, rfl⟩
  obtain ⟨ch4, hch4⟩ : ∃ z, z = (s4.toUInt32 % 65536).toInt32 := ⟨_, rfl⟩
  obtain ⟨ch5, hch5⟩ : ∃ z, z = (s5.toUInt32 % 65536).toInt32 := ⟨_, rfl⟩
  obtain ⟨ch6, hch6⟩ : ∃ z, z = (s6.toUInt32 % 65536).toInt32 := ⟨_, rfl⟩
  refine lv_aload_n hx hb dL_law_2343 rfl (lv_at hl 1 rfl) ?_
  refine lv_aload_n hx hb dL_law_2344 rfl (lv_at hl 0 rfl) ?_
  refine lv_iload hx hb dL_law_2345 (lv_at hl 5 rfl) ?_
  refine lv_iconst (v := 1) hx hb dL_law_2347 (by decide) ?_
  refine lv_iadd hx hb dL_law_2348 ?_
  refine va_sld hx hb hX hbl hbA hS sx1 dL_law_2349 ?_
  refine lv_topi (fun x_1 ex_1 => ?_)
  obtain rfl : s1 = x_1 := (show x_1 = s1 from ex_1.trans hs1.symm).symm
  refine lv_aload_n hx hb dL_law_2350 rfl (lv_at hl 0 rfl) ?_
  refine lv_iload hx hb dL_law_2351 (lv_at hl 5 rfl) ?_
  refine lv_iconst (v := 2) hx hb dL_law_2353 (by decide) ?_
  refine lv_iadd hx hb dL_law_2354 ?_
  refine va_sld hx hb hX hbl hbA hS sx2 dL_law_2355 ?_
  refine lv_topi (fun x_2 ex_2 => ?_)
  obtain rfl : s2 = x_2 := (show x_2 = s2 from ex_2.trans hs2.symm).symm
  refine lv_aload_n hx hb dL_law_2356 rfl (lv_at hl 3 rfl) ?_
  have hPc := hP.sub (ws' := [(ya, .inr (16, [.ref ms, .int 0, .ref ju, .ref li, .ref ct, .ref tg, .ref fw])), (tg, .inr (14, [.int 0, .int 0, .ref ts, .ref tr, .ref tk, .ref te])), (ts, .inl (cI, 40, .inl (fun _ => 0))), (tk, .inl (cI, 4, .inl (fun _ => 0))), (te, .inl (cI, 400, .inl (fun _ => 0))), (ou, .inl (cL, 1, .inr (.inl (fun _ => 0))))]) [0, 1, 2, 3, 4, 5] rfl
  have hDc := hD.sub (ws' := [(ya, .inr (16, [.ref ms, .int 0, .ref ju, .ref li, .ref ct, .ref tg, .ref fw])), (tg, .inr (14, [.int 0, .int 0, .ref ts, .ref tr, .ref tk, .ref te])), (ts, .inl (cI, 40, .inl (fun _ => 0))), (tk, .inl (cI, 4, .inl (fun _ => 0))), (te, .inl (cI, 400, .inl (fun _ => 0))), (ou, .inl (cL, 1, .inr (.inl (fun _ => 0))))]) [0, 1, 2, 3, 4, 5] (by decide) rfl
  have hKc := hK.sub (tys' := [(cI, .int), (cL, .long)]) [0, 1] rfl
  have hFc := va_free (wc := [(ya, .inr (16, [.ref ms, .int 0, .ref ju, .ref li, .ref ct, .ref tg, .ref fw])), (tg, .inr (14, [.int 0, .int 0, .ref ts, .ref tr, .ref tk, .ref te])), (ts, .inl (cI, 40, .inl (fun _ => 0))), (tk, .inl (cI, 4, .inl (fun _ => 0))), (te, .inl (cI, 400, .inl (fun _ => 0))), (ou, .inl (cL, 1, .inr (.inl (fun _ => 0))))]) hD hS hA [0, 1, 2, 3, 4, 5] rfl
  refine vx_calli (vx_runSX (As := [.ref ya, .int s1, .int s2, .ref ou]) (rest := []) ⟨hx, hb, hml, hown, hts⟩ (c_L_tag l hfl dC dI cI ya ms ju li ct tg fw ts tr tk te (fun _ => 0) (fun _ => 0) s1 s2 cL ou (fun _ => 0) H.size) (vx_cwSW 4 hts gL_law_L_tag rfl rfl rfl (by decide +kernel) ⟨Nat.le_of_ble_eq_true rfl, Nat.le_of_ble_eq_true rfl⟩) (pcSz (zX_ok) hPc hDc hKc hN hZ.1 hS hFc) rfl rfl hl.1 rfl (lv_room (Nat.le_of_ble_eq_true rfl)) dL_law_2357 ⟨Nat.le_of_ble_eq_true rfl, Nat.le_of_ble_eq_true rfl⟩) hS (fun q _ h => hFc q h) hFc (fun q _ h => hFc q h) (fun E9 ce9 q9 u9 t9 H9 locs9 ht9 hvm9 hp9 hE9 hz9 hk9 hS9 hc9 hv9 hcl9 => hE9.elim) (fun r_4 u t H1 locs ht hvm hw_5 hB hz1 hk1 hS => ?_)
  obtain ⟨hP1, hK1, hD1⟩ := hB
  rw [ht] at hP1
  try dsimp only at hw_5
  obtain ⟨hP, hD⟩ := va_join (wr := [(xm, .inr (20, [.int 0, .int 0, .ref kn, .int 0, .int 0, .int 0, .ref ml, .ref cl, .ref rg, .ref tR, .ref (aK 0), .ref (aK 0), .ref fl, .int 0, .int 0, .int 0, .int 0, .int 0, .int 0, .int 0, .null]))]) (w1 := [(ou, .inl (cL, 1, .inr (.inl u)))]) hP hD [0, 1, 2, 3, 4, 5] [6] rfl rfl (by decide) (by decide) hk1 hFc hP1 hD1
  generalize H1 = H at hP hS ⊢
  have hP : va_P (dC, dI) vwCl [(xm, .inr (20, [.int 0, .int 0, .ref kn, .int 0, .int 0, .int 0, .ref ml, .ref cl, .ref rg, .ref tR, .ref (aK 0), .ref (aK 0), .ref fl, .int 0, .int 0, .int 0, .int 0, .int 0, .int 0, .int 0, .null])), (ou, .inl (cL, 1, .inr (.inl u)))] H := hP
  have hD : va_D A [(xm, .inr (20, [.int 0, .int 0, .ref kn, .int 0, .int 0, .int 0, .ref ml, .ref cl, .ref rg, .ref tR, .ref (aK 0), .ref (aK 0), .ref fl, .int 0, .int 0, .int 0, .int 0, .int 0, .int 0, .int 0, .null])), (ou, .inl (cL, 1, .inr (.inl u)))] := hD
  refine W.widen (k := 202) (n := 60012) (Nat.le_of_ble_eq_true rfl) (Nat.le_of_ble_eq_true rfl) ?_
  obtain ⟨of_3, eof_3⟩ : ∃ z, z = u := ⟨_, rfl⟩
  subst eof_3
  have hP : va_P (dC, dI) vwCl [(xm, .inr (20, [.int 0, .int 0, .ref kn, .int 0, .int 0, .int 0, .ref ml, .ref cl, .ref rg, .ref tR, .ref (aK 0), .ref (aK 0), .ref fl, .int 0, .int 0, .int 0, .int 0, .int 0, .int 0, .int 0, .null])), (ou, .inl (cL, 1, .inr (.inl of_3)))] H := hP
  have hD : va_D A [(xm, .inr (20, [.int 0, .int 0, .ref kn, .int 0, .int 0, .int 0, .ref ml, .ref cl, .ref rg, .ref tR, .ref (aK 0), .ref (aK 0), .ref fl, .int 0, .int 0, .int 0, .int 0, .int 0, .int 0, .int 0, .null])), (ou, .inl (cL, 1, .inr (.inl of_3)))] := hD
  rcases hw_5 with ⟨hr0, hPP, hv0⟩ | ⟨hr0, hPP⟩
  · obtain rfl : r_4 = 0 := hr0
    refine lv_istore (lv' := [(6, .int 0), (0, .ref b), (1, .ref ya), (2, .ref xm), (3, .ref ou), (4, .ref od), (5, .int 0)]) hx hb dL_law_2360 hl (by decide) rfl (fun ls hl => ?_)
    refine lv_aload_n hx hb dL_law_2362 rfl (lv_at hl 3 rfl) ?_
    refine lv_aload_n hx hb dL_law_2363 rfl (lv_at hl 1 rfl) ?_
    refine lv_iload hx hb dL_law_2364 (lv_at hl 6 rfl) ?_
    refine lv_iconst (v := 1) hx hb dL_law_2366 (by decide) ?_
    refine lv_iadd hx hb dL_law_2367 ?_
    refine va_sld hx hb hX hbl hbA hS sx1 dL_law_2368 ?_
    refine lv_topi (fun x_6 ex_6 => ?_)
    obtain rfl : s1 = x_6 := (show x_6 = s1 from ex_6.trans hs1.symm).symm
    refine lv_aload_n hx hb dL_law_2369 rfl (lv_at hl 1 rfl) ?_
    refine lv_iload hx hb dL_law_2370 (lv_at hl 6 rfl) ?_
    refine lv_iconst (v := 2) hx hb dL_law_2372 (by decide) ?_
    refine lv_iadd hx hb dL_law_2373 ?_
    refine va_sld hx hb hX hbl hbA hS sx2 dL_law_2374 ?_
    refine lv_topi (fun x_7 ex_7 => ?_)
    obtain rfl : s2 = x_7 := (show x_7 = s2 from ex_7.trans hs2.symm).symm
    have hPc := hP.sub (ws' := [(xm, .inr (20, [.int 0, .int 0, .ref kn, .int 0, .int 0, .int 0, .ref ml, .ref cl, .ref rg, .ref tR, .ref (aK 0), .ref (aK 0), .ref fl, .int 0, .int 0, .int 0, .int 0, .int 0, .int 0, .int 0, .null]))]) [0] rfl
    have hDc := hD.sub (ws' := [(xm, .inr (20, [.int 0, .int 0, .ref kn, .int 0, .int 0, .int 0, .ref ml, .ref cl, .ref rg, .ref tR, .ref (aK 0), .ref (aK 0), .ref fl, .int 0, .int 0, .int 0, .int 0, .int 0, .int 0, .int 0, .null]))]) [0] (by decide) rfl
    have hKc := hK.sub (tys' := [(cB, .byte)]) [2] rfl
    have hFc := va_free (wc := [(xm, .inr (20, [.int 0, .int 0, .ref kn, .int 0, .int 0, .int 0, .ref ml, .ref cl, .ref rg, .ref tR, .ref (aK 0), .ref (aK 0), .ref fl, .int 0, .int 0, .int 0, .int 0, .int 0, .int 0, .int 0, .null]))]) hD hS hA [0] rfl
    refine va_calli (va_runV (As := [.int s1, .int s2]) (rest := []) ⟨hx, hb, hml, hown, hts⟩ (c_X15_tag l dC dI xm ml cl fl kn rg tR e0 aK aV cB s1 s2 H.size) (cwV 2 hts gL_law_X15_tag rfl rfl rfl (by decide +kernel) ⟨Nat.le_of_ble_eq_true rfl, Nat.le_of_ble_eq_true rfl⟩) (pcVz (zM_ok e0 aK aV) hPc hDc hKc hN hZ.2 hS hFc (ci := 20) (q0 := 0) rfl rfl) rfl rfl hl.1 rfl (lv_room (Nat.le_of_ble_eq_true rfl)) dL_law_2375 ⟨Nat.le_of_ble_eq_true rfl, Nat.le_of_ble_eq_true rfl⟩) hS (fun q _ h => hFc q h) hFc (fun r_9 u t H1 locs ht hvm hw_10 hB hz1 hk1 hS => ?_)
    obtain ⟨hP1, hK1, hD1⟩ := hB
    rw [ht] at hP1
    try dsimp only at hw_10
    obtain ⟨hP, hD⟩ := va_join (wr := [(ou, .inl (cL, 1, .inr (.inl of_3)))]) (w1 := [(xm, .inr (20, u))]) hP hD [0] [1] rfl rfl (by decide) (by decide) hk1 hFc hP1 hD1
    generalize H1 = H at hP hS ⊢
    have hP : va_P (dC, dI) vwCl [(ou, .inl (cL, 1, .inr (.inl of_3))), (xm, .inr (20, u))] H := hP
    have hD : va_D A [(ou, .inl (cL, 1, .inr (.inl of_3))), (xm, .inr (20, u))] := hD
    refine W.widen (k := 206) (n := 60036) (Nat.le_of_ble_eq_true rfl) (Nat.le_of_ble_eq_true rfl) ?_
    obtain ⟨fs_8, efs_8⟩ : ∃ z, z = u := ⟨_, rfl⟩
    subst efs_8
    have hP : va_P (dC, dI) vwCl [(ou, .inl (cL, 1, .inr (.inl of_3))), (xm, .inr (20, fs_8))] H := hP
    have hD : va_D A [(ou, .inl (cL, 1, .inr (.inl of_3))), (xm, .inr (20, fs_8))] := hD
    obtain ⟨ht9, hrv⟩ := hw_10.elim (fun h => h.2) (fun h => absurd hPP h.1)
    obtain rfl : r_9 = 0 := hrv
    refine lv_istore (lv' := [(7, .int 0), (6, .int 0), (0, .ref b), (1, .ref ya), (2, .ref xm), (3, .ref ou), (4, .ref od), (5, .int 0)]) hx hb dL_law_2378 hl (by decide) rfl (fun ls hl => ?_)
    refine lv_aload_n hx hb dL_law_2380 rfl (lv_at hl 4 rfl) ?_
    have hPc := hP.sub (ws' := [(xm, .inr (20, fs_8))]) [1] rfl
    have hDc := hD.sub (ws' := [(xm, .inr (20, fs_8))]) [1] (by decide) rfl
    have hKc := hK.sub (tys' := []) [] rfl
    have hFc := va_free (wc := [(xm, .inr (20, fs_8))]) hD hS hA [1] rfl
    refine va_calli (va_runV (As := []) (rest := []) ⟨hx, hb, hml, hown, hts⟩ (c_X15_thrown l dC dI xm fs_8 0 ht9 H.size) (cwV 0 hts gL_law_X15_thrown rfl rfl rfl (by decide +kernel) ⟨Nat.le_of_ble_eq_true rfl, Nat.le_of_ble_eq_true rfl⟩) (pcV hPc hDc hKc hN (ci := 20) (q0 := 0) rfl rfl) rfl rfl hl.1 rfl (lv_room (Nat.le_of_ble_eq_true rfl)) dL_law_2381 ⟨Nat.le_of_ble_eq_true rfl, Nat.le_of_ble_eq_true rfl⟩) hS (fun q _ h => hFc q h) hFc (fun r_11 u t H1 locs ht hvm hw_12 hB hz1 hk1 hS => ?_)
    obtain ⟨hP1, hK1, hD1⟩ := hB
    rw [ht] at hP1
    try dsimp only at hw_12
    obtain ⟨hP, hD⟩ := va_join (wr := [(ou, .inl (cL, 1, .inr (.inl of_3)))]) (w1 := []) hP hD [1] [0] rfl rfl (by decide) (by decide) hk1 hFc hP1 hD1
    generalize H1 = H at hP hS ⊢
    have hP : va_P (dC, dI) vwCl [(ou, .inl (cL, 1, .inr (.inl of_3)))] H := hP
    have hD : va_D A [(ou, .inl (cL, 1, .inr (.inl of_3)))] := hD
    obtain rfl : r_11 = 0 := hw_12
    refine lv_iload hx hb dL_law_2384 (lv_at hl 1 rfl) ?_
    refine lv_icmp_eq (tgt := 2391) hx hb dL_law_2386 (by decide) (fun c2386_13 => ?_) (fun c2386_13 => ?_)
    · refine lv_iload hx hb dL_law_2391 (lv_at hl 1 rfl) ?_
      refine lv_if_ne (tgt := 2408) hx hb dL_law_2393 (by decide) (fun c2393_14 => ?_) (fun c2393_14 => ?_)
      · exact (c2393_14 (by decide)).elim
      · refine lv_aload_n hx hb dL_law_2396 rfl (lv_at hl 5 rfl) ?_
        refine lv_iconst (v := 0) hx hb dL_law_2397 (by decide) ?_
        refine va_lald hx hb hK hP 0 1 rfl rfl (show vp_in (nI 0) 1 from vp_in_nI (by decide) (by decide)) dL_law_2398 ?_
        refine lv_topl (fun z_15 ez_15 => ?_)
        obtain rfl : z_15 = (0 : Int32).toInt64 := by rw [ez_15, show (0 : Int32).toNatClampNeg = 0 from by decide]; exact hv0
        refine lv_iload hx hb dL_law_2399 (lv_at hl 0 rfl) ?_
        refine lv_i2l hx hb dL_law_2401 rfl ?_
        refine W.lcmp hx hb dL_law_2402 ?_
        refine lv_if_eq (tgt := 2408) hx hb dL_law_2403 (by decide) (fun c2403_16 => ?_) (fun c2403_16 => ?_)
        · refine lv_goto (tgt := 2778) hx hb dL_law_2408 (by decide) ?_
          refine W.widen (k := 600006) (n := 7302039) (Nat.le_of_ble_eq_true rfl) (Nat.le_of_ble_eq_true rfl) ?_
          exact law_end hx hb hr hml hX hbl hlocks hbA hAo hS (lv_sub hl [2, 7] rfl)
        · exact absurd ((lg_cmp_eq _ _).mpr (by first | rfl | (subst_vars; rfl))) c2403_16
    · exact (c2386_13 (by decide)).elim
  · obtain rfl : r_4 = 1 := hr0
    refine lv_istore (lv' := [(6, .int 1), (0, .ref b), (1, .ref ya), (2, .ref xm), (3, .ref ou), (4, .ref od), (5, .int 0)]) hx hb dL_law_2360 hl (by decide) rfl (fun ls hl => ?_)
    refine lv_aload_n hx hb dL_law_2362 rfl (lv_at hl 3 rfl) ?_
    refine lv_aload_n hx hb dL_law_2363 rfl (lv_at hl 1 rfl) ?_
    refine lv_iload hx hb dL_law_2364 (lv_at hl 6 rfl) ?_
    refine lv_iconst (v := 1) hx hb dL_law_2366 (by decide) ?_
    refine lv_iadd hx hb dL_law_2367 ?_
    refine va_sld hx hb hX hbl hbA hS sx1 dL_law_2368 ?_
    refine lv_topi (fun x_17 ex_17 => ?_)
    obtain rfl : s1 = x_17 := (show x_17 = s1 from ex_17.trans hs1.symm).symm
    refine lv_aload_n hx hb dL_law_2369 rfl (lv_at hl 1 rfl) ?_
    refine lv_iload hx hb dL_law_2370 (lv_at hl 6 rfl) ?_
    refine lv_iconst (v := 2) hx hb dL_law_2372 (by decide) ?_
    refine lv_iadd hx hb dL_law_2373 ?_
    refine va_sld hx hb hX hbl hbA hS sx2 dL_law_2374 ?_
    refine lv_topi (fun x_18 ex_18 => ?_)
    obtain rfl : s2 = x_18 := (show x_18 = s2 from ex_18.trans hs2.symm).symm
    have hPc := hP.sub (ws' := [(xm, .inr (20, [.int 0, .int 0, .ref kn, .int 0, .int 0, .int 0, .ref ml, .ref cl, .ref rg, .ref tR, .ref (aK 0), .ref (aK 0), .ref fl, .int 0, .int 0, .int 0, .int 0, .int 0, .int 0, .int 0, .null]))]) [0] rfl
    have hDc := hD.sub (ws' := [(xm, .inr (20, [.int 0, .int 0, .ref kn, .int 0, .int 0, .int 0, .ref ml, .ref cl, .ref rg, .ref tR, .ref (aK 0), .ref (aK 0), .ref fl, .int 0, .int 0, .int 0, .int 0, .int 0, .int 0, .int 0, .null]))]) [0] (by decide) rfl
    have hKc := hK.sub (tys' := [(cB, .byte)]) [2] rfl
    have hFc := va_free (wc := [(xm, .inr (20, [.int 0, .int 0, .ref kn, .int 0, .int 0, .int 0, .ref ml, .ref cl, .ref rg, .ref tR, .ref (aK 0), .ref (aK 0), .ref fl, .int 0, .int 0, .int 0, .int 0, .int 0, .int 0, .int 0, .null]))]) hD hS hA [0] rfl
    refine va_calli (va_runV (As := [.int s1, .int s2]) (rest := []) ⟨hx, hb, hml, hown, hts⟩ (c_X15_tag l dC dI xm ml cl fl kn rg tR e0 aK aV cB s1 s2 H.size) (cwV 2 hts gL_law_X15_tag rfl rfl rfl (by decide +kernel) ⟨Nat.le_of_ble_eq_true rfl, Nat.le_of_ble_eq_true rfl⟩) (pcVz (zM_ok e0 aK aV) hPc hDc hKc hN hZ.2 hS hFc (ci := 20) (q0 := 0) rfl rfl) rfl rfl hl.1 rfl (lv_room (Nat.le_of_ble_eq_true rfl)) dL_law_2375 ⟨Nat.le_of_ble_eq_true rfl, Nat.le_of_ble_eq_true rfl⟩) hS (fun q _ h => hFc q h) hFc (fun r_20 u t H1 locs ht hvm hw_21 hB hz1 hk1 hS => ?_)
    obtain ⟨hP1, hK1, hD1⟩ := hB
    rw [ht] at hP1
    try dsimp only at hw_21
    obtain ⟨hP, hD⟩ := va_join (wr := [(ou, .inl (cL, 1, .inr (.inl of_3)))]) (w1 := [(xm, .inr (20, u))]) hP hD [0] [1] rfl rfl (by decide) (by decide) hk1 hFc hP1 hD1
    generalize H1 = H at hP hS ⊢
    have hP : va_P (dC, dI) vwCl [(ou, .inl (cL, 1, .inr (.inl of_3))), (xm, .inr (20, u))] H := hP
    have hD : va_D A [(ou, .inl (cL, 1, .inr (.inl of_3))), (xm, .inr (20, u))] := hD
    refine W.widen (k := 206) (n := 60036) (Nat.le_of_ble_eq_true rfl) (Nat.le_of_ble_eq_true rfl) ?_
    obtain ⟨fs_19, efs_19⟩ : ∃ z, z = u := ⟨_, rfl⟩
    subst efs_19
    have hP : va_P (dC, dI) vwCl [(ou, .inl (cL, 1, .inr (.inl of_3))), (xm, .inr (20, fs_19))] H := hP
    have hD : va_D A [(ou, .inl (cL, 1, .inr (.inl of_3))), (xm, .inr (20, fs_19))] := hD
    have ht9 := hw_21.elim (fun h => absurd h.1 hPP) (fun h => h.2)
    refine lv_istore (lv' := [(7, .int r_20), (6, .int 1), (0, .ref b), (1, .ref ya), (2, .ref xm), (3, .ref ou), (4, .ref od), (5, .int 0)]) hx hb dL_law_2378 hl (by decide) rfl (fun ls hl => ?_)
    refine lv_aload_n hx hb dL_law_2380 rfl (lv_at hl 4 rfl) ?_
    have hPc := hP.sub (ws' := [(xm, .inr (20, fs_19))]) [1] rfl
    have hDc := hD.sub (ws' := [(xm, .inr (20, fs_19))]) [1] (by decide) rfl
    have hKc := hK.sub (tys' := []) [] rfl
    have hFc := va_free (wc := [(xm, .inr (20, fs_19))]) hD hS hA [1] rfl
    refine va_calli (va_runV (As := []) (rest := []) ⟨hx, hb, hml, hown, hts⟩ (c_X15_thrown l dC dI xm fs_19 1 ht9 H.size) (cwV 0 hts gL_law_X15_thrown rfl rfl rfl (by decide +kernel) ⟨Nat.le_of_ble_eq_true rfl, Nat.le_of_ble_eq_true rfl⟩) (pcV hPc hDc hKc hN (ci := 20) (q0 := 0) rfl rfl) rfl rfl hl.1 rfl (lv_room (Nat.le_of_ble_eq_true rfl)) dL_law_2381 ⟨Nat.le_of_ble_eq_true rfl, Nat.le_of_ble_eq_true rfl⟩) hS (fun q _ h => hFc q h) hFc (fun r_22 u t H1 locs ht hvm hw_23 hB hz1 hk1 hS => ?_)
    obtain ⟨hP1, hK1, hD1⟩ := hB
    rw [ht] at hP1
    try dsimp only at hw_23
    obtain ⟨hP, hD⟩ := va_join (wr := [(ou, .inl (cL, 1, .inr (.inl of_3)))]) (w1 := []) hP hD [1] [0] rfl rfl (by decide) (by decide) hk1 hFc hP1 hD1
    generalize H1 = H at hP hS ⊢
    have hP : va_P (dC, dI) vwCl [(ou, .inl (cL, 1, .inr (.inl of_3)))] H := hP
    have hD : va_D A [(ou, .inl (cL, 1, .inr (.inl of_3)))] := hD
    obtain rfl : r_22 = 1 := hw_23
    refine lv_iload hx hb dL_law_2384 (lv_at hl 1 rfl) ?_
    refine lv_icmp_eq (tgt := 2391) hx hb dL_law_2386 (by decide) (fun c2386_24 => ?_) (fun c2386_24 => ?_)
    · refine lv_iload hx hb dL_law_2391 (lv_at hl 1 rfl) ?_
      refine lv_if_ne (tgt := 2408) hx hb dL_law_2393 (by decide) (fun c2393_25 => ?_) (fun c2393_25 => ?_)
      · refine lv_goto (tgt := 2778) hx hb dL_law_2408 (by decide) ?_
        refine W.widen (k := 600006) (n := 7302039) (Nat.le_of_ble_eq_true rfl) (Nat.le_of_ble_eq_true rfl) ?_
        exact law_end hx hb hr hml hX hbl hlocks hbA hAo hS (lv_sub hl [2, 7] rfl)
      · exact absurd c2393_25 (by decide)
    · exact (c2386_24 (by decide)).elim

set_option maxHeartbeats 8000000 in
set_option maxRecDepth 100000 in
/-- the law: law_33_tagLength -/
theorem law_33_tagLength {p : Program} {e : Env} {s : State} {m : MethodId} {below : List Frame} {meth : Method} {c : Code} {l : Launch} {b : Nat} {xs : Nat → Int32} (hx : p.tables.exec = Jvm.exec) (hb : c.code = cL_law) (hr : meth.sig.returnType = ret) (hml : c.maxLocals = 9) (hfl : l.stackTraces = false) (hown : s.vm.findClass RL = some m.cls) (hts : ∀ w ∈ wsL_law, w.before #[Value.ref b] s = true) (hX : va_X b 7 xs s s.heap) (hbl : b < s.heap.size) (hlocks : meth.locks = false) {A : Nat → Prop} (hbA : ¬ A b) (hAo : ∀ q, A q → s.heap.size ≤ q) (hA : ∀ q : Nat, s.heap.size ≤ q → A q) (dC : Nat → ClassId) (dI : Nat → Nat → Nat) (hN : nwA s) (e0 : Nat) (aK aV : Nat → Nat) (hZ : zX A s s.heap ∧ zM e0 aK aV A s s.heap) (ya ms ju rj tj ro rn tn rh th ca sa da xa wb z1 z2 jt z3 br z4 z5 z6 lk z7 z8 li bm l2 z9 bo h2 mm l1 z10 oo h1 ct cr cu cg cp co tg ts tr tk te fw fo fu xm ml cl fl rg tR ou od kn : Nat) (cI cM cS cL cD cB : ClassId) {H : Heap} {locs : List Loc} (hP : va_P (dC, dI) vwCl [(ya, .inr (16, [.ref ms, .int 0, .ref ju, .ref li, .ref ct, .ref tg, .ref fw])), (tg, .inr (14, [.int 0, .int 0, .ref ts, .ref tr, .ref tk, .ref te])), (xm, .inr (20, [.int 0, .int 0, .ref kn, .int 0, .int 0, .int 0, .ref ml, .ref cl, .ref rg, .ref tR, .ref (aK 0), .ref (aK 0), .ref fl, .int 0, .int 0, .int 0, .int 0, .int 0, .int 0, .int 0, .null]))] H) (hD : va_D A [(ya, .inr (16, [.ref ms, .int 0, .ref ju, .ref li, .ref ct, .ref tg, .ref fw])), (tg, .inr (14, [.int 0, .int 0, .ref ts, .ref tr, .ref tk, .ref te])), (xm, .inr (20, [.int 0, .int 0, .ref kn, .int 0, .int 0, .int 0, .ref ml, .ref cl, .ref rg, .ref tR, .ref (aK 0), .ref (aK 0), .ref fl, .int 0, .int 0, .int 0, .int 0, .int 0, .int 0, .int 0, .null]))]) (hK : va_K (dC, dI) vwCl [] s) (hS : va_S A s.heap H locs) {ls : Array Slot} (hl : lv_has ls 9 [(0, .ref b), (1, .ref ya), (2, .ref xm), (3, .ref ou), (4, .ref od), (5, .int 0)]) : W p l e room_1 s m #[Value.ref b] below meth c H locs 200 60000 (lw_Z below #[Value.ref b] s) (F0 m 2411 ls []) := by
  obtain ⟨s1, hs1⟩ : ∃ z, z = xs ((0 : Int32) + 1).toNatClampNeg := ⟨_, rfl⟩
  obtain ⟨s2, hs2⟩ : ∃ z, z = xs ((0 : Int32) + 2).toNatClampNeg := ⟨_, rfl⟩
  obtain ⟨s3, hs3⟩ : ∃ z, z = xs ((0 : Int32) + 3).toNatClampNeg := ⟨_, rfl⟩
  obtain ⟨s4, hs4⟩ : ∃ z, z = xs ((0 : Int32) + 4).toNatClampNeg := ⟨_, rfl⟩
  obtain ⟨s5, hs5⟩ : ∃ z, z = xs ((0 : Int32) + 5).toNatClampNeg := ⟨_, rfl⟩
  obtain ⟨s6, hs6⟩ : ∃ z, z = xs ((0 : Int32) + 6).toNatClampNeg := ⟨_, rfl⟩
  obtain ⟨ch1, hch1⟩ : ∃ z, z = (s1.toUInt32 % 65536).toInt32 := ⟨_, rfl⟩
  obtain ⟨ch2, hch2⟩ : ∃ z, z = (s2.toUInt32 % 65536).toInt32 := ⟨_, rfl⟩
  obtain ⟨ch3, hch3⟩ : ∃ z, z = (s3.toUInt32 % 65536).toInt32 := ⟨_, rfl⟩
  obtain ⟨ch4, hch4⟩ : ∃ z, z = (s4.toUInt32 % 65536).toInt32 := ⟨_, rfl⟩
  obtain ⟨ch5, hch5⟩ : ∃ z, z = (s5.toUInt32 % 65536).toInt32 := ⟨_, rfl⟩
  obtain ⟨ch6, hch6⟩ : ∃ z, z = (s6.toUInt32 % 65536).toInt32 := ⟨_, rfl⟩
  refine lv_aload_n hx hb dL_law_2411 rfl (lv_at hl 1 rfl) ?_
  have hPc := hP.sub (ws' := [(ya, .inr (16, [.ref ms, .int 0, .ref ju, .ref li, .ref ct, .ref tg, .ref fw])), (tg, .inr (14, [.int 0, .int 0, .ref ts, .ref tr, .ref tk, .ref te]))]) [0, 1] rfl
  have hDc := hD.sub (ws' := [(ya, .inr (16, [.ref ms, .int 0, .ref ju, .ref li, .ref ct, .ref tg, .ref fw])), (tg, .inr (14, [.int 0, .int 0, .ref ts, .ref tr, .ref tk, .ref te]))]) [0, 1] (by decide) rfl
  have hKc := hK.sub (tys' := []) [] rfl
  have hFc := va_free (wc := [(ya, .inr (16, [.ref ms, .int 0, .ref ju, .ref li, .ref ct, .ref tg, .ref fw])), (tg, .inr (14, [.int 0, .int 0, .ref ts, .ref tr, .ref tk, .ref te]))]) hD hS hA [0, 1] rfl
  refine vx_calli (vx_runV (As := []) (rest := []) ⟨hx, hb, hml, hown, hts⟩ (c_X11_tagLength l hfl dC dI ya ms ju li ct tg fw ts tr tk te H.size) (cwV 0 hts gL_law_X11_tagLength rfl rfl rfl (by decide +kernel) ⟨Nat.le_of_ble_eq_true rfl, Nat.le_of_ble_eq_true rfl⟩) (pcVz (zX_ok) hPc hDc hKc hN hZ.1 hS hFc (ci := 16) (q0 := 0) rfl rfl) rfl rfl hl.1 rfl (lv_room (Nat.le_of_ble_eq_true rfl)) dL_law_2412 ⟨Nat.le_of_ble_eq_true rfl, Nat.le_of_ble_eq_true rfl⟩) hS (fun q _ h => hFc q h) hFc (fun q _ h => hFc q h) (fun E9 ce9 q9 u9 t9 H9 locs9 ht9 hvm9 hp9 hE9 hz9 hk9 hS9 hc9 hv9 hcl9 => hE9.elim) (fun r_1 u t H1 locs ht hvm hw_2 hB hz1 hk1 hS => ?_)
  obtain ⟨hP1, hK1, hD1⟩ := hB
  rw [ht] at hP1
  try dsimp only at hw_2
  obtain ⟨hP, hD⟩ := va_join (wr := [(xm, .inr (20, [.int 0, .int 0, .ref kn, .int 0, .int 0, .int 0, .ref ml, .ref cl, .ref rg, .ref tR, .ref (aK 0), .ref (aK 0), .ref fl, .int 0, .int 0, .int 0, .int 0, .int 0, .int 0, .int 0, .null]))]) (w1 := []) hP hD [0, 1] [2] rfl rfl (by decide) (by decide) hk1 hFc hP1 hD1
  generalize H1 = H at hP hS ⊢
  have hP : va_P (dC, dI) vwCl [(xm, .inr (20, [.int 0, .int 0, .ref kn, .int 0, .int 0, .int 0, .ref ml, .ref cl, .ref rg, .ref tR, .ref (aK 0), .ref (aK 0), .ref fl, .int 0, .int 0, .int 0, .int 0, .int 0, .int 0, .int 0, .null]))] H := hP
  have hD : va_D A [(xm, .inr (20, [.int 0, .int 0, .ref kn, .int 0, .int 0, .int 0, .ref ml, .ref cl, .ref rg, .ref tR, .ref (aK 0), .ref (aK 0), .ref fl, .int 0, .int 0, .int 0, .int 0, .int 0, .int 0, .int 0, .null]))] := hD
  obtain rfl : r_1 = 0 := hw_2
  refine lv_aload_n hx hb dL_law_2415 rfl (lv_at hl 2 rfl) ?_
  have hPc := hP.sub (ws' := [(xm, .inr (20, [.int 0, .int 0, .ref kn, .int 0, .int 0, .int 0, .ref ml, .ref cl, .ref rg, .ref tR, .ref (aK 0), .ref (aK 0), .ref fl, .int 0, .int 0, .int 0, .int 0, .int 0, .int 0, .int 0, .null]))]) [0] rfl
  have hDc := hD.sub (ws' := [(xm, .inr (20, [.int 0, .int 0, .ref kn, .int 0, .int 0, .int 0, .ref ml, .ref cl, .ref rg, .ref tR, .ref (aK 0), .ref (aK 0), .ref fl, .int 0, .int 0, .int 0, .int 0, .int 0, .int 0, .int 0, .null]))]) [0] (by decide) rfl
  have hKc := hK.sub (tys' := []) [] rfl
  have hFc := va_free (wc := [(xm, .inr (20, [.int 0, .int 0, .ref kn, .int 0, .int 0, .int 0, .ref ml, .ref cl, .ref rg, .ref tR, .ref (aK 0), .ref (aK 0), .ref fl, .int 0, .int 0, .int 0, .int 0, .int 0, .int 0, .int 0, .null]))]) hD hS hA [0] rfl
  refine va_calli (va_runV (As := []) (rest := [.int 0]) ⟨hx, hb, hml, hown, hts⟩ (c_X15_tagLength l dC dI xm ml cl fl kn rg tR e0 aK aV H.size) (cwV 0 hts gL_law_X15_tagLength rfl rfl rfl (by decide +kernel) ⟨Nat.le_of_ble_eq_true rfl, Nat.le_of_ble_eq_true rfl⟩) (pcVz (zM_ok e0 aK aV) hPc hDc hKc hN hZ.2 hS hFc (ci := 20) (q0 := 0) rfl rfl) rfl rfl hl.1 rfl (lv_room (Nat.le_of_ble_eq_true rfl)) dL_law_2416 ⟨Nat.le_of_ble_eq_true rfl, Nat.le_of_ble_eq_true rfl⟩) hS (fun q _ h => hFc q h) hFc (fun r_4 u t H1 locs ht hvm hw_5 hB hz1 hk1 hS => ?_)
  obtain ⟨hP1, hK1, hD1⟩ := hB
  rw [ht] at hP1
  try dsimp only at hw_5
  obtain ⟨hP, hD⟩ := va_join (wr := []) (w1 := [(xm, .inr (20, u))]) hP hD [0] [] rfl rfl (by decide) (by decide) hk1 hFc hP1 hD1
  generalize H1 = H at hP hS ⊢
  have hP : va_P (dC, dI) vwCl [(xm, .inr (20, u))] H := hP
  have hD : va_D A [(xm, .inr (20, u))] := hD
  obtain ⟨fs_3, efs_3⟩ : ∃ z, z = u := ⟨_, rfl⟩
  subst efs_3
  have hP : va_P (dC, dI) vwCl [(xm, .inr (20, fs_3))] H := hP
  have hD : va_D A [(xm, .inr (20, fs_3))] := hD
  obtain rfl : r_4 = 0 := hw_5.2
  refine lv_icmp_eq (tgt := 2778) hx hb dL_law_2419 (by decide) (fun c2419_6 => ?_) (fun c2419_6 => ?_)
  · refine W.widen (k := 600006) (n := 7302039) (Nat.le_of_ble_eq_true rfl) (Nat.le_of_ble_eq_true rfl) ?_
    exact law_end hx hb hr hml hX hbl hlocks hbA hAo hS (lv_sub hl [0, 5] rfl)
  · exact (c2419_6 (by decide)).elim

set_option maxHeartbeats 8000000 in
set_option maxRecDepth 100000 in
/-- the law: law_34_tagLetter -/
theorem law_34_tagLetter {p : Program} {e : Env} {s : State} {m : MethodId} {below : List Frame} {meth : Method} {c : Code} {l : Launch} {b : Nat} {xs : Nat → Int32} (hx : p.tables.exec = Jvm.exec) (hb : c.code = cL_law) (hr : meth.sig.returnType = ret) (hml : c.maxLocals = 9) (hfl : l.stackTraces = false) (hown : s.vm.findClass RL = some m.cls) (hts : ∀ w ∈ wsL_law, w.before #[Value.ref b] s = true) (hX : va_X b 7 xs s s.heap) (hbl : b < s.heap.size) (hlocks : meth.locks = false) {A : Nat → Prop} (hbA : ¬ A b) (hAo : ∀ q, A q → s.heap.size ≤ q) (hA : ∀ q : Nat, s.heap.size ≤ q → A q) (dC : Nat → ClassId) (dI : Nat → Nat → Nat) (hN : nwA s) (e0 : Nat) (aK aV : Nat → Nat) (hZ : zX A s s.heap ∧ zM e0 aK aV A s s.heap) (ya ms ju rj tj ro rn tn rh th ca sa da xa wb z1 z2 jt z3 br z4 z5 z6 lk z7 z8 li bm l2 z9 bo h2 mm l1 z10 oo h1 ct cr cu cg cp co tg ts tr tk te fw fo fu xm ml cl fl rg tR ou od kn : Nat) (cI cM cS cL cD cB : ClassId) {H : Heap} {locs : List Loc} (hP : va_P (dC, dI) vwCl [(ya, .inr (16, [.ref ms, .int 0, .ref ju, .ref li, .ref ct, .ref tg, .ref fw])), (tg, .inr (14, [.int 0, .int 0, .ref ts, .ref tr, .ref tk, .ref te])), (ou, .inl (cL, 1, .inr (.inl (fun _ => 0)))), (xm, .inr (20, [.int 0, .int 0, .ref kn, .int 0, .int 0, .int 0, .ref ml, .ref cl, .ref rg, .ref tR, .ref (aK 0), .ref (aK 0), .ref fl, .int 0, .int 0, .int 0, .int 0, .int 0, .int 0, .int 0, .null]))] H) (hD : va_D A [(ya, .inr (16, [.ref ms, .int 0, .ref ju, .ref li, .ref ct, .ref tg, .ref fw])), (tg, .inr (14, [.int 0, .int 0, .ref ts, .ref tr, .ref tk, .ref te])), (ou, .inl (cL, 1, .inr (.inl (fun _ => 0)))), (xm, .inr (20, [.int 0, .int 0, .ref kn, .int 0, .int 0, .int 0, .ref ml, .ref cl, .ref rg, .ref tR, .ref (aK 0), .ref (aK 0), .ref fl, .int 0, .int 0, .int 0, .int 0, .int 0, .int 0, .int 0, .null]))]) (hK : va_K (dC, dI) vwCl [(cL, .long)] s) (hS : va_S A s.heap H locs) {ls : Array Slot} (hl : lv_has ls 9 [(0, .ref b), (1, .ref ya), (2, .ref xm), (3, .ref ou), (4, .ref od), (5, .int 0)]) : W p l e room_1 s m #[Value.ref b] below meth c H locs 200 60000 (lw_Z below #[Value.ref b] s) (F0 m 2424 ls []) := by
  obtain ⟨s1, hs1⟩ : ∃ z, z = xs ((0 : Int32) + 1).toNatClampNeg := ⟨_, rfl⟩
  obtain ⟨s2, hs2⟩ : ∃ z, z = xs ((0 : Int32) + 2).toNatClampNeg := ⟨_, rfl⟩
  obtain ⟨s3, hs3⟩ : ∃ z, z = xs ((0 : Int32) + 3).toNatClampNeg := ⟨_, rfl⟩
  obtain ⟨s4, hs4⟩ : ∃ z, z = xs ((0 : Int32) + 4).toNatClampNeg := ⟨_, rfl⟩
  obtain ⟨s5, hs5⟩ : ∃ z, z = xs ((0 : Int32) + 5).toNatClampNeg := ⟨_, rfl⟩
  obtain ⟨s6, hs6⟩ : ∃ z, z = xs ((0 : Int32) + 6).toNatClampNeg := ⟨_, rfl⟩
  obtain ⟨ch1, hch1⟩ : ∃ z, z = (s1.toUInt32 % 65536).toInt32 := ⟨_, rfl⟩
  obtain ⟨ch2, hch2⟩ : ∃ z, z = (s2.toUInt32 % 65536).toInt32 := ⟨_, rfl⟩
  obtain ⟨ch3, hch3⟩ : ∃ z, z = (s3.toUInt32 % 65536).toInt32 := ⟨_, rfl⟩
  obtain ⟨ch4, hch4⟩ : ∃ z, z = (s4.toUInt32 % 65536).toInt32 := ⟨_, rfl⟩
  obtain ⟨ch5, hch5⟩ : ∃ z, z = (s5.toUInt32 % 65536).toInt32 := ⟨_, rfl⟩
  obtain ⟨ch6, hch6⟩ : ∃ z, z = (s6.toUInt32 % 65536).toInt32 := ⟨_, rfl⟩
  refine lv_aload_n hx hb dL_law_2424 rfl (lv_at hl 1 rfl) ?_
  refine lv_aload_n hx hb dL_law_2425 rfl (lv_at hl 0 rfl) ?_
  refine lv_iload hx hb dL_law_2426 (lv_at hl 5 rfl) ?_
  refine lv_iconst (v := 1) hx hb dL_law_2428 (by decide) ?_
  refine lv_iadd hx hb dL_law_2429 ?_
  refine va_sld hx hb hX hbl hbA hS sx1 dL_law_2430 ?_
  refine lv_topi (fun x_1 ex_1 => ?_)
  obtain rfl : s1 = x_1 := (show x_1 = s1 from ex_1.trans hs1.symm).symm
  refine lv_aload_n hx hb dL_law_2431 rfl (lv_at hl 3 rfl) ?_
  have hPc := hP.sub (ws' := [(ya, .inr (16, [.ref ms, .int 0, .ref ju, .ref li, .ref ct, .ref tg, .ref fw])), (tg, .inr (14, [.int 0, .int 0, .ref ts, .ref tr, .ref tk, .ref te])), (ou, .inl (cL, 1, .inr (.inl (fun _ => 0))))]) [0, 1, 2] rfl
  have hDc := hD.sub (ws' := [(ya, .inr (16, [.ref ms, .int 0, .ref ju, .ref li, .ref ct, .ref tg, .ref fw])), (tg, .inr (14, [.int 0, .int 0, .ref ts, .ref tr, .ref tk, .ref te])), (ou, .inl (cL, 1, .inr (.inl (fun _ => 0))))]) [0, 1, 2] (by decide) rfl
  have hKc := hK.sub (tys' := [(cL, .long)]) [0] rfl
  have hFc := va_free (wc := [(ya, .inr (16, [.ref ms, .int 0, .ref ju, .ref li, .ref ct, .ref tg, .ref fw])), (tg, .inr (14, [.int 0, .int 0, .ref ts, .ref tr, .ref tk, .ref te])), (ou, .inl (cL, 1, .inr (.inl (fun _ => 0))))]) hD hS hA [0, 1, 2] rfl
  refine vx_calli (vx_runSX (As := [.ref ya, .int s1, .ref ou]) (rest := []) ⟨hx, hb, hml, hown, hts⟩ (c_L_tagLetter l hfl dC dI ya ms ju li ct tg fw ts tr tk te s1 cL ou (fun _ => 0) H.size) (vx_cwSW 3 hts gL_law_L_tagLetter rfl rfl rfl (by decide +kernel) ⟨Nat.le_of_ble_eq_true rfl, Nat.le_of_ble_eq_true rfl⟩) (pcSz (zX_ok) hPc hDc hKc hN hZ.1 hS hFc) rfl rfl hl.1 rfl (lv_room (Nat.le_of_ble_eq_true rfl)) dL_law_2432 ⟨Nat.le_of_ble_eq_true rfl, Nat.le_of_ble_eq_true rfl⟩) hS (fun q _ h => hFc q h) hFc (fun q _ h => hFc q h) (fun E9 ce9 q9 u9 t9 H9 locs9 ht9 hvm9 hp9 hE9 hz9 hk9 hS9 hc9 hv9 hcl9 => hE9.elim) (fun r_3 u t H1 locs ht hvm hw_4 hB hz1 hk1 hS => ?_)
  obtain ⟨hP1, hK1, hD1⟩ := hB
  rw [ht] at hP1
  try dsimp only at hw_4
  obtain ⟨hP, hD⟩ := va_join (wr := [(xm, .inr (20, [.int 0, .int 0, .ref kn, .int 0, .int 0, .int 0, .ref ml, .ref cl, .ref rg, .ref tR, .ref (aK 0), .ref (aK 0), .ref fl, .int 0, .int 0, .int 0, .int 0, .int 0, .int 0, .int 0, .null]))]) (w1 := [(ou, .inl (cL, 1, .inr (.inl u)))]) hP hD [0, 1, 2] [3] rfl rfl (by decide) (by decide) hk1 hFc hP1 hD1
  generalize H1 = H at hP hS ⊢
  have hP : va_P (dC, dI) vwCl [(xm, .inr (20, [.int 0, .int 0, .ref kn, .int 0, .int 0, .int 0, .ref ml, .ref cl, .ref rg, .ref tR, .ref (aK 0), .ref (aK 0), .ref fl, .int 0, .int 0, .int 0, .int 0, .int 0, .int 0, .int 0, .null])), (ou, .inl (cL, 1, .inr (.inl u)))] H := hP
  have hD : va_D A [(xm, .inr (20, [.int 0, .int 0, .ref kn, .int 0, .int 0, .int 0, .ref ml, .ref cl, .ref rg, .ref tR, .ref (aK 0), .ref (aK 0), .ref fl, .int 0, .int 0, .int 0, .int 0, .int 0, .int 0, .int 0, .null])), (ou, .inl (cL, 1, .inr (.inl u)))] := hD
  refine W.widen (k := 201) (n := 60006) (Nat.le_of_ble_eq_true rfl) (Nat.le_of_ble_eq_true rfl) ?_
  obtain ⟨of_2, eof_2⟩ : ∃ z, z = u := ⟨_, rfl⟩
  subst eof_2
  have hP : va_P (dC, dI) vwCl [(xm, .inr (20, [.int 0, .int 0, .ref kn, .int 0, .int 0, .int 0, .ref ml, .ref cl, .ref rg, .ref tR, .ref (aK 0), .ref (aK 0), .ref fl, .int 0, .int 0, .int 0, .int 0, .int 0, .int 0, .int 0, .null])), (ou, .inl (cL, 1, .inr (.inl of_2)))] H := hP
  have hD : va_D A [(xm, .inr (20, [.int 0, .int 0, .ref kn, .int 0, .int 0, .int 0, .ref ml, .ref cl, .ref rg, .ref tR, .ref (aK 0), .ref (aK 0), .ref fl, .int 0, .int 0, .int 0, .int 0, .int 0, .int 0, .int 0, .null])), (ou, .inl (cL, 1, .inr (.inl of_2)))] := hD
  obtain rfl : r_3 = 1 := hw_4
  refine lv_istore (lv' := [(6, .int 1), (0, .ref b), (1, .ref ya), (2, .ref xm), (3, .ref ou), (4, .ref od), (5, .int 0)]) hx hb dL_law_2435 hl (by decide) rfl (fun ls hl => ?_)
  refine lv_aload_n hx hb dL_law_2437 rfl (lv_at hl 3 rfl) ?_
  refine lv_aload_n hx hb dL_law_2438 rfl (lv_at hl 1 rfl) ?_
  refine lv_iload hx hb dL_law_2439 (lv_at hl 6 rfl) ?_
  refine lv_iconst (v := 1) hx hb dL_law_2441 (by decide) ?_
  refine lv_iadd hx hb dL_law_2442 ?_
  refine va_sld hx hb hX hbl hbA hS sx1 dL_law_2443 ?_
  refine lv_topi (fun x_5 ex_5 => ?_)
  obtain rfl : s1 = x_5 := (show x_5 = s1 from ex_5.trans hs1.symm).symm
  have hPc := hP.sub (ws' := [(xm, .inr (20, [.int 0, .int 0, .ref kn, .int 0, .int 0, .int 0, .ref ml, .ref cl, .ref rg, .ref tR, .ref (aK 0), .ref (aK 0), .ref fl, .int 0, .int 0, .int 0, .int 0, .int 0, .int 0, .int 0, .null]))]) [0] rfl
  have hDc := hD.sub (ws' := [(xm, .inr (20, [.int 0, .int 0, .ref kn, .int 0, .int 0, .int 0, .ref ml, .ref cl, .ref rg, .ref tR, .ref (aK 0), .ref (aK 0), .ref fl, .int 0, .int 0, .int 0, .int 0, .int 0, .int 0, .int 0, .null]))]) [0] (by decide) rfl
  have hKc := hK.sub (tys' := []) [] rfl
  have hFc := va_free (wc := [(xm, .inr (20, [.int 0, .int 0, .ref kn, .int 0, .int 0, .int 0, .ref ml, .ref cl, .ref rg, .ref tR, .ref (aK 0), .ref (aK 0), .ref fl, .int 0, .int 0, .int 0, .int 0, .int 0, .int 0, .int 0, .null]))]) hD hS hA [0] rfl
  refine va_calli (va_runV (As := [.int s1]) (rest := []) ⟨hx, hb, hml, hown, hts⟩ (c_X15_tagLetter l dC dI xm ml cl fl kn rg tR e0 aK aV s1 H.size) (cwV 1 hts gL_law_X15_tagLetter rfl rfl rfl (by decide +kernel) ⟨Nat.le_of_ble_eq_true rfl, Nat.le_of_ble_eq_true rfl⟩) (pcVz (zM_ok e0 aK aV) hPc hDc hKc hN hZ.2 hS hFc (ci := 20) (q0 := 0) rfl rfl) rfl rfl hl.1 rfl (lv_room (Nat.le_of_ble_eq_true rfl)) dL_law_2444 ⟨Nat.le_of_ble_eq_true rfl, Nat.le_of_ble_eq_true rfl⟩) hS (fun q _ h => hFc q h) hFc (fun r_7 u t H1 locs ht hvm hw_8 hB hz1 hk1 hS => ?_)
  obtain ⟨hP1, hK1, hD1⟩ := hB
  rw [ht] at hP1
  try dsimp only at hw_8
  obtain ⟨hP, hD⟩ := va_join (wr := [(ou, .inl (cL, 1, .inr (.inl of_2)))]) (w1 := [(xm, .inr (20, u))]) hP hD [0] [1] rfl rfl (by decide) (by decide) hk1 hFc hP1 hD1
  generalize H1 = H at hP hS ⊢
  have hP : va_P (dC, dI) vwCl [(ou, .inl (cL, 1, .inr (.inl of_2))), (xm, .inr (20, u))] H := hP
  have hD : va_D A [(ou, .inl (cL, 1, .inr (.inl of_2))), (xm, .inr (20, u))] := hD
  obtain ⟨fs_6, efs_6⟩ : ∃ z, z = u := ⟨_, rfl⟩
  subst efs_6
  have hP : va_P (dC, dI) vwCl [(ou, .inl (cL, 1, .inr (.inl of_2))), (xm, .inr (20, fs_6))] H := hP
  have hD : va_D A [(ou, .inl (cL, 1, .inr (.inl of_2))), (xm, .inr (20, fs_6))] := hD
  refine lv_istore (lv' := [(7, .int r_7), (6, .int 1), (0, .ref b), (1, .ref ya), (2, .ref xm), (3, .ref ou), (4, .ref od), (5, .int 0)]) hx hb dL_law_2447 hl (by decide) rfl (fun ls hl => ?_)
  refine lv_aload_n hx hb dL_law_2449 rfl (lv_at hl 4 rfl) ?_
  have hPc := hP.sub (ws' := [(xm, .inr (20, fs_6))]) [1] rfl
  have hDc := hD.sub (ws' := [(xm, .inr (20, fs_6))]) [1] (by decide) rfl
  have hKc := hK.sub (tys' := []) [] rfl
  have hFc := va_free (wc := [(xm, .inr (20, fs_6))]) hD hS hA [1] rfl
  refine va_calli (va_runV (As := []) (rest := []) ⟨hx, hb, hml, hown, hts⟩ (c_X15_thrown l dC dI xm fs_6 1 hw_8 H.size) (cwV 0 hts gL_law_X15_thrown rfl rfl rfl (by decide +kernel) ⟨Nat.le_of_ble_eq_true rfl, Nat.le_of_ble_eq_true rfl⟩) (pcV hPc hDc hKc hN (ci := 20) (q0 := 0) rfl rfl) rfl rfl hl.1 rfl (lv_room (Nat.le_of_ble_eq_true rfl)) dL_law_2450 ⟨Nat.le_of_ble_eq_true rfl, Nat.le_of_ble_eq_true rfl⟩) hS (fun q _ h => hFc q h) hFc (fun r_9 u t H1 locs ht hvm hw_10 hB hz1 hk1 hS => ?_)
  obtain ⟨hP1, hK1, hD1⟩ := hB
  rw [ht] at hP1
  try dsimp only at hw_10
  obtain ⟨hP, hD⟩ := va_join (wr := [(ou, .inl (cL, 1, .inr (.inl of_2)))]) (w1 := []) hP hD [1] [0] rfl rfl (by decide) (by decide) hk1 hFc hP1 hD1
  generalize H1 = H at hP hS ⊢
  have hP : va_P (dC, dI) vwCl [(ou, .inl (cL, 1, .inr (.inl of_2)))] H := hP
  have hD : va_D A [(ou, .inl (cL, 1, .inr (.inl of_2)))] := hD
  obtain rfl : r_9 = 1 := hw_10
  refine lv_iload hx hb dL_law_2453 (lv_at hl 1 rfl) ?_
  refine lv_icmp_eq (tgt := 2460) hx hb dL_law_2455 (by decide) (fun c2455_11 => ?_) (fun c2455_11 => ?_)
  · refine lv_iload hx hb dL_law_2460 (lv_at hl 1 rfl) ?_
    refine lv_if_ne (tgt := 2477) hx hb dL_law_2462 (by decide) (fun c2462_12 => ?_) (fun c2462_12 => ?_)
    · refine lv_goto (tgt := 2778) hx hb dL_law_2477 (by decide) ?_
      refine W.widen (k := 600006) (n := 7302039) (Nat.le_of_ble_eq_true rfl) (Nat.le_of_ble_eq_true rfl) ?_
      exact law_end hx hb hr hml hX hbl hlocks hbA hAo hS (lv_sub hl [2, 7] rfl)
    · exact absurd c2462_12 (by decide)
  · exact (c2455_11 (by decide)).elim

set_option maxHeartbeats 8000000 in
set_option maxRecDepth 100000 in
/-- the law: law_35_fraction -/
theorem law_35_fraction {p : Program} {e : Env} {s : State} {m : MethodId} {below : List Frame} {meth : Method} {c : Code} {l : Launch} {b : Nat} {xs : Nat → Int32} (hx : p.tables.exec = Jvm.exec) (hb : c.code = cL_law) (hr : meth.sig.returnType = ret) (hml : c.maxLocals = 9) (hfl : l.stackTraces = false) (hown : s.vm.findClass RL = some m.cls) (hts : ∀ w ∈ wsL_law, w.before #[Value.ref b] s = true) (hX : va_X b 7 xs s s.heap) (hbl : b < s.heap.size) (hlocks : meth.locks = false) {A : Nat → Prop} (hbA : ¬ A b) (hAo : ∀ q, A q → s.heap.size ≤ q) (hA : ∀ q : Nat, s.heap.size ≤ q → A q) (dC : Nat → ClassId) (dI : Nat → Nat → Nat) (hN : nwA s) (e0 : Nat) (aK aV : Nat → Nat) (hZ : zX A s s.heap ∧ zM e0 aK aV A s s.heap) (ya ms ju rj tj ro rn tn rh th ca sa da xa wb z1 z2 jt z3 br z4 z5 z6 lk z7 z8 li bm l2 z9 bo h2 mm l1 z10 oo h1 ct cr cu cg cp co tg ts tr tk te fw fo fu xm ml cl fl rg tR ou od kn : Nat) (cI cM cS cL cD cB : ClassId) {H : Heap} {locs : List Loc} (hP : va_P (dC, dI) vwCl [(ya, .inr (16, [.ref ms, .int 0, .ref ju, .ref li, .ref ct, .ref tg, .ref fw])), (fw, .inr (6, [.int 0, .int 0, .int 0, .long 0, .ref fo, .ref fu])), (fo, .inl (cI, 10, .inl (fun _ => 0))), (fu, .inl (cI, 10, .inl (fun _ => 0))), (ou, .inl (cL, 1, .inr (.inl (fun _ => 0)))), (xm, .inr (20, [.int 0, .int 0, .ref kn, .int 0, .int 0, .int 0, .ref ml, .ref cl, .ref rg, .ref tR, .ref (aK 0), .ref (aK 0), .ref fl, .int 0, .int 0, .int 0, .int 0, .int 0, .int 0, .int 0, .null])), (fl, .inr (4, [.int 0, .ref e0, .int 0]))] H) (hD : va_D A [(ya, .inr (16, [.ref ms, .int 0, .ref ju, .ref li, .ref ct, .ref tg, .ref fw])), (fw, .inr (6, [.int 0, .int 0, .int 0, .long 0, .ref fo, .ref fu])), (fo, .inl (cI, 10, .inl (fun _ => 0))), (fu, .inl (cI, 10, .inl (fun _ => 0))), (ou, .inl (cL, 1, .inr (.inl (fun _ => 0)))), (xm, .inr (20, [.int 0, .int 0, .ref kn, .int 0, .int 0, .int 0, .ref ml, .ref cl, .ref rg, .ref tR, .ref (aK 0), .ref (aK 0), .ref fl, .int 0, .int 0, .int 0, .int 0, .int 0, .int 0, .int 0, .null])), (fl, .inr (4, [.int 0, .ref e0, .int 0]))]) (hK : va_K (dC, dI) vwCl [(cI, .int), (cL, .long)] s) (hS : va_S A s.heap H locs) {ls : Array Slot} (hl : lv_has ls 9 [(0, .ref b), (1, .ref ya), (2, .ref xm), (3, .ref ou), (4, .ref od), (5, .int 0)]) : W p l e room_1 s m #[Value.ref b] below meth c H locs 200 60000 (lw_Z below #[Value.ref b] s) (F0 m 2480 ls []) := by
  obtain ⟨s1, hs1⟩ : ∃ z, z = xs ((0 : Int32) + 1).toNatClampNeg := ⟨_, rfl⟩
  obtain ⟨s2, hs2⟩ : ∃ z, z = xs ((0 : Int32) + 2).toNatClampNeg := ⟨_, rfl⟩
  obtain ⟨s3, hs3⟩ : ∃ z, z = xs ((0 : Int32) + 3).toNatClampNeg := ⟨_, rfl⟩
  obtain ⟨s4, hs4⟩ : ∃ z, z = xs ((0 : Int32) + 4).toNatClampNeg := ⟨_, rfl⟩
  obtain ⟨s5, hs5⟩ : ∃ z, z = xs ((0 : Int32) + 5).toNatClampNeg := ⟨_, rfl⟩
  obtain ⟨s6, hs6⟩ : ∃ z, z = xs ((0 : Int32) + 6).toNatClampNeg := ⟨_, rfl⟩
  obtain ⟨ch1, hch1⟩ : ∃ z, z = (s1.toUInt32 % 65536).toInt32 := ⟨_, rfl⟩
  obtain ⟨ch2, hch2⟩ : ∃ z, z = (s2.toUInt32 % 65536).toInt32 := ⟨_, rfl⟩
  obtain ⟨ch3, hch3⟩ : ∃ z, z = (s3.toUInt32 % 65536).toInt32 := ⟨_, rfl⟩
  obtain ⟨ch4, hch4⟩ : ∃ z, z = (s4.toUInt32 % 65536).toInt32 := ⟨_, rfl⟩
  obtain ⟨ch5, hch5⟩ : ∃ z, z = (s5.toUInt32 % 65536).toInt32 := ⟨_, rfl⟩
  obtain ⟨ch6, hch6⟩ : ∃ z, z = (s6.toUInt32 % 65536).toInt32 := ⟨_, rfl⟩
  refine lv_aload_n hx hb dL_law_2480 rfl (lv_at hl 1 rfl) ?_
  refine lv_aload_n hx hb dL_law_2481 rfl (lv_at hl 0 rfl) ?_
  refine lv_iload hx hb dL_law_2482 (lv_at hl 5 rfl) ?_
  refine lv_iconst (v := 1) hx hb dL_law_2484 (by decide) ?_
  refine lv_iadd hx hb dL_law_2485 ?_
  refine va_sld hx hb hX hbl hbA hS sx1 dL_law_2486 ?_
  refine lv_topi (fun x_1 ex_1 => ?_)
  obtain rfl : s1 = x_1 := (show x_1 = s1 from ex_1.trans hs1.symm).symm
  refine lv_aload_n hx hb dL_law_2487 rfl (lv_at hl 0 rfl) ?_
  refine lv_iload hx hb dL_law_2488 (lv_at hl 5 rfl) ?_
  refine lv_iconst (v := 2) hx hb dL_law_2490 (by decide) ?_
  refine lv_iadd hx hb dL_law_2491 ?_
  refine va_sld hx hb hX hbl hbA hS sx2 dL_law_2492 ?_
  refine lv_topi (fun x_2 ex_2 => ?_)
  obtain rfl : s2 = x_2 := (show x_2 = s2 from ex_2.trans hs2.symm).symm
  refine lv_aload_n hx hb dL_law_2493 rfl (lv_at hl 3 rfl) ?_
  have hPc := hP.sub (ws' := [(ya, .inr (16, [.ref ms, .int 0, .ref ju, .ref li, .ref ct, .ref tg, .ref fw])), (fw, .inr (6, [.int 0, .int 0, .int 0, .long 0, .ref fo, .ref fu])), (fo, .inl (cI, 10, .inl (fun _ => 0))), (fu, .inl (cI, 10, .inl (fun _ => 0))), (ou, .inl (cL, 1, .inr (.inl (fun _ => 0))))]) [0, 1, 2, 3, 4] rfl
  have hDc := hD.sub (ws' := [(ya, .inr (16, [.ref ms, .int 0, .ref ju, .ref li, .ref ct, .ref tg, .ref fw])), (fw, .inr (6, [.int 0, .int 0, .int 0, .long 0, .ref fo, .ref fu])), (fo, .inl (cI, 10, .inl (fun _ => 0))), (fu, .inl (cI, 10, .inl (fun _ => 0))), (ou, .inl (cL, 1, .inr (.inl (fun _ => 0))))]) [0, 1, 2, 3, 4] (by decide) rfl
  have hKc := hK.sub (tys' := [(cI, .int), (cL, .long)]) [0, 1] rfl
  have hFc := va_free (wc := [(ya, .inr (16, [.ref ms, .int 0, .ref ju, .ref li, .ref ct, .ref tg, .ref fw])), (fw, .inr (6, [.int 0, .int 0, .int 0, .long 0, .ref fo, .ref fu])), (fo, .inl (cI, 10, .inl (fun _ => 0))), (fu, .inl (cI, 10, .inl (fun _ => 0))), (ou, .inl (cL, 1, .inr (.inl (fun _ => 0))))]) hD hS hA [0, 1, 2, 3, 4] rfl
  refine vx_calli (vx_runSX (As := [.ref ya, .int s1, .int s2, .ref ou]) (rest := []) ⟨hx, hb, hml, hown, hts⟩ (c_L_fraction l hfl dC dI cI ya ms ju li ct tg fw fo fu 0 0 0 (fun _ => 0) (fun _ => 0) s1 s2 cL ou (fun _ => 0) H.size) (vx_cwSW 4 hts gL_law_L_fraction rfl rfl rfl (by decide +kernel) ⟨Nat.le_of_ble_eq_true rfl, Nat.le_of_ble_eq_true rfl⟩) (pcSz (zX_ok) hPc hDc hKc hN hZ.1 hS hFc) rfl rfl hl.1 rfl (lv_room (Nat.le_of_ble_eq_true rfl)) dL_law_2494 ⟨Nat.le_of_ble_eq_true rfl, Nat.le_of_ble_eq_true rfl⟩) hS (fun q _ h => hFc q h) hFc (fun q _ h => hFc q h) (fun E9 ce9 q9 u9 t9 H9 locs9 ht9 hvm9 hp9 hE9 hz9 hk9 hS9 hc9 hv9 hcl9 => hE9.elim) (fun r_4 u t H1 locs ht hvm hw_5 hB hz1 hk1 hS => ?_)
  obtain ⟨hP1, hK1, hD1⟩ := hB
  rw [ht] at hP1
  try dsimp only at hw_5
  obtain ⟨hP, hD⟩ := va_join (wr := [(xm, .inr (20, [.int 0, .int 0, .ref kn, .int 0, .int 0, .int 0, .ref ml, .ref cl, .ref rg, .ref tR, .ref (aK 0), .ref (aK 0), .ref fl, .int 0, .int 0, .int 0, .int 0, .int 0, .int 0, .int 0, .null])), (fl, .inr (4, [.int 0, .ref e0, .int 0]))]) (w1 := [(ou, .inl (cL, 1, .inr (.inl u)))]) hP hD [0, 1, 2, 3, 4] [5, 6] rfl rfl (by decide) (by decide) hk1 hFc hP1 hD1
  generalize H1 = H at hP hS ⊢
  have hP : va_P (dC, dI) vwCl [(xm, .inr (20, [.int 0, .int 0, .ref kn, .int 0, .int 0, .int 0, .ref ml, .ref cl, .ref rg, .ref tR, .ref (aK 0), .ref (aK 0), .ref fl, .int 0, .int 0, .int 0, .int 0, .int 0, .int 0, .int 0, .null])), (fl, .inr (4, [.int 0, .ref e0, .int 0])), (ou, .inl (cL, 1, .inr (.inl u)))] H := hP
  have hD : va_D A [(xm, .inr (20, [.int 0, .int 0, .ref kn, .int 0, .int 0, .int 0, .ref ml, .ref cl, .ref rg, .ref tR, .ref (aK 0), .ref (aK 0), .ref fl, .int 0, .int 0, .int 0, .int 0, .int 0, .int 0, .int 0, .null])), (fl, .inr (4, [.int 0, .ref e0, .int 0])), (ou, .inl (cL, 1, .inr (.inl u)))] := hD
  refine W.widen (k := 201) (n := 60006) (Nat.le_of_ble_eq_true rfl) (Nat.le_of_ble_eq_true rfl) ?_
  obtain ⟨of_3, eof_3⟩ : ∃ z, z = u := ⟨_, rfl⟩
  subst eof_3
  have hP : va_P (dC, dI) vwCl [(xm, .inr (20, [.int 0, .int 0, .ref kn, .int 0, .int 0, .int 0, .ref ml, .ref cl, .ref rg, .ref tR, .ref (aK 0), .ref (aK 0), .ref fl, .int 0, .int 0, .int 0, .int 0, .int 0, .int 0, .int 0, .null])), (fl, .inr (4, [.int 0, .ref e0, .int 0])), (ou, .inl (cL, 1, .inr (.inl of_3)))] H := hP
  have hD : va_D A [(xm, .inr (20, [.int 0, .int 0, .ref kn, .int 0, .int 0, .int 0, .ref ml, .ref cl, .ref rg, .ref tR, .ref (aK 0), .ref (aK 0), .ref fl, .int 0, .int 0, .int 0, .int 0, .int 0, .int 0, .int 0, .null])), (fl, .inr (4, [.int 0, .ref e0, .int 0])), (ou, .inl (cL, 1, .inr (.inl of_3)))] := hD
  rcases hw_5 with ⟨hr0, hPP, hv0⟩ | ⟨hr0, hPP⟩
  · obtain rfl : r_4 = 0 := hr0
    refine lv_istore (lv' := [(6, .int 0), (0, .ref b), (1, .ref ya), (2, .ref xm), (3, .ref ou), (4, .ref od), (5, .int 0)]) hx hb dL_law_2497 hl (by decide) rfl (fun ls hl => ?_)
    refine lv_aload_n hx hb dL_law_2499 rfl (lv_at hl 3 rfl) ?_
    refine lv_aload_n hx hb dL_law_2500 rfl (lv_at hl 1 rfl) ?_
    refine lv_iload hx hb dL_law_2501 (lv_at hl 6 rfl) ?_
    refine lv_iconst (v := 1) hx hb dL_law_2503 (by decide) ?_
    refine lv_iadd hx hb dL_law_2504 ?_
    refine va_sld hx hb hX hbl hbA hS sx1 dL_law_2505 ?_
    refine lv_topi (fun x_6 ex_6 => ?_)
    obtain rfl : s1 = x_6 := (show x_6 = s1 from ex_6.trans hs1.symm).symm
    refine lv_aload_n hx hb dL_law_2506 rfl (lv_at hl 1 rfl) ?_
    refine lv_iload hx hb dL_law_2507 (lv_at hl 6 rfl) ?_
    refine lv_iconst (v := 2) hx hb dL_law_2509 (by decide) ?_
    refine lv_iadd hx hb dL_law_2510 ?_
    refine va_sld hx hb hX hbl hbA hS sx2 dL_law_2511 ?_
    refine lv_topi (fun x_7 ex_7 => ?_)
    obtain rfl : s2 = x_7 := (show x_7 = s2 from ex_7.trans hs2.symm).symm
    have hPc := hP.sub (ws' := [(xm, .inr (20, [.int 0, .int 0, .ref kn, .int 0, .int 0, .int 0, .ref ml, .ref cl, .ref rg, .ref tR, .ref (aK 0), .ref (aK 0), .ref fl, .int 0, .int 0, .int 0, .int 0, .int 0, .int 0, .int 0, .null])), (fl, .inr (4, [.int 0, .ref e0, .int 0]))]) [0, 1] rfl
    have hDc := hD.sub (ws' := [(xm, .inr (20, [.int 0, .int 0, .ref kn, .int 0, .int 0, .int 0, .ref ml, .ref cl, .ref rg, .ref tR, .ref (aK 0), .ref (aK 0), .ref fl, .int 0, .int 0, .int 0, .int 0, .int 0, .int 0, .int 0, .null])), (fl, .inr (4, [.int 0, .ref e0, .int 0]))]) [0, 1] (by decide) rfl
    have hKc := hK.sub (tys' := [(cI, .int)]) [0] rfl
    have hFc := va_free (wc := [(xm, .inr (20, [.int 0, .int 0, .ref kn, .int 0, .int 0, .int 0, .ref ml, .ref cl, .ref rg, .ref tR, .ref (aK 0), .ref (aK 0), .ref fl, .int 0, .int 0, .int 0, .int 0, .int 0, .int 0, .int 0, .null])), (fl, .inr (4, [.int 0, .ref e0, .int 0]))]) hD hS hA [0, 1] rfl
    refine va_calli (va_runV (As := [.int s1, .int s2]) (rest := []) ⟨hx, hb, hml, hown, hts⟩ (c_X15_fraction l dC dI xm ml cl fl kn rg tR e0 aK aV cI s1 s2 H.size) (cwV 2 hts gL_law_X15_fraction rfl rfl rfl (by decide +kernel) ⟨Nat.le_of_ble_eq_true rfl, Nat.le_of_ble_eq_true rfl⟩) (pcVz (zM_ok e0 aK aV) hPc hDc hKc hN hZ.2 hS hFc (ci := 20) (q0 := 0) rfl rfl) rfl rfl hl.1 rfl (lv_room (Nat.le_of_ble_eq_true rfl)) dL_law_2512 ⟨Nat.le_of_ble_eq_true rfl, Nat.le_of_ble_eq_true rfl⟩) hS (fun q _ h => hFc q h) hFc (fun r_9 u t H1 locs ht hvm hw_10 hB hz1 hk1 hS => ?_)
    obtain ⟨hP1, hK1, hD1⟩ := hB
    rw [ht] at hP1
    try dsimp only at hw_10
    obtain ⟨hP, hD⟩ := va_join (wr := [(ou, .inl (cL, 1, .inr (.inl of_3)))]) (w1 := [(xm, .inr (20, u))]) hP hD [0, 1] [2] rfl rfl (by decide) (by decide) hk1 hFc hP1 hD1
    generalize H1 = H at hP hS ⊢
    have hP : va_P (dC, dI) vwCl [(ou, .inl (cL, 1, .inr (.inl of_3))), (xm, .inr (20, u))] H := hP
    have hD : va_D A [(ou, .inl (cL, 1, .inr (.inl of_3))), (xm, .inr (20, u))] := hD
    refine W.widen (k := 203) (n := 60018) (Nat.le_of_ble_eq_true rfl) (Nat.le_of_ble_eq_true rfl) ?_
    obtain ⟨fs_8, efs_8⟩ : ∃ z, z = u := ⟨_, rfl⟩
    subst efs_8
    have hP : va_P (dC, dI) vwCl [(ou, .inl (cL, 1, .inr (.inl of_3))), (xm, .inr (20, fs_8))] H := hP
    have hD : va_D A [(ou, .inl (cL, 1, .inr (.inl of_3))), (xm, .inr (20, fs_8))] := hD
    obtain ⟨ht9, hrv⟩ := hw_10.elim (fun h => h.2) (fun h => absurd hPP h.1)
    obtain rfl : r_9 = 1 := hrv
    refine lv_istore (lv' := [(7, .int 1), (6, .int 0), (0, .ref b), (1, .ref ya), (2, .ref xm), (3, .ref ou), (4, .ref od), (5, .int 0)]) hx hb dL_law_2515 hl (by decide) rfl (fun ls hl => ?_)
    refine lv_aload_n hx hb dL_law_2517 rfl (lv_at hl 4 rfl) ?_
    have hPc := hP.sub (ws' := [(xm, .inr (20, fs_8))]) [1] rfl
    have hDc := hD.sub (ws' := [(xm, .inr (20, fs_8))]) [1] (by decide) rfl
    have hKc := hK.sub (tys' := []) [] rfl
    have hFc := va_free (wc := [(xm, .inr (20, fs_8))]) hD hS hA [1] rfl
    refine va_calli (va_runV (As := []) (rest := []) ⟨hx, hb, hml, hown, hts⟩ (c_X15_thrown l dC dI xm fs_8 0 ht9 H.size) (cwV 0 hts gL_law_X15_thrown rfl rfl rfl (by decide +kernel) ⟨Nat.le_of_ble_eq_true rfl, Nat.le_of_ble_eq_true rfl⟩) (pcV hPc hDc hKc hN (ci := 20) (q0 := 0) rfl rfl) rfl rfl hl.1 rfl (lv_room (Nat.le_of_ble_eq_true rfl)) dL_law_2518 ⟨Nat.le_of_ble_eq_true rfl, Nat.le_of_ble_eq_true rfl⟩) hS (fun q _ h => hFc q h) hFc (fun r_11 u t H1 locs ht hvm hw_12 hB hz1 hk1 hS => ?_)
    obtain ⟨hP1, hK1, hD1⟩ := hB
    rw [ht] at hP1
    try dsimp only at hw_12
    obtain ⟨hP, hD⟩ := va_join (wr := [(ou, .inl (cL, 1, .inr (.inl of_3)))]) (w1 := []) hP hD [1] [0] rfl rfl (by decide) (by decide) hk1 hFc hP1 hD1
    generalize H1 = H at hP hS ⊢
    have hP : va_P (dC, dI) vwCl [(ou, .inl (cL, 1, .inr (.inl of_3)))] H := hP
    have hD : va_D A [(ou, .inl (cL, 1, .inr (.inl of_3)))] := hD
    obtain rfl : r_11 = 0 := hw_12
    refine lv_iload hx hb dL_law_2521 (lv_at hl 1 rfl) ?_
    refine lv_icmp_eq (tgt := 2528) hx hb dL_law_2523 (by decide) (fun c2523_13 => ?_) (fun c2523_13 => ?_)
    · refine lv_iload hx hb dL_law_2528 (lv_at hl 1 rfl) ?_
      refine lv_if_ne (tgt := 2545) hx hb dL_law_2530 (by decide) (fun c2530_14 => ?_) (fun c2530_14 => ?_)
      · exact (c2530_14 (by decide)).elim
      · refine lv_aload_n hx hb dL_law_2533 rfl (lv_at hl 5 rfl) ?_
        refine lv_iconst (v := 0) hx hb dL_law_2534 (by decide) ?_
        refine va_lald hx hb hK hP 0 1 rfl rfl (show vp_in (nI 0) 1 from vp_in_nI (by decide) (by decide)) dL_law_2535 ?_
        refine lv_topl (fun z_15 ez_15 => ?_)
        obtain rfl : z_15 = (1 : Int32).toInt64 := by rw [ez_15, show (0 : Int32).toNatClampNeg = 0 from by decide]; exact hv0
        refine lv_iload hx hb dL_law_2536 (lv_at hl 0 rfl) ?_
        refine lv_i2l hx hb dL_law_2538 rfl ?_
        refine W.lcmp hx hb dL_law_2539 ?_
        refine lv_if_eq (tgt := 2545) hx hb dL_law_2540 (by decide) (fun c2540_16 => ?_) (fun c2540_16 => ?_)
        · refine lv_goto (tgt := 2778) hx hb dL_law_2545 (by decide) ?_
          refine W.widen (k := 600006) (n := 7302039) (Nat.le_of_ble_eq_true rfl) (Nat.le_of_ble_eq_true rfl) ?_
          exact law_end hx hb hr hml hX hbl hlocks hbA hAo hS (lv_sub hl [2, 7] rfl)
        · exact absurd ((lg_cmp_eq _ _).mpr (by first | rfl | (subst_vars; rfl))) c2540_16
    · exact (c2523_13 (by decide)).elim
  · obtain rfl : r_4 = 1 := hr0
    refine lv_istore (lv' := [(6, .int 1), (0, .ref b), (1, .ref ya), (2, .ref xm), (3, .ref ou), (4, .ref od), (5, .int 0)]) hx hb dL_law_2497 hl (by decide) rfl (fun ls hl => ?_)
    refine lv_aload_n hx hb dL_law_2499 rfl (lv_at hl 3 rfl) ?_
    refine lv_aload_n hx hb dL_law_2500 rfl (lv_at hl 1 rfl) ?_
    refine lv_iload hx hb dL_law_2501 (lv_at hl 6 rfl) ?_
    refine lv_iconst (v := 1) hx hb dL_law_2503 (by decide) ?_
    refine lv_iadd hx hb dL_law_2504 ?_
    refine va_sld hx hb hX hbl hbA hS sx1 dL_law_2505 ?_
    refine lv_topi (fun x_17 ex_17 => ?_)
    obtain rfl : s1 = x_17 := (show x_17 = s1 from ex_17.trans hs1.symm).symm
    refine lv_aload_n hx hb dL_law_2506 rfl (lv_at hl 1 rfl) ?_
    refine lv_iload hx hb dL_law_2507 (lv_at hl 6 rfl) ?_
    refine lv_iconst (v := 2) hx hb dL_law_2509 (by decide) ?_
    refine lv_iadd hx hb dL_law_2510 ?_
    refine va_sld hx hb hX hbl hbA hS sx2 dL_law_2511 ?_
    refine lv_topi (fun x_18 ex_18 => ?_)
    obtain rfl : s2 = x_18 := (show x_18 = s2 from ex_18.trans hs2.symm).symm
    have hPc := hP.sub (ws' := [(xm, .inr (20, [.int 0, .int 0, .ref kn, .int 0, .int 0, .int 0, .ref ml, .ref cl, .ref rg, .ref tR, .ref (aK 0), .ref (aK 0), .ref fl, .int 0, .int 0, .int 0, .int 0, .int 0, .int 0, .int 0, .null])), (fl, .inr (4, [.int 0, .ref e0, .int 0]))]) [0, 1] rfl
    have hDc := hD.sub (ws' := [(xm, .inr (20, [.int 0, .int 0, .ref kn, .int 0, .int 0, .int 0, .ref ml, .ref cl, .ref rg, .ref tR, .ref (aK 0), .ref (aK 0), .ref fl, .int 0, .int 0, .int 0, .int 0, .int 0, .int 0, .int 0, .null])), (fl, .inr (4, [.int 0, .ref e0, .int 0]))]) [0, 1] (by decide) rfl
    have hKc := hK.sub (tys' := [(cI, .int)]) [0] rfl
    have hFc := va_free (wc := [(xm, .inr (20, [.int 0, .int 0, .ref kn, .int 0, .int 0, .int 0, .ref ml, .ref cl, .ref rg, .ref tR, .ref (aK 0), .ref (aK 0), .ref fl, .int 0, .int 0, .int 0, .int 0, .int 0, .int 0, .int 0, .null])), (fl, .inr (4, [.int 0, .ref e0, .int 0]))]) hD hS hA [0, 1] rfl
    refine va_calli (va_runV (As := [.int s1, .int s2]) (rest := []) ⟨hx, hb, hml, hown, hts⟩ (c_X15_fraction l dC dI xm ml cl fl kn rg tR e0 aK aV cI s1 s2 H.size) (cwV 2 hts gL_law_X15_fraction rfl rfl rfl (by decide +kernel) ⟨Nat.le_of_ble_eq_true rfl, Nat.le_of_ble_eq_true rfl⟩) (pcVz (zM_ok e0 aK aV) hPc hDc hKc hN hZ.2 hS hFc (ci := 20) (q0 := 0) rfl rfl) rfl rfl hl.1 rfl (lv_room (Nat.le_of_ble_eq_true rfl)) dL_law_2512 ⟨Nat.le_of_ble_eq_true rfl, Nat.le_of_ble_eq_true rfl⟩) hS (fun q _ h => hFc q h) hFc (fun r_20 u t H1 locs ht hvm hw_21 hB hz1 hk1 hS => ?_)
    obtain ⟨hP1, hK1, hD1⟩ := hB
    rw [ht] at hP1
    try dsimp only at hw_21
    obtain ⟨hP, hD⟩ := va_join (wr := [(ou, .inl (cL, 1, .inr (.inl of_3)))]) (w1 := [(xm, .inr (20, u))]) hP hD [0, 1] [2] rfl rfl (by decide) (by decide) hk1 hFc hP1 hD1
    generalize H1 = H at hP hS ⊢
    have hP : va_P (dC, dI) vwCl [(ou, .inl (cL, 1, .inr (.inl of_3))), (xm, .inr (20, u))] H := hP
    have hD : va_D A [(ou, .inl (cL, 1, .inr (.inl of_3))), (xm, .inr (20, u))] := hD
    refine W.widen (k := 203) (n := 60018) (Nat.le_of_ble_eq_true rfl) (Nat.le_of_ble_eq_true rfl) ?_
    obtain ⟨fs_19, efs_19⟩ : ∃ z, z = u := ⟨_, rfl⟩
    subst efs_19
    have hP : va_P (dC, dI) vwCl [(ou, .inl (cL, 1, .inr (.inl of_3))), (xm, .inr (20, fs_19))] H := hP
    have hD : va_D A [(ou, .inl (cL, 1, .inr (.inl of_3))), (xm, .inr (20, fs_19))] := hD
    have ht9 := hw_21.elim (fun h => absurd h.1 hPP) (fun h => h.2)
    refine lv_istore (lv' := [(7, .int r_20), (6, .int 1), (0, .ref b), (1, .ref ya), (2, .ref xm), (3, .ref ou), (4, .ref od), (5, .int 0)]) hx hb dL_law_2515 hl (by decide) rfl (fun ls hl => ?_)
    refine lv_aload_n hx hb dL_law_2517 rfl (lv_at hl 4 rfl) ?_
    have hPc := hP.sub (ws' := [(xm, .inr (20, fs_19))]) [1] rfl
    have hDc := hD.sub (ws' := [(xm, .inr (20, fs_19))]) [1] (by decide) rfl
    have hKc := hK.sub (tys' := []) [] rfl
    have hFc := va_free (wc := [(xm, .inr (20, fs_19))]) hD hS hA [1] rfl
    refine va_calli (va_runV (As := []) (rest := []) ⟨hx, hb, hml, hown, hts⟩ (c_X15_thrown l dC dI xm fs_19 1 ht9 H.size) (cwV 0 hts gL_law_X15_thrown rfl rfl rfl (by decide +kernel) ⟨Nat.le_of_ble_eq_true rfl, Nat.le_of_ble_eq_true rfl⟩) (pcV hPc hDc hKc hN (ci := 20) (q0 := 0) rfl rfl) rfl rfl hl.1 rfl (lv_room (Nat.le_of_ble_eq_true rfl)) dL_law_2518 ⟨Nat.le_of_ble_eq_true rfl, Nat.le_of_ble_eq_true rfl⟩) hS (fun q _ h => hFc q h) hFc (fun r_22 u t H1 locs ht hvm hw_23 hB hz1 hk1 hS => ?_)
    obtain ⟨hP1, hK1, hD1⟩ := hB
    rw [ht] at hP1
    try dsimp only at hw_23
    obtain ⟨hP, hD⟩ := va_join (wr := [(ou, .inl (cL, 1, .inr (.inl of_3)))]) (w1 := []) hP hD [1] [0] rfl rfl (by decide) (by decide) hk1 hFc hP1 hD1
    generalize H1 = H at hP hS ⊢
    have hP : va_P (dC, dI) vwCl [(ou, .inl (cL, 1, .inr (.inl of_3)))] H := hP
    have hD : va_D A [(ou, .inl (cL, 1, .inr (.inl of_3)))] := hD
    obtain rfl : r_22 = 1 := hw_23
    refine lv_iload hx hb dL_law_2521 (lv_at hl 1 rfl) ?_
    refine lv_icmp_eq (tgt := 2528) hx hb dL_law_2523 (by decide) (fun c2523_24 => ?_) (fun c2523_24 => ?_)
    · refine lv_iload hx hb dL_law_2528 (lv_at hl 1 rfl) ?_
      refine lv_if_ne (tgt := 2545) hx hb dL_law_2530 (by decide) (fun c2530_25 => ?_) (fun c2530_25 => ?_)
      · refine lv_goto (tgt := 2778) hx hb dL_law_2545 (by decide) ?_
        refine W.widen (k := 600006) (n := 7302039) (Nat.le_of_ble_eq_true rfl) (Nat.le_of_ble_eq_true rfl) ?_
        exact law_end hx hb hr hml hX hbl hlocks hbA hAo hS (lv_sub hl [2, 7] rfl)
      · exact absurd c2530_25 (by decide)
    · exact (c2523_24 (by decide)).elim

set_option maxHeartbeats 8000000 in
set_option maxRecDepth 100000 in
/-- the law: law_36_unwalk -/
theorem law_36_unwalk {p : Program} {e : Env} {s : State} {m : MethodId} {below : List Frame} {meth : Method} {c : Code} {l : Launch} {b : Nat} {xs : Nat → Int32} (hx : p.tables.exec = Jvm.exec) (hb : c.code = cL_law) (hr : meth.sig.returnType = ret) (hml : c.maxLocals = 9) (hfl : l.stackTraces = false) (hown : s.vm.findClass RL = some m.cls) (hts : ∀ w ∈ wsL_law, w.before #[Value.ref b] s = true) (hX : va_X b 7 xs s s.heap) (hbl : b < s.heap.size) (hlocks : meth.locks = false) {A : Nat → Prop} (hbA : ¬ A b) (hAo : ∀ q, A q → s.heap.size ≤ q) (hA : ∀ q : Nat, s.heap.size ≤ q → A q) (dC : Nat → ClassId) (dI : Nat → Nat → Nat) (hN : nwA s) (e0 : Nat) (aK aV : Nat → Nat) (hZ : zX A s s.heap ∧ zM e0 aK aV A s s.heap) (ya ms ju rj tj ro rn tn rh th ca sa da xa wb z1 z2 jt z3 br z4 z5 z6 lk z7 z8 li bm l2 z9 bo h2 mm l1 z10 oo h1 ct cr cu cg cp co tg ts tr tk te fw fo fu xm ml cl fl rg tR ou od kn : Nat) (cI cM cS cL cD cB : ClassId) {H : Heap} {locs : List Loc} (hP : va_P (dC, dI) vwCl [(ya, .inr (16, [.ref ms, .int 0, .ref ju, .ref li, .ref ct, .ref tg, .ref fw])), (fw, .inr (6, [.int 0, .int 0, .int 0, .long 0, .ref fo, .ref fu])), (xm, .inr (20, [.int 0, .int 0, .ref kn, .int 0, .int 0, .int 0, .ref ml, .ref cl, .ref rg, .ref tR, .ref (aK 0), .ref (aK 0), .ref fl, .int 0, .int 0, .int 0, .int 0, .int 0, .int 0, .int 0, .null])), (fl, .inr (4, [.int 0, .ref e0, .int 0]))] H) (hD : va_D A [(ya, .inr (16, [.ref ms, .int 0, .ref ju, .ref li, .ref ct, .ref tg, .ref fw])), (fw, .inr (6, [.int 0, .int 0, .int 0, .long 0, .ref fo, .ref fu])), (xm, .inr (20, [.int 0, .int 0, .ref kn, .int 0, .int 0, .int 0, .ref ml, .ref cl, .ref rg, .ref tR, .ref (aK 0), .ref (aK 0), .ref fl, .int 0, .int 0, .int 0, .int 0, .int 0, .int 0, .int 0, .null])), (fl, .inr (4, [.int 0, .ref e0, .int 0]))]) (hK : va_K (dC, dI) vwCl [] s) (hS : va_S A s.heap H locs) {ls : Array Slot} (hl : lv_has ls 9 [(0, .ref b), (1, .ref ya), (2, .ref xm), (3, .ref ou), (4, .ref od), (5, .int 0)]) : W p l e room_1 s m #[Value.ref b] below meth c H locs 200 60000 (lw_Z below #[Value.ref b] s) (F0 m 2548 ls []) := by
  obtain ⟨s1, hs1⟩ : ∃ z, z = xs ((0 : Int32) + 1).toNatClampNeg := ⟨_, rfl⟩
  obtain ⟨s2, hs2⟩ : ∃ z, z = xs ((0 : Int32) + 2).toNatClampNeg := ⟨_, rfl⟩
  obtain ⟨s3, hs3⟩ : ∃ z, z = xs ((0 : Int32) + 3).toNatClampNeg := ⟨_, rfl⟩
  obtain ⟨s4, hs4⟩ : ∃ z, z = xs ((0 : Int32) + 4).toNatClampNeg := ⟨_, rfl⟩
  obtain ⟨s5, hs5⟩ : ∃ z, z = xs ((0 : Int32) + 5).toNatClampNeg := ⟨_, rfl⟩
  obtain ⟨s6, hs6⟩ : ∃ z, z = xs ((0 : Int32) + 6).toNatClampNeg := ⟨_, rfl⟩
  obtain ⟨ch1, hch1⟩ : ∃ z, z = (s1.toUInt32 % 65536).toInt32 := ⟨_, rfl⟩
  obtain ⟨ch2, hch2⟩ : ∃ z, z = (s2.toUInt32 % 65536).toInt32 := ⟨_, rfl⟩
  obtain ⟨ch3, hch3⟩ : ∃ z, z = (s3.toUInt32 % 65536).toInt32 := ⟨_, rfl⟩
  obtain ⟨ch4, hch4⟩ : ∃ z, z = (s4.toUInt32 % 65536).toInt32 := ⟨_, rfl⟩
  obtain ⟨ch5, hch5⟩ : ∃ z, z = (s5.toUInt32 % 65536).toInt32 := ⟨_, rfl⟩
  obtain ⟨ch6, hch6⟩ : ∃ z, z = (s6.toUInt32 % 65536).toInt32 := ⟨_, rfl⟩
  refine lv_aload_n hx hb dL_law_2548 rfl (lv_at hl 1 rfl) ?_
  have hPc := hP.sub (ws' := [(ya, .inr (16, [.ref ms, .int 0, .ref ju, .ref li, .ref ct, .ref tg, .ref fw])), (fw, .inr (6, [.int 0, .int 0, .int 0, .long 0, .ref fo, .ref fu]))]) [0, 1] rfl
  have hDc := hD.sub (ws' := [(ya, .inr (16, [.ref ms, .int 0, .ref ju, .ref li, .ref ct, .ref tg, .ref fw])), (fw, .inr (6, [.int 0, .int 0, .int 0, .long 0, .ref fo, .ref fu]))]) [0, 1] (by decide) rfl
  have hKc := hK.sub (tys' := []) [] rfl
  have hFc := va_free (wc := [(ya, .inr (16, [.ref ms, .int 0, .ref ju, .ref li, .ref ct, .ref tg, .ref fw])), (fw, .inr (6, [.int 0, .int 0, .int 0, .long 0, .ref fo, .ref fu]))]) hD hS hA [0, 1] rfl
  refine vx_calli (vx_runV (As := []) (rest := []) ⟨hx, hb, hml, hown, hts⟩ (c_X11_unwalk l hfl dC dI ya ms ju li ct tg fw fo fu 0 0 0 H.size) (cwV 0 hts gL_law_X11_unwalk rfl rfl rfl (by decide +kernel) ⟨Nat.le_of_ble_eq_true rfl, Nat.le_of_ble_eq_true rfl⟩) (pcVz (zX_ok) hPc hDc hKc hN hZ.1 hS hFc (ci := 16) (q0 := 0) rfl rfl) rfl rfl hl.1 rfl (lv_room (Nat.le_of_ble_eq_true rfl)) dL_law_2549 ⟨Nat.le_of_ble_eq_true rfl, Nat.le_of_ble_eq_true rfl⟩) hS (fun q _ h => hFc q h) hFc (fun q _ h => hFc q h) (fun E9 ce9 q9 u9 t9 H9 locs9 ht9 hvm9 hp9 hE9 hz9 hk9 hS9 hc9 hv9 hcl9 => hE9.elim) (fun r_1 u t H1 locs ht hvm hw_2 hB hz1 hk1 hS => ?_)
  obtain ⟨hP1, hK1, hD1⟩ := hB
  rw [ht] at hP1
  try dsimp only at hw_2
  obtain ⟨hP, hD⟩ := va_join (wr := [(xm, .inr (20, [.int 0, .int 0, .ref kn, .int 0, .int 0, .int 0, .ref ml, .ref cl, .ref rg, .ref tR, .ref (aK 0), .ref (aK 0), .ref fl, .int 0, .int 0, .int 0, .int 0, .int 0, .int 0, .int 0, .null])), (fl, .inr (4, [.int 0, .ref e0, .int 0]))]) (w1 := []) hP hD [0, 1] [2, 3] rfl rfl (by decide) (by decide) hk1 hFc hP1 hD1
  generalize H1 = H at hP hS ⊢
  have hP : va_P (dC, dI) vwCl [(xm, .inr (20, [.int 0, .int 0, .ref kn, .int 0, .int 0, .int 0, .ref ml, .ref cl, .ref rg, .ref tR, .ref (aK 0), .ref (aK 0), .ref fl, .int 0, .int 0, .int 0, .int 0, .int 0, .int 0, .int 0, .null])), (fl, .inr (4, [.int 0, .ref e0, .int 0]))] H := hP
  have hD : va_D A [(xm, .inr (20, [.int 0, .int 0, .ref kn, .int 0, .int 0, .int 0, .ref ml, .ref cl, .ref rg, .ref tR, .ref (aK 0), .ref (aK 0), .ref fl, .int 0, .int 0, .int 0, .int 0, .int 0, .int 0, .int 0, .null])), (fl, .inr (4, [.int 0, .ref e0, .int 0]))] := hD
  obtain rfl : r_1 = 0 := hw_2
  refine lv_aload_n hx hb dL_law_2552 rfl (lv_at hl 2 rfl) ?_
  have hPc := hP.sub (ws' := [(xm, .inr (20, [.int 0, .int 0, .ref kn, .int 0, .int 0, .int 0, .ref ml, .ref cl, .ref rg, .ref tR, .ref (aK 0), .ref (aK 0), .ref fl, .int 0, .int 0, .int 0, .int 0, .int 0, .int 0, .int 0, .null])), (fl, .inr (4, [.int 0, .ref e0, .int 0]))]) [0, 1] rfl
  have hDc := hD.sub (ws' := [(xm, .inr (20, [.int 0, .int 0, .ref kn, .int 0, .int 0, .int 0, .ref ml, .ref cl, .ref rg, .ref tR, .ref (aK 0), .ref (aK 0), .ref fl, .int 0, .int 0, .int 0, .int 0, .int 0, .int 0, .int 0, .null])), (fl, .inr (4, [.int 0, .ref e0, .int 0]))]) [0, 1] (by decide) rfl
  have hKc := hK.sub (tys' := []) [] rfl
  have hFc := va_free (wc := [(xm, .inr (20, [.int 0, .int 0, .ref kn, .int 0, .int 0, .int 0, .ref ml, .ref cl, .ref rg, .ref tR, .ref (aK 0), .ref (aK 0), .ref fl, .int 0, .int 0, .int 0, .int 0, .int 0, .int 0, .int 0, .null])), (fl, .inr (4, [.int 0, .ref e0, .int 0]))]) hD hS hA [0, 1] rfl
  refine va_calli (va_runV (As := []) (rest := [.int 0]) ⟨hx, hb, hml, hown, hts⟩ (c_X15_unwalk l dC dI xm ml cl fl kn rg tR e0 aK aV H.size) (cwV 0 hts gL_law_X15_unwalk rfl rfl rfl (by decide +kernel) ⟨Nat.le_of_ble_eq_true rfl, Nat.le_of_ble_eq_true rfl⟩) (pcVz (zM_ok e0 aK aV) hPc hDc hKc hN hZ.2 hS hFc (ci := 20) (q0 := 0) rfl rfl) rfl rfl hl.1 rfl (lv_room (Nat.le_of_ble_eq_true rfl)) dL_law_2553 ⟨Nat.le_of_ble_eq_true rfl, Nat.le_of_ble_eq_true rfl⟩) hS (fun q _ h => hFc q h) hFc (fun r_4 u t H1 locs ht hvm hw_5 hB hz1 hk1 hS => ?_)
  obtain ⟨hP1, hK1, hD1⟩ := hB
  rw [ht] at hP1
  try dsimp only at hw_5
  obtain ⟨hP, hD⟩ := va_join (wr := []) (w1 := [(xm, .inr (20, u))]) hP hD [0, 1] [] rfl rfl (by decide) (by decide) hk1 hFc hP1 hD1
  generalize H1 = H at hP hS ⊢
  have hP : va_P (dC, dI) vwCl [(xm, .inr (20, u))] H := hP
  have hD : va_D A [(xm, .inr (20, u))] := hD
  obtain ⟨fs_3, efs_3⟩ : ∃ z, z = u := ⟨_, rfl⟩
  subst efs_3
  have hP : va_P (dC, dI) vwCl [(xm, .inr (20, fs_3))] H := hP
  have hD : va_D A [(xm, .inr (20, fs_3))] := hD
  obtain rfl : r_4 = 0 := hw_5.2
  refine lv_icmp_eq (tgt := 2778) hx hb dL_law_2556 (by decide) (fun c2556_6 => ?_) (fun c2556_6 => ?_)
  · refine W.widen (k := 600006) (n := 7302039) (Nat.le_of_ble_eq_true rfl) (Nat.le_of_ble_eq_true rfl) ?_
    exact law_end hx hb hr hml hX hbl hlocks hbA hAo hS (lv_sub hl [0, 5] rfl)
  · exact (c2556_6 (by decide)).elim

set_option maxHeartbeats 8000000 in
set_option maxRecDepth 100000 in
/-- the law: law_37_walk -/
theorem law_37_walk {p : Program} {e : Env} {s : State} {m : MethodId} {below : List Frame} {meth : Method} {c : Code} {l : Launch} {b : Nat} {xs : Nat → Int32} (hx : p.tables.exec = Jvm.exec) (hb : c.code = cL_law) (hr : meth.sig.returnType = ret) (hml : c.maxLocals = 9) (hfl : l.stackTraces = false) (hown : s.vm.findClass RL = some m.cls) (hts : ∀ w ∈ wsL_law, w.before #[Value.ref b] s = true) (hX : va_X b 7 xs s s.heap) (hbl : b < s.heap.size) (hlocks : meth.locks = false) {A : Nat → Prop} (hbA : ¬ A b) (hAo : ∀ q, A q → s.heap.size ≤ q) (hA : ∀ q : Nat, s.heap.size ≤ q → A q) (dC : Nat → ClassId) (dI : Nat → Nat → Nat) (hN : nwA s) (e0 : Nat) (aK aV : Nat → Nat) (hZ : zX A s s.heap ∧ zM e0 aK aV A s s.heap) (ya ms ju rj tj ro rn tn rh th ca sa da xa wb z1 z2 jt z3 br z4 z5 z6 lk z7 z8 li bm l2 z9 bo h2 mm l1 z10 oo h1 ct cr cu cg cp co tg ts tr tk te fw fo fu xm ml cl fl rg tR ou od kn : Nat) (cI cM cS cL cD cB : ClassId) {H : Heap} {locs : List Loc} (hP : va_P (dC, dI) vwCl [(ya, .inr (16, [.ref ms, .int 0, .ref ju, .ref li, .ref ct, .ref tg, .ref fw])), (fw, .inr (6, [.int 0, .int 0, .int 0, .long 0, .ref fo, .ref fu])), (fo, .inl (cI, 10, .inl (fun _ => 0))), (fu, .inl (cI, 10, .inl (fun _ => 0))), (ou, .inl (cL, 1, .inr (.inl (fun _ => 0)))), (xm, .inr (20, [.int 0, .int 0, .ref kn, .int 0, .int 0, .int 0, .ref ml, .ref cl, .ref rg, .ref tR, .ref (aK 0), .ref (aK 0), .ref fl, .int 0, .int 0, .int 0, .int 0, .int 0, .int 0, .int 0, .null])), (fl, .inr (4, [.int 0, .ref e0, .int 0]))] H) (hD : va_D A [(ya, .inr (16, [.ref ms, .int 0, .ref ju, .ref li, .ref ct, .ref tg, .ref fw])), (fw, .inr (6, [.int 0, .int 0, .int 0, .long 0, .ref fo, .ref fu])), (fo, .inl (cI, 10, .inl (fun _ => 0))), (fu, .inl (cI, 10, .inl (fun _ => 0))), (ou, .inl (cL, 1, .inr (.inl (fun _ => 0)))), (xm, .inr (20, [.int 0, .int 0, .ref kn, .int 0, .int 0, .int 0, .ref ml, .ref cl, .ref rg, .ref tR, .ref (aK 0), .ref (aK 0), .ref fl, .int 0, .int 0, .int 0, .int 0, .int 0, .int 0, .int 0, .null])), (fl, .inr (4, [.int 0, .ref e0, .int 0]))]) (hK : va_K (dC, dI) vwCl [(cI, .int), (cL, .long)] s) (hS : va_S A s.heap H locs) {ls : Array Slot} (hl : lv_has ls 9 [(0, .ref b), (1, .ref ya), (2, .ref xm), (3, .ref ou), (4, .ref od), (5, .int 0)]) : W p l e room_1 s m #[Value.ref b] below meth c H locs 200 60000 (lw_Z below #[Value.ref b] s) (F0 m 2561 ls []) := by
  obtain ⟨s1, hs1⟩ : ∃ z, z = xs ((0 : Int32) + 1).toNatClampNeg := ⟨_, rfl⟩
  obtain ⟨s2, hs2⟩ : ∃ z, z = xs ((0 : Int32) + 2).toNatClampNeg := ⟨_, rfl⟩
  obtain ⟨s3, hs3⟩ : ∃ z, z = xs ((0 : Int32) + 3).toNatClampNeg := ⟨_, rfl⟩
  obtain ⟨s4, hs4⟩ : ∃ z, z = xs ((0 : Int32) + 4).toNatClampNeg := ⟨_, rfl⟩
  obtain ⟨s5, hs5⟩ : ∃ z, z = xs ((0 : Int32) + 5).toNatClampNeg := ⟨_, rfl⟩
  obtain ⟨s6, hs6⟩ : ∃ z, z = xs ((0 : Int32) + 6).toNatClampNeg := ⟨_, rfl⟩
  obtain ⟨ch1, hch1⟩ : ∃ z, z = (s1.toUInt32 % 65536).toInt32 := ⟨_, rfl⟩
  obtain ⟨ch2, hch2⟩ : ∃ z, z = (s2.toUInt32 % 65536).toInt32 := ⟨_, rfl⟩
  obtain ⟨ch3, hch3⟩ : ∃ z, z = (s3.toUInt32 % 65536).toInt32 := ⟨_, rfl⟩
  obtain ⟨ch4, hch4⟩ : ∃ z, z = (s4.toUInt32 % 65536).toInt32 := ⟨_, rfl⟩
  obtain ⟨ch5, hch5⟩ : ∃ z, z = (s5.toUInt32 % 65536).toInt32 := ⟨_, rfl⟩
  obtain ⟨ch6, hch6⟩ : ∃ z, z = (s6.toUInt32 % 65536).toInt32 := ⟨_, rfl⟩
  refine lv_aload_n hx hb dL_law_2561 rfl (lv_at hl 1 rfl) ?_
  refine lv_aload_n hx hb dL_law_2562 rfl (lv_at hl 0 rfl) ?_
  refine lv_iload hx hb dL_law_2563 (lv_at hl 5 rfl) ?_
  refine lv_iconst (v := 1) hx hb dL_law_2565 (by decide) ?_
  refine lv_iadd hx hb dL_law_2566 ?_
  refine va_sld hx hb hX hbl hbA hS sx1 dL_law_2567 ?_
  refine lv_topi (fun x_1 ex_1 => ?_)
  obtain rfl : s1 = x_1 := (show x_1 = s1 from ex_1.trans hs1.symm).symm
  refine lv_i2l hx hb dL_law_2568 rfl ?_
  refine lv_bipush (v := 32) hx hb dL_law_2569 (by decide) ?_
  refine lv_lshl hx hb dL_law_2571 rfl ?_
  refine lv_aload_n hx hb dL_law_2572 rfl (lv_at hl 0 rfl) ?_
  refine lv_iload hx hb dL_law_2573 (lv_at hl 5 rfl) ?_
  refine lv_iconst (v := 2) hx hb dL_law_2575 (by decide) ?_
  refine lv_iadd hx hb dL_law_2576 ?_
  refine va_sld hx hb hX hbl hbA hS sx2 dL_law_2577 ?_
  refine lv_topi (fun x_2 ex_2 => ?_)
  obtain rfl : s2 = x_2 := (show x_2 = s2 from ex_2.trans hs2.symm).symm
  refine lv_i2l hx hb dL_law_2578 rfl ?_
  refine lv_ldc2 (v := (4294967295)) hx hb hown (hts (.constantLong RL 280 (4294967295)) (by decide +kernel)) dL_law_2579 ?_
  refine lv_land hx hb dL_law_2582 ?_
  refine lv_lor hx hb dL_law_2583 ?_
  refine lv_topl (fun w1 ew1 => ?_)
  refine lv_aload_n hx hb dL_law_2584 rfl (lv_at hl 0 rfl) ?_
  refine lv_iload hx hb dL_law_2585 (lv_at hl 5 rfl) ?_
  refine lv_iconst (v := 3) hx hb dL_law_2587 (by decide) ?_
  refine lv_iadd hx hb dL_law_2588 ?_
  refine va_sld hx hb hX hbl hbA hS sx3 dL_law_2589 ?_
  refine lv_topi (fun x_3 ex_3 => ?_)
  obtain rfl : s3 = x_3 := (show x_3 = s3 from ex_3.trans hs3.symm).symm
  refine lv_aload_n hx hb dL_law_2590 rfl (lv_at hl 3 rfl) ?_
  have hPc := hP.sub (ws' := [(ya, .inr (16, [.ref ms, .int 0, .ref ju, .ref li, .ref ct, .ref tg, .ref fw])), (fw, .inr (6, [.int 0, .int 0, .int 0, .long 0, .ref fo, .ref fu])), (fo, .inl (cI, 10, .inl (fun _ => 0))), (fu, .inl (cI, 10, .inl (fun _ => 0))), (ou, .inl (cL, 1, .inr (.inl (fun _ => 0))))]) [0, 1, 2, 3, 4] rfl
  have hDc := hD.sub (ws' := [(ya, .inr (16, [.ref ms, .int 0, .ref ju, .ref li, .ref ct, .ref tg, .ref fw])), (fw, .inr (6, [.int 0, .int 0, .int 0, .long 0, .ref fo, .ref fu])), (fo, .inl (cI, 10, .inl (fun _ => 0))), (fu, .inl (cI, 10, .inl (fun _ => 0))), (ou, .inl (cL, 1, .inr (.inl (fun _ => 0))))]) [0, 1, 2, 3, 4] (by decide) rfl
  have hKc := hK.sub (tys' := [(cI, .int), (cL, .long)]) [0, 1] rfl
  have hFc := va_free (wc := [(ya, .inr (16, [.ref ms, .int 0, .ref ju, .ref li, .ref ct, .ref tg, .ref fw])), (fw, .inr (6, [.int 0, .int 0, .int 0, .long 0, .ref fo, .ref fu])), (fo, .inl (cI, 10, .inl (fun _ => 0))), (fu, .inl (cI, 10, .inl (fun _ => 0))), (ou, .inl (cL, 1, .inr (.inl (fun _ => 0))))]) hD hS hA [0, 1, 2, 3, 4] rfl
  refine vx_calli (vx_runSX (As := [.ref ya, .long w1, .int s3, .ref ou]) (rest := []) ⟨hx, hb, hml, hown, hts⟩ (c_L_walk l hfl dC dI cI ya ms ju li ct tg fw fo fu 0 0 0 (fun _ => 0) (fun _ => 0) w1 s3 cL ou (fun _ => 0) H.size) (vx_cwSW 4 hts gL_law_L_walk rfl rfl rfl (by decide +kernel) ⟨Nat.le_of_ble_eq_true rfl, Nat.le_of_ble_eq_true rfl⟩) (pcSz (zX_ok) hPc hDc hKc hN hZ.1 hS hFc) rfl rfl hl.1 rfl (lv_room (Nat.le_of_ble_eq_true rfl)) dL_law_2591 ⟨Nat.le_of_ble_eq_true rfl, Nat.le_of_ble_eq_true rfl⟩) hS (fun q _ h => hFc q h) hFc (fun q _ h => hFc q h) (fun E9 ce9 q9 u9 t9 H9 locs9 ht9 hvm9 hp9 hE9 hz9 hk9 hS9 hc9 hv9 hcl9 => hE9.elim) (fun r_5 u t H1 locs ht hvm hw_6 hB hz1 hk1 hS => ?_)
  obtain ⟨hP1, hK1, hD1⟩ := hB
  rw [ht] at hP1
  try dsimp only at hw_6
  obtain ⟨hP, hD⟩ := va_join (wr := [(xm, .inr (20, [.int 0, .int 0, .ref kn, .int 0, .int 0, .int 0, .ref ml, .ref cl, .ref rg, .ref tR, .ref (aK 0), .ref (aK 0), .ref fl, .int 0, .int 0, .int 0, .int 0, .int 0, .int 0, .int 0, .null])), (fl, .inr (4, [.int 0, .ref e0, .int 0]))]) (w1 := [(ou, .inl (cL, 1, .inr (.inl u)))]) hP hD [0, 1, 2, 3, 4] [5, 6] rfl rfl (by decide) (by decide) hk1 hFc hP1 hD1
  generalize H1 = H at hP hS ⊢
  have hP : va_P (dC, dI) vwCl [(xm, .inr (20, [.int 0, .int 0, .ref kn, .int 0, .int 0, .int 0, .ref ml, .ref cl, .ref rg, .ref tR, .ref (aK 0), .ref (aK 0), .ref fl, .int 0, .int 0, .int 0, .int 0, .int 0, .int 0, .int 0, .null])), (fl, .inr (4, [.int 0, .ref e0, .int 0])), (ou, .inl (cL, 1, .inr (.inl u)))] H := hP
  have hD : va_D A [(xm, .inr (20, [.int 0, .int 0, .ref kn, .int 0, .int 0, .int 0, .ref ml, .ref cl, .ref rg, .ref tR, .ref (aK 0), .ref (aK 0), .ref fl, .int 0, .int 0, .int 0, .int 0, .int 0, .int 0, .int 0, .null])), (fl, .inr (4, [.int 0, .ref e0, .int 0])), (ou, .inl (cL, 1, .inr (.inl u)))] := hD
  refine W.widen (k := 202) (n := 60012) (Nat.le_of_ble_eq_true rfl) (Nat.le_of_ble_eq_true rfl) ?_
  obtain ⟨of_4, eof_4⟩ : ∃ z, z = u := ⟨_, rfl⟩
  subst eof_4
  have hP : va_P (dC, dI) vwCl [(xm, .inr (20, [.int 0, .int 0, .ref kn, .int 0, .int 0, .int 0, .ref ml, .ref cl, .ref rg, .ref tR, .ref (aK 0), .ref (aK 0), .ref fl, .int 0, .int 0, .int 0, .int 0, .int 0, .int 0, .int 0, .null])), (fl, .inr (4, [.int 0, .ref e0, .int 0])), (ou, .inl (cL, 1, .inr (.inl of_4)))] H := hP
  have hD : va_D A [(xm, .inr (20, [.int 0, .int 0, .ref kn, .int 0, .int 0, .int 0, .ref ml, .ref cl, .ref rg, .ref tR, .ref (aK 0), .ref (aK 0), .ref fl, .int 0, .int 0, .int 0, .int 0, .int 0, .int 0, .int 0, .null])), (fl, .inr (4, [.int 0, .ref e0, .int 0])), (ou, .inl (cL, 1, .inr (.inl of_4)))] := hD
  rcases hw_6 with ⟨hr0, hPP, hv0⟩ | ⟨hr0, hPP⟩
  · obtain rfl : r_5 = 0 := hr0
    refine lv_istore (lv' := [(6, .int 0), (0, .ref b), (1, .ref ya), (2, .ref xm), (3, .ref ou), (4, .ref od), (5, .int 0)]) hx hb dL_law_2594 hl (by decide) rfl (fun ls hl => ?_)
    refine lv_aload_n hx hb dL_law_2596 rfl (lv_at hl 3 rfl) ?_
    refine lv_aload_n hx hb dL_law_2597 rfl (lv_at hl 1 rfl) ?_
    refine lv_iload hx hb dL_law_2598 (lv_at hl 6 rfl) ?_
    refine lv_iconst (v := 1) hx hb dL_law_2600 (by decide) ?_
    refine lv_iadd hx hb dL_law_2601 ?_
    refine va_sld hx hb hX hbl hbA hS sx1 dL_law_2602 ?_
    refine lv_topi (fun x_7 ex_7 => ?_)
    obtain rfl : s1 = x_7 := (show x_7 = s1 from ex_7.trans hs1.symm).symm
    refine lv_i2l hx hb dL_law_2603 rfl ?_
    refine lv_bipush (v := 32) hx hb dL_law_2604 (by decide) ?_
    refine lv_lshl hx hb dL_law_2606 rfl ?_
    refine lv_aload_n hx hb dL_law_2607 rfl (lv_at hl 1 rfl) ?_
    refine lv_iload hx hb dL_law_2608 (lv_at hl 6 rfl) ?_
    refine lv_iconst (v := 2) hx hb dL_law_2610 (by decide) ?_
    refine lv_iadd hx hb dL_law_2611 ?_
    refine va_sld hx hb hX hbl hbA hS sx2 dL_law_2612 ?_
    refine lv_topi (fun x_8 ex_8 => ?_)
    obtain rfl : s2 = x_8 := (show x_8 = s2 from ex_8.trans hs2.symm).symm
    refine lv_i2l hx hb dL_law_2613 rfl ?_
    refine lv_ldc2 (v := (4294967295)) hx hb hown (hts (.constantLong RL 280 (4294967295)) (by decide +kernel)) dL_law_2614 ?_
    refine lv_land hx hb dL_law_2617 ?_
    refine lv_lor hx hb dL_law_2618 ?_
    refine lv_topl (fun w_9 ew_9 => ?_)
    obtain rfl : w1 = w_9 := (show w_9 = w1 from ew_9.trans ew1.symm).symm
    refine lv_aload_n hx hb dL_law_2619 rfl (lv_at hl 1 rfl) ?_
    refine lv_iload hx hb dL_law_2620 (lv_at hl 6 rfl) ?_
    refine lv_iconst (v := 3) hx hb dL_law_2622 (by decide) ?_
    refine lv_iadd hx hb dL_law_2623 ?_
    refine va_sld hx hb hX hbl hbA hS sx3 dL_law_2624 ?_
    refine lv_topi (fun x_10 ex_10 => ?_)
    obtain rfl : s3 = x_10 := (show x_10 = s3 from ex_10.trans hs3.symm).symm
    have hPc := hP.sub (ws' := [(xm, .inr (20, [.int 0, .int 0, .ref kn, .int 0, .int 0, .int 0, .ref ml, .ref cl, .ref rg, .ref tR, .ref (aK 0), .ref (aK 0), .ref fl, .int 0, .int 0, .int 0, .int 0, .int 0, .int 0, .int 0, .null])), (fl, .inr (4, [.int 0, .ref e0, .int 0]))]) [0, 1] rfl
    have hDc := hD.sub (ws' := [(xm, .inr (20, [.int 0, .int 0, .ref kn, .int 0, .int 0, .int 0, .ref ml, .ref cl, .ref rg, .ref tR, .ref (aK 0), .ref (aK 0), .ref fl, .int 0, .int 0, .int 0, .int 0, .int 0, .int 0, .int 0, .null])), (fl, .inr (4, [.int 0, .ref e0, .int 0]))]) [0, 1] (by decide) rfl
    have hKc := hK.sub (tys' := []) [] rfl
    have hFc := va_free (wc := [(xm, .inr (20, [.int 0, .int 0, .ref kn, .int 0, .int 0, .int 0, .ref ml, .ref cl, .ref rg, .ref tR, .ref (aK 0), .ref (aK 0), .ref fl, .int 0, .int 0, .int 0, .int 0, .int 0, .int 0, .int 0, .null])), (fl, .inr (4, [.int 0, .ref e0, .int 0]))]) hD hS hA [0, 1] rfl
    refine va_calll (va_runV (As := [.long w1, .int s3]) (rest := []) ⟨hx, hb, hml, hown, hts⟩ (c_X15_walk l dC dI xm ml cl fl kn rg tR e0 aK aV w1 s3 H.size) (cwV 2 hts gL_law_X15_walk rfl rfl rfl (by decide +kernel) ⟨Nat.le_of_ble_eq_true rfl, Nat.le_of_ble_eq_true rfl⟩) (pcVz (zM_ok e0 aK aV) hPc hDc hKc hN hZ.2 hS hFc (ci := 20) (q0 := 0) rfl rfl) rfl rfl hl.1 rfl (lv_room (Nat.le_of_ble_eq_true rfl)) dL_law_2625 ⟨Nat.le_of_ble_eq_true rfl, Nat.le_of_ble_eq_true rfl⟩) hS (fun q _ h => hFc q h) hFc (fun r_12 u t H1 locs ht hvm hw_13 hB hz1 hk1 hS => ?_)
    obtain ⟨hP1, hK1, hD1⟩ := hB
    rw [ht] at hP1
    try dsimp only at hw_13
    obtain ⟨hP, hD⟩ := va_join (wr := [(ou, .inl (cL, 1, .inr (.inl of_4)))]) (w1 := [(xm, .inr (20, u))]) hP hD [0, 1] [2] rfl rfl (by decide) (by decide) hk1 hFc hP1 hD1
    generalize H1 = H at hP hS ⊢
    have hP : va_P (dC, dI) vwCl [(ou, .inl (cL, 1, .inr (.inl of_4))), (xm, .inr (20, u))] H := hP
    have hD : va_D A [(ou, .inl (cL, 1, .inr (.inl of_4))), (xm, .inr (20, u))] := hD
    refine W.widen (k := 203) (n := 60016) (Nat.le_of_ble_eq_true rfl) (Nat.le_of_ble_eq_true rfl) ?_
    obtain ⟨fs_11, efs_11⟩ : ∃ z, z = u := ⟨_, rfl⟩
    subst efs_11
    have hP : va_P (dC, dI) vwCl [(ou, .inl (cL, 1, .inr (.inl of_4))), (xm, .inr (20, fs_11))] H := hP
    have hD : va_D A [(ou, .inl (cL, 1, .inr (.inl of_4))), (xm, .inr (20, fs_11))] := hD
    obtain ⟨ht9, hrv⟩ := hw_13.elim (fun h => h.2) (fun h => absurd hPP h.1)
    obtain rfl : w1 = r_12 := (show r_12 = w1 from hrv).symm
    refine lv_lstore (lv' := [(7, .long w1), (6, .int 0), (0, .ref b), (1, .ref ya), (2, .ref xm), (3, .ref ou), (4, .ref od), (5, .int 0)]) hx hb dL_law_2628 hl (by decide) rfl (fun ls hl => ?_)
    refine lv_aload_n hx hb dL_law_2630 rfl (lv_at hl 4 rfl) ?_
    have hPc := hP.sub (ws' := [(xm, .inr (20, fs_11))]) [1] rfl
    have hDc := hD.sub (ws' := [(xm, .inr (20, fs_11))]) [1] (by decide) rfl
    have hKc := hK.sub (tys' := []) [] rfl
    have hFc := va_free (wc := [(xm, .inr (20, fs_11))]) hD hS hA [1] rfl
    refine va_calli (va_runV (As := []) (rest := []) ⟨hx, hb, hml, hown, hts⟩ (c_X15_thrown l dC dI xm fs_11 0 ht9 H.size) (cwV 0 hts gL_law_X15_thrown rfl rfl rfl (by decide +kernel) ⟨Nat.le_of_ble_eq_true rfl, Nat.le_of_ble_eq_true rfl⟩) (pcV hPc hDc hKc hN (ci := 20) (q0 := 0) rfl rfl) rfl rfl hl.1 rfl (lv_room (Nat.le_of_ble_eq_true rfl)) dL_law_2631 ⟨Nat.le_of_ble_eq_true rfl, Nat.le_of_ble_eq_true rfl⟩) hS (fun q _ h => hFc q h) hFc (fun r_14 u t H1 locs ht hvm hw_15 hB hz1 hk1 hS => ?_)
    obtain ⟨hP1, hK1, hD1⟩ := hB
    rw [ht] at hP1
    try dsimp only at hw_15
    obtain ⟨hP, hD⟩ := va_join (wr := [(ou, .inl (cL, 1, .inr (.inl of_4)))]) (w1 := []) hP hD [1] [0] rfl rfl (by decide) (by decide) hk1 hFc hP1 hD1
    generalize H1 = H at hP hS ⊢
    have hP : va_P (dC, dI) vwCl [(ou, .inl (cL, 1, .inr (.inl of_4)))] H := hP
    have hD : va_D A [(ou, .inl (cL, 1, .inr (.inl of_4)))] := hD
    obtain rfl : r_14 = 0 := hw_15
    refine lv_iload hx hb dL_law_2634 (lv_at hl 1 rfl) ?_
    refine lv_icmp_eq (tgt := 2641) hx hb dL_law_2636 (by decide) (fun c2636_16 => ?_) (fun c2636_16 => ?_)
    · refine lv_iload hx hb dL_law_2641 (lv_at hl 1 rfl) ?_
      refine lv_if_ne (tgt := 2657) hx hb dL_law_2643 (by decide) (fun c2643_17 => ?_) (fun c2643_17 => ?_)
      · exact (c2643_17 (by decide)).elim
      · refine lv_aload_n hx hb dL_law_2646 rfl (lv_at hl 5 rfl) ?_
        refine lv_iconst (v := 0) hx hb dL_law_2647 (by decide) ?_
        refine va_lald hx hb hK hP 0 1 rfl rfl (show vp_in (nI 0) 1 from vp_in_nI (by decide) (by decide)) dL_law_2648 ?_
        refine lv_topl (fun z_18 ez_18 => ?_)
        obtain rfl : w1 = z_18 := (show z_18 = w1 from by rw [ez_18, show (0 : Int32).toNatClampNeg = 0 from by decide]; exact hv0).symm
        refine lv_lload hx hb dL_law_2649 (lv_at hl 0 rfl) ?_
        refine W.lcmp hx hb dL_law_2651 ?_
        refine lv_if_eq (tgt := 2657) hx hb dL_law_2652 (by decide) (fun c2652_19 => ?_) (fun c2652_19 => ?_)
        · refine lv_goto (tgt := 2778) hx hb dL_law_2657 (by decide) ?_
          refine W.widen (k := 600006) (n := 7302039) (Nat.le_of_ble_eq_true rfl) (Nat.le_of_ble_eq_true rfl) ?_
          exact law_end hx hb hr hml hX hbl hlocks hbA hAo hS (lv_sub hl [2, 7] rfl)
        · exact absurd ((lg_cmp_eq _ _).mpr (by first | rfl | (subst_vars; rfl))) c2652_19
    · exact (c2636_16 (by decide)).elim
  · obtain rfl : r_5 = 1 := hr0
    refine lv_istore (lv' := [(6, .int 1), (0, .ref b), (1, .ref ya), (2, .ref xm), (3, .ref ou), (4, .ref od), (5, .int 0)]) hx hb dL_law_2594 hl (by decide) rfl (fun ls hl => ?_)
    refine lv_aload_n hx hb dL_law_2596 rfl (lv_at hl 3 rfl) ?_
    refine lv_aload_n hx hb dL_law_2597 rfl (lv_at hl 1 rfl) ?_
    refine lv_iload hx hb dL_law_2598 (lv_at hl 6 rfl) ?_
    refine lv_iconst (v := 1) hx hb dL_law_2600 (by decide) ?_
    refine lv_iadd hx hb dL_law_2601 ?_
    refine va_sld hx hb hX hbl hbA hS sx1 dL_law_2602 ?_
    refine lv_topi (fun x_20 ex_20 => ?_)
    obtain rfl : s1 = x_20 := (show x_20 = s1 from ex_20.trans hs1.symm).symm
    refine lv_i2l hx hb dL_law_2603 rfl ?_
    refine lv_bipush (v := 32) hx hb dL_law_2604 (by decide) ?_
    refine lv_lshl hx hb dL_law_2606 rfl ?_
    refine lv_aload_n hx hb dL_law_2607 rfl (lv_at hl 1 rfl) ?_
    refine lv_iload hx hb dL_law_2608 (lv_at hl 6 rfl) ?_
    refine lv_iconst (v := 2) hx hb dL_law_2610 (by decide) ?_
    refine lv_iadd hx hb dL_law_2611 ?_
    refine va_sld hx hb hX hbl hbA hS sx2 dL_law_2612 ?_
    refine lv_topi (fun x_21 ex_21 => ?_)
    obtain rfl : s2 = x_21 := (show x_21 = s2 from ex_21.trans hs2.symm).symm
    refine lv_i2l hx hb dL_law_2613 rfl ?_
    refine lv_ldc2 (v := (4294967295)) hx hb hown (hts (.constantLong RL 280 (4294967295)) (by decide +kernel)) dL_law_2614 ?_
    refine lv_land hx hb dL_law_2617 ?_
    refine lv_lor hx hb dL_law_2618 ?_
    refine lv_topl (fun w_22 ew_22 => ?_)
    obtain rfl : w1 = w_22 := (show w_22 = w1 from ew_22.trans ew1.symm).symm
    refine lv_aload_n hx hb dL_law_2619 rfl (lv_at hl 1 rfl) ?_
    refine lv_iload hx hb dL_law_2620 (lv_at hl 6 rfl) ?_
    refine lv_iconst (v := 3) hx hb dL_law_2622 (by decide) ?_
    refine lv_iadd hx hb dL_law_2623 ?_
    refine va_sld hx hb hX hbl hbA hS sx3 dL_law_2624 ?_
    refine lv_topi (fun x_23 ex_23 => ?_)
    obtain rfl : s3 = x_23 := (show x_23 = s3 from ex_23.trans hs3.symm).symm
    have hPc := hP.sub (ws' := [(xm, .inr (20, [.int 0, .int 0, .ref kn, .int 0, .int 0, .int 0, .ref ml, .ref cl, .ref rg, .ref tR, .ref (aK 0), .ref (aK 0), .ref fl, .int 0, .int 0, .int 0, .int 0, .int 0, .int 0, .int 0, .null])), (fl, .inr (4, [.int 0, .ref e0, .int 0]))]) [0, 1] rfl
    have hDc := hD.sub (ws' := [(xm, .inr (20, [.int 0, .int 0, .ref kn, .int 0, .int 0, .int 0, .ref ml, .ref cl, .ref rg, .ref tR, .ref (aK 0), .ref (aK 0), .ref fl, .int 0, .int 0, .int 0, .int 0, .int 0, .int 0, .int 0, .null])), (fl, .inr (4, [.int 0, .ref e0, .int 0]))]) [0, 1] (by decide) rfl
    have hKc := hK.sub (tys' := []) [] rfl
    have hFc := va_free (wc := [(xm, .inr (20, [.int 0, .int 0, .ref kn, .int 0, .int 0, .int 0, .ref ml, .ref cl, .ref rg, .ref tR, .ref (aK 0), .ref (aK 0), .ref fl, .int 0, .int 0, .int 0, .int 0, .int 0, .int 0, .int 0, .null])), (fl, .inr (4, [.int 0, .ref e0, .int 0]))]) hD hS hA [0, 1] rfl
    refine va_calll (va_runV (As := [.long w1, .int s3]) (rest := []) ⟨hx, hb, hml, hown, hts⟩ (c_X15_walk l dC dI xm ml cl fl kn rg tR e0 aK aV w1 s3 H.size) (cwV 2 hts gL_law_X15_walk rfl rfl rfl (by decide +kernel) ⟨Nat.le_of_ble_eq_true rfl, Nat.le_of_ble_eq_true rfl⟩) (pcVz (zM_ok e0 aK aV) hPc hDc hKc hN hZ.2 hS hFc (ci := 20) (q0 := 0) rfl rfl) rfl rfl hl.1 rfl (lv_room (Nat.le_of_ble_eq_true rfl)) dL_law_2625 ⟨Nat.le_of_ble_eq_true rfl, Nat.le_of_ble_eq_true rfl⟩) hS (fun q _ h => hFc q h) hFc (fun r_25 u t H1 locs ht hvm hw_26 hB hz1 hk1 hS => ?_)
    obtain ⟨hP1, hK1, hD1⟩ := hB
    rw [ht] at hP1
    try dsimp only at hw_26
    obtain ⟨hP, hD⟩ := va_join (wr := [(ou, .inl (cL, 1, .inr (.inl of_4)))]) (w1 := [(xm, .inr (20, u))]) hP hD [0, 1] [2] rfl rfl (by decide) (by decide) hk1 hFc hP1 hD1
    generalize H1 = H at hP hS ⊢
    have hP : va_P (dC, dI) vwCl [(ou, .inl (cL, 1, .inr (.inl of_4))), (xm, .inr (20, u))] H := hP
    have hD : va_D A [(ou, .inl (cL, 1, .inr (.inl of_4))), (xm, .inr (20, u))] := hD
    refine W.widen (k := 203) (n := 60016) (Nat.le_of_ble_eq_true rfl) (Nat.le_of_ble_eq_true rfl) ?_
    obtain ⟨fs_24, efs_24⟩ : ∃ z, z = u := ⟨_, rfl⟩
    subst efs_24
    have hP : va_P (dC, dI) vwCl [(ou, .inl (cL, 1, .inr (.inl of_4))), (xm, .inr (20, fs_24))] H := hP
    have hD : va_D A [(ou, .inl (cL, 1, .inr (.inl of_4))), (xm, .inr (20, fs_24))] := hD
    have ht9 := hw_26.elim (fun h => absurd h.1 hPP) (fun h => h.2)
    refine lv_lstore (lv' := [(7, .long r_25), (6, .int 1), (0, .ref b), (1, .ref ya), (2, .ref xm), (3, .ref ou), (4, .ref od), (5, .int 0)]) hx hb dL_law_2628 hl (by decide) rfl (fun ls hl => ?_)
    refine lv_aload_n hx hb dL_law_2630 rfl (lv_at hl 4 rfl) ?_
    have hPc := hP.sub (ws' := [(xm, .inr (20, fs_24))]) [1] rfl
    have hDc := hD.sub (ws' := [(xm, .inr (20, fs_24))]) [1] (by decide) rfl
    have hKc := hK.sub (tys' := []) [] rfl
    have hFc := va_free (wc := [(xm, .inr (20, fs_24))]) hD hS hA [1] rfl
    refine va_calli (va_runV (As := []) (rest := []) ⟨hx, hb, hml, hown, hts⟩ (c_X15_thrown l dC dI xm fs_24 1 ht9 H.size) (cwV 0 hts gL_law_X15_thrown rfl rfl rfl (by decide +kernel) ⟨Nat.le_of_ble_eq_true rfl, Nat.le_of_ble_eq_true rfl⟩) (pcV hPc hDc hKc hN (ci := 20) (q0 := 0) rfl rfl) rfl rfl hl.1 rfl (lv_room (Nat.le_of_ble_eq_true rfl)) dL_law_2631 ⟨Nat.le_of_ble_eq_true rfl, Nat.le_of_ble_eq_true rfl⟩) hS (fun q _ h => hFc q h) hFc (fun r_27 u t H1 locs ht hvm hw_28 hB hz1 hk1 hS => ?_)
    obtain ⟨hP1, hK1, hD1⟩ := hB
    rw [ht] at hP1
    try dsimp only at hw_28
    obtain ⟨hP, hD⟩ := va_join (wr := [(ou, .inl (cL, 1, .inr (.inl of_4)))]) (w1 := []) hP hD [1] [0] rfl rfl (by decide) (by decide) hk1 hFc hP1 hD1
    generalize H1 = H at hP hS ⊢
    have hP : va_P (dC, dI) vwCl [(ou, .inl (cL, 1, .inr (.inl of_4)))] H := hP
    have hD : va_D A [(ou, .inl (cL, 1, .inr (.inl of_4)))] := hD
    obtain rfl : r_27 = 1 := hw_28
    refine lv_iload hx hb dL_law_2634 (lv_at hl 1 rfl) ?_
    refine lv_icmp_eq (tgt := 2641) hx hb dL_law_2636 (by decide) (fun c2636_29 => ?_) (fun c2636_29 => ?_)
    · refine lv_iload hx hb dL_law_2641 (lv_at hl 1 rfl) ?_
      refine lv_if_ne (tgt := 2657) hx hb dL_law_2643 (by decide) (fun c2643_30 => ?_) (fun c2643_30 => ?_)
      · refine lv_goto (tgt := 2778) hx hb dL_law_2657 (by decide) ?_
        refine W.widen (k := 600006) (n := 7302039) (Nat.le_of_ble_eq_true rfl) (Nat.le_of_ble_eq_true rfl) ?_
        exact law_end hx hb hr hml hX hbl hlocks hbA hAo hS (lv_sub hl [2, 7] rfl)
      · exact absurd c2643_30 (by decide)
    · exact (c2636_29 (by decide)).elim

set_option maxHeartbeats 8000000 in
set_option maxRecDepth 100000 in
/-- the law: law_38_walked -/
theorem law_38_walked {p : Program} {e : Env} {s : State} {m : MethodId} {below : List Frame} {meth : Method} {c : Code} {l : Launch} {b : Nat} {xs : Nat → Int32} (hx : p.tables.exec = Jvm.exec) (hb : c.code = cL_law) (hr : meth.sig.returnType = ret) (hml : c.maxLocals = 9) (hfl : l.stackTraces = false) (hown : s.vm.findClass RL = some m.cls) (hts : ∀ w ∈ wsL_law, w.before #[Value.ref b] s = true) (hX : va_X b 7 xs s s.heap) (hbl : b < s.heap.size) (hlocks : meth.locks = false) {A : Nat → Prop} (hbA : ¬ A b) (hAo : ∀ q, A q → s.heap.size ≤ q) (hA : ∀ q : Nat, s.heap.size ≤ q → A q) (dC : Nat → ClassId) (dI : Nat → Nat → Nat) (hN : nwA s) (e0 : Nat) (aK aV : Nat → Nat) (hZ : zX A s s.heap ∧ zM e0 aK aV A s s.heap) (ya ms ju rj tj ro rn tn rh th ca sa da xa wb z1 z2 jt z3 br z4 z5 z6 lk z7 z8 li bm l2 z9 bo h2 mm l1 z10 oo h1 ct cr cu cg cp co tg ts tr tk te fw fo fu xm ml cl fl rg tR ou od kn : Nat) (cI cM cS cL cD cB : ClassId) {H : Heap} {locs : List Loc} (hP : va_P (dC, dI) vwCl [(ya, .inr (16, [.ref ms, .int 0, .ref ju, .ref li, .ref ct, .ref tg, .ref fw])), (fw, .inr (6, [.int 0, .int 0, .int 0, .long 0, .ref fo, .ref fu])), (xm, .inr (20, [.int 0, .int 0, .ref kn, .int 0, .int 0, .int 0, .ref ml, .ref cl, .ref rg, .ref tR, .ref (aK 0), .ref (aK 0), .ref fl, .int 0, .int 0, .int 0, .int 0, .int 0, .int 0, .int 0, .null]))] H) (hD : va_D A [(ya, .inr (16, [.ref ms, .int 0, .ref ju, .ref li, .ref ct, .ref tg, .ref fw])), (fw, .inr (6, [.int 0, .int 0, .int 0, .long 0, .ref fo, .ref fu])), (xm, .inr (20, [.int 0, .int 0, .ref kn, .int 0, .int 0, .int 0, .ref ml, .ref cl, .ref rg, .ref tR, .ref (aK 0), .ref (aK 0), .ref fl, .int 0, .int 0, .int 0, .int 0, .int 0, .int 0, .int 0, .null]))]) (hK : va_K (dC, dI) vwCl [] s) (hS : va_S A s.heap H locs) {ls : Array Slot} (hl : lv_has ls 9 [(0, .ref b), (1, .ref ya), (2, .ref xm), (3, .ref ou), (4, .ref od), (5, .int 0)]) : W p l e room_1 s m #[Value.ref b] below meth c H locs 200 60000 (lw_Z below #[Value.ref b] s) (F0 m 2660 ls []) := by
  obtain ⟨s1, hs1⟩ : ∃ z, z = xs ((0 : Int32) + 1).toNatClampNeg := ⟨_, rfl⟩
  obtain ⟨s2, hs2⟩ : ∃ z, z = xs ((0 : Int32) + 2).toNatClampNeg := ⟨_, rfl⟩
  obtain ⟨s3, hs3⟩ : ∃ z, z = xs ((0 : Int32) + 3).toNatClampNeg := ⟨_, rfl⟩
  obtain ⟨s4, hs4⟩ : ∃ z, z = xs ((0 : Int32) + 4).toNatClampNeg := ⟨_, rfl⟩
  obtain ⟨s5, hs5⟩ : ∃ z, z = xs ((0 : Int32) + 5).toNatClampNeg := ⟨_, rfl⟩
  obtain ⟨s6, hs6⟩ : ∃ z, z = xs ((0 : Int32) + 6).toNatClampNeg := ⟨_, rfl⟩
  obtain ⟨ch1, hch1⟩ : ∃ z, z = (s1.toUInt32 % 65536).toInt32 := ⟨_, rfl⟩
  obtain ⟨ch2, hch2⟩ : ∃ z, z = (s2.toUInt32 % 65536).toInt32 := ⟨_, rfl⟩
  obtain ⟨ch3, hch3⟩ : ∃ z, z = (s3.toUInt32 % 65536).toInt32 := ⟨_, rfl⟩
  obtain ⟨ch4, hch4⟩ : ∃ z, z = (s4.toUInt32 % 65536).toInt32 := ⟨_, rfl⟩
  obtain ⟨ch5, hch5⟩ : ∃ z, z = (s5.toUInt32 % 65536).toInt32 := ⟨_, rfl⟩
  obtain ⟨ch6, hch6⟩ : ∃ z, z = (s6.toUInt32 % 65536).toInt32 := ⟨_, rfl⟩
  refine lv_aload_n hx hb dL_law_2660 rfl (lv_at hl 1 rfl) ?_
  have hPc := hP.sub (ws' := [(ya, .inr (16, [.ref ms, .int 0, .ref ju, .ref li, .ref ct, .ref tg, .ref fw])), (fw, .inr (6, [.int 0, .int 0, .int 0, .long 0, .ref fo, .ref fu]))]) [0, 1] rfl
  have hDc := hD.sub (ws' := [(ya, .inr (16, [.ref ms, .int 0, .ref ju, .ref li, .ref ct, .ref tg, .ref fw])), (fw, .inr (6, [.int 0, .int 0, .int 0, .long 0, .ref fo, .ref fu]))]) [0, 1] (by decide) rfl
  have hKc := hK.sub (tys' := []) [] rfl
  have hFc := va_free (wc := [(ya, .inr (16, [.ref ms, .int 0, .ref ju, .ref li, .ref ct, .ref tg, .ref fw])), (fw, .inr (6, [.int 0, .int 0, .int 0, .long 0, .ref fo, .ref fu]))]) hD hS hA [0, 1] rfl
  refine vx_calli (vx_runV (As := []) (rest := []) ⟨hx, hb, hml, hown, hts⟩ (c_X11_walked l hfl dC dI ya ms ju li ct tg fw fo fu 0 0 H.size) (cwV 0 hts gL_law_X11_walked rfl rfl rfl (by decide +kernel) ⟨Nat.le_of_ble_eq_true rfl, Nat.le_of_ble_eq_true rfl⟩) (pcVz (zX_ok) hPc hDc hKc hN hZ.1 hS hFc (ci := 16) (q0 := 0) rfl rfl) rfl rfl hl.1 rfl (lv_room (Nat.le_of_ble_eq_true rfl)) dL_law_2661 ⟨Nat.le_of_ble_eq_true rfl, Nat.le_of_ble_eq_true rfl⟩) hS (fun q _ h => hFc q h) hFc (fun q _ h => hFc q h) (fun E9 ce9 q9 u9 t9 H9 locs9 ht9 hvm9 hp9 hE9 hz9 hk9 hS9 hc9 hv9 hcl9 => hE9.elim) (fun r_1 u t H1 locs ht hvm hw_2 hB hz1 hk1 hS => ?_)
  obtain ⟨hP1, hK1, hD1⟩ := hB
  rw [ht] at hP1
  try dsimp only at hw_2
  obtain ⟨hP, hD⟩ := va_join (wr := [(xm, .inr (20, [.int 0, .int 0, .ref kn, .int 0, .int 0, .int 0, .ref ml, .ref cl, .ref rg, .ref tR, .ref (aK 0), .ref (aK 0), .ref fl, .int 0, .int 0, .int 0, .int 0, .int 0, .int 0, .int 0, .null]))]) (w1 := []) hP hD [0, 1] [2] rfl rfl (by decide) (by decide) hk1 hFc hP1 hD1
  generalize H1 = H at hP hS ⊢
  have hP : va_P (dC, dI) vwCl [(xm, .inr (20, [.int 0, .int 0, .ref kn, .int 0, .int 0, .int 0, .ref ml, .ref cl, .ref rg, .ref tR, .ref (aK 0), .ref (aK 0), .ref fl, .int 0, .int 0, .int 0, .int 0, .int 0, .int 0, .int 0, .null]))] H := hP
  have hD : va_D A [(xm, .inr (20, [.int 0, .int 0, .ref kn, .int 0, .int 0, .int 0, .ref ml, .ref cl, .ref rg, .ref tR, .ref (aK 0), .ref (aK 0), .ref fl, .int 0, .int 0, .int 0, .int 0, .int 0, .int 0, .int 0, .null]))] := hD
  obtain rfl : r_1 = 0 := hw_2
  refine lv_aload_n hx hb dL_law_2664 rfl (lv_at hl 2 rfl) ?_
  have hPc := hP.sub (ws' := [(xm, .inr (20, [.int 0, .int 0, .ref kn, .int 0, .int 0, .int 0, .ref ml, .ref cl, .ref rg, .ref tR, .ref (aK 0), .ref (aK 0), .ref fl, .int 0, .int 0, .int 0, .int 0, .int 0, .int 0, .int 0, .null]))]) [0] rfl
  have hDc := hD.sub (ws' := [(xm, .inr (20, [.int 0, .int 0, .ref kn, .int 0, .int 0, .int 0, .ref ml, .ref cl, .ref rg, .ref tR, .ref (aK 0), .ref (aK 0), .ref fl, .int 0, .int 0, .int 0, .int 0, .int 0, .int 0, .int 0, .null]))]) [0] (by decide) rfl
  have hKc := hK.sub (tys' := []) [] rfl
  have hFc := va_free (wc := [(xm, .inr (20, [.int 0, .int 0, .ref kn, .int 0, .int 0, .int 0, .ref ml, .ref cl, .ref rg, .ref tR, .ref (aK 0), .ref (aK 0), .ref fl, .int 0, .int 0, .int 0, .int 0, .int 0, .int 0, .int 0, .null]))]) hD hS hA [0] rfl
  refine va_calli (va_runV (As := []) (rest := [.int 0]) ⟨hx, hb, hml, hown, hts⟩ (c_X15_walked l dC dI xm ml cl fl kn rg tR e0 aK aV H.size) (cwV 0 hts gL_law_X15_walked rfl rfl rfl (by decide +kernel) ⟨Nat.le_of_ble_eq_true rfl, Nat.le_of_ble_eq_true rfl⟩) (pcV hPc hDc hKc hN (ci := 20) (q0 := 0) rfl rfl) rfl rfl hl.1 rfl (lv_room (Nat.le_of_ble_eq_true rfl)) dL_law_2665 ⟨Nat.le_of_ble_eq_true rfl, Nat.le_of_ble_eq_true rfl⟩) hS (fun q _ h => hFc q h) hFc (fun r_4 u t H1 locs ht hvm hw_5 hB hz1 hk1 hS => ?_)
  obtain ⟨hP1, hK1, hD1⟩ := hB
  rw [ht] at hP1
  try dsimp only at hw_5
  obtain ⟨hP, hD⟩ := va_join (wr := []) (w1 := [(xm, .inr (20, u))]) hP hD [0] [] rfl rfl (by decide) (by decide) hk1 hFc hP1 hD1
  generalize H1 = H at hP hS ⊢
  have hP : va_P (dC, dI) vwCl [(xm, .inr (20, u))] H := hP
  have hD : va_D A [(xm, .inr (20, u))] := hD
  obtain ⟨fs_3, efs_3⟩ : ∃ z, z = u := ⟨_, rfl⟩
  subst efs_3
  have hP : va_P (dC, dI) vwCl [(xm, .inr (20, fs_3))] H := hP
  have hD : va_D A [(xm, .inr (20, fs_3))] := hD
  obtain rfl : r_4 = 0 := hw_5.2
  refine lv_icmp_eq (tgt := 2778) hx hb dL_law_2668 (by decide) (fun c2668_6 => ?_) (fun c2668_6 => ?_)
  · refine W.widen (k := 600006) (n := 7302039) (Nat.le_of_ble_eq_true rfl) (Nat.le_of_ble_eq_true rfl) ?_
    exact law_end hx hb hr hml hX hbl hlocks hbA hAo hS (lv_sub hl [0, 5] rfl)
  · exact (c2668_6 (by decide)).elim

set_option maxHeartbeats 8000000 in
set_option maxRecDepth 100000 in
/-- the law: law_39_hasWalked -/
theorem law_39_hasWalked {p : Program} {e : Env} {s : State} {m : MethodId} {below : List Frame} {meth : Method} {c : Code} {l : Launch} {b : Nat} {xs : Nat → Int32} (hx : p.tables.exec = Jvm.exec) (hb : c.code = cL_law) (hr : meth.sig.returnType = ret) (hml : c.maxLocals = 9) (hfl : l.stackTraces = false) (hown : s.vm.findClass RL = some m.cls) (hts : ∀ w ∈ wsL_law, w.before #[Value.ref b] s = true) (hX : va_X b 7 xs s s.heap) (hbl : b < s.heap.size) (hlocks : meth.locks = false) {A : Nat → Prop} (hbA : ¬ A b) (hAo : ∀ q, A q → s.heap.size ≤ q) (hA : ∀ q : Nat, s.heap.size ≤ q → A q) (dC : Nat → ClassId) (dI : Nat → Nat → Nat) (hN : nwA s) (e0 : Nat) (aK aV : Nat → Nat) (hZ : zX A s s.heap ∧ zM e0 aK aV A s s.heap) (ya ms ju rj tj ro rn tn rh th ca sa da xa wb z1 z2 jt z3 br z4 z5 z6 lk z7 z8 li bm l2 z9 bo h2 mm l1 z10 oo h1 ct cr cu cg cp co tg ts tr tk te fw fo fu xm ml cl fl rg tR ou od kn : Nat) (cI cM cS cL cD cB : ClassId) {H : Heap} {locs : List Loc} (hP : va_P (dC, dI) vwCl [(ya, .inr (16, [.ref ms, .int 0, .ref ju, .ref li, .ref ct, .ref tg, .ref fw])), (fw, .inr (6, [.int 0, .int 0, .int 0, .long 0, .ref fo, .ref fu])), (xm, .inr (20, [.int 0, .int 0, .ref kn, .int 0, .int 0, .int 0, .ref ml, .ref cl, .ref rg, .ref tR, .ref (aK 0), .ref (aK 0), .ref fl, .int 0, .int 0, .int 0, .int 0, .int 0, .int 0, .int 0, .null]))] H) (hD : va_D A [(ya, .inr (16, [.ref ms, .int 0, .ref ju, .ref li, .ref ct, .ref tg, .ref fw])), (fw, .inr (6, [.int 0, .int 0, .int 0, .long 0, .ref fo, .ref fu])), (xm, .inr (20, [.int 0, .int 0, .ref kn, .int 0, .int 0, .int 0, .ref ml, .ref cl, .ref rg, .ref tR, .ref (aK 0), .ref (aK 0), .ref fl, .int 0, .int 0, .int 0, .int 0, .int 0, .int 0, .int 0, .null]))]) (hK : va_K (dC, dI) vwCl [] s) (hS : va_S A s.heap H locs) {ls : Array Slot} (hl : lv_has ls 9 [(0, .ref b), (1, .ref ya), (2, .ref xm), (3, .ref ou), (4, .ref od), (5, .int 0)]) : W p l e room_1 s m #[Value.ref b] below meth c H locs 200 60000 (lw_Z below #[Value.ref b] s) (F0 m 2673 ls []) := by
  obtain ⟨s1, hs1⟩ : ∃ z, z = xs ((0 : Int32) + 1).toNatClampNeg := ⟨_, rfl⟩
  obtain ⟨s2, hs2⟩ : ∃ z, z = xs ((0 : Int32) + 2).toNatClampNeg := ⟨_, rfl⟩
  obtain ⟨s3, hs3⟩ : ∃ z, z = xs ((0 : Int32) + 3).toNatClampNeg := ⟨_, rfl⟩
  obtain ⟨s4, hs4⟩ : ∃ z, z = xs ((0 : Int32) + 4).toNatClampNeg := ⟨_, rfl⟩
  obtain ⟨s5, hs5⟩ : ∃ z, z = xs ((0 : Int32) + 5).toNatClampNeg := ⟨_, rfl⟩
  obtain ⟨s6, hs6⟩ : ∃ z, z = xs ((0 : Int32) + 6).toNatClampNeg := ⟨_, rfl⟩
  obtain ⟨ch1, hch1⟩ : ∃ z, z = (s1.toUInt32 % 65536).toInt32 := ⟨_, rfl⟩
  obtain ⟨ch2, hch2⟩ : ∃ z, z = (s2.toUInt32 % 65536).toInt32 := ⟨_, rfl⟩
  obtain ⟨ch3, hch3⟩ : ∃ z, z = (s3.toUInt32 % 65536).toInt32 := ⟨_, rfl⟩
  obtain ⟨ch4, hch4⟩ : ∃ z, z = (s4.toUInt32 % 65536).toInt32 := ⟨_, rfl⟩
  obtain ⟨ch5, hch5⟩ : ∃ z, z = (s5.toUInt32 % 65536).toInt32 := ⟨_, rfl⟩
  obtain ⟨ch6, hch6⟩ : ∃ z, z = (s6.toUInt32 % 65536).toInt32 := ⟨_, rfl⟩
  refine lv_aload_n hx hb dL_law_2673 rfl (lv_at hl 1 rfl) ?_
  have hPc := hP.sub (ws' := [(ya, .inr (16, [.ref ms, .int 0, .ref ju, .ref li, .ref ct, .ref tg, .ref fw])), (fw, .inr (6, [.int 0, .int 0, .int 0, .long 0, .ref fo, .ref fu]))]) [0, 1] rfl
  have hDc := hD.sub (ws' := [(ya, .inr (16, [.ref ms, .int 0, .ref ju, .ref li, .ref ct, .ref tg, .ref fw])), (fw, .inr (6, [.int 0, .int 0, .int 0, .long 0, .ref fo, .ref fu]))]) [0, 1] (by decide) rfl
  have hKc := hK.sub (tys' := []) [] rfl
  have hFc := va_free (wc := [(ya, .inr (16, [.ref ms, .int 0, .ref ju, .ref li, .ref ct, .ref tg, .ref fw])), (fw, .inr (6, [.int 0, .int 0, .int 0, .long 0, .ref fo, .ref fu]))]) hD hS hA [0, 1] rfl
  refine vx_calli (vx_runV (As := []) (rest := []) ⟨hx, hb, hml, hown, hts⟩ (c_X11_hasWalked l hfl dC dI ya ms ju li ct tg fw fo fu 0 0 H.size) (cwV 0 hts gL_law_X11_hasWalked rfl rfl rfl (by decide +kernel) ⟨Nat.le_of_ble_eq_true rfl, Nat.le_of_ble_eq_true rfl⟩) (pcVz (zX_ok) hPc hDc hKc hN hZ.1 hS hFc (ci := 16) (q0 := 0) rfl rfl) rfl rfl hl.1 rfl (lv_room (Nat.le_of_ble_eq_true rfl)) dL_law_2674 ⟨Nat.le_of_ble_eq_true rfl, Nat.le_of_ble_eq_true rfl⟩) hS (fun q _ h => hFc q h) hFc (fun q _ h => hFc q h) (fun E9 ce9 q9 u9 t9 H9 locs9 ht9 hvm9 hp9 hE9 hz9 hk9 hS9 hc9 hv9 hcl9 => hE9.elim) (fun r_1 u t H1 locs ht hvm hw_2 hB hz1 hk1 hS => ?_)
  obtain ⟨hP1, hK1, hD1⟩ := hB
  rw [ht] at hP1
  try dsimp only at hw_2
  obtain ⟨hP, hD⟩ := va_join (wr := [(xm, .inr (20, [.int 0, .int 0, .ref kn, .int 0, .int 0, .int 0, .ref ml, .ref cl, .ref rg, .ref tR, .ref (aK 0), .ref (aK 0), .ref fl, .int 0, .int 0, .int 0, .int 0, .int 0, .int 0, .int 0, .null]))]) (w1 := []) hP hD [0, 1] [2] rfl rfl (by decide) (by decide) hk1 hFc hP1 hD1
  generalize H1 = H at hP hS ⊢
  have hP : va_P (dC, dI) vwCl [(xm, .inr (20, [.int 0, .int 0, .ref kn, .int 0, .int 0, .int 0, .ref ml, .ref cl, .ref rg, .ref tR, .ref (aK 0), .ref (aK 0), .ref fl, .int 0, .int 0, .int 0, .int 0, .int 0, .int 0, .int 0, .null]))] H := hP
  have hD : va_D A [(xm, .inr (20, [.int 0, .int 0, .ref kn, .int 0, .int 0, .int 0, .ref ml, .ref cl, .ref rg, .ref tR, .ref (aK 0), .ref (aK 0), .ref fl, .int 0, .int 0, .int 0, .int 0, .int 0, .int 0, .int 0, .null]))] := hD
  obtain rfl : r_1 = 0 := hw_2
  refine lv_aload_n hx hb dL_law_2677 rfl (lv_at hl 2 rfl) ?_
  have hPc := hP.sub (ws' := [(xm, .inr (20, [.int 0, .int 0, .ref kn, .int 0, .int 0, .int 0, .ref ml, .ref cl, .ref rg, .ref tR, .ref (aK 0), .ref (aK 0), .ref fl, .int 0, .int 0, .int 0, .int 0, .int 0, .int 0, .int 0, .null]))]) [0] rfl
  have hDc := hD.sub (ws' := [(xm, .inr (20, [.int 0, .int 0, .ref kn, .int 0, .int 0, .int 0, .ref ml, .ref cl, .ref rg, .ref tR, .ref (aK 0), .ref (aK 0), .ref fl, .int 0, .int 0, .int 0, .int 0, .int 0, .int 0, .int 0, .null]))]) [0] (by decide) rfl
  have hKc := hK.sub (tys' := []) [] rfl
  have hFc := va_free (wc := [(xm, .inr (20, [.int 0, .int 0, .ref kn, .int 0, .int 0, .int 0, .ref ml, .ref cl, .ref rg, .ref tR, .ref (aK 0), .ref (aK 0), .ref fl, .int 0, .int 0, .int 0, .int 0, .int 0, .int 0, .int 0, .null]))]) hD hS hA [0] rfl
  refine va_calli (va_runV (As := []) (rest := [.int 0]) ⟨hx, hb, hml, hown, hts⟩ (c_X15_hasWalked l dC dI xm ml cl fl kn rg tR e0 aK aV H.size) (cwV 0 hts gL_law_X15_hasWalked rfl rfl rfl (by decide +kernel) ⟨Nat.le_of_ble_eq_true rfl, Nat.le_of_ble_eq_true rfl⟩) (pcV hPc hDc hKc hN (ci := 20) (q0 := 0) rfl rfl) rfl rfl hl.1 rfl (lv_room (Nat.le_of_ble_eq_true rfl)) dL_law_2678 ⟨Nat.le_of_ble_eq_true rfl, Nat.le_of_ble_eq_true rfl⟩) hS (fun q _ h => hFc q h) hFc (fun r_4 u t H1 locs ht hvm hw_5 hB hz1 hk1 hS => ?_)
  obtain ⟨hP1, hK1, hD1⟩ := hB
  rw [ht] at hP1
  try dsimp only at hw_5
  obtain ⟨hP, hD⟩ := va_join (wr := []) (w1 := [(xm, .inr (20, u))]) hP hD [0] [] rfl rfl (by decide) (by decide) hk1 hFc hP1 hD1
  generalize H1 = H at hP hS ⊢
  have hP : va_P (dC, dI) vwCl [(xm, .inr (20, u))] H := hP
  have hD : va_D A [(xm, .inr (20, u))] := hD
  obtain ⟨fs_3, efs_3⟩ : ∃ z, z = u := ⟨_, rfl⟩
  subst efs_3
  have hP : va_P (dC, dI) vwCl [(xm, .inr (20, fs_3))] H := hP
  have hD : va_D A [(xm, .inr (20, fs_3))] := hD
  obtain rfl : r_4 = 0 := hw_5.2
  refine lv_icmp_eq (tgt := 2778) hx hb dL_law_2681 (by decide) (fun c2681_6 => ?_) (fun c2681_6 => ?_)
  · refine W.widen (k := 600006) (n := 7302039) (Nat.le_of_ble_eq_true rfl) (Nat.le_of_ble_eq_true rfl) ?_
    exact law_end hx hb hr hml hX hbl hlocks hbA hAo hS (lv_sub hl [0, 5] rfl)
  · exact (c2681_6 (by decide)).elim
