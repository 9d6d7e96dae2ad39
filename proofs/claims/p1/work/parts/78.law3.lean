theorem dL_law_1377 : decode cL_law 1377 = .ok (.aload_n 1, 1) := by decide +kernel
theorem dL_law_1378 : decode cL_law 1378 = .ok (.aload_n 0, 1) := by decide +kernel
theorem dL_law_1379 : decode cL_law 1379 = .ok (.iload 5, 2) := by decide +kernel
theorem dL_law_1381 : decode cL_law 1381 = .ok (.iconst 1, 1) := by decide +kernel
theorem dL_law_1382 : decode cL_law 1382 = .ok (.iadd, 1) := by decide +kernel
theorem dL_law_1383 : decode cL_law 1383 = .ok (.iaload, 1) := by decide +kernel
theorem dL_law_1384 : decode cL_law 1384 = .ok (.aload_n 0, 1) := by decide +kernel
theorem dL_law_1385 : decode cL_law 1385 = .ok (.iload 5, 2) := by decide +kernel
theorem dL_law_1387 : decode cL_law 1387 = .ok (.iconst 2, 1) := by decide +kernel
theorem dL_law_1388 : decode cL_law 1388 = .ok (.iadd, 1) := by decide +kernel
theorem dL_law_1389 : decode cL_law 1389 = .ok (.iaload, 1) := by decide +kernel
theorem dL_law_1390 : decode cL_law 1390 = .ok (.aload_n 3, 1) := by decide +kernel
def q_ggL_law_L_ways : List Cond := .codeWith yL_ways cL_ways 5 (some .int) [(0, 10, 13, 21), (0, 10, 17, 13)] :: ((wsL_ways_r1 ++ (wsL_ways_r2 ++ (wsL_ways_r3 ++ wsL_ways_r4))) ++ wsX110 ++ wsX20 ++ wsX100 ++ wsX50)
theorem q0_ggL_law_L_ways : GoodIn wsL_law ((q_ggL_law_L_ways.drop 0).take 24) := gi_two _ [(46, 19), (13, 12), (8, 16), (46, 20), (46, 21), (46, 22), (0, 2), (46, 23), (0, 21), (47, 0), (13, 18), (13, 19), (13, 20), (13, 21), (13, 22), (13, 23), (0, 17), (0, 16), (9, 3), (9, 4), (9, 5), (8, 22), (8, 23), (9, 0)] rfl (by decide +kernel)
theorem q1_ggL_law_L_ways : GoodIn wsL_law ((q_ggL_law_L_ways.drop 24).take 24) := gi_two _ [(9, 1), (9, 2), (47, 1), (47, 2), (47, 3), (2, 3), (47, 4), (3, 17), (3, 21), (35, 10), (35, 11), (35, 12), (35, 13), (3, 19), (3, 18), (3, 20), (35, 14), (35, 15), (35, 16), (19, 11), (12, 11), (19, 12), (35, 17), (14, 13)] rfl (by decide +kernel)
theorem q2_ggL_law_L_ways : GoodIn wsL_law ((q_ggL_law_L_ways.drop 48).take 24) := gi_two _ [(14, 14), (5, 0), (14, 15), (6, 0), (6, 1), (5, 21), (14, 16), (14, 17), (35, 18), (35, 19), (35, 20), (35, 21), (35, 22), (35, 23), (36, 0), (30, 8), (30, 9), (36, 1), (36, 2), (36, 3), (36, 4), (36, 5), (20, 2), (20, 3)] rfl (by decide +kernel)
theorem q3_ggL_law_L_ways : GoodIn wsL_law ((q_ggL_law_L_ways.drop 72).take 24) := gi_two _ [(36, 6), (20, 12), (20, 13), (36, 7), (36, 8), (36, 9), (36, 10), (36, 11), (20, 5), (20, 6), (77, 0), (77, 1), (77, 2), (77, 3), (77, 4), (77, 5), (77, 6), (79, 0), (79, 1), (79, 2), (79, 3), (79, 4), (79, 5), (86, 0)] rfl (by decide +kernel)
theorem q4_ggL_law_L_ways : GoodIn wsL_law ((q_ggL_law_L_ways.drop 96).take 24) := gi_two _ [(86, 1), (86, 2), (86, 3), (86, 4), (89, 0), (89, 1), (89, 2), (89, 3), (89, 4), (89, 5), (89, 6), (89, 7), (89, 8), (89, 9), (89, 10)] rfl (by decide +kernel)
theorem qe_ggL_law_L_ways : GoodIn wsL_law (q_ggL_law_L_ways.drop 120) := gi_two _ [] rfl (by decide +kernel)
theorem qa_ggL_law_L_ways : GoodIn wsL_law (q_ggL_law_L_ways) := (gi_step 0 24 q0_ggL_law_L_ways (gi_step 24 24 q1_ggL_law_L_ways (gi_step 48 24 q2_ggL_law_L_ways (gi_step 72 24 q3_ggL_law_L_ways (gi_step 96 24 q4_ggL_law_L_ways qe_ggL_law_L_ways)))))
set_option maxRecDepth 20000 in
theorem ggL_law_L_ways : GoodIn wsL_law wsL_ways := goodIn_ca (goodIn_ca (goodIn_ca (qa_ggL_law_L_ways) (goodIn_sub (fun _ h => List.mem_append_left _ (List.mem_append_left _ (List.mem_append_left _ (List.mem_append_left _ (List.mem_append_left _ (List.mem_append_left _ (List.mem_append_left _ (List.mem_append_right _ h)))))))) (by decide +kernel))) (goodIn_sub (fun _ h => List.mem_append_left _ (List.mem_append_left _ (List.mem_append_left _ (List.mem_append_left _ (List.mem_append_right _ h))))) (by decide +kernel))) (goodIn_sub (fun _ h => List.mem_append_left _ (List.mem_append_left _ (List.mem_append_left _ (List.mem_append_left _ (List.mem_append_left _ (List.mem_append_left _ (List.mem_append_right _ h))))))) (by decide +kernel))
set_option maxRecDepth 20000 in
theorem gL_law_L_ways : GoodIn wsL_law (va_wsS RL 207 yL_ways wsL_ways) := goodIn_app (goodIn_of _ (by decide +kernel)) ggL_law_L_ways
theorem dL_law_1391 : decode cL_law 1391 = .ok (.invokestatic 207, 3) := by decide +kernel
theorem dL_law_1394 : decode cL_law 1394 = .ok (.istore 6, 2) := by decide +kernel
theorem dL_law_1396 : decode cL_law 1396 = .ok (.aload_n 2, 1) := by decide +kernel
theorem dL_law_1397 : decode cL_law 1397 = .ok (.aload_n 0, 1) := by decide +kernel
theorem dL_law_1398 : decode cL_law 1398 = .ok (.iload 5, 2) := by decide +kernel
theorem dL_law_1400 : decode cL_law 1400 = .ok (.iconst 1, 1) := by decide +kernel
theorem dL_law_1401 : decode cL_law 1401 = .ok (.iadd, 1) := by decide +kernel
theorem dL_law_1402 : decode cL_law 1402 = .ok (.iaload, 1) := by decide +kernel
theorem dL_law_1403 : decode cL_law 1403 = .ok (.aload_n 0, 1) := by decide +kernel
theorem dL_law_1404 : decode cL_law 1404 = .ok (.iload 5, 2) := by decide +kernel
theorem dL_law_1406 : decode cL_law 1406 = .ok (.iconst 2, 1) := by decide +kernel
theorem dL_law_1407 : decode cL_law 1407 = .ok (.iadd, 1) := by decide +kernel
theorem dL_law_1408 : decode cL_law 1408 = .ok (.iaload, 1) := by decide +kernel
set_option maxRecDepth 20000 in
theorem ggL_law_X15_ways : GoodIn wsL_law wsX15_ways := goodIn_ca (goodIn_ca (gi_two _ [(47, 8), (9, 23), (7, 13), (15, 2), (7, 9), (15, 3), (15, 4), (15, 5), (0, 5), (15, 6), (10, 0), (10, 7), (10, 8), (10, 9), (7, 12), (10, 10), (10, 11), (10, 4), (10, 5), (10, 6), (15, 23), (16, 0), (16, 1), (16, 2), (15, 7), (15, 8), (15, 9), (15, 10), (15, 11), (15, 12), (15, 13), (15, 14), (15, 15), (15, 16), (15, 17), (15, 18), (15, 19), (15, 20), (15, 21), (15, 22), (8, 1), (40, 15), (40, 16), (40, 17), (40, 18), (40, 13), (40, 14), (47, 9), (47, 10), (47, 11), (47, 12), (78, 0), (78, 1), (78, 2), (78, 3), (78, 4), (78, 5), (78, 6), (78, 7), (78, 8), (78, 9), (78, 10), (78, 11), (78, 12), (78, 13), (78, 14), (78, 15), (78, 16), (78, 17), (78, 18), (78, 19), (78, 20), (91, 0), (91, 1), (91, 2), (91, 3), (91, 4), (91, 5), (91, 6), (91, 7), (91, 8), (91, 9), (91, 10), (91, 11), (90, 0), (90, 1), (90, 2)] rfl (by decide +kernel)) (goodIn_sub (fun _ h => List.mem_append_left _ (List.mem_append_left _ (List.mem_append_left _ (List.mem_append_left _ (List.mem_append_left _ (List.mem_append_left _ (List.mem_append_left _ (List.mem_append_right _ h)))))))) (by decide +kernel))) (goodIn_sub (fun _ h => List.mem_append_left _ (List.mem_append_right _ h)) (by decide +kernel))
set_option maxRecDepth 20000 in
theorem gL_law_X15_ways : GoodIn wsL_law (wsV RL 209 RX15 yX15_ways wsX15_ways) := goodIn_app (goodIn_of _ (by decide +kernel)) ggL_law_X15_ways
theorem dL_law_1409 : decode cL_law 1409 = .ok (.invokevirtual 209, 3) := by decide +kernel
theorem dL_law_1412 : decode cL_law 1412 = .ok (.istore 7, 2) := by decide +kernel
theorem dL_law_1414 : decode cL_law 1414 = .ok (.aload_n 2, 1) := by decide +kernel
theorem dL_law_1415 : decode cL_law 1415 = .ok (.invokevirtual 152, 3) := by decide +kernel
theorem dL_law_1418 : decode cL_law 1418 = .ok (.iload 6, 2) := by decide +kernel
theorem dL_law_1420 : decode cL_law 1420 = .ok (.if_icmp .eq 5, 3) := by decide +kernel
theorem dL_law_1425 : decode cL_law 1425 = .ok (.iload 6, 2) := by decide +kernel
theorem dL_law_1427 : decode cL_law 1427 = .ok (.ifCond .ne 15, 3) := by decide +kernel
theorem dL_law_1442 : decode cL_law 1442 = .ok (.goto 1336, 3) := by decide +kernel
theorem dL_law_1445 : decode cL_law 1445 = .ok (.aload_n 1, 1) := by decide +kernel
theorem dL_law_1446 : decode cL_law 1446 = .ok (.aload_n 0, 1) := by decide +kernel
theorem dL_law_1447 : decode cL_law 1447 = .ok (.iload 5, 2) := by decide +kernel
theorem dL_law_1449 : decode cL_law 1449 = .ok (.iconst 1, 1) := by decide +kernel
theorem dL_law_1450 : decode cL_law 1450 = .ok (.iadd, 1) := by decide +kernel
theorem dL_law_1451 : decode cL_law 1451 = .ok (.iaload, 1) := by decide +kernel
theorem dL_law_1452 : decode cL_law 1452 = .ok (.aload_n 0, 1) := by decide +kernel
theorem dL_law_1453 : decode cL_law 1453 = .ok (.iload 5, 2) := by decide +kernel
theorem dL_law_1455 : decode cL_law 1455 = .ok (.iconst 2, 1) := by decide +kernel
theorem dL_law_1456 : decode cL_law 1456 = .ok (.iadd, 1) := by decide +kernel
theorem dL_law_1457 : decode cL_law 1457 = .ok (.iaload, 1) := by decide +kernel
theorem dL_law_1458 : decode cL_law 1458 = .ok (.aload_n 0, 1) := by decide +kernel
theorem dL_law_1459 : decode cL_law 1459 = .ok (.iload 5, 2) := by decide +kernel
theorem dL_law_1461 : decode cL_law 1461 = .ok (.iconst 3, 1) := by decide +kernel
theorem dL_law_1462 : decode cL_law 1462 = .ok (.iadd, 1) := by decide +kernel
theorem dL_law_1463 : decode cL_law 1463 = .ok (.iaload, 1) := by decide +kernel
theorem dL_law_1464 : decode cL_law 1464 = .ok (.i2c, 1) := by decide +kernel
theorem dL_law_1465 : decode cL_law 1465 = .ok (.aload_n 3, 1) := by decide +kernel
def q_ggL_law_L_listed : List Cond := .codeWith yL_listed cL_listed 6 (some .int) [(0, 12, 15, 13)] :: ((wsL_listed_r1 ++ (wsL_listed_r2 ++ (wsL_listed_r3 ++ (wsL_listed_r4 ++ (wsL_listed_r5 ++ (wsL_listed_r6 ++ (wsL_listed_r7 ++ (wsL_listed_r8 ++ wsL_listed_r9)))))))) ++ wsX110 ++ wsX30 ++ wsX20 ++ wsX50 ++ wsX70 ++ wsX60)
theorem q0_ggL_law_L_listed : GoodIn wsL_law ((q_ggL_law_L_listed.drop 0).take 24) := gi_two _ [(47, 15), (8, 16), (47, 16), (47, 17), (47, 18), (0, 2), (47, 19), (1, 1), (0, 21), (47, 20), (47, 21), (47, 22), (9, 3), (9, 4), (9, 5), (8, 22), (8, 23), (9, 0), (9, 1), (9, 2), (47, 23), (48, 0), (48, 1), (1, 0)] rfl (by decide +kernel)
theorem q1_ggL_law_L_listed : GoodIn wsL_law ((q_ggL_law_L_listed.drop 24).take 24) := gi_two _ [(48, 2), (5, 7), (5, 8), (5, 2), (5, 3), (5, 4), (5, 5), (5, 6), (48, 3), (48, 4), (48, 5), (48, 6), (5, 9), (48, 7), (48, 8), (48, 9), (48, 10), (48, 11), (12, 23), (11, 21), (13, 0), (48, 12), (11, 20), (11, 22)] rfl (by decide +kernel)
theorem q2_ggL_law_L_listed : GoodIn wsL_law ((q_ggL_law_L_listed.drop 48).take 24) := gi_two _ [(48, 13), (19, 3), (19, 4), (1, 19), (19, 5), (19, 6), (19, 7), (19, 8), (19, 9), (3, 0), (2, 17), (2, 18), (2, 19), (2, 20), (2, 21), (2, 22), (19, 10), (19, 11), (12, 11), (19, 12), (19, 13), (19, 14), (19, 15), (19, 16)] rfl (by decide +kernel)
theorem q3_ggL_law_L_listed : GoodIn wsL_law ((q_ggL_law_L_listed.drop 72).take 24) := gi_two _ [(19, 17), (19, 18), (19, 19), (19, 20), (19, 21), (19, 22), (19, 23), (20, 0), (14, 13), (14, 14), (5, 0), (14, 15), (6, 0), (6, 1), (5, 21), (20, 1), (20, 2), (20, 3), (20, 4), (20, 5), (20, 6), (20, 7), (20, 8), (20, 9)] rfl (by decide +kernel)
theorem q4_ggL_law_L_listed : GoodIn wsL_law ((q_ggL_law_L_listed.drop 96).take 24) := gi_two _ [(20, 10), (20, 11), (20, 12), (20, 13), (48, 14), (22, 14), (22, 15), (22, 16), (48, 15), (33, 6), (33, 7), (1, 23), (33, 8), (3, 9), (3, 4), (3, 5), (33, 9), (33, 10), (33, 11), (33, 12), (3, 7), (3, 10), (3, 11), (3, 12)] rfl (by decide +kernel)
theorem q5_ggL_law_L_listed : GoodIn wsL_law ((q_ggL_law_L_listed.drop 120).take 24) := gi_two _ [(33, 13), (33, 14), (33, 15), (33, 16), (14, 16), (14, 17), (33, 17), (33, 18), (33, 19), (33, 20), (33, 21), (33, 22), (3, 8), (33, 23), (34, 0), (34, 1), (34, 2), (34, 3), (13, 2), (13, 3), (13, 4), (30, 8), (30, 9), (34, 4)] rfl (by decide +kernel)
theorem q6_ggL_law_L_listed : GoodIn wsL_law ((q_ggL_law_L_listed.drop 144).take 24) := gi_two _ [(34, 5), (34, 6), (34, 7), (34, 8), (34, 9), (34, 10), (34, 11), (34, 12), (48, 16), (34, 14), (34, 15), (34, 16), (34, 17), (34, 18), (34, 19), (34, 20), (3, 13), (34, 21), (34, 22), (34, 23), (35, 0), (35, 1), (35, 2), (35, 3)] rfl (by decide +kernel)
theorem q7_ggL_law_L_listed : GoodIn wsL_law ((q_ggL_law_L_listed.drop 168).take 24) := gi_two _ [(35, 4), (35, 5), (48, 17), (48, 18), (48, 19), (48, 20), (48, 21), (5, 1), (48, 22), (23, 13), (23, 14), (23, 15), (48, 23), (18, 2), (18, 3), (18, 4), (14, 12), (18, 5), (14, 8), (14, 9), (14, 10), (5, 17), (14, 11), (14, 1)] rfl (by decide +kernel)
theorem q8_ggL_law_L_listed : GoodIn wsL_law ((q_ggL_law_L_listed.drop 192).take 24) := gi_two _ [(14, 2), (14, 3), (49, 0), (49, 1), (14, 5), (14, 6), (49, 2), (49, 3), (49, 4), (49, 5), (49, 6), (77, 0), (77, 1), (77, 2), (77, 3), (77, 4), (77, 5), (77, 6), (80, 0), (80, 1), (80, 2), (80, 3), (80, 4), (80, 5)] rfl (by decide +kernel)
theorem q9_ggL_law_L_listed : GoodIn wsL_law ((q_ggL_law_L_listed.drop 216).take 24) := gi_two _ [(80, 6), (80, 7), (80, 8), (79, 0), (79, 1), (79, 2), (79, 3), (79, 4), (79, 5), (89, 0), (89, 1), (89, 2), (89, 3), (89, 4), (89, 5), (89, 6), (89, 7), (89, 8), (89, 9), (89, 10), (84, 0), (84, 1), (84, 2), (84, 3)] rfl (by decide +kernel)
theorem q10_ggL_law_L_listed : GoodIn wsL_law ((q_ggL_law_L_listed.drop 240).take 24) := gi_two _ [(84, 4), (84, 5), (84, 6), (85, 0), (85, 1), (85, 2), (85, 3), (85, 4), (85, 5), (85, 6), (85, 7), (85, 8)] rfl (by decide +kernel)
theorem qe_ggL_law_L_listed : GoodIn wsL_law (q_ggL_law_L_listed.drop 264) := gi_two _ [] rfl (by decide +kernel)
theorem qa_ggL_law_L_listed : GoodIn wsL_law (q_ggL_law_L_listed) := (gi_step 0 24 q0_ggL_law_L_listed (gi_step 24 24 q1_ggL_law_L_listed (gi_step 48 24 q2_ggL_law_L_listed (gi_step 72 24 q3_ggL_law_L_listed (gi_step 96 24 q4_ggL_law_L_listed (gi_step 120 24 q5_ggL_law_L_listed (gi_step 144 24 q6_ggL_law_L_listed (gi_step 168 24 q7_ggL_law_L_listed (gi_step 192 24 q8_ggL_law_L_listed (gi_step 216 24 q9_ggL_law_L_listed (gi_step 240 24 q10_ggL_law_L_listed qe_ggL_law_L_listed)))))))))))
set_option maxRecDepth 20000 in
theorem ggL_law_L_listed : GoodIn wsL_law wsL_listed := goodIn_ca (goodIn_ca (qa_ggL_law_L_listed) (goodIn_sub (fun _ h => List.mem_append_left _ (List.mem_append_left _ (List.mem_append_left _ (List.mem_append_left _ (List.mem_append_left _ (List.mem_append_left _ (List.mem_append_left _ (List.mem_append_right _ h)))))))) (by decide +kernel))) (goodIn_sub (fun _ h => List.mem_append_left _ (List.mem_append_left _ (List.mem_append_left _ (List.mem_append_left _ (List.mem_append_left _ (List.mem_append_left _ (List.mem_append_right _ h))))))) (by decide +kernel))
set_option maxRecDepth 20000 in
theorem gL_law_L_listed : GoodIn wsL_law (va_wsS RL 210 yL_listed wsL_listed) := goodIn_app (goodIn_of _ (by decide +kernel)) ggL_law_L_listed
theorem dL_law_1466 : decode cL_law 1466 = .ok (.invokestatic 210, 3) := by decide +kernel
theorem dL_law_1469 : decode cL_law 1469 = .ok (.istore 6, 2) := by decide +kernel
theorem dL_law_1471 : decode cL_law 1471 = .ok (.aload_n 2, 1) := by decide +kernel
theorem dL_law_1472 : decode cL_law 1472 = .ok (.aload_n 0, 1) := by decide +kernel
theorem dL_law_1473 : decode cL_law 1473 = .ok (.iload 5, 2) := by decide +kernel
theorem dL_law_1475 : decode cL_law 1475 = .ok (.iconst 1, 1) := by decide +kernel
theorem dL_law_1476 : decode cL_law 1476 = .ok (.iadd, 1) := by decide +kernel
theorem dL_law_1477 : decode cL_law 1477 = .ok (.iaload, 1) := by decide +kernel
theorem dL_law_1478 : decode cL_law 1478 = .ok (.aload_n 0, 1) := by decide +kernel
theorem dL_law_1479 : decode cL_law 1479 = .ok (.iload 5, 2) := by decide +kernel
theorem dL_law_1481 : decode cL_law 1481 = .ok (.iconst 2, 1) := by decide +kernel
theorem dL_law_1482 : decode cL_law 1482 = .ok (.iadd, 1) := by decide +kernel
theorem dL_law_1483 : decode cL_law 1483 = .ok (.iaload, 1) := by decide +kernel
theorem dL_law_1484 : decode cL_law 1484 = .ok (.aload_n 0, 1) := by decide +kernel
theorem dL_law_1485 : decode cL_law 1485 = .ok (.iload 5, 2) := by decide +kernel
theorem dL_law_1487 : decode cL_law 1487 = .ok (.iconst 3, 1) := by decide +kernel
theorem dL_law_1488 : decode cL_law 1488 = .ok (.iadd, 1) := by decide +kernel
theorem dL_law_1489 : decode cL_law 1489 = .ok (.iaload, 1) := by decide +kernel
theorem dL_law_1490 : decode cL_law 1490 = .ok (.i2c, 1) := by decide +kernel
def q_ggL_law_X15_listed : List Cond := .code yX15_listed cX15_listed 4 (some .int) :: ((wsX15_listed_r1 ++ (wsX15_listed_r2 ++ (wsX15_listed_r3 ++ (wsX15_listed_r4 ++ (wsX15_listed_r5 ++ (wsX15_listed_r6 ++ (wsX15_listed_r7 ++ (wsX15_listed_r8 ++ (wsX15_listed_r9 ++ wsX15_listed_r10))))))))) ++ wsX150 ++ wsJ00 ++ wsX130 ++ wsX140)
theorem q0_ggL_law_X15_listed : GoodIn wsL_law ((q_ggL_law_X15_listed.drop 0).take 24) := gi_two _ [(49, 10), (10, 0), (49, 11), (49, 12), (49, 13), (49, 14), (49, 15), (49, 16), (49, 17), (0, 5), (49, 18), (9, 22), (49, 19), (10, 4), (10, 5), (10, 6), (23, 20), (23, 21), (23, 22), (23, 23), (24, 0), (24, 1), (24, 2), (24, 3)] rfl (by decide +kernel)
theorem q1_ggL_law_X15_listed : GoodIn wsL_law ((q_ggL_law_X15_listed.drop 24).take 24) := gi_two _ [(24, 4), (24, 5), (24, 6), (24, 7), (24, 8), (24, 9), (24, 10), (24, 11), (24, 12), (24, 13), (24, 14), (24, 15), (24, 16), (24, 17), (24, 18), (24, 19), (24, 20), (24, 21), (24, 22), (24, 23), (25, 0), (11, 20), (11, 21), (11, 22)] rfl (by decide +kernel)
theorem q2_ggL_law_X15_listed : GoodIn wsL_law ((q_ggL_law_X15_listed.drop 48).take 24) := gi_two _ [(25, 1), (12, 23), (13, 0), (25, 2), (25, 3), (25, 4), (25, 5), (25, 6), (25, 7), (25, 8), (25, 9), (25, 10), (25, 11), (25, 12), (25, 13), (25, 14), (25, 15), (25, 16), (25, 17), (25, 18), (25, 19), (25, 20), (25, 21), (25, 22)] rfl (by decide +kernel)
theorem q3_ggL_law_X15_listed : GoodIn wsL_law ((q_ggL_law_X15_listed.drop 72).take 24) := gi_two _ [(25, 23), (26, 0), (26, 1), (26, 2), (26, 3), (26, 4), (26, 5), (15, 17), (26, 6), (26, 7), (26, 8), (26, 9), (26, 10), (26, 11), (26, 12), (26, 13), (26, 14), (26, 15), (26, 16), (26, 17), (26, 18), (26, 19), (26, 20), (26, 21)] rfl (by decide +kernel)
theorem q4_ggL_law_X15_listed : GoodIn wsL_law ((q_ggL_law_X15_listed.drop 96).take 24) := gi_two _ [(26, 22), (26, 23), (27, 0), (27, 1), (27, 2), (27, 3), (27, 4), (27, 5), (27, 6), (49, 20), (49, 21), (49, 22), (49, 23), (50, 0), (10, 1), (10, 2), (10, 3), (10, 12), (10, 13), (10, 14), (10, 15), (0, 13), (0, 14), (10, 16)] rfl (by decide +kernel)
theorem q5_ggL_law_X15_listed : GoodIn wsL_law ((q_ggL_law_X15_listed.drop 120).take 24) := gi_two _ [(10, 17), (10, 18), (10, 19), (10, 20), (10, 21), (2, 23), (10, 22), (10, 23), (11, 0), (50, 1), (50, 2), (50, 3), (50, 4), (20, 19), (20, 20), (20, 21), (40, 23), (40, 4), (20, 22), (20, 23), (21, 0), (21, 1), (21, 2), (21, 3)] rfl (by decide +kernel)
theorem q6_ggL_law_X15_listed : GoodIn wsL_law ((q_ggL_law_X15_listed.drop 144).take 24) := gi_two _ [(21, 4), (21, 5), (21, 6), (21, 7), (21, 8), (21, 9), (21, 10), (21, 11), (21, 12), (21, 13), (21, 14), (21, 15), (21, 16), (21, 17), (21, 18), (21, 19), (21, 20), (21, 21), (21, 22), (21, 23), (22, 0), (22, 1), (22, 2), (22, 3)] rfl (by decide +kernel)
theorem q7_ggL_law_X15_listed : GoodIn wsL_law ((q_ggL_law_X15_listed.drop 168).take 24) := gi_two _ [(22, 4), (22, 5), (16, 4), (16, 5), (16, 6), (39, 0), (39, 1), (39, 2), (39, 3), (39, 4), (39, 5), (39, 6), (39, 7), (39, 8), (39, 9), (39, 10), (39, 11), (39, 12), (39, 13), (39, 14), (39, 15), (39, 16), (38, 20), (38, 21)] rfl (by decide +kernel)
theorem q8_ggL_law_X15_listed : GoodIn wsL_law ((q_ggL_law_X15_listed.drop 192).take 24) := gi_two _ [(38, 22), (38, 23), (38, 10), (38, 11), (39, 17), (39, 18), (39, 19), (39, 20), (39, 21), (39, 22), (39, 23), (40, 0), (40, 1), (40, 2), (40, 3), (40, 5), (40, 6), (40, 7), (40, 8), (18, 10), (18, 11), (18, 12), (18, 13), (18, 14)] rfl (by decide +kernel)
theorem q9_ggL_law_X15_listed : GoodIn wsL_law ((q_ggL_law_X15_listed.drop 216).take 24) := gi_two _ [(16, 11), (18, 15), (27, 7), (27, 8), (27, 9), (27, 10), (50, 5), (16, 7), (16, 8), (16, 9), (16, 10), (16, 12), (16, 13), (16, 14), (16, 15), (16, 16), (17, 11), (17, 12), (17, 13), (17, 14), (78, 0), (78, 1), (78, 2), (78, 3)] rfl (by decide +kernel)
theorem q10_ggL_law_X15_listed : GoodIn wsL_law ((q_ggL_law_X15_listed.drop 240).take 24) := gi_two _ [(78, 4), (78, 5), (78, 6), (78, 7), (78, 8), (78, 9), (78, 10), (78, 11), (78, 12), (78, 13), (78, 14), (78, 15), (78, 16), (78, 17), (78, 18), (78, 19), (78, 20), (93, 0), (93, 1), (93, 2), (93, 3), (91, 0), (91, 1), (91, 2)] rfl (by decide +kernel)
theorem q11_ggL_law_X15_listed : GoodIn wsL_law ((q_ggL_law_X15_listed.drop 264).take 24) := gi_two _ [(91, 3), (91, 4), (91, 5), (91, 6), (91, 7), (91, 8), (91, 9), (91, 10), (91, 11), (92, 0), (92, 1), (92, 2), (92, 3), (92, 4), (92, 5), (92, 6), (92, 7), (92, 8)] rfl (by decide +kernel)
theorem qe_ggL_law_X15_listed : GoodIn wsL_law (q_ggL_law_X15_listed.drop 288) := gi_two _ [] rfl (by decide +kernel)
theorem qa_ggL_law_X15_listed : GoodIn wsL_law (q_ggL_law_X15_listed) := (gi_step 0 24 q0_ggL_law_X15_listed (gi_step 24 24 q1_ggL_law_X15_listed (gi_step 48 24 q2_ggL_law_X15_listed (gi_step 72 24 q3_ggL_law_X15_listed (gi_step 96 24 q4_ggL_law_X15_listed (gi_step 120 24 q5_ggL_law_X15_listed (gi_step 144 24 q6_ggL_law_X15_listed (gi_step 168 24 q7_ggL_law_X15_listed (gi_step 192 24 q8_ggL_law_X15_listed (gi_step 216 24 q9_ggL_law_X15_listed (gi_step 240 24 q10_ggL_law_X15_listed (gi_step 264 24 q11_ggL_law_X15_listed qe_ggL_law_X15_listed))))))))))))
set_option maxRecDepth 20000 in
theorem ggL_law_X15_listed : GoodIn wsL_law wsX15_listed := goodIn_ca (goodIn_ca (qa_ggL_law_X15_listed) (goodIn_sub (fun _ h => List.mem_append_left _ (List.mem_append_left _ (List.mem_append_left _ (List.mem_append_left _ (List.mem_append_left _ (List.mem_append_left _ (List.mem_append_left _ (List.mem_append_right _ h)))))))) (by decide +kernel))) (goodIn_sub (fun _ h => List.mem_append_left _ (List.mem_append_right _ h)) (by decide +kernel))
set_option maxRecDepth 20000 in
theorem gL_law_X15_listed : GoodIn wsL_law (wsV RL 213 RX15 yX15_listed wsX15_listed) := goodIn_app (goodIn_of _ (by decide +kernel)) ggL_law_X15_listed
theorem dL_law_1491 : decode cL_law 1491 = .ok (.invokevirtual 213, 3) := by decide +kernel
theorem dL_law_1494 : decode cL_law 1494 = .ok (.istore 7, 2) := by decide +kernel
theorem dL_law_1496 : decode cL_law 1496 = .ok (.aload_n 2, 1) := by decide +kernel
theorem dL_law_1497 : decode cL_law 1497 = .ok (.invokevirtual 152, 3) := by decide +kernel
theorem dL_law_1500 : decode cL_law 1500 = .ok (.iload 6, 2) := by decide +kernel
theorem dL_law_1502 : decode cL_law 1502 = .ok (.if_icmp .eq 5, 3) := by decide +kernel
theorem dL_law_1507 : decode cL_law 1507 = .ok (.iload 6, 2) := by decide +kernel
theorem dL_law_1509 : decode cL_law 1509 = .ok (.ifCond .ne 15, 3) := by decide +kernel
theorem dL_law_1512 : decode cL_law 1512 = .ok (.aload_n 3, 1) := by decide +kernel
theorem dL_law_1513 : decode cL_law 1513 = .ok (.iconst 0, 1) := by decide +kernel
theorem dL_law_1514 : decode cL_law 1514 = .ok (.laload, 1) := by decide +kernel
theorem dL_law_1515 : decode cL_law 1515 = .ok (.iload 7, 2) := by decide +kernel
theorem dL_law_1517 : decode cL_law 1517 = .ok (.i2l, 1) := by decide +kernel
theorem dL_law_1518 : decode cL_law 1518 = .ok (.lcmp, 1) := by decide +kernel
theorem dL_law_1519 : decode cL_law 1519 = .ok (.ifCond .eq 5, 3) := by decide +kernel
theorem dL_law_1524 : decode cL_law 1524 = .ok (.goto 1254, 3) := by decide +kernel
theorem dL_law_1527 : decode cL_law 1527 = .ok (.aload_n 1, 1) := by decide +kernel
theorem dL_law_1528 : decode cL_law 1528 = .ok (.aload_n 0, 1) := by decide +kernel
theorem dL_law_1529 : decode cL_law 1529 = .ok (.iload 5, 2) := by decide +kernel
theorem dL_law_1531 : decode cL_law 1531 = .ok (.iconst 1, 1) := by decide +kernel
theorem dL_law_1532 : decode cL_law 1532 = .ok (.iadd, 1) := by decide +kernel
theorem dL_law_1533 : decode cL_law 1533 = .ok (.iaload, 1) := by decide +kernel
theorem dL_law_1534 : decode cL_law 1534 = .ok (.aload_n 0, 1) := by decide +kernel
theorem dL_law_1535 : decode cL_law 1535 = .ok (.iload 5, 2) := by decide +kernel
theorem dL_law_1537 : decode cL_law 1537 = .ok (.iconst 2, 1) := by decide +kernel
theorem dL_law_1538 : decode cL_law 1538 = .ok (.iadd, 1) := by decide +kernel
theorem dL_law_1539 : decode cL_law 1539 = .ok (.iaload, 1) := by decide +kernel
theorem dL_law_1540 : decode cL_law 1540 = .ok (.aload_n 3, 1) := by decide +kernel
def q_ggL_law_L_champion : List Cond := .codeWith yL_champion cL_champion 5 (some .int) [(0, 10, 13, 13), (0, 10, 17, 15)] :: ((wsL_champion_r1 ++ (wsL_champion_r2 ++ (wsL_champion_r3 ++ (wsL_champion_r4 ++ (wsL_champion_r5 ++ (wsL_champion_r6 ++ (wsL_champion_r7 ++ (wsL_champion_r8 ++ (wsL_champion_r9 ++ wsL_champion_r10))))))))) ++ wsX110 ++ wsX50 ++ wsX30 ++ wsX20 ++ wsX70 ++ wsX60)
theorem q0_ggL_law_L_champion : GoodIn wsL_law ((q_ggL_law_L_champion.drop 0).take 24) := gi_two _ [(50, 8), (8, 16), (8, 17), (50, 9), (50, 10), (50, 11), (0, 2), (50, 12), (1, 1), (0, 21), (0, 15), (4, 23), (5, 0), (50, 13), (47, 20), (47, 21), (47, 22), (9, 3), (9, 4), (9, 5), (8, 22), (8, 23), (9, 0), (9, 1)] rfl (by decide +kernel)
theorem q1_ggL_law_L_champion : GoodIn wsL_law ((q_ggL_law_L_champion.drop 24).take 24) := gi_two _ [(9, 2), (9, 6), (9, 7), (9, 8), (9, 9), (9, 10), (9, 11), (0, 17), (47, 23), (48, 0), (48, 1), (1, 0), (48, 2), (5, 7), (5, 8), (5, 2), (5, 3), (5, 4), (5, 5), (5, 6), (48, 3), (48, 4), (48, 5), (48, 6)] rfl (by decide +kernel)
theorem q2_ggL_law_L_champion : GoodIn wsL_law ((q_ggL_law_L_champion.drop 48).take 24) := gi_two _ [(5, 9), (48, 7), (48, 8), (48, 9), (48, 10), (48, 11), (12, 23), (11, 21), (13, 0), (48, 12), (11, 20), (11, 22), (48, 13), (19, 3), (19, 4), (1, 19), (19, 5), (19, 6), (19, 7), (19, 8), (19, 9), (3, 0), (2, 17), (2, 18)] rfl (by decide +kernel)
theorem q3_ggL_law_L_champion : GoodIn wsL_law ((q_ggL_law_L_champion.drop 72).take 24) := gi_two _ [(2, 19), (2, 20), (2, 21), (2, 22), (19, 10), (19, 11), (12, 11), (19, 12), (19, 13), (19, 14), (19, 15), (19, 16), (19, 17), (19, 18), (19, 19), (19, 20), (19, 21), (19, 22), (19, 23), (20, 0), (14, 13), (14, 14), (14, 15), (6, 0)] rfl (by decide +kernel)
theorem q4_ggL_law_L_champion : GoodIn wsL_law ((q_ggL_law_L_champion.drop 96).take 24) := gi_two _ [(6, 1), (5, 21), (20, 1), (20, 2), (20, 3), (20, 4), (20, 5), (20, 6), (20, 7), (20, 8), (20, 9), (20, 10), (20, 11), (20, 12), (20, 13), (48, 14), (22, 14), (22, 15), (22, 16), (48, 15), (33, 6), (33, 7), (1, 23), (33, 8)] rfl (by decide +kernel)
theorem q5_ggL_law_L_champion : GoodIn wsL_law ((q_ggL_law_L_champion.drop 120).take 24) := gi_two _ [(3, 9), (3, 4), (3, 5), (33, 9), (33, 10), (33, 11), (33, 12), (3, 7), (3, 10), (3, 11), (3, 12), (33, 13), (33, 14), (33, 15), (33, 16), (14, 16), (14, 17), (33, 17), (33, 18), (33, 19), (33, 20), (33, 21), (33, 22), (3, 8)] rfl (by decide +kernel)
theorem q6_ggL_law_L_champion : GoodIn wsL_law ((q_ggL_law_L_champion.drop 144).take 24) := gi_two _ [(33, 23), (34, 0), (34, 1), (34, 2), (34, 3), (13, 2), (13, 3), (13, 4), (30, 8), (30, 9), (34, 4), (34, 5), (34, 6), (34, 7), (34, 8), (34, 9), (34, 10), (34, 11), (34, 12), (48, 16), (34, 14), (34, 15), (34, 16), (34, 17)] rfl (by decide +kernel)
theorem q7_ggL_law_L_champion : GoodIn wsL_law ((q_ggL_law_L_champion.drop 168).take 24) := gi_two _ [(34, 18), (34, 19), (34, 20), (3, 13), (34, 21), (34, 22), (34, 23), (35, 0), (35, 1), (35, 2), (35, 3), (35, 4), (35, 5), (48, 17), (48, 18), (48, 19), (48, 20), (48, 21), (5, 1), (48, 22), (23, 13), (23, 14), (23, 15), (48, 23)] rfl (by decide +kernel)
theorem q8_ggL_law_L_champion : GoodIn wsL_law ((q_ggL_law_L_champion.drop 192).take 24) := gi_two _ [(18, 2), (18, 3), (18, 4), (14, 12), (18, 5), (14, 8), (14, 9), (14, 10), (5, 17), (14, 11), (14, 1), (14, 2), (14, 3), (49, 0), (49, 1), (14, 5), (14, 6), (49, 2), (9, 12), (5, 11), (5, 12), (5, 13), (0, 13), (0, 14)] rfl (by decide +kernel)
theorem q9_ggL_law_L_champion : GoodIn wsL_law ((q_ggL_law_L_champion.drop 216).take 24) := gi_two _ [(5, 14), (1, 18), (5, 15), (5, 16), (5, 18), (5, 19), (5, 20), (2, 23), (5, 22), (5, 23), (2, 14), (2, 15), (2, 16), (18, 1), (9, 13), (9, 14), (9, 15), (9, 16), (0, 16), (77, 0), (77, 1), (77, 2), (77, 3), (77, 4)] rfl (by decide +kernel)
theorem q10_ggL_law_L_champion : GoodIn wsL_law ((q_ggL_law_L_champion.drop 240).take 24) := gi_two _ [(77, 5), (77, 6), (89, 0), (89, 1), (89, 2), (89, 3), (89, 4), (89, 5), (89, 6), (89, 7), (89, 8), (89, 9), (89, 10), (80, 0), (80, 1), (80, 2), (80, 3), (80, 4), (80, 5), (80, 6), (80, 7), (80, 8), (79, 0), (79, 1)] rfl (by decide +kernel)
theorem q11_ggL_law_L_champion : GoodIn wsL_law ((q_ggL_law_L_champion.drop 264).take 24) := gi_two _ [(79, 2), (79, 3), (79, 4), (79, 5), (84, 0), (84, 1), (84, 2), (84, 3), (84, 4), (84, 5), (84, 6), (85, 0), (85, 1), (85, 2), (85, 3), (85, 4), (85, 5), (85, 6), (85, 7), (85, 8)] rfl (by decide +kernel)
theorem qe_ggL_law_L_champion : GoodIn wsL_law (q_ggL_law_L_champion.drop 288) := gi_two _ [] rfl (by decide +kernel)
theorem qa_ggL_law_L_champion : GoodIn wsL_law (q_ggL_law_L_champion) := (gi_step 0 24 q0_ggL_law_L_champion (gi_step 24 24 q1_ggL_law_L_champion (gi_step 48 24 q2_ggL_law_L_champion (gi_step 72 24 q3_ggL_law_L_champion (gi_step 96 24 q4_ggL_law_L_champion (gi_step 120 24 q5_ggL_law_L_champion (gi_step 144 24 q6_ggL_law_L_champion (gi_step 168 24 q7_ggL_law_L_champion (gi_step 192 24 q8_ggL_law_L_champion (gi_step 216 24 q9_ggL_law_L_champion (gi_step 240 24 q10_ggL_law_L_champion (gi_step 264 24 q11_ggL_law_L_champion qe_ggL_law_L_champion))))))))))))
set_option maxRecDepth 20000 in
theorem ggL_law_L_champion : GoodIn wsL_law wsL_champion := goodIn_ca (goodIn_ca (goodIn_ca (qa_ggL_law_L_champion) (goodIn_sub (fun _ h => List.mem_append_left _ (List.mem_append_left _ (List.mem_append_left _ (List.mem_append_left _ (List.mem_append_left _ (List.mem_append_left _ (List.mem_append_left _ (List.mem_append_right _ h)))))))) (by decide +kernel))) (goodIn_sub (fun _ h => List.mem_append_left _ (List.mem_append_left _ (List.mem_append_left _ (List.mem_append_left _ (List.mem_append_left _ (List.mem_append_left _ (List.mem_append_right _ h))))))) (by decide +kernel))) (goodIn_sub (fun _ h => List.mem_append_left _ (List.mem_append_left _ (List.mem_append_left _ (List.mem_append_left _ (List.mem_append_left _ (List.mem_append_right _ h)))))) (by decide +kernel))
set_option maxRecDepth 20000 in
theorem gL_law_L_champion : GoodIn wsL_law (va_wsS RL 214 yL_champion wsL_champion) := goodIn_app (goodIn_of _ (by decide +kernel)) ggL_law_L_champion
theorem dL_law_1541 : decode cL_law 1541 = .ok (.invokestatic 214, 3) := by decide +kernel
theorem dL_law_1544 : decode cL_law 1544 = .ok (.istore 6, 2) := by decide +kernel
theorem dL_law_1546 : decode cL_law 1546 = .ok (.aload_n 2, 1) := by decide +kernel
theorem dL_law_1547 : decode cL_law 1547 = .ok (.aload_n 0, 1) := by decide +kernel
theorem dL_law_1548 : decode cL_law 1548 = .ok (.iload 5, 2) := by decide +kernel
theorem dL_law_1550 : decode cL_law 1550 = .ok (.iconst 1, 1) := by decide +kernel
theorem dL_law_1551 : decode cL_law 1551 = .ok (.iadd, 1) := by decide +kernel
theorem dL_law_1552 : decode cL_law 1552 = .ok (.iaload, 1) := by decide +kernel
theorem dL_law_1553 : decode cL_law 1553 = .ok (.aload_n 0, 1) := by decide +kernel
theorem dL_law_1554 : decode cL_law 1554 = .ok (.iload 5, 2) := by decide +kernel
theorem dL_law_1556 : decode cL_law 1556 = .ok (.iconst 2, 1) := by decide +kernel
theorem dL_law_1557 : decode cL_law 1557 = .ok (.iadd, 1) := by decide +kernel
theorem dL_law_1558 : decode cL_law 1558 = .ok (.iaload, 1) := by decide +kernel
def q_ggL_law_X15_champion : List Cond := .code yX15_champion cX15_champion 3 (some .int) :: ((wsX15_champion_r1 ++ (wsX15_champion_r2 ++ (wsX15_champion_r3 ++ (wsX15_champion_r4 ++ (wsX15_champion_r5 ++ (wsX15_champion_r6 ++ (wsX15_champion_r7 ++ (wsX15_champion_r8 ++ wsX15_champion_r9)))))))) ++ wsX150 ++ wsJx4a65c0 ++ wsX130 ++ wsX140)
theorem q0_ggL_law_X15_champion : GoodIn wsL_law ((q_ggL_law_X15_champion.drop 0).take 24) := gi_two _ [(50, 17), (7, 13), (10, 0), (50, 0), (49, 16), (49, 17), (0, 5), (49, 18), (9, 22), (49, 19), (10, 4), (10, 5), (10, 6), (10, 7), (10, 8), (10, 9), (7, 12), (10, 10), (10, 11), (49, 20), (49, 21), (49, 22), (49, 23), (49, 11)] rfl (by decide +kernel)
theorem q1_ggL_law_X15_champion : GoodIn wsL_law ((q_ggL_law_X15_champion.drop 24).take 24) := gi_two _ [(49, 12), (49, 13), (49, 14), (49, 15), (10, 1), (10, 2), (10, 3), (10, 12), (10, 13), (10, 14), (10, 15), (0, 13), (0, 14), (10, 16), (10, 17), (10, 18), (10, 19), (10, 20), (10, 21), (2, 23), (10, 22), (10, 23), (11, 0), (50, 1)] rfl (by decide +kernel)
theorem q2_ggL_law_X15_champion : GoodIn wsL_law ((q_ggL_law_X15_champion.drop 48).take 24) := gi_two _ [(50, 2), (50, 3), (50, 4), (20, 19), (20, 20), (20, 21), (40, 23), (11, 20), (11, 21), (11, 22), (40, 4), (12, 23), (13, 0), (20, 22), (20, 23), (21, 0), (21, 1), (21, 2), (21, 3), (21, 4), (21, 5), (21, 6), (21, 7), (21, 8)] rfl (by decide +kernel)
theorem q3_ggL_law_X15_champion : GoodIn wsL_law ((q_ggL_law_X15_champion.drop 72).take 24) := gi_two _ [(21, 9), (21, 10), (21, 11), (21, 12), (21, 13), (21, 14), (21, 15), (21, 16), (21, 17), (21, 18), (21, 19), (21, 20), (21, 21), (21, 22), (21, 23), (22, 0), (22, 1), (22, 2), (22, 3), (22, 4), (22, 5), (16, 4), (16, 5), (16, 6)] rfl (by decide +kernel)
theorem q4_ggL_law_X15_champion : GoodIn wsL_law ((q_ggL_law_X15_champion.drop 96).take 24) := gi_two _ [(39, 0), (39, 1), (39, 2), (39, 3), (39, 4), (39, 5), (39, 6), (39, 7), (39, 8), (39, 9), (39, 10), (39, 11), (39, 12), (39, 13), (39, 14), (39, 15), (39, 16), (38, 20), (38, 21), (38, 22), (38, 23), (38, 10), (38, 11), (39, 17)] rfl (by decide +kernel)
theorem q5_ggL_law_X15_champion : GoodIn wsL_law ((q_ggL_law_X15_champion.drop 120).take 24) := gi_two _ [(39, 18), (39, 19), (39, 20), (39, 21), (39, 22), (39, 23), (40, 0), (40, 1), (40, 2), (40, 3), (40, 5), (40, 6), (40, 7), (40, 8), (18, 10), (18, 11), (18, 12), (18, 13), (18, 14), (16, 11), (18, 15), (27, 7), (27, 8), (27, 9)] rfl (by decide +kernel)
theorem q6_ggL_law_X15_champion : GoodIn wsL_law ((q_ggL_law_X15_champion.drop 144).take 24) := gi_two _ [(27, 10), (50, 5), (16, 7), (16, 8), (16, 9), (16, 10), (16, 12), (16, 13), (16, 14), (16, 15), (16, 16), (17, 11), (17, 12), (17, 13), (17, 14), (11, 1), (11, 2), (11, 3), (11, 4), (11, 5), (11, 6), (8, 1), (11, 7), (11, 8)] rfl (by decide +kernel)
theorem q7_ggL_law_X15_champion : GoodIn wsL_law ((q_ggL_law_X15_champion.drop 168).take 24) := gi_two _ [(11, 9), (11, 10), (11, 11), (11, 12), (11, 13), (11, 14), (11, 15), (11, 16), (11, 17), (11, 18), (8, 0), (11, 19), (11, 23), (12, 0), (12, 1), (12, 2), (12, 3), (12, 4), (12, 5), (12, 6), (12, 7), (12, 8), (12, 9), (12, 10)] rfl (by decide +kernel)
theorem q8_ggL_law_X15_champion : GoodIn wsL_law ((q_ggL_law_X15_champion.drop 192).take 24) := gi_two _ [(12, 11), (12, 12), (12, 13), (12, 14), (12, 15), (12, 16), (12, 17), (12, 18), (12, 19), (12, 20), (12, 21), (12, 22), (13, 1), (13, 2), (13, 3), (13, 4), (78, 0), (78, 1), (78, 2), (78, 3), (78, 4), (78, 5), (78, 6), (78, 7)] rfl (by decide +kernel)
theorem q9_ggL_law_X15_champion : GoodIn wsL_law ((q_ggL_law_X15_champion.drop 216).take 24) := gi_two _ [(78, 8), (78, 9), (78, 10), (78, 11), (78, 12), (78, 13), (78, 14), (78, 15), (78, 16), (78, 17), (78, 18), (78, 19), (78, 20), (90, 0), (90, 1), (90, 2), (91, 0), (91, 1), (91, 2), (91, 3), (91, 4), (91, 5), (91, 6), (91, 7)] rfl (by decide +kernel)
theorem q10_ggL_law_X15_champion : GoodIn wsL_law ((q_ggL_law_X15_champion.drop 240).take 24) := gi_two _ [(91, 8), (91, 9), (91, 10), (91, 11), (92, 0), (92, 1), (92, 2), (92, 3), (92, 4), (92, 5), (92, 6), (92, 7), (92, 8)] rfl (by decide +kernel)
theorem qe_ggL_law_X15_champion : GoodIn wsL_law (q_ggL_law_X15_champion.drop 264) := gi_two _ [] rfl (by decide +kernel)
theorem qa_ggL_law_X15_champion : GoodIn wsL_law (q_ggL_law_X15_champion) := (gi_step 0 24 q0_ggL_law_X15_champion (gi_step 24 24 q1_ggL_law_X15_champion (gi_step 48 24 q2_ggL_law_X15_champion (gi_step 72 24 q3_ggL_law_X15_champion (gi_step 96 24 q4_ggL_law_X15_champion (gi_step 120 24 q5_ggL_law_X15_champion (gi_step 144 24 q6_ggL_law_X15_champion (gi_step 168 24 q7_ggL_law_X15_champion (gi_step 192 24 q8_ggL_law_X15_champion (gi_step 216 24 q9_ggL_law_X15_champion (gi_step 240 24 q10_ggL_law_X15_champion qe_ggL_law_X15_champion)))))))))))
set_option maxRecDepth 20000 in
theorem ggL_law_X15_champion : GoodIn wsL_law wsX15_champion := goodIn_ca (goodIn_ca (qa_ggL_law_X15_champion) (goodIn_sub (fun _ h => List.mem_append_left _ (List.mem_append_left _ (List.mem_append_left _ (List.mem_append_left _ (List.mem_append_left _ (List.mem_append_left _ (List.mem_append_left _ (List.mem_append_right _ h)))))))) (by decide +kernel))) (goodIn_sub (fun _ h => List.mem_append_left _ (List.mem_append_right _ h)) (by decide +kernel))
set_option maxRecDepth 20000 in
theorem gL_law_X15_champion : GoodIn wsL_law (wsV RL 216 RX15 yX15_champion wsX15_champion) := goodIn_app (goodIn_of _ (by decide +kernel)) ggL_law_X15_champion
theorem dL_law_1559 : decode cL_law 1559 = .ok (.invokevirtual 216, 3) := by decide +kernel
theorem dL_law_1562 : decode cL_law 1562 = .ok (.istore 7, 2) := by decide +kernel
theorem dL_law_1564 : decode cL_law 1564 = .ok (.aload_n 2, 1) := by decide +kernel
theorem dL_law_1565 : decode cL_law 1565 = .ok (.invokevirtual 152, 3) := by decide +kernel
theorem dL_law_1568 : decode cL_law 1568 = .ok (.iload 6, 2) := by decide +kernel
theorem dL_law_1570 : decode cL_law 1570 = .ok (.if_icmp .eq 5, 3) := by decide +kernel
theorem dL_law_1575 : decode cL_law 1575 = .ok (.iload 6, 2) := by decide +kernel
theorem dL_law_1577 : decode cL_law 1577 = .ok (.ifCond .ne 15, 3) := by decide +kernel
theorem dL_law_1580 : decode cL_law 1580 = .ok (.aload_n 3, 1) := by decide +kernel
theorem dL_law_1581 : decode cL_law 1581 = .ok (.iconst 0, 1) := by decide +kernel
theorem dL_law_1582 : decode cL_law 1582 = .ok (.laload, 1) := by decide +kernel
theorem dL_law_1583 : decode cL_law 1583 = .ok (.iload 7, 2) := by decide +kernel
theorem dL_law_1585 : decode cL_law 1585 = .ok (.i2l, 1) := by decide +kernel
theorem dL_law_1586 : decode cL_law 1586 = .ok (.lcmp, 1) := by decide +kernel
theorem dL_law_1587 : decode cL_law 1587 = .ok (.ifCond .eq 5, 3) := by decide +kernel
theorem dL_law_1592 : decode cL_law 1592 = .ok (.goto 1186, 3) := by decide +kernel
theorem dL_law_1595 : decode cL_law 1595 = .ok (.aload_n 1, 1) := by decide +kernel
theorem dL_law_1596 : decode cL_law 1596 = .ok (.aload_n 0, 1) := by decide +kernel
theorem dL_law_1597 : decode cL_law 1597 = .ok (.iload 5, 2) := by decide +kernel
theorem dL_law_1599 : decode cL_law 1599 = .ok (.iconst 1, 1) := by decide +kernel
theorem dL_law_1600 : decode cL_law 1600 = .ok (.iadd, 1) := by decide +kernel
theorem dL_law_1601 : decode cL_law 1601 = .ok (.iaload, 1) := by decide +kernel
theorem dL_law_1602 : decode cL_law 1602 = .ok (.aload_n 0, 1) := by decide +kernel
theorem dL_law_1603 : decode cL_law 1603 = .ok (.iload 5, 2) := by decide +kernel
theorem dL_law_1605 : decode cL_law 1605 = .ok (.iconst 2, 1) := by decide +kernel
theorem dL_law_1606 : decode cL_law 1606 = .ok (.iadd, 1) := by decide +kernel
theorem dL_law_1607 : decode cL_law 1607 = .ok (.iaload, 1) := by decide +kernel
theorem dL_law_1608 : decode cL_law 1608 = .ok (.aload 4, 2) := by decide +kernel
def q_ggL_law_L_haltingShare : List Cond := .codeWith yL_haltingShare cL_haltingShare 5 (some .int) [(0, 10, 13, 13)] :: ((wsL_haltingShare_r1 ++ (wsL_haltingShare_r2 ++ (wsL_haltingShare_r3 ++ (wsL_haltingShare_r4 ++ (wsL_haltingShare_r5 ++ (wsL_haltingShare_r6 ++ (wsL_haltingShare_r7 ++ (wsL_haltingShare_r8 ++ wsL_haltingShare_r9)))))))) ++ wsX110 ++ wsX30 ++ wsX20 ++ wsX50 ++ wsX70 ++ wsX60)
theorem q0_ggL_law_L_haltingShare : GoodIn wsL_law ((q_ggL_law_L_haltingShare.drop 0).take 24) := gi_two _ [(50, 20), (8, 16), (50, 21), (50, 22), (50, 23), (0, 2), (51, 0), (1, 1), (0, 21), (51, 1), (51, 2), (51, 3), (47, 20), (47, 21), (47, 22), (9, 3), (9, 4), (9, 5), (8, 22), (8, 23), (9, 0), (9, 1), (9, 2), (47, 23)] rfl (by decide +kernel)
theorem q1_ggL_law_L_haltingShare : GoodIn wsL_law ((q_ggL_law_L_haltingShare.drop 24).take 24) := gi_two _ [(48, 0), (48, 1), (1, 0), (48, 2), (5, 7), (5, 8), (5, 2), (5, 3), (5, 4), (5, 5), (5, 6), (48, 3), (48, 4), (48, 5), (48, 6), (5, 9), (48, 7), (48, 8), (48, 9), (48, 10), (48, 11), (12, 23), (11, 21), (13, 0)] rfl (by decide +kernel)
theorem q2_ggL_law_L_haltingShare : GoodIn wsL_law ((q_ggL_law_L_haltingShare.drop 48).take 24) := gi_two _ [(48, 12), (11, 20), (11, 22), (48, 13), (19, 3), (19, 4), (1, 19), (19, 5), (19, 6), (19, 7), (19, 8), (19, 9), (3, 0), (2, 17), (2, 18), (2, 19), (2, 20), (2, 21), (2, 22), (19, 10), (19, 11), (12, 11), (19, 12), (19, 13)] rfl (by decide +kernel)
theorem q3_ggL_law_L_haltingShare : GoodIn wsL_law ((q_ggL_law_L_haltingShare.drop 72).take 24) := gi_two _ [(19, 14), (19, 15), (19, 16), (19, 17), (19, 18), (19, 19), (19, 20), (19, 21), (19, 22), (19, 23), (20, 0), (14, 13), (14, 14), (5, 0), (14, 15), (6, 0), (6, 1), (5, 21), (20, 1), (20, 2), (20, 3), (20, 4), (20, 5), (20, 6)] rfl (by decide +kernel)
theorem q4_ggL_law_L_haltingShare : GoodIn wsL_law ((q_ggL_law_L_haltingShare.drop 96).take 24) := gi_two _ [(20, 7), (20, 8), (20, 9), (20, 10), (20, 11), (20, 12), (20, 13), (48, 14), (22, 14), (22, 15), (22, 16), (48, 15), (33, 6), (33, 7), (1, 23), (33, 8), (3, 9), (3, 4), (3, 5), (33, 9), (33, 10), (33, 11), (33, 12), (3, 7)] rfl (by decide +kernel)
theorem q5_ggL_law_L_haltingShare : GoodIn wsL_law ((q_ggL_law_L_haltingShare.drop 120).take 24) := gi_two _ [(3, 10), (3, 11), (3, 12), (33, 13), (33, 14), (33, 15), (33, 16), (14, 16), (14, 17), (33, 17), (33, 18), (33, 19), (33, 20), (33, 21), (33, 22), (3, 8), (33, 23), (34, 0), (34, 1), (34, 2), (34, 3), (13, 2), (13, 3), (13, 4)] rfl (by decide +kernel)
theorem q6_ggL_law_L_haltingShare : GoodIn wsL_law ((q_ggL_law_L_haltingShare.drop 144).take 24) := gi_two _ [(30, 8), (30, 9), (34, 4), (34, 5), (34, 6), (34, 7), (34, 8), (34, 9), (34, 10), (34, 11), (34, 12), (48, 16), (34, 14), (34, 15), (34, 16), (34, 17), (34, 18), (34, 19), (34, 20), (3, 13), (34, 21), (34, 22), (34, 23), (35, 0)] rfl (by decide +kernel)
theorem q7_ggL_law_L_haltingShare : GoodIn wsL_law ((q_ggL_law_L_haltingShare.drop 168).take 24) := gi_two _ [(35, 1), (35, 2), (35, 3), (35, 4), (35, 5), (48, 17), (48, 18), (48, 19), (48, 20), (48, 21), (5, 1), (48, 22), (23, 13), (23, 14), (23, 15), (48, 23), (18, 2), (18, 3), (18, 4), (14, 12), (18, 5), (14, 8), (14, 9), (14, 10)] rfl (by decide +kernel)
theorem q8_ggL_law_L_haltingShare : GoodIn wsL_law ((q_ggL_law_L_haltingShare.drop 192).take 24) := gi_two _ [(5, 17), (14, 11), (14, 1), (14, 2), (14, 3), (49, 0), (49, 1), (14, 5), (14, 6), (49, 2), (77, 0), (77, 1), (77, 2), (77, 3), (77, 4), (77, 5), (77, 6), (80, 0), (80, 1), (80, 2), (80, 3), (80, 4), (80, 5), (80, 6)] rfl (by decide +kernel)
theorem q9_ggL_law_L_haltingShare : GoodIn wsL_law ((q_ggL_law_L_haltingShare.drop 216).take 24) := gi_two _ [(80, 7), (80, 8), (79, 0), (79, 1), (79, 2), (79, 3), (79, 4), (79, 5), (89, 0), (89, 1), (89, 2), (89, 3), (89, 4), (89, 5), (89, 6), (89, 7), (89, 8), (89, 9), (89, 10), (84, 0), (84, 1), (84, 2), (84, 3), (84, 4)] rfl (by decide +kernel)
theorem q10_ggL_law_L_haltingShare : GoodIn wsL_law ((q_ggL_law_L_haltingShare.drop 240).take 24) := gi_two _ [(84, 5), (84, 6), (85, 0), (85, 1), (85, 2), (85, 3), (85, 4), (85, 5), (85, 6), (85, 7), (85, 8)] rfl (by decide +kernel)
theorem qe_ggL_law_L_haltingShare : GoodIn wsL_law (q_ggL_law_L_haltingShare.drop 264) := gi_two _ [] rfl (by decide +kernel)
theorem qa_ggL_law_L_haltingShare : GoodIn wsL_law (q_ggL_law_L_haltingShare) := (gi_step 0 24 q0_ggL_law_L_haltingShare (gi_step 24 24 q1_ggL_law_L_haltingShare (gi_step 48 24 q2_ggL_law_L_haltingShare (gi_step 72 24 q3_ggL_law_L_haltingShare (gi_step 96 24 q4_ggL_law_L_haltingShare (gi_step 120 24 q5_ggL_law_L_haltingShare (gi_step 144 24 q6_ggL_law_L_haltingShare (gi_step 168 24 q7_ggL_law_L_haltingShare (gi_step 192 24 q8_ggL_law_L_haltingShare (gi_step 216 24 q9_ggL_law_L_haltingShare (gi_step 240 24 q10_ggL_law_L_haltingShare qe_ggL_law_L_haltingShare)))))))))))
set_option maxRecDepth 20000 in
theorem ggL_law_L_haltingShare : GoodIn wsL_law wsL_haltingShare := goodIn_ca (goodIn_ca (qa_ggL_law_L_haltingShare) (goodIn_sub (fun _ h => List.mem_append_left _ (List.mem_append_left _ (List.mem_append_left _ (List.mem_append_left _ (List.mem_append_left _ (List.mem_append_left _ (List.mem_append_left _ (List.mem_append_right _ h)))))))) (by decide +kernel))) (goodIn_sub (fun _ h => List.mem_append_left _ (List.mem_append_left _ (List.mem_append_left _ (List.mem_append_left _ (List.mem_append_left _ (List.mem_append_left _ (List.mem_append_right _ h))))))) (by decide +kernel))
set_option maxRecDepth 20000 in
theorem gL_law_L_haltingShare : GoodIn wsL_law (va_wsS RL 217 yL_haltingShare wsL_haltingShare) := goodIn_app (goodIn_of _ (by decide +kernel)) ggL_law_L_haltingShare
theorem dL_law_1610 : decode cL_law 1610 = .ok (.invokestatic 217, 3) := by decide +kernel
theorem dL_law_1613 : decode cL_law 1613 = .ok (.istore 6, 2) := by decide +kernel
theorem dL_law_1615 : decode cL_law 1615 = .ok (.aload_n 2, 1) := by decide +kernel
theorem dL_law_1616 : decode cL_law 1616 = .ok (.aload_n 0, 1) := by decide +kernel
theorem dL_law_1617 : decode cL_law 1617 = .ok (.iload 5, 2) := by decide +kernel
theorem dL_law_1619 : decode cL_law 1619 = .ok (.iconst 1, 1) := by decide +kernel
theorem dL_law_1620 : decode cL_law 1620 = .ok (.iadd, 1) := by decide +kernel
theorem dL_law_1621 : decode cL_law 1621 = .ok (.iaload, 1) := by decide +kernel
theorem dL_law_1622 : decode cL_law 1622 = .ok (.aload_n 0, 1) := by decide +kernel
theorem dL_law_1623 : decode cL_law 1623 = .ok (.iload 5, 2) := by decide +kernel
theorem dL_law_1625 : decode cL_law 1625 = .ok (.iconst 2, 1) := by decide +kernel
theorem dL_law_1626 : decode cL_law 1626 = .ok (.iadd, 1) := by decide +kernel
theorem dL_law_1627 : decode cL_law 1627 = .ok (.iaload, 1) := by decide +kernel
def q_ggL_law_X15_haltingShare : List Cond := .code yX15_haltingShare cX15_haltingShare 3 (some .float) :: ((wsX15_haltingShare_r1 ++ (wsX15_haltingShare_r2 ++ (wsX15_haltingShare_r3 ++ (wsX15_haltingShare_r4 ++ (wsX15_haltingShare_r5 ++ (wsX15_haltingShare_r6 ++ wsX15_haltingShare_r7)))))) ++ wsX150 ++ wsX130 ++ wsX140)
theorem q0_ggL_law_X15_haltingShare : GoodIn wsL_law ((q_ggL_law_X15_haltingShare.drop 0).take 24) := gi_two _ [(51, 7), (10, 0), (49, 11), (49, 12), (49, 13), (49, 16), (49, 17), (0, 5), (49, 18), (9, 22), (49, 19), (10, 4), (10, 5), (10, 6), (49, 20), (49, 21), (49, 22), (49, 23), (49, 14), (49, 15), (50, 0), (10, 1), (10, 2), (10, 3)] rfl (by decide +kernel)
theorem q1_ggL_law_X15_haltingShare : GoodIn wsL_law ((q_ggL_law_X15_haltingShare.drop 24).take 24) := gi_two _ [(10, 12), (10, 13), (10, 14), (10, 15), (0, 13), (0, 14), (10, 16), (10, 17), (10, 18), (10, 19), (10, 20), (10, 21), (2, 23), (10, 22), (10, 23), (11, 0), (50, 1), (50, 2), (50, 3), (50, 4), (20, 19), (20, 20), (20, 21), (40, 23)] rfl (by decide +kernel)
theorem q2_ggL_law_X15_haltingShare : GoodIn wsL_law ((q_ggL_law_X15_haltingShare.drop 48).take 24) := gi_two _ [(11, 20), (11, 21), (11, 22), (40, 4), (12, 23), (13, 0), (20, 22), (20, 23), (21, 0), (21, 1), (21, 2), (21, 3), (21, 4), (21, 5), (21, 6), (21, 7), (21, 8), (21, 9), (21, 10), (21, 11), (21, 12), (21, 13), (21, 14), (21, 15)] rfl (by decide +kernel)
theorem q3_ggL_law_X15_haltingShare : GoodIn wsL_law ((q_ggL_law_X15_haltingShare.drop 72).take 24) := gi_two _ [(21, 16), (21, 17), (21, 18), (21, 19), (21, 20), (21, 21), (21, 22), (21, 23), (22, 0), (22, 1), (22, 2), (22, 3), (22, 4), (22, 5), (16, 4), (16, 5), (16, 6), (39, 0), (39, 1), (39, 2), (39, 3), (39, 4), (39, 5), (39, 6)] rfl (by decide +kernel)
theorem q4_ggL_law_X15_haltingShare : GoodIn wsL_law ((q_ggL_law_X15_haltingShare.drop 96).take 24) := gi_two _ [(39, 7), (39, 8), (39, 9), (39, 10), (39, 11), (39, 12), (39, 13), (39, 14), (39, 15), (39, 16), (38, 20), (38, 21), (38, 22), (38, 23), (38, 10), (38, 11), (39, 17), (39, 18), (39, 19), (39, 20), (39, 21), (39, 22), (39, 23), (40, 0)] rfl (by decide +kernel)
theorem q5_ggL_law_X15_haltingShare : GoodIn wsL_law ((q_ggL_law_X15_haltingShare.drop 120).take 24) := gi_two _ [(40, 1), (40, 2), (40, 3), (40, 5), (40, 6), (40, 7), (40, 8), (18, 10), (18, 11), (18, 12), (18, 13), (18, 14), (16, 11), (18, 15), (27, 7), (27, 8), (27, 9), (27, 10), (50, 5), (16, 7), (16, 8), (16, 9), (16, 10), (16, 12)] rfl (by decide +kernel)
theorem q6_ggL_law_X15_haltingShare : GoodIn wsL_law ((q_ggL_law_X15_haltingShare.drop 144).take 24) := gi_two _ [(16, 13), (16, 14), (16, 15), (16, 16), (17, 11), (17, 12), (17, 13), (17, 14), (78, 0), (78, 1), (78, 2), (78, 3), (78, 4), (78, 5), (78, 6), (78, 7), (78, 8), (78, 9), (78, 10), (78, 11), (78, 12), (78, 13), (78, 14), (78, 15)] rfl (by decide +kernel)
theorem q7_ggL_law_X15_haltingShare : GoodIn wsL_law ((q_ggL_law_X15_haltingShare.drop 168).take 24) := gi_two _ [(78, 16), (78, 17), (78, 18), (78, 19), (78, 20), (91, 0), (91, 1), (91, 2), (91, 3), (91, 4), (91, 5), (91, 6), (91, 7), (91, 8), (91, 9), (91, 10), (91, 11), (92, 0), (92, 1), (92, 2), (92, 3), (92, 4), (92, 5), (92, 6)] rfl (by decide +kernel)
theorem q8_ggL_law_X15_haltingShare : GoodIn wsL_law ((q_ggL_law_X15_haltingShare.drop 192).take 24) := gi_two _ [(92, 7), (92, 8)] rfl (by decide +kernel)
theorem qe_ggL_law_X15_haltingShare : GoodIn wsL_law (q_ggL_law_X15_haltingShare.drop 216) := gi_two _ [] rfl (by decide +kernel)
theorem qa_ggL_law_X15_haltingShare : GoodIn wsL_law (q_ggL_law_X15_haltingShare) := (gi_step 0 24 q0_ggL_law_X15_haltingShare (gi_step 24 24 q1_ggL_law_X15_haltingShare (gi_step 48 24 q2_ggL_law_X15_haltingShare (gi_step 72 24 q3_ggL_law_X15_haltingShare (gi_step 96 24 q4_ggL_law_X15_haltingShare (gi_step 120 24 q5_ggL_law_X15_haltingShare (gi_step 144 24 q6_ggL_law_X15_haltingShare (gi_step 168 24 q7_ggL_law_X15_haltingShare (gi_step 192 24 q8_ggL_law_X15_haltingShare qe_ggL_law_X15_haltingShare)))))))))
set_option maxRecDepth 20000 in
theorem ggL_law_X15_haltingShare : GoodIn wsL_law wsX15_haltingShare := goodIn_ca (goodIn_ca (qa_ggL_law_X15_haltingShare) (goodIn_sub (fun _ h => List.mem_append_left _ (List.mem_append_left _ (List.mem_append_left _ (List.mem_append_left _ (List.mem_append_left _ (List.mem_append_left _ (List.mem_append_left _ (List.mem_append_right _ h)))))))) (by decide +kernel))) (goodIn_sub (fun _ h => List.mem_append_left _ (List.mem_append_right _ h)) (by decide +kernel))
set_option maxRecDepth 20000 in
theorem gL_law_X15_haltingShare : GoodIn wsL_law (wsV RL 220 RX15 yX15_haltingShare wsX15_haltingShare) := goodIn_app (goodIn_of _ (by decide +kernel)) ggL_law_X15_haltingShare
theorem dL_law_1628 : decode cL_law 1628 = .ok (.invokevirtual 220, 3) := by decide +kernel
theorem dL_law_1631 : decode cL_law 1631 = .ok (.fstore 7, 2) := by decide +kernel
theorem dL_law_1633 : decode cL_law 1633 = .ok (.aload_n 2, 1) := by decide +kernel
theorem dL_law_1634 : decode cL_law 1634 = .ok (.invokevirtual 152, 3) := by decide +kernel
theorem dL_law_1637 : decode cL_law 1637 = .ok (.iload 6, 2) := by decide +kernel
theorem dL_law_1639 : decode cL_law 1639 = .ok (.if_icmp .eq 5, 3) := by decide +kernel
theorem dL_law_1644 : decode cL_law 1644 = .ok (.iload 6, 2) := by decide +kernel
theorem dL_law_1646 : decode cL_law 1646 = .ok (.ifCond .ne 36, 3) := by decide +kernel
theorem dL_law_1649 : decode cL_law 1649 = .ok (.aload 4, 2) := by decide +kernel
theorem dL_law_1651 : decode cL_law 1651 = .ok (.iconst 0, 1) := by decide +kernel
theorem dL_law_1652 : decode cL_law 1652 = .ok (.daload, 1) := by decide +kernel
theorem dL_law_1653 : decode cL_law 1653 = .ok (.fload 7, 2) := by decide +kernel
theorem dL_law_1655 : decode cL_law 1655 = .ok (.f2d, 1) := by decide +kernel
theorem dL_law_1656 : decode cL_law 1656 = .ok (.dcmp .l, 1) := by decide +kernel
theorem dL_law_1657 : decode cL_law 1657 = .ok (.ifCond .eq 25, 3) := by decide +kernel
theorem dL_law_1682 : decode cL_law 1682 = .ok (.goto 1096, 3) := by decide +kernel
theorem dL_law_1685 : decode cL_law 1685 = .ok (.aload_n 1, 1) := by decide +kernel
theorem dL_law_1686 : decode cL_law 1686 = .ok (.aload_n 0, 1) := by decide +kernel
theorem dL_law_1687 : decode cL_law 1687 = .ok (.iload 5, 2) := by decide +kernel
theorem dL_law_1689 : decode cL_law 1689 = .ok (.iconst 1, 1) := by decide +kernel
theorem dL_law_1690 : decode cL_law 1690 = .ok (.iadd, 1) := by decide +kernel
theorem dL_law_1691 : decode cL_law 1691 = .ok (.iaload, 1) := by decide +kernel
theorem dL_law_1692 : decode cL_law 1692 = .ok (.i2c, 1) := by decide +kernel
theorem dL_law_1693 : decode cL_law 1693 = .ok (.aload_n 3, 1) := by decide +kernel
def q_ggL_law_L_record : List Cond := .codeWith yL_record cL_record 4 (some .int) [(0, 9, 12, 13), (0, 9, 15, 27)] :: ((wsL_record_r1 ++ (wsL_record_r2 ++ (wsL_record_r3 ++ (wsL_record_r4 ++ (wsL_record_r5 ++ (wsL_record_r6 ++ (wsL_record_r7 ++ (wsL_record_r8 ++ (wsL_record_r9 ++ (wsL_record_r10 ++ wsL_record_r11)))))))))) ++ wsX110 ++ wsX50 ++ wsX20 ++ wsX70 ++ wsX100 ++ wsX40)
theorem q0_ggL_law_L_record : GoodIn wsL_law ((q_ggL_law_L_record.drop 0).take 24) := gi_two _ [(51, 10), (8, 16), (16, 20), (51, 11), (51, 12), (51, 13), (0, 2), (51, 14), (0, 17), (43, 22), (43, 23), (8, 22), (8, 23), (9, 0), (9, 1), (9, 2), (13, 18), (13, 19), (13, 20), (13, 21), (13, 22), (13, 23), (0, 16), (51, 15)] rfl (by decide +kernel)
theorem q1_ggL_law_L_record : GoodIn wsL_law ((q_ggL_law_L_record.drop 24).take 24) := gi_two _ [(51, 16), (51, 17), (51, 18), (0, 21), (43, 2), (43, 3), (43, 4), (5, 0), (43, 5), (5, 18), (44, 23), (45, 0), (45, 1), (0, 20), (45, 2), (33, 2), (33, 3), (33, 4), (45, 3), (45, 4), (11, 21), (45, 5), (2, 4), (45, 6)] rfl (by decide +kernel)
theorem q2_ggL_law_L_record : GoodIn wsL_law ((q_ggL_law_L_record.drop 48).take 24) := gi_two _ [(45, 7), (45, 8), (45, 9), (1, 20), (32, 16), (32, 20), (19, 3), (19, 4), (1, 19), (19, 5), (19, 6), (19, 7), (19, 8), (19, 9), (3, 0), (2, 17), (2, 18), (2, 19), (2, 20), (2, 21), (2, 22), (19, 10), (19, 11), (12, 11)] rfl (by decide +kernel)
theorem q3_ggL_law_L_record : GoodIn wsL_law ((q_ggL_law_L_record.drop 72).take 24) := gi_two _ [(19, 12), (19, 13), (19, 14), (19, 15), (19, 16), (19, 17), (19, 18), (12, 23), (13, 0), (19, 19), (11, 20), (11, 22), (19, 20), (19, 21), (19, 22), (19, 23), (20, 0), (14, 13), (14, 14), (14, 15), (6, 0), (6, 1), (5, 21), (20, 1)] rfl (by decide +kernel)
theorem q4_ggL_law_L_record : GoodIn wsL_law ((q_ggL_law_L_record.drop 96).take 24) := gi_two _ [(20, 2), (20, 3), (20, 4), (20, 5), (20, 6), (20, 7), (20, 8), (20, 9), (20, 10), (20, 11), (20, 12), (20, 13), (32, 21), (22, 14), (22, 15), (22, 16), (32, 22), (23, 13), (23, 14), (23, 15), (45, 10), (45, 11), (45, 12), (45, 13)] rfl (by decide +kernel)
theorem q5_ggL_law_L_record : GoodIn wsL_law ((q_ggL_law_L_record.drop 120).take 24) := gi_two _ [(2, 5), (45, 14), (45, 15), (34, 10), (34, 11), (34, 12), (45, 16), (45, 17), (45, 18), (45, 19), (45, 20), (45, 21), (45, 22), (45, 23), (46, 0), (46, 1), (46, 2), (34, 0), (34, 1), (34, 2), (34, 3), (13, 2), (13, 3), (13, 4)] rfl (by decide +kernel)
theorem q6_ggL_law_L_record : GoodIn wsL_law ((q_ggL_law_L_record.drop 144).take 24) := gi_two _ [(46, 3), (35, 3), (35, 4), (35, 5), (35, 6), (35, 7), (35, 8), (2, 3), (35, 9), (3, 17), (35, 10), (35, 11), (35, 12), (35, 13), (3, 19), (3, 18), (3, 21), (3, 20), (35, 14), (35, 15), (35, 16), (35, 17), (14, 16), (14, 17)] rfl (by decide +kernel)
theorem q7_ggL_law_L_record : GoodIn wsL_law ((q_ggL_law_L_record.drop 168).take 24) := gi_two _ [(35, 18), (35, 19), (35, 20), (35, 21), (35, 22), (35, 23), (36, 0), (30, 8), (30, 9), (36, 1), (36, 2), (36, 3), (36, 4), (36, 5), (36, 6), (36, 7), (36, 8), (36, 9), (36, 10), (36, 11), (36, 12), (36, 13), (36, 14), (36, 15)] rfl (by decide +kernel)
theorem q8_ggL_law_L_record : GoodIn wsL_law ((q_ggL_law_L_record.drop 192).take 24) := gi_two _ [(36, 16), (36, 17), (36, 18), (36, 19), (46, 4), (46, 5), (46, 6), (46, 7), (2, 13), (32, 19), (36, 20), (36, 21), (36, 22), (2, 12), (36, 23), (4, 13), (4, 12), (4, 14), (4, 15), (4, 16), (4, 18), (4, 17), (37, 0), (37, 1)] rfl (by decide +kernel)
theorem q9_ggL_law_L_record : GoodIn wsL_law ((q_ggL_law_L_record.drop 216).take 24) := gi_two _ [(37, 2), (37, 3), (37, 4), (37, 5), (37, 6), (37, 7), (37, 8), (37, 9), (37, 10), (37, 11), (37, 12), (37, 13), (37, 14), (37, 15), (37, 16), (37, 17), (37, 18), (37, 19), (37, 20), (37, 21), (37, 22), (37, 23), (38, 0), (38, 1)] rfl (by decide +kernel)
theorem q10_ggL_law_L_record : GoodIn wsL_law ((q_ggL_law_L_record.drop 240).take 24) := gi_two _ [(38, 2), (38, 3), (38, 4), (38, 5), (17, 2), (17, 3), (17, 4), (17, 5), (17, 6), (77, 0), (77, 1), (77, 2), (77, 3), (77, 4), (77, 5), (77, 6), (89, 0), (89, 1), (89, 2), (89, 3), (89, 4), (89, 5), (89, 6), (89, 7)] rfl (by decide +kernel)
theorem q11_ggL_law_L_record : GoodIn wsL_law ((q_ggL_law_L_record.drop 264).take 24) := gi_two _ [(89, 8), (89, 9), (89, 10), (79, 0), (79, 1), (79, 2), (79, 3), (79, 4), (79, 5), (84, 0), (84, 1), (84, 2), (84, 3), (84, 4), (84, 5), (84, 6), (86, 0), (86, 1), (86, 2), (86, 3), (86, 4), (88, 0), (88, 1), (88, 2)] rfl (by decide +kernel)
theorem q12_ggL_law_L_record : GoodIn wsL_law ((q_ggL_law_L_record.drop 288).take 24) := gi_two _ [(88, 3), (88, 4), (88, 5), (88, 6)] rfl (by decide +kernel)
theorem qe_ggL_law_L_record : GoodIn wsL_law (q_ggL_law_L_record.drop 312) := gi_two _ [] rfl (by decide +kernel)
theorem qa_ggL_law_L_record : GoodIn wsL_law (q_ggL_law_L_record) := (gi_step 0 24 q0_ggL_law_L_record (gi_step 24 24 q1_ggL_law_L_record (gi_step 48 24 q2_ggL_law_L_record (gi_step 72 24 q3_ggL_law_L_record (gi_step 96 24 q4_ggL_law_L_record (gi_step 120 24 q5_ggL_law_L_record (gi_step 144 24 q6_ggL_law_L_record (gi_step 168 24 q7_ggL_law_L_record (gi_step 192 24 q8_ggL_law_L_record (gi_step 216 24 q9_ggL_law_L_record (gi_step 240 24 q10_ggL_law_L_record (gi_step 264 24 q11_ggL_law_L_record (gi_step 288 24 q12_ggL_law_L_record qe_ggL_law_L_record)))))))))))))
set_option maxRecDepth 20000 in
theorem ggL_law_L_record : GoodIn wsL_law wsL_record := goodIn_ca (goodIn_ca (goodIn_ca (goodIn_ca (qa_ggL_law_L_record) (goodIn_sub (fun _ h => List.mem_append_left _ (List.mem_append_left _ (List.mem_append_left _ (List.mem_append_left _ (List.mem_append_left _ (List.mem_append_left _ (List.mem_append_left _ (List.mem_append_right _ h)))))))) (by decide +kernel))) (goodIn_sub (fun _ h => List.mem_append_left _ (List.mem_append_left _ (List.mem_append_left _ (List.mem_append_left _ (List.mem_append_left _ (List.mem_append_left _ (List.mem_append_right _ h))))))) (by decide +kernel))) (goodIn_sub (fun _ h => List.mem_append_left _ (List.mem_append_left _ (List.mem_append_left _ (List.mem_append_left _ (List.mem_append_right _ h))))) (by decide +kernel))) (goodIn_sub (fun _ h => List.mem_append_left _ (List.mem_append_left _ (List.mem_append_left _ (List.mem_append_right _ h)))) (by decide +kernel))
set_option maxRecDepth 20000 in
theorem gL_law_L_record : GoodIn wsL_law (va_wsS RL 221 yL_record wsL_record) := goodIn_app (goodIn_of _ (by decide +kernel)) ggL_law_L_record
theorem dL_law_1694 : decode cL_law 1694 = .ok (.invokestatic 221, 3) := by decide +kernel
theorem dL_law_1697 : decode cL_law 1697 = .ok (.istore 6, 2) := by decide +kernel
theorem dL_law_1699 : decode cL_law 1699 = .ok (.aload_n 2, 1) := by decide +kernel
theorem dL_law_1700 : decode cL_law 1700 = .ok (.aload_n 0, 1) := by decide +kernel
theorem dL_law_1701 : decode cL_law 1701 = .ok (.iload 5, 2) := by decide +kernel
theorem dL_law_1703 : decode cL_law 1703 = .ok (.iconst 1, 1) := by decide +kernel
theorem dL_law_1704 : decode cL_law 1704 = .ok (.iadd, 1) := by decide +kernel
theorem dL_law_1705 : decode cL_law 1705 = .ok (.iaload, 1) := by decide +kernel
theorem dL_law_1706 : decode cL_law 1706 = .ok (.i2c, 1) := by decide +kernel
def q_ggL_law_X15_record : List Cond := .code yX15_record cX15_record 7 (some .int) :: ((wsX15_record_r1 ++ (wsX15_record_r2 ++ (wsX15_record_r3 ++ (wsX15_record_r4 ++ (wsX15_record_r5 ++ (wsX15_record_r6 ++ (wsX15_record_r7 ++ (wsX15_record_r8 ++ wsX15_record_r9)))))))) ++ wsX150 ++ wsX130 ++ wsJx4a65c0 ++ wsX140 ++ wsX120)
theorem q0_ggL_law_X15_record : GoodIn wsL_law ((q_ggL_law_X15_record.drop 0).take 24) := gi_two _ [(51, 22), (7, 13), (15, 2), (40, 23), (11, 20), (11, 21), (11, 22), (10, 0), (15, 23), (16, 0), (16, 1), (0, 5), (16, 2), (10, 7), (10, 8), (10, 9), (7, 12), (10, 10), (10, 11), (15, 7), (15, 8), (15, 9), (15, 10), (15, 11)] rfl (by decide +kernel)
theorem q1_ggL_law_X15_record : GoodIn wsL_law ((q_ggL_law_X15_record.drop 24).take 24) := gi_two _ [(15, 12), (15, 13), (15, 14), (15, 15), (15, 16), (15, 17), (15, 18), (15, 19), (15, 20), (15, 21), (15, 22), (8, 1), (46, 12), (46, 13), (46, 14), (46, 15), (38, 10), (38, 11), (20, 19), (20, 20), (20, 21), (46, 16), (45, 4), (45, 5)] rfl (by decide +kernel)
theorem q2_ggL_law_X15_record : GoodIn wsL_law ((q_ggL_law_X15_record.drop 48).take 24) := gi_two _ [(38, 16), (38, 17), (38, 18), (38, 19), (20, 22), (20, 23), (21, 0), (21, 1), (0, 13), (0, 14), (2, 23), (21, 2), (21, 3), (21, 4), (21, 5), (21, 6), (21, 7), (21, 8), (21, 9), (21, 10), (21, 11), (21, 12), (21, 13), (21, 14)] rfl (by decide +kernel)
theorem q3_ggL_law_X15_record : GoodIn wsL_law ((q_ggL_law_X15_record.drop 72).take 24) := gi_two _ [(21, 15), (21, 16), (21, 17), (21, 18), (12, 23), (13, 0), (21, 19), (21, 20), (21, 21), (21, 22), (21, 23), (22, 0), (22, 1), (22, 2), (22, 3), (22, 4), (22, 5), (16, 4), (16, 5), (10, 3), (16, 6), (10, 21), (27, 7), (27, 8)] rfl (by decide +kernel)
theorem q4_ggL_law_X15_record : GoodIn wsL_law ((q_ggL_law_X15_record.drop 96).take 24) := gi_two _ [(27, 9), (27, 10), (38, 20), (38, 21), (38, 22), (38, 23), (39, 12), (39, 4), (39, 5), (39, 6), (39, 7), (39, 8), (39, 9), (39, 10), (39, 11), (39, 13), (39, 14), (39, 15), (39, 16), (18, 10), (18, 11), (18, 12), (18, 13), (18, 14)] rfl (by decide +kernel)
theorem q5_ggL_law_X15_record : GoodIn wsL_law ((q_ggL_law_X15_record.drop 120).take 24) := gi_two _ [(10, 2), (10, 19), (10, 20), (10, 22), (10, 23), (11, 0), (16, 11), (18, 15), (10, 13), (10, 14), (10, 15), (10, 16), (10, 17), (10, 18), (10, 4), (10, 5), (10, 6), (40, 1), (40, 2), (40, 3), (40, 4), (40, 5), (40, 6), (40, 7)] rfl (by decide +kernel)
theorem q6_ggL_law_X15_record : GoodIn wsL_law ((q_ggL_law_X15_record.drop 144).take 24) := gi_two _ [(40, 8), (40, 9), (40, 10), (40, 11), (40, 12), (7, 9), (40, 13), (40, 14), (40, 15), (40, 16), (40, 17), (40, 18), (40, 19), (40, 20), (40, 21), (40, 22), (41, 0), (41, 1), (41, 2), (41, 3), (41, 4), (41, 5), (41, 6), (41, 7)] rfl (by decide +kernel)
theorem q7_ggL_law_X15_record : GoodIn wsL_law ((q_ggL_law_X15_record.drop 168).take 24) := gi_two _ [(41, 8), (41, 9), (41, 10), (41, 11), (41, 12), (41, 13), (41, 14), (41, 15), (41, 16), (41, 17), (41, 18), (41, 19), (41, 20), (41, 21), (41, 22), (41, 23), (42, 0), (42, 1), (42, 2), (42, 3), (42, 4), (42, 5), (42, 6), (42, 7)] rfl (by decide +kernel)
theorem q8_ggL_law_X15_record : GoodIn wsL_law ((q_ggL_law_X15_record.drop 192).take 24) := gi_two _ [(42, 8), (42, 9), (42, 10), (42, 11), (42, 12), (42, 13), (42, 14), (42, 15), (42, 16), (42, 17), (42, 18), (78, 0), (78, 1), (78, 2), (78, 3), (78, 4), (78, 5), (78, 6), (78, 7), (78, 8), (78, 9), (78, 10), (78, 11), (78, 12)] rfl (by decide +kernel)
theorem q9_ggL_law_X15_record : GoodIn wsL_law ((q_ggL_law_X15_record.drop 216).take 24) := gi_two _ [(78, 13), (78, 14), (78, 15), (78, 16), (78, 17), (78, 18), (78, 19), (78, 20), (91, 0), (91, 1), (91, 2), (91, 3), (91, 4), (91, 5), (91, 6), (91, 7), (91, 8), (91, 9), (91, 10), (91, 11), (90, 0), (90, 1), (90, 2), (92, 0)] rfl (by decide +kernel)
theorem q10_ggL_law_X15_record : GoodIn wsL_law ((q_ggL_law_X15_record.drop 240).take 24) := gi_two _ [(92, 1), (92, 2), (92, 3), (92, 4), (92, 5), (92, 6), (92, 7), (92, 8), (94, 0), (94, 1), (94, 2), (94, 3), (94, 4), (94, 5), (94, 6), (94, 7), (94, 8), (94, 9), (94, 10)] rfl (by decide +kernel)
theorem qe_ggL_law_X15_record : GoodIn wsL_law (q_ggL_law_X15_record.drop 264) := gi_two _ [] rfl (by decide +kernel)
theorem qa_ggL_law_X15_record : GoodIn wsL_law (q_ggL_law_X15_record) := (gi_step 0 24 q0_ggL_law_X15_record (gi_step 24 24 q1_ggL_law_X15_record (gi_step 48 24 q2_ggL_law_X15_record (gi_step 72 24 q3_ggL_law_X15_record (gi_step 96 24 q4_ggL_law_X15_record (gi_step 120 24 q5_ggL_law_X15_record (gi_step 144 24 q6_ggL_law_X15_record (gi_step 168 24 q7_ggL_law_X15_record (gi_step 192 24 q8_ggL_law_X15_record (gi_step 216 24 q9_ggL_law_X15_record (gi_step 240 24 q10_ggL_law_X15_record qe_ggL_law_X15_record)))))))))))
set_option maxRecDepth 20000 in
theorem ggL_law_X15_record : GoodIn wsL_law wsX15_record := goodIn_ca (goodIn_ca (qa_ggL_law_X15_record) (goodIn_sub (fun _ h => List.mem_append_left _ (List.mem_append_left _ (List.mem_append_left _ (List.mem_append_left _ (List.mem_append_left _ (List.mem_append_left _ (List.mem_append_left _ (List.mem_append_right _ h)))))))) (by decide +kernel))) (goodIn_sub (fun _ h => List.mem_append_left _ (List.mem_append_right _ h)) (by decide +kernel))
set_option maxRecDepth 20000 in
theorem gL_law_X15_record : GoodIn wsL_law (wsV RL 224 RX15 yX15_record wsX15_record) := goodIn_app (goodIn_of _ (by decide +kernel)) ggL_law_X15_record
theorem dL_law_1707 : decode cL_law 1707 = .ok (.invokevirtual 224, 3) := by decide +kernel
theorem dL_law_1710 : decode cL_law 1710 = .ok (.istore 7, 2) := by decide +kernel
theorem dL_law_1712 : decode cL_law 1712 = .ok (.aload_n 2, 1) := by decide +kernel
theorem dL_law_1713 : decode cL_law 1713 = .ok (.invokevirtual 152, 3) := by decide +kernel
theorem dL_law_1716 : decode cL_law 1716 = .ok (.iload 6, 2) := by decide +kernel
theorem dL_law_1718 : decode cL_law 1718 = .ok (.if_icmp .eq 5, 3) := by decide +kernel
theorem dL_law_1723 : decode cL_law 1723 = .ok (.iload 6, 2) := by decide +kernel
theorem dL_law_1725 : decode cL_law 1725 = .ok (.ifCond .ne 15, 3) := by decide +kernel
theorem dL_law_1740 : decode cL_law 1740 = .ok (.goto 1038, 3) := by decide +kernel
theorem dL_law_1743 : decode cL_law 1743 = .ok (.aload_n 1, 1) := by decide +kernel
theorem dL_law_1744 : decode cL_law 1744 = .ok (.aload_n 0, 1) := by decide +kernel
theorem dL_law_1745 : decode cL_law 1745 = .ok (.iload 5, 2) := by decide +kernel
theorem dL_law_1747 : decode cL_law 1747 = .ok (.iconst 1, 1) := by decide +kernel
theorem dL_law_1748 : decode cL_law 1748 = .ok (.iadd, 1) := by decide +kernel
theorem dL_law_1749 : decode cL_law 1749 = .ok (.iaload, 1) := by decide +kernel
theorem dL_law_1750 : decode cL_law 1750 = .ok (.aload_n 0, 1) := by decide +kernel
theorem dL_law_1751 : decode cL_law 1751 = .ok (.iload 5, 2) := by decide +kernel
theorem dL_law_1753 : decode cL_law 1753 = .ok (.iconst 2, 1) := by decide +kernel
theorem dL_law_1754 : decode cL_law 1754 = .ok (.iadd, 1) := by decide +kernel
theorem dL_law_1755 : decode cL_law 1755 = .ok (.iaload, 1) := by decide +kernel
theorem dL_law_1756 : decode cL_law 1756 = .ok (.aload_n 0, 1) := by decide +kernel
theorem dL_law_1757 : decode cL_law 1757 = .ok (.iload 5, 2) := by decide +kernel
theorem dL_law_1759 : decode cL_law 1759 = .ok (.iconst 3, 1) := by decide +kernel
theorem dL_law_1760 : decode cL_law 1760 = .ok (.iadd, 1) := by decide +kernel
theorem dL_law_1761 : decode cL_law 1761 = .ok (.iaload, 1) := by decide +kernel
theorem dL_law_1762 : decode cL_law 1762 = .ok (.i2c, 1) := by decide +kernel
theorem dL_law_1763 : decode cL_law 1763 = .ok (.aload_n 3, 1) := by decide +kernel
set_option maxRecDepth 20000 in
theorem ggL_law_L_tell : GoodIn wsL_law wsL_tell := goodIn_ca (goodIn_ca (goodIn_ca (gi_two _ [(52, 1), (13, 12), (8, 16), (52, 2), (52, 3), (52, 4), (0, 2), (52, 5), (13, 18), (13, 19), (13, 20), (13, 21), (13, 22), (13, 23), (0, 17), (0, 16), (9, 3), (9, 4), (9, 5), (8, 22), (8, 23), (9, 0), (9, 1), (9, 2), (52, 6), (52, 7), (52, 8), (5, 0), (52, 9), (5, 22), (14, 16), (14, 17), (77, 0), (77, 1), (77, 2), (77, 3), (77, 4), (77, 5), (77, 6), (89, 0), (89, 1), (89, 2), (89, 3), (89, 4), (89, 5), (89, 6), (89, 7), (89, 8), (89, 9), (89, 10)] rfl (by decide +kernel)) (goodIn_sub (fun _ h => List.mem_append_left _ (List.mem_append_left _ (List.mem_append_left _ (List.mem_append_left _ (List.mem_append_left _ (List.mem_append_left _ (List.mem_append_left _ (List.mem_append_right _ h)))))))) (by decide +kernel))) (goodIn_sub (fun _ h => List.mem_append_left _ (List.mem_append_left _ (List.mem_append_left _ (List.mem_append_left _ (List.mem_append_right _ h))))) (by decide +kernel))) (goodIn_sub (fun _ h => List.mem_append_left _ (List.mem_append_left _ (List.mem_append_left _ (List.mem_append_left _ (List.mem_append_left _ (List.mem_append_left _ (List.mem_append_right _ h))))))) (by decide +kernel))
set_option maxRecDepth 20000 in
theorem gL_law_L_tell : GoodIn wsL_law (va_wsS RL 225 yL_tell wsL_tell) := goodIn_app (goodIn_of _ (by decide +kernel)) ggL_law_L_tell
theorem dL_law_1764 : decode cL_law 1764 = .ok (.invokestatic 225, 3) := by decide +kernel
theorem dL_law_1767 : decode cL_law 1767 = .ok (.istore 6, 2) := by decide +kernel
theorem dL_law_1769 : decode cL_law 1769 = .ok (.aload_n 2, 1) := by decide +kernel
theorem dL_law_1770 : decode cL_law 1770 = .ok (.aload_n 0, 1) := by decide +kernel
theorem dL_law_1771 : decode cL_law 1771 = .ok (.iload 5, 2) := by decide +kernel
theorem dL_law_1773 : decode cL_law 1773 = .ok (.iconst 1, 1) := by decide +kernel
theorem dL_law_1774 : decode cL_law 1774 = .ok (.iadd, 1) := by decide +kernel
theorem dL_law_1775 : decode cL_law 1775 = .ok (.iaload, 1) := by decide +kernel
theorem dL_law_1776 : decode cL_law 1776 = .ok (.aload_n 0, 1) := by decide +kernel
theorem dL_law_1777 : decode cL_law 1777 = .ok (.iload 5, 2) := by decide +kernel
theorem dL_law_1779 : decode cL_law 1779 = .ok (.iconst 2, 1) := by decide +kernel
theorem dL_law_1780 : decode cL_law 1780 = .ok (.iadd, 1) := by decide +kernel
theorem dL_law_1781 : decode cL_law 1781 = .ok (.iaload, 1) := by decide +kernel
theorem dL_law_1782 : decode cL_law 1782 = .ok (.aload_n 0, 1) := by decide +kernel
theorem dL_law_1783 : decode cL_law 1783 = .ok (.iload 5, 2) := by decide +kernel
theorem dL_law_1785 : decode cL_law 1785 = .ok (.iconst 3, 1) := by decide +kernel
theorem dL_law_1786 : decode cL_law 1786 = .ok (.iadd, 1) := by decide +kernel
theorem dL_law_1787 : decode cL_law 1787 = .ok (.iaload, 1) := by decide +kernel
theorem dL_law_1788 : decode cL_law 1788 = .ok (.i2c, 1) := by decide +kernel
set_option maxRecDepth 20000 in
theorem ggL_law_X15_tell : GoodIn wsL_law wsX15_tell := goodIn_ca (gi_two _ [(52, 13), (52, 14), (7, 13), (15, 2), (15, 3), (15, 4), (15, 5), (0, 5), (15, 6), (10, 0), (10, 7), (10, 8), (10, 9), (7, 12), (10, 10), (10, 11), (10, 4), (10, 5), (10, 6), (15, 23), (16, 0), (16, 1), (16, 2), (15, 7), (15, 8), (15, 9), (15, 10), (15, 11), (15, 12), (15, 13), (15, 14), (15, 15), (15, 16), (15, 17), (15, 18), (15, 19), (15, 20), (15, 21), (15, 22), (8, 1), (78, 0), (78, 1), (78, 2), (78, 3), (78, 4), (78, 5), (78, 6), (78, 7), (78, 8), (78, 9), (78, 10), (78, 11), (78, 12), (78, 13), (78, 14), (78, 15), (78, 16), (78, 17), (78, 18), (78, 19), (78, 20), (91, 0), (91, 1), (91, 2), (91, 3), (91, 4), (91, 5), (91, 6), (91, 7), (91, 8), (91, 9), (91, 10), (91, 11), (90, 0), (90, 1), (90, 2)] rfl (by decide +kernel)) (goodIn_sub (fun _ h => List.mem_append_left _ (List.mem_append_left _ (List.mem_append_left _ (List.mem_append_left _ (List.mem_append_left _ (List.mem_append_left _ (List.mem_append_left _ (List.mem_append_right _ h)))))))) (by decide +kernel))
set_option maxRecDepth 20000 in
theorem gL_law_X15_tell : GoodIn wsL_law (wsV RL 227 RX15 yX15_tell wsX15_tell) := goodIn_app (goodIn_of _ (by decide +kernel)) ggL_law_X15_tell
theorem dL_law_1789 : decode cL_law 1789 = .ok (.invokevirtual 227, 3) := by decide +kernel
theorem dL_law_1792 : decode cL_law 1792 = .ok (.istore 7, 2) := by decide +kernel
theorem dL_law_1794 : decode cL_law 1794 = .ok (.aload_n 2, 1) := by decide +kernel
theorem dL_law_1795 : decode cL_law 1795 = .ok (.invokevirtual 152, 3) := by decide +kernel
theorem dL_law_1798 : decode cL_law 1798 = .ok (.iload 6, 2) := by decide +kernel
theorem dL_law_1800 : decode cL_law 1800 = .ok (.if_icmp .eq 5, 3) := by decide +kernel
theorem dL_law_1805 : decode cL_law 1805 = .ok (.iload 6, 2) := by decide +kernel
theorem dL_law_1807 : decode cL_law 1807 = .ok (.ifCond .ne 15, 3) := by decide +kernel
theorem dL_law_1822 : decode cL_law 1822 = .ok (.goto 956, 3) := by decide +kernel
theorem dL_law_1825 : decode cL_law 1825 = .ok (.aload_n 1, 1) := by decide +kernel
theorem dL_law_1826 : decode cL_law 1826 = .ok (.aload_n 0, 1) := by decide +kernel
theorem dL_law_1827 : decode cL_law 1827 = .ok (.iload 5, 2) := by decide +kernel
theorem dL_law_1829 : decode cL_law 1829 = .ok (.iconst 1, 1) := by decide +kernel
theorem dL_law_1830 : decode cL_law 1830 = .ok (.iadd, 1) := by decide +kernel
theorem dL_law_1831 : decode cL_law 1831 = .ok (.iaload, 1) := by decide +kernel
theorem dL_law_1832 : decode cL_law 1832 = .ok (.aload_n 3, 1) := by decide +kernel
set_option maxRecDepth 20000 in
theorem ggL_law_L_isDisputed : GoodIn wsL_law wsL_isDisputed := goodIn_ca (goodIn_ca (gi_two _ [(52, 17), (13, 12), (52, 18), (52, 19), (52, 20), (0, 2), (52, 21), (13, 18), (13, 19), (13, 20), (13, 21), (13, 22), (13, 23), (0, 17), (0, 16), (52, 22), (52, 23), (53, 0), (5, 0), (53, 1), (5, 18), (5, 22), (53, 2), (43, 3), (43, 4), (43, 5), (77, 0), (77, 1), (77, 2), (77, 3), (77, 4), (77, 5), (77, 6), (89, 0), (89, 1), (89, 2), (89, 3), (89, 4), (89, 5), (89, 6), (89, 7), (89, 8), (89, 9), (89, 10)] rfl (by decide +kernel)) (goodIn_sub (fun _ h => List.mem_append_left _ (List.mem_append_left _ (List.mem_append_left _ (List.mem_append_left _ (List.mem_append_left _ (List.mem_append_left _ (List.mem_append_left _ (List.mem_append_right _ h)))))))) (by decide +kernel))) (goodIn_sub (fun _ h => List.mem_append_left _ (List.mem_append_left _ (List.mem_append_left _ (List.mem_append_left _ (List.mem_append_right _ h))))) (by decide +kernel))
set_option maxRecDepth 20000 in
theorem gL_law_L_isDisputed : GoodIn wsL_law (va_wsS RL 228 yL_isDisputed wsL_isDisputed) := goodIn_app (goodIn_of _ (by decide +kernel)) ggL_law_L_isDisputed
theorem dL_law_1833 : decode cL_law 1833 = .ok (.invokestatic 228, 3) := by decide +kernel
theorem dL_law_1836 : decode cL_law 1836 = .ok (.istore 6, 2) := by decide +kernel
theorem dL_law_1838 : decode cL_law 1838 = .ok (.aload_n 2, 1) := by decide +kernel
theorem dL_law_1839 : decode cL_law 1839 = .ok (.aload_n 0, 1) := by decide +kernel
theorem dL_law_1840 : decode cL_law 1840 = .ok (.iload 5, 2) := by decide +kernel
theorem dL_law_1842 : decode cL_law 1842 = .ok (.iconst 1, 1) := by decide +kernel
theorem dL_law_1843 : decode cL_law 1843 = .ok (.iadd, 1) := by decide +kernel
theorem dL_law_1844 : decode cL_law 1844 = .ok (.iaload, 1) := by decide +kernel
set_option maxRecDepth 20000 in
theorem ggL_law_X15_isDisputed : GoodIn wsL_law wsX15_isDisputed := goodIn_ca (gi_two _ [(53, 6), (7, 13), (15, 2), (15, 3), (15, 4), (15, 5), (0, 5), (15, 6), (10, 0), (10, 7), (10, 8), (10, 9), (7, 12), (10, 10), (10, 11), (10, 4), (10, 5), (10, 6), (15, 7), (15, 8), (15, 9), (15, 10), (15, 11), (15, 12), (15, 13), (15, 14), (15, 15), (15, 16), (15, 17), (15, 18), (15, 19), (15, 20), (15, 21), (15, 22), (8, 1), (43, 10), (43, 11), (43, 12), (10, 3), (43, 13), (10, 16), (78, 0), (78, 1), (78, 2), (78, 3), (78, 4), (78, 5), (78, 6), (78, 7), (78, 8), (78, 9), (78, 10), (78, 11), (78, 12), (78, 13), (78, 14), (78, 15), (78, 16), (78, 17), (78, 18), (78, 19), (78, 20), (91, 0), (91, 1), (91, 2), (91, 3), (91, 4), (91, 5), (91, 6), (91, 7), (91, 8), (91, 9), (91, 10), (91, 11), (90, 0), (90, 1), (90, 2)] rfl (by decide +kernel)) (goodIn_sub (fun _ h => List.mem_append_left _ (List.mem_append_left _ (List.mem_append_left _ (List.mem_append_left _ (List.mem_append_left _ (List.mem_append_left _ (List.mem_append_left _ (List.mem_append_right _ h)))))))) (by decide +kernel))
set_option maxRecDepth 20000 in
theorem gL_law_X15_isDisputed : GoodIn wsL_law (wsV RL 230 RX15 yX15_isDisputed wsX15_isDisputed) := goodIn_app (goodIn_of _ (by decide +kernel)) ggL_law_X15_isDisputed
theorem dL_law_1845 : decode cL_law 1845 = .ok (.invokevirtual 230, 3) := by decide +kernel
theorem dL_law_1848 : decode cL_law 1848 = .ok (.istore 7, 2) := by decide +kernel
theorem dL_law_1850 : decode cL_law 1850 = .ok (.aload_n 2, 1) := by decide +kernel
theorem dL_law_1851 : decode cL_law 1851 = .ok (.invokevirtual 152, 3) := by decide +kernel
theorem dL_law_1854 : decode cL_law 1854 = .ok (.iload 6, 2) := by decide +kernel
theorem dL_law_1856 : decode cL_law 1856 = .ok (.if_icmp .eq 5, 3) := by decide +kernel
theorem dL_law_1861 : decode cL_law 1861 = .ok (.iload 6, 2) := by decide +kernel
theorem dL_law_1863 : decode cL_law 1863 = .ok (.ifCond .ne 22, 3) := by decide +kernel
theorem dL_law_1885 : decode cL_law 1885 = .ok (.goto 893, 3) := by decide +kernel
theorem dL_law_1888 : decode cL_law 1888 = .ok (.aload_n 1, 1) := by decide +kernel
def q_ggL_law_X11_holdouts : List Cond := .code yX11_holdouts cX11_holdouts 3 (some .int) :: ((wsX11_holdouts_r1 ++ (wsX11_holdouts_r2 ++ (wsX11_holdouts_r3 ++ (wsX11_holdouts_r4 ++ (wsX11_holdouts_r5 ++ (wsX11_holdouts_r6 ++ (wsX11_holdouts_r7 ++ (wsX11_holdouts_r8 ++ (wsX11_holdouts_r9 ++ wsX11_holdouts_r10))))))))) ++ wsX110 ++ wsX50 ++ wsX20 ++ wsX70 ++ wsX100 ++ wsX40)
theorem q0_ggL_law_X11_holdouts : GoodIn wsL_law ((q_ggL_law_X11_holdouts.drop 0).take 24) := gi_two _ [(53, 10), (0, 17), (0, 21), (13, 18), (13, 19), (13, 20), (0, 2), (13, 21), (13, 22), (13, 23), (0, 16), (44, 23), (45, 0), (45, 1), (0, 20), (45, 2), (33, 2), (33, 3), (33, 4), (45, 3), (45, 4), (11, 21), (45, 5), (2, 4)] rfl (by decide +kernel)
theorem q1_ggL_law_X11_holdouts : GoodIn wsL_law ((q_ggL_law_X11_holdouts.drop 24).take 24) := gi_two _ [(45, 6), (45, 7), (45, 8), (45, 9), (1, 20), (32, 16), (32, 20), (19, 3), (19, 4), (1, 19), (19, 5), (19, 6), (19, 7), (19, 8), (19, 9), (3, 0), (2, 17), (2, 18), (2, 19), (2, 20), (2, 21), (2, 22), (19, 10), (19, 11)] rfl (by decide +kernel)
theorem q2_ggL_law_X11_holdouts : GoodIn wsL_law ((q_ggL_law_X11_holdouts.drop 48).take 24) := gi_two _ [(12, 11), (19, 12), (19, 13), (19, 14), (19, 15), (19, 16), (19, 17), (19, 18), (12, 23), (13, 0), (19, 19), (11, 20), (11, 22), (19, 20), (19, 21), (19, 22), (19, 23), (20, 0), (14, 13), (14, 14), (5, 0), (14, 15), (6, 0), (6, 1)] rfl (by decide +kernel)
theorem q3_ggL_law_X11_holdouts : GoodIn wsL_law ((q_ggL_law_X11_holdouts.drop 72).take 24) := gi_two _ [(5, 21), (20, 1), (20, 2), (20, 3), (20, 4), (20, 5), (20, 6), (20, 7), (20, 8), (20, 9), (20, 10), (20, 11), (20, 12), (20, 13), (32, 21), (22, 14), (22, 15), (22, 16), (32, 22), (23, 13), (23, 14), (23, 15), (45, 10), (45, 11)] rfl (by decide +kernel)
theorem q4_ggL_law_X11_holdouts : GoodIn wsL_law ((q_ggL_law_X11_holdouts.drop 96).take 24) := gi_two _ [(45, 12), (45, 13), (2, 5), (45, 14), (45, 15), (34, 10), (34, 11), (34, 12), (45, 16), (45, 17), (45, 18), (45, 19), (45, 20), (45, 21), (45, 22), (45, 23), (46, 0), (46, 1), (46, 2), (34, 0), (34, 1), (34, 2), (34, 3), (13, 2)] rfl (by decide +kernel)
theorem q5_ggL_law_X11_holdouts : GoodIn wsL_law ((q_ggL_law_X11_holdouts.drop 120).take 24) := gi_two _ [(13, 3), (13, 4), (46, 3), (35, 3), (35, 4), (35, 5), (35, 6), (35, 7), (35, 8), (2, 3), (35, 9), (3, 17), (35, 10), (35, 11), (35, 12), (35, 13), (3, 19), (3, 18), (3, 21), (3, 20), (35, 14), (35, 15), (35, 16), (35, 17)] rfl (by decide +kernel)
theorem q6_ggL_law_X11_holdouts : GoodIn wsL_law ((q_ggL_law_X11_holdouts.drop 144).take 24) := gi_two _ [(14, 16), (14, 17), (35, 18), (35, 19), (35, 20), (35, 21), (35, 22), (35, 23), (36, 0), (30, 8), (30, 9), (36, 1), (36, 2), (36, 3), (36, 4), (36, 5), (36, 6), (36, 7), (36, 8), (36, 9), (36, 10), (36, 11), (36, 12), (36, 13)] rfl (by decide +kernel)
theorem q7_ggL_law_X11_holdouts : GoodIn wsL_law ((q_ggL_law_X11_holdouts.drop 168).take 24) := gi_two _ [(36, 14), (36, 15), (36, 16), (36, 17), (36, 18), (36, 19), (46, 4), (46, 5), (46, 6), (46, 7), (2, 13), (32, 19), (36, 20), (36, 21), (36, 22), (2, 12), (36, 23), (4, 13), (4, 12), (4, 14), (4, 15), (4, 16), (4, 18), (4, 17)] rfl (by decide +kernel)
theorem q8_ggL_law_X11_holdouts : GoodIn wsL_law ((q_ggL_law_X11_holdouts.drop 192).take 24) := gi_two _ [(37, 0), (37, 1), (37, 2), (37, 3), (37, 4), (37, 5), (37, 6), (37, 7), (37, 8), (37, 9), (37, 10), (37, 11), (37, 12), (37, 13), (37, 14), (37, 15), (37, 16), (37, 17), (37, 18), (37, 19), (37, 20), (37, 21), (37, 22), (37, 23)] rfl (by decide +kernel)
theorem q9_ggL_law_X11_holdouts : GoodIn wsL_law ((q_ggL_law_X11_holdouts.drop 216).take 24) := gi_two _ [(38, 0), (38, 1), (38, 2), (38, 3), (38, 4), (38, 5), (77, 0), (77, 1), (77, 2), (77, 3), (77, 4), (77, 5), (77, 6), (89, 0), (89, 1), (89, 2), (89, 3), (89, 4), (89, 5), (89, 6), (89, 7), (89, 8), (89, 9), (89, 10)] rfl (by decide +kernel)
theorem q10_ggL_law_X11_holdouts : GoodIn wsL_law ((q_ggL_law_X11_holdouts.drop 240).take 24) := gi_two _ [(79, 0), (79, 1), (79, 2), (79, 3), (79, 4), (79, 5), (84, 0), (84, 1), (84, 2), (84, 3), (84, 4), (84, 5), (84, 6), (86, 0), (86, 1), (86, 2), (86, 3), (86, 4), (88, 0), (88, 1), (88, 2), (88, 3), (88, 4), (88, 5)] rfl (by decide +kernel)
theorem q11_ggL_law_X11_holdouts : GoodIn wsL_law ((q_ggL_law_X11_holdouts.drop 264).take 24) := gi_two _ [(88, 6)] rfl (by decide +kernel)
theorem qe_ggL_law_X11_holdouts : GoodIn wsL_law (q_ggL_law_X11_holdouts.drop 288) := gi_two _ [] rfl (by decide +kernel)
theorem qa_ggL_law_X11_holdouts : GoodIn wsL_law (q_ggL_law_X11_holdouts) := (gi_step 0 24 q0_ggL_law_X11_holdouts (gi_step 24 24 q1_ggL_law_X11_holdouts (gi_step 48 24 q2_ggL_law_X11_holdouts (gi_step 72 24 q3_ggL_law_X11_holdouts (gi_step 96 24 q4_ggL_law_X11_holdouts (gi_step 120 24 q5_ggL_law_X11_holdouts (gi_step 144 24 q6_ggL_law_X11_holdouts (gi_step 168 24 q7_ggL_law_X11_holdouts (gi_step 192 24 q8_ggL_law_X11_holdouts (gi_step 216 24 q9_ggL_law_X11_holdouts (gi_step 240 24 q10_ggL_law_X11_holdouts (gi_step 264 24 q11_ggL_law_X11_holdouts qe_ggL_law_X11_holdouts))))))))))))
set_option maxRecDepth 20000 in
theorem ggL_law_X11_holdouts : GoodIn wsL_law wsX11_holdouts := goodIn_ca (goodIn_ca (qa_ggL_law_X11_holdouts) (goodIn_sub (fun _ h => List.mem_append_left _ (List.mem_append_left _ (List.mem_append_left _ (List.mem_append_left _ (List.mem_append_right _ h))))) (by decide +kernel))) (goodIn_sub (fun _ h => List.mem_append_left _ (List.mem_append_left _ (List.mem_append_left _ (List.mem_append_left _ (List.mem_append_left _ (List.mem_append_left _ (List.mem_append_left _ (List.mem_append_right _ h)))))))) (by decide +kernel))
set_option maxRecDepth 20000 in
theorem gL_law_X11_holdouts : GoodIn wsL_law (wsV RL 231 RX11 yX11_holdouts wsX11_holdouts) := goodIn_app (goodIn_of _ (by decide +kernel)) ggL_law_X11_holdouts
theorem dL_law_1889 : decode cL_law 1889 = .ok (.invokevirtual 231, 3) := by decide +kernel
theorem dL_law_1892 : decode cL_law 1892 = .ok (.aload_n 2, 1) := by decide +kernel
def q_ggL_law_X15_holdouts : List Cond := .code yX15_holdouts cX15_holdouts 4 (some .int) :: ((wsX15_holdouts_r1 ++ (wsX15_holdouts_r2 ++ (wsX15_holdouts_r3 ++ (wsX15_holdouts_r4 ++ (wsX15_holdouts_r5 ++ (wsX15_holdouts_r6 ++ (wsX15_holdouts_r7 ++ (wsX15_holdouts_r8 ++ wsX15_holdouts_r9)))))))) ++ wsX150 ++ wsJx354110 ++ wsJx4a65c0 ++ wsX130 ++ wsX140 ++ wsX120)
theorem q0_ggL_law_X15_holdouts : GoodIn wsL_law ((q_ggL_law_X15_holdouts.drop 0).take 24) := gi_two _ [(53, 14), (10, 0), (7, 13), (15, 2), (53, 15), (53, 16), (53, 17), (7, 12), (53, 18), (53, 19), (53, 20), (53, 21), (53, 22), (53, 23), (54, 0), (54, 1), (54, 2), (0, 13), (0, 14), (54, 3), (54, 4), (11, 6), (54, 5), (54, 6)] rfl (by decide +kernel)
theorem q1_ggL_law_X15_holdouts : GoodIn wsL_law ((q_ggL_law_X15_holdouts.drop 24).take 24) := gi_two _ [(54, 7), (54, 8), (54, 9), (54, 10), (54, 11), (54, 12), (54, 13), (54, 14), (54, 15), (54, 16), (54, 17), (54, 18), (54, 19), (46, 12), (46, 13), (46, 14), (0, 5), (46, 15), (38, 10), (38, 11), (20, 19), (20, 20), (20, 21), (46, 16)] rfl (by decide +kernel)
theorem q2_ggL_law_X15_holdouts : GoodIn wsL_law ((q_ggL_law_X15_holdouts.drop 48).take 24) := gi_two _ [(45, 4), (11, 21), (45, 5), (38, 16), (38, 17), (38, 18), (38, 19), (20, 22), (20, 23), (21, 0), (21, 1), (2, 23), (21, 2), (21, 3), (21, 4), (21, 5), (21, 6), (21, 7), (21, 8), (21, 9), (21, 10), (21, 11), (21, 12), (21, 13)] rfl (by decide +kernel)
theorem q3_ggL_law_X15_holdouts : GoodIn wsL_law ((q_ggL_law_X15_holdouts.drop 72).take 24) := gi_two _ [(21, 14), (21, 15), (21, 16), (21, 17), (21, 18), (12, 23), (13, 0), (21, 19), (21, 20), (11, 20), (11, 22), (21, 21), (21, 22), (21, 23), (22, 0), (22, 1), (22, 2), (22, 3), (22, 4), (22, 5), (16, 4), (16, 5), (10, 3), (16, 6)] rfl (by decide +kernel)
theorem q4_ggL_law_X15_holdouts : GoodIn wsL_law ((q_ggL_law_X15_holdouts.drop 96).take 24) := gi_two _ [(10, 21), (27, 7), (27, 8), (27, 9), (27, 10), (38, 20), (38, 21), (38, 22), (38, 23), (39, 12), (39, 4), (39, 5), (39, 6), (39, 7), (39, 8), (39, 9), (39, 10), (39, 11), (39, 13), (39, 14), (39, 15), (39, 16), (18, 10), (18, 11)] rfl (by decide +kernel)
theorem q5_ggL_law_X15_holdouts : GoodIn wsL_law ((q_ggL_law_X15_holdouts.drop 120).take 24) := gi_two _ [(18, 12), (18, 13), (18, 14), (10, 2), (10, 19), (10, 20), (10, 22), (10, 23), (11, 0), (16, 11), (18, 15), (10, 13), (10, 14), (10, 15), (10, 16), (10, 17), (10, 18), (10, 4), (10, 5), (10, 6), (40, 1), (40, 2), (40, 3), (40, 4)] rfl (by decide +kernel)
theorem q6_ggL_law_X15_holdouts : GoodIn wsL_law ((q_ggL_law_X15_holdouts.drop 144).take 24) := gi_two _ [(40, 5), (40, 6), (40, 7), (40, 8), (40, 9), (40, 10), (40, 11), (40, 12), (7, 9), (40, 13), (40, 14), (40, 15), (40, 16), (40, 17), (40, 18), (40, 19), (40, 20), (40, 21), (40, 22), (40, 23), (41, 0), (41, 1), (41, 2), (41, 3)] rfl (by decide +kernel)
theorem q7_ggL_law_X15_holdouts : GoodIn wsL_law ((q_ggL_law_X15_holdouts.drop 168).take 24) := gi_two _ [(41, 4), (41, 5), (41, 6), (41, 7), (41, 8), (41, 9), (41, 10), (41, 11), (41, 12), (41, 13), (41, 14), (41, 15), (41, 16), (41, 17), (41, 18), (41, 19), (41, 20), (41, 21), (41, 22), (41, 23), (42, 0), (42, 1), (42, 2), (42, 3)] rfl (by decide +kernel)
theorem q8_ggL_law_X15_holdouts : GoodIn wsL_law ((q_ggL_law_X15_holdouts.drop 192).take 24) := gi_two _ [(42, 4), (42, 5), (42, 6), (42, 7), (42, 8), (42, 9), (42, 10), (42, 11), (42, 12), (42, 13), (42, 14), (42, 15), (42, 16), (42, 17), (42, 18), (78, 0), (78, 1), (78, 2), (78, 3), (78, 4), (78, 5), (78, 6), (78, 7), (78, 8)] rfl (by decide +kernel)
theorem q9_ggL_law_X15_holdouts : GoodIn wsL_law ((q_ggL_law_X15_holdouts.drop 216).take 24) := gi_two _ [(78, 9), (78, 10), (78, 11), (78, 12), (78, 13), (78, 14), (78, 15), (78, 16), (78, 17), (78, 18), (78, 19), (78, 20), (95, 0), (95, 1), (95, 2), (95, 3), (90, 0), (90, 1), (90, 2), (91, 0), (91, 1), (91, 2), (91, 3), (91, 4)] rfl (by decide +kernel)
theorem q10_ggL_law_X15_holdouts : GoodIn wsL_law ((q_ggL_law_X15_holdouts.drop 240).take 24) := gi_two _ [(91, 5), (91, 6), (91, 7), (91, 8), (91, 9), (91, 10), (91, 11), (92, 0), (92, 1), (92, 2), (92, 3), (92, 4), (92, 5), (92, 6), (92, 7), (92, 8), (94, 0), (94, 1), (94, 2), (94, 3), (94, 4), (94, 5), (94, 6), (94, 7)] rfl (by decide +kernel)
theorem q11_ggL_law_X15_holdouts : GoodIn wsL_law ((q_ggL_law_X15_holdouts.drop 264).take 24) := gi_two _ [(94, 8), (94, 9), (94, 10)] rfl (by decide +kernel)
theorem qe_ggL_law_X15_holdouts : GoodIn wsL_law (q_ggL_law_X15_holdouts.drop 288) := gi_two _ [] rfl (by decide +kernel)
theorem qa_ggL_law_X15_holdouts : GoodIn wsL_law (q_ggL_law_X15_holdouts) := (gi_step 0 24 q0_ggL_law_X15_holdouts (gi_step 24 24 q1_ggL_law_X15_holdouts (gi_step 48 24 q2_ggL_law_X15_holdouts (gi_step 72 24 q3_ggL_law_X15_holdouts (gi_step 96 24 q4_ggL_law_X15_holdouts (gi_step 120 24 q5_ggL_law_X15_holdouts (gi_step 144 24 q6_ggL_law_X15_holdouts (gi_step 168 24 q7_ggL_law_X15_holdouts (gi_step 192 24 q8_ggL_law_X15_holdouts (gi_step 216 24 q9_ggL_law_X15_holdouts (gi_step 240 24 q10_ggL_law_X15_holdouts (gi_step 264 24 q11_ggL_law_X15_holdouts qe_ggL_law_X15_holdouts))))))))))))
set_option maxRecDepth 20000 in
theorem ggL_law_X15_holdouts : GoodIn wsL_law wsX15_holdouts := goodIn_ca (goodIn_ca (qa_ggL_law_X15_holdouts) (goodIn_sub (fun _ h => List.mem_append_left _ (List.mem_append_left _ (List.mem_append_left _ (List.mem_append_left _ (List.mem_append_left _ (List.mem_append_left _ (List.mem_append_left _ (List.mem_append_right _ h)))))))) (by decide +kernel))) (goodIn_sub (fun _ h => List.mem_append_left _ (List.mem_append_right _ h)) (by decide +kernel))
set_option maxRecDepth 20000 in
theorem gL_law_X15_holdouts : GoodIn wsL_law (wsV RL 234 RX15 yX15_holdouts wsX15_holdouts) := goodIn_app (goodIn_of _ (by decide +kernel)) ggL_law_X15_holdouts
theorem dL_law_1893 : decode cL_law 1893 = .ok (.invokevirtual 234, 3) := by decide +kernel
theorem dL_law_1896 : decode cL_law 1896 = .ok (.if_icmp .eq 882, 3) := by decide +kernel
set_option maxHeartbeats 8000000 in
set_option maxRecDepth 100000 in
/-- the law: law_16_ways -/
theorem law_16_ways {p : Program} {e : Env} {s : State} {m : MethodId} {below : List Frame} {meth : Method} {c : Code} {l : Launch} {b : Nat} {xs : Nat → Int32} (hx : p.tables.exec = Jvm.exec) (hb : c.code = cL_law) (hr : meth.sig.returnType = ret) (hml : c.maxLocals = 9) (hfl : l.stackTraces = false) (hown : s.vm.findClass RL = some m.cls) (hts : ∀ w ∈ wsL_law, w.before #[Value.ref b] s = true) (hX : va_X b 7 xs s s.heap) (hbl : b < s.heap.size) (hlocks : meth.locks = false) {A : Nat → Prop} (hbA : ¬ A b) (hAo : ∀ q, A q → s.heap.size ≤ q) (hA : ∀ q : Nat, s.heap.size ≤ q → A q) (dC : Nat → ClassId) (dI : Nat → Nat → Nat) (hN : nwA s) (e0 : Nat) (aK aV : Nat → Nat) (hZ : zX A s s.heap ∧ zM e0 aK aV A s s.heap) (ya ms ju rj tj ro rn tn rh th ca sa da xa wb z1 z2 jt z3 br z4 z5 z6 lk z7 z8 li bm l2 z9 bo h2 mm l1 z10 oo h1 ct cr cu cg cp co tg ts tr tk te fw fo fu xm ml cl fl rg tR ou od kn : Nat) (cI cM cS cL cD cB : ClassId) {H : Heap} {locs : List Loc} (hP : va_P (dC, dI) vwCl [(ya, .inr (16, [.ref ms, .int 0, .ref ju, .ref li, .ref ct, .ref tg, .ref fw])), (ou, .inl (cL, 1, .inr (.inl (fun _ => 0)))), (xm, .inr (20, [.int 0, .int 0, .ref kn, .int 0, .int 0, .int 0, .ref ml, .ref cl, .ref rg, .ref tR, .ref (aK 0), .ref (aK 0), .ref fl, .int 0, .int 0, .int 0, .int 0, .int 0, .int 0, .int 0, .null])), (ml, .inr (4, [.int 0, .ref e0, .int 0]))] H) (hD : va_D A [(ya, .inr (16, [.ref ms, .int 0, .ref ju, .ref li, .ref ct, .ref tg, .ref fw])), (ou, .inl (cL, 1, .inr (.inl (fun _ => 0)))), (xm, .inr (20, [.int 0, .int 0, .ref kn, .int 0, .int 0, .int 0, .ref ml, .ref cl, .ref rg, .ref tR, .ref (aK 0), .ref (aK 0), .ref fl, .int 0, .int 0, .int 0, .int 0, .int 0, .int 0, .int 0, .null])), (ml, .inr (4, [.int 0, .ref e0, .int 0]))]) (hK : va_K (dC, dI) vwCl [(cL, .long)] s) (hS : va_S A s.heap H locs) {ls : Array Slot} (hl : lv_has ls 9 [(0, .ref b), (1, .ref ya), (2, .ref xm), (3, .ref ou), (4, .ref od), (5, .int 0)]) : W p l e room_1 s m #[Value.ref b] below meth c H locs 200 60000 (lw_Z below #[Value.ref b] s) (F0 m 1377 ls []) := by
  obtain ⟨s1, hs1⟩ : ∃ z, z = xs ((0 : Int32) + 1).toNatClampNeg := ⟨_, rfl⟩
  obtain ⟨s2, hs2⟩ : ∃ z, z = xs ((0 : Int32) + 2).toNatClampNeg := ⟨_, rfl⟩
  obtain ⟨s3, hs3⟩ : ∃ z, z = xs ((0 : Int32) + 3).toNatClampNeg := ⟨_, rfl⟩
  obtain ⟨s4, hs4⟩ : ∃ z, z = xs ((0 : Int32) + 4).toNatClampNeg := ⟨_, rfl⟩
  obtain ⟨s5, hs5⟩ : ∃ z, z = xs ((0 : Int32) + 5).toNatClampNeg := ⟨_, rfl⟩
  obtain ⟨s6, hs6⟩ : ∃ z, z = xs ((0 : Int32) + 6).toNatClampNeg := ⟨_, rfl⟩
  obtain ⟨ch1, hch1⟩ : ∃ z, z = (s1.toUInt32 % 65536).toInt32 := ⟨_, rfl⟩
  obtain ⟨ch2, hch2⟩ : ∃ z, z = (s2.toUInt32 % 65536).toInt32 := ⟨_, rfl⟩
  obtain ⟨ch3, hch3⟩ : ∃ z, z = (s3.toUInt32 % 65536).toInt32 := ⟨_, rfl⟩
  obtain ⟨ch4, hch4⟩ : ∃ z, z = (s4.toUInt32 % 65536).toInt32 := ⟨_, rfl⟩
  obtain ⟨ch5, hch5⟩ : ∃ z, z = (s5.toUInt32 % 65536).toInt32 := ⟨_, rfl⟩
  obtain ⟨ch6, hch6⟩ : ∃ z, z = (s6.toUInt32 % 65536).toInt32 := ⟨_, rfl⟩
  refine lv_aload_n hx hb dL_law_1377 rfl (lv_at hl 1 rfl) ?_
  refine lv_aload_n hx hb dL_law_1378 rfl (lv_at hl 0 rfl) ?_
  refine lv_iload hx hb dL_law_1379 (lv_at hl 5 rfl) ?_
  refine lv_iconst (v := 1) hx hb dL_law_1381 (by decide) ?_
  refine lv_iadd hx hb dL_law_1382 ?_
  refine va_sld hx hb hX hbl hbA hS sx1 dL_law_1383 ?_
  refine lv_topi (fun x_1 ex_1 => ?_)
  obtain rfl : s1 = x_1 := (show x_1 = s1 from ex_1.trans hs1.symm).symm
  refine lv_aload_n hx hb dL_law_1384 rfl (lv_at hl 0 rfl) ?_
  refine lv_iload hx hb dL_law_1385 (lv_at hl 5 rfl) ?_
  refine lv_iconst (v := 2) hx hb dL_law_1387 (by decide) ?_
  refine lv_iadd hx hb dL_law_1388 ?_
  refine va_sld hx hb hX hbl hbA hS sx2 dL_law_1389 ?_
  refine lv_topi (fun x_2 ex_2 => ?_)
  obtain rfl : s2 = x_2 := (show x_2 = s2 from ex_2.trans hs2.symm).symm
  refine lv_aload_n hx hb dL_law_1390 rfl (lv_at hl 3 rfl) ?_
  have hPc := hP.sub (ws' := [(ya, .inr (16, [.ref ms, .int 0, .ref ju, .ref li, .ref ct, .ref tg, .ref fw])), (ou, .inl (cL, 1, .inr (.inl (fun _ => 0))))]) [0, 1] rfl
  have hDc := hD.sub (ws' := [(ya, .inr (16, [.ref ms, .int 0, .ref ju, .ref li, .ref ct, .ref tg, .ref fw])), (ou, .inl (cL, 1, .inr (.inl (fun _ => 0))))]) [0, 1] (by decide) rfl
  have hKc := hK.sub (tys' := [(cL, .long)]) [0] rfl
  have hFc := va_free (wc := [(ya, .inr (16, [.ref ms, .int 0, .ref ju, .ref li, .ref ct, .ref tg, .ref fw])), (ou, .inl (cL, 1, .inr (.inl (fun _ => 0))))]) hD hS hA [0, 1] rfl
  refine vx_calli (vx_runSX (As := [.ref ya, .int s1, .int s2, .ref ou]) (rest := []) ⟨hx, hb, hml, hown, hts⟩ (c_L_ways l hfl dC dI ya ms ju li ct tg fw s1 s2 cL ou (fun _ => 0) H.size) (vx_cwSW 4 hts gL_law_L_ways rfl rfl rfl (by decide +kernel) ⟨Nat.le_of_ble_eq_true rfl, Nat.le_of_ble_eq_true rfl⟩) (pcSz (zX_ok) hPc hDc hKc hN hZ.1 hS hFc) rfl rfl hl.1 rfl (lv_room (Nat.le_of_ble_eq_true rfl)) dL_law_1391 ⟨Nat.le_of_ble_eq_true rfl, Nat.le_of_ble_eq_true rfl⟩) hS (fun q _ h => hFc q h) hFc (fun q _ h => hFc q h) (fun E9 ce9 q9 u9 t9 H9 locs9 ht9 hvm9 hp9 hE9 hz9 hk9 hS9 hc9 hv9 hcl9 => hE9.elim) (fun r_4 u t H1 locs ht hvm hw_5 hB hz1 hk1 hS => ?_)
  obtain ⟨hP1, hK1, hD1⟩ := hB
  rw [ht] at hP1
  try dsimp only at hw_5
  obtain ⟨hP, hD⟩ := va_join (wr := [(xm, .inr (20, [.int 0, .int 0, .ref kn, .int 0, .int 0, .int 0, .ref ml, .ref cl, .ref rg, .ref tR, .ref (aK 0), .ref (aK 0), .ref fl, .int 0, .int 0, .int 0, .int 0, .int 0, .int 0, .int 0, .null])), (ml, .inr (4, [.int 0, .ref e0, .int 0]))]) (w1 := [(ou, .inl (cL, 1, .inr (.inl u)))]) hP hD [0, 1] [2, 3] rfl rfl (by decide) (by decide) hk1 hFc hP1 hD1
  generalize H1 = H at hP hS ⊢
  have hP : va_P (dC, dI) vwCl [(xm, .inr (20, [.int 0, .int 0, .ref kn, .int 0, .int 0, .int 0, .ref ml, .ref cl, .ref rg, .ref tR, .ref (aK 0), .ref (aK 0), .ref fl, .int 0, .int 0, .int 0, .int 0, .int 0, .int 0, .int 0, .null])), (ml, .inr (4, [.int 0, .ref e0, .int 0])), (ou, .inl (cL, 1, .inr (.inl u)))] H := hP
  have hD : va_D A [(xm, .inr (20, [.int 0, .int 0, .ref kn, .int 0, .int 0, .int 0, .ref ml, .ref cl, .ref rg, .ref tR, .ref (aK 0), .ref (aK 0), .ref fl, .int 0, .int 0, .int 0, .int 0, .int 0, .int 0, .int 0, .null])), (ml, .inr (4, [.int 0, .ref e0, .int 0])), (ou, .inl (cL, 1, .inr (.inl u)))] := hD
  refine W.widen (k := 201) (n := 60006) (Nat.le_of_ble_eq_true rfl) (Nat.le_of_ble_eq_true rfl) ?_
  obtain ⟨of_3, eof_3⟩ : ∃ z, z = u := ⟨_, rfl⟩
  subst eof_3
  have hP : va_P (dC, dI) vwCl [(xm, .inr (20, [.int 0, .int 0, .ref kn, .int 0, .int 0, .int 0, .ref ml, .ref cl, .ref rg, .ref tR, .ref (aK 0), .ref (aK 0), .ref fl, .int 0, .int 0, .int 0, .int 0, .int 0, .int 0, .int 0, .null])), (ml, .inr (4, [.int 0, .ref e0, .int 0])), (ou, .inl (cL, 1, .inr (.inl of_3)))] H := hP
  have hD : va_D A [(xm, .inr (20, [.int 0, .int 0, .ref kn, .int 0, .int 0, .int 0, .ref ml, .ref cl, .ref rg, .ref tR, .ref (aK 0), .ref (aK 0), .ref fl, .int 0, .int 0, .int 0, .int 0, .int 0, .int 0, .int 0, .null])), (ml, .inr (4, [.int 0, .ref e0, .int 0])), (ou, .inl (cL, 1, .inr (.inl of_3)))] := hD
  obtain rfl : r_4 = 1 := hw_5
  refine lv_istore (lv' := [(6, .int 1), (0, .ref b), (1, .ref ya), (2, .ref xm), (3, .ref ou), (4, .ref od), (5, .int 0)]) hx hb dL_law_1394 hl (by decide) rfl (fun ls hl => ?_)
  refine lv_aload_n hx hb dL_law_1396 rfl (lv_at hl 3 rfl) ?_
  refine lv_aload_n hx hb dL_law_1397 rfl (lv_at hl 1 rfl) ?_
  refine lv_iload hx hb dL_law_1398 (lv_at hl 6 rfl) ?_
  refine lv_iconst (v := 1) hx hb dL_law_1400 (by decide) ?_
  refine lv_iadd hx hb dL_law_1401 ?_
  refine va_sld hx hb hX hbl hbA hS sx1 dL_law_1402 ?_
  refine lv_topi (fun x_6 ex_6 => ?_)
  obtain rfl : s1 = x_6 := (show x_6 = s1 from ex_6.trans hs1.symm).symm
  refine lv_aload_n hx hb dL_law_1403 rfl (lv_at hl 1 rfl) ?_
  refine lv_iload hx hb dL_law_1404 (lv_at hl 6 rfl) ?_
  refine lv_iconst (v := 2) hx hb dL_law_1406 (by decide) ?_
  refine lv_iadd hx hb dL_law_1407 ?_
  refine va_sld hx hb hX hbl hbA hS sx2 dL_law_1408 ?_
  refine lv_topi (fun x_7 ex_7 => ?_)
  obtain rfl : s2 = x_7 := (show x_7 = s2 from ex_7.trans hs2.symm).symm
  have hPc := hP.sub (ws' := [(xm, .inr (20, [.int 0, .int 0, .ref kn, .int 0, .int 0, .int 0, .ref ml, .ref cl, .ref rg, .ref tR, .ref (aK 0), .ref (aK 0), .ref fl, .int 0, .int 0, .int 0, .int 0, .int 0, .int 0, .int 0, .null])), (ml, .inr (4, [.int 0, .ref e0, .int 0]))]) [0, 1] rfl
  have hDc := hD.sub (ws' := [(xm, .inr (20, [.int 0, .int 0, .ref kn, .int 0, .int 0, .int 0, .ref ml, .ref cl, .ref rg, .ref tR, .ref (aK 0), .ref (aK 0), .ref fl, .int 0, .int 0, .int 0, .int 0, .int 0, .int 0, .int 0, .null])), (ml, .inr (4, [.int 0, .ref e0, .int 0]))]) [0, 1] (by decide) rfl
  have hKc := hK.sub (tys' := []) [] rfl
  have hFc := va_free (wc := [(xm, .inr (20, [.int 0, .int 0, .ref kn, .int 0, .int 0, .int 0, .ref ml, .ref cl, .ref rg, .ref tR, .ref (aK 0), .ref (aK 0), .ref fl, .int 0, .int 0, .int 0, .int 0, .int 0, .int 0, .int 0, .null])), (ml, .inr (4, [.int 0, .ref e0, .int 0]))]) hD hS hA [0, 1] rfl
  refine va_calli (va_runV (As := [.int s1, .int s2]) (rest := []) ⟨hx, hb, hml, hown, hts⟩ (c_X15_ways l dC dI xm ml cl fl kn rg tR e0 aK aV s1 s2 H.size) (cwV 2 hts gL_law_X15_ways rfl rfl rfl (by decide +kernel) ⟨Nat.le_of_ble_eq_true rfl, Nat.le_of_ble_eq_true rfl⟩) (pcV hPc hDc hKc hN (ci := 20) (q0 := 0) rfl rfl) rfl rfl hl.1 rfl (lv_room (Nat.le_of_ble_eq_true rfl)) dL_law_1409 ⟨Nat.le_of_ble_eq_true rfl, Nat.le_of_ble_eq_true rfl⟩) hS (fun q _ h => hFc q h) hFc (fun r_9 u t H1 locs ht hvm hw_10 hB hz1 hk1 hS => ?_)
  obtain ⟨hP1, hK1, hD1⟩ := hB
  rw [ht] at hP1
  try dsimp only at hw_10
  obtain ⟨hP, hD⟩ := va_join (wr := [(ou, .inl (cL, 1, .inr (.inl of_3)))]) (w1 := [(xm, .inr (20, u))]) hP hD [0, 1] [2] rfl rfl (by decide) (by decide) hk1 hFc hP1 hD1
  generalize H1 = H at hP hS ⊢
  have hP : va_P (dC, dI) vwCl [(ou, .inl (cL, 1, .inr (.inl of_3))), (xm, .inr (20, u))] H := hP
  have hD : va_D A [(ou, .inl (cL, 1, .inr (.inl of_3))), (xm, .inr (20, u))] := hD
  obtain ⟨fs_8, efs_8⟩ : ∃ z, z = u := ⟨_, rfl⟩
  subst efs_8
  have hP : va_P (dC, dI) vwCl [(ou, .inl (cL, 1, .inr (.inl of_3))), (xm, .inr (20, fs_8))] H := hP
  have hD : va_D A [(ou, .inl (cL, 1, .inr (.inl of_3))), (xm, .inr (20, fs_8))] := hD
  refine lv_istore (lv' := [(7, .int r_9), (6, .int 1), (0, .ref b), (1, .ref ya), (2, .ref xm), (3, .ref ou), (4, .ref od), (5, .int 0)]) hx hb dL_law_1412 hl (by decide) rfl (fun ls hl => ?_)
  refine lv_aload_n hx hb dL_law_1414 rfl (lv_at hl 4 rfl) ?_
  have hPc := hP.sub (ws' := [(xm, .inr (20, fs_8))]) [1] rfl
  have hDc := hD.sub (ws' := [(xm, .inr (20, fs_8))]) [1] (by decide) rfl
  have hKc := hK.sub (tys' := []) [] rfl
  have hFc := va_free (wc := [(xm, .inr (20, fs_8))]) hD hS hA [1] rfl
  refine va_calli (va_runV (As := []) (rest := []) ⟨hx, hb, hml, hown, hts⟩ (c_X15_thrown l dC dI xm fs_8 1 hw_10 H.size) (cwV 0 hts gL_law_X15_thrown rfl rfl rfl (by decide +kernel) ⟨Nat.le_of_ble_eq_true rfl, Nat.le_of_ble_eq_true rfl⟩) (pcV hPc hDc hKc hN (ci := 20) (q0 := 0) rfl rfl) rfl rfl hl.1 rfl (lv_room (Nat.le_of_ble_eq_true rfl)) dL_law_1415 ⟨Nat.le_of_ble_eq_true rfl, Nat.le_of_ble_eq_true rfl⟩) hS (fun q _ h => hFc q h) hFc (fun r_11 u t H1 locs ht hvm hw_12 hB hz1 hk1 hS => ?_)
  obtain ⟨hP1, hK1, hD1⟩ := hB
  rw [ht] at hP1
  try dsimp only at hw_12
  obtain ⟨hP, hD⟩ := va_join (wr := [(ou, .inl (cL, 1, .inr (.inl of_3)))]) (w1 := []) hP hD [1] [0] rfl rfl (by decide) (by decide) hk1 hFc hP1 hD1
  generalize H1 = H at hP hS ⊢
  have hP : va_P (dC, dI) vwCl [(ou, .inl (cL, 1, .inr (.inl of_3)))] H := hP
  have hD : va_D A [(ou, .inl (cL, 1, .inr (.inl of_3)))] := hD
  obtain rfl : r_11 = 1 := hw_12
  refine lv_iload hx hb dL_law_1418 (lv_at hl 1 rfl) ?_
  refine lv_icmp_eq (tgt := 1425) hx hb dL_law_1420 (by decide) (fun c1420_13 => ?_) (fun c1420_13 => ?_)
  · refine lv_iload hx hb dL_law_1425 (lv_at hl 1 rfl) ?_
    refine lv_if_ne (tgt := 1442) hx hb dL_law_1427 (by decide) (fun c1427_14 => ?_) (fun c1427_14 => ?_)
    · refine lv_goto (tgt := 2778) hx hb dL_law_1442 (by decide) ?_
      refine W.widen (k := 600006) (n := 7302039) (Nat.le_of_ble_eq_true rfl) (Nat.le_of_ble_eq_true rfl) ?_
      exact law_end hx hb hr hml hX hbl hlocks hbA hAo hS (lv_sub hl [2, 7] rfl)
    · exact absurd c1427_14 (by decide)
  · exact (c1420_13 (by decide)).elim

set_option maxHeartbeats 8000000 in
set_option maxRecDepth 100000 in
/-- the law: law_17_listed -/
theorem law_17_listed {p : Program} {e : Env} {s : State} {m : MethodId} {below : List Frame} {meth : Method} {c : Code} {l : Launch} {b : Nat} {xs : Nat → Int32} (hx : p.tables.exec = Jvm.exec) (hb : c.code = cL_law) (hr : meth.sig.returnType = ret) (hml : c.maxLocals = 9) (hfl : l.stackTraces = false) (hown : s.vm.findClass RL = some m.cls) (hts : ∀ w ∈ wsL_law, w.before #[Value.ref b] s = true) (hX : va_X b 7 xs s s.heap) (hbl : b < s.heap.size) (hlocks : meth.locks = false) {A : Nat → Prop} (hbA : ¬ A b) (hAo : ∀ q, A q → s.heap.size ≤ q) (hA : ∀ q : Nat, s.heap.size ≤ q → A q) (dC : Nat → ClassId) (dI : Nat → Nat → Nat) (hN : nwA s) (e0 : Nat) (aK aV : Nat → Nat) (hZ : zX A s s.heap ∧ zM e0 aK aV A s s.heap) (ya ms ju rj tj ro rn tn rh th ca sa da xa wb z1 z2 jt z3 br z4 z5 z6 lk z7 z8 li bm l2 z9 bo h2 mm l1 z10 oo h1 ct cr cu cg cp co tg ts tr tk te fw fo fu xm ml cl fl rg tR ou od kn : Nat) (cI cM cS cL cD cB : ClassId) {H : Heap} {locs : List Loc} (hP : va_P (dC, dI) vwCl [(ya, .inr (16, [.ref ms, .int 0, .ref ju, .ref li, .ref ct, .ref tg, .ref fw])), (li, .inr (8, [.ref bm, .int 0, .int 0, .int 0, .int 0, .int 0, .int 0, .int 0, .ref mm])), (bm, .inr (10, [.int 0, .int 2, .int 2, .ref l2, .int 0, .int 0, .int 63, .int 0, .int 0, .ref bo, .ref h2])), (bo, .inl (cI, 24, .inl (fun _ => 0))), (mm, .inr (10, [.int 0, .int 2, .int 2, .ref l1, .int 0, .int 0, .int 63, .int 0, .int 0, .ref oo, .ref h1])), (oo, .inl (cI, 24, .inl (fun _ => 0))), (ju, .inr (7, [.ref rj, .ref ro, .ref wb, .ref jt, .ref br, .ref lk])), (rj, .inr (12, [.int 0, .int 0, .int 0, .int 0, .int 0, .int 0, .ref tj])), (tj, .inl (cI, 1001, .inl (fun _ => 0))), (ro, .inr (11, [.int 0, .int 0, .ref rn, .ref rh, .int 0, .ref ca, .ref sa, .ref da, .ref xa])), (rn, .inr (12, [.int 0, .int 0, .int 0, .int 0, .int 0, .int 0, .ref tn])), (tn, .inl (cI, 1001, .inl (fun _ => 0))), (rh, .inr (12, [.int 0, .int 0, .int 0, .int 0, .int 0, .int 0, .ref th])), (th, .inl (cI, 1001, .inl (fun _ => 0))), (ca, .inl (cI, 501, .inl (fun _ => 0))), (sa, .inl (cI, 501, .inl (fun _ => 0))), (da, .inl (cI, 501, .inl (fun _ => 0))), (xa, .inl (cI, 501, .inl (fun _ => 0))), (ou, .inl (cL, 1, .inr (.inl (fun _ => 0)))), (xm, .inr (20, [.int 0, .int 0, .ref kn, .int 0, .int 0, .int 0, .ref ml, .ref cl, .ref rg, .ref tR, .ref (aK 0), .ref (aK 0), .ref fl, .int 0, .int 0, .int 0, .int 0, .int 0, .int 0, .int 0, .null]))] H) (hD : va_D A [(ya, .inr (16, [.ref ms, .int 0, .ref ju, .ref li, .ref ct, .ref tg, .ref fw])), (li, .inr (8, [.ref bm, .int 0, .int 0, .int 0, .int 0, .int 0, .int 0, .int 0, .ref mm])), (bm, .inr (10, [.int 0, .int 2, .int 2, .ref l2, .int 0, .int 0, .int 63, .int 0, .int 0, .ref bo, .ref h2])), (bo, .inl (cI, 24, .inl (fun _ => 0))), (mm, .inr (10, [.int 0, .int 2, .int 2, .ref l1, .int 0, .int 0, .int 63, .int 0, .int 0, .ref oo, .ref h1])), (oo, .inl (cI, 24, .inl (fun _ => 0))), (ju, .inr (7, [.ref rj, .ref ro, .ref wb, .ref jt, .ref br, .ref lk])), (rj, .inr (12, [.int 0, .int 0, .int 0, .int 0, .int 0, .int 0, .ref tj])), (tj, .inl (cI, 1001, .inl (fun _ => 0))), (ro, .inr (11, [.int 0, .int 0, .ref rn, .ref rh, .int 0, .ref ca, .ref sa, .ref da, .ref xa])), (rn, .inr (12, [.int 0, .int 0, .int 0, .int 0, .int 0, .int 0, .ref tn])), (tn, .inl (cI, 1001, .inl (fun _ => 0))), (rh, .inr (12, [.int 0, .int 0, .int 0, .int 0, .int 0, .int 0, .ref th])), (th, .inl (cI, 1001, .inl (fun _ => 0))), (ca, .inl (cI, 501, .inl (fun _ => 0))), (sa, .inl (cI, 501, .inl (fun _ => 0))), (da, .inl (cI, 501, .inl (fun _ => 0))), (xa, .inl (cI, 501, .inl (fun _ => 0))), (ou, .inl (cL, 1, .inr (.inl (fun _ => 0)))), (xm, .inr (20, [.int 0, .int 0, .ref kn, .int 0, .int 0, .int 0, .ref ml, .ref cl, .ref rg, .ref tR, .ref (aK 0), .ref (aK 0), .ref fl, .int 0, .int 0, .int 0, .int 0, .int 0, .int 0, .int 0, .null]))]) (hK : va_K (dC, dI) vwCl [(cI, .int), (cL, .long)] s) (hS : va_S A s.heap H locs) {ls : Array Slot} (hl : lv_has ls 9 [(0, .ref b), (1, .ref ya), (2, .ref xm), (3, .ref ou), (4, .ref od), (5, .int 0)]) : W p l e room_1 s m #[Value.ref b] below meth c H locs 200 60000 (lw_Z below #[Value.ref b] s) (F0 m 1445 ls []) := by
  obtain ⟨s1, hs1⟩ : ∃ z, z = xs ((0 : Int32) + 1).toNatClampNeg := ⟨_, rfl⟩
  obtain ⟨s2, hs2⟩ : ∃ z, z = xs ((0 : Int32) + 2).toNatClampNeg := ⟨_, rfl⟩
  obtain ⟨s3, hs3⟩ : ∃ z, z = xs ((0 : Int32) + 3).toNatClampNeg := ⟨_, rfl⟩
  obtain ⟨s4, hs4⟩ : ∃ z, z = xs ((0 : Int32) + 4).toNatClampNeg := ⟨_, rfl⟩
  obtain ⟨s5, hs5⟩ : ∃ z, z = xs ((0 : Int32) + 5).toNatClampNeg := ⟨_, rfl⟩
  obtain ⟨s6, hs6⟩ : ∃ z, z = xs ((0 : Int32) + 6).toNatClampNeg := ⟨_, rfl⟩
  obtain ⟨ch1, hch1⟩ : ∃ z, z = (s1.toUInt32 % 65536).toInt32 := ⟨_, rfl⟩
  obtain ⟨ch2, hch2⟩ : ∃ z, z = (s2.toUInt32 % 65536).toInt32 := ⟨_, rfl⟩
  obtain ⟨ch3, hch3⟩ : ∃ z, z = (s3.toUInt32 % 65536).toInt32 := ⟨_, rfl⟩
  obtain ⟨ch4, hch4⟩ : ∃ z, z = (s4.toUInt32 % 65536).toInt32 := ⟨_, rfl⟩
  obtain ⟨ch5, hch5⟩ : ∃ z, z = (s5.toUInt32 % 65536).toInt32 := ⟨_, rfl⟩
  obtain ⟨ch6, hch6⟩ : ∃ z, z = (s6.toUInt32 % 65536).toInt32 := ⟨_, rfl⟩
  refine lv_aload_n hx hb dL_law_1445 rfl (lv_at hl 1 rfl) ?_
  refine lv_aload_n hx hb dL_law_1446 rfl (lv_at hl 0 rfl) ?_
  refine lv_iload hx hb dL_law_1447 (lv_at hl 5 rfl) ?_
  refine lv_iconst (v := 1) hx hb dL_law_1449 (by decide) ?_
  refine lv_iadd hx hb dL_law_1450 ?_
  refine va_sld hx hb hX hbl hbA hS sx1 dL_law_1451 ?_
  refine lv_topi (fun x_1 ex_1 => ?_)
  obtain rfl : s1 = x_1 := (show x_1 = s1 from ex_1.trans hs1.symm).symm
  refine lv_aload_n hx hb dL_law_1452 rfl (lv_at hl 0 rfl) ?_
  refine lv_iload hx hb dL_law_1453 (lv_at hl 5 rfl) ?_
  refine lv_iconst (v := 2) hx hb dL_law_1455 (by decide) ?_
  refine lv_iadd hx hb dL_law_1456 ?_
  refine va_sld hx hb hX hbl hbA hS sx2 dL_law_1457 ?_
  refine lv_topi (fun x_2 ex_2 => ?_)
  obtain rfl : s2 = x_2 := (show x_2 = s2 from ex_2.trans hs2.symm).symm
  refine lv_aload_n hx hb dL_law_1458 rfl (lv_at hl 0 rfl) ?_
  refine lv_iload hx hb dL_law_1459 (lv_at hl 5 rfl) ?_
  refine lv_iconst (v := 3) hx hb dL_law_1461 (by decide) ?_
  refine lv_iadd hx hb dL_law_1462 ?_
  refine va_sld hx hb hX hbl hbA hS sx3 dL_law_1463 ?_
  refine lv_topi (fun x_3 ex_3 => ?_)
  obtain rfl : s3 = x_3 := (show x_3 = s3 from ex_3.trans hs3.symm).symm
  refine lv_i2c hx hb dL_law_1464 rfl ?_
  refine lv_topi (fun x_4 ex_4 => ?_)
  obtain rfl : ch3 = x_4 := (show x_4 = ch3 from ex_4.trans hch3.symm).symm
  refine lv_aload_n hx hb dL_law_1465 rfl (lv_at hl 3 rfl) ?_
  have hPc := hP.sub (ws' := [(ya, .inr (16, [.ref ms, .int 0, .ref ju, .ref li, .ref ct, .ref tg, .ref fw])), (li, .inr (8, [.ref bm, .int 0, .int 0, .int 0, .int 0, .int 0, .int 0, .int 0, .ref mm])), (bm, .inr (10, [.int 0, .int 2, .int 2, .ref l2, .int 0, .int 0, .int 63, .int 0, .int 0, .ref bo, .ref h2])), (bo, .inl (cI, 24, .inl (fun _ => 0))), (mm, .inr (10, [.int 0, .int 2, .int 2, .ref l1, .int 0, .int 0, .int 63, .int 0, .int 0, .ref oo, .ref h1])), (oo, .inl (cI, 24, .inl (fun _ => 0))), (ju, .inr (7, [.ref rj, .ref ro, .ref wb, .ref jt, .ref br, .ref lk])), (rj, .inr (12, [.int 0, .int 0, .int 0, .int 0, .int 0, .int 0, .ref tj])), (tj, .inl (cI, 1001, .inl (fun _ => 0))), (ro, .inr (11, [.int 0, .int 0, .ref rn, .ref rh, .int 0, .ref ca, .ref sa, .ref da, .ref xa])), (rn, .inr (12, [.int 0, .int 0, .int 0, .int 0, .int 0, .int 0, .ref tn])), (tn, .inl (cI, 1001, .inl (fun _ => 0))), (rh, .inr (12, [.int 0, .int 0, .int 0, .int 0, .int 0, .int 0, .ref th])), (th, .inl (cI, 1001, .inl (fun _ => 0))), (ca, .inl (cI, 501, .inl (fun _ => 0))), (sa, .inl (cI, 501, .inl (fun _ => 0))), (da, .inl (cI, 501, .inl (fun _ => 0))), (xa, .inl (cI, 501, .inl (fun _ => 0))), (ou, .inl (cL, 1, .inr (.inl (fun _ => 0))))]) [0, 1, 2, 3, 4, 5, 6, 7, 8, 9, 10, 11, 12, 13, 14, 15, 16, 17, 18] rfl
  have hDc := hD.sub (ws' := [(ya, .inr (16, [.ref ms, .int 0, .ref ju, .ref li, .ref ct, .ref tg, .ref fw])), (li, .inr (8, [.ref bm, .int 0, .int 0, .int 0, .int 0, .int 0, .int 0, .int 0, .ref mm])), (bm, .inr (10, [.int 0, .int 2, .int 2, .ref l2, .int 0, .int 0, .int 63, .int 0, .int 0, .ref bo, .ref h2])), (bo, .inl (cI, 24, .inl (fun _ => 0))), (mm, .inr (10, [.int 0, .int 2, .int 2, .ref l1, .int 0, .int 0, .int 63, .int 0, .int 0, .ref oo, .ref h1])), (oo, .inl (cI, 24, .inl (fun _ => 0))), (ju, .inr (7, [.ref rj, .ref ro, .ref wb, .ref jt, .ref br, .ref lk])), (rj, .inr (12, [.int 0, .int 0, .int 0, .int 0, .int 0, .int 0, .ref tj])), (tj, .inl (cI, 1001, .inl (fun _ => 0))), (ro, .inr (11, [.int 0, .int 0, .ref rn, .ref rh, .int 0, .ref ca, .ref sa, .ref da, .ref xa])), (rn, .inr (12, [.int 0, .int 0, .int 0, .int 0, .int 0, .int 0, .ref tn])), (tn, .inl (cI, 1001, .inl (fun _ => 0))), (rh, .inr (12, [.int 0, .int 0, .int 0, .int 0, .int 0, .int 0, .ref th])), (th, .inl (cI, 1001, .inl (fun _ => 0))), (ca, .inl (cI, 501, .inl (fun _ => 0))), (sa, .inl (cI, 501, .inl (fun _ => 0))), (da, .inl (cI, 501, .inl (fun _ => 0))), (xa, .inl (cI, 501, .inl (fun _ => 0))), (ou, .inl (cL, 1, .inr (.inl (fun _ => 0))))]) [0, 1, 2, 3, 4, 5, 6, 7, 8, 9, 10, 11, 12, 13, 14, 15, 16, 17, 18] (by decide) rfl
  have hKc := hK.sub (tys' := [(cI, .int), (cL, .long)]) [0, 1] rfl
  have hFc := va_free (wc := [(ya, .inr (16, [.ref ms, .int 0, .ref ju, .ref li, .ref ct, .ref tg, .ref fw])), (li, .inr (8, [.ref bm, .int 0, .int 0, .int 0, .int 0, .int 0, .int 0, .int 0, .ref mm])), (bm, .inr (10, [.int 0, .int 2, .int 2, .ref l2, .int 0, .int 0, .int 63, .int 0, .int 0, .ref bo, .ref h2])), (bo, .inl (cI, 24, .inl (fun _ => 0))), (mm, .inr (10, [.int 0, .int 2, .int 2, .ref l1, .int 0, .int 0, .int 63, .int 0, .int 0, .ref oo, .ref h1])), (oo, .inl (cI, 24, .inl (fun _ => 0))), (ju, .inr (7, [.ref rj, .ref ro, .ref wb, .ref jt, .ref br, .ref lk])), (rj, .inr (12, [.int 0, .int 0, .int 0, .int 0, .int 0, .int 0, .ref tj])), (tj, .inl (cI, 1001, .inl (fun _ => 0))), (ro, .inr (11, [.int 0, .int 0, .ref rn, .ref rh, .int 0, .ref ca, .ref sa, .ref da, .ref xa])), (rn, .inr (12, [.int 0, .int 0, .int 0, .int 0, .int 0, .int 0, .ref tn])), (tn, .inl (cI, 1001, .inl (fun _ => 0))), (rh, .inr (12, [.int 0, .int 0, .int 0, .int 0, .int 0, .int 0, .ref th])), (th, .inl (cI, 1001, .inl (fun _ => 0))), (ca, .inl (cI, 501, .inl (fun _ => 0))), (sa, .inl (cI, 501, .inl (fun _ => 0))), (da, .inl (cI, 501, .inl (fun _ => 0))), (xa, .inl (cI, 501, .inl (fun _ => 0))), (ou, .inl (cL, 1, .inr (.inl (fun _ => 0))))]) hD hS hA [0, 1, 2, 3, 4, 5, 6, 7, 8, 9, 10, 11, 12, 13, 14, 15, 16, 17, 18] rfl
  refine vx_calli (vx_runSX (As := [.ref ya, .int s1, .int s2, .int ch3, .ref ou]) (rest := []) ⟨hx, hb, hml, hown, hts⟩ (c_L_listed l hfl dC dI cI ya ms ct tg fw li ju bm bo l2 h2 mm oo l1 h1 rj tj ro rn rh ca sa da xa tn th wb jt br lk 0 63 0 0 0 63 0 0 ((0, 0, 0, 0, 0, 0, fun _ => 0), 0, 0, 0, (0, 0, 0, 0, 0, 0, fun _ => 0), (0, 0, 0, 0, 0, 0, fun _ => 0), (fun _ => 0), (fun _ => 0), (fun _ => 0), (fun _ => 0), 0, fun _ => 0) s1 s2 ch3 cL ou (fun _ => 0) H.size) (vx_cwSW 5 hts gL_law_L_listed rfl rfl rfl (by decide +kernel) ⟨Nat.le_of_ble_eq_true rfl, Nat.le_of_ble_eq_true rfl⟩) (pcSz (zX_ok) hPc hDc hKc hN hZ.1 hS hFc) rfl rfl hl.1 rfl (lv_room (Nat.le_of_ble_eq_true rfl)) dL_law_1466 ⟨Nat.le_of_ble_eq_true rfl, Nat.le_of_ble_eq_true rfl⟩) hS (fun q _ h => hFc q h) hFc (fun q _ h => hFc q h) (fun E9 ce9 q9 u9 t9 H9 locs9 ht9 hvm9 hp9 hE9 hz9 hk9 hS9 hc9 hv9 hcl9 => hE9.elim) (fun r_6 u t H1 locs ht hvm hw_7 hB hz1 hk1 hS => ?_)
  obtain ⟨hP1, hK1, hD1⟩ := hB
  rw [ht] at hP1
  try dsimp only at hw_7
  obtain ⟨hP, hD⟩ := va_join (wr := [(xm, .inr (20, [.int 0, .int 0, .ref kn, .int 0, .int 0, .int 0, .ref ml, .ref cl, .ref rg, .ref tR, .ref (aK 0), .ref (aK 0), .ref fl, .int 0, .int 0, .int 0, .int 0, .int 0, .int 0, .int 0, .null]))]) (w1 := [(ou, .inl (cL, 1, .inr (.inl u)))]) hP hD [0, 1, 2, 3, 4, 5, 6, 7, 8, 9, 10, 11, 12, 13, 14, 15, 16, 17, 18] [19] rfl rfl (by decide) (by decide) hk1 hFc hP1 hD1
  generalize H1 = H at hP hS ⊢
  have hP : va_P (dC, dI) vwCl [(xm, .inr (20, [.int 0, .int 0, .ref kn, .int 0, .int 0, .int 0, .ref ml, .ref cl, .ref rg, .ref tR, .ref (aK 0), .ref (aK 0), .ref fl, .int 0, .int 0, .int 0, .int 0, .int 0, .int 0, .int 0, .null])), (ou, .inl (cL, 1, .inr (.inl u)))] H := hP
  have hD : va_D A [(xm, .inr (20, [.int 0, .int 0, .ref kn, .int 0, .int 0, .int 0, .ref ml, .ref cl, .ref rg, .ref tR, .ref (aK 0), .ref (aK 0), .ref fl, .int 0, .int 0, .int 0, .int 0, .int 0, .int 0, .int 0, .null])), (ou, .inl (cL, 1, .inr (.inl u)))] := hD
  refine W.widen (k := 202) (n := 60012) (Nat.le_of_ble_eq_true rfl) (Nat.le_of_ble_eq_true rfl) ?_
  obtain ⟨of_5, eof_5⟩ : ∃ z, z = u := ⟨_, rfl⟩
  subst eof_5
  have hP : va_P (dC, dI) vwCl [(xm, .inr (20, [.int 0, .int 0, .ref kn, .int 0, .int 0, .int 0, .ref ml, .ref cl, .ref rg, .ref tR, .ref (aK 0), .ref (aK 0), .ref fl, .int 0, .int 0, .int 0, .int 0, .int 0, .int 0, .int 0, .null])), (ou, .inl (cL, 1, .inr (.inl of_5)))] H := hP
  have hD : va_D A [(xm, .inr (20, [.int 0, .int 0, .ref kn, .int 0, .int 0, .int 0, .ref ml, .ref cl, .ref rg, .ref tR, .ref (aK 0), .ref (aK 0), .ref fl, .int 0, .int 0, .int 0, .int 0, .int 0, .int 0, .int 0, .null])), (ou, .inl (cL, 1, .inr (.inl of_5)))] := hD
  rcases hw_7 with ⟨hr0, hPP, hv0⟩ | ⟨hr0, hPP⟩
  · obtain rfl : r_6 = 0 := hr0
    refine lv_istore (lv' := [(6, .int 0), (0, .ref b), (1, .ref ya), (2, .ref xm), (3, .ref ou), (4, .ref od), (5, .int 0)]) hx hb dL_law_1469 hl (by decide) rfl (fun ls hl => ?_)
    refine lv_aload_n hx hb dL_law_1471 rfl (lv_at hl 3 rfl) ?_
    refine lv_aload_n hx hb dL_law_1472 rfl (lv_at hl 1 rfl) ?_
    refine lv_iload hx hb dL_law_1473 (lv_at hl 6 rfl) ?_
    refine lv_iconst (v := 1) hx hb dL_law_1475 (by decide) ?_
    refine lv_iadd hx hb dL_law_1476 ?_
    refine va_sld hx hb hX hbl hbA hS sx1 dL_law_1477 ?_
    refine lv_topi (fun x_8 ex_8 => ?_)
    obtain rfl : s1 = x_8 := (show x_8 = s1 from ex_8.trans hs1.symm).symm
    refine lv_aload_n hx hb dL_law_1478 rfl (lv_at hl 1 rfl) ?_
    refine lv_iload hx hb dL_law_1479 (lv_at hl 6 rfl) ?_
    refine lv_iconst (v := 2) hx hb dL_law_1481 (by decide) ?_
    refine lv_iadd hx hb dL_law_1482 ?_
    refine va_sld hx hb hX hbl hbA hS sx2 dL_law_1483 ?_
    refine lv_topi (fun x_9 ex_9 => ?_)
    obtain rfl : s2 = x_9 := (show x_9 = s2 from ex_9.trans hs2.symm).symm
    refine lv_aload_n hx hb dL_law_1484 rfl (lv_at hl 1 rfl) ?_
    refine lv_iload hx hb dL_law_1485 (lv_at hl 6 rfl) ?_
    refine lv_iconst (v := 3) hx hb dL_law_1487 (by decide) ?_
    refine lv_iadd hx hb dL_law_1488 ?_
    refine va_sld hx hb hX hbl hbA hS sx3 dL_law_1489 ?_
    refine lv_topi (fun x_10 ex_10 => ?_)
    obtain rfl : s3 = x_10 := (show x_10 = s3 from ex_10.trans hs3.symm).symm
    refine lv_i2c hx hb dL_law_1490 rfl ?_
    refine lv_topi (fun x_11 ex_11 => ?_)
    obtain rfl : ch3 = x_11 := (show x_11 = ch3 from ex_11.trans hch3.symm).symm
    have hPc := hP.sub (ws' := [(xm, .inr (20, [.int 0, .int 0, .ref kn, .int 0, .int 0, .int 0, .ref ml, .ref cl, .ref rg, .ref tR, .ref (aK 0), .ref (aK 0), .ref fl, .int 0, .int 0, .int 0, .int 0, .int 0, .int 0, .int 0, .null]))]) [0] rfl
    have hDc := hD.sub (ws' := [(xm, .inr (20, [.int 0, .int 0, .ref kn, .int 0, .int 0, .int 0, .ref ml, .ref cl, .ref rg, .ref tR, .ref (aK 0), .ref (aK 0), .ref fl, .int 0, .int 0, .int 0, .int 0, .int 0, .int 0, .int 0, .null]))]) [0] (by decide) rfl
    have hKc := hK.sub (tys' := [(cI, .int)]) [0] rfl
    have hFc := va_free (wc := [(xm, .inr (20, [.int 0, .int 0, .ref kn, .int 0, .int 0, .int 0, .ref ml, .ref cl, .ref rg, .ref tR, .ref (aK 0), .ref (aK 0), .ref fl, .int 0, .int 0, .int 0, .int 0, .int 0, .int 0, .int 0, .null]))]) hD hS hA [0] rfl
    refine va_calli (va_runV (As := [.int s1, .int s2, .int ch3]) (rest := []) ⟨hx, hb, hml, hown, hts⟩ (c_X15_listed l dC dI xm ml cl fl kn rg tR e0 aK aV cI s1 s2 ch3 H.size) (cwV 3 hts gL_law_X15_listed rfl rfl rfl (by decide +kernel) ⟨Nat.le_of_ble_eq_true rfl, Nat.le_of_ble_eq_true rfl⟩) (pcVz (zM_ok e0 aK aV) hPc hDc hKc hN hZ.2 hS hFc (ci := 20) (q0 := 0) rfl rfl) rfl rfl hl.1 rfl (lv_room (Nat.le_of_ble_eq_true rfl)) dL_law_1491 ⟨Nat.le_of_ble_eq_true rfl, Nat.le_of_ble_eq_true rfl⟩) hS (fun q _ h => hFc q h) hFc (fun r_13 u t H1 locs ht hvm hw_14 hB hz1 hk1 hS => ?_)
    obtain ⟨hP1, hK1, hD1⟩ := hB
    rw [ht] at hP1
    try dsimp only at hw_14
    obtain ⟨hP, hD⟩ := va_join (wr := [(ou, .inl (cL, 1, .inr (.inl of_5)))]) (w1 := [(xm, .inr (20, u))]) hP hD [0] [1] rfl rfl (by decide) (by decide) hk1 hFc hP1 hD1
    generalize H1 = H at hP hS ⊢
    have hP : va_P (dC, dI) vwCl [(ou, .inl (cL, 1, .inr (.inl of_5))), (xm, .inr (20, u))] H := hP
    have hD : va_D A [(ou, .inl (cL, 1, .inr (.inl of_5))), (xm, .inr (20, u))] := hD
    refine W.widen (k := 14542) (n := 5865438) (Nat.le_of_ble_eq_true rfl) (Nat.le_of_ble_eq_true rfl) ?_
    obtain ⟨fs_12, efs_12⟩ : ∃ z, z = u := ⟨_, rfl⟩
    subst efs_12
    have hP : va_P (dC, dI) vwCl [(ou, .inl (cL, 1, .inr (.inl of_5))), (xm, .inr (20, fs_12))] H := hP
    have hD : va_D A [(ou, .inl (cL, 1, .inr (.inl of_5))), (xm, .inr (20, fs_12))] := hD
    obtain ⟨ht9, hrv⟩ := hw_14.elim (fun h => h.2) (fun h => absurd hPP h.1)
    obtain rfl : r_13 = (lsAns (lsC s1 s2) ch3) := hrv
    refine lv_topi (fun x_15 ex_15 => ?_)
    refine lv_istore (lv' := [(7, .int x_15), (6, .int 0), (0, .ref b), (1, .ref ya), (2, .ref xm), (3, .ref ou), (4, .ref od), (5, .int 0)]) hx hb dL_law_1494 hl (by decide) rfl (fun ls hl => ?_)
    refine lv_aload_n hx hb dL_law_1496 rfl (lv_at hl 4 rfl) ?_
    have hPc := hP.sub (ws' := [(xm, .inr (20, fs_12))]) [1] rfl
    have hDc := hD.sub (ws' := [(xm, .inr (20, fs_12))]) [1] (by decide) rfl
    have hKc := hK.sub (tys' := []) [] rfl
    have hFc := va_free (wc := [(xm, .inr (20, fs_12))]) hD hS hA [1] rfl
    refine va_calli (va_runV (As := []) (rest := []) ⟨hx, hb, hml, hown, hts⟩ (c_X15_thrown l dC dI xm fs_12 0 ht9 H.size) (cwV 0 hts gL_law_X15_thrown rfl rfl rfl (by decide +kernel) ⟨Nat.le_of_ble_eq_true rfl, Nat.le_of_ble_eq_true rfl⟩) (pcV hPc hDc hKc hN (ci := 20) (q0 := 0) rfl rfl) rfl rfl hl.1 rfl (lv_room (Nat.le_of_ble_eq_true rfl)) dL_law_1497 ⟨Nat.le_of_ble_eq_true rfl, Nat.le_of_ble_eq_true rfl⟩) hS (fun q _ h => hFc q h) hFc (fun r_16 u t H1 locs ht hvm hw_17 hB hz1 hk1 hS => ?_)
    obtain ⟨hP1, hK1, hD1⟩ := hB
    rw [ht] at hP1
    try dsimp only at hw_17
    obtain ⟨hP, hD⟩ := va_join (wr := [(ou, .inl (cL, 1, .inr (.inl of_5)))]) (w1 := []) hP hD [1] [0] rfl rfl (by decide) (by decide) hk1 hFc hP1 hD1
    generalize H1 = H at hP hS ⊢
    have hP : va_P (dC, dI) vwCl [(ou, .inl (cL, 1, .inr (.inl of_5)))] H := hP
    have hD : va_D A [(ou, .inl (cL, 1, .inr (.inl of_5)))] := hD
    obtain rfl : r_16 = 0 := hw_17
    refine lv_iload hx hb dL_law_1500 (lv_at hl 1 rfl) ?_
    refine lv_icmp_eq (tgt := 1507) hx hb dL_law_1502 (by decide) (fun c1502_18 => ?_) (fun c1502_18 => ?_)
    · refine lv_iload hx hb dL_law_1507 (lv_at hl 1 rfl) ?_
      refine lv_if_ne (tgt := 1524) hx hb dL_law_1509 (by decide) (fun c1509_19 => ?_) (fun c1509_19 => ?_)
      · exact (c1509_19 (by decide)).elim
      · refine lv_aload_n hx hb dL_law_1512 rfl (lv_at hl 5 rfl) ?_
        refine lv_iconst (v := 0) hx hb dL_law_1513 (by decide) ?_
        refine va_lald hx hb hK hP 0 1 rfl rfl (show vp_in (nI 0) 1 from vp_in_nI (by decide) (by decide)) dL_law_1514 ?_
        refine lv_topl (fun z_20 ez_20 => ?_)
        obtain rfl : z_20 = (lsAns (lsC s1 s2) ch3).toInt64 := by rw [ez_20, show (0 : Int32).toNatClampNeg = 0 from by decide]; exact hv0
        refine lv_iload hx hb dL_law_1515 (lv_at hl 0 rfl) ?_
        refine lv_i2l hx hb dL_law_1517 rfl ?_
        refine W.lcmp hx hb dL_law_1518 ?_
        refine lv_if_eq (tgt := 1524) hx hb dL_law_1519 (by decide) (fun c1519_21 => ?_) (fun c1519_21 => ?_)
        · refine lv_goto (tgt := 2778) hx hb dL_law_1524 (by decide) ?_
          refine W.widen (k := 600006) (n := 7302039) (Nat.le_of_ble_eq_true rfl) (Nat.le_of_ble_eq_true rfl) ?_
          exact law_end hx hb hr hml hX hbl hlocks hbA hAo hS (lv_sub hl [2, 7] rfl)
        · exact absurd ((lg_cmp_eq _ _).mpr (by first | rfl | (subst_vars; rfl))) c1519_21
    · exact (c1502_18 (by decide)).elim
  · obtain rfl : r_6 = 1 := hr0
    refine lv_istore (lv' := [(6, .int 1), (0, .ref b), (1, .ref ya), (2, .ref xm), (3, .ref ou), (4, .ref od), (5, .int 0)]) hx hb dL_law_1469 hl (by decide) rfl (fun ls hl => ?_)
    refine lv_aload_n hx hb dL_law_1471 rfl (lv_at hl 3 rfl) ?_
    refine lv_aload_n hx hb dL_law_1472 rfl (lv_at hl 1 rfl) ?_
    refine lv_iload hx hb dL_law_1473 (lv_at hl 6 rfl) ?_
    refine lv_iconst (v := 1) hx hb dL_law_1475 (by decide) ?_
    refine lv_iadd hx hb dL_law_1476 ?_
    refine va_sld hx hb hX hbl hbA hS sx1 dL_law_1477 ?_
    refine lv_topi (fun x_22 ex_22 => ?_)
    obtain rfl : s1 = x_22 := (show x_22 = s1 from ex_22.trans hs1.symm).symm
    refine lv_aload_n hx hb dL_law_1478 rfl (lv_at hl 1 rfl) ?_
    refine lv_iload hx hb dL_law_1479 (lv_at hl 6 rfl) ?_
    refine lv_iconst (v := 2) hx hb dL_law_1481 (by decide) ?_
    refine lv_iadd hx hb dL_law_1482 ?_
    refine va_sld hx hb hX hbl hbA hS sx2 dL_law_1483 ?_
    refine lv_topi (fun x_23 ex_23 => ?_)
    obtain rfl : s2 = x_23 := (show x_23 = s2 from ex_23.trans hs2.symm).symm
    refine lv_aload_n hx hb dL_law_1484 rfl (lv_at hl 1 rfl) ?_
    refine lv_iload hx hb dL_law_1485 (lv_at hl 6 rfl) ?_
    refine lv_iconst (v := 3) hx hb dL_law_1487 (by decide) ?_
    refine lv_iadd hx hb dL_law_1488 ?_
    refine va_sld hx hb hX hbl hbA hS sx3 dL_law_1489 ?_
    refine lv_topi (fun x_24 ex_24 => ?_)
    obtain rfl : s3 = x_24 := (show x_24 = s3 from ex_24.trans hs3.symm).symm
    refine lv_i2c hx hb dL_law_1490 rfl ?_
    refine lv_topi (fun x_25 ex_25 => ?_)
    obtain rfl : ch3 = x_25 := (show x_25 = ch3 from ex_25.trans hch3.symm).symm
    have hPc := hP.sub (ws' := [(xm, .inr (20, [.int 0, .int 0, .ref kn, .int 0, .int 0, .int 0, .ref ml, .ref cl, .ref rg, .ref tR, .ref (aK 0), .ref (aK 0), .ref fl, .int 0, .int 0, .int 0, .int 0, .int 0, .int 0, .int 0, .null]))]) [0] rfl
    have hDc := hD.sub (ws' := [(xm, .inr (20, [.int 0, .int 0, .ref kn, .int 0, .int 0, .int 0, .ref ml, .ref cl, .ref rg, .ref tR, .ref (aK 0), .ref (aK 0), .ref fl, .int 0, .int 0, .int 0, .int 0, .int 0, .int 0, .int 0, .null]))]) [0] (by decide) rfl
    have hKc := hK.sub (tys' := [(cI, .int)]) [0] rfl
    have hFc := va_free (wc := [(xm, .inr (20, [.int 0, .int 0, .ref kn, .int 0, .int 0, .int 0, .ref ml, .ref cl, .ref rg, .ref tR, .ref (aK 0), .ref (aK 0), .ref fl, .int 0, .int 0, .int 0, .int 0, .int 0, .int 0, .int 0, .null]))]) hD hS hA [0] rfl
    refine va_calli (va_runV (As := [.int s1, .int s2, .int ch3]) (rest := []) ⟨hx, hb, hml, hown, hts⟩ (c_X15_listed l dC dI xm ml cl fl kn rg tR e0 aK aV cI s1 s2 ch3 H.size) (cwV 3 hts gL_law_X15_listed rfl rfl rfl (by decide +kernel) ⟨Nat.le_of_ble_eq_true rfl, Nat.le_of_ble_eq_true rfl⟩) (pcVz (zM_ok e0 aK aV) hPc hDc hKc hN hZ.2 hS hFc (ci := 20) (q0 := 0) rfl rfl) rfl rfl hl.1 rfl (lv_room (Nat.le_of_ble_eq_true rfl)) dL_law_1491 ⟨Nat.le_of_ble_eq_true rfl, Nat.le_of_ble_eq_true rfl⟩) hS (fun q _ h => hFc q h) hFc (fun r_27 u t H1 locs ht hvm hw_28 hB hz1 hk1 hS => ?_)
    obtain ⟨hP1, hK1, hD1⟩ := hB
    rw [ht] at hP1
    try dsimp only at hw_28
    obtain ⟨hP, hD⟩ := va_join (wr := [(ou, .inl (cL, 1, .inr (.inl of_5)))]) (w1 := [(xm, .inr (20, u))]) hP hD [0] [1] rfl rfl (by decide) (by decide) hk1 hFc hP1 hD1
    generalize H1 = H at hP hS ⊢
    have hP : va_P (dC, dI) vwCl [(ou, .inl (cL, 1, .inr (.inl of_5))), (xm, .inr (20, u))] H := hP
    have hD : va_D A [(ou, .inl (cL, 1, .inr (.inl of_5))), (xm, .inr (20, u))] := hD
    refine W.widen (k := 14542) (n := 5865438) (Nat.le_of_ble_eq_true rfl) (Nat.le_of_ble_eq_true rfl) ?_
    obtain ⟨fs_26, efs_26⟩ : ∃ z, z = u := ⟨_, rfl⟩
    subst efs_26
    have hP : va_P (dC, dI) vwCl [(ou, .inl (cL, 1, .inr (.inl of_5))), (xm, .inr (20, fs_26))] H := hP
    have hD : va_D A [(ou, .inl (cL, 1, .inr (.inl of_5))), (xm, .inr (20, fs_26))] := hD
    have ht9 := hw_28.elim (fun h => absurd h.1 hPP) (fun h => h.2)
    refine lv_istore (lv' := [(7, .int r_27), (6, .int 1), (0, .ref b), (1, .ref ya), (2, .ref xm), (3, .ref ou), (4, .ref od), (5, .int 0)]) hx hb dL_law_1494 hl (by decide) rfl (fun ls hl => ?_)
    refine lv_aload_n hx hb dL_law_1496 rfl (lv_at hl 4 rfl) ?_
    have hPc := hP.sub (ws' := [(xm, .inr (20, fs_26))]) [1] rfl
    have hDc := hD.sub (ws' := [(xm, .inr (20, fs_26))]) [1] (by decide) rfl
    have hKc := hK.sub (tys' := []) [] rfl
    have hFc := va_free (wc := [(xm, .inr (20, fs_26))]) hD hS hA [1] rfl
    refine va_calli (va_runV (As := []) (rest := []) ⟨hx, hb, hml, hown, hts⟩ (c_X15_thrown l dC dI xm fs_26 1 ht9 H.size) (cwV 0 hts gL_law_X15_thrown rfl rfl rfl (by decide +kernel) ⟨Nat.le_of_ble_eq_true rfl, Nat.le_of_ble_eq_true rfl⟩) (pcV hPc hDc hKc hN (ci := 20) (q0 := 0) rfl rfl) rfl rfl hl.1 rfl (lv_room (Nat.le_of_ble_eq_true rfl)) dL_law_1497 ⟨Nat.le_of_ble_eq_true rfl, Nat.le_of_ble_eq_true rfl⟩) hS (fun q _ h => hFc q h) hFc (fun r_29 u t H1 locs ht hvm hw_30 hB hz1 hk1 hS => ?_)
    obtain ⟨hP1, hK1, hD1⟩ := hB
    rw [ht] at hP1
    try dsimp only at hw_30
    obtain ⟨hP, hD⟩ := va_join (wr := [(ou, .inl (cL, 1, .inr (.inl of_5)))]) (w1 := []) hP hD [1] [0] rfl rfl (by decide) (by decide) hk1 hFc hP1 hD1
    generalize H1 = H at hP hS ⊢
    have hP : va_P (dC, dI) vwCl [(ou, .inl (cL, 1, .inr (.inl of_5)))] H := hP
    have hD : va_D A [(ou, .inl (cL, 1, .inr (.inl of_5)))] := hD
    obtain rfl : r_29 = 1 := hw_30
    refine lv_iload hx hb dL_law_1500 (lv_at hl 1 rfl) ?_
    refine lv_icmp_eq (tgt := 1507) hx hb dL_law_1502 (by decide) (fun c1502_31 => ?_) (fun c1502_31 => ?_)
    · refine lv_iload hx hb dL_law_1507 (lv_at hl 1 rfl) ?_
      refine lv_if_ne (tgt := 1524) hx hb dL_law_1509 (by decide) (fun c1509_32 => ?_) (fun c1509_32 => ?_)
      · refine lv_goto (tgt := 2778) hx hb dL_law_1524 (by decide) ?_
        refine W.widen (k := 600006) (n := 7302039) (Nat.le_of_ble_eq_true rfl) (Nat.le_of_ble_eq_true rfl) ?_
        exact law_end hx hb hr hml hX hbl hlocks hbA hAo hS (lv_sub hl [2, 7] rfl)
      · exact absurd c1509_32 (by decide)
    · exact (c1502_31 (by decide)).elim

set_option maxHeartbeats 8000000 in
set_option maxRecDepth 100000 in
/-- the law: law_18_champion -/
theorem law_18_champion {p : Program} {e : Env} {s : State} {m : MethodId} {below : List Frame} {meth : Method} {c : Code} {l : Launch} {b : Nat} {xs : Nat → Int32} (hx : p.tables.exec = Jvm.exec) (hb : c.code = cL_law) (hr : meth.sig.returnType = ret) (hml : c.maxLocals = 9) (hfl : l.stackTraces = false) (hown : s.vm.findClass RL = some m.cls) (hts : ∀ w ∈ wsL_law, w.before #[Value.ref b] s = true) (hX : va_X b 7 xs s s.heap) (hbl : b < s.heap.size) (hlocks : meth.locks = false) {A : Nat → Prop} (hbA : ¬ A b) (hAo : ∀ q, A q → s.heap.size ≤ q) (hA : ∀ q : Nat, s.heap.size ≤ q → A q) (dC : Nat → ClassId) (dI : Nat → Nat → Nat) (hN : nwA s) (e0 : Nat) (aK aV : Nat → Nat) (hZ : zX A s s.heap ∧ zM e0 aK aV A s s.heap) (ya ms ju rj tj ro rn tn rh th ca sa da xa wb z1 z2 jt z3 br z4 z5 z6 lk z7 z8 li bm l2 z9 bo h2 mm l1 z10 oo h1 ct cr cu cg cp co tg ts tr tk te fw fo fu xm ml cl fl rg tR ou od kn : Nat) (cI cM cS cL cD cB : ClassId) {H : Heap} {locs : List Loc} (hP : va_P (dC, dI) vwCl [(ya, .inr (16, [.ref ms, .int 0, .ref ju, .ref li, .ref ct, .ref tg, .ref fw])), (ms, .inl (cM, 16, .inr (.inr (.inr (.inr (fun _ => none)))))), (li, .inr (8, [.ref bm, .int 0, .int 0, .int 0, .int 0, .int 0, .int 0, .int 0, .ref mm])), (bm, .inr (10, [.int 0, .int 2, .int 2, .ref l2, .int 0, .int 0, .int 63, .int 0, .int 0, .ref bo, .ref h2])), (bo, .inl (cI, 24, .inl (fun _ => 0))), (mm, .inr (10, [.int 0, .int 2, .int 2, .ref l1, .int 0, .int 0, .int 63, .int 0, .int 0, .ref oo, .ref h1])), (oo, .inl (cI, 24, .inl (fun _ => 0))), (ju, .inr (7, [.ref rj, .ref ro, .ref wb, .ref jt, .ref br, .ref lk])), (rj, .inr (12, [.int 0, .int 0, .int 0, .int 0, .int 0, .int 0, .ref tj])), (tj, .inl (cI, 1001, .inl (fun _ => 0))), (ro, .inr (11, [.int 0, .int 0, .ref rn, .ref rh, .int 0, .ref ca, .ref sa, .ref da, .ref xa])), (rn, .inr (12, [.int 0, .int 0, .int 0, .int 0, .int 0, .int 0, .ref tn])), (tn, .inl (cI, 1001, .inl (fun _ => 0))), (rh, .inr (12, [.int 0, .int 0, .int 0, .int 0, .int 0, .int 0, .ref th])), (th, .inl (cI, 1001, .inl (fun _ => 0))), (ca, .inl (cI, 501, .inl (fun _ => 0))), (sa, .inl (cI, 501, .inl (fun _ => 0))), (da, .inl (cI, 501, .inl (fun _ => 0))), (xa, .inl (cI, 501, .inl (fun _ => 0))), (ou, .inl (cL, 1, .inr (.inl (fun _ => 0)))), (xm, .inr (20, [.int 0, .int 0, .ref kn, .int 0, .int 0, .int 0, .ref ml, .ref cl, .ref rg, .ref tR, .ref (aK 0), .ref (aK 0), .ref fl, .int 0, .int 0, .int 0, .int 0, .int 0, .int 0, .int 0, .null])), (ml, .inr (4, [.int 0, .ref e0, .int 0]))] H) (hD : va_D A [(ya, .inr (16, [.ref ms, .int 0, .ref ju, .ref li, .ref ct, .ref tg, .ref fw])), (ms, .inl (cM, 16, .inr (.inr (.inr (.inr (fun _ => none)))))), (li, .inr (8, [.ref bm, .int 0, .int 0, .int 0, .int 0, .int 0, .int 0, .int 0, .ref mm])), (bm, .inr (10, [.int 0, .int 2, .int 2, .ref l2, .int 0, .int 0, .int 63, .int 0, .int 0, .ref bo, .ref h2])), (bo, .inl (cI, 24, .inl (fun _ => 0))), (mm, .inr (10, [.int 0, .int 2, .int 2, .ref l1, .int 0, .int 0, .int 63, .int 0, .int 0, .ref oo, .ref h1])), (oo, .inl (cI, 24, .inl (fun _ => 0))), (ju, .inr (7, [.ref rj, .ref ro, .ref wb, .ref jt, .ref br, .ref lk])), (rj, .inr (12, [.int 0, .int 0, .int 0, .int 0, .int 0, .int 0, .ref tj])), (tj, .inl (cI, 1001, .inl (fun _ => 0))), (ro, .inr (11, [.int 0, .int 0, .ref rn, .ref rh, .int 0, .ref ca, .ref sa, .ref da, .ref xa])), (rn, .inr (12, [.int 0, .int 0, .int 0, .int 0, .int 0, .int 0, .ref tn])), (tn, .inl (cI, 1001, .inl (fun _ => 0))), (rh, .inr (12, [.int 0, .int 0, .int 0, .int 0, .int 0, .int 0, .ref th])), (th, .inl (cI, 1001, .inl (fun _ => 0))), (ca, .inl (cI, 501, .inl (fun _ => 0))), (sa, .inl (cI, 501, .inl (fun _ => 0))), (da, .inl (cI, 501, .inl (fun _ => 0))), (xa, .inl (cI, 501, .inl (fun _ => 0))), (ou, .inl (cL, 1, .inr (.inl (fun _ => 0)))), (xm, .inr (20, [.int 0, .int 0, .ref kn, .int 0, .int 0, .int 0, .ref ml, .ref cl, .ref rg, .ref tR, .ref (aK 0), .ref (aK 0), .ref fl, .int 0, .int 0, .int 0, .int 0, .int 0, .int 0, .int 0, .null])), (ml, .inr (4, [.int 0, .ref e0, .int 0]))]) (hK : va_K (dC, dI) vwCl [(cI, .int), (cM, .object "Beaverhall$Machine"), (cL, .long)] s) (hS : va_S A s.heap H locs) {ls : Array Slot} (hl : lv_has ls 9 [(0, .ref b), (1, .ref ya), (2, .ref xm), (3, .ref ou), (4, .ref od), (5, .int 0)]) : W p l e room_1 s m #[Value.ref b] below meth c H locs 200 60000 (lw_Z below #[Value.ref b] s) (F0 m 1527 ls []) := by
  obtain ⟨s1, hs1⟩ : ∃ z, z = xs ((0 : Int32) + 1).toNatClampNeg := ⟨_, rfl⟩
  obtain ⟨s2, hs2⟩ : ∃ z, z = xs ((0 : Int32) + 2).toNatClampNeg := ⟨_, rfl⟩
  obtain ⟨s3, hs3⟩ : ∃ z, z = xs ((0 : Int32) + 3).toNatClampNeg := ⟨_, rfl⟩
  obtain ⟨s4, hs4⟩ : ∃ z, z = xs ((0 : Int32) + 4).toNatClampNeg := ⟨_, rfl⟩
  obtain ⟨s5, hs5⟩ : ∃ z, z = xs ((0 : Int32) + 5).toNatClampNeg := ⟨_, rfl⟩
  obtain ⟨s6, hs6⟩ : ∃ z, z = xs ((0 : Int32) + 6).toNatClampNeg := ⟨_, rfl⟩
  obtain ⟨ch1, hch1⟩ : ∃ z, z = (s1.toUInt32 % 65536).toInt32 := ⟨_, rfl⟩
  obtain ⟨ch2, hch2⟩ : ∃ z, z = (s2.toUInt32 % 65536).toInt32 := ⟨_, rfl⟩
  obtain ⟨ch3, hch3⟩ : ∃ z, z = (s3.toUInt32 % 65536).toInt32 := ⟨_, rfl⟩
  obtain ⟨ch4, hch4⟩ : ∃ z, z = (s4.toUInt32 % 65536).toInt32 := ⟨_, rfl⟩
  obtain ⟨ch5, hch5⟩ : ∃ z, z = (s5.toUInt32 % 65536).toInt32 := ⟨_, rfl⟩
  obtain ⟨ch6, hch6⟩ : ∃ z, z = (s6.toUInt32 % 65536).toInt32 := ⟨_, rfl⟩
  refine lv_aload_n hx hb dL_law_1527 rfl (lv_at hl 1 rfl) ?_
  refine lv_aload_n hx hb dL_law_1528 rfl (lv_at hl 0 rfl) ?_
  refine lv_iload hx hb dL_law_1529 (lv_at hl 5 rfl) ?_
  refine lv_iconst (v := 1) hx hb dL_law_1531 (by decide) ?_
  refine lv_iadd hx hb dL_law_1532 ?_
  refine va_sld hx hb hX hbl hbA hS sx1 dL_law_1533 ?_
  refine lv_topi (fun x_1 ex_1 => ?_)
  obtain rfl : s1 = x_1 := (show x_1 = s1 from ex_1.trans hs1.symm).symm
  refine lv_aload_n hx hb dL_law_1534 rfl (lv_at hl 0 rfl) ?_
  refine lv_iload hx hb dL_law_1535 (lv_at hl 5 rfl) ?_
  refine lv_iconst (v := 2) hx hb dL_law_1537 (by decide) ?_
  refine lv_iadd hx hb dL_law_1538 ?_
  refine va_sld hx hb hX hbl hbA hS sx2 dL_law_1539 ?_
  refine lv_topi (fun x_2 ex_2 => ?_)
  obtain rfl : s2 = x_2 := (show x_2 = s2 from ex_2.trans hs2.symm).symm
  refine lv_aload_n hx hb dL_law_1540 rfl (lv_at hl 3 rfl) ?_
  have hPc := hP.sub (ws' := [(ya, .inr (16, [.ref ms, .int 0, .ref ju, .ref li, .ref ct, .ref tg, .ref fw])), (ms, .inl (cM, 16, .inr (.inr (.inr (.inr (fun _ => none)))))), (li, .inr (8, [.ref bm, .int 0, .int 0, .int 0, .int 0, .int 0, .int 0, .int 0, .ref mm])), (bm, .inr (10, [.int 0, .int 2, .int 2, .ref l2, .int 0, .int 0, .int 63, .int 0, .int 0, .ref bo, .ref h2])), (bo, .inl (cI, 24, .inl (fun _ => 0))), (mm, .inr (10, [.int 0, .int 2, .int 2, .ref l1, .int 0, .int 0, .int 63, .int 0, .int 0, .ref oo, .ref h1])), (oo, .inl (cI, 24, .inl (fun _ => 0))), (ju, .inr (7, [.ref rj, .ref ro, .ref wb, .ref jt, .ref br, .ref lk])), (rj, .inr (12, [.int 0, .int 0, .int 0, .int 0, .int 0, .int 0, .ref tj])), (tj, .inl (cI, 1001, .inl (fun _ => 0))), (ro, .inr (11, [.int 0, .int 0, .ref rn, .ref rh, .int 0, .ref ca, .ref sa, .ref da, .ref xa])), (rn, .inr (12, [.int 0, .int 0, .int 0, .int 0, .int 0, .int 0, .ref tn])), (tn, .inl (cI, 1001, .inl (fun _ => 0))), (rh, .inr (12, [.int 0, .int 0, .int 0, .int 0, .int 0, .int 0, .ref th])), (th, .inl (cI, 1001, .inl (fun _ => 0))), (ca, .inl (cI, 501, .inl (fun _ => 0))), (sa, .inl (cI, 501, .inl (fun _ => 0))), (da, .inl (cI, 501, .inl (fun _ => 0))), (xa, .inl (cI, 501, .inl (fun _ => 0))), (ou, .inl (cL, 1, .inr (.inl (fun _ => 0))))]) [0, 1, 2, 3, 4, 5, 6, 7, 8, 9, 10, 11, 12, 13, 14, 15, 16, 17, 18, 19] rfl
  have hDc := hD.sub (ws' := [(ya, .inr (16, [.ref ms, .int 0, .ref ju, .ref li, .ref ct, .ref tg, .ref fw])), (ms, .inl (cM, 16, .inr (.inr (.inr (.inr (fun _ => none)))))), (li, .inr (8, [.ref bm, .int 0, .int 0, .int 0, .int 0, .int 0, .int 0, .int 0, .ref mm])), (bm, .inr (10, [.int 0, .int 2, .int 2, .ref l2, .int 0, .int 0, .int 63, .int 0, .int 0, .ref bo, .ref h2])), (bo, .inl (cI, 24, .inl (fun _ => 0))), (mm, .inr (10, [.int 0, .int 2, .int 2, .ref l1, .int 0, .int 0, .int 63, .int 0, .int 0, .ref oo, .ref h1])), (oo, .inl (cI, 24, .inl (fun _ => 0))), (ju, .inr (7, [.ref rj, .ref ro, .ref wb, .ref jt, .ref br, .ref lk])), (rj, .inr (12, [.int 0, .int 0, .int 0, .int 0, .int 0, .int 0, .ref tj])), (tj, .inl (cI, 1001, .inl (fun _ => 0))), (ro, .inr (11, [.int 0, .int 0, .ref rn, .ref rh, .int 0, .ref ca, .ref sa, .ref da, .ref xa])), (rn, .inr (12, [.int 0, .int 0, .int 0, .int 0, .int 0, .int 0, .ref tn])), (tn, .inl (cI, 1001, .inl (fun _ => 0))), (rh, .inr (12, [.int 0, .int 0, .int 0, .int 0, .int 0, .int 0, .ref th])), (th, .inl (cI, 1001, .inl (fun _ => 0))), (ca, .inl (cI, 501, .inl (fun _ => 0))), (sa, .inl (cI, 501, .inl (fun _ => 0))), (da, .inl (cI, 501, .inl (fun _ => 0))), (xa, .inl (cI, 501, .inl (fun _ => 0))), (ou, .inl (cL, 1, .inr (.inl (fun _ => 0))))]) [0, 1, 2, 3, 4, 5, 6, 7, 8, 9, 10, 11, 12, 13, 14, 15, 16, 17, 18, 19] (by decide) rfl
  have hKc := hK.sub (tys' := [(cI, .int), (cM, .object "Beaverhall$Machine"), (cL, .long)]) [0, 1, 2] rfl
  have hFc := va_free (wc := [(ya, .inr (16, [.ref ms, .int 0, .ref ju, .ref li, .ref ct, .ref tg, .ref fw])), (ms, .inl (cM, 16, .inr (.inr (.inr (.inr (fun _ => none)))))), (li, .inr (8, [.ref bm, .int 0, .int 0, .int 0, .int 0, .int 0, .int 0, .int 0, .ref mm])), (bm, .inr (10, [.int 0, .int 2, .int 2, .ref l2, .int 0, .int 0, .int 63, .int 0, .int 0, .ref bo, .ref h2])), (bo, .inl (cI, 24, .inl (fun _ => 0))), (mm, .inr (10, [.int 0, .int 2, .int 2, .ref l1, .int 0, .int 0, .int 63, .int 0, .int 0, .ref oo, .ref h1])), (oo, .inl (cI, 24, .inl (fun _ => 0))), (ju, .inr (7, [.ref rj, .ref ro, .ref wb, .ref jt, .ref br, .ref lk])), (rj, .inr (12, [.int 0, .int 0, .int 0, .int 0, .int 0, .int 0, .ref tj])), (tj, .inl (cI, 1001, .inl (fun _ => 0))), (ro, .inr (11, [.int 0, .int 0, .ref rn, .ref rh, .int 0, .ref ca, .ref sa, .ref da, .ref xa])), (rn, .inr (12, [.int 0, .int 0, .int 0, .int 0, .int 0, .int 0, .ref tn])), (tn, .inl (cI, 1001, .inl (fun _ => 0))), (rh, .inr (12, [.int 0, .int 0, .int 0, .int 0, .int 0, .int 0, .ref th])), (th, .inl (cI, 1001, .inl (fun _ => 0))), (ca, .inl (cI, 501, .inl (fun _ => 0))), (sa, .inl (cI, 501, .inl (fun _ => 0))), (da, .inl (cI, 501, .inl (fun _ => 0))), (xa, .inl (cI, 501, .inl (fun _ => 0))), (ou, .inl (cL, 1, .inr (.inl (fun _ => 0))))]) hD hS hA [0, 1, 2, 3, 4, 5, 6, 7, 8, 9, 10, 11, 12, 13, 14, 15, 16, 17, 18, 19] rfl
  refine vx_calli (vx_runSX (As := [.ref ya, .int s1, .int s2, .ref ou]) (rest := []) ⟨hx, hb, hml, hown, hts⟩ (c_L_champion l hfl dC dI cM cI ya ms ct tg fw li ju bm bo l2 h2 mm oo l1 h1 rj tj ro rn rh ca sa da xa tn th wb jt br lk 0 63 0 0 0 63 0 0 ((0, 0, 0, 0, 0, 0, fun _ => 0), 0, 0, 0, (0, 0, 0, 0, 0, 0, fun _ => 0), (0, 0, 0, 0, 0, 0, fun _ => 0), (fun _ => 0), (fun _ => 0), (fun _ => 0), (fun _ => 0), 0, fun _ => 0) s1 s2 cL ou (fun _ => 0) H.size) (vx_cwSW 4 hts gL_law_L_champion rfl rfl rfl (by decide +kernel) ⟨Nat.le_of_ble_eq_true rfl, Nat.le_of_ble_eq_true rfl⟩) (pcSz (zX_ok) hPc hDc hKc hN hZ.1 hS hFc) rfl rfl hl.1 rfl (lv_room (Nat.le_of_ble_eq_true rfl)) dL_law_1541 ⟨Nat.le_of_ble_eq_true rfl, Nat.le_of_ble_eq_true rfl⟩) hS (fun q _ h => hFc q h) hFc (fun q _ h => hFc q h) (fun E9 ce9 q9 u9 t9 H9 locs9 ht9 hvm9 hp9 hE9 hz9 hk9 hS9 hc9 hv9 hcl9 => hE9.elim) (fun r_4 u t H1 locs ht hvm hw_5 hB hz1 hk1 hS => ?_)
  obtain ⟨hP1, hK1, hD1⟩ := hB
  rw [ht] at hP1
  try dsimp only at hw_5
  obtain ⟨hP, hD⟩ := va_join (wr := [(xm, .inr (20, [.int 0, .int 0, .ref kn, .int 0, .int 0, .int 0, .ref ml, .ref cl, .ref rg, .ref tR, .ref (aK 0), .ref (aK 0), .ref fl, .int 0, .int 0, .int 0, .int 0, .int 0, .int 0, .int 0, .null])), (ml, .inr (4, [.int 0, .ref e0, .int 0]))]) (w1 := [(ou, .inl (cL, 1, .inr (.inl u)))]) hP hD [0, 1, 2, 3, 4, 5, 6, 7, 8, 9, 10, 11, 12, 13, 14, 15, 16, 17, 18, 19] [20, 21] rfl rfl (by decide) (by decide) hk1 hFc hP1 hD1
  generalize H1 = H at hP hS ⊢
  have hP : va_P (dC, dI) vwCl [(xm, .inr (20, [.int 0, .int 0, .ref kn, .int 0, .int 0, .int 0, .ref ml, .ref cl, .ref rg, .ref tR, .ref (aK 0), .ref (aK 0), .ref fl, .int 0, .int 0, .int 0, .int 0, .int 0, .int 0, .int 0, .null])), (ml, .inr (4, [.int 0, .ref e0, .int 0])), (ou, .inl (cL, 1, .inr (.inl u)))] H := hP
  have hD : va_D A [(xm, .inr (20, [.int 0, .int 0, .ref kn, .int 0, .int 0, .int 0, .ref ml, .ref cl, .ref rg, .ref tR, .ref (aK 0), .ref (aK 0), .ref fl, .int 0, .int 0, .int 0, .int 0, .int 0, .int 0, .int 0, .null])), (ml, .inr (4, [.int 0, .ref e0, .int 0])), (ou, .inl (cL, 1, .inr (.inl u)))] := hD
  refine W.widen (k := 206) (n := 61053) (Nat.le_of_ble_eq_true rfl) (Nat.le_of_ble_eq_true rfl) ?_
  obtain ⟨of_3, eof_3⟩ : ∃ z, z = u := ⟨_, rfl⟩
  subst eof_3
  have hP : va_P (dC, dI) vwCl [(xm, .inr (20, [.int 0, .int 0, .ref kn, .int 0, .int 0, .int 0, .ref ml, .ref cl, .ref rg, .ref tR, .ref (aK 0), .ref (aK 0), .ref fl, .int 0, .int 0, .int 0, .int 0, .int 0, .int 0, .int 0, .null])), (ml, .inr (4, [.int 0, .ref e0, .int 0])), (ou, .inl (cL, 1, .inr (.inl of_3)))] H := hP
  have hD : va_D A [(xm, .inr (20, [.int 0, .int 0, .ref kn, .int 0, .int 0, .int 0, .ref ml, .ref cl, .ref rg, .ref tR, .ref (aK 0), .ref (aK 0), .ref fl, .int 0, .int 0, .int 0, .int 0, .int 0, .int 0, .int 0, .null])), (ml, .inr (4, [.int 0, .ref e0, .int 0])), (ou, .inl (cL, 1, .inr (.inl of_3)))] := hD
  rcases hw_5 with ⟨hr0, hPP, hv0⟩ | ⟨hr0, hPP⟩
  · obtain rfl : r_4 = 0 := hr0
    refine lv_istore (lv' := [(6, .int 0), (0, .ref b), (1, .ref ya), (2, .ref xm), (3, .ref ou), (4, .ref od), (5, .int 0)]) hx hb dL_law_1544 hl (by decide) rfl (fun ls hl => ?_)
    refine lv_aload_n hx hb dL_law_1546 rfl (lv_at hl 3 rfl) ?_
    refine lv_aload_n hx hb dL_law_1547 rfl (lv_at hl 1 rfl) ?_
    refine lv_iload hx hb dL_law_1548 (lv_at hl 6 rfl) ?_
    refine lv_iconst (v := 1) hx hb dL_law_1550 (by decide) ?_
    refine lv_iadd hx hb dL_law_1551 ?_
    refine va_sld hx hb hX hbl hbA hS sx1 dL_law_1552 ?_
    refine lv_topi (fun x_6 ex_6 => ?_)
    obtain rfl : s1 = x_6 := (show x_6 = s1 from ex_6.trans hs1.symm).symm
    refine lv_aload_n hx hb dL_law_1553 rfl (lv_at hl 1 rfl) ?_
    refine lv_iload hx hb dL_law_1554 (lv_at hl 6 rfl) ?_
    refine lv_iconst (v := 2) hx hb dL_law_1556 (by decide) ?_
    refine lv_iadd hx hb dL_law_1557 ?_
    refine va_sld hx hb hX hbl hbA hS sx2 dL_law_1558 ?_
    refine lv_topi (fun x_7 ex_7 => ?_)
    obtain rfl : s2 = x_7 := (show x_7 = s2 from ex_7.trans hs2.symm).symm
    have hPc := hP.sub (ws' := [(xm, .inr (20, [.int 0, .int 0, .ref kn, .int 0, .int 0, .int 0, .ref ml, .ref cl, .ref rg, .ref tR, .ref (aK 0), .ref (aK 0), .ref fl, .int 0, .int 0, .int 0, .int 0, .int 0, .int 0, .int 0, .null])), (ml, .inr (4, [.int 0, .ref e0, .int 0]))]) [0, 1] rfl
    have hDc := hD.sub (ws' := [(xm, .inr (20, [.int 0, .int 0, .ref kn, .int 0, .int 0, .int 0, .ref ml, .ref cl, .ref rg, .ref tR, .ref (aK 0), .ref (aK 0), .ref fl, .int 0, .int 0, .int 0, .int 0, .int 0, .int 0, .int 0, .null])), (ml, .inr (4, [.int 0, .ref e0, .int 0]))]) [0, 1] (by decide) rfl
    have hKc := hK.sub (tys' := [(cI, .int)]) [0] rfl
    have hFc := va_free (wc := [(xm, .inr (20, [.int 0, .int 0, .ref kn, .int 0, .int 0, .int 0, .ref ml, .ref cl, .ref rg, .ref tR, .ref (aK 0), .ref (aK 0), .ref fl, .int 0, .int 0, .int 0, .int 0, .int 0, .int 0, .int 0, .null])), (ml, .inr (4, [.int 0, .ref e0, .int 0]))]) hD hS hA [0, 1] rfl
    refine va_calli (va_runV (As := [.int s1, .int s2]) (rest := []) ⟨hx, hb, hml, hown, hts⟩ (c_X15_champion l dC dI xm ml cl fl kn rg tR e0 aK aV cI s1 s2 H.size) (cwV 2 hts gL_law_X15_champion rfl rfl rfl (by decide +kernel) ⟨Nat.le_of_ble_eq_true rfl, Nat.le_of_ble_eq_true rfl⟩) (pcVz (zM_ok e0 aK aV) hPc hDc hKc hN hZ.2 hS hFc (ci := 20) (q0 := 0) rfl rfl) rfl rfl hl.1 rfl (lv_room (Nat.le_of_ble_eq_true rfl)) dL_law_1559 ⟨Nat.le_of_ble_eq_true rfl, Nat.le_of_ble_eq_true rfl⟩) hS (fun q _ h => hFc q h) hFc (fun r_9 u t H1 locs ht hvm hw_10 hB hz1 hk1 hS => ?_)
    obtain ⟨hP1, hK1, hD1⟩ := hB
    rw [ht] at hP1
    try dsimp only at hw_10
    obtain ⟨hP, hD⟩ := va_join (wr := [(ou, .inl (cL, 1, .inr (.inl of_3)))]) (w1 := [(xm, .inr (20, u))]) hP hD [0, 1] [2] rfl rfl (by decide) (by decide) hk1 hFc hP1 hD1
    generalize H1 = H at hP hS ⊢
    have hP : va_P (dC, dI) vwCl [(ou, .inl (cL, 1, .inr (.inl of_3))), (xm, .inr (20, u))] H := hP
    have hD : va_D A [(ou, .inl (cL, 1, .inr (.inl of_3))), (xm, .inr (20, u))] := hD
    refine W.widen (k := 14547) (n := 5866489) (Nat.le_of_ble_eq_true rfl) (Nat.le_of_ble_eq_true rfl) ?_
    obtain ⟨fs_8, efs_8⟩ : ∃ z, z = u := ⟨_, rfl⟩
    subst efs_8
    have hP : va_P (dC, dI) vwCl [(ou, .inl (cL, 1, .inr (.inl of_3))), (xm, .inr (20, fs_8))] H := hP
    have hD : va_D A [(ou, .inl (cL, 1, .inr (.inl of_3))), (xm, .inr (20, fs_8))] := hD
    obtain ⟨ht9, hrv⟩ := hw_10.elim (fun h => h.2) (fun h => absurd hPP h.1)
    obtain rfl : r_9 = 0 := hrv
    refine lv_istore (lv' := [(7, .int 0), (6, .int 0), (0, .ref b), (1, .ref ya), (2, .ref xm), (3, .ref ou), (4, .ref od), (5, .int 0)]) hx hb dL_law_1562 hl (by decide) rfl (fun ls hl => ?_)
    refine lv_aload_n hx hb dL_law_1564 rfl (lv_at hl 4 rfl) ?_
    have hPc := hP.sub (ws' := [(xm, .inr (20, fs_8))]) [1] rfl
    have hDc := hD.sub (ws' := [(xm, .inr (20, fs_8))]) [1] (by decide) rfl
    have hKc := hK.sub (tys' := []) [] rfl
    have hFc := va_free (wc := [(xm, .inr (20, fs_8))]) hD hS hA [1] rfl
    refine va_calli (va_runV (As := []) (rest := []) ⟨hx, hb, hml, hown, hts⟩ (c_X15_thrown l dC dI xm fs_8 0 ht9 H.size) (cwV 0 hts gL_law_X15_thrown rfl rfl rfl (by decide +kernel) ⟨Nat.le_of_ble_eq_true rfl, Nat.le_of_ble_eq_true rfl⟩) (pcV hPc hDc hKc hN (ci := 20) (q0 := 0) rfl rfl) rfl rfl hl.1 rfl (lv_room (Nat.le_of_ble_eq_true rfl)) dL_law_1565 ⟨Nat.le_of_ble_eq_true rfl, Nat.le_of_ble_eq_true rfl⟩) hS (fun q _ h => hFc q h) hFc (fun r_11 u t H1 locs ht hvm hw_12 hB hz1 hk1 hS => ?_)
    obtain ⟨hP1, hK1, hD1⟩ := hB
    rw [ht] at hP1
    try dsimp only at hw_12
    obtain ⟨hP, hD⟩ := va_join (wr := [(ou, .inl (cL, 1, .inr (.inl of_3)))]) (w1 := []) hP hD [1] [0] rfl rfl (by decide) (by decide) hk1 hFc hP1 hD1
    generalize H1 = H at hP hS ⊢
    have hP : va_P (dC, dI) vwCl [(ou, .inl (cL, 1, .inr (.inl of_3)))] H := hP
    have hD : va_D A [(ou, .inl (cL, 1, .inr (.inl of_3)))] := hD
    obtain rfl : r_11 = 0 := hw_12
    refine lv_iload hx hb dL_law_1568 (lv_at hl 1 rfl) ?_
    refine lv_icmp_eq (tgt := 1575) hx hb dL_law_1570 (by decide) (fun c1570_13 => ?_) (fun c1570_13 => ?_)
    · refine lv_iload hx hb dL_law_1575 (lv_at hl 1 rfl) ?_
      refine lv_if_ne (tgt := 1592) hx hb dL_law_1577 (by decide) (fun c1577_14 => ?_) (fun c1577_14 => ?_)
      · exact (c1577_14 (by decide)).elim
      · refine lv_aload_n hx hb dL_law_1580 rfl (lv_at hl 5 rfl) ?_
        refine lv_iconst (v := 0) hx hb dL_law_1581 (by decide) ?_
        refine va_lald hx hb hK hP 0 2 rfl rfl (show vp_in (nI 0) 1 from vp_in_nI (by decide) (by decide)) dL_law_1582 ?_
        refine lv_topl (fun z_15 ez_15 => ?_)
        obtain rfl : z_15 = (0 : Int32).toInt64 := by rw [ez_15, show (0 : Int32).toNatClampNeg = 0 from by decide]; exact hv0
        refine lv_iload hx hb dL_law_1583 (lv_at hl 0 rfl) ?_
        refine lv_i2l hx hb dL_law_1585 rfl ?_
        refine W.lcmp hx hb dL_law_1586 ?_
        refine lv_if_eq (tgt := 1592) hx hb dL_law_1587 (by decide) (fun c1587_16 => ?_) (fun c1587_16 => ?_)
        · refine lv_goto (tgt := 2778) hx hb dL_law_1592 (by decide) ?_
          refine W.widen (k := 600006) (n := 7302039) (Nat.le_of_ble_eq_true rfl) (Nat.le_of_ble_eq_true rfl) ?_
          exact law_end hx hb hr hml hX hbl hlocks hbA hAo hS (lv_sub hl [2, 7] rfl)
        · exact absurd ((lg_cmp_eq _ _).mpr (by first | rfl | (subst_vars; rfl))) c1587_16
    · exact (c1570_13 (by decide)).elim
  · obtain rfl : r_4 = 1 := hr0
    refine lv_istore (lv' := [(6, .int 1), (0, .ref b), (1, .ref ya), (2, .ref xm), (3, .ref ou), (4, .ref od), (5, .int 0)]) hx hb dL_law_1544 hl (by decide) rfl (fun ls hl => ?_)
    refine lv_aload_n hx hb dL_law_1546 rfl (lv_at hl 3 rfl) ?_
    refine lv_aload_n hx hb dL_law_1547 rfl (lv_at hl 1 rfl) ?_
    refine lv_iload hx hb dL_law_1548 (lv_at hl 6 rfl) ?_
    refine lv_iconst (v := 1) hx hb dL_law_1550 (by decide) ?_
    refine lv_iadd hx hb dL_law_1551 ?_
    refine va_sld hx hb hX hbl hbA hS sx1 dL_law_1552 ?_
    refine lv_topi (fun x_17 ex_17 => ?_)
    obtain rfl : s1 = x_17 := (show x_17 = s1 from ex_17.trans hs1.symm).symm
    refine lv_aload_n hx hb dL_law_1553 rfl (lv_at hl 1 rfl) ?_
    refine lv_iload hx hb dL_law_1554 (lv_at hl 6 rfl) ?_
    refine lv_iconst (v := 2) hx hb dL_law_1556 (by decide) ?_
    refine lv_iadd hx hb dL_law_1557 ?_
    refine va_sld hx hb hX hbl hbA hS sx2 dL_law_1558 ?_
    refine lv_topi (fun x_18 ex_18 => ?_)
    obtain rfl : s2 = x_18 := (show x_18 = s2 from ex_18.trans hs2.symm).symm
    have hPc := hP.sub (ws' := [(xm, .inr (20, [.int 0, .int 0, .ref kn, .int 0, .int 0, .int 0, .ref ml, .ref cl, .ref rg, .ref tR, .ref (aK 0), .ref (aK 0), .ref fl, .int 0, .int 0, .int 0, .int 0, .int 0, .int 0, .int 0, .null])), (ml, .inr (4, [.int 0, .ref e0, .int 0]))]) [0, 1] rfl
    have hDc := hD.sub (ws' := [(xm, .inr (20, [.int 0, .int 0, .ref kn, .int 0, .int 0, .int 0, .ref ml, .ref cl, .ref rg, .ref tR, .ref (aK 0), .ref (aK 0), .ref fl, .int 0, .int 0, .int 0, .int 0, .int 0, .int 0, .int 0, .null])), (ml, .inr (4, [.int 0, .ref e0, .int 0]))]) [0, 1] (by decide) rfl
    have hKc := hK.sub (tys' := [(cI, .int)]) [0] rfl
    have hFc := va_free (wc := [(xm, .inr (20, [.int 0, .int 0, .ref kn, .int 0, .int 0, .int 0, .ref ml, .ref cl, .ref rg, .ref tR, .ref (aK 0), .ref (aK 0), .ref fl, .int 0, .int 0, .int 0, .int 0, .int 0, .int 0, .int 0, .null])), (ml, .inr (4, [.int 0, .ref e0, .int 0]))]) hD hS hA [0, 1] rfl
    refine va_calli (va_runV (As := [.int s1, .int s2]) (rest := []) ⟨hx, hb, hml, hown, hts⟩ (c_X15_champion l dC dI xm ml cl fl kn rg tR e0 aK aV cI s1 s2 H.size) (cwV 2 hts gL_law_X15_champion rfl rfl rfl (by decide +kernel) ⟨Nat.le_of_ble_eq_true rfl, Nat.le_of_ble_eq_true rfl⟩) (pcVz (zM_ok e0 aK aV) hPc hDc hKc hN hZ.2 hS hFc (ci := 20) (q0 := 0) rfl rfl) rfl rfl hl.1 rfl (lv_room (Nat.le_of_ble_eq_true rfl)) dL_law_1559 ⟨Nat.le_of_ble_eq_true rfl, Nat.le_of_ble_eq_true rfl⟩) hS (fun q _ h => hFc q h) hFc (fun r_20 u t H1 locs ht hvm hw_21 hB hz1 hk1 hS => ?_)
    obtain ⟨hP1, hK1, hD1⟩ := hB
    rw [ht] at hP1
    try dsimp only at hw_21
    obtain ⟨hP, hD⟩ := va_join (wr := [(ou, .inl (cL, 1, .inr (.inl of_3)))]) (w1 := [(xm, .inr (20, u))]) hP hD [0, 1] [2] rfl rfl (by decide) (by decide) hk1 hFc hP1 hD1
    generalize H1 = H at hP hS ⊢
    have hP : va_P (dC, dI) vwCl [(ou, .inl (cL, 1, .inr (.inl of_3))), (xm, .inr (20, u))] H := hP
    have hD : va_D A [(ou, .inl (cL, 1, .inr (.inl of_3))), (xm, .inr (20, u))] := hD
    refine W.widen (k := 14547) (n := 5866489) (Nat.le_of_ble_eq_true rfl) (Nat.le_of_ble_eq_true rfl) ?_
    obtain ⟨fs_19, efs_19⟩ : ∃ z, z = u := ⟨_, rfl⟩
    subst efs_19
    have hP : va_P (dC, dI) vwCl [(ou, .inl (cL, 1, .inr (.inl of_3))), (xm, .inr (20, fs_19))] H := hP
    have hD : va_D A [(ou, .inl (cL, 1, .inr (.inl of_3))), (xm, .inr (20, fs_19))] := hD
    have ht9 := hw_21.elim (fun h => absurd h.1 hPP) (fun h => h.2)
    refine lv_istore (lv' := [(7, .int r_20), (6, .int 1), (0, .ref b), (1, .ref ya), (2, .ref xm), (3, .ref ou), (4, .ref od), (5, .int 0)]) hx hb dL_law_1562 hl (by decide) rfl (fun ls hl => ?_)
    refine lv_aload_n hx hb dL_law_1564 rfl (lv_at hl 4 rfl) ?_
    have hPc := hP.sub (ws' := [(xm, .inr (20, fs_19))]) [1] rfl
    have hDc := hD.sub (ws' := [(xm, .inr (20, fs_19))]) [1] (by decide) rfl
    have hKc := hK.sub (tys' := []) [] rfl
    have hFc := va_free (wc := [(xm, .inr (20, fs_19))]) hD hS hA [1] rfl
    refine va_calli (va_runV (As := []) (rest := []) ⟨hx, hb, hml, hown, hts⟩ (c_X15_thrown l dC dI xm fs_19 1 ht9 H.size) (cwV 0 hts gL_law_X15_thrown rfl rfl rfl (by decide +kernel) ⟨Nat.le_of_ble_eq_true rfl, Nat.le_of_ble_eq_true rfl⟩) (pcV hPc hDc hKc hN (ci := 20) (q0 := 0) rfl rfl) rfl rfl hl.1 rfl (lv_room (Nat.le_of_ble_eq_true rfl)) dL_law_1565 ⟨Nat.le_of_ble_eq_true rfl, Nat.le_of_ble_eq_true rfl⟩) hS (fun q _ h => hFc q h) hFc (fun r_22 u t H1 locs ht hvm hw_23 hB hz1 hk1 hS => ?_)
    obtain ⟨hP1, hK1, hD1⟩ := hB
    rw [ht] at hP1
    try dsimp only at hw_23
    obtain ⟨hP, hD⟩ := va_join (wr := [(ou, .inl (cL, 1, .inr (.inl of_3)))]) (w1 := []) hP hD [1] [0] rfl rfl (by decide) (by decide) hk1 hFc hP1 hD1
    generalize H1 = H at hP hS ⊢
    have hP : va_P (dC, dI) vwCl [(ou, .inl (cL, 1, .inr (.inl of_3)))] H := hP
    have hD : va_D A [(ou, .inl (cL, 1, .inr (.inl of_3)))] := hD
    obtain rfl : r_22 = 1 := hw_23
    refine lv_iload hx hb dL_law_1568 (lv_at hl 1 rfl) ?_
    refine lv_icmp_eq (tgt := 1575) hx hb dL_law_1570 (by decide) (fun c1570_24 => ?_) (fun c1570_24 => ?_)
    · refine lv_iload hx hb dL_law_1575 (lv_at hl 1 rfl) ?_
      refine lv_if_ne (tgt := 1592) hx hb dL_law_1577 (by decide) (fun c1577_25 => ?_) (fun c1577_25 => ?_)
      · refine lv_goto (tgt := 2778) hx hb dL_law_1592 (by decide) ?_
        refine W.widen (k := 600006) (n := 7302039) (Nat.le_of_ble_eq_true rfl) (Nat.le_of_ble_eq_true rfl) ?_
        exact law_end hx hb hr hml hX hbl hlocks hbA hAo hS (lv_sub hl [2, 7] rfl)
      · exact absurd c1577_25 (by decide)
    · exact (c1570_24 (by decide)).elim

set_option maxHeartbeats 8000000 in
set_option maxRecDepth 100000 in
/-- the law: law_19_haltingShare -/
theorem law_19_haltingShare {p : Program} {e : Env} {s : State} {m : MethodId} {below : List Frame} {meth : Method} {c : Code} {l : Launch} {b : Nat} {xs : Nat → Int32} (hx : p.tables.exec = Jvm.exec) (hb : c.code = cL_law) (hr : meth.sig.returnType = ret) (hml : c.maxLocals = 9) (hfl : l.stackTraces = false) (hown : s.vm.findClass RL = some m.cls) (hts : ∀ w ∈ wsL_law, w.before #[Value.ref b] s = true) (hX : va_X b 7 xs s s.heap) (hbl : b < s.heap.size) (hlocks : meth.locks = false) {A : Nat → Prop} (hbA : ¬ A b) (hAo : ∀ q, A q → s.heap.size ≤ q) (hA : ∀ q : Nat, s.heap.size ≤ q → A q) (dC : Nat → ClassId) (dI : Nat → Nat → Nat) (hN : nwA s) (e0 : Nat) (aK aV : Nat → Nat) (hZ : zX A s s.heap ∧ zM e0 aK aV A s s.heap) (ya ms ju rj tj ro rn tn rh th ca sa da xa wb z1 z2 jt z3 br z4 z5 z6 lk z7 z8 li bm l2 z9 bo h2 mm l1 z10 oo h1 ct cr cu cg cp co tg ts tr tk te fw fo fu xm ml cl fl rg tR ou od kn : Nat) (cI cM cS cL cD cB : ClassId) {H : Heap} {locs : List Loc} (hP : va_P (dC, dI) vwCl [(ya, .inr (16, [.ref ms, .int 0, .ref ju, .ref li, .ref ct, .ref tg, .ref fw])), (li, .inr (8, [.ref bm, .int 0, .int 0, .int 0, .int 0, .int 0, .int 0, .int 0, .ref mm])), (bm, .inr (10, [.int 0, .int 2, .int 2, .ref l2, .int 0, .int 0, .int 63, .int 0, .int 0, .ref bo, .ref h2])), (bo, .inl (cI, 24, .inl (fun _ => 0))), (mm, .inr (10, [.int 0, .int 2, .int 2, .ref l1, .int 0, .int 0, .int 63, .int 0, .int 0, .ref oo, .ref h1])), (oo, .inl (cI, 24, .inl (fun _ => 0))), (ju, .inr (7, [.ref rj, .ref ro, .ref wb, .ref jt, .ref br, .ref lk])), (rj, .inr (12, [.int 0, .int 0, .int 0, .int 0, .int 0, .int 0, .ref tj])), (tj, .inl (cI, 1001, .inl (fun _ => 0))), (ro, .inr (11, [.int 0, .int 0, .ref rn, .ref rh, .int 0, .ref ca, .ref sa, .ref da, .ref xa])), (rn, .inr (12, [.int 0, .int 0, .int 0, .int 0, .int 0, .int 0, .ref tn])), (tn, .inl (cI, 1001, .inl (fun _ => 0))), (rh, .inr (12, [.int 0, .int 0, .int 0, .int 0, .int 0, .int 0, .ref th])), (th, .inl (cI, 1001, .inl (fun _ => 0))), (ca, .inl (cI, 501, .inl (fun _ => 0))), (sa, .inl (cI, 501, .inl (fun _ => 0))), (da, .inl (cI, 501, .inl (fun _ => 0))), (xa, .inl (cI, 501, .inl (fun _ => 0))), (od, .inl (cD, 1, .inr (.inr (.inr (.inl (fun _ => 0)))))), (xm, .inr (20, [.int 0, .int 0, .ref kn, .int 0, .int 0, .int 0, .ref ml, .ref cl, .ref rg, .ref tR, .ref (aK 0), .ref (aK 0), .ref fl, .int 0, .int 0, .int 0, .int 0, .int 0, .int 0, .int 0, .null]))] H) (hD : va_D A [(ya, .inr (16, [.ref ms, .int 0, .ref ju, .ref li, .ref ct, .ref tg, .ref fw])), (li, .inr (8, [.ref bm, .int 0, .int 0, .int 0, .int 0, .int 0, .int 0, .int 0, .ref mm])), (bm, .inr (10, [.int 0, .int 2, .int 2, .ref l2, .int 0, .int 0, .int 63, .int 0, .int 0, .ref bo, .ref h2])), (bo, .inl (cI, 24, .inl (fun _ => 0))), (mm, .inr (10, [.int 0, .int 2, .int 2, .ref l1, .int 0, .int 0, .int 63, .int 0, .int 0, .ref oo, .ref h1])), (oo, .inl (cI, 24, .inl (fun _ => 0))), (ju, .inr (7, [.ref rj, .ref ro, .ref wb, .ref jt, .ref br, .ref lk])), (rj, .inr (12, [.int 0, .int 0, .int 0, .int 0, .int 0, .int 0, .ref tj])), (tj, .inl (cI, 1001, .inl (fun _ => 0))), (ro, .inr (11, [.int 0, .int 0, .ref rn, .ref rh, .int 0, .ref ca, .ref sa, .ref da, .ref xa])), (rn, .inr (12, [.int 0, .int 0, .int 0, .int 0, .int 0, .int 0, .ref tn])), (tn, .inl (cI, 1001, .inl (fun _ => 0))), (rh, .inr (12, [.int 0, .int 0, .int 0, .int 0, .int 0, .int 0, .ref th])), (th, .inl (cI, 1001, .inl (fun _ => 0))), (ca, .inl (cI, 501, .inl (fun _ => 0))), (sa, .inl (cI, 501, .inl (fun _ => 0))), (da, .inl (cI, 501, .inl (fun _ => 0))), (xa, .inl (cI, 501, .inl (fun _ => 0))), (od, .inl (cD, 1, .inr (.inr (.inr (.inl (fun _ => 0)))))), (xm, .inr (20, [.int 0, .int 0, .ref kn, .int 0, .int 0, .int 0, .ref ml, .ref cl, .ref rg, .ref tR, .ref (aK 0), .ref (aK 0), .ref fl, .int 0, .int 0, .int 0, .int 0, .int 0, .int 0, .int 0, .null]))]) (hK : va_K (dC, dI) vwCl [(cI, .int), (cD, .double)] s) (hS : va_S A s.heap H locs) {ls : Array Slot} (hl : lv_has ls 9 [(0, .ref b), (1, .ref ya), (2, .ref xm), (3, .ref ou), (4, .ref od), (5, .int 0)]) : W p l e room_1 s m #[Value.ref b] below meth c H locs 200 60000 (lw_Z below #[Value.ref b] s) (F0 m 1595 ls []) := by
  obtain ⟨s1, hs1⟩ : ∃ z, z = xs ((0 : Int32) + 1).toNatClampNeg := ⟨_, rfl⟩
  obtain ⟨s2, hs2⟩ : ∃ z, z = xs ((0 : Int32) + 2).toNatClampNeg := ⟨_, rfl⟩
  obtain ⟨s3, hs3⟩ : ∃ z, z = xs ((0 : Int32) + 3).toNatClampNeg := ⟨_, rfl⟩
  obtain ⟨s4, hs4⟩ : ∃ z, z = xs ((0 : Int32) + 4).toNatClampNeg := ⟨_, rfl⟩
  obtain ⟨s5, hs5⟩ : ∃ z, z = xs ((0 : Int32) + 5).toNatClampNeg := ⟨_, rfl⟩
  obtain ⟨s6, hs6⟩ : ∃ z, z = xs ((0 : Int32) + 6).toNatClampNeg := ⟨_, rfl⟩
  obtain ⟨ch1, hch1⟩ : ∃ z, z = (s1.toUInt32 % 65536).toInt32 := ⟨_, rfl⟩
  obtain ⟨ch2, hch2⟩ : ∃ z, z = (s2.toUInt32 % 65536).toInt32 := ⟨_, rfl⟩
  obtain ⟨ch3, hch3⟩ : ∃ z, z = (s3.toUInt32 % 65536).toInt32 := ⟨_, rfl⟩
  obtain ⟨ch4, hch4⟩ : ∃ z, z = (s4.toUInt32 % 65536).toInt32 := ⟨_, rfl⟩
  obtain ⟨ch5, hch5⟩ : ∃ z, z = (s5.toUInt32 % 65536).toInt32 := ⟨_, rfl⟩
  obtain ⟨ch6, hch6⟩ : ∃ z, z = (s6.toUInt32 % 65536).toInt32 := ⟨_, rfl⟩
  refine lv_aload_n hx hb dL_law_1595 rfl (lv_at hl 1 rfl) ?_
  refine lv_aload_n hx hb dL_law_1596 rfl (lv_at hl 0 rfl) ?_
  refine lv_iload hx hb dL_law_1597 (lv_at hl 5 rfl) ?_
  refine lv_iconst (v := 1) hx hb dL_law_1599 (by decide) ?_
  refine lv_iadd hx hb dL_law_1600 ?_
  refine va_sld hx hb hX hbl hbA hS sx1 dL_law_1601 ?_
  refine lv_topi (fun x_1 ex_1 => ?_)
  obtain rfl : s1 = x_1 := (show x_1 = s1 from ex_1.trans hs1.symm).symm
  refine lv_aload_n hx hb dL_law_1602 rfl (lv_at hl 0 rfl) ?_
  refine lv_iload hx hb dL_law_1603 (lv_at hl 5 rfl) ?_
  refine lv_iconst (v := 2) hx hb dL_law_1605 (by decide) ?_
  refine lv_iadd hx hb dL_law_1606 ?_
  refine va_sld hx hb hX hbl hbA hS sx2 dL_law_1607 ?_
  refine lv_topi (fun x_2 ex_2 => ?_)
  obtain rfl : s2 = x_2 := (show x_2 = s2 from ex_2.trans hs2.symm).symm
  refine lv_aload hx hb dL_law_1608 (lv_at hl 4 rfl) ?_
  have hPc := hP.sub (ws' := [(ya, .inr (16, [.ref ms, .int 0, .ref ju, .ref li, .ref ct, .ref tg, .ref fw])), (li, .inr (8, [.ref bm, .int 0, .int 0, .int 0, .int 0, .int 0, .int 0, .int 0, .ref mm])), (bm, .inr (10, [.int 0, .int 2, .int 2, .ref l2, .int 0, .int 0, .int 63, .int 0, .int 0, .ref bo, .ref h2])), (bo, .inl (cI, 24, .inl (fun _ => 0))), (mm, .inr (10, [.int 0, .int 2, .int 2, .ref l1, .int 0, .int 0, .int 63, .int 0, .int 0, .ref oo, .ref h1])), (oo, .inl (cI, 24, .inl (fun _ => 0))), (ju, .inr (7, [.ref rj, .ref ro, .ref wb, .ref jt, .ref br, .ref lk])), (rj, .inr (12, [.int 0, .int 0, .int 0, .int 0, .int 0, .int 0, .ref tj])), (tj, .inl (cI, 1001, .inl (fun _ => 0))), (ro, .inr (11, [.int 0, .int 0, .ref rn, .ref rh, .int 0, .ref ca, .ref sa, .ref da, .ref xa])), (rn, .inr (12, [.int 0, .int 0, .int 0, .int 0, .int 0, .int 0, .ref tn])), (tn, .inl (cI, 1001, .inl (fun _ => 0))), (rh, .inr (12, [.int 0, .int 0, .int 0, .int 0, .int 0, .int 0, .ref th])), (th, .inl (cI, 1001, .inl (fun _ => 0))), (ca, .inl (cI, 501, .inl (fun _ => 0))), (sa, .inl (cI, 501, .inl (fun _ => 0))), (da, .inl (cI, 501, .inl (fun _ => 0))), (xa, .inl (cI, 501, .inl (fun _ => 0))), (od, .inl (cD, 1, .inr (.inr (.inr (.inl (fun _ => 0))))))]) [0, 1, 2, 3, 4, 5, 6, 7, 8, 9, 10, 11, 12, 13, 14, 15, 16, 17, 18] rfl
  have hDc := hD.sub (ws' := [(ya, .inr (16, [.ref ms, .int 0, .ref ju, .ref li, .ref ct, .ref tg, .ref fw])), (li, .inr (8, [.ref bm, .int 0, .int 0, .int 0, .int 0, .int 0, .int 0, .int 0, .ref mm])), (bm, .inr (10, [.int 0, .int 2, .int 2, .ref l2, .int 0, .int 0, .int 63, .int 0, .int 0, .ref bo, .ref h2])), (bo, .inl (cI, 24, .inl (fun _ => 0))), (mm, .inr (10, [.int 0, .int 2, .int 2, .ref l1, .int 0, .int 0, .int 63, .int 0, .int 0, .ref oo, .ref h1])), (oo, .inl (cI, 24, .inl (fun _ => 0))), (ju, .inr (7, [.ref rj, .ref ro, .ref wb, .ref jt, .ref br, .ref lk])), (rj, .inr (12, [.int 0, .int 0, .int 0, .int 0, .int 0, .int 0, .ref tj])), (tj, .inl (cI, 1001, .inl (fun _ => 0))), (ro, .inr (11, [.int 0, .int 0, .ref rn, .ref rh, .int 0, .ref ca, .ref sa, .ref da, .ref xa])), (rn, .inr (12, [.int 0, .int 0, .int 0, .int 0, .int 0, .int 0, .ref tn])), (tn, .inl (cI, 1001, .inl (fun _ => 0))), (rh, .inr (12, [.int 0, .int 0, .int 0, .int 0, .int 0, .int 0, .ref th])), (th, .inl (cI, 1001, .inl (fun _ => 0))), (ca, .inl (cI, 501, .inl (fun _ => 0))), (sa, .inl (cI, 501, .inl (fun _ => 0))), (da, .inl (cI, 501, .inl (fun _ => 0))), (xa, .inl (cI, 501, .inl (fun _ => 0))), (od, .inl (cD, 1, .inr (.inr (.inr (.inl (fun _ => 0))))))]) [0, 1, 2, 3, 4, 5, 6, 7, 8, 9, 10, 11, 12, 13, 14, 15, 16, 17, 18] (by decide) rfl
  have hKc := hK.sub (tys' := [(cI, .int), (cD, .double)]) [0, 1] rfl
  have hFc := va_free (wc := [(ya, .inr (16, [.ref ms, .int 0, .ref ju, .ref li, .ref ct, .ref tg, .ref fw])), (li, .inr (8, [.ref bm, .int 0, .int 0, .int 0, .int 0, .int 0, .int 0, .int 0, .ref mm])), (bm, .inr (10, [.int 0, .int 2, .int 2, .ref l2, .int 0, .int 0, .int 63, .int 0, .int 0, .ref bo, .ref h2])), (bo, .inl (cI, 24, .inl (fun _ => 0))), (mm, .inr (10, [.int 0, .int 2, .int 2, .ref l1, .int 0, .int 0, .int 63, .int 0, .int 0, .ref oo, .ref h1])), (oo, .inl (cI, 24, .inl (fun _ => 0))), (ju, .inr (7, [.ref rj, .ref ro, .ref wb, .ref jt, .ref br, .ref lk])), (rj, .inr (12, [.int 0, .int 0, .int 0, .int 0, .int 0, .int 0, .ref tj])), (tj, .inl (cI, 1001, .inl (fun _ => 0))), (ro, .inr (11, [.int 0, .int 0, .ref rn, .ref rh, .int 0, .ref ca, .ref sa, .ref da, .ref xa])), (rn, .inr (12, [.int 0, .int 0, .int 0, .int 0, .int 0, .int 0, .ref tn])), (tn, .inl (cI, 1001, .inl (fun _ => 0))), (rh, .inr (12, [.int 0, .int 0, .int 0, .int 0, .int 0, .int 0, .ref th])), (th, .inl (cI, 1001, .inl (fun _ => 0))), (ca, .inl (cI, 501, .inl (fun _ => 0))), (sa, .inl (cI, 501, .inl (fun _ => 0))), (da, .inl (cI, 501, .inl (fun _ => 0))), (xa, .inl (cI, 501, .inl (fun _ => 0))), (od, .inl (cD, 1, .inr (.inr (.inr (.inl (fun _ => 0))))))]) hD hS hA [0, 1, 2, 3, 4, 5, 6, 7, 8, 9, 10, 11, 12, 13, 14, 15, 16, 17, 18] rfl
  refine vx_calli (vx_runSX (As := [.ref ya, .int s1, .int s2, .ref od]) (rest := []) ⟨hx, hb, hml, hown, hts⟩ (c_L_haltingShare l hfl dC dI cI ya ms ct tg fw li ju bm bo l2 h2 mm oo l1 h1 rj tj ro rn rh ca sa da xa tn th wb jt br lk 0 63 0 0 0 63 0 0 ((0, 0, 0, 0, 0, 0, fun _ => 0), 0, 0, 0, (0, 0, 0, 0, 0, 0, fun _ => 0), (0, 0, 0, 0, 0, 0, fun _ => 0), (fun _ => 0), (fun _ => 0), (fun _ => 0), (fun _ => 0), 0, fun _ => 0) s1 s2 cD od (fun _ => 0) H.size) (vx_cwSW 4 hts gL_law_L_haltingShare rfl rfl rfl (by decide +kernel) ⟨Nat.le_of_ble_eq_true rfl, Nat.le_of_ble_eq_true rfl⟩) (pcSz (zX_ok) hPc hDc hKc hN hZ.1 hS hFc) rfl rfl hl.1 rfl (lv_room (Nat.le_of_ble_eq_true rfl)) dL_law_1610 ⟨Nat.le_of_ble_eq_true rfl, Nat.le_of_ble_eq_true rfl⟩) hS (fun q _ h => hFc q h) hFc (fun q _ h => hFc q h) (fun E9 ce9 q9 u9 t9 H9 locs9 ht9 hvm9 hp9 hE9 hz9 hk9 hS9 hc9 hv9 hcl9 => hE9.elim) (fun r_4 u t H1 locs ht hvm hw_5 hB hz1 hk1 hS => ?_)
  obtain ⟨hP1, hK1, hD1⟩ := hB
  rw [ht] at hP1
  try dsimp only at hw_5
  obtain ⟨hP, hD⟩ := va_join (wr := [(xm, .inr (20, [.int 0, .int 0, .ref kn, .int 0, .int 0, .int 0, .ref ml, .ref cl, .ref rg, .ref tR, .ref (aK 0), .ref (aK 0), .ref fl, .int 0, .int 0, .int 0, .int 0, .int 0, .int 0, .int 0, .null]))]) (w1 := [(od, .inl (cD, 1, .inr (.inr (.inr (.inl u)))))]) hP hD [0, 1, 2, 3, 4, 5, 6, 7, 8, 9, 10, 11, 12, 13, 14, 15, 16, 17, 18] [19] rfl rfl (by decide) (by decide) hk1 hFc hP1 hD1
  generalize H1 = H at hP hS ⊢
  have hP : va_P (dC, dI) vwCl [(xm, .inr (20, [.int 0, .int 0, .ref kn, .int 0, .int 0, .int 0, .ref ml, .ref cl, .ref rg, .ref tR, .ref (aK 0), .ref (aK 0), .ref fl, .int 0, .int 0, .int 0, .int 0, .int 0, .int 0, .int 0, .null])), (od, .inl (cD, 1, .inr (.inr (.inr (.inl u)))))] H := hP
  have hD : va_D A [(xm, .inr (20, [.int 0, .int 0, .ref kn, .int 0, .int 0, .int 0, .ref ml, .ref cl, .ref rg, .ref tR, .ref (aK 0), .ref (aK 0), .ref fl, .int 0, .int 0, .int 0, .int 0, .int 0, .int 0, .int 0, .null])), (od, .inl (cD, 1, .inr (.inr (.inr (.inl u)))))] := hD
  refine W.widen (k := 201) (n := 60006) (Nat.le_of_ble_eq_true rfl) (Nat.le_of_ble_eq_true rfl) ?_
  obtain ⟨of_3, eof_3⟩ : ∃ z, z = u := ⟨_, rfl⟩
  subst eof_3
  have hP : va_P (dC, dI) vwCl [(xm, .inr (20, [.int 0, .int 0, .ref kn, .int 0, .int 0, .int 0, .ref ml, .ref cl, .ref rg, .ref tR, .ref (aK 0), .ref (aK 0), .ref fl, .int 0, .int 0, .int 0, .int 0, .int 0, .int 0, .int 0, .null])), (od, .inl (cD, 1, .inr (.inr (.inr (.inl of_3)))))] H := hP
  have hD : va_D A [(xm, .inr (20, [.int 0, .int 0, .ref kn, .int 0, .int 0, .int 0, .ref ml, .ref cl, .ref rg, .ref tR, .ref (aK 0), .ref (aK 0), .ref fl, .int 0, .int 0, .int 0, .int 0, .int 0, .int 0, .int 0, .null])), (od, .inl (cD, 1, .inr (.inr (.inr (.inl of_3)))))] := hD
  rcases hw_5 with ⟨hr0, hPP, hv0⟩ | ⟨hr0, hPP⟩
  · obtain rfl : r_4 = 0 := hr0
    refine lv_istore (lv' := [(6, .int 0), (0, .ref b), (1, .ref ya), (2, .ref xm), (3, .ref ou), (4, .ref od), (5, .int 0)]) hx hb dL_law_1613 hl (by decide) rfl (fun ls hl => ?_)
    refine lv_aload_n hx hb dL_law_1615 rfl (lv_at hl 3 rfl) ?_
    refine lv_aload_n hx hb dL_law_1616 rfl (lv_at hl 1 rfl) ?_
    refine lv_iload hx hb dL_law_1617 (lv_at hl 6 rfl) ?_
    refine lv_iconst (v := 1) hx hb dL_law_1619 (by decide) ?_
    refine lv_iadd hx hb dL_law_1620 ?_
    refine va_sld hx hb hX hbl hbA hS sx1 dL_law_1621 ?_
    refine lv_topi (fun x_6 ex_6 => ?_)
    obtain rfl : s1 = x_6 := (show x_6 = s1 from ex_6.trans hs1.symm).symm
    refine lv_aload_n hx hb dL_law_1622 rfl (lv_at hl 1 rfl) ?_
    refine lv_iload hx hb dL_law_1623 (lv_at hl 6 rfl) ?_
    refine lv_iconst (v := 2) hx hb dL_law_1625 (by decide) ?_
    refine lv_iadd hx hb dL_law_1626 ?_
    refine va_sld hx hb hX hbl hbA hS sx2 dL_law_1627 ?_
    refine lv_topi (fun x_7 ex_7 => ?_)
    obtain rfl : s2 = x_7 := (show x_7 = s2 from ex_7.trans hs2.symm).symm
    have hPc := hP.sub (ws' := [(xm, .inr (20, [.int 0, .int 0, .ref kn, .int 0, .int 0, .int 0, .ref ml, .ref cl, .ref rg, .ref tR, .ref (aK 0), .ref (aK 0), .ref fl, .int 0, .int 0, .int 0, .int 0, .int 0, .int 0, .int 0, .null]))]) [0] rfl
    have hDc := hD.sub (ws' := [(xm, .inr (20, [.int 0, .int 0, .ref kn, .int 0, .int 0, .int 0, .ref ml, .ref cl, .ref rg, .ref tR, .ref (aK 0), .ref (aK 0), .ref fl, .int 0, .int 0, .int 0, .int 0, .int 0, .int 0, .int 0, .null]))]) [0] (by decide) rfl
    have hKc := hK.sub (tys' := [(cI, .int)]) [0] rfl
    have hFc := va_free (wc := [(xm, .inr (20, [.int 0, .int 0, .ref kn, .int 0, .int 0, .int 0, .ref ml, .ref cl, .ref rg, .ref tR, .ref (aK 0), .ref (aK 0), .ref fl, .int 0, .int 0, .int 0, .int 0, .int 0, .int 0, .int 0, .null]))]) hD hS hA [0] rfl
    refine va_callf (va_runV (As := [.int s1, .int s2]) (rest := []) ⟨hx, hb, hml, hown, hts⟩ (c_X15_haltingShare l dC dI xm ml cl fl kn rg tR e0 aK aV cI s1 s2 H.size) (cwV 2 hts gL_law_X15_haltingShare rfl rfl rfl (by decide +kernel) ⟨Nat.le_of_ble_eq_true rfl, Nat.le_of_ble_eq_true rfl⟩) (pcVz (zM_ok e0 aK aV) hPc hDc hKc hN hZ.2 hS hFc (ci := 20) (q0 := 0) rfl rfl) rfl rfl hl.1 rfl (lv_room (Nat.le_of_ble_eq_true rfl)) dL_law_1628 ⟨Nat.le_of_ble_eq_true rfl, Nat.le_of_ble_eq_true rfl⟩) hS (fun q _ h => hFc q h) hFc (fun r_9 u t H1 locs ht hvm hw_10 hB hz1 hk1 hS => ?_)
    obtain ⟨hP1, hK1, hD1⟩ := hB
    rw [ht] at hP1
    try dsimp only at hw_10
    obtain ⟨hP, hD⟩ := va_join (wr := [(od, .inl (cD, 1, .inr (.inr (.inr (.inl of_3)))))]) (w1 := [(xm, .inr (20, u))]) hP hD [0] [1] rfl rfl (by decide) (by decide) hk1 hFc hP1 hD1
    generalize H1 = H at hP hS ⊢
    have hP : va_P (dC, dI) vwCl [(od, .inl (cD, 1, .inr (.inr (.inr (.inl of_3))))), (xm, .inr (20, u))] H := hP
    have hD : va_D A [(od, .inl (cD, 1, .inr (.inr (.inr (.inl of_3))))), (xm, .inr (20, u))] := hD
    refine W.widen (k := 14541) (n := 5865432) (Nat.le_of_ble_eq_true rfl) (Nat.le_of_ble_eq_true rfl) ?_
    obtain ⟨fs_8, efs_8⟩ : ∃ z, z = u := ⟨_, rfl⟩
    subst efs_8
    have hP : va_P (dC, dI) vwCl [(od, .inl (cD, 1, .inr (.inr (.inr (.inl of_3))))), (xm, .inr (20, fs_8))] H := hP
    have hD : va_D A [(od, .inl (cD, 1, .inr (.inr (.inr (.inl of_3))))), (xm, .inr (20, fs_8))] := hD
    obtain ⟨ht9, hrv⟩ := hw_10.elim (fun h => h.2) (fun h => absurd hPP h.1)
    obtain rfl : r_9 = (shV (lsC s1 s2)) := hrv
    refine lv_fstore (lv' := [(7, .float (shV (lsC s1 s2))), (6, .int 0), (0, .ref b), (1, .ref ya), (2, .ref xm), (3, .ref ou), (4, .ref od), (5, .int 0)]) hx hb dL_law_1631 hl (by decide) rfl (fun ls hl => ?_)
    refine lv_aload_n hx hb dL_law_1633 rfl (lv_at hl 4 rfl) ?_
    have hPc := hP.sub (ws' := [(xm, .inr (20, fs_8))]) [1] rfl
    have hDc := hD.sub (ws' := [(xm, .inr (20, fs_8))]) [1] (by decide) rfl
    have hKc := hK.sub (tys' := []) [] rfl
    have hFc := va_free (wc := [(xm, .inr (20, fs_8))]) hD hS hA [1] rfl
    refine va_calli (va_runV (As := []) (rest := []) ⟨hx, hb, hml, hown, hts⟩ (c_X15_thrown l dC dI xm fs_8 0 ht9 H.size) (cwV 0 hts gL_law_X15_thrown rfl rfl rfl (by decide +kernel) ⟨Nat.le_of_ble_eq_true rfl, Nat.le_of_ble_eq_true rfl⟩) (pcV hPc hDc hKc hN (ci := 20) (q0 := 0) rfl rfl) rfl rfl hl.1 rfl (lv_room (Nat.le_of_ble_eq_true rfl)) dL_law_1634 ⟨Nat.le_of_ble_eq_true rfl, Nat.le_of_ble_eq_true rfl⟩) hS (fun q _ h => hFc q h) hFc (fun r_11 u t H1 locs ht hvm hw_12 hB hz1 hk1 hS => ?_)
    obtain ⟨hP1, hK1, hD1⟩ := hB
    rw [ht] at hP1
    try dsimp only at hw_12
    obtain ⟨hP, hD⟩ := va_join (wr := [(od, .inl (cD, 1, .inr (.inr (.inr (.inl of_3)))))]) (w1 := []) hP hD [1] [0] rfl rfl (by decide) (by decide) hk1 hFc hP1 hD1
    generalize H1 = H at hP hS ⊢
    have hP : va_P (dC, dI) vwCl [(od, .inl (cD, 1, .inr (.inr (.inr (.inl of_3)))))] H := hP
    have hD : va_D A [(od, .inl (cD, 1, .inr (.inr (.inr (.inl of_3)))))] := hD
    obtain rfl : r_11 = 0 := hw_12
    refine lv_iload hx hb dL_law_1637 (lv_at hl 1 rfl) ?_
    refine lv_icmp_eq (tgt := 1644) hx hb dL_law_1639 (by decide) (fun c1639_13 => ?_) (fun c1639_13 => ?_)
    · refine lv_iload hx hb dL_law_1644 (lv_at hl 1 rfl) ?_
      refine lv_if_ne (tgt := 1682) hx hb dL_law_1646 (by decide) (fun c1646_14 => ?_) (fun c1646_14 => ?_)
      · exact (c1646_14 (by decide)).elim
      · refine lv_aload hx hb dL_law_1649 (lv_at hl 6 rfl) ?_
        refine lv_iconst (v := 0) hx hb dL_law_1651 (by decide) ?_
        refine va_dald hx hb hK hP 0 1 rfl rfl (show vp_in (nI 0) 1 from vp_in_nI (by decide) (by decide)) dL_law_1652 ?_
        refine lv_topd (fun z_15 ez_15 => ?_)
        obtain rfl : z_15 = (FP.f2d (shV (lsC s1 s2))) := by rw [ez_15, show (0 : Int32).toNatClampNeg = 0 from by decide]; exact hv0
        refine lv_fload hx hb dL_law_1653 (lv_at hl 0 rfl) ?_
        refine lv_f2d hx hb dL_law_1655 (by obtain ⟨hs9, k9, hk1, hk2, ek9⟩ := lst_nums hPP; rw [ek9]; rcases hs9 with es9 | es9 <;> (rw [es9, lsC_nI (by decide) hk2]; exact sh_num64 (all_ne (by decide) (by decide)))) ?_
        refine lv_dcmp hx hb dL_law_1656 ?_
        refine lv_if_eq (tgt := 1682) hx hb dL_law_1657 (by decide) (fun c1657_16 => ?_) (fun c1657_16 => ?_)
        · refine lv_goto (tgt := 2778) hx hb dL_law_1682 (by decide) ?_
          refine W.widen (k := 600006) (n := 7302039) (Nat.le_of_ble_eq_true rfl) (Nat.le_of_ble_eq_true rfl) ?_
          exact law_end hx hb hr hml hX hbl hlocks hbA hAo hS (lv_sub hl [2, 7] rfl)
        · exact absurd (sh_cmp (by obtain ⟨hs9, k9, hk1, hk2, ek9⟩ := lst_nums hPP; rw [ek9]; rcases hs9 with es9 | es9 <;> (rw [es9, lsC_nI (by decide) hk2]; exact all_ne (by decide) (by decide)))) c1657_16
    · exact (c1639_13 (by decide)).elim
  · obtain rfl : r_4 = 1 := hr0
    refine lv_istore (lv' := [(6, .int 1), (0, .ref b), (1, .ref ya), (2, .ref xm), (3, .ref ou), (4, .ref od), (5, .int 0)]) hx hb dL_law_1613 hl (by decide) rfl (fun ls hl => ?_)
    refine lv_aload_n hx hb dL_law_1615 rfl (lv_at hl 3 rfl) ?_
    refine lv_aload_n hx hb dL_law_1616 rfl (lv_at hl 1 rfl) ?_
    refine lv_iload hx hb dL_law_1617 (lv_at hl 6 rfl) ?_
    refine lv_iconst (v := 1) hx hb dL_law_1619 (by decide) ?_
    refine lv_iadd hx hb dL_law_1620 ?_
    refine va_sld hx hb hX hbl hbA hS sx1 dL_law_1621 ?_
    refine lv_topi (fun x_17 ex_17 => ?_)
    obtain rfl : s1 = x_17 := (show x_17 = s1 from ex_17.trans hs1.symm).symm
    refine lv_aload_n hx hb dL_law_1622 rfl (lv_at hl 1 rfl) ?_
    refine lv_iload hx hb dL_law_1623 (lv_at hl 6 rfl) ?_
    refine lv_iconst (v := 2) hx hb dL_law_1625 (by decide) ?_
    refine lv_iadd hx hb dL_law_1626 ?_
    refine va_sld hx hb hX hbl hbA hS sx2 dL_law_1627 ?_
    refine lv_topi (fun x_18 ex_18 => ?_)
    obtain rfl : s2 = x_18 := (show x_18 = s2 from ex_18.trans hs2.symm).symm
    have hPc := hP.sub (ws' := [(xm, .inr (20, [.int 0, .int 0, .ref kn, .int 0, .int 0, .int 0, .ref ml, .ref cl, .ref rg, .ref tR, .ref (aK 0), .ref (aK 0), .ref fl, .int 0, .int 0, .int 0, .int 0, .int 0, .int 0, .int 0, .null]))]) [0] rfl
    have hDc := hD.sub (ws' := [(xm, .inr (20, [.int 0, .int 0, .ref kn, .int 0, .int 0, .int 0, .ref ml, .ref cl, .ref rg, .ref tR, .ref (aK 0), .ref (aK 0), .ref fl, .int 0, .int 0, .int 0, .int 0, .int 0, .int 0, .int 0, .null]))]) [0] (by decide) rfl
    have hKc := hK.sub (tys' := [(cI, .int)]) [0] rfl
    have hFc := va_free (wc := [(xm, .inr (20, [.int 0, .int 0, .ref kn, .int 0, .int 0, .int 0, .ref ml, .ref cl, .ref rg, .ref tR, .ref (aK 0), .ref (aK 0), .ref fl, .int 0, .int 0, .int 0, .int 0, .int 0, .int 0, .int 0, .null]))]) hD hS hA [0] rfl
    refine va_callf (va_runV (As := [.int s1, .int s2]) (rest := []) ⟨hx, hb, hml, hown, hts⟩ (c_X15_haltingShare l dC dI xm ml cl fl kn rg tR e0 aK aV cI s1 s2 H.size) (cwV 2 hts gL_law_X15_haltingShare rfl rfl rfl (by decide +kernel) ⟨Nat.le_of_ble_eq_true rfl, Nat.le_of_ble_eq_true rfl⟩) (pcVz (zM_ok e0 aK aV) hPc hDc hKc hN hZ.2 hS hFc (ci := 20) (q0 := 0) rfl rfl) rfl rfl hl.1 rfl (lv_room (Nat.le_of_ble_eq_true rfl)) dL_law_1628 ⟨Nat.le_of_ble_eq_true rfl, Nat.le_of_ble_eq_true rfl⟩) hS (fun q _ h => hFc q h) hFc (fun r_20 u t H1 locs ht hvm hw_21 hB hz1 hk1 hS => ?_)
    obtain ⟨hP1, hK1, hD1⟩ := hB
    rw [ht] at hP1
    try dsimp only at hw_21
    obtain ⟨hP, hD⟩ := va_join (wr := [(od, .inl (cD, 1, .inr (.inr (.inr (.inl of_3)))))]) (w1 := [(xm, .inr (20, u))]) hP hD [0] [1] rfl rfl (by decide) (by decide) hk1 hFc hP1 hD1
    generalize H1 = H at hP hS ⊢
    have hP : va_P (dC, dI) vwCl [(od, .inl (cD, 1, .inr (.inr (.inr (.inl of_3))))), (xm, .inr (20, u))] H := hP
    have hD : va_D A [(od, .inl (cD, 1, .inr (.inr (.inr (.inl of_3))))), (xm, .inr (20, u))] := hD
    refine W.widen (k := 14541) (n := 5865432) (Nat.le_of_ble_eq_true rfl) (Nat.le_of_ble_eq_true rfl) ?_
    obtain ⟨fs_19, efs_19⟩ : ∃ z, z = u := ⟨_, rfl⟩
    subst efs_19
    have hP : va_P (dC, dI) vwCl [(od, .inl (cD, 1, .inr (.inr (.inr (.inl of_3))))), (xm, .inr (20, fs_19))] H := hP
    have hD : va_D A [(od, .inl (cD, 1, .inr (.inr (.inr (.inl of_3))))), (xm, .inr (20, fs_19))] := hD
    have ht9 := hw_21.elim (fun h => absurd h.1 hPP) (fun h => h.2)
    refine lv_fstore (lv' := [(7, .float r_20), (6, .int 1), (0, .ref b), (1, .ref ya), (2, .ref xm), (3, .ref ou), (4, .ref od), (5, .int 0)]) hx hb dL_law_1631 hl (by decide) rfl (fun ls hl => ?_)
    refine lv_aload_n hx hb dL_law_1633 rfl (lv_at hl 4 rfl) ?_
    have hPc := hP.sub (ws' := [(xm, .inr (20, fs_19))]) [1] rfl
    have hDc := hD.sub (ws' := [(xm, .inr (20, fs_19))]) [1] (by decide) rfl
    have hKc := hK.sub (tys' := []) [] rfl
    have hFc := va_free (wc := [(xm, .inr (20, fs_19))]) hD hS hA [1] rfl
    refine va_calli (va_runV (As := []) (rest := []) ⟨hx, hb, hml, hown, hts⟩ (c_X15_thrown l dC dI xm fs_19 1 ht9 H.size) (cwV 0 hts gL_law_X15_thrown rfl rfl rfl (by decide +kernel) ⟨Nat.le_of_ble_eq_true rfl, Nat.le_of_ble_eq_true rfl⟩) (pcV hPc hDc hKc hN (ci := 20) (q0 := 0) rfl rfl) rfl rfl hl.1 rfl (lv_room (Nat.le_of_ble_eq_true rfl)) dL_law_1634 ⟨Nat.le_of_ble_eq_true rfl, Nat.le_of_ble_eq_true rfl⟩) hS (fun q _ h => hFc q h) hFc (fun r_22 u t H1 locs ht hvm hw_23 hB hz1 hk1 hS => ?_)
    obtain ⟨hP1, hK1, hD1⟩ := hB
    rw [ht] at hP1
    try dsimp only at hw_23
    obtain ⟨hP, hD⟩ := va_join (wr := [(od, .inl (cD, 1, .inr (.inr (.inr (.inl of_3)))))]) (w1 := []) hP hD [1] [0] rfl rfl (by decide) (by decide) hk1 hFc hP1 hD1
    generalize H1 = H at hP hS ⊢
    have hP : va_P (dC, dI) vwCl [(od, .inl (cD, 1, .inr (.inr (.inr (.inl of_3)))))] H := hP
    have hD : va_D A [(od, .inl (cD, 1, .inr (.inr (.inr (.inl of_3)))))] := hD
    obtain rfl : r_22 = 1 := hw_23
    refine lv_iload hx hb dL_law_1637 (lv_at hl 1 rfl) ?_
    refine lv_icmp_eq (tgt := 1644) hx hb dL_law_1639 (by decide) (fun c1639_24 => ?_) (fun c1639_24 => ?_)
    · refine lv_iload hx hb dL_law_1644 (lv_at hl 1 rfl) ?_
      refine lv_if_ne (tgt := 1682) hx hb dL_law_1646 (by decide) (fun c1646_25 => ?_) (fun c1646_25 => ?_)
      · refine lv_goto (tgt := 2778) hx hb dL_law_1682 (by decide) ?_
        refine W.widen (k := 600006) (n := 7302039) (Nat.le_of_ble_eq_true rfl) (Nat.le_of_ble_eq_true rfl) ?_
        exact law_end hx hb hr hml hX hbl hlocks hbA hAo hS (lv_sub hl [2, 7] rfl)
      · exact absurd c1646_25 (by decide)
    · exact (c1639_24 (by decide)).elim

set_option maxHeartbeats 8000000 in
set_option maxRecDepth 100000 in
/-- the law: law_20_record -/
theorem law_20_record {p : Program} {e : Env} {s : State} {m : MethodId} {below : List Frame} {meth : Method} {c : Code} {l : Launch} {b : Nat} {xs : Nat → Int32} (hx : p.tables.exec = Jvm.exec) (hb : c.code = cL_law) (hr : meth.sig.returnType = ret) (hml : c.maxLocals = 9) (hfl : l.stackTraces = false) (hown : s.vm.findClass RL = some m.cls) (hts : ∀ w ∈ wsL_law, w.before #[Value.ref b] s = true) (hX : va_X b 7 xs s s.heap) (hbl : b < s.heap.size) (hlocks : meth.locks = false) {A : Nat → Prop} (hbA : ¬ A b) (hAo : ∀ q, A q → s.heap.size ≤ q) (hA : ∀ q : Nat, s.heap.size ≤ q → A q) (dC : Nat → ClassId) (dI : Nat → Nat → Nat) (hN : nwA s) (e0 : Nat) (aK aV : Nat → Nat) (hZ : zX A s s.heap ∧ zM e0 aK aV A s s.heap) (ya ms ju rj tj ro rn tn rh th ca sa da xa wb z1 z2 jt z3 br z4 z5 z6 lk z7 z8 li bm l2 z9 bo h2 mm l1 z10 oo h1 ct cr cu cg cp co tg ts tr tk te fw fo fu xm ml cl fl rg tR ou od kn : Nat) (cI cM cS cL cD cB : ClassId) {H : Heap} {locs : List Loc} (hP : va_P (dC, dI) vwCl [(ya, .inr (16, [.ref ms, .int 0, .ref ju, .ref li, .ref ct, .ref tg, .ref fw])), (ou, .inl (cL, 1, .inr (.inl (fun _ => 0)))), (xm, .inr (20, [.int 0, .int 0, .ref kn, .int 0, .int 0, .int 0, .ref ml, .ref cl, .ref rg, .ref tR, .ref (aK 0), .ref (aK 0), .ref fl, .int 0, .int 0, .int 0, .int 0, .int 0, .int 0, .int 0, .null])), (ml, .inr (4, [.int 0, .ref e0, .int 0]))] H) (hD : va_D A [(ya, .inr (16, [.ref ms, .int 0, .ref ju, .ref li, .ref ct, .ref tg, .ref fw])), (ou, .inl (cL, 1, .inr (.inl (fun _ => 0)))), (xm, .inr (20, [.int 0, .int 0, .ref kn, .int 0, .int 0, .int 0, .ref ml, .ref cl, .ref rg, .ref tR, .ref (aK 0), .ref (aK 0), .ref fl, .int 0, .int 0, .int 0, .int 0, .int 0, .int 0, .int 0, .null])), (ml, .inr (4, [.int 0, .ref e0, .int 0]))]) (hK : va_K (dC, dI) vwCl [(cL, .long)] s) (hS : va_S A s.heap H locs) {ls : Array Slot} (hl : lv_has ls 9 [(0, .ref b), (1, .ref ya), (2, .ref xm), (3, .ref ou), (4, .ref od), (5, .int 0)]) : W p l e room_1 s m #[Value.ref b] below meth c H locs 200 60000 (lw_Z below #[Value.ref b] s) (F0 m 1685 ls []) := by
  obtain ⟨s1, hs1⟩ : ∃ z, z = xs ((0 : Int32) + 1).toNatClampNeg := ⟨_, rfl⟩
  obtain ⟨s2, hs2⟩ : ∃ z, z = xs ((0 : Int32) + 2).toNatClampNeg := ⟨_, rfl⟩
  obtain ⟨s3, hs3⟩ : ∃ z, z = xs ((0 : Int32) + 3).toNatClampNeg := ⟨_, rfl⟩
  obtain ⟨s4, hs4⟩ : ∃ z, z = xs ((0 : Int32) + 4).toNatClampNeg := ⟨_, rfl⟩
  obtain ⟨s5, hs5⟩ : ∃ z, z = xs ((0 : Int32) + 5).toNatClampNeg := ⟨_, rfl⟩
  obtain ⟨s6, hs6⟩ : ∃ z, z = xs ((0 : Int32) + 6).toNatClampNeg := ⟨_, rfl⟩
  obtain ⟨ch1, hch1⟩ : ∃ z, z = (s1.toUInt32 % 65536).toInt32 := ⟨_, rfl⟩
  obtain ⟨ch2, hch2⟩ : ∃ z, z = (s2.toUInt32 % 65536).toInt32 := ⟨_, rfl⟩
  obtain ⟨ch3, hch3⟩ : ∃ z, z = (s3.toUInt32 % 65536).toInt32 := ⟨_, rfl⟩
  obtain ⟨ch4, hch4⟩ : ∃ z, z = (s4.toUInt32 % 65536).toInt32 := ⟨_, rfl⟩
  obtain ⟨ch5, hch5⟩ : ∃ z, z = (s5.toUInt32 % 65536).toInt32 := ⟨_, rfl⟩
  obtain ⟨ch6, hch6⟩ : ∃ z, z = (s6.toUInt32 % 65536).toInt32 := ⟨_, rfl⟩
  refine lv_aload_n hx hb dL_law_1685 rfl (lv_at hl 1 rfl) ?_
  refine lv_aload_n hx hb dL_law_1686 rfl (lv_at hl 0 rfl) ?_
  refine lv_iload hx hb dL_law_1687 (lv_at hl 5 rfl) ?_
  refine lv_iconst (v := 1) hx hb dL_law_1689 (by decide) ?_
  refine lv_iadd hx hb dL_law_1690 ?_
  refine va_sld hx hb hX hbl hbA hS sx1 dL_law_1691 ?_
  refine lv_topi (fun x_1 ex_1 => ?_)
  obtain rfl : s1 = x_1 := (show x_1 = s1 from ex_1.trans hs1.symm).symm
  refine lv_i2c hx hb dL_law_1692 rfl ?_
  refine lv_topi (fun x_2 ex_2 => ?_)
  obtain rfl : ch1 = x_2 := (show x_2 = ch1 from ex_2.trans hch1.symm).symm
  refine lv_aload_n hx hb dL_law_1693 rfl (lv_at hl 3 rfl) ?_
  have hPc := hP.sub (ws' := [(ya, .inr (16, [.ref ms, .int 0, .ref ju, .ref li, .ref ct, .ref tg, .ref fw])), (ou, .inl (cL, 1, .inr (.inl (fun _ => 0))))]) [0, 1] rfl
  have hDc := hD.sub (ws' := [(ya, .inr (16, [.ref ms, .int 0, .ref ju, .ref li, .ref ct, .ref tg, .ref fw])), (ou, .inl (cL, 1, .inr (.inl (fun _ => 0))))]) [0, 1] (by decide) rfl
  have hKc := hK.sub (tys' := [(cL, .long)]) [0] rfl
  have hFc := va_free (wc := [(ya, .inr (16, [.ref ms, .int 0, .ref ju, .ref li, .ref ct, .ref tg, .ref fw])), (ou, .inl (cL, 1, .inr (.inl (fun _ => 0))))]) hD hS hA [0, 1] rfl
  refine vx_calli (vx_runSX (As := [.ref ya, .int ch1, .ref ou]) (rest := []) ⟨hx, hb, hml, hown, hts⟩ (c_L_record l hfl dC dI ya ms ju li ct tg fw ch1 cL ou (fun _ => 0) H.size) (vx_cwSW 3 hts gL_law_L_record rfl rfl rfl (by decide +kernel) ⟨Nat.le_of_ble_eq_true rfl, Nat.le_of_ble_eq_true rfl⟩) (pcSz (zX_ok) hPc hDc hKc hN hZ.1 hS hFc) rfl rfl hl.1 rfl (lv_room (Nat.le_of_ble_eq_true rfl)) dL_law_1694 ⟨Nat.le_of_ble_eq_true rfl, Nat.le_of_ble_eq_true rfl⟩) hS (fun q _ h => hFc q h) hFc (fun q _ h => hFc q h) (fun E9 ce9 q9 u9 t9 H9 locs9 ht9 hvm9 hp9 hE9 hz9 hk9 hS9 hc9 hv9 hcl9 => hE9.elim) (fun r_4 u t H1 locs ht hvm hw_5 hB hz1 hk1 hS => ?_)
  obtain ⟨hP1, hK1, hD1⟩ := hB
  rw [ht] at hP1
  try dsimp only at hw_5
  obtain ⟨hP, hD⟩ := va_join (wr := [(xm, .inr (20, [.int 0, .int 0, .ref kn, .int 0, .int 0, .int 0, .ref ml, .ref cl, .ref rg, .ref tR, .ref (aK 0), .ref (aK 0), .ref fl, .int 0, .int 0, .int 0, .int 0, .int 0, .int 0, .int 0, .null])), (ml, .inr (4, [.int 0, .ref e0, .int 0]))]) (w1 := [(ou, .inl (cL, 1, .inr (.inl u)))]) hP hD [0, 1] [2, 3] rfl rfl (by decide) (by decide) hk1 hFc hP1 hD1
  generalize H1 = H at hP hS ⊢
  have hP : va_P (dC, dI) vwCl [(xm, .inr (20, [.int 0, .int 0, .ref kn, .int 0, .int 0, .int 0, .ref ml, .ref cl, .ref rg, .ref tR, .ref (aK 0), .ref (aK 0), .ref fl, .int 0, .int 0, .int 0, .int 0, .int 0, .int 0, .int 0, .null])), (ml, .inr (4, [.int 0, .ref e0, .int 0])), (ou, .inl (cL, 1, .inr (.inl u)))] H := hP
  have hD : va_D A [(xm, .inr (20, [.int 0, .int 0, .ref kn, .int 0, .int 0, .int 0, .ref ml, .ref cl, .ref rg, .ref tR, .ref (aK 0), .ref (aK 0), .ref fl, .int 0, .int 0, .int 0, .int 0, .int 0, .int 0, .int 0, .null])), (ml, .inr (4, [.int 0, .ref e0, .int 0])), (ou, .inl (cL, 1, .inr (.inl u)))] := hD
  refine W.widen (k := 202) (n := 60012) (Nat.le_of_ble_eq_true rfl) (Nat.le_of_ble_eq_true rfl) ?_
  obtain ⟨of_3, eof_3⟩ : ∃ z, z = u := ⟨_, rfl⟩
  subst eof_3
  have hP : va_P (dC, dI) vwCl [(xm, .inr (20, [.int 0, .int 0, .ref kn, .int 0, .int 0, .int 0, .ref ml, .ref cl, .ref rg, .ref tR, .ref (aK 0), .ref (aK 0), .ref fl, .int 0, .int 0, .int 0, .int 0, .int 0, .int 0, .int 0, .null])), (ml, .inr (4, [.int 0, .ref e0, .int 0])), (ou, .inl (cL, 1, .inr (.inl of_3)))] H := hP
  have hD : va_D A [(xm, .inr (20, [.int 0, .int 0, .ref kn, .int 0, .int 0, .int 0, .ref ml, .ref cl, .ref rg, .ref tR, .ref (aK 0), .ref (aK 0), .ref fl, .int 0, .int 0, .int 0, .int 0, .int 0, .int 0, .int 0, .null])), (ml, .inr (4, [.int 0, .ref e0, .int 0])), (ou, .inl (cL, 1, .inr (.inl of_3)))] := hD
  rcases hw_5 with ⟨hr0, hPP⟩ | ⟨hr0, hPP⟩
  · obtain rfl : r_4 = 1 := hr0
    refine lv_istore (lv' := [(6, .int 1), (0, .ref b), (1, .ref ya), (2, .ref xm), (3, .ref ou), (4, .ref od), (5, .int 0)]) hx hb dL_law_1697 hl (by decide) rfl (fun ls hl => ?_)
    refine lv_aload_n hx hb dL_law_1699 rfl (lv_at hl 3 rfl) ?_
    refine lv_aload_n hx hb dL_law_1700 rfl (lv_at hl 1 rfl) ?_
    refine lv_iload hx hb dL_law_1701 (lv_at hl 6 rfl) ?_
    refine lv_iconst (v := 1) hx hb dL_law_1703 (by decide) ?_
    refine lv_iadd hx hb dL_law_1704 ?_
    refine va_sld hx hb hX hbl hbA hS sx1 dL_law_1705 ?_
    refine lv_topi (fun x_6 ex_6 => ?_)
    obtain rfl : s1 = x_6 := (show x_6 = s1 from ex_6.trans hs1.symm).symm
    refine lv_i2c hx hb dL_law_1706 rfl ?_
    refine lv_topi (fun x_7 ex_7 => ?_)
    obtain rfl : ch1 = x_7 := (show x_7 = ch1 from ex_7.trans hch1.symm).symm
    have hPc := hP.sub (ws' := [(xm, .inr (20, [.int 0, .int 0, .ref kn, .int 0, .int 0, .int 0, .ref ml, .ref cl, .ref rg, .ref tR, .ref (aK 0), .ref (aK 0), .ref fl, .int 0, .int 0, .int 0, .int 0, .int 0, .int 0, .int 0, .null])), (ml, .inr (4, [.int 0, .ref e0, .int 0]))]) [0, 1] rfl
    have hDc := hD.sub (ws' := [(xm, .inr (20, [.int 0, .int 0, .ref kn, .int 0, .int 0, .int 0, .ref ml, .ref cl, .ref rg, .ref tR, .ref (aK 0), .ref (aK 0), .ref fl, .int 0, .int 0, .int 0, .int 0, .int 0, .int 0, .int 0, .null])), (ml, .inr (4, [.int 0, .ref e0, .int 0]))]) [0, 1] (by decide) rfl
    have hKc := hK.sub (tys' := []) [] rfl
    have hFc := va_free (wc := [(xm, .inr (20, [.int 0, .int 0, .ref kn, .int 0, .int 0, .int 0, .ref ml, .ref cl, .ref rg, .ref tR, .ref (aK 0), .ref (aK 0), .ref fl, .int 0, .int 0, .int 0, .int 0, .int 0, .int 0, .int 0, .null])), (ml, .inr (4, [.int 0, .ref e0, .int 0]))]) hD hS hA [0, 1] rfl
    refine va_calli (va_runV (As := [.int ch1]) (rest := []) ⟨hx, hb, hml, hown, hts⟩ (c_X15_record l dC dI xm ml cl fl kn rg tR e0 aK aV ch1 H.size) (cwV 1 hts gL_law_X15_record rfl rfl rfl (by decide +kernel) ⟨Nat.le_of_ble_eq_true rfl, Nat.le_of_ble_eq_true rfl⟩) (pcV hPc hDc hKc hN (ci := 20) (q0 := 0) rfl rfl) rfl rfl hl.1 rfl (lv_room (Nat.le_of_ble_eq_true rfl)) dL_law_1707 ⟨Nat.le_of_ble_eq_true rfl, Nat.le_of_ble_eq_true rfl⟩) hS (fun q _ h => hFc q h) hFc (fun r_9 u t H1 locs ht hvm hw_10 hB hz1 hk1 hS => ?_)
    obtain ⟨hP1, hK1, hD1⟩ := hB
    rw [ht] at hP1
    try dsimp only at hw_10
    obtain ⟨hP, hD⟩ := va_join (wr := [(ou, .inl (cL, 1, .inr (.inl of_3)))]) (w1 := [(xm, .inr (20, u))]) hP hD [0, 1] [2] rfl rfl (by decide) (by decide) hk1 hFc hP1 hD1
    generalize H1 = H at hP hS ⊢
    have hP : va_P (dC, dI) vwCl [(ou, .inl (cL, 1, .inr (.inl of_3))), (xm, .inr (20, u))] H := hP
    have hD : va_D A [(ou, .inl (cL, 1, .inr (.inl of_3))), (xm, .inr (20, u))] := hD
    obtain ⟨fs_8, efs_8⟩ : ∃ z, z = u := ⟨_, rfl⟩
    subst efs_8
    have hP : va_P (dC, dI) vwCl [(ou, .inl (cL, 1, .inr (.inl of_3))), (xm, .inr (20, fs_8))] H := hP
    have hD : va_D A [(ou, .inl (cL, 1, .inr (.inl of_3))), (xm, .inr (20, fs_8))] := hD
    have ht9 := hw_10.elim (fun h => h.2) (fun h => absurd h.1 hPP)
    refine lv_istore (lv' := [(7, .int r_9), (6, .int 1), (0, .ref b), (1, .ref ya), (2, .ref xm), (3, .ref ou), (4, .ref od), (5, .int 0)]) hx hb dL_law_1710 hl (by decide) rfl (fun ls hl => ?_)
    refine lv_aload_n hx hb dL_law_1712 rfl (lv_at hl 4 rfl) ?_
    have hPc := hP.sub (ws' := [(xm, .inr (20, fs_8))]) [1] rfl
    have hDc := hD.sub (ws' := [(xm, .inr (20, fs_8))]) [1] (by decide) rfl
    have hKc := hK.sub (tys' := []) [] rfl
    have hFc := va_free (wc := [(xm, .inr (20, fs_8))]) hD hS hA [1] rfl
    refine va_calli (va_runV (As := []) (rest := []) ⟨hx, hb, hml, hown, hts⟩ (c_X15_thrown l dC dI xm fs_8 1 ht9 H.size) (cwV 0 hts gL_law_X15_thrown rfl rfl rfl (by decide +kernel) ⟨Nat.le_of_ble_eq_true rfl, Nat.le_of_ble_eq_true rfl⟩) (pcV hPc hDc hKc hN (ci := 20) (q0 := 0) rfl rfl) rfl rfl hl.1 rfl (lv_room (Nat.le_of_ble_eq_true rfl)) dL_law_1713 ⟨Nat.le_of_ble_eq_true rfl, Nat.le_of_ble_eq_true rfl⟩) hS (fun q _ h => hFc q h) hFc (fun r_11 u t H1 locs ht hvm hw_12 hB hz1 hk1 hS => ?_)
    obtain ⟨hP1, hK1, hD1⟩ := hB
    rw [ht] at hP1
    try dsimp only at hw_12
    obtain ⟨hP, hD⟩ := va_join (wr := [(ou, .inl (cL, 1, .inr (.inl of_3)))]) (w1 := []) hP hD [1] [0] rfl rfl (by decide) (by decide) hk1 hFc hP1 hD1
    generalize H1 = H at hP hS ⊢
    have hP : va_P (dC, dI) vwCl [(ou, .inl (cL, 1, .inr (.inl of_3)))] H := hP
    have hD : va_D A [(ou, .inl (cL, 1, .inr (.inl of_3)))] := hD
    obtain rfl : r_11 = 1 := hw_12
    refine lv_iload hx hb dL_law_1716 (lv_at hl 1 rfl) ?_
    refine lv_icmp_eq (tgt := 1723) hx hb dL_law_1718 (by decide) (fun c1718_13 => ?_) (fun c1718_13 => ?_)
    · refine lv_iload hx hb dL_law_1723 (lv_at hl 1 rfl) ?_
      refine lv_if_ne (tgt := 1740) hx hb dL_law_1725 (by decide) (fun c1725_14 => ?_) (fun c1725_14 => ?_)
      · refine lv_goto (tgt := 2778) hx hb dL_law_1740 (by decide) ?_
        refine W.widen (k := 600006) (n := 7302039) (Nat.le_of_ble_eq_true rfl) (Nat.le_of_ble_eq_true rfl) ?_
        exact law_end hx hb hr hml hX hbl hlocks hbA hAo hS (lv_sub hl [2, 7] rfl)
      · exact absurd c1725_14 (by decide)
    · exact (c1718_13 (by decide)).elim
  · obtain rfl : r_4 = 2 := hr0
    refine lv_istore (lv' := [(6, .int 2), (0, .ref b), (1, .ref ya), (2, .ref xm), (3, .ref ou), (4, .ref od), (5, .int 0)]) hx hb dL_law_1697 hl (by decide) rfl (fun ls hl => ?_)
    refine lv_aload_n hx hb dL_law_1699 rfl (lv_at hl 3 rfl) ?_
    refine lv_aload_n hx hb dL_law_1700 rfl (lv_at hl 1 rfl) ?_
    refine lv_iload hx hb dL_law_1701 (lv_at hl 6 rfl) ?_
    refine lv_iconst (v := 1) hx hb dL_law_1703 (by decide) ?_
    refine lv_iadd hx hb dL_law_1704 ?_
    refine va_sld hx hb hX hbl hbA hS sx1 dL_law_1705 ?_
    refine lv_topi (fun x_15 ex_15 => ?_)
    obtain rfl : s1 = x_15 := (show x_15 = s1 from ex_15.trans hs1.symm).symm
    refine lv_i2c hx hb dL_law_1706 rfl ?_
    refine lv_topi (fun x_16 ex_16 => ?_)
    obtain rfl : ch1 = x_16 := (show x_16 = ch1 from ex_16.trans hch1.symm).symm
    have hPc := hP.sub (ws' := [(xm, .inr (20, [.int 0, .int 0, .ref kn, .int 0, .int 0, .int 0, .ref ml, .ref cl, .ref rg, .ref tR, .ref (aK 0), .ref (aK 0), .ref fl, .int 0, .int 0, .int 0, .int 0, .int 0, .int 0, .int 0, .null])), (ml, .inr (4, [.int 0, .ref e0, .int 0]))]) [0, 1] rfl
    have hDc := hD.sub (ws' := [(xm, .inr (20, [.int 0, .int 0, .ref kn, .int 0, .int 0, .int 0, .ref ml, .ref cl, .ref rg, .ref tR, .ref (aK 0), .ref (aK 0), .ref fl, .int 0, .int 0, .int 0, .int 0, .int 0, .int 0, .int 0, .null])), (ml, .inr (4, [.int 0, .ref e0, .int 0]))]) [0, 1] (by decide) rfl
    have hKc := hK.sub (tys' := []) [] rfl
    have hFc := va_free (wc := [(xm, .inr (20, [.int 0, .int 0, .ref kn, .int 0, .int 0, .int 0, .ref ml, .ref cl, .ref rg, .ref tR, .ref (aK 0), .ref (aK 0), .ref fl, .int 0, .int 0, .int 0, .int 0, .int 0, .int 0, .int 0, .null])), (ml, .inr (4, [.int 0, .ref e0, .int 0]))]) hD hS hA [0, 1] rfl
    refine va_calli (va_runV (As := [.int ch1]) (rest := []) ⟨hx, hb, hml, hown, hts⟩ (c_X15_record l dC dI xm ml cl fl kn rg tR e0 aK aV ch1 H.size) (cwV 1 hts gL_law_X15_record rfl rfl rfl (by decide +kernel) ⟨Nat.le_of_ble_eq_true rfl, Nat.le_of_ble_eq_true rfl⟩) (pcV hPc hDc hKc hN (ci := 20) (q0 := 0) rfl rfl) rfl rfl hl.1 rfl (lv_room (Nat.le_of_ble_eq_true rfl)) dL_law_1707 ⟨Nat.le_of_ble_eq_true rfl, Nat.le_of_ble_eq_true rfl⟩) hS (fun q _ h => hFc q h) hFc (fun r_18 u t H1 locs ht hvm hw_19 hB hz1 hk1 hS => ?_)
    obtain ⟨hP1, hK1, hD1⟩ := hB
    rw [ht] at hP1
    try dsimp only at hw_19
    obtain ⟨hP, hD⟩ := va_join (wr := [(ou, .inl (cL, 1, .inr (.inl of_3)))]) (w1 := [(xm, .inr (20, u))]) hP hD [0, 1] [2] rfl rfl (by decide) (by decide) hk1 hFc hP1 hD1
    generalize H1 = H at hP hS ⊢
    have hP : va_P (dC, dI) vwCl [(ou, .inl (cL, 1, .inr (.inl of_3))), (xm, .inr (20, u))] H := hP
    have hD : va_D A [(ou, .inl (cL, 1, .inr (.inl of_3))), (xm, .inr (20, u))] := hD
    obtain ⟨fs_17, efs_17⟩ : ∃ z, z = u := ⟨_, rfl⟩
    subst efs_17
    have hP : va_P (dC, dI) vwCl [(ou, .inl (cL, 1, .inr (.inl of_3))), (xm, .inr (20, fs_17))] H := hP
    have hD : va_D A [(ou, .inl (cL, 1, .inr (.inl of_3))), (xm, .inr (20, fs_17))] := hD
    have ht9 := hw_19.elim (fun h => absurd hPP h.1) (fun h => h.2)
    refine lv_istore (lv' := [(7, .int r_18), (6, .int 2), (0, .ref b), (1, .ref ya), (2, .ref xm), (3, .ref ou), (4, .ref od), (5, .int 0)]) hx hb dL_law_1710 hl (by decide) rfl (fun ls hl => ?_)
    refine lv_aload_n hx hb dL_law_1712 rfl (lv_at hl 4 rfl) ?_
    have hPc := hP.sub (ws' := [(xm, .inr (20, fs_17))]) [1] rfl
    have hDc := hD.sub (ws' := [(xm, .inr (20, fs_17))]) [1] (by decide) rfl
    have hKc := hK.sub (tys' := []) [] rfl
    have hFc := va_free (wc := [(xm, .inr (20, fs_17))]) hD hS hA [1] rfl
    refine va_calli (va_runV (As := []) (rest := []) ⟨hx, hb, hml, hown, hts⟩ (c_X15_thrown l dC dI xm fs_17 2 ht9 H.size) (cwV 0 hts gL_law_X15_thrown rfl rfl rfl (by decide +kernel) ⟨Nat.le_of_ble_eq_true rfl, Nat.le_of_ble_eq_true rfl⟩) (pcV hPc hDc hKc hN (ci := 20) (q0 := 0) rfl rfl) rfl rfl hl.1 rfl (lv_room (Nat.le_of_ble_eq_true rfl)) dL_law_1713 ⟨Nat.le_of_ble_eq_true rfl, Nat.le_of_ble_eq_true rfl⟩) hS (fun q _ h => hFc q h) hFc (fun r_20 u t H1 locs ht hvm hw_21 hB hz1 hk1 hS => ?_)
    obtain ⟨hP1, hK1, hD1⟩ := hB
    rw [ht] at hP1
    try dsimp only at hw_21
    obtain ⟨hP, hD⟩ := va_join (wr := [(ou, .inl (cL, 1, .inr (.inl of_3)))]) (w1 := []) hP hD [1] [0] rfl rfl (by decide) (by decide) hk1 hFc hP1 hD1
    generalize H1 = H at hP hS ⊢
    have hP : va_P (dC, dI) vwCl [(ou, .inl (cL, 1, .inr (.inl of_3)))] H := hP
    have hD : va_D A [(ou, .inl (cL, 1, .inr (.inl of_3)))] := hD
    obtain rfl : r_20 = 2 := hw_21
    refine lv_iload hx hb dL_law_1716 (lv_at hl 1 rfl) ?_
    refine lv_icmp_eq (tgt := 1723) hx hb dL_law_1718 (by decide) (fun c1718_22 => ?_) (fun c1718_22 => ?_)
    · refine lv_iload hx hb dL_law_1723 (lv_at hl 1 rfl) ?_
      refine lv_if_ne (tgt := 1740) hx hb dL_law_1725 (by decide) (fun c1725_23 => ?_) (fun c1725_23 => ?_)
      · refine lv_goto (tgt := 2778) hx hb dL_law_1740 (by decide) ?_
        refine W.widen (k := 600006) (n := 7302039) (Nat.le_of_ble_eq_true rfl) (Nat.le_of_ble_eq_true rfl) ?_
        exact law_end hx hb hr hml hX hbl hlocks hbA hAo hS (lv_sub hl [2, 7] rfl)
      · exact absurd c1725_23 (by decide)
    · exact (c1718_22 (by decide)).elim

set_option maxHeartbeats 8000000 in
set_option maxRecDepth 100000 in
/-- the law: law_21_tell -/
theorem law_21_tell {p : Program} {e : Env} {s : State} {m : MethodId} {below : List Frame} {meth : Method} {c : Code} {l : Launch} {b : Nat} {xs : Nat → Int32} (hx : p.tables.exec = Jvm.exec) (hb : c.code = cL_law) (hr : meth.sig.returnType = ret) (hml : c.maxLocals = 9) (hfl : l.stackTraces = false) (hown : s.vm.findClass RL = some m.cls) (hts : ∀ w ∈ wsL_law, w.before #[Value.ref b] s = true) (hX : va_X b 7 xs s s.heap) (hbl : b < s.heap.size) (hlocks : meth.locks = false) {A : Nat → Prop} (hbA : ¬ A b) (hAo : ∀ q, A q → s.heap.size ≤ q) (hA : ∀ q : Nat, s.heap.size ≤ q → A q) (dC : Nat → ClassId) (dI : Nat → Nat → Nat) (hN : nwA s) (e0 : Nat) (aK aV : Nat → Nat) (hZ : zX A s s.heap ∧ zM e0 aK aV A s s.heap) (ya ms ju rj tj ro rn tn rh th ca sa da xa wb z1 z2 jt z3 br z4 z5 z6 lk z7 z8 li bm l2 z9 bo h2 mm l1 z10 oo h1 ct cr cu cg cp co tg ts tr tk te fw fo fu xm ml cl fl rg tR ou od kn : Nat) (cI cM cS cL cD cB : ClassId) {H : Heap} {locs : List Loc} (hP : va_P (dC, dI) vwCl [(ya, .inr (16, [.ref ms, .int 0, .ref ju, .ref li, .ref ct, .ref tg, .ref fw])), (ou, .inl (cL, 1, .inr (.inl (fun _ => 0)))), (xm, .inr (20, [.int 0, .int 0, .ref kn, .int 0, .int 0, .int 0, .ref ml, .ref cl, .ref rg, .ref tR, .ref (aK 0), .ref (aK 0), .ref fl, .int 0, .int 0, .int 0, .int 0, .int 0, .int 0, .int 0, .null])), (ml, .inr (4, [.int 0, .ref e0, .int 0]))] H) (hD : va_D A [(ya, .inr (16, [.ref ms, .int 0, .ref ju, .ref li, .ref ct, .ref tg, .ref fw])), (ou, .inl (cL, 1, .inr (.inl (fun _ => 0)))), (xm, .inr (20, [.int 0, .int 0, .ref kn, .int 0, .int 0, .int 0, .ref ml, .ref cl, .ref rg, .ref tR, .ref (aK 0), .ref (aK 0), .ref fl, .int 0, .int 0, .int 0, .int 0, .int 0, .int 0, .int 0, .null])), (ml, .inr (4, [.int 0, .ref e0, .int 0]))]) (hK : va_K (dC, dI) vwCl [(cL, .long)] s) (hS : va_S A s.heap H locs) {ls : Array Slot} (hl : lv_has ls 9 [(0, .ref b), (1, .ref ya), (2, .ref xm), (3, .ref ou), (4, .ref od), (5, .int 0)]) : W p l e room_1 s m #[Value.ref b] below meth c H locs 200 60000 (lw_Z below #[Value.ref b] s) (F0 m 1743 ls []) := by
  obtain ⟨s1, hs1⟩ : ∃ z, z = xs ((0 : Int32) + 1).toNatClampNeg := ⟨_, rfl⟩
  obtain ⟨s2, hs2⟩ : ∃ z, z = xs ((0 : Int32) + 2).toNatClampNeg := ⟨_, rfl⟩
  obtain ⟨s3, hs3⟩ : ∃ z, z = xs ((0 : Int32) + 3).toNatClampNeg := ⟨_, rfl⟩
  obtain ⟨s4, hs4⟩ : ∃ z, z = xs ((0 : Int32) + 4).toNatClampNeg := ⟨_, rfl⟩
  obtain ⟨s5, hs5⟩ : ∃ z, z = xs ((0 : Int32) + 5).toNatClampNeg := ⟨_, rfl⟩
  obtain ⟨s6, hs6⟩ : ∃ z, z = xs ((0 : Int32) + 6).toNatClampNeg := ⟨_, rfl⟩
  obtain ⟨ch1, hch1⟩ : ∃ z, z = (s1.toUInt32 % 65536).toInt32 := ⟨_, rfl⟩
  obtain ⟨ch2, hch2⟩ : ∃ z, z = (s2.toUInt32 % 65536).toInt32 := ⟨_, rfl⟩
  obtain ⟨ch3, hch3⟩ : ∃ z, z = (s3.toUInt32 % 65536).toInt32 := ⟨_, rfl⟩
  obtain ⟨ch4, hch4⟩ : ∃ z, z = (s4.toUInt32 % 65536).toInt32 := ⟨_, rfl⟩
  obtain ⟨ch5, hch5⟩ : ∃ z, z = (s5.toUInt32 % 65536).toInt32 := ⟨_, rfl⟩
  obtain ⟨ch6, hch6⟩ : ∃ z, z = (s6.toUInt32 % 65536).toInt32 := ⟨_, rfl⟩
  refine lv_aload_n hx hb dL_law_1743 rfl (lv_at hl 1 rfl) ?_
  refine lv_aload_n hx hb dL_law_1744 rfl (lv_at hl 0 rfl) ?_
  refine lv_iload hx hb dL_law_1745 (lv_at hl 5 rfl) ?_
  refine lv_iconst (v := 1) hx hb dL_law_1747 (by decide) ?_
  refine lv_iadd hx hb dL_law_1748 ?_
  refine va_sld hx hb hX hbl hbA hS sx1 dL_law_1749 ?_
  refine lv_topi (fun x_1 ex_1 => ?_)
  obtain rfl : s1 = x_1 := (show x_1 = s1 from ex_1.trans hs1.symm).symm
  refine lv_aload_n hx hb dL_law_1750 rfl (lv_at hl 0 rfl) ?_
  refine lv_iload hx hb dL_law_1751 (lv_at hl 5 rfl) ?_
  refine lv_iconst (v := 2) hx hb dL_law_1753 (by decide) ?_
  refine lv_iadd hx hb dL_law_1754 ?_
  refine va_sld hx hb hX hbl hbA hS sx2 dL_law_1755 ?_
  refine lv_topi (fun x_2 ex_2 => ?_)
  obtain rfl : s2 = x_2 := (show x_2 = s2 from ex_2.trans hs2.symm).symm
  refine lv_aload_n hx hb dL_law_1756 rfl (lv_at hl 0 rfl) ?_
  refine lv_iload hx hb dL_law_1757 (lv_at hl 5 rfl) ?_
  refine lv_iconst (v := 3) hx hb dL_law_1759 (by decide) ?_
  refine lv_iadd hx hb dL_law_1760 ?_
  refine va_sld hx hb hX hbl hbA hS sx3 dL_law_1761 ?_
  refine lv_topi (fun x_3 ex_3 => ?_)
  obtain rfl : s3 = x_3 := (show x_3 = s3 from ex_3.trans hs3.symm).symm
  refine lv_i2c hx hb dL_law_1762 rfl ?_
  refine lv_topi (fun x_4 ex_4 => ?_)
  obtain rfl : ch3 = x_4 := (show x_4 = ch3 from ex_4.trans hch3.symm).symm
  refine lv_aload_n hx hb dL_law_1763 rfl (lv_at hl 3 rfl) ?_
  have hPc := hP.sub (ws' := [(ya, .inr (16, [.ref ms, .int 0, .ref ju, .ref li, .ref ct, .ref tg, .ref fw])), (ou, .inl (cL, 1, .inr (.inl (fun _ => 0))))]) [0, 1] rfl
  have hDc := hD.sub (ws' := [(ya, .inr (16, [.ref ms, .int 0, .ref ju, .ref li, .ref ct, .ref tg, .ref fw])), (ou, .inl (cL, 1, .inr (.inl (fun _ => 0))))]) [0, 1] (by decide) rfl
  have hKc := hK.sub (tys' := [(cL, .long)]) [0] rfl
  have hFc := va_free (wc := [(ya, .inr (16, [.ref ms, .int 0, .ref ju, .ref li, .ref ct, .ref tg, .ref fw])), (ou, .inl (cL, 1, .inr (.inl (fun _ => 0))))]) hD hS hA [0, 1] rfl
  refine vx_calli (vx_runSX (As := [.ref ya, .int s1, .int s2, .int ch3, .ref ou]) (rest := []) ⟨hx, hb, hml, hown, hts⟩ (c_L_tell l hfl dC dI ya ms ju li ct tg fw s1 s2 ch3 cL ou (fun _ => 0) H.size) (vx_cwSW 5 hts gL_law_L_tell rfl rfl rfl (by decide +kernel) ⟨Nat.le_of_ble_eq_true rfl, Nat.le_of_ble_eq_true rfl⟩) (pcSz (zX_ok) hPc hDc hKc hN hZ.1 hS hFc) rfl rfl hl.1 rfl (lv_room (Nat.le_of_ble_eq_true rfl)) dL_law_1764 ⟨Nat.le_of_ble_eq_true rfl, Nat.le_of_ble_eq_true rfl⟩) hS (fun q _ h => hFc q h) hFc (fun q _ h => hFc q h) (fun E9 ce9 q9 u9 t9 H9 locs9 ht9 hvm9 hp9 hE9 hz9 hk9 hS9 hc9 hv9 hcl9 => hE9.elim) (fun r_6 u t H1 locs ht hvm hw_7 hB hz1 hk1 hS => ?_)
  obtain ⟨hP1, hK1, hD1⟩ := hB
  rw [ht] at hP1
  try dsimp only at hw_7
  obtain ⟨hP, hD⟩ := va_join (wr := [(xm, .inr (20, [.int 0, .int 0, .ref kn, .int 0, .int 0, .int 0, .ref ml, .ref cl, .ref rg, .ref tR, .ref (aK 0), .ref (aK 0), .ref fl, .int 0, .int 0, .int 0, .int 0, .int 0, .int 0, .int 0, .null])), (ml, .inr (4, [.int 0, .ref e0, .int 0]))]) (w1 := [(ou, .inl (cL, 1, .inr (.inl u)))]) hP hD [0, 1] [2, 3] rfl rfl (by decide) (by decide) hk1 hFc hP1 hD1
  generalize H1 = H at hP hS ⊢
  have hP : va_P (dC, dI) vwCl [(xm, .inr (20, [.int 0, .int 0, .ref kn, .int 0, .int 0, .int 0, .ref ml, .ref cl, .ref rg, .ref tR, .ref (aK 0), .ref (aK 0), .ref fl, .int 0, .int 0, .int 0, .int 0, .int 0, .int 0, .int 0, .null])), (ml, .inr (4, [.int 0, .ref e0, .int 0])), (ou, .inl (cL, 1, .inr (.inl u)))] H := hP
  have hD : va_D A [(xm, .inr (20, [.int 0, .int 0, .ref kn, .int 0, .int 0, .int 0, .ref ml, .ref cl, .ref rg, .ref tR, .ref (aK 0), .ref (aK 0), .ref fl, .int 0, .int 0, .int 0, .int 0, .int 0, .int 0, .int 0, .null])), (ml, .inr (4, [.int 0, .ref e0, .int 0])), (ou, .inl (cL, 1, .inr (.inl u)))] := hD
  refine W.widen (k := 201) (n := 60006) (Nat.le_of_ble_eq_true rfl) (Nat.le_of_ble_eq_true rfl) ?_
  obtain ⟨of_5, eof_5⟩ : ∃ z, z = u := ⟨_, rfl⟩
  subst eof_5
  have hP : va_P (dC, dI) vwCl [(xm, .inr (20, [.int 0, .int 0, .ref kn, .int 0, .int 0, .int 0, .ref ml, .ref cl, .ref rg, .ref tR, .ref (aK 0), .ref (aK 0), .ref fl, .int 0, .int 0, .int 0, .int 0, .int 0, .int 0, .int 0, .null])), (ml, .inr (4, [.int 0, .ref e0, .int 0])), (ou, .inl (cL, 1, .inr (.inl of_5)))] H := hP
  have hD : va_D A [(xm, .inr (20, [.int 0, .int 0, .ref kn, .int 0, .int 0, .int 0, .ref ml, .ref cl, .ref rg, .ref tR, .ref (aK 0), .ref (aK 0), .ref fl, .int 0, .int 0, .int 0, .int 0, .int 0, .int 0, .int 0, .null])), (ml, .inr (4, [.int 0, .ref e0, .int 0])), (ou, .inl (cL, 1, .inr (.inl of_5)))] := hD
  obtain rfl : r_6 = 1 := hw_7
  refine lv_istore (lv' := [(6, .int 1), (0, .ref b), (1, .ref ya), (2, .ref xm), (3, .ref ou), (4, .ref od), (5, .int 0)]) hx hb dL_law_1767 hl (by decide) rfl (fun ls hl => ?_)
  refine lv_aload_n hx hb dL_law_1769 rfl (lv_at hl 3 rfl) ?_
  refine lv_aload_n hx hb dL_law_1770 rfl (lv_at hl 1 rfl) ?_
  refine lv_iload hx hb dL_law_1771 (lv_at hl 6 rfl) ?_
  refine lv_iconst (v := 1) hx hb dL_law_1773 (by decide) ?_
  refine lv_iadd hx hb dL_law_1774 ?_
  refine va_sld hx hb hX hbl hbA hS sx1 dL_law_1775 ?_
  refine lv_topi (fun x_8 ex_8 => ?_)
  obtain rfl : s1 = x_8 := (show x_8 = s1 from ex_8.trans hs1.symm).symm
  refine lv_aload_n hx hb dL_law_1776 rfl (lv_at hl 1 rfl) ?_
  refine lv_iload hx hb dL_law_1777 (lv_at hl 6 rfl) ?_
  refine lv_iconst (v := 2) hx hb dL_law_1779 (by decide) ?_
  refine lv_iadd hx hb dL_law_1780 ?_
  refine va_sld hx hb hX hbl hbA hS sx2 dL_law_1781 ?_
  refine lv_topi (fun x_9 ex_9 => ?_)
  obtain rfl : s2 = x_9 := (show x_9 = s2 from ex_9.trans hs2.symm).symm
  refine lv_aload_n hx hb dL_law_1782 rfl (lv_at hl 1 rfl) ?_
  refine lv_iload hx hb dL_law_1783 (lv_at hl 6 rfl) ?_
  refine lv_iconst (v := 3) hx hb dL_law_1785 (by decide) ?_
  refine lv_iadd hx hb dL_law_1786 ?_
  refine va_sld hx hb hX hbl hbA hS sx3 dL_law_1787 ?_
  refine lv_topi (fun x_10 ex_10 => ?_)
  obtain rfl : s3 = x_10 := (show x_10 = s3 from ex_10.trans hs3.symm).symm
  refine lv_i2c hx hb dL_law_1788 rfl ?_
  refine lv_topi (fun x_11 ex_11 => ?_)
  obtain rfl : ch3 = x_11 := (show x_11 = ch3 from ex_11.trans hch3.symm).symm
  have hPc := hP.sub (ws' := [(xm, .inr (20, [.int 0, .int 0, .ref kn, .int 0, .int 0, .int 0, .ref ml, .ref cl, .ref rg, .ref tR, .ref (aK 0), .ref (aK 0), .ref fl, .int 0, .int 0, .int 0, .int 0, .int 0, .int 0, .int 0, .null])), (ml, .inr (4, [.int 0, .ref e0, .int 0]))]) [0, 1] rfl
  have hDc := hD.sub (ws' := [(xm, .inr (20, [.int 0, .int 0, .ref kn, .int 0, .int 0, .int 0, .ref ml, .ref cl, .ref rg, .ref tR, .ref (aK 0), .ref (aK 0), .ref fl, .int 0, .int 0, .int 0, .int 0, .int 0, .int 0, .int 0, .null])), (ml, .inr (4, [.int 0, .ref e0, .int 0]))]) [0, 1] (by decide) rfl
  have hKc := hK.sub (tys' := []) [] rfl
  have hFc := va_free (wc := [(xm, .inr (20, [.int 0, .int 0, .ref kn, .int 0, .int 0, .int 0, .ref ml, .ref cl, .ref rg, .ref tR, .ref (aK 0), .ref (aK 0), .ref fl, .int 0, .int 0, .int 0, .int 0, .int 0, .int 0, .int 0, .null])), (ml, .inr (4, [.int 0, .ref e0, .int 0]))]) hD hS hA [0, 1] rfl
  refine va_calli (va_runV (As := [.int s1, .int s2, .int ch3]) (rest := []) ⟨hx, hb, hml, hown, hts⟩ (c_X15_tell l dC dI xm ml cl fl kn rg tR e0 aK aV s1 s2 ch3 H.size) (cwV 3 hts gL_law_X15_tell rfl rfl rfl (by decide +kernel) ⟨Nat.le_of_ble_eq_true rfl, Nat.le_of_ble_eq_true rfl⟩) (pcV hPc hDc hKc hN (ci := 20) (q0 := 0) rfl rfl) rfl rfl hl.1 rfl (lv_room (Nat.le_of_ble_eq_true rfl)) dL_law_1789 ⟨Nat.le_of_ble_eq_true rfl, Nat.le_of_ble_eq_true rfl⟩) hS (fun q _ h => hFc q h) hFc (fun r_13 u t H1 locs ht hvm hw_14 hB hz1 hk1 hS => ?_)
  obtain ⟨hP1, hK1, hD1⟩ := hB
  rw [ht] at hP1
  try dsimp only at hw_14
  obtain ⟨hP, hD⟩ := va_join (wr := [(ou, .inl (cL, 1, .inr (.inl of_5)))]) (w1 := [(xm, .inr (20, u))]) hP hD [0, 1] [2] rfl rfl (by decide) (by decide) hk1 hFc hP1 hD1
  generalize H1 = H at hP hS ⊢
  have hP : va_P (dC, dI) vwCl [(ou, .inl (cL, 1, .inr (.inl of_5))), (xm, .inr (20, u))] H := hP
  have hD : va_D A [(ou, .inl (cL, 1, .inr (.inl of_5))), (xm, .inr (20, u))] := hD
  obtain ⟨fs_12, efs_12⟩ : ∃ z, z = u := ⟨_, rfl⟩
  subst efs_12
  have hP : va_P (dC, dI) vwCl [(ou, .inl (cL, 1, .inr (.inl of_5))), (xm, .inr (20, fs_12))] H := hP
  have hD : va_D A [(ou, .inl (cL, 1, .inr (.inl of_5))), (xm, .inr (20, fs_12))] := hD
  refine lv_istore (lv' := [(7, .int r_13), (6, .int 1), (0, .ref b), (1, .ref ya), (2, .ref xm), (3, .ref ou), (4, .ref od), (5, .int 0)]) hx hb dL_law_1792 hl (by decide) rfl (fun ls hl => ?_)
  refine lv_aload_n hx hb dL_law_1794 rfl (lv_at hl 4 rfl) ?_
  have hPc := hP.sub (ws' := [(xm, .inr (20, fs_12))]) [1] rfl
  have hDc := hD.sub (ws' := [(xm, .inr (20, fs_12))]) [1] (by decide) rfl
  have hKc := hK.sub (tys' := []) [] rfl
  have hFc := va_free (wc := [(xm, .inr (20, fs_12))]) hD hS hA [1] rfl
  refine va_calli (va_runV (As := []) (rest := []) ⟨hx, hb, hml, hown, hts⟩ (c_X15_thrown l dC dI xm fs_12 1 hw_14 H.size) (cwV 0 hts gL_law_X15_thrown rfl rfl rfl (by decide +kernel) ⟨Nat.le_of_ble_eq_true rfl, Nat.le_of_ble_eq_true rfl⟩) (pcV hPc hDc hKc hN (ci := 20) (q0 := 0) rfl rfl) rfl rfl hl.1 rfl (lv_room (Nat.le_of_ble_eq_true rfl)) dL_law_1795 ⟨Nat.le_of_ble_eq_true rfl, Nat.le_of_ble_eq_true rfl⟩) hS (fun q _ h => hFc q h) hFc (fun r_15 u t H1 locs ht hvm hw_16 hB hz1 hk1 hS => ?_)
  obtain ⟨hP1, hK1, hD1⟩ := hB
  rw [ht] at hP1
  try dsimp only at hw_16
  obtain ⟨hP, hD⟩ := va_join (wr := [(ou, .inl (cL, 1, .inr (.inl of_5)))]) (w1 := []) hP hD [1] [0] rfl rfl (by decide) (by decide) hk1 hFc hP1 hD1
  generalize H1 = H at hP hS ⊢
  have hP : va_P (dC, dI) vwCl [(ou, .inl (cL, 1, .inr (.inl of_5)))] H := hP
  have hD : va_D A [(ou, .inl (cL, 1, .inr (.inl of_5)))] := hD
  obtain rfl : r_15 = 1 := hw_16
  refine lv_iload hx hb dL_law_1798 (lv_at hl 1 rfl) ?_
  refine lv_icmp_eq (tgt := 1805) hx hb dL_law_1800 (by decide) (fun c1800_17 => ?_) (fun c1800_17 => ?_)
  · refine lv_iload hx hb dL_law_1805 (lv_at hl 1 rfl) ?_
    refine lv_if_ne (tgt := 1822) hx hb dL_law_1807 (by decide) (fun c1807_18 => ?_) (fun c1807_18 => ?_)
    · refine lv_goto (tgt := 2778) hx hb dL_law_1822 (by decide) ?_
      refine W.widen (k := 600006) (n := 7302039) (Nat.le_of_ble_eq_true rfl) (Nat.le_of_ble_eq_true rfl) ?_
      exact law_end hx hb hr hml hX hbl hlocks hbA hAo hS (lv_sub hl [2, 7] rfl)
    · exact absurd c1807_18 (by decide)
  · exact (c1800_17 (by decide)).elim

set_option maxHeartbeats 8000000 in
set_option maxRecDepth 100000 in
/-- the law: law_22_isDisputed -/
theorem law_22_isDisputed {p : Program} {e : Env} {s : State} {m : MethodId} {below : List Frame} {meth : Method} {c : Code} {l : Launch} {b : Nat} {xs : Nat → Int32} (hx : p.tables.exec = Jvm.exec) (hb : c.code = cL_law) (hr : meth.sig.returnType = ret) (hml : c.maxLocals = 9) (hfl : l.stackTraces = false) (hown : s.vm.findClass RL = some m.cls) (hts : ∀ w ∈ wsL_law, w.before #[Value.ref b] s = true) (hX : va_X b 7 xs s s.heap) (hbl : b < s.heap.size) (hlocks : meth.locks = false) {A : Nat → Prop} (hbA : ¬ A b) (hAo : ∀ q, A q → s.heap.size ≤ q) (hA : ∀ q : Nat, s.heap.size ≤ q → A q) (dC : Nat → ClassId) (dI : Nat → Nat → Nat) (hN : nwA s) (e0 : Nat) (aK aV : Nat → Nat) (hZ : zX A s s.heap ∧ zM e0 aK aV A s s.heap) (ya ms ju rj tj ro rn tn rh th ca sa da xa wb z1 z2 jt z3 br z4 z5 z6 lk z7 z8 li bm l2 z9 bo h2 mm l1 z10 oo h1 ct cr cu cg cp co tg ts tr tk te fw fo fu xm ml cl fl rg tR ou od kn : Nat) (cI cM cS cL cD cB : ClassId) {H : Heap} {locs : List Loc} (hP : va_P (dC, dI) vwCl [(ya, .inr (16, [.ref ms, .int 0, .ref ju, .ref li, .ref ct, .ref tg, .ref fw])), (ou, .inl (cL, 1, .inr (.inl (fun _ => 0)))), (xm, .inr (20, [.int 0, .int 0, .ref kn, .int 0, .int 0, .int 0, .ref ml, .ref cl, .ref rg, .ref tR, .ref (aK 0), .ref (aK 0), .ref fl, .int 0, .int 0, .int 0, .int 0, .int 0, .int 0, .int 0, .null])), (ml, .inr (4, [.int 0, .ref e0, .int 0]))] H) (hD : va_D A [(ya, .inr (16, [.ref ms, .int 0, .ref ju, .ref li, .ref ct, .ref tg, .ref fw])), (ou, .inl (cL, 1, .inr (.inl (fun _ => 0)))), (xm, .inr (20, [.int 0, .int 0, .ref kn, .int 0, .int 0, .int 0, .ref ml, .ref cl, .ref rg, .ref tR, .ref (aK 0), .ref (aK 0), .ref fl, .int 0, .int 0, .int 0, .int 0, .int 0, .int 0, .int 0, .null])), (ml, .inr (4, [.int 0, .ref e0, .int 0]))]) (hK : va_K (dC, dI) vwCl [(cL, .long)] s) (hS : va_S A s.heap H locs) {ls : Array Slot} (hl : lv_has ls 9 [(0, .ref b), (1, .ref ya), (2, .ref xm), (3, .ref ou), (4, .ref od), (5, .int 0)]) : W p l e room_1 s m #[Value.ref b] below meth c H locs 200 60000 (lw_Z below #[Value.ref b] s) (F0 m 1825 ls []) := by
  obtain ⟨s1, hs1⟩ : ∃ z, z = xs ((0 : Int32) + 1).toNatClampNeg := ⟨_, rfl⟩
  obtain ⟨s2, hs2⟩ : ∃ z, z = xs ((0 : Int32) + 2).toNatClampNeg := ⟨_, rfl⟩
  obtain ⟨s3, hs3⟩ : ∃ z, z = xs ((0 : Int32) + 3).toNatClampNeg := ⟨_, rfl⟩
  obtain ⟨s4, hs4⟩ : ∃ z, z = xs ((0 : Int32) + 4).toNatClampNeg := ⟨_, rfl⟩
  obtain ⟨s5, hs5⟩ : ∃ z, z = xs ((0 : Int32) + 5).toNatClampNeg := ⟨_, rfl⟩
  obtain ⟨s6, hs6⟩ : ∃ z, z = xs ((0 : Int32) + 6).toNatClampNeg := ⟨_, rfl⟩
  obtain ⟨ch1, hch1⟩ : ∃ z, z = (s1.toUInt32 % 65536).toInt32 := ⟨_, rfl⟩
  obtain ⟨ch2, hch2⟩ : ∃ z, z = (s2.toUInt32 % 65536).toInt32 := ⟨_, rfl⟩
  obtain ⟨ch3, hch3⟩ : ∃ z, z = (s3.toUInt32 % 65536).toInt32 := ⟨_, rfl⟩
  obtain ⟨ch4, hch4⟩ : ∃ z, z = (s4.toUInt32 % 65536).toInt32 := ⟨_, rfl⟩
  obtain ⟨ch5, hch5⟩ : ∃ z, z = (s5.toUInt32 % 65536).toInt32 := ⟨_, rfl⟩
  obtain ⟨ch6, hch6⟩ : ∃ z, z = (s6.toUInt32 % 65536).toInt32 := ⟨_, rfl⟩
  refine lv_aload_n hx hb dL_law_1825 rfl (lv_at hl 1 rfl) ?_
  refine lv_aload_n hx hb dL_law_1826 rfl (lv_at hl 0 rfl) ?_
  refine lv_iload hx hb dL_law_1827 (lv_at hl 5 rfl) ?_
  refine lv_iconst (v := 1) hx hb dL_law_1829 (by decide) ?_
  refine lv_iadd hx hb dL_law_1830 ?_
  refine va_sld hx hb hX hbl hbA hS sx1 dL_law_1831 ?_
  refine lv_topi (fun x_1 ex_1 => ?_)
  obtain rfl : s1 = x_1 := (show x_1 = s1 from ex_1.trans hs1.symm).symm
  refine lv_aload_n hx hb dL_law_1832 rfl (lv_at hl 3 rfl) ?_
  have hPc := hP.sub (ws' := [(ya, .inr (16, [.ref ms, .int 0, .ref ju, .ref li, .ref ct, .ref tg, .ref fw])), (ou, .inl (cL, 1, .inr (.inl (fun _ => 0))))]) [0, 1] rfl
  have hDc := hD.sub (ws' := [(ya, .inr (16, [.ref ms, .int 0, .ref ju, .ref li, .ref ct, .ref tg, .ref fw])), (ou, .inl (cL, 1, .inr (.inl (fun _ => 0))))]) [0, 1] (by decide) rfl
  have hKc := hK.sub (tys' := [(cL, .long)]) [0] rfl
  have hFc := va_free (wc := [(ya, .inr (16, [.ref ms, .int 0, .ref ju, .ref li, .ref ct, .ref tg, .ref fw])), (ou, .inl (cL, 1, .inr (.inl (fun _ => 0))))]) hD hS hA [0, 1] rfl
  refine vx_calli (vx_runSX (As := [.ref ya, .int s1, .ref ou]) (rest := []) ⟨hx, hb, hml, hown, hts⟩ (c_L_isDisputed l hfl dC dI ya ms ju li ct tg fw s1 cL ou (fun _ => 0) H.size) (vx_cwSW 3 hts gL_law_L_isDisputed rfl rfl rfl (by decide +kernel) ⟨Nat.le_of_ble_eq_true rfl, Nat.le_of_ble_eq_true rfl⟩) (pcSz (zX_ok) hPc hDc hKc hN hZ.1 hS hFc) rfl rfl hl.1 rfl (lv_room (Nat.le_of_ble_eq_true rfl)) dL_law_1833 ⟨Nat.le_of_ble_eq_true rfl, Nat.le_of_ble_eq_true rfl⟩) hS (fun q _ h => hFc q h) hFc (fun q _ h => hFc q h) (fun E9 ce9 q9 u9 t9 H9 locs9 ht9 hvm9 hp9 hE9 hz9 hk9 hS9 hc9 hv9 hcl9 => hE9.elim) (fun r_3 u t H1 locs ht hvm hw_4 hB hz1 hk1 hS => ?_)
  obtain ⟨hP1, hK1, hD1⟩ := hB
  rw [ht] at hP1
  try dsimp only at hw_4
  obtain ⟨hP, hD⟩ := va_join (wr := [(xm, .inr (20, [.int 0, .int 0, .ref kn, .int 0, .int 0, .int 0, .ref ml, .ref cl, .ref rg, .ref tR, .ref (aK 0), .ref (aK 0), .ref fl, .int 0, .int 0, .int 0, .int 0, .int 0, .int 0, .int 0, .null])), (ml, .inr (4, [.int 0, .ref e0, .int 0]))]) (w1 := [(ou, .inl (cL, 1, .inr (.inl u)))]) hP hD [0, 1] [2, 3] rfl rfl (by decide) (by decide) hk1 hFc hP1 hD1
  generalize H1 = H at hP hS ⊢
  have hP : va_P (dC, dI) vwCl [(xm, .inr (20, [.int 0, .int 0, .ref kn, .int 0, .int 0, .int 0, .ref ml, .ref cl, .ref rg, .ref tR, .ref (aK 0), .ref (aK 0), .ref fl, .int 0, .int 0, .int 0, .int 0, .int 0, .int 0, .int 0, .null])), (ml, .inr (4, [.int 0, .ref e0, .int 0])), (ou, .inl (cL, 1, .inr (.inl u)))] H := hP
  have hD : va_D A [(xm, .inr (20, [.int 0, .int 0, .ref kn, .int 0, .int 0, .int 0, .ref ml, .ref cl, .ref rg, .ref tR, .ref (aK 0), .ref (aK 0), .ref fl, .int 0, .int 0, .int 0, .int 0, .int 0, .int 0, .int 0, .null])), (ml, .inr (4, [.int 0, .ref e0, .int 0])), (ou, .inl (cL, 1, .inr (.inl u)))] := hD
  refine W.widen (k := 201) (n := 60006) (Nat.le_of_ble_eq_true rfl) (Nat.le_of_ble_eq_true rfl) ?_
  obtain ⟨of_2, eof_2⟩ : ∃ z, z = u := ⟨_, rfl⟩
  subst eof_2
  have hP : va_P (dC, dI) vwCl [(xm, .inr (20, [.int 0, .int 0, .ref kn, .int 0, .int 0, .int 0, .ref ml, .ref cl, .ref rg, .ref tR, .ref (aK 0), .ref (aK 0), .ref fl, .int 0, .int 0, .int 0, .int 0, .int 0, .int 0, .int 0, .null])), (ml, .inr (4, [.int 0, .ref e0, .int 0])), (ou, .inl (cL, 1, .inr (.inl of_2)))] H := hP
  have hD : va_D A [(xm, .inr (20, [.int 0, .int 0, .ref kn, .int 0, .int 0, .int 0, .ref ml, .ref cl, .ref rg, .ref tR, .ref (aK 0), .ref (aK 0), .ref fl, .int 0, .int 0, .int 0, .int 0, .int 0, .int 0, .int 0, .null])), (ml, .inr (4, [.int 0, .ref e0, .int 0])), (ou, .inl (cL, 1, .inr (.inl of_2)))] := hD
  obtain rfl : r_3 = 1 := hw_4
  refine lv_istore (lv' := [(6, .int 1), (0, .ref b), (1, .ref ya), (2, .ref xm), (3, .ref ou), (4, .ref od), (5, .int 0)]) hx hb dL_law_1836 hl (by decide) rfl (fun ls hl => ?_)
  refine lv_aload_n hx hb dL_law_1838 rfl (lv_at hl 3 rfl) ?_
  refine lv_aload_n hx hb dL_law_1839 rfl (lv_at hl 1 rfl) ?_
  refine lv_iload hx hb dL_law_1840 (lv_at hl 6 rfl) ?_
  refine lv_iconst (v := 1) hx hb dL_law_1842 (by decide) ?_
  refine lv_iadd hx hb dL_law_1843 ?_
  refine va_sld hx hb hX hbl hbA hS sx1 dL_law_1844 ?_
  refine lv_topi (fun x_5 ex_5 => ?_)
  obtain rfl : s1 = x_5 := (show x_5 = s1 from ex_5.trans hs1.symm).symm
  have hPc := hP.sub (ws' := [(xm, .inr (20, [.int 0, .int 0, .ref kn, .int 0, .int 0, .int 0, .ref ml, .ref cl, .ref rg, .ref tR, .ref (aK 0), .ref (aK 0), .ref fl, .int 0, .int 0, .int 0, .int 0, .int 0, .int 0, .int 0, .null])), (ml, .inr (4, [.int 0, .ref e0, .int 0]))]) [0, 1] rfl
  have hDc := hD.sub (ws' := [(xm, .inr (20, [.int 0, .int 0, .ref kn, .int 0, .int 0, .int 0, .ref ml, .ref cl, .ref rg, .ref tR, .ref (aK 0), .ref (aK 0), .ref fl, .int 0, .int 0, .int 0, .int 0, .int 0, .int 0, .int 0, .null])), (ml, .inr (4, [.int 0, .ref e0, .int 0]))]) [0, 1] (by decide) rfl
  have hKc := hK.sub (tys' := []) [] rfl
  have hFc := va_free (wc := [(xm, .inr (20, [.int 0, .int 0, .ref kn, .int 0, .int 0, .int 0, .ref ml, .ref cl, .ref rg, .ref tR, .ref (aK 0), .ref (aK 0), .ref fl, .int 0, .int 0, .int 0, .int 0, .int 0, .int 0, .int 0, .null])), (ml, .inr (4, [.int 0, .ref e0, .int 0]))]) hD hS hA [0, 1] rfl
  refine va_calli (va_runV (As := [.int s1]) (rest := []) ⟨hx, hb, hml, hown, hts⟩ (c_X15_isDisputed l dC dI xm ml cl fl kn rg tR e0 aK aV s1 H.size) (cwV 1 hts gL_law_X15_isDisputed rfl rfl rfl (by decide +kernel) ⟨Nat.le_of_ble_eq_true rfl, Nat.le_of_ble_eq_true rfl⟩) (pcV hPc hDc hKc hN (ci := 20) (q0 := 0) rfl rfl) rfl rfl hl.1 rfl (lv_room (Nat.le_of_ble_eq_true rfl)) dL_law_1845 ⟨Nat.le_of_ble_eq_true rfl, Nat.le_of_ble_eq_true rfl⟩) hS (fun q _ h => hFc q h) hFc (fun r_7 u t H1 locs ht hvm hw_8 hB hz1 hk1 hS => ?_)
  obtain ⟨hP1, hK1, hD1⟩ := hB
  rw [ht] at hP1
  try dsimp only at hw_8
  obtain ⟨hP, hD⟩ := va_join (wr := [(ou, .inl (cL, 1, .inr (.inl of_2)))]) (w1 := [(xm, .inr (20, u))]) hP hD [0, 1] [2] rfl rfl (by decide) (by decide) hk1 hFc hP1 hD1
  generalize H1 = H at hP hS ⊢
  have hP : va_P (dC, dI) vwCl [(ou, .inl (cL, 1, .inr (.inl of_2))), (xm, .inr (20, u))] H := hP
  have hD : va_D A [(ou, .inl (cL, 1, .inr (.inl of_2))), (xm, .inr (20, u))] := hD
  obtain ⟨fs_6, efs_6⟩ : ∃ z, z = u := ⟨_, rfl⟩
  subst efs_6
  have hP : va_P (dC, dI) vwCl [(ou, .inl (cL, 1, .inr (.inl of_2))), (xm, .inr (20, fs_6))] H := hP
  have hD : va_D A [(ou, .inl (cL, 1, .inr (.inl of_2))), (xm, .inr (20, fs_6))] := hD
  refine lv_istore (lv' := [(7, .int r_7), (6, .int 1), (0, .ref b), (1, .ref ya), (2, .ref xm), (3, .ref ou), (4, .ref od), (5, .int 0)]) hx hb dL_law_1848 hl (by decide) rfl (fun ls hl => ?_)
  refine lv_aload_n hx hb dL_law_1850 rfl (lv_at hl 4 rfl) ?_
  have hPc := hP.sub (ws' := [(xm, .inr (20, fs_6))]) [1] rfl
  have hDc := hD.sub (ws' := [(xm, .inr (20, fs_6))]) [1] (by decide) rfl
  have hKc := hK.sub (tys' := []) [] rfl
  have hFc := va_free (wc := [(xm, .inr (20, fs_6))]) hD hS hA [1] rfl
  refine va_calli (va_runV (As := []) (rest := []) ⟨hx, hb, hml, hown, hts⟩ (c_X15_thrown l dC dI xm fs_6 1 hw_8 H.size) (cwV 0 hts gL_law_X15_thrown rfl rfl rfl (by decide +kernel) ⟨Nat.le_of_ble_eq_true rfl, Nat.le_of_ble_eq_true rfl⟩) (pcV hPc hDc hKc hN (ci := 20) (q0 := 0) rfl rfl) rfl rfl hl.1 rfl (lv_room (Nat.le_of_ble_eq_true rfl)) dL_law_1851 ⟨Nat.le_of_ble_eq_true rfl, Nat.le_of_ble_eq_true rfl⟩) hS (fun q _ h => hFc q h) hFc (fun r_9 u t H1 locs ht hvm hw_10 hB hz1 hk1 hS => ?_)
  obtain ⟨hP1, hK1, hD1⟩ := hB
  rw [ht] at hP1
  try dsimp only at hw_10
  obtain ⟨hP, hD⟩ := va_join (wr := [(ou, .inl (cL, 1, .inr (.inl of_2)))]) (w1 := []) hP hD [1] [0] rfl rfl (by decide) (by decide) hk1 hFc hP1 hD1
  generalize H1 = H at hP hS ⊢
  have hP : va_P (dC, dI) vwCl [(ou, .inl (cL, 1, .inr (.inl of_2)))] H := hP
  have hD : va_D A [(ou, .inl (cL, 1, .inr (.inl of_2)))] := hD
  obtain rfl : r_9 = 1 := hw_10
  refine lv_iload hx hb dL_law_1854 (lv_at hl 1 rfl) ?_
  refine lv_icmp_eq (tgt := 1861) hx hb dL_law_1856 (by decide) (fun c1856_11 => ?_) (fun c1856_11 => ?_)
  · refine lv_iload hx hb dL_law_1861 (lv_at hl 1 rfl) ?_
    refine lv_if_ne (tgt := 1885) hx hb dL_law_1863 (by decide) (fun c1863_12 => ?_) (fun c1863_12 => ?_)
    · refine lv_goto (tgt := 2778) hx hb dL_law_1885 (by decide) ?_
      refine W.widen (k := 600006) (n := 7302039) (Nat.le_of_ble_eq_true rfl) (Nat.le_of_ble_eq_true rfl) ?_
      exact law_end hx hb hr hml hX hbl hlocks hbA hAo hS (lv_sub hl [2, 7] rfl)
    · exact absurd c1863_12 (by decide)
  · exact (c1856_11 (by decide)).elim

set_option maxHeartbeats 8000000 in
set_option maxRecDepth 100000 in
/-- the law: law_23_holdouts -/
theorem law_23_holdouts {p : Program} {e : Env} {s : State} {m : MethodId} {below : List Frame} {meth : Method} {c : Code} {l : Launch} {b : Nat} {xs : Nat → Int32} (hx : p.tables.exec = Jvm.exec) (hb : c.code = cL_law) (hr : meth.sig.returnType = ret) (hml : c.maxLocals = 9) (hfl : l.stackTraces = false) (hown : s.vm.findClass RL = some m.cls) (hts : ∀ w ∈ wsL_law, w.before #[Value.ref b] s = true) (hX : va_X b 7 xs s s.heap) (hbl : b < s.heap.size) (hlocks : meth.locks = false) {A : Nat → Prop} (hbA : ¬ A b) (hAo : ∀ q, A q → s.heap.size ≤ q) (hA : ∀ q : Nat, s.heap.size ≤ q → A q) (dC : Nat → ClassId) (dI : Nat → Nat → Nat) (hN : nwA s) (e0 : Nat) (aK aV : Nat → Nat) (hZ : zX A s s.heap ∧ zM e0 aK aV A s s.heap) (ya ms ju rj tj ro rn tn rh th ca sa da xa wb z1 z2 jt z3 br z4 z5 z6 lk z7 z8 li bm l2 z9 bo h2 mm l1 z10 oo h1 ct cr cu cg cp co tg ts tr tk te fw fo fu xm ml cl fl rg tR ou od kn : Nat) (cI cM cS cL cD cB : ClassId) {H : Heap} {locs : List Loc} (hP : va_P (dC, dI) vwCl [(ya, .inr (16, [.ref ms, .int 0, .ref ju, .ref li, .ref ct, .ref tg, .ref fw])), (xm, .inr (20, [.int 0, .int 0, .ref kn, .int 0, .int 0, .int 0, .ref ml, .ref cl, .ref rg, .ref tR, .ref (aK 0), .ref (aK 0), .ref fl, .int 0, .int 0, .int 0, .int 0, .int 0, .int 0, .int 0, .null])), (ml, .inr (4, [.int 0, .ref e0, .int 0]))] H) (hD : va_D A [(ya, .inr (16, [.ref ms, .int 0, .ref ju, .ref li, .ref ct, .ref tg, .ref fw])), (xm, .inr (20, [.int 0, .int 0, .ref kn, .int 0, .int 0, .int 0, .ref ml, .ref cl, .ref rg, .ref tR, .ref (aK 0), .ref (aK 0), .ref fl, .int 0, .int 0, .int 0, .int 0, .int 0, .int 0, .int 0, .null])), (ml, .inr (4, [.int 0, .ref e0, .int 0]))]) (hK : va_K (dC, dI) vwCl [] s) (hS : va_S A s.heap H locs) {ls : Array Slot} (hl : lv_has ls 9 [(0, .ref b), (1, .ref ya), (2, .ref xm), (3, .ref ou), (4, .ref od), (5, .int 0)]) : W p l e room_1 s m #[Value.ref b] below meth c H locs 200 60000 (lw_Z below #[Value.ref b] s) (F0 m 1888 ls []) := by
  obtain ⟨s1, hs1⟩ : ∃ z, z = xs ((0 : Int32) + 1).toNatClampNeg := ⟨_, rfl⟩
  obtain ⟨s2, hs2⟩ : ∃ z, z = xs ((0 : Int32) + 2).toNatClampNeg := ⟨_, rfl⟩
  obtain ⟨s3, hs3⟩ : ∃ z, z = xs ((0 : Int32) + 3).toNatClampNeg := ⟨_, rfl⟩
  obtain ⟨s4, hs4⟩ : ∃ z, z = xs ((0 : Int32) + 4).toNatClampNeg := ⟨_, rfl⟩
  obtain ⟨s5, hs5⟩ : ∃ z, z = xs ((0 : Int32) + 5).toNatClampNeg := ⟨_, rfl⟩
  obtain ⟨s6, hs6⟩ : ∃ z, z = xs ((0 : Int32) + 6).toNatClampNeg := ⟨_, rfl⟩
  obtain ⟨ch1, hch1⟩ : ∃ z, z = (s1.toUInt32 % 65536).toInt32 := ⟨_, rfl⟩
  obtain ⟨ch2, hch2⟩ : ∃ z, z = (s2.toUInt32 % 65536).toInt32 := ⟨_, rfl⟩
  obtain ⟨ch3, hch3⟩ : ∃ z, z = (s3.toUInt32 % 65536).toInt32 := ⟨_, rfl⟩
  obtain ⟨ch4, hch4⟩ : ∃ z, z = (s4.toUInt32 % 65536).toInt32 := ⟨_, rfl⟩
  obtain ⟨ch5, hch5⟩ : ∃ z, z = (s5.toUInt32 % 65536).toInt32 := ⟨_, rfl⟩
  obtain ⟨ch6, hch6⟩ : ∃ z, z = (s6.toUInt32 % 65536).toInt32 := ⟨_, rfl⟩
  refine lv_aload_n hx hb dL_law_1888 rfl (lv_at hl 1 rfl) ?_
  have hPc := hP.sub (ws' := [(ya, .inr (16, [.ref ms, .int 0, .ref ju, .ref li, .ref ct, .ref tg, .ref fw]))]) [0] rfl
  have hDc := hD.sub (ws' := [(ya, .inr (16, [.ref ms, .int 0, .ref ju, .ref li, .ref ct, .ref tg, .ref fw]))]) [0] (by decide) rfl
  have hKc := hK.sub (tys' := []) [] rfl
  have hFc := va_free (wc := [(ya, .inr (16, [.ref ms, .int 0, .ref ju, .ref li, .ref ct, .ref tg, .ref fw]))]) hD hS hA [0] rfl
  refine vx_calli (vx_runV (As := []) (rest := []) ⟨hx, hb, hml, hown, hts⟩ (c_X11_holdouts l hfl dC dI ya ms ju li ct tg fw H.size) (cwV 0 hts gL_law_X11_holdouts rfl rfl rfl (by decide +kernel) ⟨Nat.le_of_ble_eq_true rfl, Nat.le_of_ble_eq_true rfl⟩) (pcVz (zX_ok) hPc hDc hKc hN hZ.1 hS hFc (ci := 16) (q0 := 0) rfl rfl) rfl rfl hl.1 rfl (lv_room (Nat.le_of_ble_eq_true rfl)) dL_law_1889 ⟨Nat.le_of_ble_eq_true rfl, Nat.le_of_ble_eq_true rfl⟩) hS (fun q _ h => hFc q h) hFc (fun q _ h => hFc q h) (fun E9 ce9 q9 u9 t9 H9 locs9 ht9 hvm9 hp9 hE9 hz9 hk9 hS9 hc9 hv9 hcl9 => hE9.elim) (fun r_1 u t H1 locs ht hvm hw_2 hB hz1 hk1 hS => ?_)
  obtain ⟨hP1, hK1, hD1⟩ := hB
  rw [ht] at hP1
  try dsimp only at hw_2
  obtain ⟨hP, hD⟩ := va_join (wr := [(xm, .inr (20, [.int 0, .int 0, .ref kn, .int 0, .int 0, .int 0, .ref ml, .ref cl, .ref rg, .ref tR, .ref (aK 0), .ref (aK 0), .ref fl, .int 0, .int 0, .int 0, .int 0, .int 0, .int 0, .int 0, .null])), (ml, .inr (4, [.int 0, .ref e0, .int 0]))]) (w1 := []) hP hD [0] [1, 2] rfl rfl (by decide) (by decide) hk1 hFc hP1 hD1
  generalize H1 = H at hP hS ⊢
  have hP : va_P (dC, dI) vwCl [(xm, .inr (20, [.int 0, .int 0, .ref kn, .int 0, .int 0, .int 0, .ref ml, .ref cl, .ref rg, .ref tR, .ref (aK 0), .ref (aK 0), .ref fl, .int 0, .int 0, .int 0, .int 0, .int 0, .int 0, .int 0, .null])), (ml, .inr (4, [.int 0, .ref e0, .int 0]))] H := hP
  have hD : va_D A [(xm, .inr (20, [.int 0, .int 0, .ref kn, .int 0, .int 0, .int 0, .ref ml, .ref cl, .ref rg, .ref tR, .ref (aK 0), .ref (aK 0), .ref fl, .int 0, .int 0, .int 0, .int 0, .int 0, .int 0, .int 0, .null])), (ml, .inr (4, [.int 0, .ref e0, .int 0]))] := hD
  obtain rfl : r_1 = 0 := hw_2
  refine lv_aload_n hx hb dL_law_1892 rfl (lv_at hl 2 rfl) ?_
  have hPc := hP.sub (ws' := [(xm, .inr (20, [.int 0, .int 0, .ref kn, .int 0, .int 0, .int 0, .ref ml, .ref cl, .ref rg, .ref tR, .ref (aK 0), .ref (aK 0), .ref fl, .int 0, .int 0, .int 0, .int 0, .int 0, .int 0, .int 0, .null])), (ml, .inr (4, [.int 0, .ref e0, .int 0]))]) [0, 1] rfl
  have hDc := hD.sub (ws' := [(xm, .inr (20, [.int 0, .int 0, .ref kn, .int 0, .int 0, .int 0, .ref ml, .ref cl, .ref rg, .ref tR, .ref (aK 0), .ref (aK 0), .ref fl, .int 0, .int 0, .int 0, .int 0, .int 0, .int 0, .int 0, .null])), (ml, .inr (4, [.int 0, .ref e0, .int 0]))]) [0, 1] (by decide) rfl
  have hKc := hK.sub (tys' := []) [] rfl
  have hFc := va_free (wc := [(xm, .inr (20, [.int 0, .int 0, .ref kn, .int 0, .int 0, .int 0, .ref ml, .ref cl, .ref rg, .ref tR, .ref (aK 0), .ref (aK 0), .ref fl, .int 0, .int 0, .int 0, .int 0, .int 0, .int 0, .int 0, .null])), (ml, .inr (4, [.int 0, .ref e0, .int 0]))]) hD hS hA [0, 1] rfl
  refine va_calli (va_runV (As := []) (rest := [.int 0]) ⟨hx, hb, hml, hown, hts⟩ (c_X15_holdouts l dC dI xm ml cl fl kn rg tR e0 aK aV H.size) (cwV 0 hts gL_law_X15_holdouts rfl rfl rfl (by decide +kernel) ⟨Nat.le_of_ble_eq_true rfl, Nat.le_of_ble_eq_true rfl⟩) (pcVz (zM_ok e0 aK aV) hPc hDc hKc hN hZ.2 hS hFc (ci := 20) (q0 := 0) rfl rfl) rfl rfl hl.1 rfl (lv_room (Nat.le_of_ble_eq_true rfl)) dL_law_1893 ⟨Nat.le_of_ble_eq_true rfl, Nat.le_of_ble_eq_true rfl⟩) hS (fun q _ h => hFc q h) hFc (fun r_4 u t H1 locs ht hvm hw_5 hB hz1 hk1 hS => ?_)
  obtain ⟨hP1, hK1, hD1⟩ := hB
  rw [ht] at hP1
  try dsimp only at hw_5
  obtain ⟨hP, hD⟩ := va_join (wr := []) (w1 := [(xm, .inr (20, u))]) hP hD [0, 1] [] rfl rfl (by decide) (by decide) hk1 hFc hP1 hD1
  generalize H1 = H at hP hS ⊢
  have hP : va_P (dC, dI) vwCl [(xm, .inr (20, u))] H := hP
  have hD : va_D A [(xm, .inr (20, u))] := hD
  refine W.widen (k := 201) (n := 60004) (Nat.le_of_ble_eq_true rfl) (Nat.le_of_ble_eq_true rfl) ?_
  obtain ⟨fs_3, efs_3⟩ : ∃ z, z = u := ⟨_, rfl⟩
  subst efs_3
  have hP : va_P (dC, dI) vwCl [(xm, .inr (20, fs_3))] H := hP
  have hD : va_D A [(xm, .inr (20, fs_3))] := hD
  obtain rfl : r_4 = 0 := hw_5.2
  refine lv_icmp_eq (tgt := 2778) hx hb dL_law_1896 (by decide) (fun c1896_6 => ?_) (fun c1896_6 => ?_)
  · refine W.widen (k := 600006) (n := 7302039) (Nat.le_of_ble_eq_true rfl) (Nat.le_of_ble_eq_true rfl) ?_
    exact law_end hx hb hr hml hX hbl hlocks hbA hAo hS (lv_sub hl [0, 5] rfl)
  · exact (c1896_6 (by decide)).elim
