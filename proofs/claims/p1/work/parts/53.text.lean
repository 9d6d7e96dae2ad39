theorem dJ0_coder_7d493_0 : decode cJ0_coder_7d493 0 = .ok (.getstatic 38, 3) := by decide +kernel
theorem dJ0_coder_7d493_3 : decode cJ0_coder_7d493 3 = .ok (.ifCond .eq 10, 3) := by decide +kernel
theorem dJ0_coder_7d493_6 : decode cJ0_coder_7d493 6 = .ok (.aload_n 0, 1) := by decide +kernel
theorem dJ0_coder_7d493_7 : decode cJ0_coder_7d493 7 = .ok (.getfield 15, 3) := by decide +kernel
theorem dJ0_coder_7d493_10 : decode cJ0_coder_7d493 10 = .ok (.goto 4, 3) := by decide +kernel
theorem dJ0_coder_7d493_14 : decode cJ0_coder_7d493 14 = .ok (.ireturn, 1) := by decide +kernel
theorem dJ0_length_8abf5_0 : decode cJ0_length_8abf5 0 = .ok (.aload_n 0, 1) := by decide +kernel
theorem dJ0_length_8abf5_1 : decode cJ0_length_8abf5 1 = .ok (.getfield 9, 3) := by decide +kernel
theorem dJ0_length_8abf5_4 : decode cJ0_length_8abf5 4 = .ok (.arraylength, 1) := by decide +kernel
theorem dJ0_length_8abf5_5 : decode cJ0_length_8abf5 5 = .ok (.aload_n 0, 1) := by decide +kernel
set_option maxRecDepth 20000 in
theorem ggJ0_length_8abf5_J0_coder_7d493 : GoodIn wsJ0_length_8abf5 wsJ0_coder_7d493 := goodIn_r _ [6, 7, 8, 9, 10, 11, 12] rfl (by decide +kernel)
set_option maxRecDepth 20000 in
theorem gJ0_length_8abf5_J0_coder_7d493 : GoodIn wsJ0_length_8abf5 (wsV RJ0 335 RJ0 yJ0_coder_7d493 wsJ0_coder_7d493) := goodIn_app (goodIn_of _ (by decide +kernel)) ggJ0_length_8abf5_J0_coder_7d493
theorem dJ0_length_8abf5_6 : decode cJ0_length_8abf5 6 = .ok (.invokevirtual 335, 3) := by decide +kernel
theorem dJ0_length_8abf5_9 : decode cJ0_length_8abf5 9 = .ok (.ishr, 1) := by decide +kernel
theorem dJ0_length_8abf5_10 : decode cJ0_length_8abf5 10 = .ok (.ireturn, 1) := by decide +kernel
theorem dJ5_init_d00df_0 : decode cJ5_init_d00df 0 = .ok (.aload_n 0, 1) := by decide +kernel
theorem dJ5_init_d00df_1 : decode cJ5_init_d00df 1 = .ok (.invokespecial 3, 3) := by decide +kernel
theorem dJ5_init_d00df_4 : decode cJ5_init_d00df 4 = .ok (.getstatic 18, 3) := by decide +kernel
theorem dJ5_init_d00df_7 : decode cJ5_init_d00df 7 = .ok (.ifCond .eq 18, 3) := by decide +kernel
theorem dJ5_init_d00df_10 : decode cJ5_init_d00df 10 = .ok (.aload_n 0, 1) := by decide +kernel
theorem dJ5_init_d00df_11 : decode cJ5_init_d00df 11 = .ok (.iload_n 1, 1) := by decide +kernel
theorem dJ5_init_d00df_12 : decode cJ5_init_d00df 12 = .ok (.newarray .byte, 2) := by decide +kernel
theorem dJ5_init_d00df_14 : decode cJ5_init_d00df 14 = .ok (.putfield 15, 3) := by decide +kernel
theorem dJ5_init_d00df_17 : decode cJ5_init_d00df 17 = .ok (.aload_n 0, 1) := by decide +kernel
theorem dJ5_init_d00df_18 : decode cJ5_init_d00df 18 = .ok (.iconst 0, 1) := by decide +kernel
theorem dJ5_init_d00df_19 : decode cJ5_init_d00df 19 = .ok (.putfield 22, 3) := by decide +kernel
theorem dJ5_init_d00df_22 : decode cJ5_init_d00df 22 = .ok (.goto 16, 3) := by decide +kernel
theorem dJ5_init_d00df_38 : decode cJ5_init_d00df 38 = .ok (.return_, 1) := by decide +kernel
theorem dJ4_init_da8c8_0 : decode cJ4_init_da8c8 0 = .ok (.aload_n 0, 1) := by decide +kernel
theorem dJ4_init_da8c8_1 : decode cJ4_init_da8c8 1 = .ok (.bipush 16, 2) := by decide +kernel
set_option maxRecDepth 20000 in
theorem ggJ4_init_da8c8_J5_init_d00df : GoodIn wsJ4_init_da8c8 wsJ5_init_d00df := goodIn_r _ [4, 5, 6, 7, 8, 9, 10, 11, 12, 13, 14, 15, 16, 17, 18, 19, 20, 21, 22, 23] rfl (by decide +kernel)
set_option maxRecDepth 20000 in
theorem gJ4_init_da8c8_J5_init_d00df : GoodIn wsJ4_init_da8c8 (wsJ5_init_d00df) := ggJ4_init_da8c8_J5_init_d00df
theorem dJ4_init_da8c8_3 : decode cJ4_init_da8c8 3 = .ok (.invokespecial 1, 3) := by decide +kernel
theorem dJ4_init_da8c8_6 : decode cJ4_init_da8c8 6 = .ok (.return_, 1) := by decide +kernel
theorem dJ5_ensureCapacityInternal_d00df_0 : decode cJ5_ensureCapacityInternal_d00df 0 = .ok (.aload_n 0, 1) := by decide +kernel
theorem dJ5_ensureCapacityInternal_d00df_1 : decode cJ5_ensureCapacityInternal_d00df 1 = .ok (.getfield 15, 3) := by decide +kernel
theorem dJ5_ensureCapacityInternal_d00df_4 : decode cJ5_ensureCapacityInternal_d00df 4 = .ok (.arraylength, 1) := by decide +kernel
theorem dJ5_ensureCapacityInternal_d00df_5 : decode cJ5_ensureCapacityInternal_d00df 5 = .ok (.aload_n 0, 1) := by decide +kernel
theorem dJ5_ensureCapacityInternal_d00df_6 : decode cJ5_ensureCapacityInternal_d00df 6 = .ok (.getfield 22, 3) := by decide +kernel
theorem dJ5_ensureCapacityInternal_d00df_9 : decode cJ5_ensureCapacityInternal_d00df 9 = .ok (.ishr, 1) := by decide +kernel
theorem dJ5_ensureCapacityInternal_d00df_10 : decode cJ5_ensureCapacityInternal_d00df 10 = .ok (.istore_n 2, 1) := by decide +kernel
theorem dJ5_ensureCapacityInternal_d00df_11 : decode cJ5_ensureCapacityInternal_d00df 11 = .ok (.iload_n 1, 1) := by decide +kernel
theorem dJ5_ensureCapacityInternal_d00df_12 : decode cJ5_ensureCapacityInternal_d00df 12 = .ok (.iload_n 2, 1) := by decide +kernel
theorem dJ5_ensureCapacityInternal_d00df_13 : decode cJ5_ensureCapacityInternal_d00df 13 = .ok (.isub, 1) := by decide +kernel
theorem dJ5_ensureCapacityInternal_d00df_14 : decode cJ5_ensureCapacityInternal_d00df 14 = .ok (.ifCond .le 24, 3) := by decide +kernel
theorem dJ5_ensureCapacityInternal_d00df_38 : decode cJ5_ensureCapacityInternal_d00df 38 = .ok (.return_, 1) := by decide +kernel
theorem dJ5_inflateIfNeededFor_a7421_0 : decode cJ5_inflateIfNeededFor_a7421 0 = .ok (.getstatic 18, 3) := by decide +kernel
theorem dJ5_inflateIfNeededFor_a7421_3 : decode cJ5_inflateIfNeededFor_a7421 3 = .ok (.ifCond .eq 18, 3) := by decide +kernel
theorem dJ5_inflateIfNeededFor_a7421_6 : decode cJ5_inflateIfNeededFor_a7421 6 = .ok (.aload_n 0, 1) := by decide +kernel
theorem dJ5_inflateIfNeededFor_a7421_7 : decode cJ5_inflateIfNeededFor_a7421 7 = .ok (.getfield 22, 3) := by decide +kernel
theorem dJ5_inflateIfNeededFor_a7421_10 : decode cJ5_inflateIfNeededFor_a7421 10 = .ok (.aload_n 1, 1) := by decide +kernel
set_option maxRecDepth 20000 in
theorem ggJ5_inflateIfNeededFor_a7421_J0_coder_7d493 : GoodIn wsJ5_inflateIfNeededFor_a7421 wsJ0_coder_7d493 := goodIn_r _ [7, 8, 9, 63, 64, 65, 66] rfl (by decide +kernel)
set_option maxRecDepth 20000 in
theorem gJ5_inflateIfNeededFor_a7421_J0_coder_7d493 : GoodIn wsJ5_inflateIfNeededFor_a7421 (wsV RJ5 40 RJ0 yJ0_coder_7d493 wsJ0_coder_7d493) := goodIn_app (goodIn_of _ (by decide +kernel)) ggJ5_inflateIfNeededFor_a7421_J0_coder_7d493
theorem dJ5_inflateIfNeededFor_a7421_11 : decode cJ5_inflateIfNeededFor_a7421 11 = .ok (.invokevirtual 40, 3) := by decide +kernel
theorem dJ5_inflateIfNeededFor_a7421_14 : decode cJ5_inflateIfNeededFor_a7421 14 = .ok (.if_icmp .eq 7, 3) := by decide +kernel
theorem dJ5_inflateIfNeededFor_a7421_21 : decode cJ5_inflateIfNeededFor_a7421 21 = .ok (.return_, 1) := by decide +kernel
theorem dJ0_getBytes_840e7_0 : decode cJ0_getBytes_840e7 0 = .ok (.aload_n 0, 1) := by decide +kernel
set_option maxRecDepth 20000 in
theorem ggJ0_getBytes_840e7_J0_coder_7d493 : GoodIn wsJ0_getBytes_840e7 wsJ0_coder_7d493 := goodIn_r _ [10, 11, 12, 41, 42, 43, 44] rfl (by decide +kernel)
set_option maxRecDepth 20000 in
theorem gJ0_getBytes_840e7_J0_coder_7d493 : GoodIn wsJ0_getBytes_840e7 (wsV RJ0 335 RJ0 yJ0_coder_7d493 wsJ0_coder_7d493) := goodIn_app (goodIn_of _ (by decide +kernel)) ggJ0_getBytes_840e7_J0_coder_7d493
theorem dJ0_getBytes_840e7_1 : decode cJ0_getBytes_840e7 1 = .ok (.invokevirtual 335, 3) := by decide +kernel
theorem dJ0_getBytes_840e7_4 : decode cJ0_getBytes_840e7 4 = .ok (.iload_n 3, 1) := by decide +kernel
theorem dJ0_getBytes_840e7_5 : decode cJ0_getBytes_840e7 5 = .ok (.if_icmp .ne 23, 3) := by decide +kernel
theorem dJ0_getBytes_840e7_8 : decode cJ0_getBytes_840e7 8 = .ok (.aload_n 0, 1) := by decide +kernel
theorem dJ0_getBytes_840e7_9 : decode cJ0_getBytes_840e7 9 = .ok (.getfield 9, 3) := by decide +kernel
theorem dJ0_getBytes_840e7_12 : decode cJ0_getBytes_840e7 12 = .ok (.iconst 0, 1) := by decide +kernel
theorem dJ0_getBytes_840e7_13 : decode cJ0_getBytes_840e7 13 = .ok (.aload_n 1, 1) := by decide +kernel
theorem dJ0_getBytes_840e7_14 : decode cJ0_getBytes_840e7 14 = .ok (.iload_n 2, 1) := by decide +kernel
theorem dJ0_getBytes_840e7_15 : decode cJ0_getBytes_840e7 15 = .ok (.iload_n 3, 1) := by decide +kernel
theorem dJ0_getBytes_840e7_16 : decode cJ0_getBytes_840e7 16 = .ok (.ishl, 1) := by decide +kernel
theorem dJ0_getBytes_840e7_17 : decode cJ0_getBytes_840e7 17 = .ok (.aload_n 0, 1) := by decide +kernel
theorem dJ0_getBytes_840e7_18 : decode cJ0_getBytes_840e7 18 = .ok (.getfield 9, 3) := by decide +kernel
theorem dJ0_getBytes_840e7_21 : decode cJ0_getBytes_840e7 21 = .ok (.arraylength, 1) := by decide +kernel
theorem dJ0_getBytes_840e7_22 : decode cJ0_getBytes_840e7 22 = .ok (.invokestatic 212, 3) := by decide +kernel
theorem dJ0_getBytes_840e7_25 : decode cJ0_getBytes_840e7 25 = .ok (.goto 18, 3) := by decide +kernel
theorem dJ0_getBytes_840e7_43 : decode cJ0_getBytes_840e7 43 = .ok (.return_, 1) := by decide +kernel
theorem dJ5_putStringAt_47b60_0 : decode cJ5_putStringAt_47b60 0 = .ok (.aload_n 0, 1) := by decide +kernel
theorem dJ5_putStringAt_47b60_1 : decode cJ5_putStringAt_47b60 1 = .ok (.aload_n 2, 1) := by decide +kernel
set_option maxRecDepth 20000 in
theorem ggJ5_putStringAt_47b60_J5_inflateIfNeededFor_a7421 : GoodIn wsJ5_putStringAt_47b60 wsJ5_inflateIfNeededFor_a7421 := goodIn_r _ [8, 9, 2, 10, 11, 12, 13, 14, 15, 16, 17, 18, 19, 20, 7, 21, 1, 22, 23, 24, 25, 26, 27, 28, 29, 30, 31, 32, 33, 34, 35, 36, 37, 38, 39, 40, 41, 42, 43, 44, 45, 46, 47, 48, 49, 50, 51, 52, 53, 54, 55, 56, 57, 58, 59, 60, 61, 62, 63, 75, 76, 77, 78, 79, 80, 81, 82] rfl (by decide +kernel)
set_option maxRecDepth 20000 in
theorem gJ5_putStringAt_47b60_J5_inflateIfNeededFor_a7421_u397J4 : GoodIn wsJ5_putStringAt_47b60 (va_wsU RJ5 397 RJ4 "java/lang/AbstractStringBuilder" ⟨"java/lang/AbstractStringBuilder", "inflateIfNeededFor", "(Ljava/lang/String;)V"⟩ yJ5_inflateIfNeededFor_a7421 wsJ5_inflateIfNeededFor_a7421) := goodIn_app (goodIn_of _ (by decide +kernel)) ggJ5_putStringAt_47b60_J5_inflateIfNeededFor_a7421
theorem dJ5_putStringAt_47b60_2 : decode cJ5_putStringAt_47b60 2 = .ok (.invokevirtual 397, 3) := by decide +kernel
theorem dJ5_putStringAt_47b60_5 : decode cJ5_putStringAt_47b60 5 = .ok (.aload_n 2, 1) := by decide +kernel
theorem dJ5_putStringAt_47b60_6 : decode cJ5_putStringAt_47b60 6 = .ok (.aload_n 0, 1) := by decide +kernel
theorem dJ5_putStringAt_47b60_7 : decode cJ5_putStringAt_47b60 7 = .ok (.getfield 15, 3) := by decide +kernel
theorem dJ5_putStringAt_47b60_10 : decode cJ5_putStringAt_47b60 10 = .ok (.iload_n 1, 1) := by decide +kernel
theorem dJ5_putStringAt_47b60_11 : decode cJ5_putStringAt_47b60 11 = .ok (.aload_n 0, 1) := by decide +kernel
theorem dJ5_putStringAt_47b60_12 : decode cJ5_putStringAt_47b60 12 = .ok (.getfield 22, 3) := by decide +kernel
set_option maxRecDepth 20000 in
theorem ggJ5_putStringAt_47b60_J0_getBytes_840e7 : GoodIn wsJ5_putStringAt_47b60 wsJ0_getBytes_840e7 := goodIn_r _ [67, 68, 69, 70, 71, 72, 73, 11, 12, 13, 14, 15, 16, 74, 38, 39, 40, 41, 42, 30, 43, 44, 45, 46, 47, 48, 49, 50, 51, 52, 53, 54, 55, 56, 57, 58, 59, 60, 61, 62, 63, 79, 80, 81, 82] rfl (by decide +kernel)
set_option maxRecDepth 20000 in
theorem gJ5_putStringAt_47b60_J0_getBytes_840e7 : GoodIn wsJ5_putStringAt_47b60 (wsV RJ5 399 RJ0 yJ0_getBytes_840e7 wsJ0_getBytes_840e7) := goodIn_app (goodIn_of _ (by decide +kernel)) ggJ5_putStringAt_47b60_J0_getBytes_840e7
theorem dJ5_putStringAt_47b60_15 : decode cJ5_putStringAt_47b60 15 = .ok (.invokevirtual 399, 3) := by decide +kernel
theorem dJ5_putStringAt_47b60_18 : decode cJ5_putStringAt_47b60 18 = .ok (.return_, 1) := by decide +kernel
theorem dJ5_append_cf1ce_0 : decode cJ5_append_cf1ce 0 = .ok (.aload_n 1, 1) := by decide +kernel
theorem dJ5_append_cf1ce_1 : decode cJ5_append_cf1ce 1 = .ok (.ifnonnull 8, 3) := by decide +kernel
theorem dJ5_append_cf1ce_9 : decode cJ5_append_cf1ce 9 = .ok (.aload_n 1, 1) := by decide +kernel
set_option maxRecDepth 20000 in
theorem ggJ5_append_cf1ce_J0_length_8abf5 : GoodIn wsJ5_append_cf1ce wsJ0_length_8abf5 := goodIn_r _ [85, 86, 87, 88, 89, 70, 90, 91, 92, 142, 143, 144, 145] rfl (by decide +kernel)
set_option maxRecDepth 20000 in
theorem gJ5_append_cf1ce_J0_length_8abf5 : GoodIn wsJ5_append_cf1ce (wsV RJ5 32 RJ0 yJ0_length_8abf5 wsJ0_length_8abf5) := goodIn_app (goodIn_of _ (by decide +kernel)) ggJ5_append_cf1ce_J0_length_8abf5
theorem dJ5_append_cf1ce_10 : decode cJ5_append_cf1ce 10 = .ok (.invokevirtual 32, 3) := by decide +kernel
theorem dJ5_append_cf1ce_13 : decode cJ5_append_cf1ce 13 = .ok (.istore_n 2, 1) := by decide +kernel
theorem dJ5_append_cf1ce_14 : decode cJ5_append_cf1ce 14 = .ok (.aload_n 0, 1) := by decide +kernel
theorem dJ5_append_cf1ce_15 : decode cJ5_append_cf1ce 15 = .ok (.aload_n 0, 1) := by decide +kernel
theorem dJ5_append_cf1ce_16 : decode cJ5_append_cf1ce 16 = .ok (.getfield 79, 3) := by decide +kernel
theorem dJ5_append_cf1ce_19 : decode cJ5_append_cf1ce 19 = .ok (.iload_n 2, 1) := by decide +kernel
theorem dJ5_append_cf1ce_20 : decode cJ5_append_cf1ce 20 = .ok (.iadd, 1) := by decide +kernel
set_option maxRecDepth 20000 in
theorem ggJ5_append_cf1ce_J5_ensureCapacityInternal_d00df : GoodIn wsJ5_append_cf1ce wsJ5_ensureCapacityInternal_d00df := goodIn_r _ [13, 8, 14, 15, 16, 17, 18, 6, 19, 20, 21, 22, 23, 24, 25, 26, 27, 28, 29, 30, 31, 32, 33, 34, 35, 36, 37, 38, 39, 40, 41, 42, 43, 44, 45, 46, 47, 48, 49, 50, 138, 139, 140, 141] rfl (by decide +kernel)
set_option maxRecDepth 20000 in
theorem gJ5_append_cf1ce_J5_ensureCapacityInternal_d00df_u100J4 : GoodIn wsJ5_append_cf1ce (va_wsU RJ5 100 RJ4 "java/lang/AbstractStringBuilder" ⟨"java/lang/AbstractStringBuilder", "ensureCapacityInternal", "(I)V"⟩ yJ5_ensureCapacityInternal_d00df wsJ5_ensureCapacityInternal_d00df) := goodIn_app (goodIn_of _ (by decide +kernel)) ggJ5_append_cf1ce_J5_ensureCapacityInternal_d00df
theorem dJ5_append_cf1ce_21 : decode cJ5_append_cf1ce 21 = .ok (.invokevirtual 100, 3) := by decide +kernel
theorem dJ5_append_cf1ce_24 : decode cJ5_append_cf1ce 24 = .ok (.aload_n 0, 1) := by decide +kernel
theorem dJ5_append_cf1ce_25 : decode cJ5_append_cf1ce 25 = .ok (.aload_n 0, 1) := by decide +kernel
theorem dJ5_append_cf1ce_26 : decode cJ5_append_cf1ce 26 = .ok (.getfield 79, 3) := by decide +kernel
theorem dJ5_append_cf1ce_29 : decode cJ5_append_cf1ce 29 = .ok (.aload_n 1, 1) := by decide +kernel
set_option maxRecDepth 20000 in
theorem ggJ5_append_cf1ce_J5_putStringAt_47b60 : GoodIn wsJ5_append_cf1ce wsJ5_putStringAt_47b60 := goodIn_r _ [97, 8, 14, 98, 99, 100, 101, 6, 102, 56, 103, 88, 89, 70, 90, 91, 92, 104, 105, 106, 107, 108, 1, 51, 52, 53, 54, 55, 109, 110, 59, 111, 43, 112, 113, 114, 115, 116, 117, 118, 119, 120, 121, 122, 123, 124, 125, 65, 66, 67, 126, 127, 128, 72, 129, 130, 75, 131, 77, 78, 79, 61, 80, 81, 132, 133, 134, 135, 86, 136, 48, 49, 50, 87, 137, 138, 139, 140, 141, 142, 143, 144, 145] rfl (by decide +kernel)
set_option maxRecDepth 20000 in
theorem gJ5_append_cf1ce_J5_putStringAt_47b60_u208J4 : GoodIn wsJ5_append_cf1ce (va_wsU RJ5 208 RJ4 "java/lang/AbstractStringBuilder" ⟨"java/lang/AbstractStringBuilder", "putStringAt", "(ILjava/lang/String;)V"⟩ yJ5_putStringAt_47b60 wsJ5_putStringAt_47b60) := goodIn_app (goodIn_of _ (by decide +kernel)) ggJ5_append_cf1ce_J5_putStringAt_47b60
theorem dJ5_append_cf1ce_30 : decode cJ5_append_cf1ce 30 = .ok (.invokevirtual 208, 3) := by decide +kernel
theorem dJ5_append_cf1ce_33 : decode cJ5_append_cf1ce 33 = .ok (.aload_n 0, 1) := by decide +kernel
theorem dJ5_append_cf1ce_34 : decode cJ5_append_cf1ce 34 = .ok (.dup, 1) := by decide +kernel
theorem dJ5_append_cf1ce_35 : decode cJ5_append_cf1ce 35 = .ok (.getfield 79, 3) := by decide +kernel
theorem dJ5_append_cf1ce_38 : decode cJ5_append_cf1ce 38 = .ok (.iload_n 2, 1) := by decide +kernel
theorem dJ5_append_cf1ce_39 : decode cJ5_append_cf1ce 39 = .ok (.iadd, 1) := by decide +kernel
theorem dJ5_append_cf1ce_40 : decode cJ5_append_cf1ce 40 = .ok (.putfield 79, 3) := by decide +kernel
theorem dJ5_append_cf1ce_43 : decode cJ5_append_cf1ce 43 = .ok (.aload_n 0, 1) := by decide +kernel
theorem dJ5_append_cf1ce_44 : decode cJ5_append_cf1ce 44 = .ok (.areturn, 1) := by decide +kernel
theorem dJ4_append_15ec4_0 : decode cJ4_append_15ec4 0 = .ok (.aload_n 0, 1) := by decide +kernel
theorem dJ4_append_15ec4_1 : decode cJ4_append_15ec4 1 = .ok (.aload_n 1, 1) := by decide +kernel
set_option maxRecDepth 20000 in
theorem ggJ4_append_15ec4_J5_append_cf1ce : GoodIn wsJ4_append_15ec4 wsJ5_append_cf1ce := goodIn_r _ [6, 7, 8, 9, 10, 11, 5, 12, 13, 14, 15, 16, 17, 18, 19, 20, 21, 22, 23, 24, 25, 26, 27, 28, 29, 30, 31, 32, 33, 34, 35, 36, 37, 38, 39, 40, 41, 42, 43, 44, 45, 46, 47, 48, 49, 50, 51, 52, 53, 54, 55, 56, 57, 58, 59, 60, 61, 62, 63, 64, 65, 66, 67, 68, 69, 70, 71, 72, 73, 74, 75, 76, 77, 78, 79, 80, 81, 82, 83, 84, 85, 86, 87, 88, 89, 90, 91, 92, 93, 94, 95, 96, 97, 98, 99, 100, 101, 102, 103, 104, 105, 106, 107, 108, 109, 110, 111, 112, 113, 114, 115, 116, 117, 118, 119, 120, 121, 122, 123, 124, 125, 126, 127, 128, 129, 130, 131, 132, 133, 134, 135, 136, 137, 138, 139, 140, 141, 142, 143, 144, 145, 146, 147, 148, 149, 150] rfl (by decide +kernel)
set_option maxRecDepth 20000 in
theorem gJ4_append_15ec4_J5_append_cf1ce_s29 : GoodIn wsJ4_append_15ec4 (va_wsSU RJ4 29 yJ5_append_cf1ce wsJ5_append_cf1ce) := goodIn_app (goodIn_of _ (by decide +kernel)) ggJ4_append_15ec4_J5_append_cf1ce
theorem dJ4_append_15ec4_2 : decode cJ4_append_15ec4 2 = .ok (.invokespecial 29, 3) := by decide +kernel
theorem dJ4_append_15ec4_5 : decode cJ4_append_15ec4 5 = .ok (.pop, 1) := by decide +kernel
theorem dJ4_append_15ec4_6 : decode cJ4_append_15ec4 6 = .ok (.aload_n 0, 1) := by decide +kernel
theorem dJ4_append_15ec4_7 : decode cJ4_append_15ec4 7 = .ok (.areturn, 1) := by decide +kernel
theorem dJ5_isLatin1_aae02_0 : decode cJ5_isLatin1_aae02 0 = .ok (.getstatic 18, 3) := by decide +kernel
theorem dJ5_isLatin1_aae02_3 : decode cJ5_isLatin1_aae02 3 = .ok (.ifCond .eq 14, 3) := by decide +kernel
theorem dJ5_isLatin1_aae02_6 : decode cJ5_isLatin1_aae02 6 = .ok (.aload_n 0, 1) := by decide +kernel
theorem dJ5_isLatin1_aae02_7 : decode cJ5_isLatin1_aae02 7 = .ok (.getfield 22, 3) := by decide +kernel
theorem dJ5_isLatin1_aae02_10 : decode cJ5_isLatin1_aae02 10 = .ok (.ifCond .ne 7, 3) := by decide +kernel
theorem dJ5_isLatin1_aae02_13 : decode cJ5_isLatin1_aae02 13 = .ok (.iconst 1, 1) := by decide +kernel
theorem dJ5_isLatin1_aae02_14 : decode cJ5_isLatin1_aae02 14 = .ok (.goto 4, 3) := by decide +kernel
theorem dJ5_isLatin1_aae02_18 : decode cJ5_isLatin1_aae02 18 = .ok (.ireturn, 1) := by decide +kernel
theorem dJ1_canEncode_fc78d_0 : decode cJ1_canEncode_fc78d 0 = .ok (.iload_n 0, 1) := by decide +kernel
theorem dJ1_canEncode_fc78d_1 : decode cJ1_canEncode_fc78d 1 = .ok (.sipush 255, 3) := by decide +kernel
theorem dJ1_canEncode_fc78d_4 : decode cJ1_canEncode_fc78d 4 = .ok (.if_icmp .gt 7, 3) := by decide +kernel
theorem dJ1_canEncode_fc78d_7 : decode cJ1_canEncode_fc78d 7 = .ok (.iconst 1, 1) := by decide +kernel
theorem dJ1_canEncode_fc78d_8 : decode cJ1_canEncode_fc78d 8 = .ok (.goto 4, 3) := by decide +kernel
theorem dJ1_canEncode_fc78d_12 : decode cJ1_canEncode_fc78d 12 = .ok (.ireturn, 1) := by decide +kernel
theorem dJ5_append_3fe6f_0 : decode cJ5_append_3fe6f 0 = .ok (.aload_n 0, 1) := by decide +kernel
theorem dJ5_append_3fe6f_1 : decode cJ5_append_3fe6f 1 = .ok (.aload_n 0, 1) := by decide +kernel
theorem dJ5_append_3fe6f_2 : decode cJ5_append_3fe6f 2 = .ok (.getfield 79, 3) := by decide +kernel
theorem dJ5_append_3fe6f_5 : decode cJ5_append_3fe6f 5 = .ok (.iconst 1, 1) := by decide +kernel
theorem dJ5_append_3fe6f_6 : decode cJ5_append_3fe6f 6 = .ok (.iadd, 1) := by decide +kernel
set_option maxRecDepth 20000 in
theorem ggJ5_append_3fe6f_J5_ensureCapacityInternal_d00df : GoodIn wsJ5_append_3fe6f wsJ5_ensureCapacityInternal_d00df := goodIn_r _ [8, 2, 9, 10, 11, 12, 13, 7, 14, 15, 16, 17, 18, 19, 20, 21, 22, 23, 24, 25, 26, 27, 28, 29, 30, 31, 32, 33, 34, 35, 36, 37, 38, 39, 40, 41, 42, 43, 44, 45, 108, 109, 110, 111] rfl (by decide +kernel)
set_option maxRecDepth 20000 in
theorem gJ5_append_3fe6f_J5_ensureCapacityInternal_d00df_u100J4 : GoodIn wsJ5_append_3fe6f (va_wsU RJ5 100 RJ4 "java/lang/AbstractStringBuilder" ⟨"java/lang/AbstractStringBuilder", "ensureCapacityInternal", "(I)V"⟩ yJ5_ensureCapacityInternal_d00df wsJ5_ensureCapacityInternal_d00df) := goodIn_app (goodIn_of _ (by decide +kernel)) ggJ5_append_3fe6f_J5_ensureCapacityInternal_d00df
theorem dJ5_append_3fe6f_7 : decode cJ5_append_3fe6f 7 = .ok (.invokevirtual 100, 3) := by decide +kernel
theorem dJ5_append_3fe6f_10 : decode cJ5_append_3fe6f 10 = .ok (.aload_n 0, 1) := by decide +kernel
set_option maxRecDepth 20000 in
theorem ggJ5_append_3fe6f_J5_isLatin1_aae02 : GoodIn wsJ5_append_3fe6f wsJ5_isLatin1_aae02 := goodIn_r _ [50, 51, 9, 108, 109, 110, 111] rfl (by decide +kernel)
set_option maxRecDepth 20000 in
theorem gJ5_append_3fe6f_J5_isLatin1_aae02_u83J4 : GoodIn wsJ5_append_3fe6f (va_wsU RJ5 83 RJ4 "java/lang/AbstractStringBuilder" ⟨"java/lang/AbstractStringBuilder", "isLatin1", "()Z"⟩ yJ5_isLatin1_aae02 wsJ5_isLatin1_aae02) := goodIn_app (goodIn_of _ (by decide +kernel)) ggJ5_append_3fe6f_J5_isLatin1_aae02
theorem dJ5_append_3fe6f_11 : decode cJ5_append_3fe6f 11 = .ok (.invokevirtual 83, 3) := by decide +kernel
theorem dJ5_append_3fe6f_14 : decode cJ5_append_3fe6f 14 = .ok (.ifCond .eq 31, 3) := by decide +kernel
theorem dJ5_append_3fe6f_17 : decode cJ5_append_3fe6f 17 = .ok (.iload_n 1, 1) := by decide +kernel
set_option maxRecDepth 20000 in
theorem ggJ5_append_3fe6f_J1_canEncode_fc78d : GoodIn wsJ5_append_3fe6f wsJ1_canEncode_fc78d := goodIn_r _ [55] rfl (by decide +kernel)
set_option maxRecDepth 20000 in
theorem gJ5_append_3fe6f_J1_canEncode_fc78d : GoodIn wsJ5_append_3fe6f (va_wsS RJ5 191 yJ1_canEncode_fc78d wsJ1_canEncode_fc78d) := goodIn_app (goodIn_of _ (by decide +kernel)) ggJ5_append_3fe6f_J1_canEncode_fc78d
theorem dJ5_append_3fe6f_18 : decode cJ5_append_3fe6f 18 = .ok (.invokestatic 191, 3) := by decide +kernel
theorem dJ5_append_3fe6f_21 : decode cJ5_append_3fe6f 21 = .ok (.ifCond .eq 24, 3) := by decide +kernel
theorem dJ5_append_3fe6f_24 : decode cJ5_append_3fe6f 24 = .ok (.aload_n 0, 1) := by decide +kernel
theorem dJ5_append_3fe6f_25 : decode cJ5_append_3fe6f 25 = .ok (.getfield 15, 3) := by decide +kernel
theorem dJ5_append_3fe6f_28 : decode cJ5_append_3fe6f 28 = .ok (.aload_n 0, 1) := by decide +kernel
theorem dJ5_append_3fe6f_29 : decode cJ5_append_3fe6f 29 = .ok (.dup, 1) := by decide +kernel
theorem dJ5_append_3fe6f_30 : decode cJ5_append_3fe6f 30 = .ok (.getfield 79, 3) := by decide +kernel
theorem dJ5_append_3fe6f_33 : decode cJ5_append_3fe6f 33 = .ok (.dup_x1, 1) := by decide +kernel
theorem dJ5_append_3fe6f_34 : decode cJ5_append_3fe6f 34 = .ok (.iconst 1, 1) := by decide +kernel
theorem dJ5_append_3fe6f_35 : decode cJ5_append_3fe6f 35 = .ok (.iadd, 1) := by decide +kernel
theorem dJ5_append_3fe6f_36 : decode cJ5_append_3fe6f 36 = .ok (.putfield 79, 3) := by decide +kernel
theorem dJ5_append_3fe6f_39 : decode cJ5_append_3fe6f 39 = .ok (.iload_n 1, 1) := by decide +kernel
theorem dJ5_append_3fe6f_40 : decode cJ5_append_3fe6f 40 = .ok (.i2b, 1) := by decide +kernel
theorem dJ5_append_3fe6f_41 : decode cJ5_append_3fe6f 41 = .ok (.bastore, 1) := by decide +kernel
theorem dJ5_append_3fe6f_42 : decode cJ5_append_3fe6f 42 = .ok (.goto 33, 3) := by decide +kernel
theorem dJ5_append_3fe6f_75 : decode cJ5_append_3fe6f 75 = .ok (.aload_n 0, 1) := by decide +kernel
theorem dJ5_append_3fe6f_76 : decode cJ5_append_3fe6f 76 = .ok (.areturn, 1) := by decide +kernel
theorem dJ4_append_cf468_0 : decode cJ4_append_cf468 0 = .ok (.aload_n 0, 1) := by decide +kernel
theorem dJ4_append_cf468_1 : decode cJ4_append_cf468 1 = .ok (.iload_n 1, 1) := by decide +kernel
set_option maxRecDepth 20000 in
theorem ggJ4_append_cf468_J5_append_3fe6f : GoodIn wsJ4_append_cf468 wsJ5_append_3fe6f := goodIn_r _ [6, 7, 8, 9, 10, 11, 12, 5, 13, 14, 15, 16, 17, 18, 19, 20, 21, 22, 23, 24, 25, 26, 27, 28, 29, 30, 31, 32, 33, 34, 35, 36, 37, 38, 39, 40, 41, 42, 43, 44, 45, 46, 47, 48, 49, 50, 51, 52, 53, 54, 55, 56, 57, 58, 59, 60, 61, 62, 63, 64, 65, 66, 67, 68, 69, 70, 71, 72, 73, 74, 75, 76, 77, 78, 79, 80, 81, 82, 83, 84, 85, 86, 87, 88, 89, 90, 91, 92, 93, 94, 95, 96, 97, 98, 99, 100, 101, 102, 103, 104, 105, 106, 107, 108, 109, 110, 111, 112, 113, 114, 115, 116] rfl (by decide +kernel)
set_option maxRecDepth 20000 in
theorem gJ4_append_cf468_J5_append_3fe6f_s50 : GoodIn wsJ4_append_cf468 (va_wsSU RJ4 50 yJ5_append_3fe6f wsJ5_append_3fe6f) := goodIn_app (goodIn_of _ (by decide +kernel)) ggJ4_append_cf468_J5_append_3fe6f
theorem dJ4_append_cf468_2 : decode cJ4_append_cf468 2 = .ok (.invokespecial 50, 3) := by decide +kernel
theorem dJ4_append_cf468_5 : decode cJ4_append_cf468 5 = .ok (.pop, 1) := by decide +kernel
theorem dJ4_append_cf468_6 : decode cJ4_append_cf468 6 = .ok (.aload_n 0, 1) := by decide +kernel
theorem dJ4_append_cf468_7 : decode cJ4_append_cf468 7 = .ok (.areturn, 1) := by decide +kernel
theorem pcVs {e0 : Nat} {aK aV : Nat → Nat} {dC : Nat → ClassId} {dI : Nat → Nat → Nat} {ws : va_W} {tys : List (ClassId × FieldType)} {As : List Value} {s : State} {H : Heap} {A : Nat → Prop} (hP : va_P (dC, dI) vwCl ws H) (hD : va_D A ws) (hK : va_K (dC, dI) vwCl tys s) (hN : nwA s) {A2 : Nat → Prop} {locs : List Loc} (hZ : zM e0 aK aV A2 s s.heap) (hS : va_S A2 s.heap H locs) (hF : ∀ q, va_A ws H.size q → A2 q) {i : Nat} (hi : i < 2) : PreV s H "java/lang/String" (aK i) (va_Pc (.ref (aK i) :: As) (cPCz (zM e0 aK aV) dC dI ws tys H.size)) As :=
  ⟨pcBz (zM_ok e0 aK aV), vk_recv hZ.1.2.2.2 hi hS, fun U hU hW => ⟨rfl, ⟨by rw [hU], by rw [hU]; exact hP, va_K.moved hW.alike hK, hD.weaken (fun _ _ _ _ => trivial), nwA.warm hW hN⟩, by rw [hU]; exact (zM_ok e0 aK aV).1 _ _ _ _ hW ((zM_ok e0 aK aV).2.2.1 _ _ _ _ ((zM_ok e0 aK aV).2.1 _ _ _ _ hZ hS.2.1) hF)⟩⟩
set_option maxHeartbeats 4000000 in
set_option maxRecDepth 100000 in
/-- J0_coder_7d493 -/
theorem c_J0_coder_c (l : Launch) (dC : Nat → ClassId) (dI : Nat → Nat → Nat) (e0 : Nat) (aK aV : Nat → Nat) (sz : Nat) : Met l yJ0_coder_7d493 wsJ0_coder_7d493 ({ frames := 0, cells := 0, slots := 0, locals := 0 }) (va_Pc [.ref (aK 0)] (cPCz (zM e0 aK aV) dC dI [] [] sz)) (va_Qi (fun (r : Int32) (u : Unit) => r = 0) (fun (u : Unit) t => cQB dC dI [] [] (va_A [] sz) t) (va_A [] sz)) 0 0 (va_A [] sz) := by
  refine Met.ofW (cc := cJ0_coder_7d493) (maxL := 1) (ret := (some .byte)) (by decide) rfl ?_
  intro p e s m args below meth c s₁ B hml hv
  obtain ⟨rfl, ⟨hsz, hP, hK, hD0, hN⟩, hZ⟩ := hv
  have hx := B.exec
  have hb := B.bytes
  have hr := B.returns
  have hts := atoms_spec (ws := wsJ0_coder_7d493) B.pre
  have hown : s.vm.findClass RJ0 = some m.cls := findClass_of_methodNamed B.named
  have hlocks := B.notSynchronized
  subst hsz
  have hD := hD0.self (sz := s.heap.size)
  generalize hAe : va_A [] s.heap.size = A at hD hZ ⊢
  have hA : ∀ q : Nat, s.heap.size ≤ q → A q := fun q h => by rw [← hAe]; exact Or.inr h
  have hS : va_S A s.heap s.heap [] := va_S.rf
  have hP : va_P (dC, dI) vwCl [] s.heap := hP
  have hD : va_D A [] := hD
  have hl := lv_entry ([.ref (aK 0)]) (n := 1) (Nat.le_of_ble_eq_true rfl)
  rw [lg_entry_eq]
  generalize (lg_sl ([.ref (aK 0)]) ++ List.replicate (1 - (lg_sl ([.ref (aK 0)])).length) Slot.unset).toArray = ls at hl ⊢
  have hl : lv_has ls 1 [(0, .ref (aK 0))] := hl
  have iWJ0 : ∀ w ∈ u_ws RJ0 TJ0 4, w ∈ wsJ0_coder_7d493 := by decide +kernel
  refine va_gets hx hb hZ.1.2.2.1 hS hown (hts (.fieldLink RJ0 38 "java/lang/String" "COMPACT_STRINGS" "Z") (by decide +kernel)) (fun _ h9 => h9) dJ0_coder_7d493_0 ?_
  refine lv_if_eq (tgt := 13) hx hb dJ0_coder_7d493_3 (by decide) (fun c3_1 => ?_) (fun c3_1 => ?_)
  · exact absurd c3_1 (by decide)
  · refine lv_aload_n hx hb dJ0_coder_7d493_6 rfl (lv_at hl 0 rfl) ?_
    refine vk_getf hx hb (hZ.1.2.2.2.1 0 (by decide)).2.1 hS hown (hts (.fieldLink RJ0 15 "java/lang/String" "coder" "B") (by decide +kernel)) (fun _ h9 => h9) dJ0_coder_7d493_7 ?_
    refine lv_goto (tgt := 14) hx hb dJ0_coder_7d493_10 (by decide) ?_
    have hP9 := hP.sub (ws' := []) [] rfl
    have hD9 := hD.sub (ws' := []) [] (by decide) rfl
    have hK9 := hK.sub (tys' := []) [] rfl
    exact W.zret (v := 0) hx hb hr (by rfl) (fun t ht hW => ⟨⟨0, (), rfl, rfl, ⟨by rw [ht]; exact hP9, va_K.moved hW.alike hK9, hD9⟩⟩, hS.F ht⟩) hS.2.2 dJ0_coder_7d493_14

set_option maxHeartbeats 4000000 in
set_option maxRecDepth 100000 in
/-- J0_coder_7d493 -/
theorem c_J0_coder_w (l : Launch) (dC : Nat → ClassId) (dI : Nat → Nat → Nat) (e0 : Nat) (aK aV : Nat → Nat) (cB : ClassId) (st sv : Nat) (hh hz : Int32) (fs9 : Nat → Int32) (sz : Nat) : Met l yJ0_coder_7d493 wsJ0_coder_7d493 ({ frames := 0, cells := 0, slots := 0, locals := 0 }) (va_Pc [.ref st] (cPCz (zM e0 aK aV) dC dI [(st, .inr (0, [.ref sv, .int 0, .int hh, .int hz]))] [] sz)) (va_Qi (fun (r : Int32) (u : Unit) => r = 0) (fun (u : Unit) t => cQB dC dI [(st, .inr (0, [.ref sv, .int 0, .int hh, .int hz]))] [] (va_A [(st, .inr (0, [.ref sv, .int 0, .int hh, .int hz]))] sz) t) (va_A [(st, .inr (0, [.ref sv, .int 0, .int hh, .int hz]))] sz)) 0 0 (va_A [(st, .inr (0, [.ref sv, .int 0, .int hh, .int hz]))] sz) := by
  refine Met.ofW (cc := cJ0_coder_7d493) (maxL := 1) (ret := (some .byte)) (by decide) rfl ?_
  intro p e s m args below meth c s₁ B hml hv
  obtain ⟨rfl, ⟨hsz, hP, hK, hD0, hN⟩, hZ⟩ := hv
  have hx := B.exec
  have hb := B.bytes
  have hr := B.returns
  have hts := atoms_spec (ws := wsJ0_coder_7d493) B.pre
  have hown : s.vm.findClass RJ0 = some m.cls := findClass_of_methodNamed B.named
  have hlocks := B.notSynchronized
  subst hsz
  have hD := hD0.self (sz := s.heap.size)
  generalize hAe : va_A [(st, .inr (0, [.ref sv, .int 0, .int hh, .int hz]))] s.heap.size = A at hD hZ ⊢
  have hA : ∀ q : Nat, s.heap.size ≤ q → A q := fun q h => by rw [← hAe]; exact Or.inr h
  have hS : va_S A s.heap s.heap [] := va_S.rf
  have hP : va_P (dC, dI) vwCl [(st, .inr (0, [.ref sv, .int 0, .int hh, .int hz]))] s.heap := hP
  have hD : va_D A [(st, .inr (0, [.ref sv, .int 0, .int hh, .int hz]))] := hD
  have hl := lv_entry ([.ref st]) (n := 1) (Nat.le_of_ble_eq_true rfl)
  rw [lg_entry_eq]
  generalize (lg_sl ([.ref st]) ++ List.replicate (1 - (lg_sl ([.ref st])).length) Slot.unset).toArray = ls at hl ⊢
  have hl : lv_has ls 1 [(0, .ref st)] := hl
  have iWJ0 : ∀ w ∈ u_ws RJ0 TJ0 4, w ∈ wsJ0_coder_7d493 := by decide +kernel
  refine va_gets hx hb hZ.1.2.2.1 hS hown (hts (.fieldLink RJ0 38 "java/lang/String" "COMPACT_STRINGS" "Z") (by decide +kernel)) (fun _ h9 => h9) dJ0_coder_7d493_0 ?_
  refine lv_if_eq (tgt := 13) hx hb dJ0_coder_7d493_3 (by decide) (fun c3_1 => ?_) (fun c3_1 => ?_)
  · exact absurd c3_1 (by decide)
  · refine lv_aload_n hx hb dJ0_coder_7d493_6 rfl (lv_at hl 0 rfl) ?_
    refine va_get (D := (dC, dI)) (ci := 0) (v := .int 0) (C := RJ0) (T := TJ0) (N := 4) hx hb hts iWJ0 hown hK hP 0 rfl rfl 1 (by decide) (hts (.fieldLink RJ0 15 "java/lang/String" "coder" "B") (by decide +kernel)) (fun _ h9 => h9) rfl dJ0_coder_7d493_7 ?_
    refine lv_goto (tgt := 14) hx hb dJ0_coder_7d493_10 (by decide) ?_
    have hP9 := hP.sub (ws' := [(st, .inr (0, [.ref sv, .int 0, .int hh, .int hz]))]) [0] rfl
    have hD9 := hD.sub (ws' := [(st, .inr (0, [.ref sv, .int 0, .int hh, .int hz]))]) [0] (by decide) rfl
    have hK9 := hK.sub (tys' := []) [] rfl
    exact W.zret (v := 0) hx hb hr (by rfl) (fun t ht hW => ⟨⟨0, (), rfl, rfl, ⟨by rw [ht]; exact hP9, va_K.moved hW.alike hK9, hD9⟩⟩, hS.F ht⟩) hS.2.2 dJ0_coder_7d493_14

set_option maxHeartbeats 4000000 in
set_option maxRecDepth 100000 in
/-- J0_length_8abf5 -/
theorem c_J0_length_c (l : Launch) (dC : Nat → ClassId) (dI : Nat → Nat → Nat) (e0 : Nat) (aK aV : Nat → Nat) (sz : Nat) : Met l yJ0_length_8abf5 wsJ0_length_8abf5 ({ frames := 1, cells := 0, slots := 0, locals := 20 }) (va_Pc [.ref (aK 0)] (cPCz (zM e0 aK aV) dC dI [] [] sz)) (va_Qi (fun (r : Int32) (u : Unit) => r = 0) (fun (u : Unit) t => cQB dC dI [] [] (va_A [] sz) t) (va_A [] sz)) 0 0 (va_A [] sz) := by
  refine Met.ofW (cc := cJ0_length_8abf5) (maxL := 1) (ret := (some .int)) (by decide) rfl ?_
  intro p e s m args below meth c s₁ B hml hv
  obtain ⟨rfl, ⟨hsz, hP, hK, hD0, hN⟩, hZ⟩ := hv
  have hx := B.exec
  have hb := B.bytes
  have hr := B.returns
  have hts := atoms_spec (ws := wsJ0_length_8abf5) B.pre
  have hown : s.vm.findClass RJ0 = some m.cls := findClass_of_methodNamed B.named
  have hlocks := B.notSynchronized
  subst hsz
  have hD := hD0.self (sz := s.heap.size)
  generalize hAe : va_A [] s.heap.size = A at hD hZ ⊢
  have hA : ∀ q : Nat, s.heap.size ≤ q → A q := fun q h => by rw [← hAe]; exact Or.inr h
  have hS : va_S A s.heap s.heap [] := va_S.rf
  have hP : va_P (dC, dI) vwCl [] s.heap := hP
  have hD : va_D A [] := hD
  have hl := lv_entry ([.ref (aK 0)]) (n := 1) (Nat.le_of_ble_eq_true rfl)
  rw [lg_entry_eq]
  generalize (lg_sl ([.ref (aK 0)]) ++ List.replicate (1 - (lg_sl ([.ref (aK 0)])).length) Slot.unset).toArray = ls at hl ⊢
  have hl : lv_has ls 1 [(0, .ref (aK 0))] := hl
  have iWJ0 : ∀ w ∈ u_ws RJ0 TJ0 4, w ∈ wsJ0_length_8abf5 := by decide +kernel
  refine lv_aload_n hx hb dJ0_length_8abf5_0 rfl (lv_at hl 0 rfl) ?_
  refine vk_getf hx hb (hZ.1.2.2.2.1 0 (by decide)).2.2.1 hS hown (hts (.fieldLink RJ0 9 "java/lang/String" "value" "[B") (by decide +kernel)) (fun _ h9 => h9) dJ0_length_8abf5_1 ?_
  refine va_tlen hx hb (hZ.1.2.2.2.1 0 (by decide)).2.2.2 hS (v := 0) (by decide) dJ0_length_8abf5_4 ?_
  refine lv_aload_n hx hb dJ0_length_8abf5_5 rfl (lv_at hl 0 rfl) ?_
  have hPc := hP.sub (ws' := []) [] rfl
  have hDc := hD.sub (ws' := []) [] (by decide) rfl
  have hKc := hK.sub (tys' := []) [] rfl
  have hFc := va_free (wc := []) hD hS hA [] rfl
  refine va_calli (va_runV (As := []) (rest := [.int 0]) ⟨hx, hb, hml, hown, hts⟩ (c_J0_coder_c l dC dI e0 aK aV s.heap.size) (cwV 0 hts gJ0_length_8abf5_J0_coder_7d493 rfl rfl rfl (by decide +kernel) ⟨Nat.le_of_ble_eq_true rfl, Nat.le_of_ble_eq_true rfl⟩) (pcVs hPc hDc hKc hN hZ hS hFc (i := 0) (by decide)) rfl rfl hl.1 rfl (lv_room (Nat.le_of_ble_eq_true rfl)) dJ0_length_8abf5_6 ⟨Nat.le_of_ble_eq_true rfl, Nat.le_of_ble_eq_true rfl⟩) hS (fun q _ h => hFc q h) hFc (fun r_1 u t H1 locs ht hvm hw_2 hB hz1 hk1 hS => ?_)
  obtain ⟨hP1, hK1, hD1⟩ := hB
  rw [ht] at hP1
  try dsimp only at hw_2
  obtain ⟨hP, hD⟩ := va_join (wr := []) (w1 := []) hP hD [] [] rfl rfl (by decide) (by decide) hk1 hFc hP1 hD1
  generalize H1 = H at hP hS ⊢
  have hP : va_P (dC, dI) vwCl [] H := hP
  have hD : va_D A [] := hD
  subst hw_2
  refine lv_ishr hx hb dJ0_length_8abf5_9 ?_
  have hP9 := hP.sub (ws' := []) [] rfl
  have hD9 := hD.sub (ws' := []) [] (by decide) rfl
  have hK9 := hK.sub (tys' := []) [] rfl
  exact W.iret (v := ((0 : Int32) >>> 0)) hx hb hr (fun t ht hW => ⟨⟨((0 : Int32) >>> 0), (), rfl, (by decide), ⟨by rw [ht]; exact hP9, va_K.moved hW.alike hK9, hD9⟩⟩, hS.F ht⟩) hS.2.2 dJ0_length_8abf5_10

set_option maxHeartbeats 4000000 in
set_option maxRecDepth 100000 in
/-- J0_length_8abf5 -/
theorem c_J0_length_w (l : Launch) (dC : Nat → ClassId) (dI : Nat → Nat → Nat) (e0 : Nat) (aK aV : Nat → Nat) (cB : ClassId) (st sv : Nat) (hh hz : Int32) (fs9 : Nat → Int32) (sz : Nat) : Met l yJ0_length_8abf5 wsJ0_length_8abf5 ({ frames := 1, cells := 0, slots := 0, locals := 20 }) (va_Pc [.ref st] (cPCz (zM e0 aK aV) dC dI [(st, .inr (0, [.ref sv, .int 0, .int hh, .int hz])), (sv, .inl (cB, 1, .inl fs9))] [(cB, .byte)] sz)) (va_Qi (fun (r : Int32) (u : Unit) => r = 1) (fun (u : Unit) t => cQB dC dI [(st, .inr (0, [.ref sv, .int 0, .int hh, .int hz])), (sv, .inl (cB, 1, .inl fs9))] [(cB, .byte)] (va_A [(st, .inr (0, [.ref sv, .int 0, .int hh, .int hz])), (sv, .inl (cB, 1, .inl fs9))] sz) t) (va_A [(st, .inr (0, [.ref sv, .int 0, .int hh, .int hz])), (sv, .inl (cB, 1, .inl fs9))] sz)) 0 0 (va_A [(st, .inr (0, [.ref sv, .int 0, .int hh, .int hz])), (sv, .inl (cB, 1, .inl fs9))] sz) := by
  refine Met.ofW (cc := cJ0_length_8abf5) (maxL := 1) (ret := (some .int)) (by decide) rfl ?_
  intro p e s m args below meth c s₁ B hml hv
  obtain ⟨rfl, ⟨hsz, hP, hK, hD0, hN⟩, hZ⟩ := hv
  have hx := B.exec
  have hb := B.bytes
  have hr := B.returns
  have hts := atoms_spec (ws := wsJ0_length_8abf5) B.pre
  have hown : s.vm.findClass RJ0 = some m.cls := findClass_of_methodNamed B.named
  have hlocks := B.notSynchronized
  subst hsz
  have hD := hD0.self (sz := s.heap.size)
  generalize hAe : va_A [(st, .inr (0, [.ref sv, .int 0, .int hh, .int hz])), (sv, .inl (cB, 1, .inl fs9))] s.heap.size = A at hD hZ ⊢
  have hA : ∀ q : Nat, s.heap.size ≤ q → A q := fun q h => by rw [← hAe]; exact Or.inr h
  have hS : va_S A s.heap s.heap [] := va_S.rf
  have hP : va_P (dC, dI) vwCl [(st, .inr (0, [.ref sv, .int 0, .int hh, .int hz])), (sv, .inl (cB, 1, .inl fs9))] s.heap := hP
  have hD : va_D A [(st, .inr (0, [.ref sv, .int 0, .int hh, .int hz])), (sv, .inl (cB, 1, .inl fs9))] := hD
  have hl := lv_entry ([.ref st]) (n := 1) (Nat.le_of_ble_eq_true rfl)
  rw [lg_entry_eq]
  generalize (lg_sl ([.ref st]) ++ List.replicate (1 - (lg_sl ([.ref st])).length) Slot.unset).toArray = ls at hl ⊢
  have hl : lv_has ls 1 [(0, .ref st)] := hl
  have iWJ0 : ∀ w ∈ u_ws RJ0 TJ0 4, w ∈ wsJ0_length_8abf5 := by decide +kernel
  refine lv_aload_n hx hb dJ0_length_8abf5_0 rfl (lv_at hl 0 rfl) ?_
  refine va_get (D := (dC, dI)) (ci := 0) (v := .ref sv) (C := RJ0) (T := TJ0) (N := 4) hx hb hts iWJ0 hown hK hP 0 rfl rfl 0 (by decide) (hts (.fieldLink RJ0 9 "java/lang/String" "value" "[B") (by decide +kernel)) (fun _ h9 => h9) rfl dJ0_length_8abf5_1 ?_
  refine va_alen hx hb hK hP 1 0 rfl rfl (v := 1) (by rfl) dJ0_length_8abf5_4 ?_
  refine lv_aload_n hx hb dJ0_length_8abf5_5 rfl (lv_at hl 0 rfl) ?_
  have hPc := hP.sub (ws' := [(st, .inr (0, [.ref sv, .int 0, .int hh, .int hz]))]) [0] rfl
  have hDc := hD.sub (ws' := [(st, .inr (0, [.ref sv, .int 0, .int hh, .int hz]))]) [0] (by decide) rfl
  have hKc := hK.sub (tys' := []) [] rfl
  have hFc := va_free (wc := [(st, .inr (0, [.ref sv, .int 0, .int hh, .int hz]))]) hD hS hA [0] rfl
  refine va_calli (va_runV (As := []) (rest := [.int 1]) ⟨hx, hb, hml, hown, hts⟩ (c_J0_coder_w l dC dI e0 aK aV cB st sv hh hz fs9 s.heap.size) (cwV 0 hts gJ0_length_8abf5_J0_coder_7d493 rfl rfl rfl (by decide +kernel) ⟨Nat.le_of_ble_eq_true rfl, Nat.le_of_ble_eq_true rfl⟩) (pcVz (zM_ok e0 aK aV) hPc hDc hKc hN hZ hS hFc (ci := 0) (q0 := 0) rfl rfl) rfl rfl hl.1 rfl (lv_room (Nat.le_of_ble_eq_true rfl)) dJ0_length_8abf5_6 ⟨Nat.le_of_ble_eq_true rfl, Nat.le_of_ble_eq_true rfl⟩) hS (fun q _ h => hFc q h) hFc (fun r_1 u t H1 locs ht hvm hw_2 hB hz1 hk1 hS => ?_)
  obtain ⟨hP1, hK1, hD1⟩ := hB
  rw [ht] at hP1
  try dsimp only at hw_2
  obtain ⟨hP, hD⟩ := va_join (wr := [(sv, .inl (cB, 1, .inl fs9))]) (w1 := [(st, .inr (0, [.ref sv, .int 0, .int hh, .int hz]))]) hP hD [0] [1] rfl rfl (by decide) (by decide) hk1 hFc hP1 hD1
  generalize H1 = H at hP hS ⊢
  have hP : va_P (dC, dI) vwCl [(sv, .inl (cB, 1, .inl fs9)), (st, .inr (0, [.ref sv, .int 0, .int hh, .int hz]))] H := hP
  have hD : va_D A [(sv, .inl (cB, 1, .inl fs9)), (st, .inr (0, [.ref sv, .int 0, .int hh, .int hz]))] := hD
  subst hw_2
  refine lv_ishr hx hb dJ0_length_8abf5_9 ?_
  have hP9 := hP.sub (ws' := [(st, .inr (0, [.ref sv, .int 0, .int hh, .int hz])), (sv, .inl (cB, 1, .inl fs9))]) [1, 0] rfl
  have hD9 := hD.sub (ws' := [(st, .inr (0, [.ref sv, .int 0, .int hh, .int hz])), (sv, .inl (cB, 1, .inl fs9))]) [1, 0] (by decide) rfl
  have hK9 := hK.sub (tys' := [(cB, .byte)]) [0] rfl
  exact W.iret (v := ((1 : Int32) >>> 0)) hx hb hr (fun t ht hW => ⟨⟨((1 : Int32) >>> 0), (), rfl, (by decide), ⟨by rw [ht]; exact hP9, va_K.moved hW.alike hK9, hD9⟩⟩, hS.F ht⟩) hS.2.2 dJ0_length_8abf5_10

set_option maxHeartbeats 4000000 in
set_option maxRecDepth 100000 in
/-- J5_init_d00df -/
theorem c_J5_init_d00df (l : Launch) (dC : Nat → ClassId) (dI : Nat → Nat → Nat) (e0 : Nat) (aK aV : Nat → Nat) (cB : ClassId) (sb : Nat) (sz : Nat) : Met l yJ5_init_d00df wsJ5_init_d00df ({ frames := 1, cells := 1, slots := 16, locals := 24 }) (va_Pc [.ref sb, .int 16] (cPCz (zM e0 aK aV) dC dI [(sb, .inr (1, [.null, .int 0, .int 0, .int 0]))] [(cB, .byte)] sz)) (va_Qv (fun (u : Nat) => True) (fun (u : Nat) t => cQB dC dI [(sb, .inr (1, [.ref u, .int 0, .int 0, .int 0])), (u, .inl (cB, 16, .inl (fun _ => 0)))] [(cB, .byte)] (va_A [(sb, .inr (1, [.null, .int 0, .int 0, .int 0]))] sz) t) (va_A [(sb, .inr (1, [.null, .int 0, .int 0, .int 0]))] sz)) 1 16 (va_A [(sb, .inr (1, [.null, .int 0, .int 0, .int 0]))] sz) := by
  refine Met.ofW (cc := cJ5_init_d00df) (maxL := 2) (ret := none) (by decide) rfl ?_
  intro p e s m args below meth c s₁ B hml hv
  obtain ⟨rfl, ⟨hsz, hP, hK, hD0, hN⟩, hZ⟩ := hv
  have hx := B.exec
  have hb := B.bytes
  have hr := B.returns
  have hts := atoms_spec (ws := wsJ5_init_d00df) B.pre
  have hown : s.vm.findClass RJ5 = some m.cls := findClass_of_methodNamed B.named
  have hlocks := B.notSynchronized
  have hin : meth.name = "<init>" := (name_of_methodNamed B.named B.method).1
  subst hsz
  have hD := hD0.self (sz := s.heap.size)
  generalize hAe : va_A [(sb, .inr (1, [.null, .int 0, .int 0, .int 0]))] s.heap.size = A at hD hZ ⊢
  have hA : ∀ q : Nat, s.heap.size ≤ q → A q := fun q h => by rw [← hAe]; exact Or.inr h
  have hS : va_S A s.heap s.heap [] := va_S.rf
  have hP : va_P (dC, dI) vwCl [(sb, .inr (1, [.null, .int 0, .int 0, .int 0]))] s.heap := hP
  have hD : va_D A [(sb, .inr (1, [.null, .int 0, .int 0, .int 0]))] := hD
  have hl := lv_entry ([.ref sb, .int 16]) (n := 2) (Nat.le_of_ble_eq_true rfl)
  rw [lg_entry_eq]
  generalize (lg_sl ([.ref sb, .int 16]) ++ List.replicate (2 - (lg_sl ([.ref sb, .int 16])).length) Slot.unset).toArray = ls at hl ⊢
  have hl : lv_has ls 2 [(0, .ref sb), (1, .int 16)] := hl
  have iWJ4 : ∀ w ∈ u_ws RJ4 TJ4 4, w ∈ wsJ5_init_d00df := by decide +kernel
  refine lv_aload_n hx hb dJ5_init_d00df_0 rfl (lv_at hl 0 rfl) ?_
  refine W.objInit hx hb hown (hts (.methodLink RJ5 3 Lib.objectInit) (by decide +kernel)) (hts (.instanceMethod Lib.objectInit) (by decide +kernel)) (hts (.code Lib.objectInit ⟨#[0xb1]⟩ 1 none) (by decide +kernel)) rfl (by rw [hml]; exact hl.1) rfl dJ5_init_d00df_1 (Nat.le_of_ble_eq_true rfl) (Nat.le_of_ble_eq_true rfl) ?_
  refine W.eq (g2 := F0 m 4 ls []) rfl ?_
  refine va_gets hx hb hZ.1.2.2.1 hS hown (hts (.fieldLink RJ5 18 "java/lang/String" "COMPACT_STRINGS" "Z") (by decide +kernel)) (fun _ h9 => h9) dJ5_init_d00df_4 ?_
  refine lv_if_eq (tgt := 25) hx hb dJ5_init_d00df_7 (by decide) (fun c7_1 => ?_) (fun c7_1 => ?_)
  · exact absurd c7_1 (by decide)
  · refine lv_aload_n hx hb dJ5_init_d00df_10 rfl (lv_at hl 0 rfl) ?_
    refine lv_iload_n hx hb dJ5_init_d00df_11 rfl (lv_at hl 1 rfl) ?_
    refine va_newa (atype := .byte) (ty := .byte) (a0 := (16, .inl (fun _ => 0))) (N' := 16) hx hb (hts (.arrayClass .byte) (by decide +kernel)) rfl hK hP hD hS hA (fun _ => rfl) (by decide) (by decide) (Nat.le_of_ble_eq_true rfl) (Nat.le_of_ble_eq_true rfl) (Nat.le_of_ble_eq_true rfl) dJ5_init_d00df_12 (fun q_3 cA_2 H hK hP hD hS => ?_)
    have ecA_2 : cB = cA_2 := cA_one hK (i := 0) (j := 1) rfl rfl
    subst ecA_2
    have hK := hK.sub (tys' := [(cB, .byte)]) [0] rfl
    have hP : va_P (dC, dI) vwCl [(sb, .inr (1, [.null, .int 0, .int 0, .int 0])), (q_3, .inl (cB, 16, .inl (fun _ => 0)))] H := hP
    have hD : va_D A [(sb, .inr (1, [.null, .int 0, .int 0, .int 0])), (q_3, .inl (cB, 16, .inl (fun _ => 0)))] := hD
    refine W.widen (k := 1) (n := 16) (Nat.le_of_ble_eq_true rfl) (Nat.le_of_ble_eq_true rfl) ?_
    refine va_put (D := (dC, dI)) (ci := 1) (v := .ref q_3) (ty := .array .byte) (C := RJ4) (T := TJ4) (N := 4) hx hb hts iWJ4 tyJ4 tyJ4_ok nmJ4 hown hK hP hD hS 0 rfl rfl 0 (by decide) (hts (.fieldLink RJ5 15 "java/lang/AbstractStringBuilder" "value" "[B") (by decide +kernel)) (fun _ h9 => h9) rfl (by decide +kernel) rfl rfl (Nat.le_of_ble_eq_true rfl) dJ5_init_d00df_14 (fun H locs hP hD hS => ?_)
    have hP : va_P (dC, dI) vwCl [(sb, .inr (1, [.ref q_3, .int 0, .int 0, .int 0])), (q_3, .inl (cB, 16, .inl (fun _ => 0)))] H := hP
    have hD : va_D A [(sb, .inr (1, [.ref q_3, .int 0, .int 0, .int 0])), (q_3, .inl (cB, 16, .inl (fun _ => 0)))] := hD
    refine lv_aload_n hx hb dJ5_init_d00df_17 rfl (lv_at hl 0 rfl) ?_
    refine lv_iconst (v := 0) hx hb dJ5_init_d00df_18 (by decide) ?_
    refine va_put (D := (dC, dI)) (ci := 1) (v := .int 0) (ty := .byte) (C := RJ4) (T := TJ4) (N := 4) hx hb hts iWJ4 tyJ4 tyJ4_ok nmJ4 hown hK hP hD hS 0 rfl rfl 1 (by decide) (hts (.fieldLink RJ5 22 "java/lang/AbstractStringBuilder" "coder" "B") (by decide +kernel)) (fun _ h9 => h9) rfl (by decide +kernel) rfl rfl (Nat.le_of_ble_eq_true rfl) dJ5_init_d00df_19 (fun H locs hP hD hS => ?_)
    have hP : va_P (dC, dI) vwCl [(sb, .inr (1, [.ref q_3, .int 0, .int 0, .int 0])), (q_3, .inl (cB, 16, .inl (fun _ => 0)))] H := hP
    have hD : va_D A [(sb, .inr (1, [.ref q_3, .int 0, .int 0, .int 0])), (q_3, .inl (cB, 16, .inl (fun _ => 0)))] := hD
    refine lv_goto (tgt := 38) hx hb dJ5_init_d00df_22 (by decide) ?_
    have hP9 := hP.sub (ws' := [(sb, .inr (1, [.ref q_3, .int 0, .int 0, .int 0])), (q_3, .inl (cB, 16, .inl (fun _ => 0)))]) [0, 1] rfl
    have hD9 := hD.sub (ws' := [(sb, .inr (1, [.ref q_3, .int 0, .int 0, .int 0])), (q_3, .inl (cB, 16, .inl (fun _ => 0)))]) [0, 1] (by decide) rfl
    have hK9 := hK.sub (tys' := [(cB, .byte)]) [0] rfl
    exact W.vret hx hb hr (fun t ht hW => ⟨⟨q_3, rfl, trivial, ⟨by rw [ht]; exact hP9, va_K.moved hW.alike hK9, hD9⟩⟩, hS.F ht⟩) hS.2.2 dJ5_init_d00df_38

set_option maxHeartbeats 4000000 in
set_option maxRecDepth 100000 in
/-- J4_init_da8c8 -/
theorem c_J4_init_da8c8 (l : Launch) (dC : Nat → ClassId) (dI : Nat → Nat → Nat) (e0 : Nat) (aK aV : Nat → Nat) (cB : ClassId) (sb : Nat) (sz : Nat) : Met l yJ4_init_da8c8 wsJ4_init_da8c8 ({ frames := 2, cells := 1, slots := 16, locals := 45 }) (va_Pc [.ref sb] (cPCz (zM e0 aK aV) dC dI [(sb, .inr (1, [.null, .int 0, .int 0, .int 0]))] [(cB, .byte)] sz)) (va_Qv (fun (u : Nat) => True) (fun (u : Nat) t => cQB dC dI [(sb, .inr (1, [.ref u, .int 0, .int 0, .int 0])), (u, .inl (cB, 16, .inl (fun _ => 0)))] [(cB, .byte)] (va_A [(sb, .inr (1, [.null, .int 0, .int 0, .int 0]))] sz) t) (va_A [(sb, .inr (1, [.null, .int 0, .int 0, .int 0]))] sz)) 1 16 (va_A [(sb, .inr (1, [.null, .int 0, .int 0, .int 0]))] sz) := by
  refine Met.ofW (cc := cJ4_init_da8c8) (maxL := 1) (ret := none) (by decide) rfl ?_
  intro p e s m args below meth c s₁ B hml hv
  obtain ⟨rfl, ⟨hsz, hP, hK, hD0, hN⟩, hZ⟩ := hv
  have hx := B.exec
  have hb := B.bytes
  have hr := B.returns
  have hts := atoms_spec (ws := wsJ4_init_da8c8) B.pre
  have hown : s.vm.findClass RJ4 = some m.cls := findClass_of_methodNamed B.named
  have hlocks := B.notSynchronized
  have hin : meth.name = "<init>" := (name_of_methodNamed B.named B.method).1
  subst hsz
  have hD := hD0.self (sz := s.heap.size)
  generalize hAe : va_A [(sb, .inr (1, [.null, .int 0, .int 0, .int 0]))] s.heap.size = A at hD hZ ⊢
  have hA : ∀ q : Nat, s.heap.size ≤ q → A q := fun q h => by rw [← hAe]; exact Or.inr h
  have hS : va_S A s.heap s.heap [] := va_S.rf
  have hP : va_P (dC, dI) vwCl [(sb, .inr (1, [.null, .int 0, .int 0, .int 0]))] s.heap := hP
  have hD : va_D A [(sb, .inr (1, [.null, .int 0, .int 0, .int 0]))] := hD
  have hl := lv_entry ([.ref sb]) (n := 1) (Nat.le_of_ble_eq_true rfl)
  rw [lg_entry_eq]
  generalize (lg_sl ([.ref sb]) ++ List.replicate (1 - (lg_sl ([.ref sb])).length) Slot.unset).toArray = ls at hl ⊢
  have hl : lv_has ls 1 [(0, .ref sb)] := hl
  have iWJ4 : ∀ w ∈ u_ws RJ4 TJ4 4, w ∈ wsJ4_init_da8c8 := by decide +kernel
  refine lv_aload_n hx hb dJ4_init_da8c8_0 rfl (lv_at hl 0 rfl) ?_
  refine lv_bipush (v := 16) hx hb dJ4_init_da8c8_1 (by decide) ?_
  have hPc := hP.sub (ws' := [(sb, .inr (1, [.null, .int 0, .int 0, .int 0]))]) [0] rfl
  have hDc := hD.sub (ws' := [(sb, .inr (1, [.null, .int 0, .int 0, .int 0]))]) [0] (by decide) rfl
  have hKc := hK.sub (tys' := [(cB, .byte)]) [0] rfl
  have hFc := va_free (wc := [(sb, .inr (1, [.null, .int 0, .int 0, .int 0]))]) hD hS hA [0] rfl
  refine va_callv (va_runI (As := [.int 16]) (rest := []) ⟨hx, hb, hml, hown, hts⟩ (c_J5_init_d00df l dC dI e0 aK aV cB sb s.heap.size) (cwI 1 hts gJ4_init_da8c8_J5_init_d00df rfl rfl rfl (hts (.initialized RJ5) (by decide +kernel)) (hts (.methodLink RJ4 1 yJ5_init_d00df) (by decide +kernel)) (hts (.instanceMethod yJ5_init_d00df) (by decide +kernel)) rfl (by decide +kernel) ⟨Nat.le_of_ble_eq_true rfl, Nat.le_of_ble_eq_true rfl⟩) (pcSz (zM_ok e0 aK aV) hPc hDc hKc hN hZ hS hFc) rfl rfl hl.1 rfl (lv_room (Nat.le_of_ble_eq_true rfl)) dJ4_init_da8c8_3 ⟨Nat.le_of_ble_eq_true rfl, Nat.le_of_ble_eq_true rfl⟩) hS (fun q _ h => hFc q h) hFc (fun u t H1 locs ht hvm hw_2 hB hz1 hk1 hS => ?_)
  obtain ⟨hP1, hK1, hD1⟩ := hB
  rw [ht] at hP1
  try dsimp only at hw_2
  obtain ⟨hP, hD⟩ := va_join (wr := []) (w1 := [(sb, .inr (1, [.ref u, .int 0, .int 0, .int 0])), (u, .inl (cB, 16, .inl (fun _ => 0)))]) hP hD [0] [] rfl rfl (by decide) (by decide) hk1 hFc hP1 hD1
  generalize H1 = H at hP hS ⊢
  have hP : va_P (dC, dI) vwCl [(sb, .inr (1, [.ref u, .int 0, .int 0, .int 0])), (u, .inl (cB, 16, .inl (fun _ => 0)))] H := hP
  have hD : va_D A [(sb, .inr (1, [.ref u, .int 0, .int 0, .int 0])), (u, .inl (cB, 16, .inl (fun _ => 0)))] := hD
  refine W.widen (k := 1) (n := 16) (Nat.le_of_ble_eq_true rfl) (Nat.le_of_ble_eq_true rfl) ?_
  obtain ⟨q_1, eq_1⟩ : ∃ z, z = u := ⟨_, rfl⟩
  subst eq_1
  have hP9 := hP.sub (ws' := [(sb, .inr (1, [.ref q_1, .int 0, .int 0, .int 0])), (q_1, .inl (cB, 16, .inl (fun _ => 0)))]) [0, 1] rfl
  have hD9 := hD.sub (ws' := [(sb, .inr (1, [.ref q_1, .int 0, .int 0, .int 0])), (q_1, .inl (cB, 16, .inl (fun _ => 0)))]) [0, 1] (by decide) rfl
  have hK9 := hK.sub (tys' := [(cB, .byte)]) [0] rfl
  exact W.vret hx hb hr (fun t ht hW => ⟨⟨q_1, rfl, trivial, ⟨by rw [ht]; exact hP9, va_K.moved hW.alike hK9, hD9⟩⟩, hS.F ht⟩) hS.2.2 dJ4_init_da8c8_6

set_option maxHeartbeats 4000000 in
set_option maxRecDepth 100000 in
/-- J5_ensureCapacityInternal_d00df -/
theorem c_J5_ensureCapacityInternal_d00df (l : Launch) (dC : Nat → ClassId) (dI : Nat → Nat → Nat) (cB : ClassId) (sb bv : Nat) (mq : Int32) (fb : Nat → Int32) (mn cn : Int32) (hmn : mn = 0 ∨ mn = 1) (sz : Nat) : Met l yJ5_ensureCapacityInternal_d00df wsJ5_ensureCapacityInternal_d00df ({ frames := 0, cells := 0, slots := 0, locals := 0 }) (va_Pc [.ref sb, .int mn] (cPC dC dI [(sb, .inr (1, [.ref bv, .int 0, .int mq, .int cn])), (bv, .inl (cB, 16, .inl fb))] [(cB, .byte)] sz)) (va_Qv (fun (u : Unit) => True) (fun (u : Unit) t => cQB dC dI [(sb, .inr (1, [.ref bv, .int 0, .int mq, .int cn])), (bv, .inl (cB, 16, .inl fb))] [(cB, .byte)] (va_A [(sb, .inr (1, [.ref bv, .int 0, .int mq, .int cn])), (bv, .inl (cB, 16, .inl fb))] sz) t) (va_A [(sb, .inr (1, [.ref bv, .int 0, .int mq, .int cn])), (bv, .inl (cB, 16, .inl fb))] sz)) 0 0 (va_A [(sb, .inr (1, [.ref bv, .int 0, .int mq, .int cn])), (bv, .inl (cB, 16, .inl fb))] sz) := by
  refine Met.ofW (cc := cJ5_ensureCapacityInternal_d00df) (maxL := 3) (ret := none) (by decide) rfl ?_
  intro p e s m args below meth c s₁ B hml hv
  obtain ⟨rfl, hsz, hP, hK, hD0, hN⟩ := hv
  have hx := B.exec
  have hb := B.bytes
  have hr := B.returns
  have hts := atoms_spec (ws := wsJ5_ensureCapacityInternal_d00df) B.pre
  have hown : s.vm.findClass RJ5 = some m.cls := findClass_of_methodNamed B.named
  have hlocks := B.notSynchronized
  subst hsz
  have hD := hD0.self (sz := s.heap.size)
  generalize hAe : va_A [(sb, .inr (1, [.ref bv, .int 0, .int mq, .int cn])), (bv, .inl (cB, 16, .inl fb))] s.heap.size = A at hD ⊢
  have hA : ∀ q : Nat, s.heap.size ≤ q → A q := fun q h => by rw [← hAe]; exact Or.inr h
  have hS : va_S A s.heap s.heap [] := va_S.rf
  have hP : va_P (dC, dI) vwCl [(sb, .inr (1, [.ref bv, .int 0, .int mq, .int cn])), (bv, .inl (cB, 16, .inl fb))] s.heap := hP
  have hD : va_D A [(sb, .inr (1, [.ref bv, .int 0, .int mq, .int cn])), (bv, .inl (cB, 16, .inl fb))] := hD
  have hl := lv_entry ([.ref sb, .int mn]) (n := 3) (Nat.le_of_ble_eq_true rfl)
  rw [lg_entry_eq]
  generalize (lg_sl ([.ref sb, .int mn]) ++ List.replicate (3 - (lg_sl ([.ref sb, .int mn])).length) Slot.unset).toArray = ls at hl ⊢
  have hl : lv_has ls 3 [(0, .ref sb), (1, .int mn)] := hl
  have iWJ4 : ∀ w ∈ u_ws RJ4 TJ4 4, w ∈ wsJ5_ensureCapacityInternal_d00df := by decide +kernel
  refine lv_aload_n hx hb dJ5_ensureCapacityInternal_d00df_0 rfl (lv_at hl 0 rfl) ?_
  refine va_get (D := (dC, dI)) (ci := 1) (v := .ref bv) (C := RJ4) (T := TJ4) (N := 4) hx hb hts iWJ4 hown hK hP 0 rfl rfl 0 (by decide) (hts (.fieldLink RJ5 15 "java/lang/AbstractStringBuilder" "value" "[B") (by decide +kernel)) (fun _ h9 => h9) rfl dJ5_ensureCapacityInternal_d00df_1 ?_
  refine va_alen hx hb hK hP 1 0 rfl rfl (v := 16) (by rfl) dJ5_ensureCapacityInternal_d00df_4 ?_
  refine lv_aload_n hx hb dJ5_ensureCapacityInternal_d00df_5 rfl (lv_at hl 0 rfl) ?_
  refine va_get (D := (dC, dI)) (ci := 1) (v := .int 0) (C := RJ4) (T := TJ4) (N := 4) hx hb hts iWJ4 hown hK hP 0 rfl rfl 1 (by decide) (hts (.fieldLink RJ5 22 "java/lang/AbstractStringBuilder" "coder" "B") (by decide +kernel)) (fun _ h9 => h9) rfl dJ5_ensureCapacityInternal_d00df_6 ?_
  refine lv_ishr hx hb dJ5_ensureCapacityInternal_d00df_9 ?_
  refine lv_topi (fun x_1 ex_1 => ?_)
  obtain rfl : x_1 = 16 := by rw [ex_1]; decide
  refine lv_istore_n (lv' := [(2, .int 16), (0, .ref sb), (1, .int mn)]) hx hb dJ5_ensureCapacityInternal_d00df_10 rfl hl (by decide) rfl (fun ls hl => ?_)
  refine lv_iload_n hx hb dJ5_ensureCapacityInternal_d00df_11 rfl (lv_at hl 2 rfl) ?_
  refine lv_iload_n hx hb dJ5_ensureCapacityInternal_d00df_12 rfl (lv_at hl 0 rfl) ?_
  refine lv_isub hx hb dJ5_ensureCapacityInternal_d00df_13 ?_
  refine lv_if_le (tgt := 38) hx hb dJ5_ensureCapacityInternal_d00df_14 (by decide) (fun c14_2 => ?_) (fun c14_2 => ?_)
  · have hP9 := hP.sub (ws' := [(sb, .inr (1, [.ref bv, .int 0, .int mq, .int cn])), (bv, .inl (cB, 16, .inl fb))]) [0, 1] rfl
    have hD9 := hD.sub (ws' := [(sb, .inr (1, [.ref bv, .int 0, .int mq, .int cn])), (bv, .inl (cB, 16, .inl fb))]) [0, 1] (by decide) rfl
    have hK9 := hK.sub (tys' := [(cB, .byte)]) [0] rfl
    exact W.vret hx hb hr (fun t ht hW => ⟨⟨(), rfl, trivial, ⟨by rw [ht]; exact hP9, va_K.moved hW.alike hK9, hD9⟩⟩, hS.F ht⟩) hS.2.2 dJ5_ensureCapacityInternal_d00df_38
  · exact absurd (by rcases hmn with rfl | rfl <;> decide) c14_2

set_option maxHeartbeats 4000000 in
set_option maxRecDepth 100000 in
/-- J5_inflateIfNeededFor_a7421 -/
theorem c_J5_inflateIfNeededFor_c (l : Launch) (dC : Nat → ClassId) (dI : Nat → Nat → Nat) (e0 : Nat) (aK aV : Nat → Nat) (cB : ClassId) (sb bv : Nat) (mq : Int32) (fb : Nat → Int32) (sz : Nat) : Met l yJ5_inflateIfNeededFor_a7421 wsJ5_inflateIfNeededFor_a7421 ({ frames := 1, cells := 0, slots := 0, locals := 20 }) (va_Pc [.ref sb, .ref (aK 0)] (cPCz (zM e0 aK aV) dC dI [(sb, .inr (1, [.ref bv, .int 0, .int mq, .int 0])), (bv, .inl (cB, 16, .inl fb))] [(cB, .byte)] sz)) (va_Qv (fun (u : Unit) => True) (fun (u : Unit) t => cQB dC dI [(sb, .inr (1, [.ref bv, .int 0, .int mq, .int 0])), (bv, .inl (cB, 16, .inl fb))] [(cB, .byte)] (va_A [(sb, .inr (1, [.ref bv, .int 0, .int mq, .int 0])), (bv, .inl (cB, 16, .inl fb))] sz) t) (va_A [(sb, .inr (1, [.ref bv, .int 0, .int mq, .int 0])), (bv, .inl (cB, 16, .inl fb))] sz)) 0 0 (va_A [(sb, .inr (1, [.ref bv, .int 0, .int mq, .int 0])), (bv, .inl (cB, 16, .inl fb))] sz) := by
  refine Met.ofW (cc := cJ5_inflateIfNeededFor_a7421) (maxL := 2) (ret := none) (by decide) rfl ?_
  intro p e s m args below meth c s₁ B hml hv
  obtain ⟨rfl, ⟨hsz, hP, hK, hD0, hN⟩, hZ⟩ := hv
  have hx := B.exec
  have hb := B.bytes
  have hr := B.returns
  have hts := atoms_spec (ws := wsJ5_inflateIfNeededFor_a7421) B.pre
  have hown : s.vm.findClass RJ5 = some m.cls := findClass_of_methodNamed B.named
  have hlocks := B.notSynchronized
  subst hsz
  have hD := hD0.self (sz := s.heap.size)
  generalize hAe : va_A [(sb, .inr (1, [.ref bv, .int 0, .int mq, .int 0])), (bv, .inl (cB, 16, .inl fb))] s.heap.size = A at hD hZ ⊢
  have hA : ∀ q : Nat, s.heap.size ≤ q → A q := fun q h => by rw [← hAe]; exact Or.inr h
  have hS : va_S A s.heap s.heap [] := va_S.rf
  have hP : va_P (dC, dI) vwCl [(sb, .inr (1, [.ref bv, .int 0, .int mq, .int 0])), (bv, .inl (cB, 16, .inl fb))] s.heap := hP
  have hD : va_D A [(sb, .inr (1, [.ref bv, .int 0, .int mq, .int 0])), (bv, .inl (cB, 16, .inl fb))] := hD
  have hl := lv_entry ([.ref sb, .ref (aK 0)]) (n := 2) (Nat.le_of_ble_eq_true rfl)
  rw [lg_entry_eq]
  generalize (lg_sl ([.ref sb, .ref (aK 0)]) ++ List.replicate (2 - (lg_sl ([.ref sb, .ref (aK 0)])).length) Slot.unset).toArray = ls at hl ⊢
  have hl : lv_has ls 2 [(0, .ref sb), (1, .ref (aK 0))] := hl
  have iWJ0 : ∀ w ∈ u_ws RJ0 TJ0 4, w ∈ wsJ5_inflateIfNeededFor_a7421 := by decide +kernel
  have iWJ4 : ∀ w ∈ u_ws RJ4 TJ4 4, w ∈ wsJ5_inflateIfNeededFor_a7421 := by decide +kernel
  refine va_gets hx hb hZ.1.2.2.1 hS hown (hts (.fieldLink RJ5 18 "java/lang/String" "COMPACT_STRINGS" "Z") (by decide +kernel)) (fun _ h9 => h9) dJ5_inflateIfNeededFor_a7421_0 ?_
  refine lv_if_eq (tgt := 21) hx hb dJ5_inflateIfNeededFor_a7421_3 (by decide) (fun c3_1 => ?_) (fun c3_1 => ?_)
  · exact absurd c3_1 (by decide)
  · refine lv_aload_n hx hb dJ5_inflateIfNeededFor_a7421_6 rfl (lv_at hl 0 rfl) ?_
    refine va_get (D := (dC, dI)) (ci := 1) (v := .int 0) (C := RJ4) (T := TJ4) (N := 4) hx hb hts iWJ4 hown hK hP 0 rfl rfl 1 (by decide) (hts (.fieldLink RJ5 22 "java/lang/AbstractStringBuilder" "coder" "B") (by decide +kernel)) (fun _ h9 => h9) rfl dJ5_inflateIfNeededFor_a7421_7 ?_
    refine lv_aload_n hx hb dJ5_inflateIfNeededFor_a7421_10 rfl (lv_at hl 1 rfl) ?_
    have hPc := hP.sub (ws' := []) [] rfl
    have hDc := hD.sub (ws' := []) [] (by decide) rfl
    have hKc := hK.sub (tys' := []) [] rfl
    have hFc := va_free (wc := []) hD hS hA [] rfl
    refine va_calli (va_runV (As := []) (rest := [.int 0]) ⟨hx, hb, hml, hown, hts⟩ (c_J0_coder_c l dC dI e0 aK aV s.heap.size) (cwV 0 hts gJ5_inflateIfNeededFor_a7421_J0_coder_7d493 rfl rfl rfl (by decide +kernel) ⟨Nat.le_of_ble_eq_true rfl, Nat.le_of_ble_eq_true rfl⟩) (pcVs hPc hDc hKc hN hZ hS hFc (i := 0) (by decide)) rfl rfl hl.1 rfl (lv_room (Nat.le_of_ble_eq_true rfl)) dJ5_inflateIfNeededFor_a7421_11 ⟨Nat.le_of_ble_eq_true rfl, Nat.le_of_ble_eq_true rfl⟩) hS (fun q _ h => hFc q h) hFc (fun r_2 u t H1 locs ht hvm hw_3 hB hz1 hk1 hS => ?_)
    obtain ⟨hP1, hK1, hD1⟩ := hB
    rw [ht] at hP1
    try dsimp only at hw_3
    obtain ⟨hP, hD⟩ := va_join (wr := [(sb, .inr (1, [.ref bv, .int 0, .int mq, .int 0])), (bv, .inl (cB, 16, .inl fb))]) (w1 := []) hP hD [] [0, 1] rfl rfl (by decide) (by decide) hk1 hFc hP1 hD1
    generalize H1 = H at hP hS ⊢
    have hP : va_P (dC, dI) vwCl [(sb, .inr (1, [.ref bv, .int 0, .int mq, .int 0])), (bv, .inl (cB, 16, .inl fb))] H := hP
    have hD : va_D A [(sb, .inr (1, [.ref bv, .int 0, .int mq, .int 0])), (bv, .inl (cB, 16, .inl fb))] := hD
    subst hw_3
    refine lv_icmp_eq (tgt := 21) hx hb dJ5_inflateIfNeededFor_a7421_14 (by decide) (fun c14_4 => ?_) (fun c14_4 => ?_)
    · have hP9 := hP.sub (ws' := [(sb, .inr (1, [.ref bv, .int 0, .int mq, .int 0])), (bv, .inl (cB, 16, .inl fb))]) [0, 1] rfl
      have hD9 := hD.sub (ws' := [(sb, .inr (1, [.ref bv, .int 0, .int mq, .int 0])), (bv, .inl (cB, 16, .inl fb))]) [0, 1] (by decide) rfl
      have hK9 := hK.sub (tys' := [(cB, .byte)]) [0] rfl
      exact W.vret hx hb hr (fun t ht hW => ⟨⟨(), rfl, trivial, ⟨by rw [ht]; exact hP9, va_K.moved hW.alike hK9, hD9⟩⟩, hS.F ht⟩) hS.2.2 dJ5_inflateIfNeededFor_a7421_21
    · exact (c14_4 (by decide)).elim

set_option maxHeartbeats 4000000 in
set_option maxRecDepth 100000 in
/-- J5_inflateIfNeededFor_a7421 -/
theorem c_J5_inflateIfNeededFor_w (l : Launch) (dC : Nat → ClassId) (dI : Nat → Nat → Nat) (e0 : Nat) (aK aV : Nat → Nat) (cB : ClassId) (sb bv : Nat) (mq : Int32) (fb : Nat → Int32) (st sv : Nat) (hh hz : Int32) (fs9 : Nat → Int32) (sz : Nat) : Met l yJ5_inflateIfNeededFor_a7421 wsJ5_inflateIfNeededFor_a7421 ({ frames := 1, cells := 0, slots := 0, locals := 20 }) (va_Pc [.ref sb, .ref st] (cPCz (zM e0 aK aV) dC dI [(sb, .inr (1, [.ref bv, .int 0, .int mq, .int 0])), (bv, .inl (cB, 16, .inl fb)), (st, .inr (0, [.ref sv, .int 0, .int hh, .int hz])), (sv, .inl (cB, 1, .inl fs9))] [(cB, .byte)] sz)) (va_Qv (fun (u : Unit) => True) (fun (u : Unit) t => cQB dC dI [(sb, .inr (1, [.ref bv, .int 0, .int mq, .int 0])), (bv, .inl (cB, 16, .inl fb)), (st, .inr (0, [.ref sv, .int 0, .int hh, .int hz])), (sv, .inl (cB, 1, .inl fs9))] [(cB, .byte)] (va_A [(sb, .inr (1, [.ref bv, .int 0, .int mq, .int 0])), (bv, .inl (cB, 16, .inl fb)), (st, .inr (0, [.ref sv, .int 0, .int hh, .int hz])), (sv, .inl (cB, 1, .inl fs9))] sz) t) (va_A [(sb, .inr (1, [.ref bv, .int 0, .int mq, .int 0])), (bv, .inl (cB, 16, .inl fb)), (st, .inr (0, [.ref sv, .int 0, .int hh, .int hz])), (sv, .inl (cB, 1, .inl fs9))] sz)) 0 0 (va_A [(sb, .inr (1, [.ref bv, .int 0, .int mq, .int 0])), (bv, .inl (cB, 16, .inl fb)), (st, .inr (0, [.ref sv, .int 0, .int hh, .int hz])), (sv, .inl (cB, 1, .inl fs9))] sz) := by
  refine Met.ofW (cc := cJ5_inflateIfNeededFor_a7421) (maxL := 2) (ret := none) (by decide) rfl ?_
  intro p e s m args below meth c s₁ B hml hv
  obtain ⟨rfl, ⟨hsz, hP, hK, hD0, hN⟩, hZ⟩ := hv
  have hx := B.exec
  have hb := B.bytes
  have hr := B.returns
  have hts := atoms_spec (ws := wsJ5_inflateIfNeededFor_a7421) B.pre
  have hown : s.vm.findClass RJ5 = some m.cls := findClass_of_methodNamed B.named
  have hlocks := B.notSynchronized
  subst hsz
  have hD := hD0.self (sz := s.heap.size)
  generalize hAe : va_A [(sb, .inr (1, [.ref bv, .int 0, .int mq, .int 0])), (bv, .inl (cB, 16, .inl fb)), (st, .inr (0, [.ref sv, .int 0, .int hh, .int hz])), (sv, .inl (cB, 1, .inl fs9))] s.heap.size = A at hD hZ ⊢
  have hA : ∀ q : Nat, s.heap.size ≤ q → A q := fun q h => by rw [← hAe]; exact Or.inr h
  have hS : va_S A s.heap s.heap [] := va_S.rf
  have hP : va_P (dC, dI) vwCl [(sb, .inr (1, [.ref bv, .int 0, .int mq, .int 0])), (bv, .inl (cB, 16, .inl fb)), (st, .inr (0, [.ref sv, .int 0, .int hh, .int hz])), (sv, .inl (cB, 1, .inl fs9))] s.heap := hP
  have hD : va_D A [(sb, .inr (1, [.ref bv, .int 0, .int mq, .int 0])), (bv, .inl (cB, 16, .inl fb)), (st, .inr (0, [.ref sv, .int 0, .int hh, .int hz])), (sv, .inl (cB, 1, .inl fs9))] := hD
  have hl := lv_entry ([.ref sb, .ref st]) (n := 2) (Nat.le_of_ble_eq_true rfl)
  rw [lg_entry_eq]
  generalize (lg_sl ([.ref sb, .ref st]) ++ List.replicate (2 - (lg_sl ([.ref sb, .ref st])).length) Slot.unset).toArray = ls at hl ⊢
  have hl : lv_has ls 2 [(0, .ref sb), (1, .ref st)] := hl
  have iWJ0 : ∀ w ∈ u_ws RJ0 TJ0 4, w ∈ wsJ5_inflateIfNeededFor_a7421 := by decide +kernel
  have iWJ4 : ∀ w ∈ u_ws RJ4 TJ4 4, w ∈ wsJ5_inflateIfNeededFor_a7421 := by decide +kernel
  refine va_gets hx hb hZ.1.2.2.1 hS hown (hts (.fieldLink RJ5 18 "java/lang/String" "COMPACT_STRINGS" "Z") (by decide +kernel)) (fun _ h9 => h9) dJ5_inflateIfNeededFor_a7421_0 ?_
  refine lv_if_eq (tgt := 21) hx hb dJ5_inflateIfNeededFor_a7421_3 (by decide) (fun c3_1 => ?_) (fun c3_1 => ?_)
  · exact absurd c3_1 (by decide)
  · refine lv_aload_n hx hb dJ5_inflateIfNeededFor_a7421_6 rfl (lv_at hl 0 rfl) ?_
    refine va_get (D := (dC, dI)) (ci := 1) (v := .int 0) (C := RJ4) (T := TJ4) (N := 4) hx hb hts iWJ4 hown hK hP 0 rfl rfl 1 (by decide) (hts (.fieldLink RJ5 22 "java/lang/AbstractStringBuilder" "coder" "B") (by decide +kernel)) (fun _ h9 => h9) rfl dJ5_inflateIfNeededFor_a7421_7 ?_
    refine lv_aload_n hx hb dJ5_inflateIfNeededFor_a7421_10 rfl (lv_at hl 1 rfl) ?_
    have hPc := hP.sub (ws' := [(st, .inr (0, [.ref sv, .int 0, .int hh, .int hz]))]) [2] rfl
    have hDc := hD.sub (ws' := [(st, .inr (0, [.ref sv, .int 0, .int hh, .int hz]))]) [2] (by decide) rfl
    have hKc := hK.sub (tys' := []) [] rfl
    have hFc := va_free (wc := [(st, .inr (0, [.ref sv, .int 0, .int hh, .int hz]))]) hD hS hA [2] rfl
    refine va_calli (va_runV (As := []) (rest := [.int 0]) ⟨hx, hb, hml, hown, hts⟩ (c_J0_coder_w l dC dI e0 aK aV cB st sv hh hz fs9 s.heap.size) (cwV 0 hts gJ5_inflateIfNeededFor_a7421_J0_coder_7d493 rfl rfl rfl (by decide +kernel) ⟨Nat.le_of_ble_eq_true rfl, Nat.le_of_ble_eq_true rfl⟩) (pcVz (zM_ok e0 aK aV) hPc hDc hKc hN hZ hS hFc (ci := 0) (q0 := 0) rfl rfl) rfl rfl hl.1 rfl (lv_room (Nat.le_of_ble_eq_true rfl)) dJ5_inflateIfNeededFor_a7421_11 ⟨Nat.le_of_ble_eq_true rfl, Nat.le_of_ble_eq_true rfl⟩) hS (fun q _ h => hFc q h) hFc (fun r_2 u t H1 locs ht hvm hw_3 hB hz1 hk1 hS => ?_)
    obtain ⟨hP1, hK1, hD1⟩ := hB
    rw [ht] at hP1
    try dsimp only at hw_3
    obtain ⟨hP, hD⟩ := va_join (wr := [(sb, .inr (1, [.ref bv, .int 0, .int mq, .int 0])), (bv, .inl (cB, 16, .inl fb)), (sv, .inl (cB, 1, .inl fs9))]) (w1 := [(st, .inr (0, [.ref sv, .int 0, .int hh, .int hz]))]) hP hD [2] [0, 1, 3] rfl rfl (by decide) (by decide) hk1 hFc hP1 hD1
    generalize H1 = H at hP hS ⊢
    have hP : va_P (dC, dI) vwCl [(sb, .inr (1, [.ref bv, .int 0, .int mq, .int 0])), (bv, .inl (cB, 16, .inl fb)), (sv, .inl (cB, 1, .inl fs9)), (st, .inr (0, [.ref sv, .int 0, .int hh, .int hz]))] H := hP
    have hD : va_D A [(sb, .inr (1, [.ref bv, .int 0, .int mq, .int 0])), (bv, .inl (cB, 16, .inl fb)), (sv, .inl (cB, 1, .inl fs9)), (st, .inr (0, [.ref sv, .int 0, .int hh, .int hz]))] := hD
    subst hw_3
    refine lv_icmp_eq (tgt := 21) hx hb dJ5_inflateIfNeededFor_a7421_14 (by decide) (fun c14_4 => ?_) (fun c14_4 => ?_)
    · have hP9 := hP.sub (ws' := [(sb, .inr (1, [.ref bv, .int 0, .int mq, .int 0])), (bv, .inl (cB, 16, .inl fb)), (st, .inr (0, [.ref sv, .int 0, .int hh, .int hz])), (sv, .inl (cB, 1, .inl fs9))]) [0, 1, 3, 2] rfl
      have hD9 := hD.sub (ws' := [(sb, .inr (1, [.ref bv, .int 0, .int mq, .int 0])), (bv, .inl (cB, 16, .inl fb)), (st, .inr (0, [.ref sv, .int 0, .int hh, .int hz])), (sv, .inl (cB, 1, .inl fs9))]) [0, 1, 3, 2] (by decide) rfl
      have hK9 := hK.sub (tys' := [(cB, .byte)]) [0] rfl
      exact W.vret hx hb hr (fun t ht hW => ⟨⟨(), rfl, trivial, ⟨by rw [ht]; exact hP9, va_K.moved hW.alike hK9, hD9⟩⟩, hS.F ht⟩) hS.2.2 dJ5_inflateIfNeededFor_a7421_21
    · exact (c14_4 (by decide)).elim

set_option maxHeartbeats 4000000 in
set_option maxRecDepth 100000 in
/-- J0_getBytes_840e7 -/
theorem c_J0_getBytes_c (l : Launch) (dC : Nat → ClassId) (dI : Nat → Nat → Nat) (e0 : Nat) (aK aV : Nat → Nat) (cB : ClassId) (bv : Nat) (fb : Nat → Int32) (sz : Nat) : Met l yJ0_getBytes_840e7 wsJ0_getBytes_840e7 ({ frames := 1, cells := 0, slots := 0, locals := 60 }) (va_Pc [.ref (aK 0), .ref bv, .int 0, .int 0] (cPCz (zM e0 aK aV) dC dI [(bv, .inl (cB, 16, .inl fb))] [(cB, .byte)] sz)) (va_Qv (fun (u : Nat → Int32) => True) (fun (u : Nat → Int32) t => cQB dC dI [(bv, .inl (cB, 16, .inl u))] [(cB, .byte)] (va_A [(bv, .inl (cB, 16, .inl fb))] sz) t) (va_A [(bv, .inl (cB, 16, .inl fb))] sz)) 0 0 (va_A [(bv, .inl (cB, 16, .inl fb))] sz) := by
  refine Met.ofW (cc := cJ0_getBytes_840e7) (maxL := 4) (ret := none) (by decide) rfl ?_
  intro p e s m args below meth c s₁ B hml hv
  obtain ⟨rfl, ⟨hsz, hP, hK, hD0, hN⟩, hZ⟩ := hv
  have hx := B.exec
  have hb := B.bytes
  have hr := B.returns
  have hts := atoms_spec (ws := wsJ0_getBytes_840e7) B.pre
  have hown : s.vm.findClass RJ0 = some m.cls := findClass_of_methodNamed B.named
  have hlocks := B.notSynchronized
  subst hsz
  have hD := hD0.self (sz := s.heap.size)
  generalize hAe : va_A [(bv, .inl (cB, 16, .inl fb))] s.heap.size = A at hD hZ ⊢
  have hA : ∀ q : Nat, s.heap.size ≤ q → A q := fun q h => by rw [← hAe]; exact Or.inr h
  have hS : va_S A s.heap s.heap [] := va_S.rf
  have hP : va_P (dC, dI) vwCl [(bv, .inl (cB, 16, .inl fb))] s.heap := hP
  have hD : va_D A [(bv, .inl (cB, 16, .inl fb))] := hD
  have hl := lv_entry ([.ref (aK 0), .ref bv, .int 0, .int 0]) (n := 4) (Nat.le_of_ble_eq_true rfl)
  rw [lg_entry_eq]
  generalize (lg_sl ([.ref (aK 0), .ref bv, .int 0, .int 0]) ++ List.replicate (4 - (lg_sl ([.ref (aK 0), .ref bv, .int 0, .int 0])).length) Slot.unset).toArray = ls at hl ⊢
  have hl : lv_has ls 4 [(0, .ref (aK 0)), (1, .ref bv), (2, .int 0), (3, .int 0)] := hl
  have iWJ0 : ∀ w ∈ u_ws RJ0 TJ0 4, w ∈ wsJ0_getBytes_840e7 := by decide +kernel
  refine lv_aload_n hx hb dJ0_getBytes_840e7_0 rfl (lv_at hl 0 rfl) ?_
  have hPc := hP.sub (ws' := []) [] rfl
  have hDc := hD.sub (ws' := []) [] (by decide) rfl
  have hKc := hK.sub (tys' := []) [] rfl
  have hFc := va_free (wc := []) hD hS hA [] rfl
  refine va_calli (va_runV (As := []) (rest := []) ⟨hx, hb, hml, hown, hts⟩ (c_J0_coder_c l dC dI e0 aK aV s.heap.size) (cwV 0 hts gJ0_getBytes_840e7_J0_coder_7d493 rfl rfl rfl (by decide +kernel) ⟨Nat.le_of_ble_eq_true rfl, Nat.le_of_ble_eq_true rfl⟩) (pcVs hPc hDc hKc hN hZ hS hFc (i := 0) (by decide)) rfl rfl hl.1 rfl (lv_room (Nat.le_of_ble_eq_true rfl)) dJ0_getBytes_840e7_1 ⟨Nat.le_of_ble_eq_true rfl, Nat.le_of_ble_eq_true rfl⟩) hS (fun q _ h => hFc q h) hFc (fun r_1 u t H1 locs ht hvm hw_2 hB hz1 hk1 hS => ?_)
  obtain ⟨hP1, hK1, hD1⟩ := hB
  rw [ht] at hP1
  try dsimp only at hw_2
  obtain ⟨hP, hD⟩ := va_join (wr := [(bv, .inl (cB, 16, .inl fb))]) (w1 := []) hP hD [] [0] rfl rfl (by decide) (by decide) hk1 hFc hP1 hD1
  generalize H1 = H at hP hS ⊢
  have hP : va_P (dC, dI) vwCl [(bv, .inl (cB, 16, .inl fb))] H := hP
  have hD : va_D A [(bv, .inl (cB, 16, .inl fb))] := hD
  subst hw_2
  refine lv_iload_n hx hb dJ0_getBytes_840e7_4 rfl (lv_at hl 3 rfl) ?_
  refine lv_icmp_ne (tgt := 28) hx hb dJ0_getBytes_840e7_5 (by decide) (fun c5_3 => ?_) (fun c5_3 => ?_)
  · exact (c5_3 (by decide)).elim
  · refine lv_aload_n hx hb dJ0_getBytes_840e7_8 rfl (lv_at hl 0 rfl) ?_
    refine vk_getf hx hb (hZ.1.2.2.2.1 0 (by decide)).2.2.1 hS hown (hts (.fieldLink RJ0 9 "java/lang/String" "value" "[B") (by decide +kernel)) (fun _ h9 => h9) dJ0_getBytes_840e7_9 ?_
    refine lv_iconst (v := 0) hx hb dJ0_getBytes_840e7_12 (by decide) ?_
    refine lv_aload_n hx hb dJ0_getBytes_840e7_13 rfl (lv_at hl 1 rfl) ?_
    refine lv_iload_n hx hb dJ0_getBytes_840e7_14 rfl (lv_at hl 2 rfl) ?_
    refine lv_iload_n hx hb dJ0_getBytes_840e7_15 rfl (lv_at hl 3 rfl) ?_
    refine lv_ishl hx hb dJ0_getBytes_840e7_16 ?_
    refine lv_aload_n hx hb dJ0_getBytes_840e7_17 rfl (lv_at hl 0 rfl) ?_
    refine vk_getf hx hb (hZ.1.2.2.2.1 0 (by decide)).2.2.1 hS hown (hts (.fieldLink RJ0 9 "java/lang/String" "value" "[B") (by decide +kernel)) (fun _ h9 => h9) dJ0_getBytes_840e7_18 ?_
    refine va_tlen hx hb (hZ.1.2.2.2.1 0 (by decide)).2.2.2 hS (v := 0) (by decide) dJ0_getBytes_840e7_21 ?_
    refine vk_copyt hx hb (hml.trans hl.1.symm) hown (hts (.methodLink RJ0 212 arraycopyName) (by decide +kernel)) (hts (.native arraycopyName) (by decide +kernel)) (hts (.static arraycopyName) (by decide +kernel)) (hts (.initialized "java/lang/System") (by decide +kernel)) hK hP hD hS (f := (fun j => (([[], [104, 110, 111, 115, 109]] : List (List Int32)).getD 0 []).getD j 0)) (hZ.1.2.2.2.1 0 (by decide)).2.2.2 0 0 rfl rfl (sp := 0) (dp := ((0 : Int32) <<< 0)) (n := 0) (by decide +kernel) (by decide +kernel) (by decide +kernel) (by decide +kernel) (by decide +kernel) (fun i9 h9 => absurd (show i9 < 0 from h9) (Nat.not_lt_zero _)) (Nat.le_of_ble_eq_true rfl) (by decide +kernel) dJ0_getBytes_840e7_22 (fun H locs hP hD hS => ?_)
    obtain ⟨f_4, ef_4⟩ : ∃ z, z = (va_cpy (fun j => (([[], [104, 110, 111, 115, 109]] : List (List Int32)).getD 0 []).getD j 0) fb (0 : Int32).toNatClampNeg (((0 : Int32) <<< 0) : Int32).toNatClampNeg (0 : Int32).toNatClampNeg) := ⟨_, rfl⟩
    have hP : va_P (dC, dI) vwCl [(bv, .inl (cB, 16, .inl f_4))] H := by rw [ef_4]; exact hP
    have hD : va_D A [(bv, .inl (cB, 16, .inl f_4))] := by rw [ef_4]; exact hD
    refine lv_goto (tgt := 43) hx hb dJ0_getBytes_840e7_25 (by decide) ?_
    have hP9 := hP.sub (ws' := [(bv, .inl (cB, 16, .inl f_4))]) [0] rfl
    have hD9 := hD.sub (ws' := [(bv, .inl (cB, 16, .inl f_4))]) [0] (by decide) rfl
    have hK9 := hK.sub (tys' := [(cB, .byte)]) [0] rfl
    exact W.vret hx hb hr (fun t ht hW => ⟨⟨f_4, rfl, trivial, ⟨by rw [ht]; exact hP9, va_K.moved hW.alike hK9, hD9⟩⟩, hS.F ht⟩) hS.2.2 dJ0_getBytes_840e7_43

set_option maxHeartbeats 4000000 in
set_option maxRecDepth 100000 in
/-- J0_getBytes_840e7 -/
theorem c_J0_getBytes_w (l : Launch) (dC : Nat → ClassId) (dI : Nat → Nat → Nat) (e0 : Nat) (aK aV : Nat → Nat) (cB : ClassId) (bv : Nat) (fb : Nat → Int32) (st sv : Nat) (hh hz : Int32) (fs9 : Nat → Int32) (hfs : fits .byte (.int (fs9 0)) = true) (sz : Nat) : Met l yJ0_getBytes_840e7 wsJ0_getBytes_840e7 ({ frames := 1, cells := 0, slots := 0, locals := 60 }) (va_Pc [.ref st, .ref bv, .int 0, .int 0] (cPCz (zM e0 aK aV) dC dI [(bv, .inl (cB, 16, .inl fb)), (st, .inr (0, [.ref sv, .int 0, .int hh, .int hz])), (sv, .inl (cB, 1, .inl fs9))] [(cB, .byte)] sz)) (va_Qv (fun (u : Nat → Int32) => u 0 = fs9 0) (fun (u : Nat → Int32) t => cQB dC dI [(bv, .inl (cB, 16, .inl u)), (st, .inr (0, [.ref sv, .int 0, .int hh, .int hz])), (sv, .inl (cB, 1, .inl fs9))] [(cB, .byte)] (va_A [(bv, .inl (cB, 16, .inl fb)), (st, .inr (0, [.ref sv, .int 0, .int hh, .int hz])), (sv, .inl (cB, 1, .inl fs9))] sz) t) (va_A [(bv, .inl (cB, 16, .inl fb)), (st, .inr (0, [.ref sv, .int 0, .int hh, .int hz])), (sv, .inl (cB, 1, .inl fs9))] sz)) 0 0 (va_A [(bv, .inl (cB, 16, .inl fb)), (st, .inr (0, [.ref sv, .int 0, .int hh, .int hz])), (sv, .inl (cB, 1, .inl fs9))] sz) := by
  refine Met.ofW (cc := cJ0_getBytes_840e7) (maxL := 4) (ret := none) (by decide) rfl ?_
  intro p e s m args below meth c s₁ B hml hv
  obtain ⟨rfl, ⟨hsz, hP, hK, hD0, hN⟩, hZ⟩ := hv
  have hx := B.exec
  have hb := B.bytes
  have hr := B.returns
  have hts := atoms_spec (ws := wsJ0_getBytes_840e7) B.pre
  have hown : s.vm.findClass RJ0 = some m.cls := findClass_of_methodNamed B.named
  have hlocks := B.notSynchronized
  subst hsz
  have hD := hD0.self (sz := s.heap.size)
  generalize hAe : va_A [(bv, .inl (cB, 16, .inl fb)), (st, .inr (0, [.ref sv, .int 0, .int hh, .int hz])), (sv, .inl (cB, 1, .inl fs9))] s.heap.size = A at hD hZ ⊢
  have hA : ∀ q : Nat, s.heap.size ≤ q → A q := fun q h => by rw [← hAe]; exact Or.inr h
  have hS : va_S A s.heap s.heap [] := va_S.rf
  have hP : va_P (dC, dI) vwCl [(bv, .inl (cB, 16, .inl fb)), (st, .inr (0, [.ref sv, .int 0, .int hh, .int hz])), (sv, .inl (cB, 1, .inl fs9))] s.heap := hP
  have hD : va_D A [(bv, .inl (cB, 16, .inl fb)), (st, .inr (0, [.ref sv, .int 0, .int hh, .int hz])), (sv, .inl (cB, 1, .inl fs9))] := hD
  have hl := lv_entry ([.ref st, .ref bv, .int 0, .int 0]) (n := 4) (Nat.le_of_ble_eq_true rfl)
  rw [lg_entry_eq]
  generalize (lg_sl ([.ref st, .ref bv, .int 0, .int 0]) ++ List.replicate (4 - (lg_sl ([.ref st, .ref bv, .int 0, .int 0])).length) Slot.unset).toArray = ls at hl ⊢
  have hl : lv_has ls 4 [(0, .ref st), (1, .ref bv), (2, .int 0), (3, .int 0)] := hl
  have iWJ0 : ∀ w ∈ u_ws RJ0 TJ0 4, w ∈ wsJ0_getBytes_840e7 := by decide +kernel
  refine lv_aload_n hx hb dJ0_getBytes_840e7_0 rfl (lv_at hl 0 rfl) ?_
  have hPc := hP.sub (ws' := [(st, .inr (0, [.ref sv, .int 0, .int hh, .int hz]))]) [1] rfl
  have hDc := hD.sub (ws' := [(st, .inr (0, [.ref sv, .int 0, .int hh, .int hz]))]) [1] (by decide) rfl
  have hKc := hK.sub (tys' := []) [] rfl
  have hFc := va_free (wc := [(st, .inr (0, [.ref sv, .int 0, .int hh, .int hz]))]) hD hS hA [1] rfl
  refine va_calli (va_runV (As := []) (rest := []) ⟨hx, hb, hml, hown, hts⟩ (c_J0_coder_w l dC dI e0 aK aV cB st sv hh hz fs9 s.heap.size) (cwV 0 hts gJ0_getBytes_840e7_J0_coder_7d493 rfl rfl rfl (by decide +kernel) ⟨Nat.le_of_ble_eq_true rfl, Nat.le_of_ble_eq_true rfl⟩) (pcVz (zM_ok e0 aK aV) hPc hDc hKc hN hZ hS hFc (ci := 0) (q0 := 0) rfl rfl) rfl rfl hl.1 rfl (lv_room (Nat.le_of_ble_eq_true rfl)) dJ0_getBytes_840e7_1 ⟨Nat.le_of_ble_eq_true rfl, Nat.le_of_ble_eq_true rfl⟩) hS (fun q _ h => hFc q h) hFc (fun r_1 u t H1 locs ht hvm hw_2 hB hz1 hk1 hS => ?_)
  obtain ⟨hP1, hK1, hD1⟩ := hB
  rw [ht] at hP1
  try dsimp only at hw_2
  obtain ⟨hP, hD⟩ := va_join (wr := [(bv, .inl (cB, 16, .inl fb)), (sv, .inl (cB, 1, .inl fs9))]) (w1 := [(st, .inr (0, [.ref sv, .int 0, .int hh, .int hz]))]) hP hD [1] [0, 2] rfl rfl (by decide) (by decide) hk1 hFc hP1 hD1
  generalize H1 = H at hP hS ⊢
  have hP : va_P (dC, dI) vwCl [(bv, .inl (cB, 16, .inl fb)), (sv, .inl (cB, 1, .inl fs9)), (st, .inr (0, [.ref sv, .int 0, .int hh, .int hz]))] H := hP
  have hD : va_D A [(bv, .inl (cB, 16, .inl fb)), (sv, .inl (cB, 1, .inl fs9)), (st, .inr (0, [.ref sv, .int 0, .int hh, .int hz]))] := hD
  subst hw_2
  refine lv_iload_n hx hb dJ0_getBytes_840e7_4 rfl (lv_at hl 3 rfl) ?_
  refine lv_icmp_ne (tgt := 28) hx hb dJ0_getBytes_840e7_5 (by decide) (fun c5_3 => ?_) (fun c5_3 => ?_)
  · exact (c5_3 (by decide)).elim
  · refine lv_aload_n hx hb dJ0_getBytes_840e7_8 rfl (lv_at hl 0 rfl) ?_
    refine va_get (D := (dC, dI)) (ci := 0) (v := .ref sv) (C := RJ0) (T := TJ0) (N := 4) hx hb hts iWJ0 hown hK hP 2 rfl rfl 0 (by decide) (hts (.fieldLink RJ0 9 "java/lang/String" "value" "[B") (by decide +kernel)) (fun _ h9 => h9) rfl dJ0_getBytes_840e7_9 ?_
    refine lv_iconst (v := 0) hx hb dJ0_getBytes_840e7_12 (by decide) ?_
    refine lv_aload_n hx hb dJ0_getBytes_840e7_13 rfl (lv_at hl 1 rfl) ?_
    refine lv_iload_n hx hb dJ0_getBytes_840e7_14 rfl (lv_at hl 2 rfl) ?_
    refine lv_iload_n hx hb dJ0_getBytes_840e7_15 rfl (lv_at hl 3 rfl) ?_
    refine lv_ishl hx hb dJ0_getBytes_840e7_16 ?_
    refine lv_aload_n hx hb dJ0_getBytes_840e7_17 rfl (lv_at hl 0 rfl) ?_
    refine va_get (D := (dC, dI)) (ci := 0) (v := .ref sv) (C := RJ0) (T := TJ0) (N := 4) hx hb hts iWJ0 hown hK hP 2 rfl rfl 0 (by decide) (hts (.fieldLink RJ0 9 "java/lang/String" "value" "[B") (by decide +kernel)) (fun _ h9 => h9) rfl dJ0_getBytes_840e7_18 ?_
    refine va_alen hx hb hK hP 1 0 rfl rfl (v := 1) (by rfl) dJ0_getBytes_840e7_21 ?_
    refine va_copyi hx hb (hml.trans hl.1.symm) hown (hts (.methodLink RJ0 212 arraycopyName) (by decide +kernel)) (hts (.native arraycopyName) (by decide +kernel)) (hts (.static arraycopyName) (by decide +kernel)) (hts (.initialized "java/lang/System") (by decide +kernel)) hK hP hD hS 1 0 0 0 rfl rfl rfl rfl rfl (sp := 0) (dp := ((0 : Int32) <<< 0)) (n := 1) (by decide +kernel) (by decide +kernel) (by decide +kernel) (by decide +kernel) (by decide +kernel) (fun i9 h9 => by have h7 : i9 < 1 := h9; have h8 : i9 = 0 := (by omega); subst h8; exact hfs) (Nat.le_of_ble_eq_true rfl) (by decide +kernel) dJ0_getBytes_840e7_22 (fun H locs hP hD hS => ?_)
    obtain ⟨f_4, ef_4⟩ : ∃ z, z = (va_cpy fs9 fb (0 : Int32).toNatClampNeg (((0 : Int32) <<< 0) : Int32).toNatClampNeg (1 : Int32).toNatClampNeg) := ⟨_, rfl⟩
    have hP : va_P (dC, dI) vwCl [(bv, .inl (cB, 16, .inl f_4)), (sv, .inl (cB, 1, .inl fs9)), (st, .inr (0, [.ref sv, .int 0, .int hh, .int hz]))] H := by rw [ef_4]; exact hP
    have hD : va_D A [(bv, .inl (cB, 16, .inl f_4)), (sv, .inl (cB, 1, .inl fs9)), (st, .inr (0, [.ref sv, .int 0, .int hh, .int hz]))] := by rw [ef_4]; exact hD
    refine lv_goto (tgt := 43) hx hb dJ0_getBytes_840e7_25 (by decide) ?_
    have hP9 := hP.sub (ws' := [(bv, .inl (cB, 16, .inl f_4)), (st, .inr (0, [.ref sv, .int 0, .int hh, .int hz])), (sv, .inl (cB, 1, .inl fs9))]) [0, 2, 1] rfl
    have hD9 := hD.sub (ws' := [(bv, .inl (cB, 16, .inl f_4)), (st, .inr (0, [.ref sv, .int 0, .int hh, .int hz])), (sv, .inl (cB, 1, .inl fs9))]) [0, 2, 1] (by decide) rfl
    have hK9 := hK.sub (tys' := [(cB, .byte)]) [0] rfl
    exact W.vret hx hb hr (fun t ht hW => ⟨⟨f_4, rfl, (by rw [ef_4]; rfl), ⟨by rw [ht]; exact hP9, va_K.moved hW.alike hK9, hD9⟩⟩, hS.F ht⟩) hS.2.2 dJ0_getBytes_840e7_43

set_option maxHeartbeats 4000000 in
set_option maxRecDepth 100000 in
/-- J5_putStringAt_47b60 -/
theorem c_J5_putStringAt_c (l : Launch) (dC : Nat → ClassId) (dI : Nat → Nat → Nat) (e0 : Nat) (aK aV : Nat → Nat) (cB : ClassId) (sb bv : Nat) (mq : Int32) (fb : Nat → Int32) (sz : Nat) : Met l yJ5_putStringAt_47b60 wsJ5_putStringAt_47b60 ({ frames := 2, cells := 0, slots := 0, locals := 83 }) (va_Pc [.ref sb, .int 0, .ref (aK 0)] (cPCz (zM e0 aK aV) dC dI [(sb, .inr (1, [.ref bv, .int 0, .int mq, .int 0])), (bv, .inl (cB, 16, .inl fb))] [(cB, .byte)] sz)) (va_Qv (fun (u : Nat → Int32) => True) (fun (u : Nat → Int32) t => cQB dC dI [(sb, .inr (1, [.ref bv, .int 0, .int mq, .int 0])), (bv, .inl (cB, 16, .inl u))] [(cB, .byte)] (va_A [(sb, .inr (1, [.ref bv, .int 0, .int mq, .int 0])), (bv, .inl (cB, 16, .inl fb))] sz) t) (va_A [(sb, .inr (1, [.ref bv, .int 0, .int mq, .int 0])), (bv, .inl (cB, 16, .inl fb))] sz)) 0 0 (va_A [(sb, .inr (1, [.ref bv, .int 0, .int mq, .int 0])), (bv, .inl (cB, 16, .inl fb))] sz) := by
  refine Met.ofW (cc := cJ5_putStringAt_47b60) (maxL := 3) (ret := none) (by decide) rfl ?_
  intro p e s m args below meth c s₁ B hml hv
  obtain ⟨rfl, ⟨hsz, hP, hK, hD0, hN⟩, hZ⟩ := hv
  have hx := B.exec
  have hb := B.bytes
  have hr := B.returns
  have hts := atoms_spec (ws := wsJ5_putStringAt_47b60) B.pre
  have hown : s.vm.findClass RJ5 = some m.cls := findClass_of_methodNamed B.named
  have hlocks := B.notSynchronized
  subst hsz
  have hD := hD0.self (sz := s.heap.size)
  generalize hAe : va_A [(sb, .inr (1, [.ref bv, .int 0, .int mq, .int 0])), (bv, .inl (cB, 16, .inl fb))] s.heap.size = A at hD hZ ⊢
  have hA : ∀ q : Nat, s.heap.size ≤ q → A q := fun q h => by rw [← hAe]; exact Or.inr h
  have hS : va_S A s.heap s.heap [] := va_S.rf
  have hP : va_P (dC, dI) vwCl [(sb, .inr (1, [.ref bv, .int 0, .int mq, .int 0])), (bv, .inl (cB, 16, .inl fb))] s.heap := hP
  have hD : va_D A [(sb, .inr (1, [.ref bv, .int 0, .int mq, .int 0])), (bv, .inl (cB, 16, .inl fb))] := hD
  have hl := lv_entry ([.ref sb, .int 0, .ref (aK 0)]) (n := 3) (Nat.le_of_ble_eq_true rfl)
  rw [lg_entry_eq]
  generalize (lg_sl ([.ref sb, .int 0, .ref (aK 0)]) ++ List.replicate (3 - (lg_sl ([.ref sb, .int 0, .ref (aK 0)])).length) Slot.unset).toArray = ls at hl ⊢
  have hl : lv_has ls 3 [(0, .ref sb), (1, .int 0), (2, .ref (aK 0))] := hl
  have iWJ0 : ∀ w ∈ u_ws RJ0 TJ0 4, w ∈ wsJ5_putStringAt_47b60 := by decide +kernel
  have iWJ4 : ∀ w ∈ u_ws RJ4 TJ4 4, w ∈ wsJ5_putStringAt_47b60 := by decide +kernel
  refine lv_aload_n hx hb dJ5_putStringAt_47b60_0 rfl (lv_at hl 0 rfl) ?_
  refine lv_aload_n hx hb dJ5_putStringAt_47b60_1 rfl (lv_at hl 2 rfl) ?_
  have hPc := hP.sub (ws' := [(sb, .inr (1, [.ref bv, .int 0, .int mq, .int 0])), (bv, .inl (cB, 16, .inl fb))]) [0, 1] rfl
  have hDc := hD.sub (ws' := [(sb, .inr (1, [.ref bv, .int 0, .int mq, .int 0])), (bv, .inl (cB, 16, .inl fb))]) [0, 1] (by decide) rfl
  have hKc := hK.sub (tys' := [(cB, .byte)]) [0] rfl
  have hFc := va_free (wc := [(sb, .inr (1, [.ref bv, .int 0, .int mq, .int 0])), (bv, .inl (cB, 16, .inl fb))]) hD hS hA [0, 1] rfl
  refine va_callv (va_runU (As := [.ref (aK 0)]) (rest := []) ⟨hx, hb, hml, hown, hts⟩ (c_J5_inflateIfNeededFor_c l dC dI e0 aK aV cB sb bv mq fb s.heap.size) (va_cwU 1 hts gJ5_putStringAt_47b60_J5_inflateIfNeededFor_a7421_u397J4 rfl rfl rfl rfl (by decide +kernel) ⟨Nat.le_of_ble_eq_true rfl, Nat.le_of_ble_eq_true rfl⟩) (pcVz (zM_ok e0 aK aV) hPc hDc hKc hN hZ hS hFc (ci := 1) (q0 := 0) rfl rfl) rfl rfl hl.1 rfl (lv_room (Nat.le_of_ble_eq_true rfl)) dJ5_putStringAt_47b60_2 ⟨Nat.le_of_ble_eq_true rfl, Nat.le_of_ble_eq_true rfl⟩) hS (fun q _ h => hFc q h) hFc (fun u t H1 locs ht hvm hw_1 hB hz1 hk1 hS => ?_)
  obtain ⟨hP1, hK1, hD1⟩ := hB
  rw [ht] at hP1
  try dsimp only at hw_1
  obtain ⟨hP, hD⟩ := va_join (wr := []) (w1 := [(sb, .inr (1, [.ref bv, .int 0, .int mq, .int 0])), (bv, .inl (cB, 16, .inl fb))]) hP hD [0, 1] [] rfl rfl (by decide) (by decide) hk1 hFc hP1 hD1
  generalize H1 = H at hP hS ⊢
  have hP : va_P (dC, dI) vwCl [(sb, .inr (1, [.ref bv, .int 0, .int mq, .int 0])), (bv, .inl (cB, 16, .inl fb))] H := hP
  have hD : va_D A [(sb, .inr (1, [.ref bv, .int 0, .int mq, .int 0])), (bv, .inl (cB, 16, .inl fb))] := hD
  refine lv_aload_n hx hb dJ5_putStringAt_47b60_5 rfl (lv_at hl 2 rfl) ?_
  refine lv_aload_n hx hb dJ5_putStringAt_47b60_6 rfl (lv_at hl 0 rfl) ?_
  refine va_get (D := (dC, dI)) (ci := 1) (v := .ref bv) (C := RJ4) (T := TJ4) (N := 4) hx hb hts iWJ4 hown hK hP 0 rfl rfl 0 (by decide) (hts (.fieldLink RJ5 15 "java/lang/AbstractStringBuilder" "value" "[B") (by decide +kernel)) (fun _ h9 => h9) rfl dJ5_putStringAt_47b60_7 ?_
  refine lv_iload_n hx hb dJ5_putStringAt_47b60_10 rfl (lv_at hl 1 rfl) ?_
  refine lv_aload_n hx hb dJ5_putStringAt_47b60_11 rfl (lv_at hl 0 rfl) ?_
  refine va_get (D := (dC, dI)) (ci := 1) (v := .int 0) (C := RJ4) (T := TJ4) (N := 4) hx hb hts iWJ4 hown hK hP 0 rfl rfl 1 (by decide) (hts (.fieldLink RJ5 22 "java/lang/AbstractStringBuilder" "coder" "B") (by decide +kernel)) (fun _ h9 => h9) rfl dJ5_putStringAt_47b60_12 ?_
  have hPc := hP.sub (ws' := [(bv, .inl (cB, 16, .inl fb))]) [1] rfl
  have hDc := hD.sub (ws' := [(bv, .inl (cB, 16, .inl fb))]) [1] (by decide) rfl
  have hKc := hK.sub (tys' := [(cB, .byte)]) [0] rfl
  have hFc := va_free (wc := [(bv, .inl (cB, 16, .inl fb))]) hD hS hA [1] rfl
  refine va_callv (va_runV (As := [.ref bv, .int 0, .int 0]) (rest := []) ⟨hx, hb, hml, hown, hts⟩ (c_J0_getBytes_c l dC dI e0 aK aV cB bv fb H.size) (cwV 3 hts gJ5_putStringAt_47b60_J0_getBytes_840e7 rfl rfl rfl (by decide +kernel) ⟨Nat.le_of_ble_eq_true rfl, Nat.le_of_ble_eq_true rfl⟩) (pcVs hPc hDc hKc hN hZ hS hFc (i := 0) (by decide)) rfl rfl hl.1 rfl (lv_room (Nat.le_of_ble_eq_true rfl)) dJ5_putStringAt_47b60_15 ⟨Nat.le_of_ble_eq_true rfl, Nat.le_of_ble_eq_true rfl⟩) hS (fun q _ h => hFc q h) hFc (fun u t H1 locs ht hvm hw_3 hB hz1 hk1 hS => ?_)
  obtain ⟨hP1, hK1, hD1⟩ := hB
  rw [ht] at hP1
  try dsimp only at hw_3
  obtain ⟨hP, hD⟩ := va_join (wr := [(sb, .inr (1, [.ref bv, .int 0, .int mq, .int 0]))]) (w1 := [(bv, .inl (cB, 16, .inl u))]) hP hD [1] [0] rfl rfl (by decide) (by decide) hk1 hFc hP1 hD1
  generalize H1 = H at hP hS ⊢
  have hP : va_P (dC, dI) vwCl [(sb, .inr (1, [.ref bv, .int 0, .int mq, .int 0])), (bv, .inl (cB, 16, .inl u))] H := hP
  have hD : va_D A [(sb, .inr (1, [.ref bv, .int 0, .int mq, .int 0])), (bv, .inl (cB, 16, .inl u))] := hD
  obtain ⟨f_2, ef_2⟩ : ∃ z, z = u := ⟨_, rfl⟩
  subst ef_2
  have hP9 := hP.sub (ws' := [(sb, .inr (1, [.ref bv, .int 0, .int mq, .int 0])), (bv, .inl (cB, 16, .inl f_2))]) [0, 1] rfl
  have hD9 := hD.sub (ws' := [(sb, .inr (1, [.ref bv, .int 0, .int mq, .int 0])), (bv, .inl (cB, 16, .inl f_2))]) [0, 1] (by decide) rfl
  have hK9 := hK.sub (tys' := [(cB, .byte)]) [0] rfl
  exact W.vret hx hb hr (fun t ht hW => ⟨⟨f_2, rfl, trivial, ⟨by rw [ht]; exact hP9, va_K.moved hW.alike hK9, hD9⟩⟩, hS.F ht⟩) hS.2.2 dJ5_putStringAt_47b60_18

set_option maxHeartbeats 4000000 in
set_option maxRecDepth 100000 in
/-- J5_putStringAt_47b60 -/
theorem c_J5_putStringAt_w (l : Launch) (dC : Nat → ClassId) (dI : Nat → Nat → Nat) (e0 : Nat) (aK aV : Nat → Nat) (cB : ClassId) (sb bv : Nat) (mq : Int32) (fb : Nat → Int32) (st sv : Nat) (hh hz : Int32) (fs9 : Nat → Int32) (hfs : fits .byte (.int (fs9 0)) = true) (sz : Nat) : Met l yJ5_putStringAt_47b60 wsJ5_putStringAt_47b60 ({ frames := 2, cells := 0, slots := 0, locals := 83 }) (va_Pc [.ref sb, .int 0, .ref st] (cPCz (zM e0 aK aV) dC dI [(sb, .inr (1, [.ref bv, .int 0, .int mq, .int 0])), (bv, .inl (cB, 16, .inl fb)), (st, .inr (0, [.ref sv, .int 0, .int hh, .int hz])), (sv, .inl (cB, 1, .inl fs9))] [(cB, .byte)] sz)) (va_Qv (fun (u : Nat → Int32) => u 0 = fs9 0) (fun (u : Nat → Int32) t => cQB dC dI [(sb, .inr (1, [.ref bv, .int 0, .int mq, .int 0])), (bv, .inl (cB, 16, .inl u)), (st, .inr (0, [.ref sv, .int 0, .int hh, .int hz])), (sv, .inl (cB, 1, .inl fs9))] [(cB, .byte)] (va_A [(sb, .inr (1, [.ref bv, .int 0, .int mq, .int 0])), (bv, .inl (cB, 16, .inl fb)), (st, .inr (0, [.ref sv, .int 0, .int hh, .int hz])), (sv, .inl (cB, 1, .inl fs9))] sz) t) (va_A [(sb, .inr (1, [.ref bv, .int 0, .int mq, .int 0])), (bv, .inl (cB, 16, .inl fb)), (st, .inr (0, [.ref sv, .int 0, .int hh, .int hz])), (sv, .inl (cB, 1, .inl fs9))] sz)) 0 0 (va_A [(sb, .inr (1, [.ref bv, .int 0, .int mq, .int 0])), (bv, .inl (cB, 16, .inl fb)), (st, .inr (0, [.ref sv, .int 0, .int hh, .int hz])), (sv, .inl (cB, 1, .inl fs9))] sz) := by
  refine Met.ofW (cc := cJ5_putStringAt_47b60) (maxL := 3) (ret := none) (by decide) rfl ?_
  intro p e s m args below meth c s₁ B hml hv
  obtain ⟨rfl, ⟨hsz, hP, hK, hD0, hN⟩, hZ⟩ := hv
  have hx := B.exec
  have hb := B.bytes
  have hr := B.returns
  have hts := atoms_spec (ws := wsJ5_putStringAt_47b60) B.pre
  have hown : s.vm.findClass RJ5 = some m.cls := findClass_of_methodNamed B.named
  have hlocks := B.notSynchronized
  subst hsz
  have hD := hD0.self (sz := s.heap.size)
  generalize hAe : va_A [(sb, .inr (1, [.ref bv, .int 0, .int mq, .int 0])), (bv, .inl (cB, 16, .inl fb)), (st, .inr (0, [.ref sv, .int 0, .int hh, .int hz])), (sv, .inl (cB, 1, .inl fs9))] s.heap.size = A at hD hZ ⊢
  have hA : ∀ q : Nat, s.heap.size ≤ q → A q := fun q h => by rw [← hAe]; exact Or.inr h
  have hS : va_S A s.heap s.heap [] := va_S.rf
  have hP : va_P (dC, dI) vwCl [(sb, .inr (1, [.ref bv, .int 0, .int mq, .int 0])), (bv, .inl (cB, 16, .inl fb)), (st, .inr (0, [.ref sv, .int 0, .int hh, .int hz])), (sv, .inl (cB, 1, .inl fs9))] s.heap := hP
  have hD : va_D A [(sb, .inr (1, [.ref bv, .int 0, .int mq, .int 0])), (bv, .inl (cB, 16, .inl fb)), (st, .inr (0, [.ref sv, .int 0, .int hh, .int hz])), (sv, .inl (cB, 1, .inl fs9))] := hD
  have hl := lv_entry ([.ref sb, .int 0, .ref st]) (n := 3) (Nat.le_of_ble_eq_true rfl)
  rw [lg_entry_eq]
  generalize (lg_sl ([.ref sb, .int 0, .ref st]) ++ List.replicate (3 - (lg_sl ([.ref sb, .int 0, .ref st])).length) Slot.unset).toArray = ls at hl ⊢
  have hl : lv_has ls 3 [(0, .ref sb), (1, .int 0), (2, .ref st)] := hl
  have iWJ0 : ∀ w ∈ u_ws RJ0 TJ0 4, w ∈ wsJ5_putStringAt_47b60 := by decide +kernel
  have iWJ4 : ∀ w ∈ u_ws RJ4 TJ4 4, w ∈ wsJ5_putStringAt_47b60 := by decide +kernel
  refine lv_aload_n hx hb dJ5_putStringAt_47b60_0 rfl (lv_at hl 0 rfl) ?_
  refine lv_aload_n hx hb dJ5_putStringAt_47b60_1 rfl (lv_at hl 2 rfl) ?_
  have hPc := hP.sub (ws' := [(sb, .inr (1, [.ref bv, .int 0, .int mq, .int 0])), (bv, .inl (cB, 16, .inl fb)), (st, .inr (0, [.ref sv, .int 0, .int hh, .int hz])), (sv, .inl (cB, 1, .inl fs9))]) [0, 1, 2, 3] rfl
  have hDc := hD.sub (ws' := [(sb, .inr (1, [.ref bv, .int 0, .int mq, .int 0])), (bv, .inl (cB, 16, .inl fb)), (st, .inr (0, [.ref sv, .int 0, .int hh, .int hz])), (sv, .inl (cB, 1, .inl fs9))]) [0, 1, 2, 3] (by decide) rfl
  have hKc := hK.sub (tys' := [(cB, .byte)]) [0] rfl
  have hFc := va_free (wc := [(sb, .inr (1, [.ref bv, .int 0, .int mq, .int 0])), (bv, .inl (cB, 16, .inl fb)), (st, .inr (0, [.ref sv, .int 0, .int hh, .int hz])), (sv, .inl (cB, 1, .inl fs9))]) hD hS hA [0, 1, 2, 3] rfl
  refine va_callv (va_runU (As := [.ref st]) (rest := []) ⟨hx, hb, hml, hown, hts⟩ (c_J5_inflateIfNeededFor_w l dC dI e0 aK aV cB sb bv mq fb st sv hh hz fs9 s.heap.size) (va_cwU 1 hts gJ5_putStringAt_47b60_J5_inflateIfNeededFor_a7421_u397J4 rfl rfl rfl rfl (by decide +kernel) ⟨Nat.le_of_ble_eq_true rfl, Nat.le_of_ble_eq_true rfl⟩) (pcVz (zM_ok e0 aK aV) hPc hDc hKc hN hZ hS hFc (ci := 1) (q0 := 0) rfl rfl) rfl rfl hl.1 rfl (lv_room (Nat.le_of_ble_eq_true rfl)) dJ5_putStringAt_47b60_2 ⟨Nat.le_of_ble_eq_true rfl, Nat.le_of_ble_eq_true rfl⟩) hS (fun q _ h => hFc q h) hFc (fun u t H1 locs ht hvm hw_1 hB hz1 hk1 hS => ?_)
  obtain ⟨hP1, hK1, hD1⟩ := hB
  rw [ht] at hP1
  try dsimp only at hw_1
  obtain ⟨hP, hD⟩ := va_join (wr := []) (w1 := [(sb, .inr (1, [.ref bv, .int 0, .int mq, .int 0])), (bv, .inl (cB, 16, .inl fb)), (st, .inr (0, [.ref sv, .int 0, .int hh, .int hz])), (sv, .inl (cB, 1, .inl fs9))]) hP hD [0, 1, 2, 3] [] rfl rfl (by decide) (by decide) hk1 hFc hP1 hD1
  generalize H1 = H at hP hS ⊢
  have hP : va_P (dC, dI) vwCl [(sb, .inr (1, [.ref bv, .int 0, .int mq, .int 0])), (bv, .inl (cB, 16, .inl fb)), (st, .inr (0, [.ref sv, .int 0, .int hh, .int hz])), (sv, .inl (cB, 1, .inl fs9))] H := hP
  have hD : va_D A [(sb, .inr (1, [.ref bv, .int 0, .int mq, .int 0])), (bv, .inl (cB, 16, .inl fb)), (st, .inr (0, [.ref sv, .int 0, .int hh, .int hz])), (sv, .inl (cB, 1, .inl fs9))] := hD
  refine lv_aload_n hx hb dJ5_putStringAt_47b60_5 rfl (lv_at hl 2 rfl) ?_
  refine lv_aload_n hx hb dJ5_putStringAt_47b60_6 rfl (lv_at hl 0 rfl) ?_
  refine va_get (D := (dC, dI)) (ci := 1) (v := .ref bv) (C := RJ4) (T := TJ4) (N := 4) hx hb hts iWJ4 hown hK hP 0 rfl rfl 0 (by decide) (hts (.fieldLink RJ5 15 "java/lang/AbstractStringBuilder" "value" "[B") (by decide +kernel)) (fun _ h9 => h9) rfl dJ5_putStringAt_47b60_7 ?_
  refine lv_iload_n hx hb dJ5_putStringAt_47b60_10 rfl (lv_at hl 1 rfl) ?_
  refine lv_aload_n hx hb dJ5_putStringAt_47b60_11 rfl (lv_at hl 0 rfl) ?_
  refine va_get (D := (dC, dI)) (ci := 1) (v := .int 0) (C := RJ4) (T := TJ4) (N := 4) hx hb hts iWJ4 hown hK hP 0 rfl rfl 1 (by decide) (hts (.fieldLink RJ5 22 "java/lang/AbstractStringBuilder" "coder" "B") (by decide +kernel)) (fun _ h9 => h9) rfl dJ5_putStringAt_47b60_12 ?_
  have hPc := hP.sub (ws' := [(bv, .inl (cB, 16, .inl fb)), (st, .inr (0, [.ref sv, .int 0, .int hh, .int hz])), (sv, .inl (cB, 1, .inl fs9))]) [1, 2, 3] rfl
  have hDc := hD.sub (ws' := [(bv, .inl (cB, 16, .inl fb)), (st, .inr (0, [.ref sv, .int 0, .int hh, .int hz])), (sv, .inl (cB, 1, .inl fs9))]) [1, 2, 3] (by decide) rfl
  have hKc := hK.sub (tys' := [(cB, .byte)]) [0] rfl
  have hFc := va_free (wc := [(bv, .inl (cB, 16, .inl fb)), (st, .inr (0, [.ref sv, .int 0, .int hh, .int hz])), (sv, .inl (cB, 1, .inl fs9))]) hD hS hA [1, 2, 3] rfl
  refine va_callv (va_runV (As := [.ref bv, .int 0, .int 0]) (rest := []) ⟨hx, hb, hml, hown, hts⟩ (c_J0_getBytes_w l dC dI e0 aK aV cB bv fb st sv hh hz fs9 hfs H.size) (cwV 3 hts gJ5_putStringAt_47b60_J0_getBytes_840e7 rfl rfl rfl (by decide +kernel) ⟨Nat.le_of_ble_eq_true rfl, Nat.le_of_ble_eq_true rfl⟩) (pcVz (zM_ok e0 aK aV) hPc hDc hKc hN hZ hS hFc (ci := 0) (q0 := 1) rfl rfl) rfl rfl hl.1 rfl (lv_room (Nat.le_of_ble_eq_true rfl)) dJ5_putStringAt_47b60_15 ⟨Nat.le_of_ble_eq_true rfl, Nat.le_of_ble_eq_true rfl⟩) hS (fun q _ h => hFc q h) hFc (fun u t H1 locs ht hvm hw_3 hB hz1 hk1 hS => ?_)
  obtain ⟨hP1, hK1, hD1⟩ := hB
  rw [ht] at hP1
  try dsimp only at hw_3
  obtain ⟨hP, hD⟩ := va_join (wr := [(sb, .inr (1, [.ref bv, .int 0, .int mq, .int 0]))]) (w1 := [(bv, .inl (cB, 16, .inl u)), (st, .inr (0, [.ref sv, .int 0, .int hh, .int hz])), (sv, .inl (cB, 1, .inl fs9))]) hP hD [1, 2, 3] [0] rfl rfl (by decide) (by decide) hk1 hFc hP1 hD1
  generalize H1 = H at hP hS ⊢
  have hP : va_P (dC, dI) vwCl [(sb, .inr (1, [.ref bv, .int 0, .int mq, .int 0])), (bv, .inl (cB, 16, .inl u)), (st, .inr (0, [.ref sv, .int 0, .int hh, .int hz])), (sv, .inl (cB, 1, .inl fs9))] H := hP
  have hD : va_D A [(sb, .inr (1, [.ref bv, .int 0, .int mq, .int 0])), (bv, .inl (cB, 16, .inl u)), (st, .inr (0, [.ref sv, .int 0, .int hh, .int hz])), (sv, .inl (cB, 1, .inl fs9))] := hD
  obtain ⟨f_2, ef_2⟩ : ∃ z, z = u := ⟨_, rfl⟩
  subst ef_2
  have hP9 := hP.sub (ws' := [(sb, .inr (1, [.ref bv, .int 0, .int mq, .int 0])), (bv, .inl (cB, 16, .inl f_2)), (st, .inr (0, [.ref sv, .int 0, .int hh, .int hz])), (sv, .inl (cB, 1, .inl fs9))]) [0, 1, 2, 3] rfl
  have hD9 := hD.sub (ws' := [(sb, .inr (1, [.ref bv, .int 0, .int mq, .int 0])), (bv, .inl (cB, 16, .inl f_2)), (st, .inr (0, [.ref sv, .int 0, .int hh, .int hz])), (sv, .inl (cB, 1, .inl fs9))]) [0, 1, 2, 3] (by decide) rfl
  have hK9 := hK.sub (tys' := [(cB, .byte)]) [0] rfl
  exact W.vret hx hb hr (fun t ht hW => ⟨⟨f_2, rfl, hw_3, ⟨by rw [ht]; exact hP9, va_K.moved hW.alike hK9, hD9⟩⟩, hS.F ht⟩) hS.2.2 dJ5_putStringAt_47b60_18

set_option maxHeartbeats 4000000 in
set_option maxRecDepth 100000 in
/-- J5_append_cf1ce -/
theorem c_J5_appendS_c (l : Launch) (dC : Nat → ClassId) (dI : Nat → Nat → Nat) (e0 : Nat) (aK aV : Nat → Nat) (cB : ClassId) (sb bv : Nat) (mq : Int32) (fb : Nat → Int32) (sz : Nat) : Met l yJ5_append_cf1ce wsJ5_append_cf1ce ({ frames := 3, cells := 0, slots := 0, locals := 105 }) (va_Pc [.ref sb, .ref (aK 0)] (cPCz (zM e0 aK aV) dC dI [(sb, .inr (1, [.ref bv, .int 0, .int mq, .int 0])), (bv, .inl (cB, 16, .inl fb))] [(cB, .byte)] sz)) (va_Qr (fun (u : Nat → Int32) => True) (fun (u : Nat → Int32) (a : Nat) t => a = sb ∧ cQB dC dI [(sb, .inr (1, [.ref bv, .int 0, .int mq, .int 0])), (bv, .inl (cB, 16, .inl u))] [(cB, .byte)] (va_A [(sb, .inr (1, [.ref bv, .int 0, .int mq, .int 0])), (bv, .inl (cB, 16, .inl fb))] sz) t) (va_A [(sb, .inr (1, [.ref bv, .int 0, .int mq, .int 0])), (bv, .inl (cB, 16, .inl fb))] sz)) 0 0 (va_A [(sb, .inr (1, [.ref bv, .int 0, .int mq, .int 0])), (bv, .inl (cB, 16, .inl fb))] sz) := by
  refine Met.ofW (cc := cJ5_append_cf1ce) (maxL := 3) (ret := (some (.object "java/lang/AbstractStringBuilder"))) (by decide) rfl ?_
  intro p e s m args below meth c s₁ B hml hv
  obtain ⟨rfl, ⟨hsz, hP, hK, hD0, hN⟩, hZ⟩ := hv
  have hx := B.exec
  have hb := B.bytes
  have hr := B.returns
  have hts := atoms_spec (ws := wsJ5_append_cf1ce) B.pre
  have hown : s.vm.findClass RJ5 = some m.cls := findClass_of_methodNamed B.named
  have hlocks := B.notSynchronized
  subst hsz
  have hD := hD0.self (sz := s.heap.size)
  generalize hAe : va_A [(sb, .inr (1, [.ref bv, .int 0, .int mq, .int 0])), (bv, .inl (cB, 16, .inl fb))] s.heap.size = A at hD hZ ⊢
  have hA : ∀ q : Nat, s.heap.size ≤ q → A q := fun q h => by rw [← hAe]; exact Or.inr h
  have hS : va_S A s.heap s.heap [] := va_S.rf
  have hP : va_P (dC, dI) vwCl [(sb, .inr (1, [.ref bv, .int 0, .int mq, .int 0])), (bv, .inl (cB, 16, .inl fb))] s.heap := hP
  have hD : va_D A [(sb, .inr (1, [.ref bv, .int 0, .int mq, .int 0])), (bv, .inl (cB, 16, .inl fb))] := hD
  have hl := lv_entry ([.ref sb, .ref (aK 0)]) (n := 3) (Nat.le_of_ble_eq_true rfl)
  rw [lg_entry_eq]
  generalize (lg_sl ([.ref sb, .ref (aK 0)]) ++ List.replicate (3 - (lg_sl ([.ref sb, .ref (aK 0)])).length) Slot.unset).toArray = ls at hl ⊢
  have hl : lv_has ls 3 [(0, .ref sb), (1, .ref (aK 0))] := hl
  have iWJ0 : ∀ w ∈ u_ws RJ0 TJ0 4, w ∈ wsJ5_append_cf1ce := by decide +kernel
  have iWJ4 : ∀ w ∈ u_ws RJ4 TJ4 4, w ∈ wsJ5_append_cf1ce := by decide +kernel
  refine lv_aload_n hx hb dJ5_append_cf1ce_0 rfl (lv_at hl 1 rfl) ?_
  refine lv_ifnonnull (tgt := 9) hx hb dJ5_append_cf1ce_1 (by decide) ?_
  refine lv_aload_n hx hb dJ5_append_cf1ce_9 rfl (lv_at hl 1 rfl) ?_
  have hPc := hP.sub (ws' := []) [] rfl
  have hDc := hD.sub (ws' := []) [] (by decide) rfl
  have hKc := hK.sub (tys' := []) [] rfl
  have hFc := va_free (wc := []) hD hS hA [] rfl
  refine va_calli (va_runV (As := []) (rest := []) ⟨hx, hb, hml, hown, hts⟩ (c_J0_length_c l dC dI e0 aK aV s.heap.size) (cwV 0 hts gJ5_append_cf1ce_J0_length_8abf5 rfl rfl rfl (by decide +kernel) ⟨Nat.le_of_ble_eq_true rfl, Nat.le_of_ble_eq_true rfl⟩) (pcVs hPc hDc hKc hN hZ hS hFc (i := 0) (by decide)) rfl rfl hl.1 rfl (lv_room (Nat.le_of_ble_eq_true rfl)) dJ5_append_cf1ce_10 ⟨Nat.le_of_ble_eq_true rfl, Nat.le_of_ble_eq_true rfl⟩) hS (fun q _ h => hFc q h) hFc (fun r_1 u t H1 locs ht hvm hw_2 hB hz1 hk1 hS => ?_)
  obtain ⟨hP1, hK1, hD1⟩ := hB
  rw [ht] at hP1
  try dsimp only at hw_2
  obtain ⟨hP, hD⟩ := va_join (wr := [(sb, .inr (1, [.ref bv, .int 0, .int mq, .int 0])), (bv, .inl (cB, 16, .inl fb))]) (w1 := []) hP hD [] [0, 1] rfl rfl (by decide) (by decide) hk1 hFc hP1 hD1
  generalize H1 = H at hP hS ⊢
  have hP : va_P (dC, dI) vwCl [(sb, .inr (1, [.ref bv, .int 0, .int mq, .int 0])), (bv, .inl (cB, 16, .inl fb))] H := hP
  have hD : va_D A [(sb, .inr (1, [.ref bv, .int 0, .int mq, .int 0])), (bv, .inl (cB, 16, .inl fb))] := hD
  subst hw_2
  refine lv_istore_n (lv' := [(2, .int 0), (0, .ref sb), (1, .ref (aK 0))]) hx hb dJ5_append_cf1ce_13 rfl hl (by decide) rfl (fun ls hl => ?_)
  refine lv_aload_n hx hb dJ5_append_cf1ce_14 rfl (lv_at hl 1 rfl) ?_
  refine lv_aload_n hx hb dJ5_append_cf1ce_15 rfl (lv_at hl 1 rfl) ?_
  refine va_get (D := (dC, dI)) (ci := 1) (v := .int 0) (C := RJ4) (T := TJ4) (N := 4) hx hb hts iWJ4 hown hK hP 0 rfl rfl 3 (by decide) (hts (.fieldLink RJ5 79 "java/lang/AbstractStringBuilder" "count" "I") (by decide +kernel)) (fun _ h9 => h9) rfl dJ5_append_cf1ce_16 ?_
  refine lv_iload_n hx hb dJ5_append_cf1ce_19 rfl (lv_at hl 0 rfl) ?_
  refine lv_iadd hx hb dJ5_append_cf1ce_20 ?_
  have hPc := hP.sub (ws' := [(sb, .inr (1, [.ref bv, .int 0, .int mq, .int 0])), (bv, .inl (cB, 16, .inl fb))]) [0, 1] rfl
  have hDc := hD.sub (ws' := [(sb, .inr (1, [.ref bv, .int 0, .int mq, .int 0])), (bv, .inl (cB, 16, .inl fb))]) [0, 1] (by decide) rfl
  have hKc := hK.sub (tys' := [(cB, .byte)]) [0] rfl
  have hFc := va_free (wc := [(sb, .inr (1, [.ref bv, .int 0, .int mq, .int 0])), (bv, .inl (cB, 16, .inl fb))]) hD hS hA [0, 1] rfl
  refine va_callv (va_runU (As := [.int ((0 : Int32) + 0)]) (rest := []) ⟨hx, hb, hml, hown, hts⟩ (c_J5_ensureCapacityInternal_d00df l dC dI cB sb bv mq fb ((0 : Int32) + 0) 0 (by decide) H.size) (va_cwU 1 hts gJ5_append_cf1ce_J5_ensureCapacityInternal_d00df_u100J4 rfl rfl rfl rfl (by decide +kernel) ⟨Nat.le_of_ble_eq_true rfl, Nat.le_of_ble_eq_true rfl⟩) (pcV hPc hDc hKc hN (ci := 1) (q0 := 0) rfl rfl) rfl rfl hl.1 rfl (lv_room (Nat.le_of_ble_eq_true rfl)) dJ5_append_cf1ce_21 ⟨Nat.le_of_ble_eq_true rfl, Nat.le_of_ble_eq_true rfl⟩) hS (fun q _ h => hFc q h) hFc (fun u t H1 locs ht hvm hw_3 hB hz1 hk1 hS => ?_)
  obtain ⟨hP1, hK1, hD1⟩ := hB
  rw [ht] at hP1
  try dsimp only at hw_3
  obtain ⟨hP, hD⟩ := va_join (wr := []) (w1 := [(sb, .inr (1, [.ref bv, .int 0, .int mq, .int 0])), (bv, .inl (cB, 16, .inl fb))]) hP hD [0, 1] [] rfl rfl (by decide) (by decide) hk1 hFc hP1 hD1
  generalize H1 = H at hP hS ⊢
  have hP : va_P (dC, dI) vwCl [(sb, .inr (1, [.ref bv, .int 0, .int mq, .int 0])), (bv, .inl (cB, 16, .inl fb))] H := hP
  have hD : va_D A [(sb, .inr (1, [.ref bv, .int 0, .int mq, .int 0])), (bv, .inl (cB, 16, .inl fb))] := hD
  refine lv_aload_n hx hb dJ5_append_cf1ce_24 rfl (lv_at hl 1 rfl) ?_
  refine lv_aload_n hx hb dJ5_append_cf1ce_25 rfl (lv_at hl 1 rfl) ?_
  refine va_get (D := (dC, dI)) (ci := 1) (v := .int 0) (C := RJ4) (T := TJ4) (N := 4) hx hb hts iWJ4 hown hK hP 0 rfl rfl 3 (by decide) (hts (.fieldLink RJ5 79 "java/lang/AbstractStringBuilder" "count" "I") (by decide +kernel)) (fun _ h9 => h9) rfl dJ5_append_cf1ce_26 ?_
  refine lv_aload_n hx hb dJ5_append_cf1ce_29 rfl (lv_at hl 2 rfl) ?_
  have hPc := hP.sub (ws' := [(sb, .inr (1, [.ref bv, .int 0, .int mq, .int 0])), (bv, .inl (cB, 16, .inl fb))]) [0, 1] rfl
  have hDc := hD.sub (ws' := [(sb, .inr (1, [.ref bv, .int 0, .int mq, .int 0])), (bv, .inl (cB, 16, .inl fb))]) [0, 1] (by decide) rfl
  have hKc := hK.sub (tys' := [(cB, .byte)]) [0] rfl
  have hFc := va_free (wc := [(sb, .inr (1, [.ref bv, .int 0, .int mq, .int 0])), (bv, .inl (cB, 16, .inl fb))]) hD hS hA [0, 1] rfl
  refine va_callv (va_runU (As := [.int 0, .ref (aK 0)]) (rest := []) ⟨hx, hb, hml, hown, hts⟩ (c_J5_putStringAt_c l dC dI e0 aK aV cB sb bv mq fb H.size) (va_cwU 2 hts gJ5_append_cf1ce_J5_putStringAt_47b60_u208J4 rfl rfl rfl rfl (by decide +kernel) ⟨Nat.le_of_ble_eq_true rfl, Nat.le_of_ble_eq_true rfl⟩) (pcVz (zM_ok e0 aK aV) hPc hDc hKc hN hZ hS hFc (ci := 1) (q0 := 0) rfl rfl) rfl rfl hl.1 rfl (lv_room (Nat.le_of_ble_eq_true rfl)) dJ5_append_cf1ce_30 ⟨Nat.le_of_ble_eq_true rfl, Nat.le_of_ble_eq_true rfl⟩) hS (fun q _ h => hFc q h) hFc (fun u t H1 locs ht hvm hw_5 hB hz1 hk1 hS => ?_)
  obtain ⟨hP1, hK1, hD1⟩ := hB
  rw [ht] at hP1
  try dsimp only at hw_5
  obtain ⟨hP, hD⟩ := va_join (wr := []) (w1 := [(sb, .inr (1, [.ref bv, .int 0, .int mq, .int 0])), (bv, .inl (cB, 16, .inl u))]) hP hD [0, 1] [] rfl rfl (by decide) (by decide) hk1 hFc hP1 hD1
  generalize H1 = H at hP hS ⊢
  have hP : va_P (dC, dI) vwCl [(sb, .inr (1, [.ref bv, .int 0, .int mq, .int 0])), (bv, .inl (cB, 16, .inl u))] H := hP
  have hD : va_D A [(sb, .inr (1, [.ref bv, .int 0, .int mq, .int 0])), (bv, .inl (cB, 16, .inl u))] := hD
  obtain ⟨f_4, ef_4⟩ : ∃ z, z = u := ⟨_, rfl⟩
  subst ef_4
  refine lv_aload_n hx hb dJ5_append_cf1ce_33 rfl (lv_at hl 1 rfl) ?_
  refine lv_dup hx hb dJ5_append_cf1ce_34 rfl ?_
  refine va_get (D := (dC, dI)) (ci := 1) (v := .int 0) (C := RJ4) (T := TJ4) (N := 4) hx hb hts iWJ4 hown hK hP 0 rfl rfl 3 (by decide) (hts (.fieldLink RJ5 79 "java/lang/AbstractStringBuilder" "count" "I") (by decide +kernel)) (fun _ h9 => h9) rfl dJ5_append_cf1ce_35 ?_
  refine lv_iload_n hx hb dJ5_append_cf1ce_38 rfl (lv_at hl 0 rfl) ?_
  refine lv_iadd hx hb dJ5_append_cf1ce_39 ?_
  refine lv_topi (fun x_6 ex_6 => ?_)
  obtain rfl : x_6 = 0 := by rw [ex_6]; decide
  refine va_put (D := (dC, dI)) (ci := 1) (v := .int 0) (ty := .int) (C := RJ4) (T := TJ4) (N := 4) hx hb hts iWJ4 tyJ4 tyJ4_ok nmJ4 hown hK hP hD hS 0 rfl rfl 3 (by decide) (hts (.fieldLink RJ5 79 "java/lang/AbstractStringBuilder" "count" "I") (by decide +kernel)) (fun _ h9 => h9) rfl (by decide +kernel) rfl rfl (Nat.le_of_ble_eq_true rfl) dJ5_append_cf1ce_40 (fun H locs hP hD hS => ?_)
  have hP : va_P (dC, dI) vwCl [(sb, .inr (1, [.ref bv, .int 0, .int mq, .int 0])), (bv, .inl (cB, 16, .inl f_4))] H := hP
  have hD : va_D A [(sb, .inr (1, [.ref bv, .int 0, .int mq, .int 0])), (bv, .inl (cB, 16, .inl f_4))] := hD
  refine lv_aload_n hx hb dJ5_append_cf1ce_43 rfl (lv_at hl 1 rfl) ?_
  have hP9 := hP.sub (ws' := [(sb, .inr (1, [.ref bv, .int 0, .int mq, .int 0])), (bv, .inl (cB, 16, .inl f_4))]) [0, 1] rfl
  have hD9 := hD.sub (ws' := [(sb, .inr (1, [.ref bv, .int 0, .int mq, .int 0])), (bv, .inl (cB, 16, .inl f_4))]) [0, 1] (by decide) rfl
  have hK9 := hK.sub (tys' := [(cB, .byte)]) [0] rfl
  exact W.aret (v := .ref sb) hx hb hr (Or.inl ⟨_, rfl⟩) (Or.inr ⟨_, rfl⟩) (fun t ht hW => ⟨⟨f_4, sb, rfl, trivial, ⟨rfl, by rw [ht]; exact hP9, va_K.moved hW.alike hK9, hD9⟩⟩, hS.F ht⟩) hS.2.2 dJ5_append_cf1ce_44

set_option maxHeartbeats 4000000 in
set_option maxRecDepth 100000 in
/-- J5_append_cf1ce -/
theorem c_J5_appendS_w (l : Launch) (dC : Nat → ClassId) (dI : Nat → Nat → Nat) (e0 : Nat) (aK aV : Nat → Nat) (cB : ClassId) (sb bv : Nat) (mq : Int32) (fb : Nat → Int32) (st sv : Nat) (hh hz : Int32) (fs9 : Nat → Int32) (hfs : fits .byte (.int (fs9 0)) = true) (sz : Nat) : Met l yJ5_append_cf1ce wsJ5_append_cf1ce ({ frames := 3, cells := 0, slots := 0, locals := 105 }) (va_Pc [.ref sb, .ref st] (cPCz (zM e0 aK aV) dC dI [(sb, .inr (1, [.ref bv, .int 0, .int mq, .int 0])), (bv, .inl (cB, 16, .inl fb)), (st, .inr (0, [.ref sv, .int 0, .int hh, .int hz])), (sv, .inl (cB, 1, .inl fs9))] [(cB, .byte)] sz)) (va_Qr (fun (u : Nat → Int32) => u 0 = fs9 0) (fun (u : Nat → Int32) (a : Nat) t => a = sb ∧ cQB dC dI [(sb, .inr (1, [.ref bv, .int 0, .int mq, .int 1])), (bv, .inl (cB, 16, .inl u)), (st, .inr (0, [.ref sv, .int 0, .int hh, .int hz])), (sv, .inl (cB, 1, .inl fs9))] [(cB, .byte)] (va_A [(sb, .inr (1, [.ref bv, .int 0, .int mq, .int 0])), (bv, .inl (cB, 16, .inl fb)), (st, .inr (0, [.ref sv, .int 0, .int hh, .int hz])), (sv, .inl (cB, 1, .inl fs9))] sz) t) (va_A [(sb, .inr (1, [.ref bv, .int 0, .int mq, .int 0])), (bv, .inl (cB, 16, .inl fb)), (st, .inr (0, [.ref sv, .int 0, .int hh, .int hz])), (sv, .inl (cB, 1, .inl fs9))] sz)) 0 0 (va_A [(sb, .inr (1, [.ref bv, .int 0, .int mq, .int 0])), (bv, .inl (cB, 16, .inl fb)), (st, .inr (0, [.ref sv, .int 0, .int hh, .int hz])), (sv, .inl (cB, 1, .inl fs9))] sz) := by
  refine Met.ofW (cc := cJ5_append_cf1ce) (maxL := 3) (ret := (some (.object "java/lang/AbstractStringBuilder"))) (by decide) rfl ?_
  intro p e s m args below meth c s₁ B hml hv
  obtain ⟨rfl, ⟨hsz, hP, hK, hD0, hN⟩, hZ⟩ := hv
  have hx := B.exec
  have hb := B.bytes
  have hr := B.returns
  have hts := atoms_spec (ws := wsJ5_append_cf1ce) B.pre
  have hown : s.vm.findClass RJ5 = some m.cls := findClass_of_methodNamed B.named
  have hlocks := B.notSynchronized
  subst hsz
  have hD := hD0.self (sz := s.heap.size)
  generalize hAe : va_A [(sb, .inr (1, [.ref bv, .int 0, .int mq, .int 0])), (bv, .inl (cB, 16, .inl fb)), (st, .inr (0, [.ref sv, .int 0, .int hh, .int hz])), (sv, .inl (cB, 1, .inl fs9))] s.heap.size = A at hD hZ ⊢
  have hA : ∀ q : Nat, s.heap.size ≤ q → A q := fun q h => by rw [← hAe]; exact Or.inr h
  have hS : va_S A s.heap s.heap [] := va_S.rf
  have hP : va_P (dC, dI) vwCl [(sb, .inr (1, [.ref bv, .int 0, .int mq, .int 0])), (bv, .inl (cB, 16, .inl fb)), (st, .inr (0, [.ref sv, .int 0, .int hh, .int hz])), (sv, .inl (cB, 1, .inl fs9))] s.heap := hP
  have hD : va_D A [(sb, .inr (1, [.ref bv, .int 0, .int mq, .int 0])), (bv, .inl (cB, 16, .inl fb)), (st, .inr (0, [.ref sv, .int 0, .int hh, .int hz])), (sv, .inl (cB, 1, .inl fs9))] := hD
  have hl := lv_entry ([.ref sb, .ref st]) (n := 3) (Nat.le_of_ble_eq_true rfl)
  rw [lg_entry_eq]
  generalize (lg_sl ([.ref sb, .ref st]) ++ List.replicate (3 - (lg_sl ([.ref sb, .ref st])).length) Slot.unset).toArray = ls at hl ⊢
  have hl : lv_has ls 3 [(0, .ref sb), (1, .ref st)] := hl
  have iWJ0 : ∀ w ∈ u_ws RJ0 TJ0 4, w ∈ wsJ5_append_cf1ce := by decide +kernel
  have iWJ4 : ∀ w ∈ u_ws RJ4 TJ4 4, w ∈ wsJ5_append_cf1ce := by decide +kernel
  refine lv_aload_n hx hb dJ5_append_cf1ce_0 rfl (lv_at hl 1 rfl) ?_
  refine lv_ifnonnull (tgt := 9) hx hb dJ5_append_cf1ce_1 (by decide) ?_
  refine lv_aload_n hx hb dJ5_append_cf1ce_9 rfl (lv_at hl 1 rfl) ?_
  have hPc := hP.sub (ws' := [(st, .inr (0, [.ref sv, .int 0, .int hh, .int hz])), (sv, .inl (cB, 1, .inl fs9))]) [2, 3] rfl
  have hDc := hD.sub (ws' := [(st, .inr (0, [.ref sv, .int 0, .int hh, .int hz])), (sv, .inl (cB, 1, .inl fs9))]) [2, 3] (by decide) rfl
  have hKc := hK.sub (tys' := [(cB, .byte)]) [0] rfl
  have hFc := va_free (wc := [(st, .inr (0, [.ref sv, .int 0, .int hh, .int hz])), (sv, .inl (cB, 1, .inl fs9))]) hD hS hA [2, 3] rfl
  refine va_calli (va_runV (As := []) (rest := []) ⟨hx, hb, hml, hown, hts⟩ (c_J0_length_w l dC dI e0 aK aV cB st sv hh hz fs9 s.heap.size) (cwV 0 hts gJ5_append_cf1ce_J0_length_8abf5 rfl rfl rfl (by decide +kernel) ⟨Nat.le_of_ble_eq_true rfl, Nat.le_of_ble_eq_true rfl⟩) (pcVz (zM_ok e0 aK aV) hPc hDc hKc hN hZ hS hFc (ci := 0) (q0 := 0) rfl rfl) rfl rfl hl.1 rfl (lv_room (Nat.le_of_ble_eq_true rfl)) dJ5_append_cf1ce_10 ⟨Nat.le_of_ble_eq_true rfl, Nat.le_of_ble_eq_true rfl⟩) hS (fun q _ h => hFc q h) hFc (fun r_1 u t H1 locs ht hvm hw_2 hB hz1 hk1 hS => ?_)
  obtain ⟨hP1, hK1, hD1⟩ := hB
  rw [ht] at hP1
  try dsimp only at hw_2
  obtain ⟨hP, hD⟩ := va_join (wr := [(sb, .inr (1, [.ref bv, .int 0, .int mq, .int 0])), (bv, .inl (cB, 16, .inl fb))]) (w1 := [(st, .inr (0, [.ref sv, .int 0, .int hh, .int hz])), (sv, .inl (cB, 1, .inl fs9))]) hP hD [2, 3] [0, 1] rfl rfl (by decide) (by decide) hk1 hFc hP1 hD1
  generalize H1 = H at hP hS ⊢
  have hP : va_P (dC, dI) vwCl [(sb, .inr (1, [.ref bv, .int 0, .int mq, .int 0])), (bv, .inl (cB, 16, .inl fb)), (st, .inr (0, [.ref sv, .int 0, .int hh, .int hz])), (sv, .inl (cB, 1, .inl fs9))] H := hP
  have hD : va_D A [(sb, .inr (1, [.ref bv, .int 0, .int mq, .int 0])), (bv, .inl (cB, 16, .inl fb)), (st, .inr (0, [.ref sv, .int 0, .int hh, .int hz])), (sv, .inl (cB, 1, .inl fs9))] := hD
  subst hw_2
  refine lv_istore_n (lv' := [(2, .int 1), (0, .ref sb), (1, .ref st)]) hx hb dJ5_append_cf1ce_13 rfl hl (by decide) rfl (fun ls hl => ?_)
  refine lv_aload_n hx hb dJ5_append_cf1ce_14 rfl (lv_at hl 1 rfl) ?_
  refine lv_aload_n hx hb dJ5_append_cf1ce_15 rfl (lv_at hl 1 rfl) ?_
  refine va_get (D := (dC, dI)) (ci := 1) (v := .int 0) (C := RJ4) (T := TJ4) (N := 4) hx hb hts iWJ4 hown hK hP 0 rfl rfl 3 (by decide) (hts (.fieldLink RJ5 79 "java/lang/AbstractStringBuilder" "count" "I") (by decide +kernel)) (fun _ h9 => h9) rfl dJ5_append_cf1ce_16 ?_
  refine lv_iload_n hx hb dJ5_append_cf1ce_19 rfl (lv_at hl 0 rfl) ?_
  refine lv_iadd hx hb dJ5_append_cf1ce_20 ?_
  have hPc := hP.sub (ws' := [(sb, .inr (1, [.ref bv, .int 0, .int mq, .int 0])), (bv, .inl (cB, 16, .inl fb))]) [0, 1] rfl
  have hDc := hD.sub (ws' := [(sb, .inr (1, [.ref bv, .int 0, .int mq, .int 0])), (bv, .inl (cB, 16, .inl fb))]) [0, 1] (by decide) rfl
  have hKc := hK.sub (tys' := [(cB, .byte)]) [0] rfl
  have hFc := va_free (wc := [(sb, .inr (1, [.ref bv, .int 0, .int mq, .int 0])), (bv, .inl (cB, 16, .inl fb))]) hD hS hA [0, 1] rfl
  refine va_callv (va_runU (As := [.int ((0 : Int32) + 1)]) (rest := []) ⟨hx, hb, hml, hown, hts⟩ (c_J5_ensureCapacityInternal_d00df l dC dI cB sb bv mq fb ((0 : Int32) + 1) 0 (by decide) H.size) (va_cwU 1 hts gJ5_append_cf1ce_J5_ensureCapacityInternal_d00df_u100J4 rfl rfl rfl rfl (by decide +kernel) ⟨Nat.le_of_ble_eq_true rfl, Nat.le_of_ble_eq_true rfl⟩) (pcV hPc hDc hKc hN (ci := 1) (q0 := 0) rfl rfl) rfl rfl hl.1 rfl (lv_room (Nat.le_of_ble_eq_true rfl)) dJ5_append_cf1ce_21 ⟨Nat.le_of_ble_eq_true rfl, Nat.le_of_ble_eq_true rfl⟩) hS (fun q _ h => hFc q h) hFc (fun u t H1 locs ht hvm hw_3 hB hz1 hk1 hS => ?_)
  obtain ⟨hP1, hK1, hD1⟩ := hB
  rw [ht] at hP1
  try dsimp only at hw_3
  obtain ⟨hP, hD⟩ := va_join (wr := [(st, .inr (0, [.ref sv, .int 0, .int hh, .int hz])), (sv, .inl (cB, 1, .inl fs9))]) (w1 := [(sb, .inr (1, [.ref bv, .int 0, .int mq, .int 0])), (bv, .inl (cB, 16, .inl fb))]) hP hD [0, 1] [2, 3] rfl rfl (by decide) (by decide) hk1 hFc hP1 hD1
  generalize H1 = H at hP hS ⊢
  have hP : va_P (dC, dI) vwCl [(st, .inr (0, [.ref sv, .int 0, .int hh, .int hz])), (sv, .inl (cB, 1, .inl fs9)), (sb, .inr (1, [.ref bv, .int 0, .int mq, .int 0])), (bv, .inl (cB, 16, .inl fb))] H := hP
  have hD : va_D A [(st, .inr (0, [.ref sv, .int 0, .int hh, .int hz])), (sv, .inl (cB, 1, .inl fs9)), (sb, .inr (1, [.ref bv, .int 0, .int mq, .int 0])), (bv, .inl (cB, 16, .inl fb))] := hD
  refine lv_aload_n hx hb dJ5_append_cf1ce_24 rfl (lv_at hl 1 rfl) ?_
  refine lv_aload_n hx hb dJ5_append_cf1ce_25 rfl (lv_at hl 1 rfl) ?_
  refine va_get (D := (dC, dI)) (ci := 1) (v := .int 0) (C := RJ4) (T := TJ4) (N := 4) hx hb hts iWJ4 hown hK hP 2 rfl rfl 3 (by decide) (hts (.fieldLink RJ5 79 "java/lang/AbstractStringBuilder" "count" "I") (by decide +kernel)) (fun _ h9 => h9) rfl dJ5_append_cf1ce_26 ?_
  refine lv_aload_n hx hb dJ5_append_cf1ce_29 rfl (lv_at hl 2 rfl) ?_
  have hPc := hP.sub (ws' := [(sb, .inr (1, [.ref bv, .int 0, .int mq, .int 0])), (bv, .inl (cB, 16, .inl fb)), (st, .inr (0, [.ref sv, .int 0, .int hh, .int hz])), (sv, .inl (cB, 1, .inl fs9))]) [2, 3, 0, 1] rfl
  have hDc := hD.sub (ws' := [(sb, .inr (1, [.ref bv, .int 0, .int mq, .int 0])), (bv, .inl (cB, 16, .inl fb)), (st, .inr (0, [.ref sv, .int 0, .int hh, .int hz])), (sv, .inl (cB, 1, .inl fs9))]) [2, 3, 0, 1] (by decide) rfl
  have hKc := hK.sub (tys' := [(cB, .byte)]) [0] rfl
  have hFc := va_free (wc := [(sb, .inr (1, [.ref bv, .int 0, .int mq, .int 0])), (bv, .inl (cB, 16, .inl fb)), (st, .inr (0, [.ref sv, .int 0, .int hh, .int hz])), (sv, .inl (cB, 1, .inl fs9))]) hD hS hA [2, 3, 0, 1] rfl
  refine va_callv (va_runU (As := [.int 0, .ref st]) (rest := []) ⟨hx, hb, hml, hown, hts⟩ (c_J5_putStringAt_w l dC dI e0 aK aV cB sb bv mq fb st sv hh hz fs9 hfs H.size) (va_cwU 2 hts gJ5_append_cf1ce_J5_putStringAt_47b60_u208J4 rfl rfl rfl rfl (by decide +kernel) ⟨Nat.le_of_ble_eq_true rfl, Nat.le_of_ble_eq_true rfl⟩) (pcVz (zM_ok e0 aK aV) hPc hDc hKc hN hZ hS hFc (ci := 1) (q0 := 0) rfl rfl) rfl rfl hl.1 rfl (lv_room (Nat.le_of_ble_eq_true rfl)) dJ5_append_cf1ce_30 ⟨Nat.le_of_ble_eq_true rfl, Nat.le_of_ble_eq_true rfl⟩) hS (fun q _ h => hFc q h) hFc (fun u t H1 locs ht hvm hw_5 hB hz1 hk1 hS => ?_)
  obtain ⟨hP1, hK1, hD1⟩ := hB
  rw [ht] at hP1
  try dsimp only at hw_5
  obtain ⟨hP, hD⟩ := va_join (wr := []) (w1 := [(sb, .inr (1, [.ref bv, .int 0, .int mq, .int 0])), (bv, .inl (cB, 16, .inl u)), (st, .inr (0, [.ref sv, .int 0, .int hh, .int hz])), (sv, .inl (cB, 1, .inl fs9))]) hP hD [2, 3, 0, 1] [] rfl rfl (by decide) (by decide) hk1 hFc hP1 hD1
  generalize H1 = H at hP hS ⊢
  have hP : va_P (dC, dI) vwCl [(sb, .inr (1, [.ref bv, .int 0, .int mq, .int 0])), (bv, .inl (cB, 16, .inl u)), (st, .inr (0, [.ref sv, .int 0, .int hh, .int hz])), (sv, .inl (cB, 1, .inl fs9))] H := hP
  have hD : va_D A [(sb, .inr (1, [.ref bv, .int 0, .int mq, .int 0])), (bv, .inl (cB, 16, .inl u)), (st, .inr (0, [.ref sv, .int 0, .int hh, .int hz])), (sv, .inl (cB, 1, .inl fs9))] := hD
  obtain ⟨f_4, ef_4⟩ : ∃ z, z = u := ⟨_, rfl⟩
  subst ef_4
  refine lv_aload_n hx hb dJ5_append_cf1ce_33 rfl (lv_at hl 1 rfl) ?_
  refine lv_dup hx hb dJ5_append_cf1ce_34 rfl ?_
  refine va_get (D := (dC, dI)) (ci := 1) (v := .int 0) (C := RJ4) (T := TJ4) (N := 4) hx hb hts iWJ4 hown hK hP 0 rfl rfl 3 (by decide) (hts (.fieldLink RJ5 79 "java/lang/AbstractStringBuilder" "count" "I") (by decide +kernel)) (fun _ h9 => h9) rfl dJ5_append_cf1ce_35 ?_
  refine lv_iload_n hx hb dJ5_append_cf1ce_38 rfl (lv_at hl 0 rfl) ?_
  refine lv_iadd hx hb dJ5_append_cf1ce_39 ?_
  refine lv_topi (fun x_6 ex_6 => ?_)
  obtain rfl : x_6 = 1 := by rw [ex_6]; decide
  refine va_put (D := (dC, dI)) (ci := 1) (v := .int 1) (ty := .int) (C := RJ4) (T := TJ4) (N := 4) hx hb hts iWJ4 tyJ4 tyJ4_ok nmJ4 hown hK hP hD hS 0 rfl rfl 3 (by decide) (hts (.fieldLink RJ5 79 "java/lang/AbstractStringBuilder" "count" "I") (by decide +kernel)) (fun _ h9 => h9) rfl (by decide +kernel) rfl rfl (Nat.le_of_ble_eq_true rfl) dJ5_append_cf1ce_40 (fun H locs hP hD hS => ?_)
  have hP : va_P (dC, dI) vwCl [(sb, .inr (1, [.ref bv, .int 0, .int mq, .int 1])), (bv, .inl (cB, 16, .inl f_4)), (st, .inr (0, [.ref sv, .int 0, .int hh, .int hz])), (sv, .inl (cB, 1, .inl fs9))] H := hP
  have hD : va_D A [(sb, .inr (1, [.ref bv, .int 0, .int mq, .int 1])), (bv, .inl (cB, 16, .inl f_4)), (st, .inr (0, [.ref sv, .int 0, .int hh, .int hz])), (sv, .inl (cB, 1, .inl fs9))] := hD
  refine lv_aload_n hx hb dJ5_append_cf1ce_43 rfl (lv_at hl 1 rfl) ?_
  have hP9 := hP.sub (ws' := [(sb, .inr (1, [.ref bv, .int 0, .int mq, .int 1])), (bv, .inl (cB, 16, .inl f_4)), (st, .inr (0, [.ref sv, .int 0, .int hh, .int hz])), (sv, .inl (cB, 1, .inl fs9))]) [0, 1, 2, 3] rfl
  have hD9 := hD.sub (ws' := [(sb, .inr (1, [.ref bv, .int 0, .int mq, .int 1])), (bv, .inl (cB, 16, .inl f_4)), (st, .inr (0, [.ref sv, .int 0, .int hh, .int hz])), (sv, .inl (cB, 1, .inl fs9))]) [0, 1, 2, 3] (by decide) rfl
  have hK9 := hK.sub (tys' := [(cB, .byte)]) [0] rfl
  exact W.aret (v := .ref sb) hx hb hr (Or.inl ⟨_, rfl⟩) (Or.inr ⟨_, rfl⟩) (fun t ht hW => ⟨⟨f_4, sb, rfl, hw_5, ⟨rfl, by rw [ht]; exact hP9, va_K.moved hW.alike hK9, hD9⟩⟩, hS.F ht⟩) hS.2.2 dJ5_append_cf1ce_44

set_option maxHeartbeats 4000000 in
set_option maxRecDepth 100000 in
/-- J4_append_15ec4 -/
theorem c_J4_appendS_c (l : Launch) (dC : Nat → ClassId) (dI : Nat → Nat → Nat) (e0 : Nat) (aK aV : Nat → Nat) (cB : ClassId) (sb bv : Nat) (mq : Int32) (fb : Nat → Int32) (sz : Nat) : Met l yJ4_append_15ec4 wsJ4_append_15ec4 ({ frames := 4, cells := 0, slots := 0, locals := 127 }) (va_Pc [.ref sb, .ref (aK 0)] (cPCz (zM e0 aK aV) dC dI [(sb, .inr (1, [.ref bv, .int 0, .int mq, .int 0])), (bv, .inl (cB, 16, .inl fb))] [(cB, .byte)] sz)) (va_Qr (fun (u : Nat → Int32) => True) (fun (u : Nat → Int32) (a : Nat) t => a = sb ∧ cQB dC dI [(sb, .inr (1, [.ref bv, .int 0, .int mq, .int 0])), (bv, .inl (cB, 16, .inl u))] [(cB, .byte)] (va_A [(sb, .inr (1, [.ref bv, .int 0, .int mq, .int 0])), (bv, .inl (cB, 16, .inl fb))] sz) t) (va_A [(sb, .inr (1, [.ref bv, .int 0, .int mq, .int 0])), (bv, .inl (cB, 16, .inl fb))] sz)) 0 0 (va_A [(sb, .inr (1, [.ref bv, .int 0, .int mq, .int 0])), (bv, .inl (cB, 16, .inl fb))] sz) := by
  refine Met.ofW (cc := cJ4_append_15ec4) (maxL := 2) (ret := (some (.object "java/lang/StringBuilder"))) (by decide) rfl ?_
  intro p e s m args below meth c s₁ B hml hv
  obtain ⟨rfl, ⟨hsz, hP, hK, hD0, hN⟩, hZ⟩ := hv
  have hx := B.exec
  have hb := B.bytes
  have hr := B.returns
  have hts := atoms_spec (ws := wsJ4_append_15ec4) B.pre
  have hown : s.vm.findClass RJ4 = some m.cls := findClass_of_methodNamed B.named
  have hlocks := B.notSynchronized
  subst hsz
  have hD := hD0.self (sz := s.heap.size)
  generalize hAe : va_A [(sb, .inr (1, [.ref bv, .int 0, .int mq, .int 0])), (bv, .inl (cB, 16, .inl fb))] s.heap.size = A at hD hZ ⊢
  have hA : ∀ q : Nat, s.heap.size ≤ q → A q := fun q h => by rw [← hAe]; exact Or.inr h
  have hS : va_S A s.heap s.heap [] := va_S.rf
  have hP : va_P (dC, dI) vwCl [(sb, .inr (1, [.ref bv, .int 0, .int mq, .int 0])), (bv, .inl (cB, 16, .inl fb))] s.heap := hP
  have hD : va_D A [(sb, .inr (1, [.ref bv, .int 0, .int mq, .int 0])), (bv, .inl (cB, 16, .inl fb))] := hD
  have hl := lv_entry ([.ref sb, .ref (aK 0)]) (n := 2) (Nat.le_of_ble_eq_true rfl)
  rw [lg_entry_eq]
  generalize (lg_sl ([.ref sb, .ref (aK 0)]) ++ List.replicate (2 - (lg_sl ([.ref sb, .ref (aK 0)])).length) Slot.unset).toArray = ls at hl ⊢
  have hl : lv_has ls 2 [(0, .ref sb), (1, .ref (aK 0))] := hl
  have iWJ0 : ∀ w ∈ u_ws RJ0 TJ0 4, w ∈ wsJ4_append_15ec4 := by decide +kernel
  have iWJ4 : ∀ w ∈ u_ws RJ4 TJ4 4, w ∈ wsJ4_append_15ec4 := by decide +kernel
  refine lv_aload_n hx hb dJ4_append_15ec4_0 rfl (lv_at hl 0 rfl) ?_
  refine lv_aload_n hx hb dJ4_append_15ec4_1 rfl (lv_at hl 1 rfl) ?_
  have hPc := hP.sub (ws' := [(sb, .inr (1, [.ref bv, .int 0, .int mq, .int 0])), (bv, .inl (cB, 16, .inl fb))]) [0, 1] rfl
  have hDc := hD.sub (ws' := [(sb, .inr (1, [.ref bv, .int 0, .int mq, .int 0])), (bv, .inl (cB, 16, .inl fb))]) [0, 1] (by decide) rfl
  have hKc := hK.sub (tys' := [(cB, .byte)]) [0] rfl
  have hFc := va_free (wc := [(sb, .inr (1, [.ref bv, .int 0, .int mq, .int 0])), (bv, .inl (cB, 16, .inl fb))]) hD hS hA [0, 1] rfl
  refine va_callr (va_runSU (As := [.ref (aK 0)]) (rest := []) (hK.1 1 _ rfl).2 ⟨hx, hb, hml, hown, hts⟩ (c_J5_appendS_c l dC dI e0 aK aV cB sb bv mq fb s.heap.size) (va_cwSU 1 hts gJ4_append_15ec4_J5_append_cf1ce_s29 rfl rfl rfl (by decide +kernel) ⟨Nat.le_of_ble_eq_true rfl, Nat.le_of_ble_eq_true rfl⟩) (pcVz (zM_ok e0 aK aV) hPc hDc hKc hN hZ hS hFc (ci := 1) (q0 := 0) rfl rfl) rfl rfl hl.1 rfl (lv_room (Nat.le_of_ble_eq_true rfl)) dJ4_append_15ec4_2 ⟨Nat.le_of_ble_eq_true rfl, Nat.le_of_ble_eq_true rfl⟩) hS (fun q _ h => hFc q h) hFc (fun u r_2 t H1 locs ht hvm hw_3 hB hz1 hk1 hS => ?_)
  obtain ⟨ha9, hP1, hK1, hD1⟩ := hB
  rw [ht] at hP1
  try dsimp only at hw_3
  obtain ⟨hP, hD⟩ := va_join (wr := []) (w1 := [(sb, .inr (1, [.ref bv, .int 0, .int mq, .int 0])), (bv, .inl (cB, 16, .inl u))]) hP hD [0, 1] [] rfl rfl (by decide) (by decide) hk1 hFc hP1 hD1
  generalize H1 = H at hP hS ⊢
  have hP : va_P (dC, dI) vwCl [(sb, .inr (1, [.ref bv, .int 0, .int mq, .int 0])), (bv, .inl (cB, 16, .inl u))] H := hP
  have hD : va_D A [(sb, .inr (1, [.ref bv, .int 0, .int mq, .int 0])), (bv, .inl (cB, 16, .inl u))] := hD
  rw [ha9]
  obtain ⟨f_1, ef_1⟩ : ∃ z, z = u := ⟨_, rfl⟩
  subst ef_1
  refine lv_pop hx hb dJ4_append_15ec4_5 rfl ?_
  refine lv_aload_n hx hb dJ4_append_15ec4_6 rfl (lv_at hl 0 rfl) ?_
  have hP9 := hP.sub (ws' := [(sb, .inr (1, [.ref bv, .int 0, .int mq, .int 0])), (bv, .inl (cB, 16, .inl f_1))]) [0, 1] rfl
  have hD9 := hD.sub (ws' := [(sb, .inr (1, [.ref bv, .int 0, .int mq, .int 0])), (bv, .inl (cB, 16, .inl f_1))]) [0, 1] (by decide) rfl
  have hK9 := hK.sub (tys' := [(cB, .byte)]) [0] rfl
  exact W.aret (v := .ref sb) hx hb hr (Or.inl ⟨_, rfl⟩) (Or.inr ⟨_, rfl⟩) (fun t ht hW => ⟨⟨f_1, sb, rfl, trivial, ⟨rfl, by rw [ht]; exact hP9, va_K.moved hW.alike hK9, hD9⟩⟩, hS.F ht⟩) hS.2.2 dJ4_append_15ec4_7

set_option maxHeartbeats 4000000 in
set_option maxRecDepth 100000 in
/-- J4_append_15ec4 -/
theorem c_J4_appendS_w (l : Launch) (dC : Nat → ClassId) (dI : Nat → Nat → Nat) (e0 : Nat) (aK aV : Nat → Nat) (cB : ClassId) (sb bv : Nat) (mq : Int32) (fb : Nat → Int32) (st sv : Nat) (hh hz : Int32) (fs9 : Nat → Int32) (hfs : fits .byte (.int (fs9 0)) = true) (sz : Nat) : Met l yJ4_append_15ec4 wsJ4_append_15ec4 ({ frames := 4, cells := 0, slots := 0, locals := 127 }) (va_Pc [.ref sb, .ref st] (cPCz (zM e0 aK aV) dC dI [(sb, .inr (1, [.ref bv, .int 0, .int mq, .int 0])), (bv, .inl (cB, 16, .inl fb)), (st, .inr (0, [.ref sv, .int 0, .int hh, .int hz])), (sv, .inl (cB, 1, .inl fs9))] [(cB, .byte)] sz)) (va_Qr (fun (u : Nat → Int32) => u 0 = fs9 0) (fun (u : Nat → Int32) (a : Nat) t => a = sb ∧ cQB dC dI [(sb, .inr (1, [.ref bv, .int 0, .int mq, .int 1])), (bv, .inl (cB, 16, .inl u)), (st, .inr (0, [.ref sv, .int 0, .int hh, .int hz])), (sv, .inl (cB, 1, .inl fs9))] [(cB, .byte)] (va_A [(sb, .inr (1, [.ref bv, .int 0, .int mq, .int 0])), (bv, .inl (cB, 16, .inl fb)), (st, .inr (0, [.ref sv, .int 0, .int hh, .int hz])), (sv, .inl (cB, 1, .inl fs9))] sz) t) (va_A [(sb, .inr (1, [.ref bv, .int 0, .int mq, .int 0])), (bv, .inl (cB, 16, .inl fb)), (st, .inr (0, [.ref sv, .int 0, .int hh, .int hz])), (sv, .inl (cB, 1, .inl fs9))] sz)) 0 0 (va_A [(sb, .inr (1, [.ref bv, .int 0, .int mq, .int 0])), (bv, .inl (cB, 16, .inl fb)), (st, .inr (0, [.ref sv, .int 0, .int hh, .int hz])), (sv, .inl (cB, 1, .inl fs9))] sz) := by
  refine Met.ofW (cc := cJ4_append_15ec4) (maxL := 2) (ret := (some (.object "java/lang/StringBuilder"))) (by decide) rfl ?_
  intro p e s m args below meth c s₁ B hml hv
  obtain ⟨rfl, ⟨hsz, hP, hK, hD0, hN⟩, hZ⟩ := hv
  have hx := B.exec
  have hb := B.bytes
  have hr := B.returns
  have hts := atoms_spec (ws := wsJ4_append_15ec4) B.pre
  have hown : s.vm.findClass RJ4 = some m.cls := findClass_of_methodNamed B.named
  have hlocks := B.notSynchronized
  subst hsz
  have hD := hD0.self (sz := s.heap.size)
  generalize hAe : va_A [(sb, .inr (1, [.ref bv, .int 0, .int mq, .int 0])), (bv, .inl (cB, 16, .inl fb)), (st, .inr (0, [.ref sv, .int 0, .int hh, .int hz])), (sv, .inl (cB, 1, .inl fs9))] s.heap.size = A at hD hZ ⊢
  have hA : ∀ q : Nat, s.heap.size ≤ q → A q := fun q h => by rw [← hAe]; exact Or.inr h
  have hS : va_S A s.heap s.heap [] := va_S.rf
  have hP : va_P (dC, dI) vwCl [(sb, .inr (1, [.ref bv, .int 0, .int mq, .int 0])), (bv, .inl (cB, 16, .inl fb)), (st, .inr (0, [.ref sv, .int 0, .int hh, .int hz])), (sv, .inl (cB, 1, .inl fs9))] s.heap := hP
  have hD : va_D A [(sb, .inr (1, [.ref bv, .int 0, .int mq, .int 0])), (bv, .inl (cB, 16, .inl fb)), (st, .inr (0, [.ref sv, .int 0, .int hh, .int hz])), (sv, .inl (cB, 1, .inl fs9))] := hD
  have hl := lv_entry ([.ref sb, .ref st]) (n := 2) (Nat.le_of_ble_eq_true rfl)
  rw [lg_entry_eq]
  generalize (lg_sl ([.ref sb, .ref st]) ++ List.replicate (2 - (lg_sl ([.ref sb, .ref st])).length) Slot.unset).toArray = ls at hl ⊢
  have hl : lv_has ls 2 [(0, .ref sb), (1, .ref st)] := hl
  have iWJ0 : ∀ w ∈ u_ws RJ0 TJ0 4, w ∈ wsJ4_append_15ec4 := by decide +kernel
  have iWJ4 : ∀ w ∈ u_ws RJ4 TJ4 4, w ∈ wsJ4_append_15ec4 := by decide +kernel
  refine lv_aload_n hx hb dJ4_append_15ec4_0 rfl (lv_at hl 0 rfl) ?_
  refine lv_aload_n hx hb dJ4_append_15ec4_1 rfl (lv_at hl 1 rfl) ?_
  have hPc := hP.sub (ws' := [(sb, .inr (1, [.ref bv, .int 0, .int mq, .int 0])), (bv, .inl (cB, 16, .inl fb)), (st, .inr (0, [.ref sv, .int 0, .int hh, .int hz])), (sv, .inl (cB, 1, .inl fs9))]) [0, 1, 2, 3] rfl
  have hDc := hD.sub (ws' := [(sb, .inr (1, [.ref bv, .int 0, .int mq, .int 0])), (bv, .inl (cB, 16, .inl fb)), (st, .inr (0, [.ref sv, .int 0, .int hh, .int hz])), (sv, .inl (cB, 1, .inl fs9))]) [0, 1, 2, 3] (by decide) rfl
  have hKc := hK.sub (tys' := [(cB, .byte)]) [0] rfl
  have hFc := va_free (wc := [(sb, .inr (1, [.ref bv, .int 0, .int mq, .int 0])), (bv, .inl (cB, 16, .inl fb)), (st, .inr (0, [.ref sv, .int 0, .int hh, .int hz])), (sv, .inl (cB, 1, .inl fs9))]) hD hS hA [0, 1, 2, 3] rfl
  refine va_callr (va_runSU (As := [.ref st]) (rest := []) (hK.1 1 _ rfl).2 ⟨hx, hb, hml, hown, hts⟩ (c_J5_appendS_w l dC dI e0 aK aV cB sb bv mq fb st sv hh hz fs9 hfs s.heap.size) (va_cwSU 1 hts gJ4_append_15ec4_J5_append_cf1ce_s29 rfl rfl rfl (by decide +kernel) ⟨Nat.le_of_ble_eq_true rfl, Nat.le_of_ble_eq_true rfl⟩) (pcVz (zM_ok e0 aK aV) hPc hDc hKc hN hZ hS hFc (ci := 1) (q0 := 0) rfl rfl) rfl rfl hl.1 rfl (lv_room (Nat.le_of_ble_eq_true rfl)) dJ4_append_15ec4_2 ⟨Nat.le_of_ble_eq_true rfl, Nat.le_of_ble_eq_true rfl⟩) hS (fun q _ h => hFc q h) hFc (fun u r_2 t H1 locs ht hvm hw_3 hB hz1 hk1 hS => ?_)
  obtain ⟨ha9, hP1, hK1, hD1⟩ := hB
  rw [ht] at hP1
  try dsimp only at hw_3
  obtain ⟨hP, hD⟩ := va_join (wr := []) (w1 := [(sb, .inr (1, [.ref bv, .int 0, .int mq, .int 1])), (bv, .inl (cB, 16, .inl u)), (st, .inr (0, [.ref sv, .int 0, .int hh, .int hz])), (sv, .inl (cB, 1, .inl fs9))]) hP hD [0, 1, 2, 3] [] rfl rfl (by decide) (by decide) hk1 hFc hP1 hD1
  generalize H1 = H at hP hS ⊢
  have hP : va_P (dC, dI) vwCl [(sb, .inr (1, [.ref bv, .int 0, .int mq, .int 1])), (bv, .inl (cB, 16, .inl u)), (st, .inr (0, [.ref sv, .int 0, .int hh, .int hz])), (sv, .inl (cB, 1, .inl fs9))] H := hP
  have hD : va_D A [(sb, .inr (1, [.ref bv, .int 0, .int mq, .int 1])), (bv, .inl (cB, 16, .inl u)), (st, .inr (0, [.ref sv, .int 0, .int hh, .int hz])), (sv, .inl (cB, 1, .inl fs9))] := hD
  rw [ha9]
  obtain ⟨f_1, ef_1⟩ : ∃ z, z = u := ⟨_, rfl⟩
  subst ef_1
  refine lv_pop hx hb dJ4_append_15ec4_5 rfl ?_
  refine lv_aload_n hx hb dJ4_append_15ec4_6 rfl (lv_at hl 0 rfl) ?_
  have hP9 := hP.sub (ws' := [(sb, .inr (1, [.ref bv, .int 0, .int mq, .int 1])), (bv, .inl (cB, 16, .inl f_1)), (st, .inr (0, [.ref sv, .int 0, .int hh, .int hz])), (sv, .inl (cB, 1, .inl fs9))]) [0, 1, 2, 3] rfl
  have hD9 := hD.sub (ws' := [(sb, .inr (1, [.ref bv, .int 0, .int mq, .int 1])), (bv, .inl (cB, 16, .inl f_1)), (st, .inr (0, [.ref sv, .int 0, .int hh, .int hz])), (sv, .inl (cB, 1, .inl fs9))]) [0, 1, 2, 3] (by decide) rfl
  have hK9 := hK.sub (tys' := [(cB, .byte)]) [0] rfl
  exact W.aret (v := .ref sb) hx hb hr (Or.inl ⟨_, rfl⟩) (Or.inr ⟨_, rfl⟩) (fun t ht hW => ⟨⟨f_1, sb, rfl, hw_3, ⟨rfl, by rw [ht]; exact hP9, va_K.moved hW.alike hK9, hD9⟩⟩, hS.F ht⟩) hS.2.2 dJ4_append_15ec4_7

set_option maxHeartbeats 4000000 in
set_option maxRecDepth 100000 in
/-- J5_isLatin1_aae02 -/
theorem c_J5_isLatin1_aae02 (l : Launch) (dC : Nat → ClassId) (dI : Nat → Nat → Nat) (e0 : Nat) (aK aV : Nat → Nat) (cB : ClassId) (sb bv : Nat) (mq cn : Int32) (sz : Nat) : Met l yJ5_isLatin1_aae02 wsJ5_isLatin1_aae02 ({ frames := 0, cells := 0, slots := 0, locals := 0 }) (va_Pc [.ref sb] (cPCz (zM e0 aK aV) dC dI [(sb, .inr (1, [.ref bv, .int 0, .int mq, .int cn]))] [] sz)) (va_Qi (fun (r : Int32) (u : Unit) => r = 1) (fun (u : Unit) t => cQB dC dI [(sb, .inr (1, [.ref bv, .int 0, .int mq, .int cn]))] [] (va_A [(sb, .inr (1, [.ref bv, .int 0, .int mq, .int cn]))] sz) t) (va_A [(sb, .inr (1, [.ref bv, .int 0, .int mq, .int cn]))] sz)) 0 0 (va_A [(sb, .inr (1, [.ref bv, .int 0, .int mq, .int cn]))] sz) := by
  refine Met.ofW (cc := cJ5_isLatin1_aae02) (maxL := 1) (ret := (some .boolean)) (by decide) rfl ?_
  intro p e s m args below meth c s₁ B hml hv
  obtain ⟨rfl, ⟨hsz, hP, hK, hD0, hN⟩, hZ⟩ := hv
  have hx := B.exec
  have hb := B.bytes
  have hr := B.returns
  have hts := atoms_spec (ws := wsJ5_isLatin1_aae02) B.pre
  have hown : s.vm.findClass RJ5 = some m.cls := findClass_of_methodNamed B.named
  have hlocks := B.notSynchronized
  subst hsz
  have hD := hD0.self (sz := s.heap.size)
  generalize hAe : va_A [(sb, .inr (1, [.ref bv, .int 0, .int mq, .int cn]))] s.heap.size = A at hD hZ ⊢
  have hA : ∀ q : Nat, s.heap.size ≤ q → A q := fun q h => by rw [← hAe]; exact Or.inr h
  have hS : va_S A s.heap s.heap [] := va_S.rf
  have hP : va_P (dC, dI) vwCl [(sb, .inr (1, [.ref bv, .int 0, .int mq, .int cn]))] s.heap := hP
  have hD : va_D A [(sb, .inr (1, [.ref bv, .int 0, .int mq, .int cn]))] := hD
  have hl := lv_entry ([.ref sb]) (n := 1) (Nat.le_of_ble_eq_true rfl)
  rw [lg_entry_eq]
  generalize (lg_sl ([.ref sb]) ++ List.replicate (1 - (lg_sl ([.ref sb])).length) Slot.unset).toArray = ls at hl ⊢
  have hl : lv_has ls 1 [(0, .ref sb)] := hl
  have iWJ4 : ∀ w ∈ u_ws RJ4 TJ4 4, w ∈ wsJ5_isLatin1_aae02 := by decide +kernel
  refine va_gets hx hb hZ.1.2.2.1 hS hown (hts (.fieldLink RJ5 18 "java/lang/String" "COMPACT_STRINGS" "Z") (by decide +kernel)) (fun _ h9 => h9) dJ5_isLatin1_aae02_0 ?_
  refine lv_if_eq (tgt := 17) hx hb dJ5_isLatin1_aae02_3 (by decide) (fun c3_1 => ?_) (fun c3_1 => ?_)
  · exact absurd c3_1 (by decide)
  · refine lv_aload_n hx hb dJ5_isLatin1_aae02_6 rfl (lv_at hl 0 rfl) ?_
    refine va_get (D := (dC, dI)) (ci := 1) (v := .int 0) (C := RJ4) (T := TJ4) (N := 4) hx hb hts iWJ4 hown hK hP 0 rfl rfl 1 (by decide) (hts (.fieldLink RJ5 22 "java/lang/AbstractStringBuilder" "coder" "B") (by decide +kernel)) (fun _ h9 => h9) rfl dJ5_isLatin1_aae02_7 ?_
    refine lv_if_ne (tgt := 17) hx hb dJ5_isLatin1_aae02_10 (by decide) (fun c10_2 => ?_) (fun c10_2 => ?_)
    · exact (c10_2 (by decide)).elim
    · refine lv_iconst (v := 1) hx hb dJ5_isLatin1_aae02_13 (by decide) ?_
      refine lv_goto (tgt := 18) hx hb dJ5_isLatin1_aae02_14 (by decide) ?_
      have hP9 := hP.sub (ws' := [(sb, .inr (1, [.ref bv, .int 0, .int mq, .int cn]))]) [0] rfl
      have hD9 := hD.sub (ws' := [(sb, .inr (1, [.ref bv, .int 0, .int mq, .int cn]))]) [0] (by decide) rfl
      have hK9 := hK.sub (tys' := []) [] rfl
      exact W.zret (v := 1) hx hb hr (by rfl) (fun t ht hW => ⟨⟨1, (), rfl, rfl, ⟨by rw [ht]; exact hP9, va_K.moved hW.alike hK9, hD9⟩⟩, hS.F ht⟩) hS.2.2 dJ5_isLatin1_aae02_18

set_option maxHeartbeats 4000000 in
set_option maxRecDepth 100000 in
/-- J1_canEncode_fc78d -/
theorem c_J1_canEncode_fc78d (l : Launch) (dC : Nat → ClassId) (dI : Nat → Nat → Nat) (x9 : Int32) (hx9 : x9 ≤ 255) (sz : Nat) : Met l yJ1_canEncode_fc78d wsJ1_canEncode_fc78d ({ frames := 0, cells := 0, slots := 0, locals := 0 }) (va_Pc [.int x9] (cPC dC dI [] [] sz)) (va_Qi (fun (r : Int32) (u : Unit) => r = 1) (fun (u : Unit) t => cQB dC dI [] [] (va_A [] sz) t) (va_A [] sz)) 0 0 (va_A [] sz) := by
  refine Met.ofW (cc := cJ1_canEncode_fc78d) (maxL := 1) (ret := (some .boolean)) (by decide) rfl ?_
  intro p e s m args below meth c s₁ B hml hv
  obtain ⟨rfl, hsz, hP, hK, hD0, hN⟩ := hv
  have hx := B.exec
  have hb := B.bytes
  have hr := B.returns
  have hts := atoms_spec (ws := wsJ1_canEncode_fc78d) B.pre
  have hown : s.vm.findClass RJ1 = some m.cls := findClass_of_methodNamed B.named
  have hlocks := B.notSynchronized
  subst hsz
  have hD := hD0.self (sz := s.heap.size)
  generalize hAe : va_A [] s.heap.size = A at hD ⊢
  have hA : ∀ q : Nat, s.heap.size ≤ q → A q := fun q h => by rw [← hAe]; exact Or.inr h
  have hS : va_S A s.heap s.heap [] := va_S.rf
  have hP : va_P (dC, dI) vwCl [] s.heap := hP
  have hD : va_D A [] := hD
  have hl := lv_entry ([.int x9]) (n := 1) (Nat.le_of_ble_eq_true rfl)
  rw [lg_entry_eq]
  generalize (lg_sl ([.int x9]) ++ List.replicate (1 - (lg_sl ([.int x9])).length) Slot.unset).toArray = ls at hl ⊢
  have hl : lv_has ls 1 [(0, .int x9)] := hl
  refine lv_iload_n hx hb dJ1_canEncode_fc78d_0 rfl (lv_at hl 0 rfl) ?_
  refine lv_sipush (v := 255) hx hb dJ1_canEncode_fc78d_1 (by decide) ?_
  refine lv_icmp_gt (tgt := 11) hx hb dJ1_canEncode_fc78d_4 (by decide) (fun c4_1 => ?_) (fun c4_1 => ?_)
  · exact absurd hx9 (Int32.not_le.mpr c4_1)
  · refine lv_iconst (v := 1) hx hb dJ1_canEncode_fc78d_7 (by decide) ?_
    refine lv_goto (tgt := 12) hx hb dJ1_canEncode_fc78d_8 (by decide) ?_
    have hP9 := hP.sub (ws' := []) [] rfl
    have hD9 := hD.sub (ws' := []) [] (by decide) rfl
    have hK9 := hK.sub (tys' := []) [] rfl
    exact W.zret (v := 1) hx hb hr (by rfl) (fun t ht hW => ⟨⟨1, (), rfl, rfl, ⟨by rw [ht]; exact hP9, va_K.moved hW.alike hK9, hD9⟩⟩, hS.F ht⟩) hS.2.2 dJ1_canEncode_fc78d_12

set_option maxHeartbeats 4000000 in
set_option maxRecDepth 100000 in
/-- J5_append_3fe6f -/
theorem c_J5_append_3fe6f (l : Launch) (dC : Nat → ClassId) (dI : Nat → Nat → Nat) (e0 : Nat) (aK aV : Nat → Nat) (cB : ClassId) (sb bv : Nat) (mq : Int32) (fb : Nat → Int32) (x9 : Int32) (hx9 : x9 ≤ 255) (sz : Nat) : Met l yJ5_append_3fe6f wsJ5_append_3fe6f ({ frames := 1, cells := 0, slots := 0, locals := 22 }) (va_Pc [.ref sb, .int x9] (cPCz (zM e0 aK aV) dC dI [(sb, .inr (1, [.ref bv, .int 0, .int mq, .int 0])), (bv, .inl (cB, 16, .inl fb))] [(cB, .byte)] sz)) (va_Qr (fun (u : Nat → Int32) => fits .byte (.int (u 0)) = true) (fun (u : Nat → Int32) (a : Nat) t => a = sb ∧ cQB dC dI [(sb, .inr (1, [.ref bv, .int 0, .int mq, .int 1])), (bv, .inl (cB, 16, .inl u))] [(cB, .byte)] (va_A [(sb, .inr (1, [.ref bv, .int 0, .int mq, .int 0])), (bv, .inl (cB, 16, .inl fb))] sz) t) (va_A [(sb, .inr (1, [.ref bv, .int 0, .int mq, .int 0])), (bv, .inl (cB, 16, .inl fb))] sz)) 0 0 (va_A [(sb, .inr (1, [.ref bv, .int 0, .int mq, .int 0])), (bv, .inl (cB, 16, .inl fb))] sz) := by
  refine Met.ofW (cc := cJ5_append_3fe6f) (maxL := 2) (ret := (some (.object "java/lang/AbstractStringBuilder"))) (by decide) rfl ?_
  intro p e s m args below meth c s₁ B hml hv
  obtain ⟨rfl, ⟨hsz, hP, hK, hD0, hN⟩, hZ⟩ := hv
  have hx := B.exec
  have hb := B.bytes
  have hr := B.returns
  have hts := atoms_spec (ws := wsJ5_append_3fe6f) B.pre
  have hown : s.vm.findClass RJ5 = some m.cls := findClass_of_methodNamed B.named
  have hlocks := B.notSynchronized
  subst hsz
  have hD := hD0.self (sz := s.heap.size)
  generalize hAe : va_A [(sb, .inr (1, [.ref bv, .int 0, .int mq, .int 0])), (bv, .inl (cB, 16, .inl fb))] s.heap.size = A at hD hZ ⊢
  have hA : ∀ q : Nat, s.heap.size ≤ q → A q := fun q h => by rw [← hAe]; exact Or.inr h
  have hS : va_S A s.heap s.heap [] := va_S.rf
  have hP : va_P (dC, dI) vwCl [(sb, .inr (1, [.ref bv, .int 0, .int mq, .int 0])), (bv, .inl (cB, 16, .inl fb))] s.heap := hP
  have hD : va_D A [(sb, .inr (1, [.ref bv, .int 0, .int mq, .int 0])), (bv, .inl (cB, 16, .inl fb))] := hD
  have hl := lv_entry ([.ref sb, .int x9]) (n := 2) (Nat.le_of_ble_eq_true rfl)
  rw [lg_entry_eq]
  generalize (lg_sl ([.ref sb, .int x9]) ++ List.replicate (2 - (lg_sl ([.ref sb, .int x9])).length) Slot.unset).toArray = ls at hl ⊢
  have hl : lv_has ls 2 [(0, .ref sb), (1, .int x9)] := hl
  have iWJ4 : ∀ w ∈ u_ws RJ4 TJ4 4, w ∈ wsJ5_append_3fe6f := by decide +kernel
  refine lv_aload_n hx hb dJ5_append_3fe6f_0 rfl (lv_at hl 0 rfl) ?_
  refine lv_aload_n hx hb dJ5_append_3fe6f_1 rfl (lv_at hl 0 rfl) ?_
  refine va_get (D := (dC, dI)) (ci := 1) (v := .int 0) (C := RJ4) (T := TJ4) (N := 4) hx hb hts iWJ4 hown hK hP 0 rfl rfl 3 (by decide) (hts (.fieldLink RJ5 79 "java/lang/AbstractStringBuilder" "count" "I") (by decide +kernel)) (fun _ h9 => h9) rfl dJ5_append_3fe6f_2 ?_
  refine lv_iconst (v := 1) hx hb dJ5_append_3fe6f_5 (by decide) ?_
  refine lv_iadd hx hb dJ5_append_3fe6f_6 ?_
  have hPc := hP.sub (ws' := [(sb, .inr (1, [.ref bv, .int 0, .int mq, .int 0])), (bv, .inl (cB, 16, .inl fb))]) [0, 1] rfl
  have hDc := hD.sub (ws' := [(sb, .inr (1, [.ref bv, .int 0, .int mq, .int 0])), (bv, .inl (cB, 16, .inl fb))]) [0, 1] (by decide) rfl
  have hKc := hK.sub (tys' := [(cB, .byte)]) [0] rfl
  have hFc := va_free (wc := [(sb, .inr (1, [.ref bv, .int 0, .int mq, .int 0])), (bv, .inl (cB, 16, .inl fb))]) hD hS hA [0, 1] rfl
  refine va_callv (va_runU (As := [.int ((0 : Int32) + 1)]) (rest := []) ⟨hx, hb, hml, hown, hts⟩ (c_J5_ensureCapacityInternal_d00df l dC dI cB sb bv mq fb ((0 : Int32) + 1) 0 (by decide) s.heap.size) (va_cwU 1 hts gJ5_append_3fe6f_J5_ensureCapacityInternal_d00df_u100J4 rfl rfl rfl rfl (by decide +kernel) ⟨Nat.le_of_ble_eq_true rfl, Nat.le_of_ble_eq_true rfl⟩) (pcV hPc hDc hKc hN (ci := 1) (q0 := 0) rfl rfl) rfl rfl hl.1 rfl (lv_room (Nat.le_of_ble_eq_true rfl)) dJ5_append_3fe6f_7 ⟨Nat.le_of_ble_eq_true rfl, Nat.le_of_ble_eq_true rfl⟩) hS (fun q _ h => hFc q h) hFc (fun u t H1 locs ht hvm hw_1 hB hz1 hk1 hS => ?_)
  obtain ⟨hP1, hK1, hD1⟩ := hB
  rw [ht] at hP1
  try dsimp only at hw_1
  obtain ⟨hP, hD⟩ := va_join (wr := []) (w1 := [(sb, .inr (1, [.ref bv, .int 0, .int mq, .int 0])), (bv, .inl (cB, 16, .inl fb))]) hP hD [0, 1] [] rfl rfl (by decide) (by decide) hk1 hFc hP1 hD1
  generalize H1 = H at hP hS ⊢
  have hP : va_P (dC, dI) vwCl [(sb, .inr (1, [.ref bv, .int 0, .int mq, .int 0])), (bv, .inl (cB, 16, .inl fb))] H := hP
  have hD : va_D A [(sb, .inr (1, [.ref bv, .int 0, .int mq, .int 0])), (bv, .inl (cB, 16, .inl fb))] := hD
  refine lv_aload_n hx hb dJ5_append_3fe6f_10 rfl (lv_at hl 0 rfl) ?_
  have hPc := hP.sub (ws' := [(sb, .inr (1, [.ref bv, .int 0, .int mq, .int 0]))]) [0] rfl
  have hDc := hD.sub (ws' := [(sb, .inr (1, [.ref bv, .int 0, .int mq, .int 0]))]) [0] (by decide) rfl
  have hKc := hK.sub (tys' := []) [] rfl
  have hFc := va_free (wc := [(sb, .inr (1, [.ref bv, .int 0, .int mq, .int 0]))]) hD hS hA [0] rfl
  refine va_calli (va_runU (As := []) (rest := []) ⟨hx, hb, hml, hown, hts⟩ (c_J5_isLatin1_aae02 l dC dI e0 aK aV cB sb bv mq 0 H.size) (va_cwU 0 hts gJ5_append_3fe6f_J5_isLatin1_aae02_u83J4 rfl rfl rfl rfl (by decide +kernel) ⟨Nat.le_of_ble_eq_true rfl, Nat.le_of_ble_eq_true rfl⟩) (pcVz (zM_ok e0 aK aV) hPc hDc hKc hN hZ hS hFc (ci := 1) (q0 := 0) rfl rfl) rfl rfl hl.1 rfl (lv_room (Nat.le_of_ble_eq_true rfl)) dJ5_append_3fe6f_11 ⟨Nat.le_of_ble_eq_true rfl, Nat.le_of_ble_eq_true rfl⟩) hS (fun q _ h => hFc q h) hFc (fun r_2 u t H1 locs ht hvm hw_3 hB hz1 hk1 hS => ?_)
  obtain ⟨hP1, hK1, hD1⟩ := hB
  rw [ht] at hP1
  try dsimp only at hw_3
  obtain ⟨hP, hD⟩ := va_join (wr := [(bv, .inl (cB, 16, .inl fb))]) (w1 := [(sb, .inr (1, [.ref bv, .int 0, .int mq, .int 0]))]) hP hD [0] [1] rfl rfl (by decide) (by decide) hk1 hFc hP1 hD1
  generalize H1 = H at hP hS ⊢
  have hP : va_P (dC, dI) vwCl [(bv, .inl (cB, 16, .inl fb)), (sb, .inr (1, [.ref bv, .int 0, .int mq, .int 0]))] H := hP
  have hD : va_D A [(bv, .inl (cB, 16, .inl fb)), (sb, .inr (1, [.ref bv, .int 0, .int mq, .int 0]))] := hD
  subst hw_3
  refine lv_if_eq (tgt := 45) hx hb dJ5_append_3fe6f_14 (by decide) (fun c14_4 => ?_) (fun c14_4 => ?_)
  · exact absurd c14_4 (by decide)
  · refine lv_iload_n hx hb dJ5_append_3fe6f_17 rfl (lv_at hl 1 rfl) ?_
    have hPc := hP.sub (ws' := []) [] rfl
    have hDc := hD.sub (ws' := []) [] (by decide) rfl
    have hKc := hK.sub (tys' := []) [] rfl
    have hFc := va_free (wc := []) hD hS hA [] rfl
    refine va_calli (va_runS (As := [.int x9]) (rest := []) ⟨hx, hb, hml, hown, hts⟩ (c_J1_canEncode_fc78d l dC dI x9 hx9 H.size) (va_cwS 1 hts gJ5_append_3fe6f_J1_canEncode_fc78d rfl rfl rfl (by decide +kernel) ⟨Nat.le_of_ble_eq_true rfl, Nat.le_of_ble_eq_true rfl⟩) (pcS hPc hDc hKc hN) rfl rfl hl.1 rfl (lv_room (Nat.le_of_ble_eq_true rfl)) dJ5_append_3fe6f_18 ⟨Nat.le_of_ble_eq_true rfl, Nat.le_of_ble_eq_true rfl⟩) hS (fun q _ h => hFc q h) hFc (fun r_5 u t H1 locs ht hvm hw_6 hB hz1 hk1 hS => ?_)
    obtain ⟨hP1, hK1, hD1⟩ := hB
    rw [ht] at hP1
    try dsimp only at hw_6
    obtain ⟨hP, hD⟩ := va_join (wr := [(bv, .inl (cB, 16, .inl fb)), (sb, .inr (1, [.ref bv, .int 0, .int mq, .int 0]))]) (w1 := []) hP hD [] [0, 1] rfl rfl (by decide) (by decide) hk1 hFc hP1 hD1
    generalize H1 = H at hP hS ⊢
    have hP : va_P (dC, dI) vwCl [(bv, .inl (cB, 16, .inl fb)), (sb, .inr (1, [.ref bv, .int 0, .int mq, .int 0]))] H := hP
    have hD : va_D A [(bv, .inl (cB, 16, .inl fb)), (sb, .inr (1, [.ref bv, .int 0, .int mq, .int 0]))] := hD
    subst hw_6
    refine lv_if_eq (tgt := 45) hx hb dJ5_append_3fe6f_21 (by decide) (fun c21_7 => ?_) (fun c21_7 => ?_)
    · exact absurd c21_7 (by decide)
    · refine lv_aload_n hx hb dJ5_append_3fe6f_24 rfl (lv_at hl 0 rfl) ?_
      refine va_get (D := (dC, dI)) (ci := 1) (v := .ref bv) (C := RJ4) (T := TJ4) (N := 4) hx hb hts iWJ4 hown hK hP 1 rfl rfl 0 (by decide) (hts (.fieldLink RJ5 15 "java/lang/AbstractStringBuilder" "value" "[B") (by decide +kernel)) (fun _ h9 => h9) rfl dJ5_append_3fe6f_25 ?_
      refine lv_aload_n hx hb dJ5_append_3fe6f_28 rfl (lv_at hl 0 rfl) ?_
      refine lv_dup hx hb dJ5_append_3fe6f_29 rfl ?_
      refine va_get (D := (dC, dI)) (ci := 1) (v := .int 0) (C := RJ4) (T := TJ4) (N := 4) hx hb hts iWJ4 hown hK hP 1 rfl rfl 3 (by decide) (hts (.fieldLink RJ5 79 "java/lang/AbstractStringBuilder" "count" "I") (by decide +kernel)) (fun _ h9 => h9) rfl dJ5_append_3fe6f_30 ?_
      refine lv_dup_x1 hx hb dJ5_append_3fe6f_33 rfl rfl ?_
      refine lv_iconst (v := 1) hx hb dJ5_append_3fe6f_34 (by decide) ?_
      refine lv_iadd hx hb dJ5_append_3fe6f_35 ?_
      refine lv_topi (fun x_8 ex_8 => ?_)
      obtain rfl : x_8 = 1 := by rw [ex_8]; decide
      refine va_put (D := (dC, dI)) (ci := 1) (v := .int 1) (ty := .int) (C := RJ4) (T := TJ4) (N := 4) hx hb hts iWJ4 tyJ4 tyJ4_ok nmJ4 hown hK hP hD hS 1 rfl rfl 3 (by decide) (hts (.fieldLink RJ5 79 "java/lang/AbstractStringBuilder" "count" "I") (by decide +kernel)) (fun _ h9 => h9) rfl (by decide +kernel) rfl rfl (Nat.le_of_ble_eq_true rfl) dJ5_append_3fe6f_36 (fun H locs hP hD hS => ?_)
      have hP : va_P (dC, dI) vwCl [(bv, .inl (cB, 16, .inl fb)), (sb, .inr (1, [.ref bv, .int 0, .int mq, .int 1]))] H := hP
      have hD : va_D A [(bv, .inl (cB, 16, .inl fb)), (sb, .inr (1, [.ref bv, .int 0, .int mq, .int 1]))] := hD
      refine lv_iload_n hx hb dJ5_append_3fe6f_39 rfl (lv_at hl 1 rfl) ?_
      refine lv_i2b hx hb dJ5_append_3fe6f_40 rfl ?_
      refine va_bast hx hb hK hP hD hS 0 0 rfl rfl (show vp_in (nI 0) 16 from vp_in_nI (by decide) (by decide)) dJ5_append_3fe6f_41 (fun H locs hP hD hS => ?_)
      obtain ⟨f_9, ef_9⟩ : ∃ z, z = (upd fb ((0 : Int32)).toNatClampNeg (vp_nar .byte x9.toInt8.toInt32)) := ⟨_, rfl⟩
      have hP : va_P (dC, dI) vwCl [(bv, .inl (cB, 16, .inl f_9)), (sb, .inr (1, [.ref bv, .int 0, .int mq, .int 1]))] H := by rw [ef_9]; exact hP
      have hD : va_D A [(bv, .inl (cB, 16, .inl f_9)), (sb, .inr (1, [.ref bv, .int 0, .int mq, .int 1]))] := by rw [ef_9]; exact hD
      refine lv_goto (tgt := 75) hx hb dJ5_append_3fe6f_42 (by decide) ?_
      refine lv_aload_n hx hb dJ5_append_3fe6f_75 rfl (lv_at hl 0 rfl) ?_
      have hP9 := hP.sub (ws' := [(sb, .inr (1, [.ref bv, .int 0, .int mq, .int 1])), (bv, .inl (cB, 16, .inl f_9))]) [1, 0] rfl
      have hD9 := hD.sub (ws' := [(sb, .inr (1, [.ref bv, .int 0, .int mq, .int 1])), (bv, .inl (cB, 16, .inl f_9))]) [1, 0] (by decide) rfl
      have hK9 := hK.sub (tys' := [(cB, .byte)]) [0] rfl
      exact W.aret (v := .ref sb) hx hb hr (Or.inl ⟨_, rfl⟩) (Or.inr ⟨_, rfl⟩) (fun t ht hW => ⟨⟨f_9, sb, rfl, (show fits .byte (.int (f_9 0)) = true from by rw [ef_9, show Int32.toNatClampNeg 0 = 0 from by decide, pk_us]; exact pk_fb _), ⟨rfl, by rw [ht]; exact hP9, va_K.moved hW.alike hK9, hD9⟩⟩, hS.F ht⟩) hS.2.2 dJ5_append_3fe6f_76

set_option maxHeartbeats 4000000 in
set_option maxRecDepth 100000 in
/-- J4_append_cf468 -/
theorem c_J4_append_cf468 (l : Launch) (dC : Nat → ClassId) (dI : Nat → Nat → Nat) (e0 : Nat) (aK aV : Nat → Nat) (cB : ClassId) (sb bv : Nat) (mq : Int32) (fb : Nat → Int32) (x9 : Int32) (hx9 : x9 ≤ 255) (sz : Nat) : Met l yJ4_append_cf468 wsJ4_append_cf468 ({ frames := 2, cells := 0, slots := 0, locals := 43 }) (va_Pc [.ref sb, .int x9] (cPCz (zM e0 aK aV) dC dI [(sb, .inr (1, [.ref bv, .int 0, .int mq, .int 0])), (bv, .inl (cB, 16, .inl fb))] [(cB, .byte)] sz)) (va_Qr (fun (u : Nat → Int32) => fits .byte (.int (u 0)) = true) (fun (u : Nat → Int32) (a : Nat) t => a = sb ∧ cQB dC dI [(sb, .inr (1, [.ref bv, .int 0, .int mq, .int 1])), (bv, .inl (cB, 16, .inl u))] [(cB, .byte)] (va_A [(sb, .inr (1, [.ref bv, .int 0, .int mq, .int 0])), (bv, .inl (cB, 16, .inl fb))] sz) t) (va_A [(sb, .inr (1, [.ref bv, .int 0, .int mq, .int 0])), (bv, .inl (cB, 16, .inl fb))] sz)) 0 0 (va_A [(sb, .inr (1, [.ref bv, .int 0, .int mq, .int 0])), (bv, .inl (cB, 16, .inl fb))] sz) := by
  refine Met.ofW (cc := cJ4_append_cf468) (maxL := 2) (ret := (some (.object "java/lang/StringBuilder"))) (by decide) rfl ?_
  intro p e s m args below meth c s₁ B hml hv
  obtain ⟨rfl, ⟨hsz, hP, hK, hD0, hN⟩, hZ⟩ := hv
  have hx := B.exec
  have hb := B.bytes
  have hr := B.returns
  have hts := atoms_spec (ws := wsJ4_append_cf468) B.pre
  have hown : s.vm.findClass RJ4 = some m.cls := findClass_of_methodNamed B.named
  have hlocks := B.notSynchronized
  subst hsz
  have hD := hD0.self (sz := s.heap.size)
  generalize hAe : va_A [(sb, .inr (1, [.ref bv, .int 0, .int mq, .int 0])), (bv, .inl (cB, 16, .inl fb))] s.heap.size = A at hD hZ ⊢
  have hA : ∀ q : Nat, s.heap.size ≤ q → A q := fun q h => by rw [← hAe]; exact Or.inr h
  have hS : va_S A s.heap s.heap [] := va_S.rf
  have hP : va_P (dC, dI) vwCl [(sb, .inr (1, [.ref bv, .int 0, .int mq, .int 0])), (bv, .inl (cB, 16, .inl fb))] s.heap := hP
  have hD : va_D A [(sb, .inr (1, [.ref bv, .int 0, .int mq, .int 0])), (bv, .inl (cB, 16, .inl fb))] := hD
  have hl := lv_entry ([.ref sb, .int x9]) (n := 2) (Nat.le_of_ble_eq_true rfl)
  rw [lg_entry_eq]
  generalize (lg_sl ([.ref sb, .int x9]) ++ List.replicate (2 - (lg_sl ([.ref sb, .int x9])).length) Slot.unset).toArray = ls at hl ⊢
  have hl : lv_has ls 2 [(0, .ref sb), (1, .int x9)] := hl
  have iWJ4 : ∀ w ∈ u_ws RJ4 TJ4 4, w ∈ wsJ4_append_cf468 := by decide +kernel
  refine lv_aload_n hx hb dJ4_append_cf468_0 rfl (lv_at hl 0 rfl) ?_
  refine lv_iload_n hx hb dJ4_append_cf468_1 rfl (lv_at hl 1 rfl) ?_
  have hPc := hP.sub (ws' := [(sb, .inr (1, [.ref bv, .int 0, .int mq, .int 0])), (bv, .inl (cB, 16, .inl fb))]) [0, 1] rfl
  have hDc := hD.sub (ws' := [(sb, .inr (1, [.ref bv, .int 0, .int mq, .int 0])), (bv, .inl (cB, 16, .inl fb))]) [0, 1] (by decide) rfl
  have hKc := hK.sub (tys' := [(cB, .byte)]) [0] rfl
  have hFc := va_free (wc := [(sb, .inr (1, [.ref bv, .int 0, .int mq, .int 0])), (bv, .inl (cB, 16, .inl fb))]) hD hS hA [0, 1] rfl
  refine va_callr (va_runSU (As := [.int x9]) (rest := []) (hK.1 1 _ rfl).2 ⟨hx, hb, hml, hown, hts⟩ (c_J5_append_3fe6f l dC dI e0 aK aV cB sb bv mq fb x9 hx9 s.heap.size) (va_cwSU 1 hts gJ4_append_cf468_J5_append_3fe6f_s50 rfl rfl rfl (by decide +kernel) ⟨Nat.le_of_ble_eq_true rfl, Nat.le_of_ble_eq_true rfl⟩) (pcVz (zM_ok e0 aK aV) hPc hDc hKc hN hZ hS hFc (ci := 1) (q0 := 0) rfl rfl) rfl rfl hl.1 rfl (lv_room (Nat.le_of_ble_eq_true rfl)) dJ4_append_cf468_2 ⟨Nat.le_of_ble_eq_true rfl, Nat.le_of_ble_eq_true rfl⟩) hS (fun q _ h => hFc q h) hFc (fun u r_2 t H1 locs ht hvm hw_3 hB hz1 hk1 hS => ?_)
  obtain ⟨ha9, hP1, hK1, hD1⟩ := hB
  rw [ht] at hP1
  try dsimp only at hw_3
  obtain ⟨hP, hD⟩ := va_join (wr := []) (w1 := [(sb, .inr (1, [.ref bv, .int 0, .int mq, .int 1])), (bv, .inl (cB, 16, .inl u))]) hP hD [0, 1] [] rfl rfl (by decide) (by decide) hk1 hFc hP1 hD1
  generalize H1 = H at hP hS ⊢
  have hP : va_P (dC, dI) vwCl [(sb, .inr (1, [.ref bv, .int 0, .int mq, .int 1])), (bv, .inl (cB, 16, .inl u))] H := hP
  have hD : va_D A [(sb, .inr (1, [.ref bv, .int 0, .int mq, .int 1])), (bv, .inl (cB, 16, .inl u))] := hD
  rw [ha9]
  obtain ⟨f_1, ef_1⟩ : ∃ z, z = u := ⟨_, rfl⟩
  subst ef_1
  refine lv_pop hx hb dJ4_append_cf468_5 rfl ?_
  refine lv_aload_n hx hb dJ4_append_cf468_6 rfl (lv_at hl 0 rfl) ?_
  have hP9 := hP.sub (ws' := [(sb, .inr (1, [.ref bv, .int 0, .int mq, .int 1])), (bv, .inl (cB, 16, .inl f_1))]) [0, 1] rfl
  have hD9 := hD.sub (ws' := [(sb, .inr (1, [.ref bv, .int 0, .int mq, .int 1])), (bv, .inl (cB, 16, .inl f_1))]) [0, 1] (by decide) rfl
  have hK9 := hK.sub (tys' := [(cB, .byte)]) [0] rfl
  exact W.aret (v := .ref sb) hx hb hr (Or.inl ⟨_, rfl⟩) (Or.inr ⟨_, rfl⟩) (fun t ht hW => ⟨⟨f_1, sb, rfl, hw_3, ⟨rfl, by rw [ht]; exact hP9, va_K.moved hW.alike hK9, hD9⟩⟩, hS.F ht⟩) hS.2.2 dJ4_append_cf468_7
