theorem dJ5_getValue_6d5f1_0 : decode cJ5_getValue_6d5f1 0 = .ok (.aload_n 0, 1) := by decide +kernel
theorem dJ5_getValue_6d5f1_1 : decode cJ5_getValue_6d5f1 1 = .ok (.getfield 15, 3) := by decide +kernel
theorem dJ5_getValue_6d5f1_4 : decode cJ5_getValue_6d5f1 4 = .ok (.areturn, 1) := by decide +kernel
theorem dJ5_length_8abf5_0 : decode cJ5_length_8abf5 0 = .ok (.aload_n 0, 1) := by decide +kernel
theorem dJ5_length_8abf5_1 : decode cJ5_length_8abf5 1 = .ok (.getfield 79, 3) := by decide +kernel
theorem dJ5_length_8abf5_4 : decode cJ5_length_8abf5 4 = .ok (.ireturn, 1) := by decide +kernel
theorem dJ4_length_8abf5_0 : decode cJ4_length_8abf5 0 = .ok (.aload_n 0, 1) := by decide +kernel
set_option maxRecDepth 20000 in
theorem ggJ4_length_8abf5_J5_length_8abf5 : GoodIn wsJ4_length_8abf5 wsJ5_length_8abf5 := goodIn_r _ [6, 7, 8, 9, 10, 11] rfl (by decide +kernel)
set_option maxRecDepth 20000 in
theorem gJ4_length_8abf5_J5_length_8abf5_s343 : GoodIn wsJ4_length_8abf5 (va_wsSU RJ4 343 yJ5_length_8abf5 wsJ5_length_8abf5) := goodIn_app (goodIn_of _ (by decide +kernel)) ggJ4_length_8abf5_J5_length_8abf5
theorem dJ4_length_8abf5_1 : decode cJ4_length_8abf5 1 = .ok (.invokespecial 343, 3) := by decide +kernel
theorem dJ4_length_8abf5_4 : decode cJ4_length_8abf5 4 = .ok (.ireturn, 1) := by decide +kernel
theorem dJ7_checkLength_df160_0 : decode cJ7_checkLength_df160 0 = .ok (.iload_n 1, 1) := by decide +kernel
theorem dJ7_checkLength_df160_1 : decode cJ7_checkLength_df160 1 = .ok (.iload_n 0, 1) := by decide +kernel
theorem dJ7_checkLength_df160_2 : decode cJ7_checkLength_df160 2 = .ok (.if_icmp .ge 35, 3) := by decide +kernel
theorem dJ7_checkLength_df160_37 : decode cJ7_checkLength_df160 37 = .ok (.return_, 1) := by decide +kernel
theorem dJ7_copyOfRangeByte_39247_0 : decode cJ7_copyOfRangeByte_39247 0 = .ok (.iload_n 1, 1) := by decide +kernel
theorem dJ7_copyOfRangeByte_39247_1 : decode cJ7_copyOfRangeByte_39247 1 = .ok (.iload_n 2, 1) := by decide +kernel
set_option maxRecDepth 20000 in
theorem ggJ7_copyOfRangeByte_39247_J7_checkLength_df160 : GoodIn wsJ7_copyOfRangeByte_39247 wsJ7_checkLength_df160 := goodIn_r _ [13, 14, 15, 16, 17, 18, 19, 20] rfl (by decide +kernel)
set_option maxRecDepth 20000 in
theorem gJ7_copyOfRangeByte_39247_J7_checkLength_df160 : GoodIn wsJ7_copyOfRangeByte_39247 (va_wsS RJ7 343 yJ7_checkLength_df160 wsJ7_checkLength_df160) := goodIn_app (goodIn_of _ (by decide +kernel)) ggJ7_copyOfRangeByte_39247_J7_checkLength_df160
theorem dJ7_copyOfRangeByte_39247_2 : decode cJ7_copyOfRangeByte_39247 2 = .ok (.invokestatic 343, 3) := by decide +kernel
theorem dJ7_copyOfRangeByte_39247_5 : decode cJ7_copyOfRangeByte_39247 5 = .ok (.iload_n 2, 1) := by decide +kernel
theorem dJ7_copyOfRangeByte_39247_6 : decode cJ7_copyOfRangeByte_39247 6 = .ok (.iload_n 1, 1) := by decide +kernel
theorem dJ7_copyOfRangeByte_39247_7 : decode cJ7_copyOfRangeByte_39247 7 = .ok (.isub, 1) := by decide +kernel
theorem dJ7_copyOfRangeByte_39247_8 : decode cJ7_copyOfRangeByte_39247 8 = .ok (.istore_n 3, 1) := by decide +kernel
theorem dJ7_copyOfRangeByte_39247_9 : decode cJ7_copyOfRangeByte_39247 9 = .ok (.iload_n 3, 1) := by decide +kernel
theorem dJ7_copyOfRangeByte_39247_10 : decode cJ7_copyOfRangeByte_39247 10 = .ok (.newarray .byte, 2) := by decide +kernel
theorem dJ7_copyOfRangeByte_39247_12 : decode cJ7_copyOfRangeByte_39247 12 = .ok (.astore 4, 2) := by decide +kernel
theorem dJ7_copyOfRangeByte_39247_14 : decode cJ7_copyOfRangeByte_39247 14 = .ok (.aload_n 0, 1) := by decide +kernel
theorem dJ7_copyOfRangeByte_39247_15 : decode cJ7_copyOfRangeByte_39247 15 = .ok (.iload_n 1, 1) := by decide +kernel
theorem dJ7_copyOfRangeByte_39247_16 : decode cJ7_copyOfRangeByte_39247 16 = .ok (.aload 4, 2) := by decide +kernel
theorem dJ7_copyOfRangeByte_39247_18 : decode cJ7_copyOfRangeByte_39247 18 = .ok (.iconst 0, 1) := by decide +kernel
theorem dJ7_copyOfRangeByte_39247_19 : decode cJ7_copyOfRangeByte_39247 19 = .ok (.aload_n 0, 1) := by decide +kernel
theorem dJ7_copyOfRangeByte_39247_20 : decode cJ7_copyOfRangeByte_39247 20 = .ok (.arraylength, 1) := by decide +kernel
theorem dJ7_copyOfRangeByte_39247_21 : decode cJ7_copyOfRangeByte_39247 21 = .ok (.iload_n 1, 1) := by decide +kernel
theorem dJ7_copyOfRangeByte_39247_22 : decode cJ7_copyOfRangeByte_39247 22 = .ok (.isub, 1) := by decide +kernel
theorem dJ7_copyOfRangeByte_39247_23 : decode cJ7_copyOfRangeByte_39247 23 = .ok (.iload_n 3, 1) := by decide +kernel
theorem dJ7_copyOfRangeByte_39247_24 : decode cJ7_copyOfRangeByte_39247 24 = .ok (.invokestatic 304, 3) := by decide +kernel
theorem dJ7_copyOfRangeByte_39247_27 : decode cJ7_copyOfRangeByte_39247 27 = .ok (.invokestatic 150, 3) := by decide +kernel
theorem dJ7_copyOfRangeByte_39247_30 : decode cJ7_copyOfRangeByte_39247 30 = .ok (.aload 4, 2) := by decide +kernel
theorem dJ7_copyOfRangeByte_39247_32 : decode cJ7_copyOfRangeByte_39247 32 = .ok (.areturn, 1) := by decide +kernel
theorem dJ7_copyOfRange_39247_0 : decode cJ7_copyOfRange_39247 0 = .ok (.iload_n 1, 1) := by decide +kernel
theorem dJ7_copyOfRange_39247_1 : decode cJ7_copyOfRange_39247 1 = .ok (.ifCond .ne 9, 3) := by decide +kernel
theorem dJ7_copyOfRange_39247_4 : decode cJ7_copyOfRange_39247 4 = .ok (.iload_n 2, 1) := by decide +kernel
theorem dJ7_copyOfRange_39247_5 : decode cJ7_copyOfRange_39247 5 = .ok (.aload_n 0, 1) := by decide +kernel
theorem dJ7_copyOfRange_39247_6 : decode cJ7_copyOfRange_39247 6 = .ok (.arraylength, 1) := by decide +kernel
theorem dJ7_copyOfRange_39247_7 : decode cJ7_copyOfRange_39247 7 = .ok (.if_icmp .eq 10, 3) := by decide +kernel
theorem dJ7_copyOfRange_39247_10 : decode cJ7_copyOfRange_39247 10 = .ok (.aload_n 0, 1) := by decide +kernel
theorem dJ7_copyOfRange_39247_11 : decode cJ7_copyOfRange_39247 11 = .ok (.iload_n 1, 1) := by decide +kernel
theorem dJ7_copyOfRange_39247_12 : decode cJ7_copyOfRange_39247 12 = .ok (.iload_n 2, 1) := by decide +kernel
set_option maxRecDepth 20000 in
theorem ggJ7_copyOfRange_39247_J7_copyOfRangeByte_39247 : GoodIn wsJ7_copyOfRange_39247 wsJ7_copyOfRangeByte_39247 := goodIn_r _ [10, 11, 12, 13, 14, 15, 16, 17, 18, 19, 20, 21, 9, 22, 23, 24, 25, 26, 27, 28, 29] rfl (by decide +kernel)
set_option maxRecDepth 20000 in
theorem gJ7_copyOfRange_39247_J7_copyOfRangeByte_39247 : GoodIn wsJ7_copyOfRange_39247 (va_wsS RJ7 339 yJ7_copyOfRangeByte_39247 wsJ7_copyOfRangeByte_39247) := goodIn_app (goodIn_of _ (by decide +kernel)) ggJ7_copyOfRange_39247_J7_copyOfRangeByte_39247
theorem dJ7_copyOfRange_39247_13 : decode cJ7_copyOfRange_39247 13 = .ok (.invokestatic 339, 3) := by decide +kernel
theorem dJ7_copyOfRange_39247_16 : decode cJ7_copyOfRange_39247 16 = .ok (.areturn, 1) := by decide +kernel
theorem dJ0_init_db425_0 : decode cJ0_init_db425 0 = .ok (.aload_n 0, 1) := by decide +kernel
theorem dJ0_init_db425_1 : decode cJ0_init_db425 1 = .ok (.invokespecial 1, 3) := by decide +kernel
theorem dJ0_init_db425_4 : decode cJ0_init_db425 4 = .ok (.aload_n 1, 1) := by decide +kernel
set_option maxRecDepth 20000 in
theorem ggJ0_init_db425_J5_getValue_6d5f1 : GoodIn wsJ0_init_db425 wsJ5_getValue_6d5f1 := goodIn_r _ [13, 14, 101, 102, 103, 104] rfl (by decide +kernel)
set_option maxRecDepth 20000 in
theorem gJ0_init_db425_J5_getValue_6d5f1_u552J4 : GoodIn wsJ0_init_db425 (va_wsU RJ0 552 RJ4 "java/lang/AbstractStringBuilder" ⟨"java/lang/AbstractStringBuilder", "getValue", "()[B"⟩ yJ5_getValue_6d5f1 wsJ5_getValue_6d5f1) := goodIn_app (goodIn_of _ (by decide +kernel)) ggJ0_init_db425_J5_getValue_6d5f1
theorem dJ0_init_db425_5 : decode cJ0_init_db425 5 = .ok (.invokevirtual 552, 3) := by decide +kernel
theorem dJ0_init_db425_8 : decode cJ0_init_db425 8 = .ok (.astore_n 3, 1) := by decide +kernel
theorem dJ0_init_db425_9 : decode cJ0_init_db425 9 = .ok (.aload_n 1, 1) := by decide +kernel
set_option maxRecDepth 20000 in
theorem ggJ0_init_db425_J4_length_8abf5 : GoodIn wsJ0_init_db425 wsJ4_length_8abf5 := goodIn_r _ [21, 22, 16, 23, 24, 12, 25, 26, 101, 102, 103, 104] rfl (by decide +kernel)
set_option maxRecDepth 20000 in
theorem gJ0_init_db425_J4_length_8abf5_u549J4 : GoodIn wsJ0_init_db425 (va_wsO RJ0 549 RJ4 "java/lang/AbstractStringBuilder" ⟨"java/lang/AbstractStringBuilder", "length", "()I"⟩ yJ4_length_8abf5 wsJ4_length_8abf5) := goodIn_app (goodIn_of _ (by decide +kernel)) ggJ0_init_db425_J4_length_8abf5
theorem dJ0_init_db425_10 : decode cJ0_init_db425 10 = .ok (.invokevirtual 549, 3) := by decide +kernel
theorem dJ0_init_db425_13 : decode cJ0_init_db425 13 = .ok (.istore 4, 2) := by decide +kernel
theorem dJ0_init_db425_15 : decode cJ0_init_db425 15 = .ok (.aload_n 1, 1) := by decide +kernel
set_option maxRecDepth 20000 in
theorem ggJ0_init_db425_J5_isLatin1_aae02 : GoodIn wsJ0_init_db425 wsJ5_isLatin1_aae02 := goodIn_r _ [31, 32, 33, 101, 102, 103, 104] rfl (by decide +kernel)
set_option maxRecDepth 20000 in
theorem gJ0_init_db425_J5_isLatin1_aae02_u1047J4 : GoodIn wsJ0_init_db425 (va_wsU RJ0 1047 RJ4 "java/lang/AbstractStringBuilder" ⟨"java/lang/AbstractStringBuilder", "isLatin1", "()Z"⟩ yJ5_isLatin1_aae02 wsJ5_isLatin1_aae02) := goodIn_app (goodIn_of _ (by decide +kernel)) ggJ0_init_db425_J5_isLatin1_aae02
theorem dJ0_init_db425_16 : decode cJ0_init_db425 16 = .ok (.invokevirtual 1047, 3) := by decide +kernel
theorem dJ0_init_db425_19 : decode cJ0_init_db425 19 = .ok (.ifCond .eq 22, 3) := by decide +kernel
theorem dJ0_init_db425_22 : decode cJ0_init_db425 22 = .ok (.aload_n 0, 1) := by decide +kernel
theorem dJ0_init_db425_23 : decode cJ0_init_db425 23 = .ok (.iconst 0, 1) := by decide +kernel
theorem dJ0_init_db425_24 : decode cJ0_init_db425 24 = .ok (.putfield 15, 3) := by decide +kernel
theorem dJ0_init_db425_27 : decode cJ0_init_db425 27 = .ok (.aload_n 0, 1) := by decide +kernel
theorem dJ0_init_db425_28 : decode cJ0_init_db425 28 = .ok (.aload_n 3, 1) := by decide +kernel
theorem dJ0_init_db425_29 : decode cJ0_init_db425 29 = .ok (.iconst 0, 1) := by decide +kernel
theorem dJ0_init_db425_30 : decode cJ0_init_db425 30 = .ok (.iload 4, 2) := by decide +kernel
set_option maxRecDepth 20000 in
theorem ggJ0_init_db425_J7_copyOfRange_39247 : GoodIn wsJ0_init_db425 wsJ7_copyOfRange_39247 := goodIn_r _ [37, 38, 39, 40, 41, 42, 43, 44, 45, 36, 46, 47, 48, 49, 50, 51, 52, 53, 54, 55, 56, 57, 58, 59, 60, 20, 101, 102, 103, 104] rfl (by decide +kernel)
set_option maxRecDepth 20000 in
theorem gJ0_init_db425_J7_copyOfRange_39247 : GoodIn wsJ0_init_db425 (va_wsS RJ0 54 yJ7_copyOfRange_39247 wsJ7_copyOfRange_39247) := goodIn_app (goodIn_of _ (by decide +kernel)) ggJ0_init_db425_J7_copyOfRange_39247
theorem dJ0_init_db425_32 : decode cJ0_init_db425 32 = .ok (.invokestatic 54, 3) := by decide +kernel
theorem dJ0_init_db425_35 : decode cJ0_init_db425 35 = .ok (.putfield 9, 3) := by decide +kernel
theorem dJ0_init_db425_38 : decode cJ0_init_db425 38 = .ok (.goto 59, 3) := by decide +kernel
theorem dJ0_init_db425_97 : decode cJ0_init_db425 97 = .ok (.return_, 1) := by decide +kernel
theorem dJ0_init_81219_0 : decode cJ0_init_81219 0 = .ok (.aload_n 0, 1) := by decide +kernel
theorem dJ0_init_81219_1 : decode cJ0_init_81219 1 = .ok (.aload_n 1, 1) := by decide +kernel
theorem dJ0_init_81219_2 : decode cJ0_init_81219 2 = .ok (.aconst_null, 1) := by decide +kernel
set_option maxRecDepth 20000 in
theorem ggJ0_init_81219_J0_init_db425 : GoodIn wsJ0_init_81219 wsJ0_init_db425 := goodIn_r _ [4, 5, 6, 7, 8, 9, 10, 11, 12, 13, 14, 15, 16, 17, 18, 19, 20, 21, 22, 23, 24, 25, 26, 27, 28, 29, 30, 31, 32, 33, 34, 35, 36, 37, 38, 39, 40, 41, 42, 43, 44, 45, 46, 47, 48, 49, 50, 51, 52, 53, 54, 55, 56, 57, 58, 59, 60, 61, 62, 63, 64, 65, 66, 67, 68, 69, 70, 71, 72, 73, 74, 75, 76, 77, 78, 79, 3, 80, 81, 82, 83, 84, 85, 86, 87, 88, 89, 90, 91, 92, 93, 94, 95, 96, 97, 98, 99, 100, 101, 102, 103, 104, 105, 106, 107] rfl (by decide +kernel)
set_option maxRecDepth 20000 in
theorem gJ0_init_81219_J0_init_db425 : GoodIn wsJ0_init_81219 (wsJ0_init_db425) := ggJ0_init_81219_J0_init_db425
theorem dJ0_init_81219_3 : decode cJ0_init_81219 3 = .ok (.invokespecial 489, 3) := by decide +kernel
theorem dJ0_init_81219_6 : decode cJ0_init_81219 6 = .ok (.return_, 1) := by decide +kernel
theorem dJ4_toString_0e30d_0 : decode cJ4_toString_0e30d 0 = .ok (.new 18, 3) := by decide +kernel
theorem dJ4_toString_0e30d_3 : decode cJ4_toString_0e30d 3 = .ok (.dup, 1) := by decide +kernel
theorem dJ4_toString_0e30d_4 : decode cJ4_toString_0e30d 4 = .ok (.aload_n 0, 1) := by decide +kernel
set_option maxRecDepth 20000 in
theorem ggJ4_toString_0e30d_J0_init_81219 : GoodIn wsJ4_toString_0e30d wsJ0_init_81219 := goodIn_r _ [6, 7, 8, 3, 9, 10, 11, 12, 13, 14, 15, 16, 17, 18, 19, 20, 21, 22, 23, 24, 25, 26, 27, 28, 29, 30, 31, 32, 33, 34, 35, 36, 37, 38, 39, 40, 41, 42, 43, 44, 45, 46, 47, 48, 49, 50, 51, 52, 53, 54, 55, 56, 57, 58, 59, 60, 61, 62, 63, 64, 65, 66, 67, 68, 69, 70, 71, 72, 73, 74, 75, 76, 77, 78, 79, 80, 81, 82, 83, 84, 85, 86, 87, 88, 89, 90, 91, 92, 93, 94, 95, 96, 97, 98, 99, 100, 101, 102, 103, 104, 105, 106, 107, 108, 109, 110, 111, 112] rfl (by decide +kernel)
set_option maxRecDepth 20000 in
theorem gJ4_toString_0e30d_J0_init_81219 : GoodIn wsJ4_toString_0e30d (wsJ0_init_81219) := ggJ4_toString_0e30d_J0_init_81219
theorem dJ4_toString_0e30d_5 : decode cJ4_toString_0e30d 5 = .ok (.invokespecial 137, 3) := by decide +kernel
theorem dJ4_toString_0e30d_8 : decode cJ4_toString_0e30d 8 = .ok (.areturn, 1) := by decide +kernel
theorem dJ4_append_cf1ce_0 : decode cJ4_append_cf1ce 0 = .ok (.aload_n 0, 1) := by decide +kernel
theorem dJ4_append_cf1ce_1 : decode cJ4_append_cf1ce 1 = .ok (.aload_n 1, 1) := by decide +kernel
set_option maxRecDepth 20000 in
theorem ggJ4_append_cf1ce_J4_append_15ec4 : GoodIn wsJ4_append_cf1ce wsJ4_append_15ec4 := goodIn_r _ [5, 6, 7, 8, 9, 10, 11, 12, 13, 14, 15, 16, 17, 18, 19, 20, 21, 22, 23, 24, 25, 26, 27, 28, 29, 30, 31, 32, 33, 34, 35, 36, 37, 38, 39, 40, 41, 42, 43, 44, 45, 46, 47, 48, 49, 50, 51, 52, 53, 54, 55, 56, 57, 58, 59, 60, 61, 62, 63, 64, 65, 66, 67, 68, 69, 70, 71, 72, 73, 74, 75, 76, 77, 78, 79, 80, 81, 82, 83, 84, 85, 86, 87, 88, 89, 90, 91, 92, 93, 94, 95, 96, 97, 98, 99, 100, 101, 102, 103, 104, 105, 106, 107, 108, 109, 110, 111, 112, 113, 114, 115, 116, 117, 118, 119, 120, 121, 122, 123, 124, 125, 126, 127, 128, 129, 130, 131, 132, 133, 134, 135, 136, 137, 138, 139, 140, 141, 142, 143, 144, 145, 146, 147, 148, 149, 150, 151, 152, 153, 154, 155] rfl (by decide +kernel)
set_option maxRecDepth 20000 in
theorem gJ4_append_cf1ce_J4_append_15ec4 : GoodIn wsJ4_append_cf1ce (wsV RJ4 23 RJ4 yJ4_append_15ec4 wsJ4_append_15ec4) := goodIn_app (goodIn_of _ (by decide +kernel)) ggJ4_append_cf1ce_J4_append_15ec4
theorem dJ4_append_cf1ce_2 : decode cJ4_append_cf1ce 2 = .ok (.invokevirtual 23, 3) := by decide +kernel
theorem dJ4_append_cf1ce_5 : decode cJ4_append_cf1ce 5 = .ok (.areturn, 1) := by decide +kernel
theorem dJ5_init_a7421_0 : decode cJ5_init_a7421 0 = .ok (.aload_n 0, 1) := by decide +kernel
theorem dJ5_init_a7421_1 : decode cJ5_init_a7421 1 = .ok (.invokespecial 3, 3) := by decide +kernel
theorem dJ5_init_a7421_4 : decode cJ5_init_a7421 4 = .ok (.aload_n 1, 1) := by decide +kernel
set_option maxRecDepth 20000 in
theorem ggJ5_init_a7421_J0_length_8abf5 : GoodIn wsJ5_init_a7421 wsJ0_length_8abf5 := goodIn_r _ [13, 14, 15, 16, 17, 12, 18, 19, 20, 161, 162, 163, 164] rfl (by decide +kernel)
set_option maxRecDepth 20000 in
theorem gJ5_init_a7421_J0_length_8abf5 : GoodIn wsJ5_init_a7421 (wsV RJ5 32 RJ0 yJ0_length_8abf5 wsJ0_length_8abf5) := goodIn_app (goodIn_of _ (by decide +kernel)) ggJ5_init_a7421_J0_length_8abf5
theorem dJ5_init_a7421_5 : decode cJ5_init_a7421 5 = .ok (.invokevirtual 32, 3) := by decide +kernel
theorem dJ5_init_a7421_8 : decode cJ5_init_a7421 8 = .ok (.istore_n 2, 1) := by decide +kernel
theorem dJ5_init_a7421_9 : decode cJ5_init_a7421 9 = .ok (.iload_n 2, 1) := by decide +kernel
theorem dJ5_init_a7421_10 : decode cJ5_init_a7421 10 = .ok (.ldc 38, 2) := by decide +kernel
theorem dJ5_init_a7421_12 : decode cJ5_init_a7421 12 = .ok (.if_icmp .ge 10, 3) := by decide +kernel
theorem dJ5_init_a7421_15 : decode cJ5_init_a7421 15 = .ok (.iload_n 2, 1) := by decide +kernel
theorem dJ5_init_a7421_16 : decode cJ5_init_a7421 16 = .ok (.bipush 16, 2) := by decide +kernel
theorem dJ5_init_a7421_18 : decode cJ5_init_a7421 18 = .ok (.iadd, 1) := by decide +kernel
theorem dJ5_init_a7421_19 : decode cJ5_init_a7421 19 = .ok (.goto 5, 3) := by decide +kernel
theorem dJ5_init_a7421_24 : decode cJ5_init_a7421 24 = .ok (.istore_n 3, 1) := by decide +kernel
theorem dJ5_init_a7421_25 : decode cJ5_init_a7421 25 = .ok (.aload_n 1, 1) := by decide +kernel
set_option maxRecDepth 20000 in
theorem ggJ5_init_a7421_J0_coder_7d493 : GoodIn wsJ5_init_a7421 wsJ0_coder_7d493 := goodIn_r _ [18, 19, 20, 161, 162, 163, 164] rfl (by decide +kernel)
set_option maxRecDepth 20000 in
theorem gJ5_init_a7421_J0_coder_7d493 : GoodIn wsJ5_init_a7421 (wsV RJ5 40 RJ0 yJ0_coder_7d493 wsJ0_coder_7d493) := goodIn_app (goodIn_of _ (by decide +kernel)) ggJ5_init_a7421_J0_coder_7d493
theorem dJ5_init_a7421_26 : decode cJ5_init_a7421 26 = .ok (.invokevirtual 40, 3) := by decide +kernel
theorem dJ5_init_a7421_29 : decode cJ5_init_a7421 29 = .ok (.istore 4, 2) := by decide +kernel
theorem dJ5_init_a7421_31 : decode cJ5_init_a7421 31 = .ok (.aload_n 0, 1) := by decide +kernel
theorem dJ5_init_a7421_32 : decode cJ5_init_a7421 32 = .ok (.iload 4, 2) := by decide +kernel
theorem dJ5_init_a7421_34 : decode cJ5_init_a7421 34 = .ok (.putfield 22, 3) := by decide +kernel
theorem dJ5_init_a7421_37 : decode cJ5_init_a7421 37 = .ok (.aload_n 0, 1) := by decide +kernel
theorem dJ5_init_a7421_38 : decode cJ5_init_a7421 38 = .ok (.iload 4, 2) := by decide +kernel
theorem dJ5_init_a7421_40 : decode cJ5_init_a7421 40 = .ok (.ifCond .ne 9, 3) := by decide +kernel
theorem dJ5_init_a7421_43 : decode cJ5_init_a7421 43 = .ok (.iload_n 3, 1) := by decide +kernel
theorem dJ5_init_a7421_44 : decode cJ5_init_a7421 44 = .ok (.newarray .byte, 2) := by decide +kernel
theorem dJ5_init_a7421_46 : decode cJ5_init_a7421 46 = .ok (.goto 7, 3) := by decide +kernel
theorem dJ5_init_a7421_53 : decode cJ5_init_a7421 53 = .ok (.putfield 15, 3) := by decide +kernel
theorem dJ5_init_a7421_56 : decode cJ5_init_a7421 56 = .ok (.aload_n 0, 1) := by decide +kernel
theorem dJ5_init_a7421_57 : decode cJ5_init_a7421 57 = .ok (.aload_n 1, 1) := by decide +kernel
set_option maxRecDepth 20000 in
theorem ggJ5_init_a7421_J4_append_cf1ce : GoodIn wsJ5_init_a7421 wsJ4_append_cf1ce := goodIn_r _ [36, 37, 38, 39, 35, 40, 41, 31, 42, 43, 44, 45, 46, 47, 48, 49, 50, 51, 8, 52, 53, 54, 55, 56, 6, 57, 58, 59, 60, 61, 5, 62, 63, 64, 65, 66, 67, 68, 69, 70, 71, 72, 73, 74, 75, 76, 77, 78, 79, 80, 81, 82, 83, 7, 84, 85, 86, 87, 88, 89, 90, 91, 92, 93, 94, 95, 96, 97, 98, 24, 99, 100, 101, 102, 103, 104, 105, 106, 107, 108, 12, 109, 110, 111, 112, 113, 114, 115, 116, 117, 118, 119, 9, 10, 11, 13, 14, 15, 16, 17, 18, 19, 20, 120, 121, 122, 123, 124, 125, 126, 127, 128, 129, 21, 130, 131, 132, 133, 134, 22, 23, 25, 26, 27, 28, 29, 135, 136, 137, 138, 139, 140, 141, 142, 143, 144, 145, 146, 147, 148, 149, 150, 151, 152, 153, 154, 155, 156, 157, 158, 159, 160, 161, 162, 163, 164] rfl (by decide +kernel)
set_option maxRecDepth 20000 in
theorem gJ5_init_a7421_J4_append_cf1ce_u43J4 : GoodIn wsJ5_init_a7421 (va_wsO RJ5 43 RJ4 "java/lang/AbstractStringBuilder" ⟨"java/lang/AbstractStringBuilder", "append", "(Ljava/lang/String;)Ljava/lang/AbstractStringBuilder;"⟩ yJ4_append_cf1ce wsJ4_append_cf1ce) := goodIn_app (goodIn_of _ (by decide +kernel)) ggJ5_init_a7421_J4_append_cf1ce
theorem dJ5_init_a7421_58 : decode cJ5_init_a7421 58 = .ok (.invokevirtual 43, 3) := by decide +kernel
theorem dJ5_init_a7421_61 : decode cJ5_init_a7421 61 = .ok (.pop, 1) := by decide +kernel
theorem dJ5_init_a7421_62 : decode cJ5_init_a7421 62 = .ok (.return_, 1) := by decide +kernel
theorem dJ4_init_a7421_0 : decode cJ4_init_a7421 0 = .ok (.aload_n 0, 1) := by decide +kernel
theorem dJ4_init_a7421_1 : decode cJ4_init_a7421 1 = .ok (.aload_n 1, 1) := by decide +kernel
set_option maxRecDepth 20000 in
theorem ggJ4_init_a7421_J5_init_a7421 : GoodIn wsJ4_init_a7421 wsJ5_init_a7421 := goodIn_r _ [4, 5, 6, 7, 8, 9, 10, 11, 12, 13, 14, 15, 16, 17, 18, 19, 20, 21, 22, 23, 24, 25, 26, 27, 28, 29, 30, 31, 32, 33, 34, 35, 36, 37, 38, 39, 40, 41, 42, 43, 44, 45, 46, 47, 3, 48, 49, 50, 51, 52, 53, 54, 55, 56, 57, 58, 59, 60, 61, 62, 63, 64, 65, 66, 67, 68, 69, 70, 71, 72, 73, 74, 75, 76, 77, 78, 79, 80, 81, 82, 83, 84, 85, 86, 87, 88, 89, 90, 91, 92, 93, 94, 95, 96, 97, 98, 99, 100, 101, 102, 103, 104, 105, 106, 107, 108, 109, 110, 111, 112, 113, 114, 115, 116, 117, 118, 119, 120, 121, 122, 123, 124, 125, 126, 127, 128, 129, 130, 131, 132, 133, 134, 135, 136, 137, 138, 139, 140, 141, 142, 143, 144, 145, 146, 147, 148, 149, 150, 151, 152, 153, 154, 155, 156, 157, 158, 159, 160, 161, 162, 163, 164, 165, 166, 167] rfl (by decide +kernel)
set_option maxRecDepth 20000 in
theorem gJ4_init_a7421_J5_init_a7421 : GoodIn wsJ4_init_a7421 (wsJ5_init_a7421) := ggJ4_init_a7421_J5_init_a7421
theorem dJ4_init_a7421_2 : decode cJ4_init_a7421 2 = .ok (.invokespecial 7, 3) := by decide +kernel
theorem dJ4_init_a7421_5 : decode cJ4_init_a7421 5 = .ok (.return_, 1) := by decide +kernel
set_option maxHeartbeats 4000000 in
set_option maxRecDepth 100000 in
/-- J5_getValue_6d5f1 -/
theorem c_J5_getValue_6d5f1 (l : Launch) (dC : Nat → ClassId) (dI : Nat → Nat → Nat) (cB : ClassId) (sb bv : Nat) (mq cn : Int32) (sz : Nat) : Met l yJ5_getValue_6d5f1 wsJ5_getValue_6d5f1 ({ frames := 0, cells := 0, slots := 0, locals := 0 }) (va_Pc [.ref sb] (cPC dC dI [(sb, .inr (1, [.ref bv, .int 0, .int mq, .int cn]))] [] sz)) (va_Qr (fun (u : Unit) => True) (fun (u : Unit) (a : Nat) t => a = bv ∧ cQB dC dI [(sb, .inr (1, [.ref bv, .int 0, .int mq, .int cn]))] [] (va_A [(sb, .inr (1, [.ref bv, .int 0, .int mq, .int cn]))] sz) t) (va_A [(sb, .inr (1, [.ref bv, .int 0, .int mq, .int cn]))] sz)) 0 0 (va_A [(sb, .inr (1, [.ref bv, .int 0, .int mq, .int cn]))] sz) := by
  refine Met.ofW (cc := cJ5_getValue_6d5f1) (maxL := 1) (ret := (some (.array .byte))) (by decide) rfl ?_
  intro p e s m args below meth c s₁ B hml hv
  obtain ⟨rfl, hsz, hP, hK, hD0, hN⟩ := hv
  have hx := B.exec
  have hb := B.bytes
  have hr := B.returns
  have hts := atoms_spec (ws := wsJ5_getValue_6d5f1) B.pre
  have hown : s.vm.findClass RJ5 = some m.cls := findClass_of_methodNamed B.named
  have hlocks := B.notSynchronized
  subst hsz
  have hD := hD0.self (sz := s.heap.size)
  generalize hAe : va_A [(sb, .inr (1, [.ref bv, .int 0, .int mq, .int cn]))] s.heap.size = A at hD ⊢
  have hA : ∀ q : Nat, s.heap.size ≤ q → A q := fun q h => by rw [← hAe]; exact Or.inr h
  have hS : va_S A s.heap s.heap [] := va_S.rf
  have hP : va_P (dC, dI) vwCl [(sb, .inr (1, [.ref bv, .int 0, .int mq, .int cn]))] s.heap := hP
  have hD : va_D A [(sb, .inr (1, [.ref bv, .int 0, .int mq, .int cn]))] := hD
  have hl := lv_entry ([.ref sb]) (n := 1) (Nat.le_of_ble_eq_true rfl)
  rw [lg_entry_eq]
  generalize (lg_sl ([.ref sb]) ++ List.replicate (1 - (lg_sl ([.ref sb])).length) Slot.unset).toArray = ls at hl ⊢
  have hl : lv_has ls 1 [(0, .ref sb)] := hl
  have iWJ4 : ∀ w ∈ u_ws RJ4 TJ4 4, w ∈ wsJ5_getValue_6d5f1 := by decide +kernel
  refine lv_aload_n hx hb dJ5_getValue_6d5f1_0 rfl (lv_at hl 0 rfl) ?_
  refine va_get (D := (dC, dI)) (ci := 1) (v := .ref bv) (C := RJ4) (T := TJ4) (N := 4) hx hb hts iWJ4 hown hK hP 0 rfl rfl 0 (by decide) (hts (.fieldLink RJ5 15 "java/lang/AbstractStringBuilder" "value" "[B") (by decide +kernel)) (fun _ h9 => h9) rfl dJ5_getValue_6d5f1_1 ?_
  have hP9 := hP.sub (ws' := [(sb, .inr (1, [.ref bv, .int 0, .int mq, .int cn]))]) [0] rfl
  have hD9 := hD.sub (ws' := [(sb, .inr (1, [.ref bv, .int 0, .int mq, .int cn]))]) [0] (by decide) rfl
  have hK9 := hK.sub (tys' := []) [] rfl
  exact W.aret (v := .ref bv) hx hb hr (Or.inr ⟨_, rfl⟩) (Or.inr ⟨_, rfl⟩) (fun t ht hW => ⟨⟨(), bv, rfl, trivial, ⟨rfl, by rw [ht]; exact hP9, va_K.moved hW.alike hK9, hD9⟩⟩, hS.F ht⟩) hS.2.2 dJ5_getValue_6d5f1_4

set_option maxHeartbeats 4000000 in
set_option maxRecDepth 100000 in
/-- J5_length_8abf5 -/
theorem c_J5_length_8abf5 (l : Launch) (dC : Nat → ClassId) (dI : Nat → Nat → Nat) (cB : ClassId) (sb bv : Nat) (mq cn : Int32) (sz : Nat) : Met l yJ5_length_8abf5 wsJ5_length_8abf5 ({ frames := 0, cells := 0, slots := 0, locals := 0 }) (va_Pc [.ref sb] (cPC dC dI [(sb, .inr (1, [.ref bv, .int 0, .int mq, .int cn]))] [] sz)) (va_Qi (fun (r : Int32) (u : Unit) => r = cn) (fun (u : Unit) t => cQB dC dI [(sb, .inr (1, [.ref bv, .int 0, .int mq, .int cn]))] [] (va_A [(sb, .inr (1, [.ref bv, .int 0, .int mq, .int cn]))] sz) t) (va_A [(sb, .inr (1, [.ref bv, .int 0, .int mq, .int cn]))] sz)) 0 0 (va_A [(sb, .inr (1, [.ref bv, .int 0, .int mq, .int cn]))] sz) := by
  refine Met.ofW (cc := cJ5_length_8abf5) (maxL := 1) (ret := (some .int)) (by decide) rfl ?_
  intro p e s m args below meth c s₁ B hml hv
  obtain ⟨rfl, hsz, hP, hK, hD0, hN⟩ := hv
  have hx := B.exec
  have hb := B.bytes
  have hr := B.returns
  have hts := atoms_spec (ws := wsJ5_length_8abf5) B.pre
  have hown : s.vm.findClass RJ5 = some m.cls := findClass_of_methodNamed B.named
  have hlocks := B.notSynchronized
  subst hsz
  have hD := hD0.self (sz := s.heap.size)
  generalize hAe : va_A [(sb, .inr (1, [.ref bv, .int 0, .int mq, .int cn]))] s.heap.size = A at hD ⊢
  have hA : ∀ q : Nat, s.heap.size ≤ q → A q := fun q h => by rw [← hAe]; exact Or.inr h
  have hS : va_S A s.heap s.heap [] := va_S.rf
  have hP : va_P (dC, dI) vwCl [(sb, .inr (1, [.ref bv, .int 0, .int mq, .int cn]))] s.heap := hP
  have hD : va_D A [(sb, .inr (1, [.ref bv, .int 0, .int mq, .int cn]))] := hD
  have hl := lv_entry ([.ref sb]) (n := 1) (Nat.le_of_ble_eq_true rfl)
  rw [lg_entry_eq]
  generalize (lg_sl ([.ref sb]) ++ List.replicate (1 - (lg_sl ([.ref sb])).length) Slot.unset).toArray = ls at hl ⊢
  have hl : lv_has ls 1 [(0, .ref sb)] := hl
  have iWJ4 : ∀ w ∈ u_ws RJ4 TJ4 4, w ∈ wsJ5_length_8abf5 := by decide +kernel
  refine lv_aload_n hx hb dJ5_length_8abf5_0 rfl (lv_at hl 0 rfl) ?_
  refine va_get (D := (dC, dI)) (ci := 1) (v := .int cn) (C := RJ4) (T := TJ4) (N := 4) hx hb hts iWJ4 hown hK hP 0 rfl rfl 3 (by decide) (hts (.fieldLink RJ5 79 "java/lang/AbstractStringBuilder" "count" "I") (by decide +kernel)) (fun _ h9 => h9) rfl dJ5_length_8abf5_1 ?_
  have hP9 := hP.sub (ws' := [(sb, .inr (1, [.ref bv, .int 0, .int mq, .int cn]))]) [0] rfl
  have hD9 := hD.sub (ws' := [(sb, .inr (1, [.ref bv, .int 0, .int mq, .int cn]))]) [0] (by decide) rfl
  have hK9 := hK.sub (tys' := []) [] rfl
  exact W.iret (v := cn) hx hb hr (fun t ht hW => ⟨⟨cn, (), rfl, rfl, ⟨by rw [ht]; exact hP9, va_K.moved hW.alike hK9, hD9⟩⟩, hS.F ht⟩) hS.2.2 dJ5_length_8abf5_4

set_option maxHeartbeats 4000000 in
set_option maxRecDepth 100000 in
/-- J4_length_8abf5 -/
theorem c_J4_length_8abf5 (l : Launch) (dC : Nat → ClassId) (dI : Nat → Nat → Nat) (cB : ClassId) (sb bv : Nat) (mq cn : Int32) (sz : Nat) : Met l yJ4_length_8abf5 wsJ4_length_8abf5 ({ frames := 1, cells := 0, slots := 0, locals := 20 }) (va_Pc [.ref sb] (cPC dC dI [(sb, .inr (1, [.ref bv, .int 0, .int mq, .int cn]))] [] sz)) (va_Qi (fun (r : Int32) (u : Unit) => r = cn) (fun (u : Unit) t => cQB dC dI [(sb, .inr (1, [.ref bv, .int 0, .int mq, .int cn]))] [] (va_A [(sb, .inr (1, [.ref bv, .int 0, .int mq, .int cn]))] sz) t) (va_A [(sb, .inr (1, [.ref bv, .int 0, .int mq, .int cn]))] sz)) 0 0 (va_A [(sb, .inr (1, [.ref bv, .int 0, .int mq, .int cn]))] sz) := by
  refine Met.ofW (cc := cJ4_length_8abf5) (maxL := 1) (ret := (some .int)) (by decide) rfl ?_
  intro p e s m args below meth c s₁ B hml hv
  obtain ⟨rfl, hsz, hP, hK, hD0, hN⟩ := hv
  have hx := B.exec
  have hb := B.bytes
  have hr := B.returns
  have hts := atoms_spec (ws := wsJ4_length_8abf5) B.pre
  have hown : s.vm.findClass RJ4 = some m.cls := findClass_of_methodNamed B.named
  have hlocks := B.notSynchronized
  subst hsz
  have hD := hD0.self (sz := s.heap.size)
  generalize hAe : va_A [(sb, .inr (1, [.ref bv, .int 0, .int mq, .int cn]))] s.heap.size = A at hD ⊢
  have hA : ∀ q : Nat, s.heap.size ≤ q → A q := fun q h => by rw [← hAe]; exact Or.inr h
  have hS : va_S A s.heap s.heap [] := va_S.rf
  have hP : va_P (dC, dI) vwCl [(sb, .inr (1, [.ref bv, .int 0, .int mq, .int cn]))] s.heap := hP
  have hD : va_D A [(sb, .inr (1, [.ref bv, .int 0, .int mq, .int cn]))] := hD
  have hl := lv_entry ([.ref sb]) (n := 1) (Nat.le_of_ble_eq_true rfl)
  rw [lg_entry_eq]
  generalize (lg_sl ([.ref sb]) ++ List.replicate (1 - (lg_sl ([.ref sb])).length) Slot.unset).toArray = ls at hl ⊢
  have hl : lv_has ls 1 [(0, .ref sb)] := hl
  have iWJ4 : ∀ w ∈ u_ws RJ4 TJ4 4, w ∈ wsJ4_length_8abf5 := by decide +kernel
  refine lv_aload_n hx hb dJ4_length_8abf5_0 rfl (lv_at hl 0 rfl) ?_
  have hPc := hP.sub (ws' := [(sb, .inr (1, [.ref bv, .int 0, .int mq, .int cn]))]) [0] rfl
  have hDc := hD.sub (ws' := [(sb, .inr (1, [.ref bv, .int 0, .int mq, .int cn]))]) [0] (by decide) rfl
  have hKc := hK.sub (tys' := []) [] rfl
  have hFc := va_free (wc := [(sb, .inr (1, [.ref bv, .int 0, .int mq, .int cn]))]) hD hS hA [0] rfl
  refine va_calli (va_runSU (As := []) (rest := []) (hK.1 1 _ rfl).2 ⟨hx, hb, hml, hown, hts⟩ (c_J5_length_8abf5 l dC dI cB sb bv mq cn s.heap.size) (va_cwSU 0 hts gJ4_length_8abf5_J5_length_8abf5_s343 rfl rfl rfl (by decide +kernel) ⟨Nat.le_of_ble_eq_true rfl, Nat.le_of_ble_eq_true rfl⟩) (pcV hPc hDc hKc hN (ci := 1) (q0 := 0) rfl rfl) rfl rfl hl.1 rfl (lv_room (Nat.le_of_ble_eq_true rfl)) dJ4_length_8abf5_1 ⟨Nat.le_of_ble_eq_true rfl, Nat.le_of_ble_eq_true rfl⟩) hS (fun q _ h => hFc q h) hFc (fun r_1 u t H1 locs ht hvm hw_2 hB hz1 hk1 hS => ?_)
  obtain ⟨hP1, hK1, hD1⟩ := hB
  rw [ht] at hP1
  try dsimp only at hw_2
  obtain ⟨hP, hD⟩ := va_join (wr := []) (w1 := [(sb, .inr (1, [.ref bv, .int 0, .int mq, .int cn]))]) hP hD [0] [] rfl rfl (by decide) (by decide) hk1 hFc hP1 hD1
  generalize H1 = H at hP hS ⊢
  have hP : va_P (dC, dI) vwCl [(sb, .inr (1, [.ref bv, .int 0, .int mq, .int cn]))] H := hP
  have hD : va_D A [(sb, .inr (1, [.ref bv, .int 0, .int mq, .int cn]))] := hD
  have hP9 := hP.sub (ws' := [(sb, .inr (1, [.ref bv, .int 0, .int mq, .int cn]))]) [0] rfl
  have hD9 := hD.sub (ws' := [(sb, .inr (1, [.ref bv, .int 0, .int mq, .int cn]))]) [0] (by decide) rfl
  have hK9 := hK.sub (tys' := []) [] rfl
  exact W.iret (v := r_1) hx hb hr (fun t ht hW => ⟨⟨r_1, (), rfl, hw_2, ⟨by rw [ht]; exact hP9, va_K.moved hW.alike hK9, hD9⟩⟩, hS.F ht⟩) hS.2.2 dJ4_length_8abf5_4

set_option maxHeartbeats 4000000 in
set_option maxRecDepth 100000 in
/-- J7_checkLength_df160 -/
theorem c_J7_checkLength_0 (l : Launch) (dC : Nat → ClassId) (dI : Nat → Nat → Nat)  (sz : Nat) : Met l yJ7_checkLength_df160 wsJ7_checkLength_df160 ({ frames := 0, cells := 0, slots := 0, locals := 0 }) (va_Pc [.int 0, .int 0] (cPC dC dI [] [] sz)) (va_Qv (fun (u : Unit) => True) (fun (u : Unit) t => cQB dC dI [] [] (va_A [] sz) t) (va_A [] sz)) 0 0 (va_A [] sz) := by
  refine Met.ofW (cc := cJ7_checkLength_df160) (maxL := 2) (ret := none) (by decide) rfl ?_
  intro p e s m args below meth c s₁ B hml hv
  obtain ⟨rfl, hsz, hP, hK, hD0, hN⟩ := hv
  have hx := B.exec
  have hb := B.bytes
  have hr := B.returns
  have hts := atoms_spec (ws := wsJ7_checkLength_df160) B.pre
  have hown : s.vm.findClass RJ7 = some m.cls := findClass_of_methodNamed B.named
  have hlocks := B.notSynchronized
  subst hsz
  have hD := hD0.self (sz := s.heap.size)
  generalize hAe : va_A [] s.heap.size = A at hD ⊢
  have hA : ∀ q : Nat, s.heap.size ≤ q → A q := fun q h => by rw [← hAe]; exact Or.inr h
  have hS : va_S A s.heap s.heap [] := va_S.rf
  have hP : va_P (dC, dI) vwCl [] s.heap := hP
  have hD : va_D A [] := hD
  have hl := lv_entry ([.int 0, .int 0]) (n := 2) (Nat.le_of_ble_eq_true rfl)
  rw [lg_entry_eq]
  generalize (lg_sl ([.int 0, .int 0]) ++ List.replicate (2 - (lg_sl ([.int 0, .int 0])).length) Slot.unset).toArray = ls at hl ⊢
  have hl : lv_has ls 2 [(0, .int 0), (1, .int 0)] := hl
  have iWJ4 : ∀ w ∈ u_ws RJ4 TJ4 4, w ∈ wsJ7_checkLength_df160 := by decide +kernel
  refine lv_iload_n hx hb dJ7_checkLength_df160_0 rfl (lv_at hl 1 rfl) ?_
  refine lv_iload_n hx hb dJ7_checkLength_df160_1 rfl (lv_at hl 0 rfl) ?_
  refine lv_icmp_ge (tgt := 37) hx hb dJ7_checkLength_df160_2 (by decide) (fun c2_1 => ?_) (fun c2_1 => ?_)
  · have hP9 := hP.sub (ws' := []) [] rfl
    have hD9 := hD.sub (ws' := []) [] (by decide) rfl
    have hK9 := hK.sub (tys' := []) [] rfl
    exact W.vret hx hb hr (fun t ht hW => ⟨⟨(), rfl, trivial, ⟨by rw [ht]; exact hP9, va_K.moved hW.alike hK9, hD9⟩⟩, hS.F ht⟩) hS.2.2 dJ7_checkLength_df160_37
  · exact (c2_1 (by decide)).elim

set_option maxHeartbeats 4000000 in
set_option maxRecDepth 100000 in
/-- J7_checkLength_df160 -/
theorem c_J7_checkLength_1 (l : Launch) (dC : Nat → ClassId) (dI : Nat → Nat → Nat)  (sz : Nat) : Met l yJ7_checkLength_df160 wsJ7_checkLength_df160 ({ frames := 0, cells := 0, slots := 0, locals := 0 }) (va_Pc [.int 0, .int 1] (cPC dC dI [] [] sz)) (va_Qv (fun (u : Unit) => True) (fun (u : Unit) t => cQB dC dI [] [] (va_A [] sz) t) (va_A [] sz)) 0 0 (va_A [] sz) := by
  refine Met.ofW (cc := cJ7_checkLength_df160) (maxL := 2) (ret := none) (by decide) rfl ?_
  intro p e s m args below meth c s₁ B hml hv
  obtain ⟨rfl, hsz, hP, hK, hD0, hN⟩ := hv
  have hx := B.exec
  have hb := B.bytes
  have hr := B.returns
  have hts := atoms_spec (ws := wsJ7_checkLength_df160) B.pre
  have hown : s.vm.findClass RJ7 = some m.cls := findClass_of_methodNamed B.named
  have hlocks := B.notSynchronized
  subst hsz
  have hD := hD0.self (sz := s.heap.size)
  generalize hAe : va_A [] s.heap.size = A at hD ⊢
  have hA : ∀ q : Nat, s.heap.size ≤ q → A q := fun q h => by rw [← hAe]; exact Or.inr h
  have hS : va_S A s.heap s.heap [] := va_S.rf
  have hP : va_P (dC, dI) vwCl [] s.heap := hP
  have hD : va_D A [] := hD
  have hl := lv_entry ([.int 0, .int 1]) (n := 2) (Nat.le_of_ble_eq_true rfl)
  rw [lg_entry_eq]
  generalize (lg_sl ([.int 0, .int 1]) ++ List.replicate (2 - (lg_sl ([.int 0, .int 1])).length) Slot.unset).toArray = ls at hl ⊢
  have hl : lv_has ls 2 [(0, .int 0), (1, .int 1)] := hl
  have iWJ4 : ∀ w ∈ u_ws RJ4 TJ4 4, w ∈ wsJ7_checkLength_df160 := by decide +kernel
  refine lv_iload_n hx hb dJ7_checkLength_df160_0 rfl (lv_at hl 1 rfl) ?_
  refine lv_iload_n hx hb dJ7_checkLength_df160_1 rfl (lv_at hl 0 rfl) ?_
  refine lv_icmp_ge (tgt := 37) hx hb dJ7_checkLength_df160_2 (by decide) (fun c2_1 => ?_) (fun c2_1 => ?_)
  · have hP9 := hP.sub (ws' := []) [] rfl
    have hD9 := hD.sub (ws' := []) [] (by decide) rfl
    have hK9 := hK.sub (tys' := []) [] rfl
    exact W.vret hx hb hr (fun t ht hW => ⟨⟨(), rfl, trivial, ⟨by rw [ht]; exact hP9, va_K.moved hW.alike hK9, hD9⟩⟩, hS.F ht⟩) hS.2.2 dJ7_checkLength_df160_37
  · exact (c2_1 (by decide)).elim

set_option maxHeartbeats 4000000 in
set_option maxRecDepth 100000 in
/-- J7_copyOfRangeByte_39247 -/
theorem c_J7_cRB_0 (l : Launch) (dC : Nat → ClassId) (dI : Nat → Nat → Nat) (cB : ClassId) (bv : Nat) (fb : Nat → Int32) (sz : Nat) : Met l yJ7_copyOfRangeByte_39247 wsJ7_copyOfRangeByte_39247 ({ frames := 1, cells := 1, slots := 0, locals := 60 }) (va_Pc [.ref bv, .int 0, .int 0] (cPC dC dI [(bv, .inl (cB, 16, .inl fb))] [(cB, .byte)] sz)) (va_Qr (fun (u : Nat → Int32) => True) (fun (u : Nat → Int32) (a : Nat) t => cQB dC dI [(bv, .inl (cB, 16, .inl fb)), (a, .inl (cB, 0, .inl u))] [(cB, .byte)] (va_A [(bv, .inl (cB, 16, .inl fb))] sz) t) (va_A [(bv, .inl (cB, 16, .inl fb))] sz)) 1 0 (va_A [(bv, .inl (cB, 16, .inl fb))] sz) := by
  refine Met.ofW (cc := cJ7_copyOfRangeByte_39247) (maxL := 5) (ret := (some (.array .byte))) (by decide) rfl ?_
  intro p e s m args below meth c s₁ B hml hv
  obtain ⟨rfl, hsz, hP, hK, hD0, hN⟩ := hv
  have hx := B.exec
  have hb := B.bytes
  have hr := B.returns
  have hts := atoms_spec (ws := wsJ7_copyOfRangeByte_39247) B.pre
  have hown : s.vm.findClass RJ7 = some m.cls := findClass_of_methodNamed B.named
  have hlocks := B.notSynchronized
  subst hsz
  have hD := hD0.self (sz := s.heap.size)
  generalize hAe : va_A [(bv, .inl (cB, 16, .inl fb))] s.heap.size = A at hD ⊢
  have hA : ∀ q : Nat, s.heap.size ≤ q → A q := fun q h => by rw [← hAe]; exact Or.inr h
  have hS : va_S A s.heap s.heap [] := va_S.rf
  have hP : va_P (dC, dI) vwCl [(bv, .inl (cB, 16, .inl fb))] s.heap := hP
  have hD : va_D A [(bv, .inl (cB, 16, .inl fb))] := hD
  have hl := lv_entry ([.ref bv, .int 0, .int 0]) (n := 5) (Nat.le_of_ble_eq_true rfl)
  rw [lg_entry_eq]
  generalize (lg_sl ([.ref bv, .int 0, .int 0]) ++ List.replicate (5 - (lg_sl ([.ref bv, .int 0, .int 0])).length) Slot.unset).toArray = ls at hl ⊢
  have hl : lv_has ls 5 [(0, .ref bv), (1, .int 0), (2, .int 0)] := hl
  have iWJ4 : ∀ w ∈ u_ws RJ4 TJ4 4, w ∈ wsJ7_copyOfRangeByte_39247 := by decide +kernel
  refine lv_iload_n hx hb dJ7_copyOfRangeByte_39247_0 rfl (lv_at hl 1 rfl) ?_
  refine lv_iload_n hx hb dJ7_copyOfRangeByte_39247_1 rfl (lv_at hl 2 rfl) ?_
  have hPc := hP.sub (ws' := []) [] rfl
  have hDc := hD.sub (ws' := []) [] (by decide) rfl
  have hKc := hK.sub (tys' := []) [] rfl
  have hFc := va_free (wc := []) hD hS hA [] rfl
  refine va_callv (va_runS (As := [.int 0, .int 0]) (rest := []) ⟨hx, hb, hml, hown, hts⟩ (c_J7_checkLength_0 l dC dI s.heap.size) (va_cwS 2 hts gJ7_copyOfRangeByte_39247_J7_checkLength_df160 rfl rfl rfl (by decide +kernel) ⟨Nat.le_of_ble_eq_true rfl, Nat.le_of_ble_eq_true rfl⟩) (pcS hPc hDc hKc hN) rfl rfl hl.1 rfl (lv_room (Nat.le_of_ble_eq_true rfl)) dJ7_copyOfRangeByte_39247_2 ⟨Nat.le_of_ble_eq_true rfl, Nat.le_of_ble_eq_true rfl⟩) hS (fun q _ h => hFc q h) hFc (fun u t H1 locs ht hvm hw_1 hB hz1 hk1 hS => ?_)
  obtain ⟨hP1, hK1, hD1⟩ := hB
  rw [ht] at hP1
  try dsimp only at hw_1
  obtain ⟨hP, hD⟩ := va_join (wr := [(bv, .inl (cB, 16, .inl fb))]) (w1 := []) hP hD [] [0] rfl rfl (by decide) (by decide) hk1 hFc hP1 hD1
  generalize H1 = H at hP hS ⊢
  have hP : va_P (dC, dI) vwCl [(bv, .inl (cB, 16, .inl fb))] H := hP
  have hD : va_D A [(bv, .inl (cB, 16, .inl fb))] := hD
  refine lv_iload_n hx hb dJ7_copyOfRangeByte_39247_5 rfl (lv_at hl 2 rfl) ?_
  refine lv_iload_n hx hb dJ7_copyOfRangeByte_39247_6 rfl (lv_at hl 1 rfl) ?_
  refine lv_isub hx hb dJ7_copyOfRangeByte_39247_7 ?_
  refine lv_topi (fun x_2 ex_2 => ?_)
  obtain rfl : x_2 = 0 := by rw [ex_2]; decide
  refine lv_istore_n (lv' := [(3, .int 0), (0, .ref bv), (1, .int 0), (2, .int 0)]) hx hb dJ7_copyOfRangeByte_39247_8 rfl hl (by decide) rfl (fun ls hl => ?_)
  refine lv_iload_n hx hb dJ7_copyOfRangeByte_39247_9 rfl (lv_at hl 0 rfl) ?_
  refine va_newa (atype := .byte) (ty := .byte) (a0 := (0, .inl (fun _ => 0))) (N' := 0) hx hb (hts (.arrayClass .byte) (by decide +kernel)) rfl hK hP hD hS hA (fun _ => rfl) (by decide) (by decide) (Nat.le_of_ble_eq_true rfl) (Nat.le_of_ble_eq_true rfl) (Nat.le_of_ble_eq_true rfl) dJ7_copyOfRangeByte_39247_10 (fun q_4 cA_3 H hK hP hD hS => ?_)
  have ecA_3 : cB = cA_3 := cA_one hK (i := 0) (j := 1) rfl rfl
  subst ecA_3
  have hK := hK.sub (tys' := [(cB, .byte)]) [0] rfl
  have hP : va_P (dC, dI) vwCl [(bv, .inl (cB, 16, .inl fb)), (q_4, .inl (cB, 0, .inl (fun _ => 0)))] H := hP
  have hD : va_D A [(bv, .inl (cB, 16, .inl fb)), (q_4, .inl (cB, 0, .inl (fun _ => 0)))] := hD
  refine W.widen (k := 1) (n := 0) (Nat.le_of_ble_eq_true rfl) (Nat.le_of_ble_eq_true rfl) ?_
  refine lv_astore (lv' := [(4, .ref q_4), (3, .int 0), (0, .ref bv), (1, .int 0), (2, .int 0)]) hx hb dJ7_copyOfRangeByte_39247_12 hl (by decide) rfl (fun ls hl => ?_)
  refine lv_aload_n hx hb dJ7_copyOfRangeByte_39247_14 rfl (lv_at hl 2 rfl) ?_
  refine lv_iload_n hx hb dJ7_copyOfRangeByte_39247_15 rfl (lv_at hl 3 rfl) ?_
  refine lv_aload hx hb dJ7_copyOfRangeByte_39247_16 (lv_at hl 0 rfl) ?_
  refine lv_iconst (v := 0) hx hb dJ7_copyOfRangeByte_39247_18 (by decide) ?_
  refine lv_aload_n hx hb dJ7_copyOfRangeByte_39247_19 rfl (lv_at hl 2 rfl) ?_
  refine va_alen hx hb hK hP 0 0 rfl rfl (v := 16) (by rfl) dJ7_copyOfRangeByte_39247_20 ?_
  refine lv_iload_n hx hb dJ7_copyOfRangeByte_39247_21 rfl (lv_at hl 3 rfl) ?_
  refine lv_isub hx hb dJ7_copyOfRangeByte_39247_22 ?_
  refine lv_iload_n hx hb dJ7_copyOfRangeByte_39247_23 rfl (lv_at hl 1 rfl) ?_
  refine va_mmin hx hb (hml.trans hl.1.symm) hown (hts (.methodLink RJ7 304 Lib.Math.min.name) (by decide +kernel)) (hts (.static Lib.Math.min.name) (by decide +kernel)) (hts (.initialized "java/lang/Math") (by decide +kernel)) (hts (.code Lib.Math.min.name Lib.Math.min.code 2 (some .int)) (by decide +kernel)) (Nat.le_of_ble_eq_true rfl) (Nat.le_of_ble_eq_true rfl) (Nat.le_of_ble_eq_true rfl) (Nat.le_of_ble_eq_true rfl) dJ7_copyOfRangeByte_39247_24 ?_
  refine lv_topi (fun x_5 ex_5 => ?_)
  have ex_5 : x_5 = iminJ ((16 : Int32) - 0) 0 := ex_5
  obtain rfl : x_5 = 0 := by rw [ex_5]; decide
  refine va_copyi hx hb (hml.trans hl.1.symm) hown (hts (.methodLink RJ7 150 arraycopyName) (by decide +kernel)) (hts (.native arraycopyName) (by decide +kernel)) (hts (.static arraycopyName) (by decide +kernel)) (hts (.initialized "java/lang/System") (by decide +kernel)) hK hP hD hS 0 1 0 0 rfl rfl rfl rfl rfl (sp := 0) (dp := 0) (n := 0) (by decide +kernel) (by decide +kernel) (by decide +kernel) (by decide +kernel) (by decide +kernel) (fun i9 h9 => absurd (show i9 < 0 from h9) (Nat.not_lt_zero _)) (Nat.le_of_ble_eq_true rfl) (by decide +kernel) dJ7_copyOfRangeByte_39247_27 (fun H locs hP hD hS => ?_)
  obtain ⟨f_6, ef_6⟩ : ∃ z, z = (va_cpy fb (fun _ => 0) (0 : Int32).toNatClampNeg (0 : Int32).toNatClampNeg (0 : Int32).toNatClampNeg) := ⟨_, rfl⟩
  have hP : va_P (dC, dI) vwCl [(bv, .inl (cB, 16, .inl fb)), (q_4, .inl (cB, 0, .inl f_6))] H := by rw [ef_6]; exact hP
  have hD : va_D A [(bv, .inl (cB, 16, .inl fb)), (q_4, .inl (cB, 0, .inl f_6))] := by rw [ef_6]; exact hD
  refine lv_aload hx hb dJ7_copyOfRangeByte_39247_30 (lv_at hl 0 rfl) ?_
  have hP9 := hP.sub (ws' := [(bv, .inl (cB, 16, .inl fb)), (q_4, .inl (cB, 0, .inl f_6))]) [0, 1] rfl
  have hD9 := hD.sub (ws' := [(bv, .inl (cB, 16, .inl fb)), (q_4, .inl (cB, 0, .inl f_6))]) [0, 1] (by decide) rfl
  have hK9 := hK.sub (tys' := [(cB, .byte)]) [0] rfl
  exact W.aret (v := .ref q_4) hx hb hr (Or.inr ⟨_, rfl⟩) (Or.inr ⟨_, rfl⟩) (fun t ht hW => ⟨⟨f_6, q_4, rfl, trivial, ⟨by rw [ht]; exact hP9, va_K.moved hW.alike hK9, hD9⟩⟩, hS.F ht⟩) hS.2.2 dJ7_copyOfRangeByte_39247_32

set_option maxHeartbeats 4000000 in
set_option maxRecDepth 100000 in
/-- J7_copyOfRangeByte_39247 -/
theorem c_J7_cRB_1 (l : Launch) (dC : Nat → ClassId) (dI : Nat → Nat → Nat) (cB : ClassId) (bv : Nat) (fb : Nat → Int32) (hfb : fits .byte (.int (fb 0)) = true) (sz : Nat) : Met l yJ7_copyOfRangeByte_39247 wsJ7_copyOfRangeByte_39247 ({ frames := 1, cells := 1, slots := 1, locals := 60 }) (va_Pc [.ref bv, .int 0, .int 1] (cPC dC dI [(bv, .inl (cB, 16, .inl fb))] [(cB, .byte)] sz)) (va_Qr (fun (u : Nat → Int32) => u 0 = fb 0) (fun (u : Nat → Int32) (a : Nat) t => cQB dC dI [(bv, .inl (cB, 16, .inl fb)), (a, .inl (cB, 1, .inl u))] [(cB, .byte)] (va_A [(bv, .inl (cB, 16, .inl fb))] sz) t) (va_A [(bv, .inl (cB, 16, .inl fb))] sz)) 1 1 (va_A [(bv, .inl (cB, 16, .inl fb))] sz) := by
  refine Met.ofW (cc := cJ7_copyOfRangeByte_39247) (maxL := 5) (ret := (some (.array .byte))) (by decide) rfl ?_
  intro p e s m args below meth c s₁ B hml hv
  obtain ⟨rfl, hsz, hP, hK, hD0, hN⟩ := hv
  have hx := B.exec
  have hb := B.bytes
  have hr := B.returns
  have hts := atoms_spec (ws := wsJ7_copyOfRangeByte_39247) B.pre
  have hown : s.vm.findClass RJ7 = some m.cls := findClass_of_methodNamed B.named
  have hlocks := B.notSynchronized
  subst hsz
  have hD := hD0.self (sz := s.heap.size)
  generalize hAe : va_A [(bv, .inl (cB, 16, .inl fb))] s.heap.size = A at hD ⊢
  have hA : ∀ q : Nat, s.heap.size ≤ q → A q := fun q h => by rw [← hAe]; exact Or.inr h
  have hS : va_S A s.heap s.heap [] := va_S.rf
  have hP : va_P (dC, dI) vwCl [(bv, .inl (cB, 16, .inl fb))] s.heap := hP
  have hD : va_D A [(bv, .inl (cB, 16, .inl fb))] := hD
  have hl := lv_entry ([.ref bv, .int 0, .int 1]) (n := 5) (Nat.le_of_ble_eq_true rfl)
  rw [lg_entry_eq]
  generalize (lg_sl ([.ref bv, .int 0, .int 1]) ++ List.replicate (5 - (lg_sl ([.ref bv, .int 0, .int 1])).length) Slot.unset).toArray = ls at hl ⊢
  have hl : lv_has ls 5 [(0, .ref bv), (1, .int 0), (2, .int 1)] := hl
  have iWJ4 : ∀ w ∈ u_ws RJ4 TJ4 4, w ∈ wsJ7_copyOfRangeByte_39247 := by decide +kernel
  refine lv_iload_n hx hb dJ7_copyOfRangeByte_39247_0 rfl (lv_at hl 1 rfl) ?_
  refine lv_iload_n hx hb dJ7_copyOfRangeByte_39247_1 rfl (lv_at hl 2 rfl) ?_
  have hPc := hP.sub (ws' := []) [] rfl
  have hDc := hD.sub (ws' := []) [] (by decide) rfl
  have hKc := hK.sub (tys' := []) [] rfl
  have hFc := va_free (wc := []) hD hS hA [] rfl
  refine va_callv (va_runS (As := [.int 0, .int 1]) (rest := []) ⟨hx, hb, hml, hown, hts⟩ (c_J7_checkLength_1 l dC dI s.heap.size) (va_cwS 2 hts gJ7_copyOfRangeByte_39247_J7_checkLength_df160 rfl rfl rfl (by decide +kernel) ⟨Nat.le_of_ble_eq_true rfl, Nat.le_of_ble_eq_true rfl⟩) (pcS hPc hDc hKc hN) rfl rfl hl.1 rfl (lv_room (Nat.le_of_ble_eq_true rfl)) dJ7_copyOfRangeByte_39247_2 ⟨Nat.le_of_ble_eq_true rfl, Nat.le_of_ble_eq_true rfl⟩) hS (fun q _ h => hFc q h) hFc (fun u t H1 locs ht hvm hw_1 hB hz1 hk1 hS => ?_)
  obtain ⟨hP1, hK1, hD1⟩ := hB
  rw [ht] at hP1
  try dsimp only at hw_1
  obtain ⟨hP, hD⟩ := va_join (wr := [(bv, .inl (cB, 16, .inl fb))]) (w1 := []) hP hD [] [0] rfl rfl (by decide) (by decide) hk1 hFc hP1 hD1
  generalize H1 = H at hP hS ⊢
  have hP : va_P (dC, dI) vwCl [(bv, .inl (cB, 16, .inl fb))] H := hP
  have hD : va_D A [(bv, .inl (cB, 16, .inl fb))] := hD
  refine lv_iload_n hx hb dJ7_copyOfRangeByte_39247_5 rfl (lv_at hl 2 rfl) ?_
  refine lv_iload_n hx hb dJ7_copyOfRangeByte_39247_6 rfl (lv_at hl 1 rfl) ?_
  refine lv_isub hx hb dJ7_copyOfRangeByte_39247_7 ?_
  refine lv_topi (fun x_2 ex_2 => ?_)
  obtain rfl : x_2 = 1 := by rw [ex_2]; decide
  refine lv_istore_n (lv' := [(3, .int 1), (0, .ref bv), (1, .int 0), (2, .int 1)]) hx hb dJ7_copyOfRangeByte_39247_8 rfl hl (by decide) rfl (fun ls hl => ?_)
  refine lv_iload_n hx hb dJ7_copyOfRangeByte_39247_9 rfl (lv_at hl 0 rfl) ?_
  refine va_newa (atype := .byte) (ty := .byte) (a0 := (1, .inl (fun _ => 0))) (N' := 1) hx hb (hts (.arrayClass .byte) (by decide +kernel)) rfl hK hP hD hS hA (fun _ => rfl) (by decide) (by decide) (Nat.le_of_ble_eq_true rfl) (Nat.le_of_ble_eq_true rfl) (Nat.le_of_ble_eq_true rfl) dJ7_copyOfRangeByte_39247_10 (fun q_4 cA_3 H hK hP hD hS => ?_)
  have ecA_3 : cB = cA_3 := cA_one hK (i := 0) (j := 1) rfl rfl
  subst ecA_3
  have hK := hK.sub (tys' := [(cB, .byte)]) [0] rfl
  have hP : va_P (dC, dI) vwCl [(bv, .inl (cB, 16, .inl fb)), (q_4, .inl (cB, 1, .inl (fun _ => 0)))] H := hP
  have hD : va_D A [(bv, .inl (cB, 16, .inl fb)), (q_4, .inl (cB, 1, .inl (fun _ => 0)))] := hD
  refine W.widen (k := 1) (n := 1) (Nat.le_of_ble_eq_true rfl) (Nat.le_of_ble_eq_true rfl) ?_
  refine lv_astore (lv' := [(4, .ref q_4), (3, .int 1), (0, .ref bv), (1, .int 0), (2, .int 1)]) hx hb dJ7_copyOfRangeByte_39247_12 hl (by decide) rfl (fun ls hl => ?_)
  refine lv_aload_n hx hb dJ7_copyOfRangeByte_39247_14 rfl (lv_at hl 2 rfl) ?_
  refine lv_iload_n hx hb dJ7_copyOfRangeByte_39247_15 rfl (lv_at hl 3 rfl) ?_
  refine lv_aload hx hb dJ7_copyOfRangeByte_39247_16 (lv_at hl 0 rfl) ?_
  refine lv_iconst (v := 0) hx hb dJ7_copyOfRangeByte_39247_18 (by decide) ?_
  refine lv_aload_n hx hb dJ7_copyOfRangeByte_39247_19 rfl (lv_at hl 2 rfl) ?_
  refine va_alen hx hb hK hP 0 0 rfl rfl (v := 16) (by rfl) dJ7_copyOfRangeByte_39247_20 ?_
  refine lv_iload_n hx hb dJ7_copyOfRangeByte_39247_21 rfl (lv_at hl 3 rfl) ?_
  refine lv_isub hx hb dJ7_copyOfRangeByte_39247_22 ?_
  refine lv_iload_n hx hb dJ7_copyOfRangeByte_39247_23 rfl (lv_at hl 1 rfl) ?_
  refine va_mmin hx hb (hml.trans hl.1.symm) hown (hts (.methodLink RJ7 304 Lib.Math.min.name) (by decide +kernel)) (hts (.static Lib.Math.min.name) (by decide +kernel)) (hts (.initialized "java/lang/Math") (by decide +kernel)) (hts (.code Lib.Math.min.name Lib.Math.min.code 2 (some .int)) (by decide +kernel)) (Nat.le_of_ble_eq_true rfl) (Nat.le_of_ble_eq_true rfl) (Nat.le_of_ble_eq_true rfl) (Nat.le_of_ble_eq_true rfl) dJ7_copyOfRangeByte_39247_24 ?_
  refine lv_topi (fun x_5 ex_5 => ?_)
  have ex_5 : x_5 = iminJ ((16 : Int32) - 0) 1 := ex_5
  obtain rfl : x_5 = 1 := by rw [ex_5]; decide
  refine va_copyi hx hb (hml.trans hl.1.symm) hown (hts (.methodLink RJ7 150 arraycopyName) (by decide +kernel)) (hts (.native arraycopyName) (by decide +kernel)) (hts (.static arraycopyName) (by decide +kernel)) (hts (.initialized "java/lang/System") (by decide +kernel)) hK hP hD hS 0 1 0 0 rfl rfl rfl rfl rfl (sp := 0) (dp := 0) (n := 1) (by decide +kernel) (by decide +kernel) (by decide +kernel) (by decide +kernel) (by decide +kernel) (fun i9 h9 => by have h7 : i9 < 1 := h9; have h8 : i9 = 0 := (by omega); subst h8; exact hfb) (Nat.le_of_ble_eq_true rfl) (by decide +kernel) dJ7_copyOfRangeByte_39247_27 (fun H locs hP hD hS => ?_)
  obtain ⟨f_6, ef_6⟩ : ∃ z, z = (va_cpy fb (fun _ => 0) (0 : Int32).toNatClampNeg (0 : Int32).toNatClampNeg (1 : Int32).toNatClampNeg) := ⟨_, rfl⟩
  have hP : va_P (dC, dI) vwCl [(bv, .inl (cB, 16, .inl fb)), (q_4, .inl (cB, 1, .inl f_6))] H := by rw [ef_6]; exact hP
  have hD : va_D A [(bv, .inl (cB, 16, .inl fb)), (q_4, .inl (cB, 1, .inl f_6))] := by rw [ef_6]; exact hD
  refine lv_aload hx hb dJ7_copyOfRangeByte_39247_30 (lv_at hl 0 rfl) ?_
  have hP9 := hP.sub (ws' := [(bv, .inl (cB, 16, .inl fb)), (q_4, .inl (cB, 1, .inl f_6))]) [0, 1] rfl
  have hD9 := hD.sub (ws' := [(bv, .inl (cB, 16, .inl fb)), (q_4, .inl (cB, 1, .inl f_6))]) [0, 1] (by decide) rfl
  have hK9 := hK.sub (tys' := [(cB, .byte)]) [0] rfl
  exact W.aret (v := .ref q_4) hx hb hr (Or.inr ⟨_, rfl⟩) (Or.inr ⟨_, rfl⟩) (fun t ht hW => ⟨⟨f_6, q_4, rfl, (by rw [ef_6]; rfl), ⟨by rw [ht]; exact hP9, va_K.moved hW.alike hK9, hD9⟩⟩, hS.F ht⟩) hS.2.2 dJ7_copyOfRangeByte_39247_32

set_option maxHeartbeats 4000000 in
set_option maxRecDepth 100000 in
/-- J7_copyOfRange_39247 -/
theorem c_J7_cR_0 (l : Launch) (dC : Nat → ClassId) (dI : Nat → Nat → Nat) (cB : ClassId) (bv : Nat) (fb : Nat → Int32) (sz : Nat) : Met l yJ7_copyOfRange_39247 wsJ7_copyOfRange_39247 ({ frames := 2, cells := 1, slots := 0, locals := 84 }) (va_Pc [.ref bv, .int 0, .int 0] (cPC dC dI [(bv, .inl (cB, 16, .inl fb))] [(cB, .byte)] sz)) (va_Qr (fun (u : Nat → Int32) => True) (fun (u : Nat → Int32) (a : Nat) t => cQB dC dI [(bv, .inl (cB, 16, .inl fb)), (a, .inl (cB, 0, .inl u))] [(cB, .byte)] (va_A [(bv, .inl (cB, 16, .inl fb))] sz) t) (va_A [(bv, .inl (cB, 16, .inl fb))] sz)) 1 0 (va_A [(bv, .inl (cB, 16, .inl fb))] sz) := by
  refine Met.ofW (cc := cJ7_copyOfRange_39247) (maxL := 3) (ret := (some (.array .byte))) (by decide) rfl ?_
  intro p e s m args below meth c s₁ B hml hv
  obtain ⟨rfl, hsz, hP, hK, hD0, hN⟩ := hv
  have hx := B.exec
  have hb := B.bytes
  have hr := B.returns
  have hts := atoms_spec (ws := wsJ7_copyOfRange_39247) B.pre
  have hown : s.vm.findClass RJ7 = some m.cls := findClass_of_methodNamed B.named
  have hlocks := B.notSynchronized
  subst hsz
  have hD := hD0.self (sz := s.heap.size)
  generalize hAe : va_A [(bv, .inl (cB, 16, .inl fb))] s.heap.size = A at hD ⊢
  have hA : ∀ q : Nat, s.heap.size ≤ q → A q := fun q h => by rw [← hAe]; exact Or.inr h
  have hS : va_S A s.heap s.heap [] := va_S.rf
  have hP : va_P (dC, dI) vwCl [(bv, .inl (cB, 16, .inl fb))] s.heap := hP
  have hD : va_D A [(bv, .inl (cB, 16, .inl fb))] := hD
  have hl := lv_entry ([.ref bv, .int 0, .int 0]) (n := 3) (Nat.le_of_ble_eq_true rfl)
  rw [lg_entry_eq]
  generalize (lg_sl ([.ref bv, .int 0, .int 0]) ++ List.replicate (3 - (lg_sl ([.ref bv, .int 0, .int 0])).length) Slot.unset).toArray = ls at hl ⊢
  have hl : lv_has ls 3 [(0, .ref bv), (1, .int 0), (2, .int 0)] := hl
  have iWJ4 : ∀ w ∈ u_ws RJ4 TJ4 4, w ∈ wsJ7_copyOfRange_39247 := by decide +kernel
  refine lv_iload_n hx hb dJ7_copyOfRange_39247_0 rfl (lv_at hl 1 rfl) ?_
  refine lv_if_ne (tgt := 10) hx hb dJ7_copyOfRange_39247_1 (by decide) (fun c1_1 => ?_) (fun c1_1 => ?_)
  · exact (c1_1 (by decide)).elim
  · refine lv_iload_n hx hb dJ7_copyOfRange_39247_4 rfl (lv_at hl 2 rfl) ?_
    refine lv_aload_n hx hb dJ7_copyOfRange_39247_5 rfl (lv_at hl 0 rfl) ?_
    refine va_alen hx hb hK hP 0 0 rfl rfl (v := 16) (by rfl) dJ7_copyOfRange_39247_6 ?_
    refine lv_icmp_eq (tgt := 17) hx hb dJ7_copyOfRange_39247_7 (by decide) (fun c7_2 => ?_) (fun c7_2 => ?_)
    · exact absurd c7_2 (by decide)
    · refine lv_aload_n hx hb dJ7_copyOfRange_39247_10 rfl (lv_at hl 0 rfl) ?_
      refine lv_iload_n hx hb dJ7_copyOfRange_39247_11 rfl (lv_at hl 1 rfl) ?_
      refine lv_iload_n hx hb dJ7_copyOfRange_39247_12 rfl (lv_at hl 2 rfl) ?_
      have hPc := hP.sub (ws' := [(bv, .inl (cB, 16, .inl fb))]) [0] rfl
      have hDc := hD.sub (ws' := [(bv, .inl (cB, 16, .inl fb))]) [0] (by decide) rfl
      have hKc := hK.sub (tys' := [(cB, .byte)]) [0] rfl
      have hFc := va_free (wc := [(bv, .inl (cB, 16, .inl fb))]) hD hS hA [0] rfl
      refine va_callr (va_runS (As := [.ref bv, .int 0, .int 0]) (rest := []) ⟨hx, hb, hml, hown, hts⟩ (c_J7_cRB_0 l dC dI cB bv fb s.heap.size) (va_cwS 3 hts gJ7_copyOfRange_39247_J7_copyOfRangeByte_39247 rfl rfl rfl (by decide +kernel) ⟨Nat.le_of_ble_eq_true rfl, Nat.le_of_ble_eq_true rfl⟩) (pcS hPc hDc hKc hN) rfl rfl hl.1 rfl (lv_room (Nat.le_of_ble_eq_true rfl)) dJ7_copyOfRange_39247_13 ⟨Nat.le_of_ble_eq_true rfl, Nat.le_of_ble_eq_true rfl⟩) hS (fun q _ h => hFc q h) hFc (fun u r_4 t H1 locs ht hvm hw_5 hB hz1 hk1 hS => ?_)
      obtain ⟨hP1, hK1, hD1⟩ := hB
      rw [ht] at hP1
      try dsimp only at hw_5
      obtain ⟨hP, hD⟩ := va_join (wr := []) (w1 := [(bv, .inl (cB, 16, .inl fb)), (r_4, .inl (cB, 0, .inl u))]) hP hD [0] [] rfl rfl (by decide) (by decide) hk1 hFc hP1 hD1
      generalize H1 = H at hP hS ⊢
      have hP : va_P (dC, dI) vwCl [(bv, .inl (cB, 16, .inl fb)), (r_4, .inl (cB, 0, .inl u))] H := hP
      have hD : va_D A [(bv, .inl (cB, 16, .inl fb)), (r_4, .inl (cB, 0, .inl u))] := hD
      refine W.widen (k := 1) (n := 0) (Nat.le_of_ble_eq_true rfl) (Nat.le_of_ble_eq_true rfl) ?_
      obtain ⟨f_3, ef_3⟩ : ∃ z, z = u := ⟨_, rfl⟩
      subst ef_3
      have hP9 := hP.sub (ws' := [(bv, .inl (cB, 16, .inl fb)), (r_4, .inl (cB, 0, .inl f_3))]) [0, 1] rfl
      have hD9 := hD.sub (ws' := [(bv, .inl (cB, 16, .inl fb)), (r_4, .inl (cB, 0, .inl f_3))]) [0, 1] (by decide) rfl
      have hK9 := hK.sub (tys' := [(cB, .byte)]) [0] rfl
      exact W.aret (v := .ref r_4) hx hb hr (Or.inr ⟨_, rfl⟩) (Or.inr ⟨_, rfl⟩) (fun t ht hW => ⟨⟨f_3, r_4, rfl, trivial, ⟨by rw [ht]; exact hP9, va_K.moved hW.alike hK9, hD9⟩⟩, hS.F ht⟩) hS.2.2 dJ7_copyOfRange_39247_16

set_option maxHeartbeats 4000000 in
set_option maxRecDepth 100000 in
/-- J7_copyOfRange_39247 -/
theorem c_J7_cR_1 (l : Launch) (dC : Nat → ClassId) (dI : Nat → Nat → Nat) (cB : ClassId) (bv : Nat) (fb : Nat → Int32) (hfb : fits .byte (.int (fb 0)) = true) (sz : Nat) : Met l yJ7_copyOfRange_39247 wsJ7_copyOfRange_39247 ({ frames := 2, cells := 1, slots := 1, locals := 84 }) (va_Pc [.ref bv, .int 0, .int 1] (cPC dC dI [(bv, .inl (cB, 16, .inl fb))] [(cB, .byte)] sz)) (va_Qr (fun (u : Nat → Int32) => u 0 = fb 0) (fun (u : Nat → Int32) (a : Nat) t => cQB dC dI [(bv, .inl (cB, 16, .inl fb)), (a, .inl (cB, 1, .inl u))] [(cB, .byte)] (va_A [(bv, .inl (cB, 16, .inl fb))] sz) t) (va_A [(bv, .inl (cB, 16, .inl fb))] sz)) 1 1 (va_A [(bv, .inl (cB, 16, .inl fb))] sz) := by
  refine Met.ofW (cc := cJ7_copyOfRange_39247) (maxL := 3) (ret := (some (.array .byte))) (by decide) rfl ?_
  intro p e s m args below meth c s₁ B hml hv
  obtain ⟨rfl, hsz, hP, hK, hD0, hN⟩ := hv
  have hx := B.exec
  have hb := B.bytes
  have hr := B.returns
  have hts := atoms_spec (ws := wsJ7_copyOfRange_39247) B.pre
  have hown : s.vm.findClass RJ7 = some m.cls := findClass_of_methodNamed B.named
  have hlocks := B.notSynchronized
  subst hsz
  have hD := hD0.self (sz := s.heap.size)
  generalize hAe : va_A [(bv, .inl (cB, 16, .inl fb))] s.heap.size = A at hD ⊢
  have hA : ∀ q : Nat, s.heap.size ≤ q → A q := fun q h => by rw [← hAe]; exact Or.inr h
  have hS : va_S A s.heap s.heap [] := va_S.rf
  have hP : va_P (dC, dI) vwCl [(bv, .inl (cB, 16, .inl fb))] s.heap := hP
  have hD : va_D A [(bv, .inl (cB, 16, .inl fb))] := hD
  have hl := lv_entry ([.ref bv, .int 0, .int 1]) (n := 3) (Nat.le_of_ble_eq_true rfl)
  rw [lg_entry_eq]
  generalize (lg_sl ([.ref bv, .int 0, .int 1]) ++ List.replicate (3 - (lg_sl ([.ref bv, .int 0, .int 1])).length) Slot.unset).toArray = ls at hl ⊢
  have hl : lv_has ls 3 [(0, .ref bv), (1, .int 0), (2, .int 1)] := hl
  have iWJ4 : ∀ w ∈ u_ws RJ4 TJ4 4, w ∈ wsJ7_copyOfRange_39247 := by decide +kernel
  refine lv_iload_n hx hb dJ7_copyOfRange_39247_0 rfl (lv_at hl 1 rfl) ?_
  refine lv_if_ne (tgt := 10) hx hb dJ7_copyOfRange_39247_1 (by decide) (fun c1_1 => ?_) (fun c1_1 => ?_)
  · exact (c1_1 (by decide)).elim
  · refine lv_iload_n hx hb dJ7_copyOfRange_39247_4 rfl (lv_at hl 2 rfl) ?_
    refine lv_aload_n hx hb dJ7_copyOfRange_39247_5 rfl (lv_at hl 0 rfl) ?_
    refine va_alen hx hb hK hP 0 0 rfl rfl (v := 16) (by rfl) dJ7_copyOfRange_39247_6 ?_
    refine lv_icmp_eq (tgt := 17) hx hb dJ7_copyOfRange_39247_7 (by decide) (fun c7_2 => ?_) (fun c7_2 => ?_)
    · exact absurd c7_2 (by decide)
    · refine lv_aload_n hx hb dJ7_copyOfRange_39247_10 rfl (lv_at hl 0 rfl) ?_
      refine lv_iload_n hx hb dJ7_copyOfRange_39247_11 rfl (lv_at hl 1 rfl) ?_
      refine lv_iload_n hx hb dJ7_copyOfRange_39247_12 rfl (lv_at hl 2 rfl) ?_
      have hPc := hP.sub (ws' := [(bv, .inl (cB, 16, .inl fb))]) [0] rfl
      have hDc := hD.sub (ws' := [(bv, .inl (cB, 16, .inl fb))]) [0] (by decide) rfl
      have hKc := hK.sub (tys' := [(cB, .byte)]) [0] rfl
      have hFc := va_free (wc := [(bv, .inl (cB, 16, .inl fb))]) hD hS hA [0] rfl
      refine va_callr (va_runS (As := [.ref bv, .int 0, .int 1]) (rest := []) ⟨hx, hb, hml, hown, hts⟩ (c_J7_cRB_1 l dC dI cB bv fb hfb s.heap.size) (va_cwS 3 hts gJ7_copyOfRange_39247_J7_copyOfRangeByte_39247 rfl rfl rfl (by decide +kernel) ⟨Nat.le_of_ble_eq_true rfl, Nat.le_of_ble_eq_true rfl⟩) (pcS hPc hDc hKc hN) rfl rfl hl.1 rfl (lv_room (Nat.le_of_ble_eq_true rfl)) dJ7_copyOfRange_39247_13 ⟨Nat.le_of_ble_eq_true rfl, Nat.le_of_ble_eq_true rfl⟩) hS (fun q _ h => hFc q h) hFc (fun u r_4 t H1 locs ht hvm hw_5 hB hz1 hk1 hS => ?_)
      obtain ⟨hP1, hK1, hD1⟩ := hB
      rw [ht] at hP1
      try dsimp only at hw_5
      obtain ⟨hP, hD⟩ := va_join (wr := []) (w1 := [(bv, .inl (cB, 16, .inl fb)), (r_4, .inl (cB, 1, .inl u))]) hP hD [0] [] rfl rfl (by decide) (by decide) hk1 hFc hP1 hD1
      generalize H1 = H at hP hS ⊢
      have hP : va_P (dC, dI) vwCl [(bv, .inl (cB, 16, .inl fb)), (r_4, .inl (cB, 1, .inl u))] H := hP
      have hD : va_D A [(bv, .inl (cB, 16, .inl fb)), (r_4, .inl (cB, 1, .inl u))] := hD
      refine W.widen (k := 1) (n := 1) (Nat.le_of_ble_eq_true rfl) (Nat.le_of_ble_eq_true rfl) ?_
      obtain ⟨f_3, ef_3⟩ : ∃ z, z = u := ⟨_, rfl⟩
      subst ef_3
      have hP9 := hP.sub (ws' := [(bv, .inl (cB, 16, .inl fb)), (r_4, .inl (cB, 1, .inl f_3))]) [0, 1] rfl
      have hD9 := hD.sub (ws' := [(bv, .inl (cB, 16, .inl fb)), (r_4, .inl (cB, 1, .inl f_3))]) [0, 1] (by decide) rfl
      have hK9 := hK.sub (tys' := [(cB, .byte)]) [0] rfl
      exact W.aret (v := .ref r_4) hx hb hr (Or.inr ⟨_, rfl⟩) (Or.inr ⟨_, rfl⟩) (fun t ht hW => ⟨⟨f_3, r_4, rfl, hw_5, ⟨by rw [ht]; exact hP9, va_K.moved hW.alike hK9, hD9⟩⟩, hS.F ht⟩) hS.2.2 dJ7_copyOfRange_39247_16

set_option maxHeartbeats 4000000 in
set_option maxRecDepth 100000 in
/-- J0_init_db425 -/
theorem c_J0_init2_0 (l : Launch) (dC : Nat → ClassId) (dI : Nat → Nat → Nat) (e0 : Nat) (aK aV : Nat → Nat) (cB : ClassId) (sb bv : Nat) (mq : Int32) (fb : Nat → Int32) (st : Nat) (sz : Nat) : Met l yJ0_init_db425 wsJ0_init_db425 ({ frames := 3, cells := 1, slots := 0, locals := 106 }) (va_Pc [.ref st, .ref sb, .null] (cPCz (zM e0 aK aV) dC dI [(sb, .inr (1, [.ref bv, .int 0, .int mq, .int 0])), (bv, .inl (cB, 16, .inl fb)), (st, .inr (0, [.null, .int 0, .int 0, .int 0]))] [(cB, .byte)] sz)) (va_Qv (fun (u : Nat × (Nat → Int32)) => True) (fun (u : Nat × (Nat → Int32)) t => cQB dC dI [(sb, .inr (1, [.ref bv, .int 0, .int mq, .int 0])), (bv, .inl (cB, 16, .inl fb)), (st, .inr (0, [.ref u.1, .int 0, .int 0, .int 0])), (u.1, .inl (cB, 0, .inl u.2))] [(cB, .byte)] (va_A [(sb, .inr (1, [.ref bv, .int 0, .int mq, .int 0])), (bv, .inl (cB, 16, .inl fb)), (st, .inr (0, [.null, .int 0, .int 0, .int 0]))] sz) t) (va_A [(sb, .inr (1, [.ref bv, .int 0, .int mq, .int 0])), (bv, .inl (cB, 16, .inl fb)), (st, .inr (0, [.null, .int 0, .int 0, .int 0]))] sz)) 1 0 (va_A [(sb, .inr (1, [.ref bv, .int 0, .int mq, .int 0])), (bv, .inl (cB, 16, .inl fb)), (st, .inr (0, [.null, .int 0, .int 0, .int 0]))] sz) := by
  refine Met.ofW (cc := cJ0_init_db425) (maxL := 5) (ret := none) (by decide) rfl ?_
  intro p e s m args below meth c s₁ B hml hv
  obtain ⟨rfl, ⟨hsz, hP, hK, hD0, hN⟩, hZ⟩ := hv
  have hx := B.exec
  have hb := B.bytes
  have hr := B.returns
  have hts := atoms_spec (ws := wsJ0_init_db425) B.pre
  have hown : s.vm.findClass RJ0 = some m.cls := findClass_of_methodNamed B.named
  have hlocks := B.notSynchronized
  have hin : meth.name = "<init>" := (name_of_methodNamed B.named B.method).1
  subst hsz
  have hD := hD0.self (sz := s.heap.size)
  generalize hAe : va_A [(sb, .inr (1, [.ref bv, .int 0, .int mq, .int 0])), (bv, .inl (cB, 16, .inl fb)), (st, .inr (0, [.null, .int 0, .int 0, .int 0]))] s.heap.size = A at hD hZ ⊢
  have hA : ∀ q : Nat, s.heap.size ≤ q → A q := fun q h => by rw [← hAe]; exact Or.inr h
  have hS : va_S A s.heap s.heap [] := va_S.rf
  have hP : va_P (dC, dI) vwCl [(sb, .inr (1, [.ref bv, .int 0, .int mq, .int 0])), (bv, .inl (cB, 16, .inl fb)), (st, .inr (0, [.null, .int 0, .int 0, .int 0]))] s.heap := hP
  have hD : va_D A [(sb, .inr (1, [.ref bv, .int 0, .int mq, .int 0])), (bv, .inl (cB, 16, .inl fb)), (st, .inr (0, [.null, .int 0, .int 0, .int 0]))] := hD
  have hl := lv_entry ([.ref st, .ref sb, .null]) (n := 5) (Nat.le_of_ble_eq_true rfl)
  rw [lg_entry_eq]
  generalize (lg_sl ([.ref st, .ref sb, .null]) ++ List.replicate (5 - (lg_sl ([.ref st, .ref sb, .null])).length) Slot.unset).toArray = ls at hl ⊢
  have hl : lv_has ls 5 [(0, .ref st), (1, .ref sb), (2, .null)] := hl
  have iWJ0 : ∀ w ∈ u_ws RJ0 TJ0 4, w ∈ wsJ0_init_db425 := by decide +kernel
  have iWJ4 : ∀ w ∈ u_ws RJ4 TJ4 4, w ∈ wsJ0_init_db425 := by decide +kernel
  refine lv_aload_n hx hb dJ0_init_db425_0 rfl (lv_at hl 0 rfl) ?_
  refine W.objInit hx hb hown (hts (.methodLink RJ0 1 Lib.objectInit) (by decide +kernel)) (hts (.instanceMethod Lib.objectInit) (by decide +kernel)) (hts (.code Lib.objectInit ⟨#[0xb1]⟩ 1 none) (by decide +kernel)) rfl (by rw [hml]; exact hl.1) rfl dJ0_init_db425_1 (Nat.le_of_ble_eq_true rfl) (Nat.le_of_ble_eq_true rfl) ?_
  refine W.eq (g2 := F0 m 4 ls []) rfl ?_
  refine lv_aload_n hx hb dJ0_init_db425_4 rfl (lv_at hl 1 rfl) ?_
  have hPc := hP.sub (ws' := [(sb, .inr (1, [.ref bv, .int 0, .int mq, .int 0]))]) [0] rfl
  have hDc := hD.sub (ws' := [(sb, .inr (1, [.ref bv, .int 0, .int mq, .int 0]))]) [0] (by decide) rfl
  have hKc := hK.sub (tys' := []) [] rfl
  have hFc := va_free (wc := [(sb, .inr (1, [.ref bv, .int 0, .int mq, .int 0]))]) hD hS hA [0] rfl
  refine va_callr (va_runU (As := []) (rest := []) ⟨hx, hb, hml, hown, hts⟩ (c_J5_getValue_6d5f1 l dC dI cB sb bv mq 0 s.heap.size) (va_cwU 0 hts gJ0_init_db425_J5_getValue_6d5f1_u552J4 rfl rfl rfl rfl (by decide +kernel) ⟨Nat.le_of_ble_eq_true rfl, Nat.le_of_ble_eq_true rfl⟩) (pcV hPc hDc hKc hN (ci := 1) (q0 := 0) rfl rfl) rfl rfl hl.1 rfl (lv_room (Nat.le_of_ble_eq_true rfl)) dJ0_init_db425_5 ⟨Nat.le_of_ble_eq_true rfl, Nat.le_of_ble_eq_true rfl⟩) hS (fun q _ h => hFc q h) hFc (fun u r_1 t H1 locs ht hvm hw_2 hB hz1 hk1 hS => ?_)
  obtain ⟨ha9, hP1, hK1, hD1⟩ := hB
  rw [ht] at hP1
  try dsimp only at hw_2
  obtain ⟨hP, hD⟩ := va_join (wr := [(bv, .inl (cB, 16, .inl fb)), (st, .inr (0, [.null, .int 0, .int 0, .int 0]))]) (w1 := [(sb, .inr (1, [.ref bv, .int 0, .int mq, .int 0]))]) hP hD [0] [1, 2] rfl rfl (by decide) (by decide) hk1 hFc hP1 hD1
  generalize H1 = H at hP hS ⊢
  have hP : va_P (dC, dI) vwCl [(bv, .inl (cB, 16, .inl fb)), (st, .inr (0, [.null, .int 0, .int 0, .int 0])), (sb, .inr (1, [.ref bv, .int 0, .int mq, .int 0]))] H := hP
  have hD : va_D A [(bv, .inl (cB, 16, .inl fb)), (st, .inr (0, [.null, .int 0, .int 0, .int 0])), (sb, .inr (1, [.ref bv, .int 0, .int mq, .int 0]))] := hD
  rw [ha9]
  refine lv_astore_n (lv' := [(3, .ref bv), (0, .ref st), (1, .ref sb), (2, .null)]) hx hb dJ0_init_db425_8 rfl hl (by decide) rfl (fun ls hl => ?_)
  refine lv_aload_n hx hb dJ0_init_db425_9 rfl (lv_at hl 2 rfl) ?_
  have hPc := hP.sub (ws' := [(sb, .inr (1, [.ref bv, .int 0, .int mq, .int 0]))]) [2] rfl
  have hDc := hD.sub (ws' := [(sb, .inr (1, [.ref bv, .int 0, .int mq, .int 0]))]) [2] (by decide) rfl
  have hKc := hK.sub (tys' := []) [] rfl
  have hFc := va_free (wc := [(sb, .inr (1, [.ref bv, .int 0, .int mq, .int 0]))]) hD hS hA [2] rfl
  refine va_calli (va_runU (As := []) (rest := []) ⟨hx, hb, hml, hown, hts⟩ (c_J4_length_8abf5 l dC dI cB sb bv mq 0 H.size) (va_cwO 0 hts gJ0_init_db425_J4_length_8abf5_u549J4 rfl rfl rfl (b0 := cJ5_length_8abf5) (m0 := 1) (r0 := (some .int)) (by decide +kernel) (by decide +kernel) ⟨Nat.le_of_ble_eq_true rfl, Nat.le_of_ble_eq_true rfl⟩) (pcV hPc hDc hKc hN (ci := 1) (q0 := 0) rfl rfl) rfl rfl hl.1 rfl (lv_room (Nat.le_of_ble_eq_true rfl)) dJ0_init_db425_10 ⟨Nat.le_of_ble_eq_true rfl, Nat.le_of_ble_eq_true rfl⟩) hS (fun q _ h => hFc q h) hFc (fun r_3 u t H1 locs ht hvm hw_4 hB hz1 hk1 hS => ?_)
  obtain ⟨hP1, hK1, hD1⟩ := hB
  rw [ht] at hP1
  try dsimp only at hw_4
  obtain ⟨hP, hD⟩ := va_join (wr := [(bv, .inl (cB, 16, .inl fb)), (st, .inr (0, [.null, .int 0, .int 0, .int 0]))]) (w1 := [(sb, .inr (1, [.ref bv, .int 0, .int mq, .int 0]))]) hP hD [2] [0, 1] rfl rfl (by decide) (by decide) hk1 hFc hP1 hD1
  generalize H1 = H at hP hS ⊢
  have hP : va_P (dC, dI) vwCl [(bv, .inl (cB, 16, .inl fb)), (st, .inr (0, [.null, .int 0, .int 0, .int 0])), (sb, .inr (1, [.ref bv, .int 0, .int mq, .int 0]))] H := hP
  have hD : va_D A [(bv, .inl (cB, 16, .inl fb)), (st, .inr (0, [.null, .int 0, .int 0, .int 0])), (sb, .inr (1, [.ref bv, .int 0, .int mq, .int 0]))] := hD
  subst hw_4
  refine lv_istore (lv' := [(4, .int 0), (3, .ref bv), (0, .ref st), (1, .ref sb), (2, .null)]) hx hb dJ0_init_db425_13 hl (by decide) rfl (fun ls hl => ?_)
  refine lv_aload_n hx hb dJ0_init_db425_15 rfl (lv_at hl 3 rfl) ?_
  have hPc := hP.sub (ws' := [(sb, .inr (1, [.ref bv, .int 0, .int mq, .int 0]))]) [2] rfl
  have hDc := hD.sub (ws' := [(sb, .inr (1, [.ref bv, .int 0, .int mq, .int 0]))]) [2] (by decide) rfl
  have hKc := hK.sub (tys' := []) [] rfl
  have hFc := va_free (wc := [(sb, .inr (1, [.ref bv, .int 0, .int mq, .int 0]))]) hD hS hA [2] rfl
  refine va_calli (va_runU (As := []) (rest := []) ⟨hx, hb, hml, hown, hts⟩ (c_J5_isLatin1_aae02 l dC dI e0 aK aV cB sb bv mq 0 H.size) (va_cwU 0 hts gJ0_init_db425_J5_isLatin1_aae02_u1047J4 rfl rfl rfl rfl (by decide +kernel) ⟨Nat.le_of_ble_eq_true rfl, Nat.le_of_ble_eq_true rfl⟩) (pcVz (zM_ok e0 aK aV) hPc hDc hKc hN hZ hS hFc (ci := 1) (q0 := 0) rfl rfl) rfl rfl hl.1 rfl (lv_room (Nat.le_of_ble_eq_true rfl)) dJ0_init_db425_16 ⟨Nat.le_of_ble_eq_true rfl, Nat.le_of_ble_eq_true rfl⟩) hS (fun q _ h => hFc q h) hFc (fun r_5 u t H1 locs ht hvm hw_6 hB hz1 hk1 hS => ?_)
  obtain ⟨hP1, hK1, hD1⟩ := hB
  rw [ht] at hP1
  try dsimp only at hw_6
  obtain ⟨hP, hD⟩ := va_join (wr := [(bv, .inl (cB, 16, .inl fb)), (st, .inr (0, [.null, .int 0, .int 0, .int 0]))]) (w1 := [(sb, .inr (1, [.ref bv, .int 0, .int mq, .int 0]))]) hP hD [2] [0, 1] rfl rfl (by decide) (by decide) hk1 hFc hP1 hD1
  generalize H1 = H at hP hS ⊢
  have hP : va_P (dC, dI) vwCl [(bv, .inl (cB, 16, .inl fb)), (st, .inr (0, [.null, .int 0, .int 0, .int 0])), (sb, .inr (1, [.ref bv, .int 0, .int mq, .int 0]))] H := hP
  have hD : va_D A [(bv, .inl (cB, 16, .inl fb)), (st, .inr (0, [.null, .int 0, .int 0, .int 0])), (sb, .inr (1, [.ref bv, .int 0, .int mq, .int 0]))] := hD
  subst hw_6
  refine lv_if_eq (tgt := 41) hx hb dJ0_init_db425_19 (by decide) (fun c19_7 => ?_) (fun c19_7 => ?_)
  · exact absurd c19_7 (by decide)
  · refine lv_aload_n hx hb dJ0_init_db425_22 rfl (lv_at hl 2 rfl) ?_
    refine lv_iconst (v := 0) hx hb dJ0_init_db425_23 (by decide) ?_
    refine va_putF (D := (dC, dI)) (ci := 0) (v := .int 0) (ty := .byte) (C := RJ0) (T := TJ0) (N := 4) hx hb hts iWJ0 tyJ0 tyJ0_ok nmJ0 hown hK hP hD hS 1 rfl rfl 1 (by decide) (hts (.fieldLink RJ0 15 "java/lang/String" "coder" "B") (by decide +kernel)) (fun _ h9 => h9) rfl hin rfl (by decide +kernel) rfl rfl (Nat.le_of_ble_eq_true rfl) dJ0_init_db425_24 (fun H locs hP hD hS => ?_)
    have hP : va_P (dC, dI) vwCl [(bv, .inl (cB, 16, .inl fb)), (st, .inr (0, [.null, .int 0, .int 0, .int 0])), (sb, .inr (1, [.ref bv, .int 0, .int mq, .int 0]))] H := hP
    have hD : va_D A [(bv, .inl (cB, 16, .inl fb)), (st, .inr (0, [.null, .int 0, .int 0, .int 0])), (sb, .inr (1, [.ref bv, .int 0, .int mq, .int 0]))] := hD
    refine lv_aload_n hx hb dJ0_init_db425_27 rfl (lv_at hl 2 rfl) ?_
    refine lv_aload_n hx hb dJ0_init_db425_28 rfl (lv_at hl 1 rfl) ?_
    refine lv_iconst (v := 0) hx hb dJ0_init_db425_29 (by decide) ?_
    refine lv_iload hx hb dJ0_init_db425_30 (lv_at hl 0 rfl) ?_
    have hPc := hP.sub (ws' := [(bv, .inl (cB, 16, .inl fb))]) [0] rfl
    have hDc := hD.sub (ws' := [(bv, .inl (cB, 16, .inl fb))]) [0] (by decide) rfl
    have hKc := hK.sub (tys' := [(cB, .byte)]) [0] rfl
    have hFc := va_free (wc := [(bv, .inl (cB, 16, .inl fb))]) hD hS hA [0] rfl
    refine va_callr (va_runS (As := [.ref bv, .int 0, .int 0]) (rest := [.ref st]) ⟨hx, hb, hml, hown, hts⟩ (c_J7_cR_0 l dC dI cB bv fb H.size) (va_cwS 3 hts gJ0_init_db425_J7_copyOfRange_39247 rfl rfl rfl (by decide +kernel) ⟨Nat.le_of_ble_eq_true rfl, Nat.le_of_ble_eq_true rfl⟩) (pcS hPc hDc hKc hN) rfl rfl hl.1 rfl (lv_room (Nat.le_of_ble_eq_true rfl)) dJ0_init_db425_32 ⟨Nat.le_of_ble_eq_true rfl, Nat.le_of_ble_eq_true rfl⟩) hS (fun q _ h => hFc q h) hFc (fun u r_9 t H1 locs ht hvm hw_10 hB hz1 hk1 hS => ?_)
    obtain ⟨hP1, hK1, hD1⟩ := hB
    rw [ht] at hP1
    try dsimp only at hw_10
    obtain ⟨hP, hD⟩ := va_join (wr := [(st, .inr (0, [.null, .int 0, .int 0, .int 0])), (sb, .inr (1, [.ref bv, .int 0, .int mq, .int 0]))]) (w1 := [(bv, .inl (cB, 16, .inl fb)), (r_9, .inl (cB, 0, .inl u))]) hP hD [0] [1, 2] rfl rfl (by decide) (by decide) hk1 hFc hP1 hD1
    generalize H1 = H at hP hS ⊢
    have hP : va_P (dC, dI) vwCl [(st, .inr (0, [.null, .int 0, .int 0, .int 0])), (sb, .inr (1, [.ref bv, .int 0, .int mq, .int 0])), (bv, .inl (cB, 16, .inl fb)), (r_9, .inl (cB, 0, .inl u))] H := hP
    have hD : va_D A [(st, .inr (0, [.null, .int 0, .int 0, .int 0])), (sb, .inr (1, [.ref bv, .int 0, .int mq, .int 0])), (bv, .inl (cB, 16, .inl fb)), (r_9, .inl (cB, 0, .inl u))] := hD
    refine W.widen (k := 1) (n := 0) (Nat.le_of_ble_eq_true rfl) (Nat.le_of_ble_eq_true rfl) ?_
    obtain ⟨f_8, ef_8⟩ : ∃ z, z = u := ⟨_, rfl⟩
    subst ef_8
    refine va_putF (D := (dC, dI)) (ci := 0) (v := .ref r_9) (ty := .array .byte) (C := RJ0) (T := TJ0) (N := 4) hx hb hts iWJ0 tyJ0 tyJ0_ok nmJ0 hown hK hP hD hS 0 rfl rfl 0 (by decide) (hts (.fieldLink RJ0 9 "java/lang/String" "value" "[B") (by decide +kernel)) (fun _ h9 => h9) rfl hin rfl (by decide +kernel) rfl rfl (Nat.le_of_ble_eq_true rfl) dJ0_init_db425_35 (fun H locs hP hD hS => ?_)
    have hP : va_P (dC, dI) vwCl [(st, .inr (0, [.ref r_9, .int 0, .int 0, .int 0])), (sb, .inr (1, [.ref bv, .int 0, .int mq, .int 0])), (bv, .inl (cB, 16, .inl fb)), (r_9, .inl (cB, 0, .inl f_8))] H := hP
    have hD : va_D A [(st, .inr (0, [.ref r_9, .int 0, .int 0, .int 0])), (sb, .inr (1, [.ref bv, .int 0, .int mq, .int 0])), (bv, .inl (cB, 16, .inl fb)), (r_9, .inl (cB, 0, .inl f_8))] := hD
    refine lv_goto (tgt := 97) hx hb dJ0_init_db425_38 (by decide) ?_
    have hP9 := hP.sub (ws' := [(sb, .inr (1, [.ref bv, .int 0, .int mq, .int 0])), (bv, .inl (cB, 16, .inl fb)), (st, .inr (0, [.ref r_9, .int 0, .int 0, .int 0])), (r_9, .inl (cB, 0, .inl f_8))]) [1, 2, 0, 3] rfl
    have hD9 := hD.sub (ws' := [(sb, .inr (1, [.ref bv, .int 0, .int mq, .int 0])), (bv, .inl (cB, 16, .inl fb)), (st, .inr (0, [.ref r_9, .int 0, .int 0, .int 0])), (r_9, .inl (cB, 0, .inl f_8))]) [1, 2, 0, 3] (by decide) rfl
    have hK9 := hK.sub (tys' := [(cB, .byte)]) [0] rfl
    exact W.vret hx hb hr (fun t ht hW => ⟨⟨(r_9, f_8), rfl, trivial, ⟨by rw [ht]; exact hP9, va_K.moved hW.alike hK9, hD9⟩⟩, hS.F ht⟩) hS.2.2 dJ0_init_db425_97

set_option maxHeartbeats 4000000 in
set_option maxRecDepth 100000 in
/-- J0_init_db425 -/
theorem c_J0_init2_1 (l : Launch) (dC : Nat → ClassId) (dI : Nat → Nat → Nat) (e0 : Nat) (aK aV : Nat → Nat) (cB : ClassId) (sb bv : Nat) (mq : Int32) (fb : Nat → Int32) (st : Nat) (hfb : fits .byte (.int (fb 0)) = true) (sz : Nat) : Met l yJ0_init_db425 wsJ0_init_db425 ({ frames := 3, cells := 1, slots := 1, locals := 106 }) (va_Pc [.ref st, .ref sb, .null] (cPCz (zM e0 aK aV) dC dI [(sb, .inr (1, [.ref bv, .int 0, .int mq, .int 1])), (bv, .inl (cB, 16, .inl fb)), (st, .inr (0, [.null, .int 0, .int 0, .int 0]))] [(cB, .byte)] sz)) (va_Qv (fun (u : Nat × (Nat → Int32)) => u.2 0 = fb 0) (fun (u : Nat × (Nat → Int32)) t => cQB dC dI [(sb, .inr (1, [.ref bv, .int 0, .int mq, .int 1])), (bv, .inl (cB, 16, .inl fb)), (st, .inr (0, [.ref u.1, .int 0, .int 0, .int 0])), (u.1, .inl (cB, 1, .inl u.2))] [(cB, .byte)] (va_A [(sb, .inr (1, [.ref bv, .int 0, .int mq, .int 1])), (bv, .inl (cB, 16, .inl fb)), (st, .inr (0, [.null, .int 0, .int 0, .int 0]))] sz) t) (va_A [(sb, .inr (1, [.ref bv, .int 0, .int mq, .int 1])), (bv, .inl (cB, 16, .inl fb)), (st, .inr (0, [.null, .int 0, .int 0, .int 0]))] sz)) 1 1 (va_A [(sb, .inr (1, [.ref bv, .int 0, .int mq, .int 1])), (bv, .inl (cB, 16, .inl fb)), (st, .inr (0, [.null, .int 0, .int 0, .int 0]))] sz) := by
  refine Met.ofW (cc := cJ0_init_db425) (maxL := 5) (ret := none) (by decide) rfl ?_
  intro p e s m args below meth c s₁ B hml hv
  obtain ⟨rfl, ⟨hsz, hP, hK, hD0, hN⟩, hZ⟩ := hv
  have hx := B.exec
  have hb := B.bytes
  have hr := B.returns
  have hts := atoms_spec (ws := wsJ0_init_db425) B.pre
  have hown : s.vm.findClass RJ0 = some m.cls := findClass_of_methodNamed B.named
  have hlocks := B.notSynchronized
  have hin : meth.name = "<init>" := (name_of_methodNamed B.named B.method).1
  subst hsz
  have hD := hD0.self (sz := s.heap.size)
  generalize hAe : va_A [(sb, .inr (1, [.ref bv, .int 0, .int mq, .int 1])), (bv, .inl (cB, 16, .inl fb)), (st, .inr (0, [.null, .int 0, .int 0, .int 0]))] s.heap.size = A at hD hZ ⊢
  have hA : ∀ q : Nat, s.heap.size ≤ q → A q := fun q h => by rw [← hAe]; exact Or.inr h
  have hS : va_S A s.heap s.heap [] := va_S.rf
  have hP : va_P (dC, dI) vwCl [(sb, .inr (1, [.ref bv, .int 0, .int mq, .int 1])), (bv, .inl (cB, 16, .inl fb)), (st, .inr (0, [.null, .int 0, .int 0, .int 0]))] s.heap := hP
  have hD : va_D A [(sb, .inr (1, [.ref bv, .int 0, .int mq, .int 1])), (bv, .inl (cB, 16, .inl fb)), (st, .inr (0, [.null, .int 0, .int 0, .int 0]))] := hD
  have hl := lv_entry ([.ref st, .ref sb, .null]) (n := 5) (Nat.le_of_ble_eq_true rfl)
  rw [lg_entry_eq]
  generalize (lg_sl ([.ref st, .ref sb, .null]) ++ List.replicate (5 - (lg_sl ([.ref st, .ref sb, .null])).length) Slot.unset).toArray = ls at hl ⊢
  have hl : lv_has ls 5 [(0, .ref st), (1, .ref sb), (2, .null)] := hl
  have iWJ0 : ∀ w ∈ u_ws RJ0 TJ0 4, w ∈ wsJ0_init_db425 := by decide +kernel
  have iWJ4 : ∀ w ∈ u_ws RJ4 TJ4 4, w ∈ wsJ0_init_db425 := by decide +kernel
  refine lv_aload_n hx hb dJ0_init_db425_0 rfl (lv_at hl 0 rfl) ?_
  refine W.objInit hx hb hown (hts (.methodLink RJ0 1 Lib.objectInit) (by decide +kernel)) (hts (.instanceMethod Lib.objectInit) (by decide +kernel)) (hts (.code Lib.objectInit ⟨#[0xb1]⟩ 1 none) (by decide +kernel)) rfl (by rw [hml]; exact hl.1) rfl dJ0_init_db425_1 (Nat.le_of_ble_eq_true rfl) (Nat.le_of_ble_eq_true rfl) ?_
  refine W.eq (g2 := F0 m 4 ls []) rfl ?_
  refine lv_aload_n hx hb dJ0_init_db425_4 rfl (lv_at hl 1 rfl) ?_
  have hPc := hP.sub (ws' := [(sb, .inr (1, [.ref bv, .int 0, .int mq, .int 1]))]) [0] rfl
  have hDc := hD.sub (ws' := [(sb, .inr (1, [.ref bv, .int 0, .int mq, .int 1]))]) [0] (by decide) rfl
  have hKc := hK.sub (tys' := []) [] rfl
  have hFc := va_free (wc := [(sb, .inr (1, [.ref bv, .int 0, .int mq, .int 1]))]) hD hS hA [0] rfl
  refine va_callr (va_runU (As := []) (rest := []) ⟨hx, hb, hml, hown, hts⟩ (c_J5_getValue_6d5f1 l dC dI cB sb bv mq 1 s.heap.size) (va_cwU 0 hts gJ0_init_db425_J5_getValue_6d5f1_u552J4 rfl rfl rfl rfl (by decide +kernel) ⟨Nat.le_of_ble_eq_true rfl, Nat.le_of_ble_eq_true rfl⟩) (pcV hPc hDc hKc hN (ci := 1) (q0 := 0) rfl rfl) rfl rfl hl.1 rfl (lv_room (Nat.le_of_ble_eq_true rfl)) dJ0_init_db425_5 ⟨Nat.le_of_ble_eq_true rfl, Nat.le_of_ble_eq_true rfl⟩) hS (fun q _ h => hFc q h) hFc (fun u r_1 t H1 locs ht hvm hw_2 hB hz1 hk1 hS => ?_)
  obtain ⟨ha9, hP1, hK1, hD1⟩ := hB
  rw [ht] at hP1
  try dsimp only at hw_2
  obtain ⟨hP, hD⟩ := va_join (wr := [(bv, .inl (cB, 16, .inl fb)), (st, .inr (0, [.null, .int 0, .int 0, .int 0]))]) (w1 := [(sb, .inr (1, [.ref bv, .int 0, .int mq, .int 1]))]) hP hD [0] [1, 2] rfl rfl (by decide) (by decide) hk1 hFc hP1 hD1
  generalize H1 = H at hP hS ⊢
  have hP : va_P (dC, dI) vwCl [(bv, .inl (cB, 16, .inl fb)), (st, .inr (0, [.null, .int 0, .int 0, .int 0])), (sb, .inr (1, [.ref bv, .int 0, .int mq, .int 1]))] H := hP
  have hD : va_D A [(bv, .inl (cB, 16, .inl fb)), (st, .inr (0, [.null, .int 0, .int 0, .int 0])), (sb, .inr (1, [.ref bv, .int 0, .int mq, .int 1]))] := hD
  rw [ha9]
  refine lv_astore_n (lv' := [(3, .ref bv), (0, .ref st), (1, .ref sb), (2, .null)]) hx hb dJ0_init_db425_8 rfl hl (by decide) rfl (fun ls hl => ?_)
  refine lv_aload_n hx hb dJ0_init_db425_9 rfl (lv_at hl 2 rfl) ?_
  have hPc := hP.sub (ws' := [(sb, .inr (1, [.ref bv, .int 0, .int mq, .int 1]))]) [2] rfl
  have hDc := hD.sub (ws' := [(sb, .inr (1, [.ref bv, .int 0, .int mq, .int 1]))]) [2] (by decide) rfl
  have hKc := hK.sub (tys' := []) [] rfl
  have hFc := va_free (wc := [(sb, .inr (1, [.ref bv, .int 0, .int mq, .int 1]))]) hD hS hA [2] rfl
  refine va_calli (va_runU (As := []) (rest := []) ⟨hx, hb, hml, hown, hts⟩ (c_J4_length_8abf5 l dC dI cB sb bv mq 1 H.size) (va_cwO 0 hts gJ0_init_db425_J4_length_8abf5_u549J4 rfl rfl rfl (b0 := cJ5_length_8abf5) (m0 := 1) (r0 := (some .int)) (by decide +kernel) (by decide +kernel) ⟨Nat.le_of_ble_eq_true rfl, Nat.le_of_ble_eq_true rfl⟩) (pcV hPc hDc hKc hN (ci := 1) (q0 := 0) rfl rfl) rfl rfl hl.1 rfl (lv_room (Nat.le_of_ble_eq_true rfl)) dJ0_init_db425_10 ⟨Nat.le_of_ble_eq_true rfl, Nat.le_of_ble_eq_true rfl⟩) hS (fun q _ h => hFc q h) hFc (fun r_3 u t H1 locs ht hvm hw_4 hB hz1 hk1 hS => ?_)
  obtain ⟨hP1, hK1, hD1⟩ := hB
  rw [ht] at hP1
  try dsimp only at hw_4
  obtain ⟨hP, hD⟩ := va_join (wr := [(bv, .inl (cB, 16, .inl fb)), (st, .inr (0, [.null, .int 0, .int 0, .int 0]))]) (w1 := [(sb, .inr (1, [.ref bv, .int 0, .int mq, .int 1]))]) hP hD [2] [0, 1] rfl rfl (by decide) (by decide) hk1 hFc hP1 hD1
  generalize H1 = H at hP hS ⊢
  have hP : va_P (dC, dI) vwCl [(bv, .inl (cB, 16, .inl fb)), (st, .inr (0, [.null, .int 0, .int 0, .int 0])), (sb, .inr (1, [.ref bv, .int 0, .int mq, .int 1]))] H := hP
  have hD : va_D A [(bv, .inl (cB, 16, .inl fb)), (st, .inr (0, [.null, .int 0, .int 0, .int 0])), (sb, .inr (1, [.ref bv, .int 0, .int mq, .int 1]))] := hD
  subst hw_4
  refine lv_istore (lv' := [(4, .int 1), (3, .ref bv), (0, .ref st), (1, .ref sb), (2, .null)]) hx hb dJ0_init_db425_13 hl (by decide) rfl (fun ls hl => ?_)
  refine lv_aload_n hx hb dJ0_init_db425_15 rfl (lv_at hl 3 rfl) ?_
  have hPc := hP.sub (ws' := [(sb, .inr (1, [.ref bv, .int 0, .int mq, .int 1]))]) [2] rfl
  have hDc := hD.sub (ws' := [(sb, .inr (1, [.ref bv, .int 0, .int mq, .int 1]))]) [2] (by decide) rfl
  have hKc := hK.sub (tys' := []) [] rfl
  have hFc := va_free (wc := [(sb, .inr (1, [.ref bv, .int 0, .int mq, .int 1]))]) hD hS hA [2] rfl
  refine va_calli (va_runU (As := []) (rest := []) ⟨hx, hb, hml, hown, hts⟩ (c_J5_isLatin1_aae02 l dC dI e0 aK aV cB sb bv mq 1 H.size) (va_cwU 0 hts gJ0_init_db425_J5_isLatin1_aae02_u1047J4 rfl rfl rfl rfl (by decide +kernel) ⟨Nat.le_of_ble_eq_true rfl, Nat.le_of_ble_eq_true rfl⟩) (pcVz (zM_ok e0 aK aV) hPc hDc hKc hN hZ hS hFc (ci := 1) (q0 := 0) rfl rfl) rfl rfl hl.1 rfl (lv_room (Nat.le_of_ble_eq_true rfl)) dJ0_init_db425_16 ⟨Nat.le_of_ble_eq_true rfl, Nat.le_of_ble_eq_true rfl⟩) hS (fun q _ h => hFc q h) hFc (fun r_5 u t H1 locs ht hvm hw_6 hB hz1 hk1 hS => ?_)
  obtain ⟨hP1, hK1, hD1⟩ := hB
  rw [ht] at hP1
  try dsimp only at hw_6
  obtain ⟨hP, hD⟩ := va_join (wr := [(bv, .inl (cB, 16, .inl fb)), (st, .inr (0, [.null, .int 0, .int 0, .int 0]))]) (w1 := [(sb, .inr (1, [.ref bv, .int 0, .int mq, .int 1]))]) hP hD [2] [0, 1] rfl rfl (by decide) (by decide) hk1 hFc hP1 hD1
  generalize H1 = H at hP hS ⊢
  have hP : va_P (dC, dI) vwCl [(bv, .inl (cB, 16, .inl fb)), (st, .inr (0, [.null, .int 0, .int 0, .int 0])), (sb, .inr (1, [.ref bv, .int 0, .int mq, .int 1]))] H := hP
  have hD : va_D A [(bv, .inl (cB, 16, .inl fb)), (st, .inr (0, [.null, .int 0, .int 0, .int 0])), (sb, .inr (1, [.ref bv, .int 0, .int mq, .int 1]))] := hD
  subst hw_6
  refine lv_if_eq (tgt := 41) hx hb dJ0_init_db425_19 (by decide) (fun c19_7 => ?_) (fun c19_7 => ?_)
  · exact absurd c19_7 (by decide)
  · refine lv_aload_n hx hb dJ0_init_db425_22 rfl (lv_at hl 2 rfl) ?_
    refine lv_iconst (v := 0) hx hb dJ0_init_db425_23 (by decide) ?_
    refine va_putF (D := (dC, dI)) (ci := 0) (v := .int 0) (ty := .byte) (C := RJ0) (T := TJ0) (N := 4) hx hb hts iWJ0 tyJ0 tyJ0_ok nmJ0 hown hK hP hD hS 1 rfl rfl 1 (by decide) (hts (.fieldLink RJ0 15 "java/lang/String" "coder" "B") (by decide +kernel)) (fun _ h9 => h9) rfl hin rfl (by decide +kernel) rfl rfl (Nat.le_of_ble_eq_true rfl) dJ0_init_db425_24 (fun H locs hP hD hS => ?_)
    have hP : va_P (dC, dI) vwCl [(bv, .inl (cB, 16, .inl fb)), (st, .inr (0, [.null, .int 0, .int 0, .int 0])), (sb, .inr (1, [.ref bv, .int 0, .int mq, .int 1]))] H := hP
    have hD : va_D A [(bv, .inl (cB, 16, .inl fb)), (st, .inr (0, [.null, .int 0, .int 0, .int 0])), (sb, .inr (1, [.ref bv, .int 0, .int mq, .int 1]))] := hD
    refine lv_aload_n hx hb dJ0_init_db425_27 rfl (lv_at hl 2 rfl) ?_
    refine lv_aload_n hx hb dJ0_init_db425_28 rfl (lv_at hl 1 rfl) ?_
    refine lv_iconst (v := 0) hx hb dJ0_init_db425_29 (by decide) ?_
    refine lv_iload hx hb dJ0_init_db425_30 (lv_at hl 0 rfl) ?_
    have hPc := hP.sub (ws' := [(bv, .inl (cB, 16, .inl fb))]) [0] rfl
    have hDc := hD.sub (ws' := [(bv, .inl (cB, 16, .inl fb))]) [0] (by decide) rfl
    have hKc := hK.sub (tys' := [(cB, .byte)]) [0] rfl
    have hFc := va_free (wc := [(bv, .inl (cB, 16, .inl fb))]) hD hS hA [0] rfl
    refine va_callr (va_runS (As := [.ref bv, .int 0, .int 1]) (rest := [.ref st]) ⟨hx, hb, hml, hown, hts⟩ (c_J7_cR_1 l dC dI cB bv fb hfb H.size) (va_cwS 3 hts gJ0_init_db425_J7_copyOfRange_39247 rfl rfl rfl (by decide +kernel) ⟨Nat.le_of_ble_eq_true rfl, Nat.le_of_ble_eq_true rfl⟩) (pcS hPc hDc hKc hN) rfl rfl hl.1 rfl (lv_room (Nat.le_of_ble_eq_true rfl)) dJ0_init_db425_32 ⟨Nat.le_of_ble_eq_true rfl, Nat.le_of_ble_eq_true rfl⟩) hS (fun q _ h => hFc q h) hFc (fun u r_9 t H1 locs ht hvm hw_10 hB hz1 hk1 hS => ?_)
    obtain ⟨hP1, hK1, hD1⟩ := hB
    rw [ht] at hP1
    try dsimp only at hw_10
    obtain ⟨hP, hD⟩ := va_join (wr := [(st, .inr (0, [.null, .int 0, .int 0, .int 0])), (sb, .inr (1, [.ref bv, .int 0, .int mq, .int 1]))]) (w1 := [(bv, .inl (cB, 16, .inl fb)), (r_9, .inl (cB, 1, .inl u))]) hP hD [0] [1, 2] rfl rfl (by decide) (by decide) hk1 hFc hP1 hD1
    generalize H1 = H at hP hS ⊢
    have hP : va_P (dC, dI) vwCl [(st, .inr (0, [.null, .int 0, .int 0, .int 0])), (sb, .inr (1, [.ref bv, .int 0, .int mq, .int 1])), (bv, .inl (cB, 16, .inl fb)), (r_9, .inl (cB, 1, .inl u))] H := hP
    have hD : va_D A [(st, .inr (0, [.null, .int 0, .int 0, .int 0])), (sb, .inr (1, [.ref bv, .int 0, .int mq, .int 1])), (bv, .inl (cB, 16, .inl fb)), (r_9, .inl (cB, 1, .inl u))] := hD
    refine W.widen (k := 1) (n := 1) (Nat.le_of_ble_eq_true rfl) (Nat.le_of_ble_eq_true rfl) ?_
    obtain ⟨f_8, ef_8⟩ : ∃ z, z = u := ⟨_, rfl⟩
    subst ef_8
    refine va_putF (D := (dC, dI)) (ci := 0) (v := .ref r_9) (ty := .array .byte) (C := RJ0) (T := TJ0) (N := 4) hx hb hts iWJ0 tyJ0 tyJ0_ok nmJ0 hown hK hP hD hS 0 rfl rfl 0 (by decide) (hts (.fieldLink RJ0 9 "java/lang/String" "value" "[B") (by decide +kernel)) (fun _ h9 => h9) rfl hin rfl (by decide +kernel) rfl rfl (Nat.le_of_ble_eq_true rfl) dJ0_init_db425_35 (fun H locs hP hD hS => ?_)
    have hP : va_P (dC, dI) vwCl [(st, .inr (0, [.ref r_9, .int 0, .int 0, .int 0])), (sb, .inr (1, [.ref bv, .int 0, .int mq, .int 1])), (bv, .inl (cB, 16, .inl fb)), (r_9, .inl (cB, 1, .inl f_8))] H := hP
    have hD : va_D A [(st, .inr (0, [.ref r_9, .int 0, .int 0, .int 0])), (sb, .inr (1, [.ref bv, .int 0, .int mq, .int 1])), (bv, .inl (cB, 16, .inl fb)), (r_9, .inl (cB, 1, .inl f_8))] := hD
    refine lv_goto (tgt := 97) hx hb dJ0_init_db425_38 (by decide) ?_
    have hP9 := hP.sub (ws' := [(sb, .inr (1, [.ref bv, .int 0, .int mq, .int 1])), (bv, .inl (cB, 16, .inl fb)), (st, .inr (0, [.ref r_9, .int 0, .int 0, .int 0])), (r_9, .inl (cB, 1, .inl f_8))]) [1, 2, 0, 3] rfl
    have hD9 := hD.sub (ws' := [(sb, .inr (1, [.ref bv, .int 0, .int mq, .int 1])), (bv, .inl (cB, 16, .inl fb)), (st, .inr (0, [.ref r_9, .int 0, .int 0, .int 0])), (r_9, .inl (cB, 1, .inl f_8))]) [1, 2, 0, 3] (by decide) rfl
    have hK9 := hK.sub (tys' := [(cB, .byte)]) [0] rfl
    exact W.vret hx hb hr (fun t ht hW => ⟨⟨(r_9, f_8), rfl, hw_10, ⟨by rw [ht]; exact hP9, va_K.moved hW.alike hK9, hD9⟩⟩, hS.F ht⟩) hS.2.2 dJ0_init_db425_97

set_option maxHeartbeats 4000000 in
set_option maxRecDepth 100000 in
/-- J0_init_81219 -/
theorem c_J0_init1_0 (l : Launch) (dC : Nat → ClassId) (dI : Nat → Nat → Nat) (e0 : Nat) (aK aV : Nat → Nat) (cB : ClassId) (sb bv : Nat) (mq : Int32) (fb : Nat → Int32) (st : Nat) (sz : Nat) : Met l yJ0_init_81219 wsJ0_init_81219 ({ frames := 4, cells := 1, slots := 0, locals := 130 }) (va_Pc [.ref st, .ref sb] (cPCz (zM e0 aK aV) dC dI [(sb, .inr (1, [.ref bv, .int 0, .int mq, .int 0])), (bv, .inl (cB, 16, .inl fb)), (st, .inr (0, [.null, .int 0, .int 0, .int 0]))] [(cB, .byte)] sz)) (va_Qv (fun (u : Nat × (Nat → Int32)) => True) (fun (u : Nat × (Nat → Int32)) t => cQB dC dI [(sb, .inr (1, [.ref bv, .int 0, .int mq, .int 0])), (bv, .inl (cB, 16, .inl fb)), (st, .inr (0, [.ref u.1, .int 0, .int 0, .int 0])), (u.1, .inl (cB, 0, .inl u.2))] [(cB, .byte)] (va_A [(sb, .inr (1, [.ref bv, .int 0, .int mq, .int 0])), (bv, .inl (cB, 16, .inl fb)), (st, .inr (0, [.null, .int 0, .int 0, .int 0]))] sz) t) (va_A [(sb, .inr (1, [.ref bv, .int 0, .int mq, .int 0])), (bv, .inl (cB, 16, .inl fb)), (st, .inr (0, [.null, .int 0, .int 0, .int 0]))] sz)) 1 0 (va_A [(sb, .inr (1, [.ref bv, .int 0, .int mq, .int 0])), (bv, .inl (cB, 16, .inl fb)), (st, .inr (0, [.null, .int 0, .int 0, .int 0]))] sz) := by
  refine Met.ofW (cc := cJ0_init_81219) (maxL := 2) (ret := none) (by decide) rfl ?_
  intro p e s m args below meth c s₁ B hml hv
  obtain ⟨rfl, ⟨hsz, hP, hK, hD0, hN⟩, hZ⟩ := hv
  have hx := B.exec
  have hb := B.bytes
  have hr := B.returns
  have hts := atoms_spec (ws := wsJ0_init_81219) B.pre
  have hown : s.vm.findClass RJ0 = some m.cls := findClass_of_methodNamed B.named
  have hlocks := B.notSynchronized
  have hin : meth.name = "<init>" := (name_of_methodNamed B.named B.method).1
  subst hsz
  have hD := hD0.self (sz := s.heap.size)
  generalize hAe : va_A [(sb, .inr (1, [.ref bv, .int 0, .int mq, .int 0])), (bv, .inl (cB, 16, .inl fb)), (st, .inr (0, [.null, .int 0, .int 0, .int 0]))] s.heap.size = A at hD hZ ⊢
  have hA : ∀ q : Nat, s.heap.size ≤ q → A q := fun q h => by rw [← hAe]; exact Or.inr h
  have hS : va_S A s.heap s.heap [] := va_S.rf
  have hP : va_P (dC, dI) vwCl [(sb, .inr (1, [.ref bv, .int 0, .int mq, .int 0])), (bv, .inl (cB, 16, .inl fb)), (st, .inr (0, [.null, .int 0, .int 0, .int 0]))] s.heap := hP
  have hD : va_D A [(sb, .inr (1, [.ref bv, .int 0, .int mq, .int 0])), (bv, .inl (cB, 16, .inl fb)), (st, .inr (0, [.null, .int 0, .int 0, .int 0]))] := hD
  have hl := lv_entry ([.ref st, .ref sb]) (n := 2) (Nat.le_of_ble_eq_true rfl)
  rw [lg_entry_eq]
  generalize (lg_sl ([.ref st, .ref sb]) ++ List.replicate (2 - (lg_sl ([.ref st, .ref sb])).length) Slot.unset).toArray = ls at hl ⊢
  have hl : lv_has ls 2 [(0, .ref st), (1, .ref sb)] := hl
  have iWJ0 : ∀ w ∈ u_ws RJ0 TJ0 4, w ∈ wsJ0_init_81219 := by decide +kernel
  have iWJ4 : ∀ w ∈ u_ws RJ4 TJ4 4, w ∈ wsJ0_init_81219 := by decide +kernel
  refine lv_aload_n hx hb dJ0_init_81219_0 rfl (lv_at hl 0 rfl) ?_
  refine lv_aload_n hx hb dJ0_init_81219_1 rfl (lv_at hl 1 rfl) ?_
  refine lv_null hx hb dJ0_init_81219_2 ?_
  have hPc := hP.sub (ws' := [(sb, .inr (1, [.ref bv, .int 0, .int mq, .int 0])), (bv, .inl (cB, 16, .inl fb)), (st, .inr (0, [.null, .int 0, .int 0, .int 0]))]) [0, 1, 2] rfl
  have hDc := hD.sub (ws' := [(sb, .inr (1, [.ref bv, .int 0, .int mq, .int 0])), (bv, .inl (cB, 16, .inl fb)), (st, .inr (0, [.null, .int 0, .int 0, .int 0]))]) [0, 1, 2] (by decide) rfl
  have hKc := hK.sub (tys' := [(cB, .byte)]) [0] rfl
  have hFc := va_free (wc := [(sb, .inr (1, [.ref bv, .int 0, .int mq, .int 0])), (bv, .inl (cB, 16, .inl fb)), (st, .inr (0, [.null, .int 0, .int 0, .int 0]))]) hD hS hA [0, 1, 2] rfl
  refine va_callv (va_runI (As := [.ref sb, .null]) (rest := []) ⟨hx, hb, hml, hown, hts⟩ (c_J0_init2_0 l dC dI e0 aK aV cB sb bv mq fb st s.heap.size) (cwI 2 hts gJ0_init_81219_J0_init_db425 rfl rfl rfl (hts (.initialized RJ0) (by decide +kernel)) (hts (.methodLink RJ0 489 yJ0_init_db425) (by decide +kernel)) (hts (.instanceMethod yJ0_init_db425) (by decide +kernel)) rfl (by decide +kernel) ⟨Nat.le_of_ble_eq_true rfl, Nat.le_of_ble_eq_true rfl⟩) (pcSz (zM_ok e0 aK aV) hPc hDc hKc hN hZ hS hFc) rfl rfl hl.1 rfl (lv_room (Nat.le_of_ble_eq_true rfl)) dJ0_init_81219_3 ⟨Nat.le_of_ble_eq_true rfl, Nat.le_of_ble_eq_true rfl⟩) hS (fun q _ h => hFc q h) hFc (fun u t H1 locs ht hvm hw_3 hB hz1 hk1 hS => ?_)
  obtain ⟨q_1, f_2⟩ := u
  obtain ⟨hP1, hK1, hD1⟩ := hB
  rw [ht] at hP1
  try dsimp only at hw_3
  obtain ⟨hP, hD⟩ := va_join (wr := []) (w1 := [(sb, .inr (1, [.ref bv, .int 0, .int mq, .int 0])), (bv, .inl (cB, 16, .inl fb)), (st, .inr (0, [.ref q_1, .int 0, .int 0, .int 0])), (q_1, .inl (cB, 0, .inl f_2))]) hP hD [0, 1, 2] [] rfl rfl (by decide) (by decide) hk1 hFc hP1 hD1
  generalize H1 = H at hP hS ⊢
  have hP : va_P (dC, dI) vwCl [(sb, .inr (1, [.ref bv, .int 0, .int mq, .int 0])), (bv, .inl (cB, 16, .inl fb)), (st, .inr (0, [.ref q_1, .int 0, .int 0, .int 0])), (q_1, .inl (cB, 0, .inl f_2))] H := hP
  have hD : va_D A [(sb, .inr (1, [.ref bv, .int 0, .int mq, .int 0])), (bv, .inl (cB, 16, .inl fb)), (st, .inr (0, [.ref q_1, .int 0, .int 0, .int 0])), (q_1, .inl (cB, 0, .inl f_2))] := hD
  refine W.widen (k := 1) (n := 0) (Nat.le_of_ble_eq_true rfl) (Nat.le_of_ble_eq_true rfl) ?_
  have hP9 := hP.sub (ws' := [(sb, .inr (1, [.ref bv, .int 0, .int mq, .int 0])), (bv, .inl (cB, 16, .inl fb)), (st, .inr (0, [.ref q_1, .int 0, .int 0, .int 0])), (q_1, .inl (cB, 0, .inl f_2))]) [0, 1, 2, 3] rfl
  have hD9 := hD.sub (ws' := [(sb, .inr (1, [.ref bv, .int 0, .int mq, .int 0])), (bv, .inl (cB, 16, .inl fb)), (st, .inr (0, [.ref q_1, .int 0, .int 0, .int 0])), (q_1, .inl (cB, 0, .inl f_2))]) [0, 1, 2, 3] (by decide) rfl
  have hK9 := hK.sub (tys' := [(cB, .byte)]) [0] rfl
  exact W.vret hx hb hr (fun t ht hW => ⟨⟨(q_1, f_2), rfl, trivial, ⟨by rw [ht]; exact hP9, va_K.moved hW.alike hK9, hD9⟩⟩, hS.F ht⟩) hS.2.2 dJ0_init_81219_6

set_option maxHeartbeats 4000000 in
set_option maxRecDepth 100000 in
/-- J0_init_81219 -/
theorem c_J0_init1_1 (l : Launch) (dC : Nat → ClassId) (dI : Nat → Nat → Nat) (e0 : Nat) (aK aV : Nat → Nat) (cB : ClassId) (sb bv : Nat) (mq : Int32) (fb : Nat → Int32) (st : Nat) (hfb : fits .byte (.int (fb 0)) = true) (sz : Nat) : Met l yJ0_init_81219 wsJ0_init_81219 ({ frames := 4, cells := 1, slots := 1, locals := 130 }) (va_Pc [.ref st, .ref sb] (cPCz (zM e0 aK aV) dC dI [(sb, .inr (1, [.ref bv, .int 0, .int mq, .int 1])), (bv, .inl (cB, 16, .inl fb)), (st, .inr (0, [.null, .int 0, .int 0, .int 0]))] [(cB, .byte)] sz)) (va_Qv (fun (u : Nat × (Nat → Int32)) => u.2 0 = fb 0) (fun (u : Nat × (Nat → Int32)) t => cQB dC dI [(sb, .inr (1, [.ref bv, .int 0, .int mq, .int 1])), (bv, .inl (cB, 16, .inl fb)), (st, .inr (0, [.ref u.1, .int 0, .int 0, .int 0])), (u.1, .inl (cB, 1, .inl u.2))] [(cB, .byte)] (va_A [(sb, .inr (1, [.ref bv, .int 0, .int mq, .int 1])), (bv, .inl (cB, 16, .inl fb)), (st, .inr (0, [.null, .int 0, .int 0, .int 0]))] sz) t) (va_A [(sb, .inr (1, [.ref bv, .int 0, .int mq, .int 1])), (bv, .inl (cB, 16, .inl fb)), (st, .inr (0, [.null, .int 0, .int 0, .int 0]))] sz)) 1 1 (va_A [(sb, .inr (1, [.ref bv, .int 0, .int mq, .int 1])), (bv, .inl (cB, 16, .inl fb)), (st, .inr (0, [.null, .int 0, .int 0, .int 0]))] sz) := by
  refine Met.ofW (cc := cJ0_init_81219) (maxL := 2) (ret := none) (by decide) rfl ?_
  intro p e s m args below meth c s₁ B hml hv
  obtain ⟨rfl, ⟨hsz, hP, hK, hD0, hN⟩, hZ⟩ := hv
  have hx := B.exec
  have hb := B.bytes
  have hr := B.returns
  have hts := atoms_spec (ws := wsJ0_init_81219) B.pre
  have hown : s.vm.findClass RJ0 = some m.cls := findClass_of_methodNamed B.named
  have hlocks := B.notSynchronized
  have hin : meth.name = "<init>" := (name_of_methodNamed B.named B.method).1
  subst hsz
  have hD := hD0.self (sz := s.heap.size)
  generalize hAe : va_A [(sb, .inr (1, [.ref bv, .int 0, .int mq, .int 1])), (bv, .inl (cB, 16, .inl fb)), (st, .inr (0, [.null, .int 0, .int 0, .int 0]))] s.heap.size = A at hD hZ ⊢
  have hA : ∀ q : Nat, s.heap.size ≤ q → A q := fun q h => by rw [← hAe]; exact Or.inr h
  have hS : va_S A s.heap s.heap [] := va_S.rf
  have hP : va_P (dC, dI) vwCl [(sb, .inr (1, [.ref bv, .int 0, .int mq, .int 1])), (bv, .inl (cB, 16, .inl fb)), (st, .inr (0, [.null, .int 0, .int 0, .int 0]))] s.heap := hP
  have hD : va_D A [(sb, .inr (1, [.ref bv, .int 0, .int mq, .int 1])), (bv, .inl (cB, 16, .inl fb)), (st, .inr (0, [.null, .int 0, .int 0, .int 0]))] := hD
  have hl := lv_entry ([.ref st, .ref sb]) (n := 2) (Nat.le_of_ble_eq_true rfl)
  rw [lg_entry_eq]
  generalize (lg_sl ([.ref st, .ref sb]) ++ List.replicate (2 - (lg_sl ([.ref st, .ref sb])).length) Slot.unset).toArray = ls at hl ⊢
  have hl : lv_has ls 2 [(0, .ref st), (1, .ref sb)] := hl
  have iWJ0 : ∀ w ∈ u_ws RJ0 TJ0 4, w ∈ wsJ0_init_81219 := by decide +kernel
  have iWJ4 : ∀ w ∈ u_ws RJ4 TJ4 4, w ∈ wsJ0_init_81219 := by decide +kernel
  refine lv_aload_n hx hb dJ0_init_81219_0 rfl (lv_at hl 0 rfl) ?_
  refine lv_aload_n hx hb dJ0_init_81219_1 rfl (lv_at hl 1 rfl) ?_
  refine lv_null hx hb dJ0_init_81219_2 ?_
  have hPc := hP.sub (ws' := [(sb, .inr (1, [.ref bv, .int 0, .int mq, .int 1])), (bv, .inl (cB, 16, .inl fb)), (st, .inr (0, [.null, .int 0, .int 0, .int 0]))]) [0, 1, 2] rfl
  have hDc := hD.sub (ws' := [(sb, .inr (1, [.ref bv, .int 0, .int mq, .int 1])), (bv, .inl (cB, 16, .inl fb)), (st, .inr (0, [.null, .int 0, .int 0, .int 0]))]) [0, 1, 2] (by decide) rfl
  have hKc := hK.sub (tys' := [(cB, .byte)]) [0] rfl
  have hFc := va_free (wc := [(sb, .inr (1, [.ref bv, .int 0, .int mq, .int 1])), (bv, .inl (cB, 16, .inl fb)), (st, .inr (0, [.null, .int 0, .int 0, .int 0]))]) hD hS hA [0, 1, 2] rfl
  refine va_callv (va_runI (As := [.ref sb, .null]) (rest := []) ⟨hx, hb, hml, hown, hts⟩ (c_J0_init2_1 l dC dI e0 aK aV cB sb bv mq fb st hfb s.heap.size) (cwI 2 hts gJ0_init_81219_J0_init_db425 rfl rfl rfl (hts (.initialized RJ0) (by decide +kernel)) (hts (.methodLink RJ0 489 yJ0_init_db425) (by decide +kernel)) (hts (.instanceMethod yJ0_init_db425) (by decide +kernel)) rfl (by decide +kernel) ⟨Nat.le_of_ble_eq_true rfl, Nat.le_of_ble_eq_true rfl⟩) (pcSz (zM_ok e0 aK aV) hPc hDc hKc hN hZ hS hFc) rfl rfl hl.1 rfl (lv_room (Nat.le_of_ble_eq_true rfl)) dJ0_init_81219_3 ⟨Nat.le_of_ble_eq_true rfl, Nat.le_of_ble_eq_true rfl⟩) hS (fun q _ h => hFc q h) hFc (fun u t H1 locs ht hvm hw_3 hB hz1 hk1 hS => ?_)
  obtain ⟨q_1, f_2⟩ := u
  obtain ⟨hP1, hK1, hD1⟩ := hB
  rw [ht] at hP1
  try dsimp only at hw_3
  obtain ⟨hP, hD⟩ := va_join (wr := []) (w1 := [(sb, .inr (1, [.ref bv, .int 0, .int mq, .int 1])), (bv, .inl (cB, 16, .inl fb)), (st, .inr (0, [.ref q_1, .int 0, .int 0, .int 0])), (q_1, .inl (cB, 1, .inl f_2))]) hP hD [0, 1, 2] [] rfl rfl (by decide) (by decide) hk1 hFc hP1 hD1
  generalize H1 = H at hP hS ⊢
  have hP : va_P (dC, dI) vwCl [(sb, .inr (1, [.ref bv, .int 0, .int mq, .int 1])), (bv, .inl (cB, 16, .inl fb)), (st, .inr (0, [.ref q_1, .int 0, .int 0, .int 0])), (q_1, .inl (cB, 1, .inl f_2))] H := hP
  have hD : va_D A [(sb, .inr (1, [.ref bv, .int 0, .int mq, .int 1])), (bv, .inl (cB, 16, .inl fb)), (st, .inr (0, [.ref q_1, .int 0, .int 0, .int 0])), (q_1, .inl (cB, 1, .inl f_2))] := hD
  refine W.widen (k := 1) (n := 1) (Nat.le_of_ble_eq_true rfl) (Nat.le_of_ble_eq_true rfl) ?_
  have hP9 := hP.sub (ws' := [(sb, .inr (1, [.ref bv, .int 0, .int mq, .int 1])), (bv, .inl (cB, 16, .inl fb)), (st, .inr (0, [.ref q_1, .int 0, .int 0, .int 0])), (q_1, .inl (cB, 1, .inl f_2))]) [0, 1, 2, 3] rfl
  have hD9 := hD.sub (ws' := [(sb, .inr (1, [.ref bv, .int 0, .int mq, .int 1])), (bv, .inl (cB, 16, .inl fb)), (st, .inr (0, [.ref q_1, .int 0, .int 0, .int 0])), (q_1, .inl (cB, 1, .inl f_2))]) [0, 1, 2, 3] (by decide) rfl
  have hK9 := hK.sub (tys' := [(cB, .byte)]) [0] rfl
  exact W.vret hx hb hr (fun t ht hW => ⟨⟨(q_1, f_2), rfl, hw_3, ⟨by rw [ht]; exact hP9, va_K.moved hW.alike hK9, hD9⟩⟩, hS.F ht⟩) hS.2.2 dJ0_init_81219_6

set_option maxHeartbeats 4000000 in
set_option maxRecDepth 100000 in
/-- J4_toString_0e30d -/
theorem c_J4_toString_0 (l : Launch) (dC : Nat → ClassId) (dI : Nat → Nat → Nat) (e0 : Nat) (aK aV : Nat → Nat) (cB : ClassId) (sb bv : Nat) (mq : Int32) (fb : Nat → Int32) (sz : Nat) : Met l yJ4_toString_0e30d wsJ4_toString_0e30d ({ frames := 5, cells := 2, slots := 4, locals := 151 }) (va_Pc [.ref sb] (cPCz (zM e0 aK aV) dC dI [(sb, .inr (1, [.ref bv, .int 0, .int mq, .int 0])), (bv, .inl (cB, 16, .inl fb))] [(cB, .byte)] sz)) (va_Qr (fun (u : Nat × (Nat → Int32)) => True) (fun (u : Nat × (Nat → Int32)) (a : Nat) t => cQB dC dI [(sb, .inr (1, [.ref bv, .int 0, .int mq, .int 0])), (bv, .inl (cB, 16, .inl fb)), (a, .inr (0, [.ref u.1, .int 0, .int 0, .int 0])), (u.1, .inl (cB, 0, .inl u.2))] [(cB, .byte)] (va_A [(sb, .inr (1, [.ref bv, .int 0, .int mq, .int 0])), (bv, .inl (cB, 16, .inl fb))] sz) t) (va_A [(sb, .inr (1, [.ref bv, .int 0, .int mq, .int 0])), (bv, .inl (cB, 16, .inl fb))] sz)) 2 4 (va_A [(sb, .inr (1, [.ref bv, .int 0, .int mq, .int 0])), (bv, .inl (cB, 16, .inl fb))] sz) := by
  refine Met.ofW (cc := cJ4_toString_0e30d) (maxL := 1) (ret := (some (.object "java/lang/String"))) (by decide) rfl ?_
  intro p e s m args below meth c s₁ B hml hv
  obtain ⟨rfl, ⟨hsz, hP, hK, hD0, hN⟩, hZ⟩ := hv
  have hx := B.exec
  have hb := B.bytes
  have hr := B.returns
  have hts := atoms_spec (ws := wsJ4_toString_0e30d) B.pre
  have hown : s.vm.findClass RJ4 = some m.cls := findClass_of_methodNamed B.named
  have hlocks := B.notSynchronized
  subst hsz
  have hD := hD0.self (sz := s.heap.size)
  generalize hAe : va_A [(sb, .inr (1, [.ref bv, .int 0, .int mq, .int 0])), (bv, .inl (cB, 16, .inl fb))] s.heap.size = A at hD hZ ⊢
  have hA : ∀ q : Nat, s.heap.size ≤ q → A q := fun q h => by rw [← hAe]; exact Or.inr h
  have hS : va_S A s.heap s.heap [] := va_S.rf
  have hP : va_P (dC, dI) vwCl [(sb, .inr (1, [.ref bv, .int 0, .int mq, .int 0])), (bv, .inl (cB, 16, .inl fb))] s.heap := hP
  have hD : va_D A [(sb, .inr (1, [.ref bv, .int 0, .int mq, .int 0])), (bv, .inl (cB, 16, .inl fb))] := hD
  have hl := lv_entry ([.ref sb]) (n := 1) (Nat.le_of_ble_eq_true rfl)
  rw [lg_entry_eq]
  generalize (lg_sl ([.ref sb]) ++ List.replicate (1 - (lg_sl ([.ref sb])).length) Slot.unset).toArray = ls at hl ⊢
  have hl : lv_has ls 1 [(0, .ref sb)] := hl
  have iWJ0 : ∀ w ∈ u_ws RJ0 TJ0 4, w ∈ wsJ4_toString_0e30d := by decide +kernel
  have iWJ4 : ∀ w ∈ u_ws RJ4 TJ4 4, w ∈ wsJ4_toString_0e30d := by decide +kernel
  refine va_new (ci := 0) (fs := [.null, .int 0, .int 0, .int 0]) (C := RJ0) (T := TJ0) (N := 4) hx hb hts iWJ0 tyJ0 tyJ0_ok hown (hts (.classLink RJ4 18 RJ0) (by decide +kernel)) (hts (.instantiable RJ0 4) (by decide +kernel)) (hts (.initialized RJ0) (by decide +kernel)) hK hP hD hS hA rfl (fun j hj => by rcases (show j = 0 ∨ j = 1 ∨ j = 2 ∨ j = 3 by omega) with rfl | rfl | rfl | rfl <;> rfl) (Nat.le_of_ble_eq_true rfl) (Nat.le_of_ble_eq_true rfl) dJ4_toString_0e30d_0 (fun q_1 H hP hD hS => ?_)
  have hP : va_P (dC, dI) vwCl [(sb, .inr (1, [.ref bv, .int 0, .int mq, .int 0])), (bv, .inl (cB, 16, .inl fb)), (q_1, .inr (0, [.null, .int 0, .int 0, .int 0]))] H := hP
  have hD : va_D A [(sb, .inr (1, [.ref bv, .int 0, .int mq, .int 0])), (bv, .inl (cB, 16, .inl fb)), (q_1, .inr (0, [.null, .int 0, .int 0, .int 0]))] := hD
  refine W.widen (k := 1) (n := 4) (Nat.le_of_ble_eq_true rfl) (Nat.le_of_ble_eq_true rfl) ?_
  refine lv_dup hx hb dJ4_toString_0e30d_3 rfl ?_
  refine lv_aload_n hx hb dJ4_toString_0e30d_4 rfl (lv_at hl 0 rfl) ?_
  have hPc := hP.sub (ws' := [(sb, .inr (1, [.ref bv, .int 0, .int mq, .int 0])), (bv, .inl (cB, 16, .inl fb)), (q_1, .inr (0, [.null, .int 0, .int 0, .int 0]))]) [0, 1, 2] rfl
  have hDc := hD.sub (ws' := [(sb, .inr (1, [.ref bv, .int 0, .int mq, .int 0])), (bv, .inl (cB, 16, .inl fb)), (q_1, .inr (0, [.null, .int 0, .int 0, .int 0]))]) [0, 1, 2] (by decide) rfl
  have hKc := hK.sub (tys' := [(cB, .byte)]) [0] rfl
  have hFc := va_free (wc := [(sb, .inr (1, [.ref bv, .int 0, .int mq, .int 0])), (bv, .inl (cB, 16, .inl fb)), (q_1, .inr (0, [.null, .int 0, .int 0, .int 0]))]) hD hS hA [0, 1, 2] rfl
  refine va_callv (va_runI (As := [.ref sb]) (rest := [.ref q_1]) ⟨hx, hb, hml, hown, hts⟩ (c_J0_init1_0 l dC dI e0 aK aV cB sb bv mq fb q_1 H.size) (cwI 1 hts gJ4_toString_0e30d_J0_init_81219 rfl rfl rfl (hts (.initialized RJ0) (by decide +kernel)) (hts (.methodLink RJ4 137 yJ0_init_81219) (by decide +kernel)) (hts (.instanceMethod yJ0_init_81219) (by decide +kernel)) rfl (by decide +kernel) ⟨Nat.le_of_ble_eq_true rfl, Nat.le_of_ble_eq_true rfl⟩) (pcSz (zM_ok e0 aK aV) hPc hDc hKc hN hZ hS hFc) rfl rfl hl.1 rfl (lv_room (Nat.le_of_ble_eq_true rfl)) dJ4_toString_0e30d_5 ⟨Nat.le_of_ble_eq_true rfl, Nat.le_of_ble_eq_true rfl⟩) hS (fun q _ h => hFc q h) hFc (fun u t H1 locs ht hvm hw_4 hB hz1 hk1 hS => ?_)
  obtain ⟨q_2, f_3⟩ := u
  obtain ⟨hP1, hK1, hD1⟩ := hB
  rw [ht] at hP1
  try dsimp only at hw_4
  obtain ⟨hP, hD⟩ := va_join (wr := []) (w1 := [(sb, .inr (1, [.ref bv, .int 0, .int mq, .int 0])), (bv, .inl (cB, 16, .inl fb)), (q_1, .inr (0, [.ref q_2, .int 0, .int 0, .int 0])), (q_2, .inl (cB, 0, .inl f_3))]) hP hD [0, 1, 2] [] rfl rfl (by decide) (by decide) hk1 hFc hP1 hD1
  generalize H1 = H at hP hS ⊢
  have hP : va_P (dC, dI) vwCl [(sb, .inr (1, [.ref bv, .int 0, .int mq, .int 0])), (bv, .inl (cB, 16, .inl fb)), (q_1, .inr (0, [.ref q_2, .int 0, .int 0, .int 0])), (q_2, .inl (cB, 0, .inl f_3))] H := hP
  have hD : va_D A [(sb, .inr (1, [.ref bv, .int 0, .int mq, .int 0])), (bv, .inl (cB, 16, .inl fb)), (q_1, .inr (0, [.ref q_2, .int 0, .int 0, .int 0])), (q_2, .inl (cB, 0, .inl f_3))] := hD
  refine W.widen (k := 2) (n := 4) (Nat.le_of_ble_eq_true rfl) (Nat.le_of_ble_eq_true rfl) ?_
  have hP9 := hP.sub (ws' := [(sb, .inr (1, [.ref bv, .int 0, .int mq, .int 0])), (bv, .inl (cB, 16, .inl fb)), (q_1, .inr (0, [.ref q_2, .int 0, .int 0, .int 0])), (q_2, .inl (cB, 0, .inl f_3))]) [0, 1, 2, 3] rfl
  have hD9 := hD.sub (ws' := [(sb, .inr (1, [.ref bv, .int 0, .int mq, .int 0])), (bv, .inl (cB, 16, .inl fb)), (q_1, .inr (0, [.ref q_2, .int 0, .int 0, .int 0])), (q_2, .inl (cB, 0, .inl f_3))]) [0, 1, 2, 3] (by decide) rfl
  have hK9 := hK.sub (tys' := [(cB, .byte)]) [0] rfl
  exact W.aret (v := .ref q_1) hx hb hr (Or.inl ⟨_, rfl⟩) (Or.inr ⟨_, rfl⟩) (fun t ht hW => ⟨⟨(q_2, f_3), q_1, rfl, trivial, ⟨by rw [ht]; exact hP9, va_K.moved hW.alike hK9, hD9⟩⟩, hS.F ht⟩) hS.2.2 dJ4_toString_0e30d_8

set_option maxHeartbeats 4000000 in
set_option maxRecDepth 100000 in
/-- J4_toString_0e30d -/
theorem c_J4_toString_1 (l : Launch) (dC : Nat → ClassId) (dI : Nat → Nat → Nat) (e0 : Nat) (aK aV : Nat → Nat) (cB : ClassId) (sb bv : Nat) (mq : Int32) (fb : Nat → Int32) (hfb : fits .byte (.int (fb 0)) = true) (sz : Nat) : Met l yJ4_toString_0e30d wsJ4_toString_0e30d ({ frames := 5, cells := 2, slots := 5, locals := 151 }) (va_Pc [.ref sb] (cPCz (zM e0 aK aV) dC dI [(sb, .inr (1, [.ref bv, .int 0, .int mq, .int 1])), (bv, .inl (cB, 16, .inl fb))] [(cB, .byte)] sz)) (va_Qr (fun (u : Nat × (Nat → Int32)) => u.2 0 = fb 0) (fun (u : Nat × (Nat → Int32)) (a : Nat) t => cQB dC dI [(sb, .inr (1, [.ref bv, .int 0, .int mq, .int 1])), (bv, .inl (cB, 16, .inl fb)), (a, .inr (0, [.ref u.1, .int 0, .int 0, .int 0])), (u.1, .inl (cB, 1, .inl u.2))] [(cB, .byte)] (va_A [(sb, .inr (1, [.ref bv, .int 0, .int mq, .int 1])), (bv, .inl (cB, 16, .inl fb))] sz) t) (va_A [(sb, .inr (1, [.ref bv, .int 0, .int mq, .int 1])), (bv, .inl (cB, 16, .inl fb))] sz)) 2 5 (va_A [(sb, .inr (1, [.ref bv, .int 0, .int mq, .int 1])), (bv, .inl (cB, 16, .inl fb))] sz) := by
  refine Met.ofW (cc := cJ4_toString_0e30d) (maxL := 1) (ret := (some (.object "java/lang/String"))) (by decide) rfl ?_
  intro p e s m args below meth c s₁ B hml hv
  obtain ⟨rfl, ⟨hsz, hP, hK, hD0, hN⟩, hZ⟩ := hv
  have hx := B.exec
  have hb := B.bytes
  have hr := B.returns
  have hts := atoms_spec (ws := wsJ4_toString_0e30d) B.pre
  have hown : s.vm.findClass RJ4 = some m.cls := findClass_of_methodNamed B.named
  have hlocks := B.notSynchronized
  subst hsz
  have hD := hD0.self (sz := s.heap.size)
  generalize hAe : va_A [(sb, .inr (1, [.ref bv, .int 0, .int mq, .int 1])), (bv, .inl (cB, 16, .inl fb))] s.heap.size = A at hD hZ ⊢
  have hA : ∀ q : Nat, s.heap.size ≤ q → A q := fun q h => by rw [← hAe]; exact Or.inr h
  have hS : va_S A s.heap s.heap [] := va_S.rf
  have hP : va_P (dC, dI) vwCl [(sb, .inr (1, [.ref bv, .int 0, .int mq, .int 1])), (bv, .inl (cB, 16, .inl fb))] s.heap := hP
  have hD : va_D A [(sb, .inr (1, [.ref bv, .int 0, .int mq, .int 1])), (bv, .inl (cB, 16, .inl fb))] := hD
  have hl := lv_entry ([.ref sb]) (n := 1) (Nat.le_of_ble_eq_true rfl)
  rw [lg_entry_eq]
  generalize (lg_sl ([.ref sb]) ++ List.replicate (1 - (lg_sl ([.ref sb])).length) Slot.unset).toArray = ls at hl ⊢
  have hl : lv_has ls 1 [(0, .ref sb)] := hl
  have iWJ0 : ∀ w ∈ u_ws RJ0 TJ0 4, w ∈ wsJ4_toString_0e30d := by decide +kernel
  have iWJ4 : ∀ w ∈ u_ws RJ4 TJ4 4, w ∈ wsJ4_toString_0e30d := by decide +kernel
  refine va_new (ci := 0) (fs := [.null, .int 0, .int 0, .int 0]) (C := RJ0) (T := TJ0) (N := 4) hx hb hts iWJ0 tyJ0 tyJ0_ok hown (hts (.classLink RJ4 18 RJ0) (by decide +kernel)) (hts (.instantiable RJ0 4) (by decide +kernel)) (hts (.initialized RJ0) (by decide +kernel)) hK hP hD hS hA rfl (fun j hj => by rcases (show j = 0 ∨ j = 1 ∨ j = 2 ∨ j = 3 by omega) with rfl | rfl | rfl | rfl <;> rfl) (Nat.le_of_ble_eq_true rfl) (Nat.le_of_ble_eq_true rfl) dJ4_toString_0e30d_0 (fun q_1 H hP hD hS => ?_)
  have hP : va_P (dC, dI) vwCl [(sb, .inr (1, [.ref bv, .int 0, .int mq, .int 1])), (bv, .inl (cB, 16, .inl fb)), (q_1, .inr (0, [.null, .int 0, .int 0, .int 0]))] H := hP
  have hD : va_D A [(sb, .inr (1, [.ref bv, .int 0, .int mq, .int 1])), (bv, .inl (cB, 16, .inl fb)), (q_1, .inr (0, [.null, .int 0, .int 0, .int 0]))] := hD
  refine W.widen (k := 1) (n := 4) (Nat.le_of_ble_eq_true rfl) (Nat.le_of_ble_eq_true rfl) ?_
  refine lv_dup hx hb dJ4_toString_0e30d_3 rfl ?_
  refine lv_aload_n hx hb dJ4_toString_0e30d_4 rfl (lv_at hl 0 rfl) ?_
  have hPc := hP.sub (ws' := [(sb, .inr (1, [.ref bv, .int 0, .int mq, .int 1])), (bv, .inl (cB, 16, .inl fb)), (q_1, .inr (0, [.null, .int 0, .int 0, .int 0]))]) [0, 1, 2] rfl
  have hDc := hD.sub (ws' := [(sb, .inr (1, [.ref bv, .int 0, .int mq, .int 1])), (bv, .inl (cB, 16, .inl fb)), (q_1, .inr (0, [.null, .int 0, .int 0, .int 0]))]) [0, 1, 2] (by decide) rfl
  have hKc := hK.sub (tys' := [(cB, .byte)]) [0] rfl
  have hFc := va_free (wc := [(sb, .inr (1, [.ref bv, .int 0, .int mq, .int 1])), (bv, .inl (cB, 16, .inl fb)), (q_1, .inr (0, [.null, .int 0, .int 0, .int 0]))]) hD hS hA [0, 1, 2] rfl
  refine va_callv (va_runI (As := [.ref sb]) (rest := [.ref q_1]) ⟨hx, hb, hml, hown, hts⟩ (c_J0_init1_1 l dC dI e0 aK aV cB sb bv mq fb q_1 hfb H.size) (cwI 1 hts gJ4_toString_0e30d_J0_init_81219 rfl rfl rfl (hts (.initialized RJ0) (by decide +kernel)) (hts (.methodLink RJ4 137 yJ0_init_81219) (by decide +kernel)) (hts (.instanceMethod yJ0_init_81219) (by decide +kernel)) rfl (by decide +kernel) ⟨Nat.le_of_ble_eq_true rfl, Nat.le_of_ble_eq_true rfl⟩) (pcSz (zM_ok e0 aK aV) hPc hDc hKc hN hZ hS hFc) rfl rfl hl.1 rfl (lv_room (Nat.le_of_ble_eq_true rfl)) dJ4_toString_0e30d_5 ⟨Nat.le_of_ble_eq_true rfl, Nat.le_of_ble_eq_true rfl⟩) hS (fun q _ h => hFc q h) hFc (fun u t H1 locs ht hvm hw_4 hB hz1 hk1 hS => ?_)
  obtain ⟨q_2, f_3⟩ := u
  obtain ⟨hP1, hK1, hD1⟩ := hB
  rw [ht] at hP1
  try dsimp only at hw_4
  obtain ⟨hP, hD⟩ := va_join (wr := []) (w1 := [(sb, .inr (1, [.ref bv, .int 0, .int mq, .int 1])), (bv, .inl (cB, 16, .inl fb)), (q_1, .inr (0, [.ref q_2, .int 0, .int 0, .int 0])), (q_2, .inl (cB, 1, .inl f_3))]) hP hD [0, 1, 2] [] rfl rfl (by decide) (by decide) hk1 hFc hP1 hD1
  generalize H1 = H at hP hS ⊢
  have hP : va_P (dC, dI) vwCl [(sb, .inr (1, [.ref bv, .int 0, .int mq, .int 1])), (bv, .inl (cB, 16, .inl fb)), (q_1, .inr (0, [.ref q_2, .int 0, .int 0, .int 0])), (q_2, .inl (cB, 1, .inl f_3))] H := hP
  have hD : va_D A [(sb, .inr (1, [.ref bv, .int 0, .int mq, .int 1])), (bv, .inl (cB, 16, .inl fb)), (q_1, .inr (0, [.ref q_2, .int 0, .int 0, .int 0])), (q_2, .inl (cB, 1, .inl f_3))] := hD
  refine W.widen (k := 2) (n := 5) (Nat.le_of_ble_eq_true rfl) (Nat.le_of_ble_eq_true rfl) ?_
  have hP9 := hP.sub (ws' := [(sb, .inr (1, [.ref bv, .int 0, .int mq, .int 1])), (bv, .inl (cB, 16, .inl fb)), (q_1, .inr (0, [.ref q_2, .int 0, .int 0, .int 0])), (q_2, .inl (cB, 1, .inl f_3))]) [0, 1, 2, 3] rfl
  have hD9 := hD.sub (ws' := [(sb, .inr (1, [.ref bv, .int 0, .int mq, .int 1])), (bv, .inl (cB, 16, .inl fb)), (q_1, .inr (0, [.ref q_2, .int 0, .int 0, .int 0])), (q_2, .inl (cB, 1, .inl f_3))]) [0, 1, 2, 3] (by decide) rfl
  have hK9 := hK.sub (tys' := [(cB, .byte)]) [0] rfl
  exact W.aret (v := .ref q_1) hx hb hr (Or.inl ⟨_, rfl⟩) (Or.inr ⟨_, rfl⟩) (fun t ht hW => ⟨⟨(q_2, f_3), q_1, rfl, hw_4, ⟨by rw [ht]; exact hP9, va_K.moved hW.alike hK9, hD9⟩⟩, hS.F ht⟩) hS.2.2 dJ4_toString_0e30d_8

set_option maxHeartbeats 4000000 in
set_option maxRecDepth 100000 in
/-- J4_append_cf1ce -/
theorem c_J4_append_cf1ce (l : Launch) (dC : Nat → ClassId) (dI : Nat → Nat → Nat) (e0 : Nat) (aK aV : Nat → Nat) (cB : ClassId) (sb bv : Nat) (mq : Int32) (fb : Nat → Int32) (sz : Nat) : Met l yJ4_append_cf1ce wsJ4_append_cf1ce ({ frames := 5, cells := 0, slots := 0, locals := 148 }) (va_Pc [.ref sb, .ref (aK 0)] (cPCz (zM e0 aK aV) dC dI [(sb, .inr (1, [.ref bv, .int 0, .int mq, .int 0])), (bv, .inl (cB, 16, .inl fb))] [(cB, .byte)] sz)) (va_Qr (fun (u : Nat → Int32) => True) (fun (u : Nat → Int32) (a : Nat) t => a = sb ∧ cQB dC dI [(sb, .inr (1, [.ref bv, .int 0, .int mq, .int 0])), (bv, .inl (cB, 16, .inl u))] [(cB, .byte)] (va_A [(sb, .inr (1, [.ref bv, .int 0, .int mq, .int 0])), (bv, .inl (cB, 16, .inl fb))] sz) t) (va_A [(sb, .inr (1, [.ref bv, .int 0, .int mq, .int 0])), (bv, .inl (cB, 16, .inl fb))] sz)) 0 0 (va_A [(sb, .inr (1, [.ref bv, .int 0, .int mq, .int 0])), (bv, .inl (cB, 16, .inl fb))] sz) := by
  refine Met.ofW (cc := cJ4_append_cf1ce) (maxL := 2) (ret := (some (.object "java/lang/AbstractStringBuilder"))) (by decide) rfl ?_
  intro p e s m args below meth c s₁ B hml hv
  obtain ⟨rfl, ⟨hsz, hP, hK, hD0, hN⟩, hZ⟩ := hv
  have hx := B.exec
  have hb := B.bytes
  have hr := B.returns
  have hts := atoms_spec (ws := wsJ4_append_cf1ce) B.pre
  have hown : s.vm.findClass RJ4 = some m.cls := findClass_of_methodNamed B.named
  have hlocks := B.notSynchronized
  subst hsz
  have hD := hD0.self (sz := s.heap.size)
  generalize hAe : va_A [(sb, .inr (1, [.ref bv, .int 0, .int mq, .int 0])), (bv, .inl (cB, 16, .inl fb))] s.heap.size = A at hD hZ ⊢
  have hA : ∀ q : Nat, s.heap.size ≤ q → A q := fun q h => by rw [← hAe]; exact Or.inr h
  have hS : va_S A s.heap s.heap [] := va_S.rf
  have hP : va_P (dC, dI) vwCl [(sb, .inr (1, [.ref bv, .int 0, .int mq, .int 0])), (bv, .inl (cB, 16, .inl fb))] s.heap := hP
  have hD : va_D A [(sb, .inr (1, [.ref bv, .int 0, .int mq, .int 0])), (bv, .inl (cB, 16, .inl fb))] := hD
  have hl := lv_entry ([.ref sb, .ref (aK 0)]) (n := 2) (Nat.le_of_ble_eq_true rfl)
  rw [lg_entry_eq]
  generalize (lg_sl ([.ref sb, .ref (aK 0)]) ++ List.replicate (2 - (lg_sl ([.ref sb, .ref (aK 0)])).length) Slot.unset).toArray = ls at hl ⊢
  have hl : lv_has ls 2 [(0, .ref sb), (1, .ref (aK 0))] := hl
  have iWJ0 : ∀ w ∈ u_ws RJ0 TJ0 4, w ∈ wsJ4_append_cf1ce := by decide +kernel
  have iWJ4 : ∀ w ∈ u_ws RJ4 TJ4 4, w ∈ wsJ4_append_cf1ce := by decide +kernel
  refine lv_aload_n hx hb dJ4_append_cf1ce_0 rfl (lv_at hl 0 rfl) ?_
  refine lv_aload_n hx hb dJ4_append_cf1ce_1 rfl (lv_at hl 1 rfl) ?_
  have hPc := hP.sub (ws' := [(sb, .inr (1, [.ref bv, .int 0, .int mq, .int 0])), (bv, .inl (cB, 16, .inl fb))]) [0, 1] rfl
  have hDc := hD.sub (ws' := [(sb, .inr (1, [.ref bv, .int 0, .int mq, .int 0])), (bv, .inl (cB, 16, .inl fb))]) [0, 1] (by decide) rfl
  have hKc := hK.sub (tys' := [(cB, .byte)]) [0] rfl
  have hFc := va_free (wc := [(sb, .inr (1, [.ref bv, .int 0, .int mq, .int 0])), (bv, .inl (cB, 16, .inl fb))]) hD hS hA [0, 1] rfl
  refine va_callr (va_runV (As := [.ref (aK 0)]) (rest := []) ⟨hx, hb, hml, hown, hts⟩ (c_J4_appendS_c l dC dI e0 aK aV cB sb bv mq fb s.heap.size) (cwV 1 hts gJ4_append_cf1ce_J4_append_15ec4 rfl rfl rfl (by decide +kernel) ⟨Nat.le_of_ble_eq_true rfl, Nat.le_of_ble_eq_true rfl⟩) (pcVz (zM_ok e0 aK aV) hPc hDc hKc hN hZ hS hFc (ci := 1) (q0 := 0) rfl rfl) rfl rfl hl.1 rfl (lv_room (Nat.le_of_ble_eq_true rfl)) dJ4_append_cf1ce_2 ⟨Nat.le_of_ble_eq_true rfl, Nat.le_of_ble_eq_true rfl⟩) hS (fun q _ h => hFc q h) hFc (fun u r_2 t H1 locs ht hvm hw_3 hB hz1 hk1 hS => ?_)
  obtain ⟨ha9, hP1, hK1, hD1⟩ := hB
  rw [ht] at hP1
  try dsimp only at hw_3
  obtain ⟨hP, hD⟩ := va_join (wr := []) (w1 := [(sb, .inr (1, [.ref bv, .int 0, .int mq, .int 0])), (bv, .inl (cB, 16, .inl u))]) hP hD [0, 1] [] rfl rfl (by decide) (by decide) hk1 hFc hP1 hD1
  generalize H1 = H at hP hS ⊢
  have hP : va_P (dC, dI) vwCl [(sb, .inr (1, [.ref bv, .int 0, .int mq, .int 0])), (bv, .inl (cB, 16, .inl u))] H := hP
  have hD : va_D A [(sb, .inr (1, [.ref bv, .int 0, .int mq, .int 0])), (bv, .inl (cB, 16, .inl u))] := hD
  rw [ha9]
  obtain ⟨f_1, ef_1⟩ : ∃ z, z = u := ⟨_, rfl⟩
  subst ef_1
  have hP9 := hP.sub (ws' := [(sb, .inr (1, [.ref bv, .int 0, .int mq, .int 0])), (bv, .inl (cB, 16, .inl f_1))]) [0, 1] rfl
  have hD9 := hD.sub (ws' := [(sb, .inr (1, [.ref bv, .int 0, .int mq, .int 0])), (bv, .inl (cB, 16, .inl f_1))]) [0, 1] (by decide) rfl
  have hK9 := hK.sub (tys' := [(cB, .byte)]) [0] rfl
  exact W.aret (v := .ref sb) hx hb hr (Or.inl ⟨_, rfl⟩) (Or.inr ⟨_, rfl⟩) (fun t ht hW => ⟨⟨f_1, sb, rfl, trivial, ⟨rfl, by rw [ht]; exact hP9, va_K.moved hW.alike hK9, hD9⟩⟩, hS.F ht⟩) hS.2.2 dJ4_append_cf1ce_5

set_option maxHeartbeats 4000000 in
set_option maxRecDepth 100000 in
/-- J5_init_a7421 -/
theorem c_J5_init_a7421 (l : Launch) (dC : Nat → ClassId) (dI : Nat → Nat → Nat) (e0 : Nat) (aK aV : Nat → Nat) (cB : ClassId) (sb : Nat) (sz : Nat) : Met l yJ5_init_a7421 wsJ5_init_a7421 ({ frames := 6, cells := 1, slots := 16, locals := 169 }) (va_Pc [.ref sb, .ref (aK 0)] (cPCz (zM e0 aK aV) dC dI [(sb, .inr (1, [.null, .int 0, .int 0, .int 0]))] [(cB, .byte)] sz)) (va_Qv (fun (u : Nat × (Nat → Int32)) => True) (fun (u : Nat × (Nat → Int32)) t => cQB dC dI [(sb, .inr (1, [.ref u.1, .int 0, .int 0, .int 0])), (u.1, .inl (cB, 16, .inl u.2))] [(cB, .byte)] (va_A [(sb, .inr (1, [.null, .int 0, .int 0, .int 0]))] sz) t) (va_A [(sb, .inr (1, [.null, .int 0, .int 0, .int 0]))] sz)) 1 16 (va_A [(sb, .inr (1, [.null, .int 0, .int 0, .int 0]))] sz) := by
  refine Met.ofW (cc := cJ5_init_a7421) (maxL := 5) (ret := none) (by decide) rfl ?_
  intro p e s m args below meth c s₁ B hml hv
  obtain ⟨rfl, ⟨hsz, hP, hK, hD0, hN⟩, hZ⟩ := hv
  have hx := B.exec
  have hb := B.bytes
  have hr := B.returns
  have hts := atoms_spec (ws := wsJ5_init_a7421) B.pre
  have hown : s.vm.findClass RJ5 = some m.cls := findClass_of_methodNamed B.named
  have hlocks := B.notSynchronized
  have hin : meth.name = "<init>" := (name_of_methodNamed B.named B.method).1
  subst hsz
  have hD := hD0.self (sz := s.heap.size)
  generalize hAe : va_A [(sb, .inr (1, [.null, .int 0, .int 0, .int 0]))] s.heap.size = A at hD hZ ⊢
  have hA : ∀ q : Nat, s.heap.size ≤ q → A q := fun q h => by rw [← hAe]; exact Or.inr h
  have hS : va_S A s.heap s.heap [] := va_S.rf
  have hP : va_P (dC, dI) vwCl [(sb, .inr (1, [.null, .int 0, .int 0, .int 0]))] s.heap := hP
  have hD : va_D A [(sb, .inr (1, [.null, .int 0, .int 0, .int 0]))] := hD
  have hl := lv_entry ([.ref sb, .ref (aK 0)]) (n := 5) (Nat.le_of_ble_eq_true rfl)
  rw [lg_entry_eq]
  generalize (lg_sl ([.ref sb, .ref (aK 0)]) ++ List.replicate (5 - (lg_sl ([.ref sb, .ref (aK 0)])).length) Slot.unset).toArray = ls at hl ⊢
  have hl : lv_has ls 5 [(0, .ref sb), (1, .ref (aK 0))] := hl
  have iWJ0 : ∀ w ∈ u_ws RJ0 TJ0 4, w ∈ wsJ5_init_a7421 := by decide +kernel
  have iWJ4 : ∀ w ∈ u_ws RJ4 TJ4 4, w ∈ wsJ5_init_a7421 := by decide +kernel
  refine lv_aload_n hx hb dJ5_init_a7421_0 rfl (lv_at hl 0 rfl) ?_
  refine W.objInit hx hb hown (hts (.methodLink RJ5 3 Lib.objectInit) (by decide +kernel)) (hts (.instanceMethod Lib.objectInit) (by decide +kernel)) (hts (.code Lib.objectInit ⟨#[0xb1]⟩ 1 none) (by decide +kernel)) rfl (by rw [hml]; exact hl.1) rfl dJ5_init_a7421_1 (Nat.le_of_ble_eq_true rfl) (Nat.le_of_ble_eq_true rfl) ?_
  refine W.eq (g2 := F0 m 4 ls []) rfl ?_
  refine lv_aload_n hx hb dJ5_init_a7421_4 rfl (lv_at hl 1 rfl) ?_
  have hPc := hP.sub (ws' := []) [] rfl
  have hDc := hD.sub (ws' := []) [] (by decide) rfl
  have hKc := hK.sub (tys' := []) [] rfl
  have hFc := va_free (wc := []) hD hS hA [] rfl
  refine va_calli (va_runV (As := []) (rest := []) ⟨hx, hb, hml, hown, hts⟩ (c_J0_length_c l dC dI e0 aK aV s.heap.size) (cwV 0 hts gJ5_init_a7421_J0_length_8abf5 rfl rfl rfl (by decide +kernel) ⟨Nat.le_of_ble_eq_true rfl, Nat.le_of_ble_eq_true rfl⟩) (pcVs hPc hDc hKc hN hZ hS hFc (i := 0) (by decide)) rfl rfl hl.1 rfl (lv_room (Nat.le_of_ble_eq_true rfl)) dJ5_init_a7421_5 ⟨Nat.le_of_ble_eq_true rfl, Nat.le_of_ble_eq_true rfl⟩) hS (fun q _ h => hFc q h) hFc (fun r_1 u t H1 locs ht hvm hw_2 hB hz1 hk1 hS => ?_)
  obtain ⟨hP1, hK1, hD1⟩ := hB
  rw [ht] at hP1
  try dsimp only at hw_2
  obtain ⟨hP, hD⟩ := va_join (wr := [(sb, .inr (1, [.null, .int 0, .int 0, .int 0]))]) (w1 := []) hP hD [] [0] rfl rfl (by decide) (by decide) hk1 hFc hP1 hD1
  generalize H1 = H at hP hS ⊢
  have hP : va_P (dC, dI) vwCl [(sb, .inr (1, [.null, .int 0, .int 0, .int 0]))] H := hP
  have hD : va_D A [(sb, .inr (1, [.null, .int 0, .int 0, .int 0]))] := hD
  subst hw_2
  refine lv_istore_n (lv' := [(2, .int 0), (0, .ref sb), (1, .ref (aK 0))]) hx hb dJ5_init_a7421_8 rfl hl (by decide) rfl (fun ls hl => ?_)
  refine lv_iload_n hx hb dJ5_init_a7421_9 rfl (lv_at hl 0 rfl) ?_
  refine lv_ldc (v := (2147483631)) hx hb hown (hts (.constant RJ5 38 (2147483631)) (by decide +kernel)) dJ5_init_a7421_10 ?_
  refine lv_icmp_ge (tgt := 22) hx hb dJ5_init_a7421_12 (by decide) (fun c12_3 => ?_) (fun c12_3 => ?_)
  · exact absurd c12_3 (by decide)
  · refine lv_iload_n hx hb dJ5_init_a7421_15 rfl (lv_at hl 0 rfl) ?_
    refine lv_bipush (v := 16) hx hb dJ5_init_a7421_16 (by decide) ?_
    refine lv_iadd hx hb dJ5_init_a7421_18 ?_
    refine lv_goto (tgt := 24) hx hb dJ5_init_a7421_19 (by decide) ?_
    refine lv_topi (fun x_4 ex_4 => ?_)
    obtain rfl : x_4 = 16 := by rw [ex_4]; decide
    refine lv_istore_n (lv' := [(3, .int 16), (2, .int 0), (0, .ref sb), (1, .ref (aK 0))]) hx hb dJ5_init_a7421_24 rfl hl (by decide) rfl (fun ls hl => ?_)
    refine lv_aload_n hx hb dJ5_init_a7421_25 rfl (lv_at hl 3 rfl) ?_
    have hPc := hP.sub (ws' := []) [] rfl
    have hDc := hD.sub (ws' := []) [] (by decide) rfl
    have hKc := hK.sub (tys' := []) [] rfl
    have hFc := va_free (wc := []) hD hS hA [] rfl
    refine va_calli (va_runV (As := []) (rest := []) ⟨hx, hb, hml, hown, hts⟩ (c_J0_coder_c l dC dI e0 aK aV H.size) (cwV 0 hts gJ5_init_a7421_J0_coder_7d493 rfl rfl rfl (by decide +kernel) ⟨Nat.le_of_ble_eq_true rfl, Nat.le_of_ble_eq_true rfl⟩) (pcVs hPc hDc hKc hN hZ hS hFc (i := 0) (by decide)) rfl rfl hl.1 rfl (lv_room (Nat.le_of_ble_eq_true rfl)) dJ5_init_a7421_26 ⟨Nat.le_of_ble_eq_true rfl, Nat.le_of_ble_eq_true rfl⟩) hS (fun q _ h => hFc q h) hFc (fun r_5 u t H1 locs ht hvm hw_6 hB hz1 hk1 hS => ?_)
    obtain ⟨hP1, hK1, hD1⟩ := hB
    rw [ht] at hP1
    try dsimp only at hw_6
    obtain ⟨hP, hD⟩ := va_join (wr := [(sb, .inr (1, [.null, .int 0, .int 0, .int 0]))]) (w1 := []) hP hD [] [0] rfl rfl (by decide) (by decide) hk1 hFc hP1 hD1
    generalize H1 = H at hP hS ⊢
    have hP : va_P (dC, dI) vwCl [(sb, .inr (1, [.null, .int 0, .int 0, .int 0]))] H := hP
    have hD : va_D A [(sb, .inr (1, [.null, .int 0, .int 0, .int 0]))] := hD
    subst hw_6
    refine lv_istore (lv' := [(4, .int 0), (3, .int 16), (2, .int 0), (0, .ref sb), (1, .ref (aK 0))]) hx hb dJ5_init_a7421_29 hl (by decide) rfl (fun ls hl => ?_)
    refine lv_aload_n hx hb dJ5_init_a7421_31 rfl (lv_at hl 3 rfl) ?_
    refine lv_iload hx hb dJ5_init_a7421_32 (lv_at hl 0 rfl) ?_
    refine va_put (D := (dC, dI)) (ci := 1) (v := .int 0) (ty := .byte) (C := RJ4) (T := TJ4) (N := 4) hx hb hts iWJ4 tyJ4 tyJ4_ok nmJ4 hown hK hP hD hS 0 rfl rfl 1 (by decide) (hts (.fieldLink RJ5 22 "java/lang/AbstractStringBuilder" "coder" "B") (by decide +kernel)) (fun _ h9 => h9) rfl (by decide +kernel) rfl rfl (Nat.le_of_ble_eq_true rfl) dJ5_init_a7421_34 (fun H locs hP hD hS => ?_)
    have hP : va_P (dC, dI) vwCl [(sb, .inr (1, [.null, .int 0, .int 0, .int 0]))] H := hP
    have hD : va_D A [(sb, .inr (1, [.null, .int 0, .int 0, .int 0]))] := hD
    refine lv_aload_n hx hb dJ5_init_a7421_37 rfl (lv_at hl 3 rfl) ?_
    refine lv_iload hx hb dJ5_init_a7421_38 (lv_at hl 0 rfl) ?_
    refine lv_if_ne (tgt := 49) hx hb dJ5_init_a7421_40 (by decide) (fun c40_7 => ?_) (fun c40_7 => ?_)
    · exact (c40_7 (by decide)).elim
    · refine lv_iload_n hx hb dJ5_init_a7421_43 rfl (lv_at hl 1 rfl) ?_
      refine va_newa (atype := .byte) (ty := .byte) (a0 := (16, .inl (fun _ => 0))) (N' := 16) hx hb (hts (.arrayClass .byte) (by decide +kernel)) rfl hK hP hD hS hA (fun _ => rfl) (by decide) (by decide) (Nat.le_of_ble_eq_true rfl) (Nat.le_of_ble_eq_true rfl) (Nat.le_of_ble_eq_true rfl) dJ5_init_a7421_44 (fun q_9 cA_8 H hK hP hD hS => ?_)
      have ecA_8 : cB = cA_8 := cA_one hK (i := 0) (j := 1) rfl rfl
      subst ecA_8
      have hK := hK.sub (tys' := [(cB, .byte)]) [0] rfl
      have hP : va_P (dC, dI) vwCl [(sb, .inr (1, [.null, .int 0, .int 0, .int 0])), (q_9, .inl (cB, 16, .inl (fun _ => 0)))] H := hP
      have hD : va_D A [(sb, .inr (1, [.null, .int 0, .int 0, .int 0])), (q_9, .inl (cB, 16, .inl (fun _ => 0)))] := hD
      refine W.widen (k := 1) (n := 16) (Nat.le_of_ble_eq_true rfl) (Nat.le_of_ble_eq_true rfl) ?_
      refine lv_goto (tgt := 53) hx hb dJ5_init_a7421_46 (by decide) ?_
      refine va_put (D := (dC, dI)) (ci := 1) (v := .ref q_9) (ty := .array .byte) (C := RJ4) (T := TJ4) (N := 4) hx hb hts iWJ4 tyJ4 tyJ4_ok nmJ4 hown hK hP hD hS 0 rfl rfl 0 (by decide) (hts (.fieldLink RJ5 15 "java/lang/AbstractStringBuilder" "value" "[B") (by decide +kernel)) (fun _ h9 => h9) rfl (by decide +kernel) rfl rfl (Nat.le_of_ble_eq_true rfl) dJ5_init_a7421_53 (fun H locs hP hD hS => ?_)
      have hP : va_P (dC, dI) vwCl [(sb, .inr (1, [.ref q_9, .int 0, .int 0, .int 0])), (q_9, .inl (cB, 16, .inl (fun _ => 0)))] H := hP
      have hD : va_D A [(sb, .inr (1, [.ref q_9, .int 0, .int 0, .int 0])), (q_9, .inl (cB, 16, .inl (fun _ => 0)))] := hD
      refine lv_aload_n hx hb dJ5_init_a7421_56 rfl (lv_at hl 3 rfl) ?_
      refine lv_aload_n hx hb dJ5_init_a7421_57 rfl (lv_at hl 4 rfl) ?_
      have hPc := hP.sub (ws' := [(sb, .inr (1, [.ref q_9, .int 0, .int 0, .int 0])), (q_9, .inl (cB, 16, .inl (fun _ => 0)))]) [0, 1] rfl
      have hDc := hD.sub (ws' := [(sb, .inr (1, [.ref q_9, .int 0, .int 0, .int 0])), (q_9, .inl (cB, 16, .inl (fun _ => 0)))]) [0, 1] (by decide) rfl
      have hKc := hK.sub (tys' := [(cB, .byte)]) [0] rfl
      have hFc := va_free (wc := [(sb, .inr (1, [.ref q_9, .int 0, .int 0, .int 0])), (q_9, .inl (cB, 16, .inl (fun _ => 0)))]) hD hS hA [0, 1] rfl
      refine va_callr (va_runU (As := [.ref (aK 0)]) (rest := []) ⟨hx, hb, hml, hown, hts⟩ (c_J4_append_cf1ce l dC dI e0 aK aV cB sb q_9 0 (fun _ => 0) H.size) (va_cwO 1 hts gJ5_init_a7421_J4_append_cf1ce_u43J4 rfl rfl rfl (b0 := cJ5_append_cf1ce) (m0 := 3) (r0 := (some (.object "java/lang/AbstractStringBuilder"))) (by decide +kernel) (by decide +kernel) ⟨Nat.le_of_ble_eq_true rfl, Nat.le_of_ble_eq_true rfl⟩) (pcVz (zM_ok e0 aK aV) hPc hDc hKc hN hZ hS hFc (ci := 1) (q0 := 0) rfl rfl) rfl rfl hl.1 rfl (lv_room (Nat.le_of_ble_eq_true rfl)) dJ5_init_a7421_58 ⟨Nat.le_of_ble_eq_true rfl, Nat.le_of_ble_eq_true rfl⟩) hS (fun q _ h => hFc q h) hFc (fun u r_11 t H1 locs ht hvm hw_12 hB hz1 hk1 hS => ?_)
      obtain ⟨ha9, hP1, hK1, hD1⟩ := hB
      rw [ht] at hP1
      try dsimp only at hw_12
      obtain ⟨hP, hD⟩ := va_join (wr := []) (w1 := [(sb, .inr (1, [.ref q_9, .int 0, .int 0, .int 0])), (q_9, .inl (cB, 16, .inl u))]) hP hD [0, 1] [] rfl rfl (by decide) (by decide) hk1 hFc hP1 hD1
      generalize H1 = H at hP hS ⊢
      have hP : va_P (dC, dI) vwCl [(sb, .inr (1, [.ref q_9, .int 0, .int 0, .int 0])), (q_9, .inl (cB, 16, .inl u))] H := hP
      have hD : va_D A [(sb, .inr (1, [.ref q_9, .int 0, .int 0, .int 0])), (q_9, .inl (cB, 16, .inl u))] := hD
      rw [ha9]
      obtain ⟨f_10, ef_10⟩ : ∃ z, z = u := ⟨_, rfl⟩
      subst ef_10
      refine lv_pop hx hb dJ5_init_a7421_61 rfl ?_
      have hP9 := hP.sub (ws' := [(sb, .inr (1, [.ref q_9, .int 0, .int 0, .int 0])), (q_9, .inl (cB, 16, .inl f_10))]) [0, 1] rfl
      have hD9 := hD.sub (ws' := [(sb, .inr (1, [.ref q_9, .int 0, .int 0, .int 0])), (q_9, .inl (cB, 16, .inl f_10))]) [0, 1] (by decide) rfl
      have hK9 := hK.sub (tys' := [(cB, .byte)]) [0] rfl
      exact W.vret hx hb hr (fun t ht hW => ⟨⟨(q_9, f_10), rfl, trivial, ⟨by rw [ht]; exact hP9, va_K.moved hW.alike hK9, hD9⟩⟩, hS.F ht⟩) hS.2.2 dJ5_init_a7421_62

set_option maxHeartbeats 4000000 in
set_option maxRecDepth 100000 in
/-- J4_init_a7421 -/
theorem c_J4_init_a7421 (l : Launch) (dC : Nat → ClassId) (dI : Nat → Nat → Nat) (e0 : Nat) (aK aV : Nat → Nat) (cB : ClassId) (sb : Nat) (sz : Nat) : Met l yJ4_init_a7421 wsJ4_init_a7421 ({ frames := 7, cells := 1, slots := 16, locals := 193 }) (va_Pc [.ref sb, .ref (aK 0)] (cPCz (zM e0 aK aV) dC dI [(sb, .inr (1, [.null, .int 0, .int 0, .int 0]))] [(cB, .byte)] sz)) (va_Qv (fun (u : Nat × (Nat → Int32)) => True) (fun (u : Nat × (Nat → Int32)) t => cQB dC dI [(sb, .inr (1, [.ref u.1, .int 0, .int 0, .int 0])), (u.1, .inl (cB, 16, .inl u.2))] [(cB, .byte)] (va_A [(sb, .inr (1, [.null, .int 0, .int 0, .int 0]))] sz) t) (va_A [(sb, .inr (1, [.null, .int 0, .int 0, .int 0]))] sz)) 1 16 (va_A [(sb, .inr (1, [.null, .int 0, .int 0, .int 0]))] sz) := by
  refine Met.ofW (cc := cJ4_init_a7421) (maxL := 2) (ret := none) (by decide) rfl ?_
  intro p e s m args below meth c s₁ B hml hv
  obtain ⟨rfl, ⟨hsz, hP, hK, hD0, hN⟩, hZ⟩ := hv
  have hx := B.exec
  have hb := B.bytes
  have hr := B.returns
  have hts := atoms_spec (ws := wsJ4_init_a7421) B.pre
  have hown : s.vm.findClass RJ4 = some m.cls := findClass_of_methodNamed B.named
  have hlocks := B.notSynchronized
  have hin : meth.name = "<init>" := (name_of_methodNamed B.named B.method).1
  subst hsz
  have hD := hD0.self (sz := s.heap.size)
  generalize hAe : va_A [(sb, .inr (1, [.null, .int 0, .int 0, .int 0]))] s.heap.size = A at hD hZ ⊢
  have hA : ∀ q : Nat, s.heap.size ≤ q → A q := fun q h => by rw [← hAe]; exact Or.inr h
  have hS : va_S A s.heap s.heap [] := va_S.rf
  have hP : va_P (dC, dI) vwCl [(sb, .inr (1, [.null, .int 0, .int 0, .int 0]))] s.heap := hP
  have hD : va_D A [(sb, .inr (1, [.null, .int 0, .int 0, .int 0]))] := hD
  have hl := lv_entry ([.ref sb, .ref (aK 0)]) (n := 2) (Nat.le_of_ble_eq_true rfl)
  rw [lg_entry_eq]
  generalize (lg_sl ([.ref sb, .ref (aK 0)]) ++ List.replicate (2 - (lg_sl ([.ref sb, .ref (aK 0)])).length) Slot.unset).toArray = ls at hl ⊢
  have hl : lv_has ls 2 [(0, .ref sb), (1, .ref (aK 0))] := hl
  have iWJ0 : ∀ w ∈ u_ws RJ0 TJ0 4, w ∈ wsJ4_init_a7421 := by decide +kernel
  have iWJ4 : ∀ w ∈ u_ws RJ4 TJ4 4, w ∈ wsJ4_init_a7421 := by decide +kernel
  refine lv_aload_n hx hb dJ4_init_a7421_0 rfl (lv_at hl 0 rfl) ?_
  refine lv_aload_n hx hb dJ4_init_a7421_1 rfl (lv_at hl 1 rfl) ?_
  have hPc := hP.sub (ws' := [(sb, .inr (1, [.null, .int 0, .int 0, .int 0]))]) [0] rfl
  have hDc := hD.sub (ws' := [(sb, .inr (1, [.null, .int 0, .int 0, .int 0]))]) [0] (by decide) rfl
  have hKc := hK.sub (tys' := [(cB, .byte)]) [0] rfl
  have hFc := va_free (wc := [(sb, .inr (1, [.null, .int 0, .int 0, .int 0]))]) hD hS hA [0] rfl
  refine va_callv (va_runI (As := [.ref (aK 0)]) (rest := []) ⟨hx, hb, hml, hown, hts⟩ (c_J5_init_a7421 l dC dI e0 aK aV cB sb s.heap.size) (cwI 1 hts gJ4_init_a7421_J5_init_a7421 rfl rfl rfl (hts (.initialized RJ5) (by decide +kernel)) (hts (.methodLink RJ4 7 yJ5_init_a7421) (by decide +kernel)) (hts (.instanceMethod yJ5_init_a7421) (by decide +kernel)) rfl (by decide +kernel) ⟨Nat.le_of_ble_eq_true rfl, Nat.le_of_ble_eq_true rfl⟩) (pcSz (zM_ok e0 aK aV) hPc hDc hKc hN hZ hS hFc) rfl rfl hl.1 rfl (lv_room (Nat.le_of_ble_eq_true rfl)) dJ4_init_a7421_2 ⟨Nat.le_of_ble_eq_true rfl, Nat.le_of_ble_eq_true rfl⟩) hS (fun q _ h => hFc q h) hFc (fun u t H1 locs ht hvm hw_3 hB hz1 hk1 hS => ?_)
  obtain ⟨q_1, f_2⟩ := u
  obtain ⟨hP1, hK1, hD1⟩ := hB
  rw [ht] at hP1
  try dsimp only at hw_3
  obtain ⟨hP, hD⟩ := va_join (wr := []) (w1 := [(sb, .inr (1, [.ref q_1, .int 0, .int 0, .int 0])), (q_1, .inl (cB, 16, .inl f_2))]) hP hD [0] [] rfl rfl (by decide) (by decide) hk1 hFc hP1 hD1
  generalize H1 = H at hP hS ⊢
  have hP : va_P (dC, dI) vwCl [(sb, .inr (1, [.ref q_1, .int 0, .int 0, .int 0])), (q_1, .inl (cB, 16, .inl f_2))] H := hP
  have hD : va_D A [(sb, .inr (1, [.ref q_1, .int 0, .int 0, .int 0])), (q_1, .inl (cB, 16, .inl f_2))] := hD
  refine W.widen (k := 1) (n := 16) (Nat.le_of_ble_eq_true rfl) (Nat.le_of_ble_eq_true rfl) ?_
  have hP9 := hP.sub (ws' := [(sb, .inr (1, [.ref q_1, .int 0, .int 0, .int 0])), (q_1, .inl (cB, 16, .inl f_2))]) [0, 1] rfl
  have hD9 := hD.sub (ws' := [(sb, .inr (1, [.ref q_1, .int 0, .int 0, .int 0])), (q_1, .inl (cB, 16, .inl f_2))]) [0, 1] (by decide) rfl
  have hK9 := hK.sub (tys' := [(cB, .byte)]) [0] rfl
  exact W.vret hx hb hr (fun t ht hW => ⟨⟨(q_1, f_2), rfl, trivial, ⟨by rw [ht]; exact hP9, va_K.moved hW.alike hK9, hD9⟩⟩, hS.F ht⟩) hS.2.2 dJ4_init_a7421_5
