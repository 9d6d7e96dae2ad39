theorem dJ0_isLatin1_aae02_0 : decode cJ0_isLatin1_aae02 0 = .ok (.getstatic 38, 3) := by decide +kernel
theorem dJ0_isLatin1_aae02_3 : decode cJ0_isLatin1_aae02 3 = .ok (.ifCond .eq 14, 3) := by decide +kernel
theorem dJ0_isLatin1_aae02_6 : decode cJ0_isLatin1_aae02 6 = .ok (.aload_n 0, 1) := by decide +kernel
theorem dJ0_isLatin1_aae02_7 : decode cJ0_isLatin1_aae02 7 = .ok (.getfield 15, 3) := by decide +kernel
theorem dJ0_isLatin1_aae02_10 : decode cJ0_isLatin1_aae02 10 = .ok (.ifCond .ne 7, 3) := by decide +kernel
theorem dJ0_isLatin1_aae02_13 : decode cJ0_isLatin1_aae02 13 = .ok (.iconst 1, 1) := by decide +kernel
theorem dJ0_isLatin1_aae02_14 : decode cJ0_isLatin1_aae02 14 = .ok (.goto 4, 3) := by decide +kernel
theorem dJ0_isLatin1_aae02_18 : decode cJ0_isLatin1_aae02 18 = .ok (.ireturn, 1) := by decide +kernel
theorem dJ1_canEncode_9a6ad_0 : decode cJ1_canEncode_9a6ad 0 = .ok (.iload_n 0, 1) := by decide +kernel
theorem dJ1_canEncode_9a6ad_1 : decode cJ1_canEncode_9a6ad 1 = .ok (.ifCond .lt 14, 3) := by decide +kernel
theorem dJ1_canEncode_9a6ad_15 : decode cJ1_canEncode_9a6ad 15 = .ok (.iconst 0, 1) := by decide +kernel
theorem dJ1_canEncode_9a6ad_16 : decode cJ1_canEncode_9a6ad 16 = .ok (.ireturn, 1) := by decide +kernel
theorem dJ1_canEncode_9a6ad_4 : decode cJ1_canEncode_9a6ad 4 = .ok (.iload_n 0, 1) := by decide +kernel
theorem dJ1_canEncode_9a6ad_5 : decode cJ1_canEncode_9a6ad 5 = .ok (.sipush 255, 3) := by decide +kernel
theorem dJ1_canEncode_9a6ad_8 : decode cJ1_canEncode_9a6ad 8 = .ok (.if_icmp .gt 7, 3) := by decide +kernel
theorem dJ1_canEncode_9a6ad_11 : decode cJ1_canEncode_9a6ad 11 = .ok (.iconst 1, 1) := by decide +kernel
theorem dJ1_canEncode_9a6ad_12 : decode cJ1_canEncode_9a6ad 12 = .ok (.goto 4, 3) := by decide +kernel
theorem dJ1_indexOfChar_4cfef_0 : decode cJ1_indexOfChar_4cfef 0 = .ok (.iload_n 1, 1) := by decide +kernel
theorem dJ1_indexOfChar_4cfef_1 : decode cJ1_indexOfChar_4cfef 1 = .ok (.i2b, 1) := by decide +kernel
theorem dJ1_indexOfChar_4cfef_2 : decode cJ1_indexOfChar_4cfef 2 = .ok (.istore 4, 2) := by decide +kernel
theorem dJ1_indexOfChar_4cfef_4 : decode cJ1_indexOfChar_4cfef 4 = .ok (.iload_n 2, 1) := by decide +kernel
theorem dJ1_indexOfChar_4cfef_5 : decode cJ1_indexOfChar_4cfef 5 = .ok (.istore 5, 2) := by decide +kernel
theorem dJ1_indexOfChar_4cfef_7 : decode cJ1_indexOfChar_4cfef 7 = .ok (.iload 5, 2) := by decide +kernel
theorem dJ1_indexOfChar_4cfef_9 : decode cJ1_indexOfChar_4cfef 9 = .ok (.iload_n 3, 1) := by decide +kernel
theorem dJ1_indexOfChar_4cfef_10 : decode cJ1_indexOfChar_4cfef 10 = .ok (.if_icmp .ge 21, 3) := by decide +kernel
theorem dJ1_indexOfChar_4cfef_13 : decode cJ1_indexOfChar_4cfef 13 = .ok (.aload_n 0, 1) := by decide +kernel
theorem dJ1_indexOfChar_4cfef_14 : decode cJ1_indexOfChar_4cfef 14 = .ok (.iload 5, 2) := by decide +kernel
theorem dJ1_indexOfChar_4cfef_16 : decode cJ1_indexOfChar_4cfef 16 = .ok (.baload, 1) := by decide +kernel
theorem dJ1_indexOfChar_4cfef_17 : decode cJ1_indexOfChar_4cfef 17 = .ok (.iload 4, 2) := by decide +kernel
theorem dJ1_indexOfChar_4cfef_19 : decode cJ1_indexOfChar_4cfef 19 = .ok (.if_icmp .ne 6, 3) := by decide +kernel
theorem dJ1_indexOfChar_4cfef_25 : decode cJ1_indexOfChar_4cfef 25 = .ok (.iinc 5 1, 3) := by decide +kernel
theorem dJ1_indexOfChar_4cfef_28 : decode cJ1_indexOfChar_4cfef 28 = .ok (.goto (-21), 3) := by decide +kernel
theorem dJ1_indexOfChar_4cfef_31 : decode cJ1_indexOfChar_4cfef 31 = .ok (.iconst (-1), 1) := by decide +kernel
theorem dJ1_indexOfChar_4cfef_32 : decode cJ1_indexOfChar_4cfef 32 = .ok (.ireturn, 1) := by decide +kernel
theorem dJ1_indexOfChar_4cfef_22 : decode cJ1_indexOfChar_4cfef 22 = .ok (.iload 5, 2) := by decide +kernel
theorem dJ1_indexOfChar_4cfef_24 : decode cJ1_indexOfChar_4cfef 24 = .ok (.ireturn, 1) := by decide +kernel
theorem dJ1_indexOf_4cfef_0 : decode cJ1_indexOf_4cfef 0 = .ok (.iload_n 1, 1) := by decide +kernel
set_option maxRecDepth 20000 in
theorem ggJ1_indexOf_4cfef_J1_canEncode_9a6ad : GoodIn wsJ1_indexOf_4cfef wsJ1_canEncode_9a6ad := goodIn_r _ [11] rfl (by decide +kernel)
set_option maxRecDepth 20000 in
theorem gJ1_indexOf_4cfef_J1_canEncode_9a6ad : GoodIn wsJ1_indexOf_4cfef (va_wsS RJ1 88 yJ1_canEncode_9a6ad wsJ1_canEncode_9a6ad) := goodIn_app (goodIn_of _ (by decide +kernel)) ggJ1_indexOf_4cfef_J1_canEncode_9a6ad
theorem dJ1_indexOf_4cfef_1 : decode cJ1_indexOf_4cfef 1 = .ok (.invokestatic 88, 3) := by decide +kernel
theorem dJ1_indexOf_4cfef_4 : decode cJ1_indexOf_4cfef 4 = .ok (.ifCond .ne 5, 3) := by decide +kernel
theorem dJ1_indexOf_4cfef_9 : decode cJ1_indexOf_4cfef 9 = .ok (.iload_n 2, 1) := by decide +kernel
theorem dJ1_indexOf_4cfef_10 : decode cJ1_indexOf_4cfef 10 = .ok (.iconst 0, 1) := by decide +kernel
theorem dJ1_indexOf_4cfef_11 : decode cJ1_indexOf_4cfef 11 = .ok (.invokestatic 92, 3) := by decide +kernel
theorem dJ1_indexOf_4cfef_14 : decode cJ1_indexOf_4cfef 14 = .ok (.istore_n 2, 1) := by decide +kernel
theorem dJ1_indexOf_4cfef_15 : decode cJ1_indexOf_4cfef 15 = .ok (.iload_n 3, 1) := by decide +kernel
theorem dJ1_indexOf_4cfef_16 : decode cJ1_indexOf_4cfef 16 = .ok (.aload_n 0, 1) := by decide +kernel
theorem dJ1_indexOf_4cfef_17 : decode cJ1_indexOf_4cfef 17 = .ok (.arraylength, 1) := by decide +kernel
theorem dJ1_indexOf_4cfef_18 : decode cJ1_indexOf_4cfef 18 = .ok (.invokestatic 38, 3) := by decide +kernel
theorem dJ1_indexOf_4cfef_21 : decode cJ1_indexOf_4cfef 21 = .ok (.istore_n 3, 1) := by decide +kernel
theorem dJ1_indexOf_4cfef_22 : decode cJ1_indexOf_4cfef 22 = .ok (.iload_n 2, 1) := by decide +kernel
theorem dJ1_indexOf_4cfef_23 : decode cJ1_indexOf_4cfef 23 = .ok (.iload_n 3, 1) := by decide +kernel
theorem dJ1_indexOf_4cfef_24 : decode cJ1_indexOf_4cfef 24 = .ok (.if_icmp .lt 5, 3) := by decide +kernel
theorem dJ1_indexOf_4cfef_29 : decode cJ1_indexOf_4cfef 29 = .ok (.aload_n 0, 1) := by decide +kernel
theorem dJ1_indexOf_4cfef_30 : decode cJ1_indexOf_4cfef 30 = .ok (.iload_n 1, 1) := by decide +kernel
theorem dJ1_indexOf_4cfef_31 : decode cJ1_indexOf_4cfef 31 = .ok (.iload_n 2, 1) := by decide +kernel
theorem dJ1_indexOf_4cfef_32 : decode cJ1_indexOf_4cfef 32 = .ok (.iload_n 3, 1) := by decide +kernel
set_option maxRecDepth 20000 in
theorem ggJ1_indexOf_4cfef_J1_indexOfChar_4cfef : GoodIn wsJ1_indexOf_4cfef wsJ1_indexOfChar_4cfef := goodIn_r _ [14] rfl (by decide +kernel)
set_option maxRecDepth 20000 in
theorem gJ1_indexOf_4cfef_J1_indexOfChar_4cfef : GoodIn wsJ1_indexOf_4cfef (va_wsS RJ1 95 yJ1_indexOfChar_4cfef wsJ1_indexOfChar_4cfef) := goodIn_app (goodIn_of _ (by decide +kernel)) ggJ1_indexOf_4cfef_J1_indexOfChar_4cfef
theorem dJ1_indexOf_4cfef_33 : decode cJ1_indexOf_4cfef 33 = .ok (.invokestatic 95, 3) := by decide +kernel
theorem dJ1_indexOf_4cfef_36 : decode cJ1_indexOf_4cfef 36 = .ok (.ireturn, 1) := by decide +kernel
theorem dJ1_indexOf_4cfef_7 : decode cJ1_indexOf_4cfef 7 = .ok (.iconst (-1), 1) := by decide +kernel
theorem dJ1_indexOf_4cfef_8 : decode cJ1_indexOf_4cfef 8 = .ok (.ireturn, 1) := by decide +kernel
theorem dJ0_indexOf_7cf53_0 : decode cJ0_indexOf_7cf53 0 = .ok (.aload_n 0, 1) := by decide +kernel
set_option maxRecDepth 20000 in
theorem ggJ0_indexOf_7cf53_J0_isLatin1_aae02 : GoodIn wsJ0_indexOf_7cf53 wsJ0_isLatin1_aae02 := goodIn_r _ [6, 7, 8, 82, 83, 84, 85] rfl (by decide +kernel)
set_option maxRecDepth 20000 in
theorem gJ0_indexOf_7cf53_J0_isLatin1_aae02 : GoodIn wsJ0_indexOf_7cf53 (wsV RJ0 492 RJ0 yJ0_isLatin1_aae02 wsJ0_isLatin1_aae02) := goodIn_app (goodIn_of _ (by decide +kernel)) ggJ0_indexOf_7cf53_J0_isLatin1_aae02
theorem dJ0_indexOf_7cf53_1 : decode cJ0_indexOf_7cf53 1 = .ok (.invokevirtual 492, 3) := by decide +kernel
theorem dJ0_indexOf_7cf53_4 : decode cJ0_indexOf_7cf53 4 = .ok (.ifCond .eq 19, 3) := by decide +kernel
theorem dJ0_indexOf_7cf53_7 : decode cJ0_indexOf_7cf53 7 = .ok (.aload_n 0, 1) := by decide +kernel
theorem dJ0_indexOf_7cf53_8 : decode cJ0_indexOf_7cf53 8 = .ok (.getfield 9, 3) := by decide +kernel
theorem dJ0_indexOf_7cf53_11 : decode cJ0_indexOf_7cf53 11 = .ok (.iload_n 1, 1) := by decide +kernel
theorem dJ0_indexOf_7cf53_12 : decode cJ0_indexOf_7cf53 12 = .ok (.iload_n 2, 1) := by decide +kernel
theorem dJ0_indexOf_7cf53_13 : decode cJ0_indexOf_7cf53 13 = .ok (.aload_n 0, 1) := by decide +kernel
set_option maxRecDepth 20000 in
theorem ggJ0_indexOf_7cf53_J0_length_8abf5 : GoodIn wsJ0_indexOf_7cf53 wsJ0_length_8abf5 := goodIn_r _ [12, 1, 13, 14, 15, 5, 16, 7, 8, 82, 83, 84, 85] rfl (by decide +kernel)
set_option maxRecDepth 20000 in
theorem gJ0_indexOf_7cf53_J0_length_8abf5 : GoodIn wsJ0_indexOf_7cf53 (wsV RJ0 505 RJ0 yJ0_length_8abf5 wsJ0_length_8abf5) := goodIn_app (goodIn_of _ (by decide +kernel)) ggJ0_indexOf_7cf53_J0_length_8abf5
theorem dJ0_indexOf_7cf53_14 : decode cJ0_indexOf_7cf53 14 = .ok (.invokevirtual 505, 3) := by decide +kernel
set_option maxRecDepth 20000 in
theorem ggJ0_indexOf_7cf53_J1_indexOf_4cfef : GoodIn wsJ0_indexOf_7cf53 wsJ1_indexOf_4cfef := goodIn_r _ [20, 21, 22, 23, 24, 25, 26, 27, 28, 29, 19, 30, 31, 32, 33] rfl (by decide +kernel)
set_option maxRecDepth 20000 in
theorem gJ0_indexOf_7cf53_J1_indexOf_4cfef : GoodIn wsJ0_indexOf_7cf53 (va_wsS RJ0 637 yJ1_indexOf_4cfef wsJ1_indexOf_4cfef) := goodIn_app (goodIn_of _ (by decide +kernel)) ggJ0_indexOf_7cf53_J1_indexOf_4cfef
theorem dJ0_indexOf_7cf53_17 : decode cJ0_indexOf_7cf53 17 = .ok (.invokestatic 637, 3) := by decide +kernel
theorem dJ0_indexOf_7cf53_20 : decode cJ0_indexOf_7cf53 20 = .ok (.goto 16, 3) := by decide +kernel
theorem dJ0_indexOf_7cf53_36 : decode cJ0_indexOf_7cf53 36 = .ok (.ireturn, 1) := by decide +kernel
theorem dJ0_indexOf_0f7a4_0 : decode cJ0_indexOf_0f7a4 0 = .ok (.aload_n 0, 1) := by decide +kernel
theorem dJ0_indexOf_0f7a4_1 : decode cJ0_indexOf_0f7a4 1 = .ok (.iload_n 1, 1) := by decide +kernel
theorem dJ0_indexOf_0f7a4_2 : decode cJ0_indexOf_0f7a4 2 = .ok (.iconst 0, 1) := by decide +kernel
set_option maxRecDepth 20000 in
theorem ggJ0_indexOf_0f7a4_J0_indexOf_7cf53 : GoodIn wsJ0_indexOf_0f7a4 wsJ0_indexOf_7cf53 := goodIn_r _ [5, 6, 7, 8, 9, 4, 10, 11, 12, 13, 14, 15, 16, 17, 18, 19, 20, 21, 22, 23, 24, 25, 26, 27, 28, 29, 30, 31, 32, 33, 34, 35, 36, 37, 38, 39, 40, 41, 42, 43, 44, 45, 46, 47, 48, 49, 50, 51, 52, 53, 54, 55, 56, 57, 58, 59, 60, 61, 62, 63, 64, 65, 66, 67, 68, 69, 70, 71, 72, 73, 74, 75, 76, 77, 78, 79, 80, 81, 82, 83, 84, 85, 86, 87, 88, 89] rfl (by decide +kernel)
set_option maxRecDepth 20000 in
theorem gJ0_indexOf_0f7a4_J0_indexOf_7cf53 : GoodIn wsJ0_indexOf_0f7a4 (wsV RJ0 633 RJ0 yJ0_indexOf_7cf53 wsJ0_indexOf_7cf53) := goodIn_app (goodIn_of _ (by decide +kernel)) ggJ0_indexOf_0f7a4_J0_indexOf_7cf53
theorem dJ0_indexOf_0f7a4_3 : decode cJ0_indexOf_0f7a4 3 = .ok (.invokevirtual 633, 3) := by decide +kernel
theorem dJ0_indexOf_0f7a4_6 : decode cJ0_indexOf_0f7a4 6 = .ok (.ireturn, 1) := by decide +kernel
theorem dX15_tagLength_0 : decode cX15_tagLength 0 = .ok (.aload_n 0, 1) := by decide +kernel
theorem dX15_tagLength_1 : decode cX15_tagLength 1 = .ok (.iconst 0, 1) := by decide +kernel
theorem dX15_tagLength_2 : decode cX15_tagLength 2 = .ok (.putfield 209, 3) := by decide +kernel
theorem dX15_tagLength_5 : decode cX15_tagLength 5 = .ok (.aload_n 0, 1) := by decide +kernel
theorem dX15_tagLength_6 : decode cX15_tagLength 6 = .ok (.getfield 203, 3) := by decide +kernel
set_option maxRecDepth 20000 in
theorem ggX15_tagLength_J0_length_8abf5 : GoodIn wsX15_tagLength wsJ0_length_8abf5 := goodIn_r _ [7, 8, 9, 10, 11, 6, 12, 13, 14, 36, 37, 38, 39] rfl (by decide +kernel)
set_option maxRecDepth 20000 in
theorem gX15_tagLength_J0_length_8abf5 : GoodIn wsX15_tagLength (wsV RX15 366 RJ0 yJ0_length_8abf5 wsJ0_length_8abf5) := goodIn_app (goodIn_of _ (by decide +kernel)) ggX15_tagLength_J0_length_8abf5
theorem dX15_tagLength_9 : decode cX15_tagLength 9 = .ok (.invokevirtual 366, 3) := by decide +kernel
theorem dX15_tagLength_12 : decode cX15_tagLength 12 = .ok (.ireturn, 1) := by decide +kernel
theorem dX15_tagLetter_0 : decode cX15_tagLetter 0 = .ok (.aload_n 0, 1) := by decide +kernel
theorem dX15_tagLetter_1 : decode cX15_tagLetter 1 = .ok (.iload_n 1, 1) := by decide +kernel
theorem dX15_tagLetter_2 : decode cX15_tagLetter 2 = .ok (.i2l, 1) := by decide +kernel
theorem dX15_tagLetter_3 : decode cX15_tagLetter 3 = .ok (.lconst 0, 1) := by decide +kernel
theorem dX15_tagLetter_4 : decode cX15_tagLetter 4 = .ok (.aload_n 0, 1) := by decide +kernel
theorem dX15_tagLetter_5 : decode cX15_tagLetter 5 = .ok (.getfield 203, 3) := by decide +kernel
set_option maxRecDepth 20000 in
theorem ggX15_tagLetter_J0_length_8abf5 : GoodIn wsX15_tagLetter wsJ0_length_8abf5 := goodIn_r _ [7, 8, 9, 10, 11, 6, 12, 13, 14, 77, 78, 79, 80] rfl (by decide +kernel)
set_option maxRecDepth 20000 in
theorem gX15_tagLetter_J0_length_8abf5 : GoodIn wsX15_tagLetter (wsV RX15 366 RJ0 yJ0_length_8abf5 wsJ0_length_8abf5) := goodIn_app (goodIn_of _ (by decide +kernel)) ggX15_tagLetter_J0_length_8abf5
theorem dX15_tagLetter_8 : decode cX15_tagLetter 8 = .ok (.invokevirtual 366, 3) := by decide +kernel
theorem dX15_tagLetter_11 : decode cX15_tagLetter 11 = .ok (.iconst 1, 1) := by decide +kernel
theorem dX15_tagLetter_12 : decode cX15_tagLetter 12 = .ok (.isub, 1) := by decide +kernel
theorem dX15_tagLetter_13 : decode cX15_tagLetter 13 = .ok (.i2l, 1) := by decide +kernel
set_option maxRecDepth 20000 in
theorem ggX15_tagLetter_X15_in : GoodIn wsX15_tagLetter wsX15_in := goodIn_r _ [18] rfl (by decide +kernel)
set_option maxRecDepth 20000 in
theorem gX15_tagLetter_X15_in : GoodIn wsX15_tagLetter (va_wsS RX15 170 yX15_in wsX15_in) := goodIn_app (goodIn_of _ (by decide +kernel)) ggX15_tagLetter_X15_in
theorem dX15_tagLetter_14 : decode cX15_tagLetter 14 = .ok (.invokestatic 170, 3) := by decide +kernel
theorem dX15_tagLetter_17 : decode cX15_tagLetter 17 = .ok (.ifCond .eq 7, 3) := by decide +kernel
theorem dX15_tagLetter_24 : decode cX15_tagLetter 24 = .ok (.iconst 1, 1) := by decide +kernel
theorem dX15_tagLetter_25 : decode cX15_tagLetter 25 = .ok (.putfield 209, 3) := by decide +kernel
theorem dX15_tagLetter_28 : decode cX15_tagLetter 28 = .ok (.aload_n 0, 1) := by decide +kernel
theorem dX15_tagLetter_29 : decode cX15_tagLetter 29 = .ok (.getfield 209, 3) := by decide +kernel
theorem dX15_tagLetter_32 : decode cX15_tagLetter 32 = .ok (.ifCond .le 8, 3) := by decide +kernel
theorem dX15_tagLetter_35 : decode cX15_tagLetter 35 = .ok (.bipush 32, 2) := by decide +kernel
theorem dX15_tagLetter_37 : decode cX15_tagLetter 37 = .ok (.goto 11, 3) := by decide +kernel
theorem dX15_tagLetter_48 : decode cX15_tagLetter 48 = .ok (.ireturn, 1) := by decide +kernel
theorem dX15_untag_0 : decode cX15_untag 0 = .ok (.aload_n 0, 1) := by decide +kernel
theorem dX15_untag_1 : decode cX15_untag 1 = .ok (.iconst 0, 1) := by decide +kernel
theorem dX15_untag_2 : decode cX15_untag 2 = .ok (.putfield 209, 3) := by decide +kernel
theorem dX15_untag_5 : decode cX15_untag 5 = .ok (.aload_n 0, 1) := by decide +kernel
theorem dX15_untag_6 : decode cX15_untag 6 = .ok (.getfield 199, 3) := by decide +kernel
set_option maxRecDepth 20000 in
theorem ggX15_untag_J0_length_8abf5 : GoodIn wsX15_untag wsJ0_length_8abf5 := goodIn_r _ [8, 9, 10, 11, 12, 7, 13, 14, 15, 37, 38, 39, 40] rfl (by decide +kernel)
set_option maxRecDepth 20000 in
theorem gX15_untag_J0_length_8abf5 : GoodIn wsX15_untag (wsV RX15 366 RJ0 yJ0_length_8abf5 wsJ0_length_8abf5) := goodIn_app (goodIn_of _ (by decide +kernel)) ggX15_untag_J0_length_8abf5
theorem dX15_untag_9 : decode cX15_untag 9 = .ok (.invokevirtual 366, 3) := by decide +kernel
theorem dX15_untag_12 : decode cX15_untag 12 = .ok (.istore_n 1, 1) := by decide +kernel
theorem dX15_untag_13 : decode cX15_untag 13 = .ok (.iconst 0, 1) := by decide +kernel
theorem dX15_untag_14 : decode cX15_untag 14 = .ok (.istore_n 2, 1) := by decide +kernel
theorem dX15_untag_15 : decode cX15_untag 15 = .ok (.iload_n 2, 1) := by decide +kernel
theorem dX15_untag_16 : decode cX15_untag 16 = .ok (.aload_n 0, 1) := by decide +kernel
theorem dX15_untag_17 : decode cX15_untag 17 = .ok (.getfield 195, 3) := by decide +kernel
theorem dX15_untag_20 : decode cX15_untag 20 = .ok (.arraylength, 1) := by decide +kernel
theorem dX15_untag_21 : decode cX15_untag 21 = .ok (.if_icmp .ge 29, 3) := by decide +kernel
theorem dX15_untag_24 : decode cX15_untag 24 = .ok (.iload_n 1, 1) := by decide +kernel
theorem dX15_untag_25 : decode cX15_untag 25 = .ok (.aload_n 0, 1) := by decide +kernel
theorem dX15_untag_26 : decode cX15_untag 26 = .ok (.getfield 195, 3) := by decide +kernel
theorem dX15_untag_29 : decode cX15_untag 29 = .ok (.iload_n 2, 1) := by decide +kernel
theorem dX15_untag_30 : decode cX15_untag 30 = .ok (.aaload, 1) := by decide +kernel
theorem dX15_untag_31 : decode cX15_untag 31 = .ok (.invokevirtual 366, 3) := by decide +kernel
theorem dX15_untag_34 : decode cX15_untag 34 = .ok (.iadd, 1) := by decide +kernel
theorem dX15_untag_35 : decode cX15_untag 35 = .ok (.istore_n 1, 1) := by decide +kernel
theorem dX15_untag_36 : decode cX15_untag 36 = .ok (.aload_n 0, 1) := by decide +kernel
theorem dX15_untag_37 : decode cX15_untag 37 = .ok (.getfield 195, 3) := by decide +kernel
theorem dX15_untag_40 : decode cX15_untag 40 = .ok (.iload_n 2, 1) := by decide +kernel
theorem dX15_untag_41 : decode cX15_untag 41 = .ok (.ldc 193, 2) := by decide +kernel
theorem dX15_untag_43 : decode cX15_untag 43 = .ok (.aastore, 1) := by decide +kernel
theorem dX15_untag_44 : decode cX15_untag 44 = .ok (.iinc 2 1, 3) := by decide +kernel
theorem dX15_untag_47 : decode cX15_untag 47 = .ok (.goto (-32), 3) := by decide +kernel
theorem dX15_untag_50 : decode cX15_untag 50 = .ok (.aload_n 0, 1) := by decide +kernel
theorem dX15_untag_51 : decode cX15_untag 51 = .ok (.ldc 193, 2) := by decide +kernel
theorem dX15_untag_53 : decode cX15_untag 53 = .ok (.putfield 199, 3) := by decide +kernel
theorem dX15_untag_56 : decode cX15_untag 56 = .ok (.iload_n 1, 1) := by decide +kernel
theorem dX15_untag_57 : decode cX15_untag 57 = .ok (.ireturn, 1) := by decide +kernel
theorem dX15_tagRow_0 : decode cX15_tagRow 0 = .ok (.iload_n 1, 1) := by decide +kernel
theorem dX15_tagRow_1 : decode cX15_tagRow 1 = .ok (.i2l, 1) := by decide +kernel
theorem dX15_tagRow_2 : decode cX15_tagRow 2 = .ok (.ldc2_w 364, 3) := by decide +kernel
theorem dX15_tagRow_5 : decode cX15_tagRow 5 = .ok (.ldc2_w 326, 3) := by decide +kernel
set_option maxRecDepth 20000 in
theorem ggX15_tagRow_X15_in : GoodIn wsX15_tagRow wsX15_in := goodIn_r _ [11] rfl (by decide +kernel)
set_option maxRecDepth 20000 in
theorem gX15_tagRow_X15_in : GoodIn wsX15_tagRow (va_wsS RX15 170 yX15_in wsX15_in) := goodIn_app (goodIn_of _ (by decide +kernel)) ggX15_tagRow_X15_in
theorem dX15_tagRow_8 : decode cX15_tagRow 8 = .ok (.invokestatic 170, 3) := by decide +kernel
theorem dX15_tagRow_11 : decode cX15_tagRow 11 = .ok (.ifCond .eq 21, 3) := by decide +kernel
theorem dX15_tagRow_32 : decode cX15_tagRow 32 = .ok (.iconst 0, 1) := by decide +kernel
theorem dX15_tagRow_33 : decode cX15_tagRow 33 = .ok (.istore_n 3, 1) := by decide +kernel
theorem dX15_tagRow_34 : decode cX15_tagRow 34 = .ok (.aload_n 0, 1) := by decide +kernel
theorem dX15_tagRow_35 : decode cX15_tagRow 35 = .ok (.iload_n 3, 1) := by decide +kernel
theorem dX15_tagRow_36 : decode cX15_tagRow 36 = .ok (.ifCond .ne 7, 3) := by decide +kernel
theorem dX15_tagRow_39 : decode cX15_tagRow 39 = .ok (.iconst 1, 1) := by decide +kernel
theorem dX15_tagRow_40 : decode cX15_tagRow 40 = .ok (.goto 25, 3) := by decide +kernel
theorem dX15_tagRow_65 : decode cX15_tagRow 65 = .ok (.putfield 209, 3) := by decide +kernel
theorem dX15_tagRow_68 : decode cX15_tagRow 68 = .ok (.aload_n 0, 1) := by decide +kernel
theorem dX15_tagRow_69 : decode cX15_tagRow 69 = .ok (.getfield 209, 3) := by decide +kernel
theorem dX15_tagRow_72 : decode cX15_tagRow 72 = .ok (.ifCond .le 5, 3) := by decide +kernel
theorem dX15_tagRow_75 : decode cX15_tagRow 75 = .ok (.iconst 0, 1) := by decide +kernel
theorem dX15_tagRow_76 : decode cX15_tagRow 76 = .ok (.ireturn, 1) := by decide +kernel
theorem dX15_tagRow_14 : decode cX15_tagRow 14 = .ok (.iload_n 2, 1) := by decide +kernel
theorem dX15_tagRow_15 : decode cX15_tagRow 15 = .ok (.i2l, 1) := by decide +kernel
theorem dX15_tagRow_16 : decode cX15_tagRow 16 = .ok (.ldc2_w 364, 3) := by decide +kernel
theorem dX15_tagRow_19 : decode cX15_tagRow 19 = .ok (.ldc2_w 326, 3) := by decide +kernel
theorem dX15_tagRow_22 : decode cX15_tagRow 22 = .ok (.invokestatic 170, 3) := by decide +kernel
theorem dX15_tagRow_25 : decode cX15_tagRow 25 = .ok (.ifCond .eq 7, 3) := by decide +kernel
theorem dX15_tagRow_28 : decode cX15_tagRow 28 = .ok (.iconst 1, 1) := by decide +kernel
theorem dX15_tagRow_29 : decode cX15_tagRow 29 = .ok (.goto 4, 3) := by decide +kernel
theorem dX15_tagRow_43 : decode cX15_tagRow 43 = .ok (.aload_n 0, 1) := by decide +kernel
theorem dX15_tagRow_44 : decode cX15_tagRow 44 = .ok (.getfield 195, 3) := by decide +kernel
theorem dX15_tagRow_47 : decode cX15_tagRow 47 = .ok (.iload_n 1, 1) := by decide +kernel
theorem dX15_tagRow_48 : decode cX15_tagRow 48 = .ok (.bipush 97, 2) := by decide +kernel
theorem dX15_tagRow_50 : decode cX15_tagRow 50 = .ok (.isub, 1) := by decide +kernel
theorem dX15_tagRow_51 : decode cX15_tagRow 51 = .ok (.aaload, 1) := by decide +kernel
set_option maxRecDepth 20000 in
theorem ggX15_tagRow_J0_length_8abf5 : GoodIn wsX15_tagRow wsJ0_length_8abf5 := goodIn_r _ [16, 17, 18, 19, 20, 15, 21, 22, 23, 268, 269, 270, 271] rfl (by decide +kernel)
set_option maxRecDepth 20000 in
theorem gX15_tagRow_J0_length_8abf5 : GoodIn wsX15_tagRow (wsV RX15 366 RJ0 yJ0_length_8abf5 wsJ0_length_8abf5) := goodIn_app (goodIn_of _ (by decide +kernel)) ggX15_tagRow_J0_length_8abf5
theorem dX15_tagRow_52 : decode cX15_tagRow 52 = .ok (.invokevirtual 366, 3) := by decide +kernel
theorem dX15_tagRow_55 : decode cX15_tagRow 55 = .ok (.bipush 6, 2) := by decide +kernel
theorem dX15_tagRow_57 : decode cX15_tagRow 57 = .ok (.if_icmp .ne 7, 3) := by decide +kernel
theorem dX15_tagRow_64 : decode cX15_tagRow 64 = .ok (.iconst 0, 1) := by decide +kernel
theorem dX15_tagRow_77 : decode cX15_tagRow 77 = .ok (.new 369, 3) := by decide +kernel
theorem dX15_tagRow_80 : decode cX15_tagRow 80 = .ok (.dup, 1) := by decide +kernel
set_option maxRecDepth 20000 in
theorem ggX15_tagRow_J4_init_da8c8 : GoodIn wsX15_tagRow wsJ4_init_da8c8 := goodIn_r _ [26, 27, 28, 29, 30, 31, 32, 33, 34, 35, 36, 37, 38, 39, 40, 41, 42, 43, 44, 45, 264, 265, 266, 267] rfl (by decide +kernel)
set_option maxRecDepth 20000 in
theorem gX15_tagRow_J4_init_da8c8 : GoodIn wsX15_tagRow (wsJ4_init_da8c8) := ggX15_tagRow_J4_init_da8c8
theorem dX15_tagRow_81 : decode cX15_tagRow 81 = .ok (.invokespecial 371, 3) := by decide +kernel
theorem dX15_tagRow_84 : decode cX15_tagRow 84 = .ok (.aload_n 0, 1) := by decide +kernel
theorem dX15_tagRow_85 : decode cX15_tagRow 85 = .ok (.getfield 195, 3) := by decide +kernel
theorem dX15_tagRow_88 : decode cX15_tagRow 88 = .ok (.iload_n 1, 1) := by decide +kernel
theorem dX15_tagRow_89 : decode cX15_tagRow 89 = .ok (.bipush 97, 2) := by decide +kernel
theorem dX15_tagRow_91 : decode cX15_tagRow 91 = .ok (.isub, 1) := by decide +kernel
theorem dX15_tagRow_92 : decode cX15_tagRow 92 = .ok (.dup2_x1, 1) := by decide +kernel
theorem dX15_tagRow_93 : decode cX15_tagRow 93 = .ok (.aaload, 1) := by decide +kernel
set_option maxRecDepth 20000 in
theorem ggX15_tagRow_J4_append_15ec4 : GoodIn wsX15_tagRow wsJ4_append_15ec4 := goodIn_r _ [49, 50, 51, 52, 53, 29, 54, 55, 56, 57, 58, 59, 60, 36, 61, 62, 63, 64, 65, 37, 66, 67, 68, 69, 70, 71, 72, 73, 74, 75, 76, 77, 78, 79, 80, 81, 82, 83, 84, 85, 86, 87, 88, 89, 90, 91, 92, 93, 35, 94, 95, 96, 97, 98, 99, 100, 101, 102, 103, 104, 105, 34, 106, 107, 40, 108, 109, 110, 111, 112, 113, 114, 115, 116, 117, 15, 118, 119, 120, 121, 122, 123, 124, 125, 126, 127, 128, 129, 13, 14, 16, 17, 18, 19, 20, 21, 22, 23, 130, 131, 132, 133, 134, 135, 136, 137, 138, 139, 140, 141, 142, 143, 144, 145, 38, 39, 41, 42, 43, 44, 45, 146, 147, 148, 149, 150, 151, 152, 153, 154, 155, 156, 157, 158, 159, 160, 161, 162, 163, 164, 165, 166, 167, 264, 265, 266, 267, 268, 269, 270, 271] rfl (by decide +kernel)
set_option maxRecDepth 20000 in
theorem gX15_tagRow_J4_append_15ec4 : GoodIn wsX15_tagRow (wsV RX15 372 RJ4 yJ4_append_15ec4 wsJ4_append_15ec4) := goodIn_app (goodIn_of _ (by decide +kernel)) ggX15_tagRow_J4_append_15ec4
theorem dX15_tagRow_94 : decode cX15_tagRow 94 = .ok (.invokevirtual 372, 3) := by decide +kernel
theorem dX15_tagRow_97 : decode cX15_tagRow 97 = .ok (.iload_n 2, 1) := by decide +kernel
set_option maxRecDepth 20000 in
theorem ggX15_tagRow_J4_append_cf468 : GoodIn wsX15_tagRow wsJ4_append_cf468 := goodIn_r _ [171, 172, 173, 52, 174, 29, 175, 55, 36, 61, 62, 63, 64, 65, 37, 66, 67, 68, 69, 70, 71, 72, 73, 74, 75, 76, 77, 78, 79, 80, 81, 82, 83, 84, 85, 86, 87, 88, 89, 90, 91, 92, 93, 35, 94, 95, 96, 97, 98, 99, 100, 101, 102, 103, 104, 105, 34, 176, 177, 148, 178, 141, 142, 143, 144, 145, 38, 39, 40, 41, 42, 43, 44, 45, 146, 147, 149, 150, 151, 152, 153, 154, 155, 113, 114, 115, 156, 157, 15, 158, 119, 159, 160, 122, 161, 124, 125, 126, 109, 127, 128, 179, 180, 181, 182, 183, 184, 185, 186, 187, 188, 189, 190, 264, 265, 266, 267] rfl (by decide +kernel)
set_option maxRecDepth 20000 in
theorem gX15_tagRow_J4_append_cf468 : GoodIn wsX15_tagRow (wsV RX15 376 RJ4 yJ4_append_cf468 wsJ4_append_cf468) := goodIn_app (goodIn_of _ (by decide +kernel)) ggX15_tagRow_J4_append_cf468
theorem dX15_tagRow_98 : decode cX15_tagRow 98 = .ok (.invokevirtual 376, 3) := by decide +kernel
set_option maxRecDepth 20000 in
theorem ggX15_tagRow_J4_toString_0e30d : GoodIn wsX15_tagRow wsJ4_toString_0e30d := goodIn_r _ [194, 195, 196, 15, 197, 198, 199, 200, 201, 202, 203, 32, 33, 23, 17, 22, 204, 205, 206, 207, 208, 29, 209, 36, 210, 211, 212, 213, 214, 7, 215, 216, 52, 217, 218, 55, 219, 102, 103, 104, 105, 34, 37, 220, 221, 86, 222, 88, 89, 90, 91, 92, 93, 223, 224, 225, 35, 94, 95, 78, 96, 97, 98, 99, 100, 226, 227, 228, 229, 6, 230, 231, 40, 232, 233, 234, 235, 153, 154, 155, 113, 114, 115, 156, 157, 158, 119, 159, 160, 122, 161, 236, 237, 238, 109, 127, 128, 42, 43, 44, 45, 239, 240, 241, 242, 268, 269, 270, 271, 264, 265, 266, 267] rfl (by decide +kernel)
set_option maxRecDepth 20000 in
theorem gX15_tagRow_J4_toString_0e30d : GoodIn wsX15_tagRow (wsV RX15 379 RJ4 yJ4_toString_0e30d wsJ4_toString_0e30d) := goodIn_app (goodIn_of _ (by decide +kernel)) ggX15_tagRow_J4_toString_0e30d
theorem dX15_tagRow_101 : decode cX15_tagRow 101 = .ok (.invokevirtual 379, 3) := by decide +kernel
theorem dX15_tagRow_104 : decode cX15_tagRow 104 = .ok (.aastore, 1) := by decide +kernel
theorem dX15_tagRow_105 : decode cX15_tagRow 105 = .ok (.aload_n 0, 1) := by decide +kernel
theorem dX15_tagRow_106 : decode cX15_tagRow 106 = .ok (.getfield 195, 3) := by decide +kernel
theorem dX15_tagRow_109 : decode cX15_tagRow 109 = .ok (.iload_n 1, 1) := by decide +kernel
theorem dX15_tagRow_110 : decode cX15_tagRow 110 = .ok (.bipush 97, 2) := by decide +kernel
theorem dX15_tagRow_112 : decode cX15_tagRow 112 = .ok (.isub, 1) := by decide +kernel
theorem dX15_tagRow_113 : decode cX15_tagRow 113 = .ok (.aaload, 1) := by decide +kernel
theorem dX15_tagRow_114 : decode cX15_tagRow 114 = .ok (.invokevirtual 366, 3) := by decide +kernel
theorem dX15_tagRow_117 : decode cX15_tagRow 117 = .ok (.ireturn, 1) := by decide +kernel
theorem dX15_tagStart_0 : decode cX15_tagStart 0 = .ok (.aload_n 0, 1) := by decide +kernel
theorem dX15_tagStart_1 : decode cX15_tagStart 1 = .ok (.iload_n 1, 1) := by decide +kernel
theorem dX15_tagStart_2 : decode cX15_tagStart 2 = .ok (.i2l, 1) := by decide +kernel
theorem dX15_tagStart_3 : decode cX15_tagStart 3 = .ok (.ldc2_w 364, 3) := by decide +kernel
theorem dX15_tagStart_6 : decode cX15_tagStart 6 = .ok (.ldc2_w 326, 3) := by decide +kernel
set_option maxRecDepth 20000 in
theorem ggX15_tagStart_X15_in : GoodIn wsX15_tagStart wsX15_in := goodIn_r _ [11] rfl (by decide +kernel)
set_option maxRecDepth 20000 in
theorem gX15_tagStart_X15_in : GoodIn wsX15_tagStart (va_wsS RX15 170 yX15_in wsX15_in) := goodIn_app (goodIn_of _ (by decide +kernel)) ggX15_tagStart_X15_in
theorem dX15_tagStart_9 : decode cX15_tagStart 9 = .ok (.invokestatic 170, 3) := by decide +kernel
theorem dX15_tagStart_12 : decode cX15_tagStart 12 = .ok (.ifCond .ne 7, 3) := by decide +kernel
theorem dX15_tagStart_19 : decode cX15_tagStart 19 = .ok (.aload_n 0, 1) := by decide +kernel
theorem dX15_tagStart_20 : decode cX15_tagStart 20 = .ok (.getfield 199, 3) := by decide +kernel
set_option maxRecDepth 20000 in
theorem ggX15_tagStart_J0_length_8abf5 : GoodIn wsX15_tagStart wsJ0_length_8abf5 := goodIn_r _ [16, 17, 18, 19, 20, 15, 21, 22, 23, 268, 269, 270, 271] rfl (by decide +kernel)
set_option maxRecDepth 20000 in
theorem gX15_tagStart_J0_length_8abf5 : GoodIn wsX15_tagStart (wsV RX15 366 RJ0 yJ0_length_8abf5 wsJ0_length_8abf5) := goodIn_app (goodIn_of _ (by decide +kernel)) ggX15_tagStart_J0_length_8abf5
theorem dX15_tagStart_23 : decode cX15_tagStart 23 = .ok (.invokevirtual 366, 3) := by decide +kernel
theorem dX15_tagStart_26 : decode cX15_tagStart 26 = .ok (.bipush 40, 2) := by decide +kernel
theorem dX15_tagStart_28 : decode cX15_tagStart 28 = .ok (.if_icmp .ne 7, 3) := by decide +kernel
theorem dX15_tagStart_35 : decode cX15_tagStart 35 = .ok (.iconst 0, 1) := by decide +kernel
theorem dX15_tagStart_36 : decode cX15_tagStart 36 = .ok (.putfield 209, 3) := by decide +kernel
theorem dX15_tagStart_39 : decode cX15_tagStart 39 = .ok (.new 369, 3) := by decide +kernel
theorem dX15_tagStart_42 : decode cX15_tagStart 42 = .ok (.dup, 1) := by decide +kernel
set_option maxRecDepth 20000 in
theorem ggX15_tagStart_J4_init_da8c8 : GoodIn wsX15_tagStart wsJ4_init_da8c8 := goodIn_r _ [26, 27, 28, 29, 30, 31, 32, 33, 34, 35, 36, 37, 38, 39, 40, 41, 42, 43, 44, 45, 264, 265, 266, 267] rfl (by decide +kernel)
set_option maxRecDepth 20000 in
theorem gX15_tagStart_J4_init_da8c8 : GoodIn wsX15_tagStart (wsJ4_init_da8c8) := ggX15_tagStart_J4_init_da8c8
theorem dX15_tagStart_43 : decode cX15_tagStart 43 = .ok (.invokespecial 371, 3) := by decide +kernel
theorem dX15_tagStart_46 : decode cX15_tagStart 46 = .ok (.aload_n 0, 1) := by decide +kernel
theorem dX15_tagStart_47 : decode cX15_tagStart 47 = .ok (.dup_x1, 1) := by decide +kernel
theorem dX15_tagStart_48 : decode cX15_tagStart 48 = .ok (.getfield 199, 3) := by decide +kernel
set_option maxRecDepth 20000 in
theorem ggX15_tagStart_J4_append_15ec4 : GoodIn wsX15_tagStart wsJ4_append_15ec4 := goodIn_r _ [49, 50, 51, 52, 53, 29, 54, 55, 56, 57, 58, 59, 60, 36, 61, 62, 63, 64, 65, 37, 66, 67, 68, 69, 70, 71, 72, 73, 74, 75, 76, 77, 78, 79, 80, 81, 82, 83, 84, 85, 86, 87, 88, 89, 90, 91, 92, 93, 35, 94, 95, 96, 97, 98, 99, 100, 101, 102, 103, 104, 105, 34, 106, 107, 40, 108, 109, 110, 111, 112, 113, 114, 115, 116, 117, 15, 118, 119, 120, 121, 122, 123, 124, 125, 126, 127, 128, 129, 13, 14, 16, 17, 18, 19, 20, 21, 22, 23, 130, 131, 132, 133, 134, 135, 136, 137, 138, 139, 140, 141, 142, 143, 144, 145, 38, 39, 41, 42, 43, 44, 45, 146, 147, 148, 149, 150, 151, 152, 153, 154, 155, 156, 157, 158, 159, 160, 161, 162, 163, 164, 165, 166, 167, 264, 265, 266, 267, 268, 269, 270, 271] rfl (by decide +kernel)
set_option maxRecDepth 20000 in
theorem gX15_tagStart_J4_append_15ec4 : GoodIn wsX15_tagStart (wsV RX15 372 RJ4 yJ4_append_15ec4 wsJ4_append_15ec4) := goodIn_app (goodIn_of _ (by decide +kernel)) ggX15_tagStart_J4_append_15ec4
theorem dX15_tagStart_51 : decode cX15_tagStart 51 = .ok (.invokevirtual 372, 3) := by decide +kernel
theorem dX15_tagStart_54 : decode cX15_tagStart 54 = .ok (.aload_n 0, 1) := by decide +kernel
theorem dX15_tagStart_55 : decode cX15_tagStart 55 = .ok (.getfield 209, 3) := by decide +kernel
theorem dX15_tagStart_58 : decode cX15_tagStart 58 = .ok (.ifCond .le 8, 3) := by decide +kernel
theorem dX15_tagStart_66 : decode cX15_tagStart 66 = .ok (.new 369, 3) := by decide +kernel
theorem dX15_tagStart_69 : decode cX15_tagStart 69 = .ok (.dup, 1) := by decide +kernel
theorem dX15_tagStart_70 : decode cX15_tagStart 70 = .ok (.invokespecial 371, 3) := by decide +kernel
theorem dX15_tagStart_73 : decode cX15_tagStart 73 = .ok (.ldc 193, 2) := by decide +kernel
theorem dX15_tagStart_75 : decode cX15_tagStart 75 = .ok (.invokevirtual 372, 3) := by decide +kernel
theorem dX15_tagStart_78 : decode cX15_tagStart 78 = .ok (.iload_n 1, 1) := by decide +kernel
set_option maxRecDepth 20000 in
theorem ggX15_tagStart_J4_append_cf468 : GoodIn wsX15_tagStart wsJ4_append_cf468 := goodIn_r _ [171, 172, 173, 52, 174, 29, 175, 55, 36, 61, 62, 63, 64, 65, 37, 66, 67, 68, 69, 70, 71, 72, 73, 74, 75, 76, 77, 78, 79, 80, 81, 82, 83, 84, 85, 86, 87, 88, 89, 90, 91, 92, 93, 35, 94, 95, 96, 97, 98, 99, 100, 101, 102, 103, 104, 105, 34, 176, 177, 148, 178, 141, 142, 143, 144, 145, 38, 39, 40, 41, 42, 43, 44, 45, 146, 147, 149, 150, 151, 152, 153, 154, 155, 113, 114, 115, 156, 157, 15, 158, 119, 159, 160, 122, 161, 124, 125, 126, 109, 127, 128, 179, 180, 181, 182, 183, 184, 185, 186, 187, 188, 189, 190, 264, 265, 266, 267] rfl (by decide +kernel)
set_option maxRecDepth 20000 in
theorem gX15_tagStart_J4_append_cf468 : GoodIn wsX15_tagStart (wsV RX15 376 RJ4 yJ4_append_cf468 wsJ4_append_cf468) := goodIn_app (goodIn_of _ (by decide +kernel)) ggX15_tagStart_J4_append_cf468
theorem dX15_tagStart_79 : decode cX15_tagStart 79 = .ok (.invokevirtual 376, 3) := by decide +kernel
set_option maxRecDepth 20000 in
theorem ggX15_tagStart_J4_toString_0e30d : GoodIn wsX15_tagStart wsJ4_toString_0e30d := goodIn_r _ [194, 195, 196, 15, 197, 198, 199, 200, 201, 202, 203, 32, 33, 23, 17, 22, 204, 205, 206, 207, 208, 29, 209, 36, 210, 211, 212, 213, 214, 7, 215, 216, 52, 217, 218, 55, 219, 102, 103, 104, 105, 34, 37, 220, 221, 86, 222, 88, 89, 90, 91, 92, 93, 223, 224, 225, 35, 94, 95, 78, 96, 97, 98, 99, 100, 226, 227, 228, 229, 6, 230, 231, 40, 232, 233, 234, 235, 153, 154, 155, 113, 114, 115, 156, 157, 158, 119, 159, 160, 122, 161, 236, 237, 238, 109, 127, 128, 42, 43, 44, 45, 239, 240, 241, 242, 268, 269, 270, 271, 264, 265, 266, 267] rfl (by decide +kernel)
set_option maxRecDepth 20000 in
theorem gX15_tagStart_J4_toString_0e30d : GoodIn wsX15_tagStart (wsV RX15 379 RJ4 yJ4_toString_0e30d wsJ4_toString_0e30d) := goodIn_app (goodIn_of _ (by decide +kernel)) ggX15_tagStart_J4_toString_0e30d
theorem dX15_tagStart_82 : decode cX15_tagStart 82 = .ok (.invokevirtual 379, 3) := by decide +kernel
theorem dX15_tagStart_85 : decode cX15_tagStart 85 = .ok (.invokevirtual 372, 3) := by decide +kernel
theorem dX15_tagStart_88 : decode cX15_tagStart 88 = .ok (.invokevirtual 379, 3) := by decide +kernel
theorem dX15_tagStart_91 : decode cX15_tagStart 91 = .ok (.putfield 199, 3) := by decide +kernel
theorem dX15_tagStart_94 : decode cX15_tagStart 94 = .ok (.aload_n 0, 1) := by decide +kernel
theorem dX15_tagStart_95 : decode cX15_tagStart 95 = .ok (.getfield 209, 3) := by decide +kernel
theorem dX15_tagStart_98 : decode cX15_tagStart 98 = .ok (.ifCond .le 7, 3) := by decide +kernel
theorem dX15_tagStart_105 : decode cX15_tagStart 105 = .ok (.aload_n 0, 1) := by decide +kernel
theorem dX15_tagStart_106 : decode cX15_tagStart 106 = .ok (.getfield 199, 3) := by decide +kernel
theorem dX15_tagStart_109 : decode cX15_tagStart 109 = .ok (.invokevirtual 366, 3) := by decide +kernel
theorem dX15_tagStart_112 : decode cX15_tagStart 112 = .ok (.ireturn, 1) := by decide +kernel
theorem dX15_tagStart_15 : decode cX15_tagStart 15 = .ok (.iconst 1, 1) := by decide +kernel
theorem dX15_tagStart_16 : decode cX15_tagStart 16 = .ok (.goto 20, 3) := by decide +kernel
theorem dX15_tagStart_61 : decode cX15_tagStart 61 = .ok (.ldc 193, 2) := by decide +kernel
theorem dX15_tagStart_63 : decode cX15_tagStart 63 = .ok (.goto 22, 3) := by decide +kernel
theorem dX15_tagStart_101 : decode cX15_tagStart 101 = .ok (.iconst 0, 1) := by decide +kernel
theorem dX15_tagStart_102 : decode cX15_tagStart 102 = .ok (.goto 10, 3) := by decide +kernel
theorem dX15_tag_0 : decode cX15_tag 0 = .ok (.aload_n 0, 1) := by decide +kernel
theorem dX15_tag_1 : decode cX15_tag 1 = .ok (.iload_n 1, 1) := by decide +kernel
theorem dX15_tag_2 : decode cX15_tag 2 = .ok (.i2l, 1) := by decide +kernel
theorem dX15_tag_3 : decode cX15_tag 3 = .ok (.ldc2_w 217, 3) := by decide +kernel
theorem dX15_tag_6 : decode cX15_tag 6 = .ok (.ldc2_w 337, 3) := by decide +kernel
set_option maxRecDepth 20000 in
theorem ggX15_tag_X15_in : GoodIn wsX15_tag wsX15_in := goodIn_r _ [14] rfl (by decide +kernel)
set_option maxRecDepth 20000 in
theorem gX15_tag_X15_in : GoodIn wsX15_tag (va_wsS RX15 170 yX15_in wsX15_in) := goodIn_app (goodIn_of _ (by decide +kernel)) ggX15_tag_X15_in
theorem dX15_tag_9 : decode cX15_tag 9 = .ok (.invokestatic 170, 3) := by decide +kernel
theorem dX15_tag_12 : decode cX15_tag 12 = .ok (.ifCond .eq 19, 3) := by decide +kernel
theorem dX15_tag_31 : decode cX15_tag 31 = .ok (.iconst 1, 1) := by decide +kernel
theorem dX15_tag_32 : decode cX15_tag 32 = .ok (.putfield 209, 3) := by decide +kernel
theorem dX15_tag_35 : decode cX15_tag 35 = .ok (.aload_n 0, 1) := by decide +kernel
theorem dX15_tag_36 : decode cX15_tag 36 = .ok (.getfield 209, 3) := by decide +kernel
theorem dX15_tag_39 : decode cX15_tag 39 = .ok (.ifCond .le 5, 3) := by decide +kernel
theorem dX15_tag_42 : decode cX15_tag 42 = .ok (.iconst 0, 1) := by decide +kernel
theorem dX15_tag_43 : decode cX15_tag 43 = .ok (.ireturn, 1) := by decide +kernel
theorem dX15_tag_15 : decode cX15_tag 15 = .ok (.iload_n 2, 1) := by decide +kernel
theorem dX15_tag_16 : decode cX15_tag 16 = .ok (.i2l, 1) := by decide +kernel
theorem dX15_tag_17 : decode cX15_tag 17 = .ok (.lconst 0, 1) := by decide +kernel
theorem dX15_tag_18 : decode cX15_tag 18 = .ok (.ldc2_w 383, 3) := by decide +kernel
theorem dX15_tag_21 : decode cX15_tag 21 = .ok (.invokestatic 170, 3) := by decide +kernel
theorem dX15_tag_24 : decode cX15_tag 24 = .ok (.ifCond .eq 7, 3) := by decide +kernel
theorem dX15_tag_27 : decode cX15_tag 27 = .ok (.iconst 0, 1) := by decide +kernel
theorem dX15_tag_28 : decode cX15_tag 28 = .ok (.goto 4, 3) := by decide +kernel
theorem dX15_tag_44 : decode cX15_tag 44 = .ok (.new 369, 3) := by decide +kernel
theorem dX15_tag_47 : decode cX15_tag 47 = .ok (.dup, 1) := by decide +kernel
theorem dX15_tag_48 : decode cX15_tag 48 = .ok (.aload_n 0, 1) := by decide +kernel
theorem dX15_tag_49 : decode cX15_tag 49 = .ok (.getfield 199, 3) := by decide +kernel
set_option maxRecDepth 20000 in
theorem ggX15_tag_J4_init_a7421 : GoodIn wsX15_tag wsJ4_init_a7421 := goodIn_r _ [17, 18, 19, 20, 21, 22, 23, 24, 25, 26, 27, 28, 29, 30, 31, 32, 33, 34, 35, 36, 37, 38, 39, 40, 41, 42, 43, 44, 45, 46, 47, 48, 49, 50, 51, 52, 53, 54, 55, 7, 56, 57, 58, 59, 60, 61, 62, 63, 64, 65, 66, 67, 68, 69, 70, 71, 72, 73, 74, 75, 76, 77, 78, 79, 80, 81, 82, 83, 84, 85, 86, 87, 88, 89, 90, 91, 92, 93, 94, 95, 96, 97, 98, 99, 100, 101, 102, 103, 104, 105, 106, 107, 108, 109, 110, 111, 112, 113, 114, 115, 116, 117, 118, 119, 120, 121, 122, 123, 124, 125, 126, 127, 128, 129, 130, 131, 132, 133, 134, 135, 136, 137, 138, 139, 140, 141, 142, 143, 144, 145, 146, 147, 148, 149, 150, 151, 152, 153, 154, 155, 156, 157, 158, 159, 160, 161, 162, 163, 164, 165, 166, 167, 168, 169, 170, 171, 172, 173, 174, 175, 286, 287, 288, 289, 290, 291, 292, 293] rfl (by decide +kernel)
set_option maxRecDepth 20000 in
theorem gX15_tag_J4_init_a7421 : GoodIn wsX15_tag (wsJ4_init_a7421) := ggX15_tag_J4_init_a7421
theorem dX15_tag_52 : decode cX15_tag 52 = .ok (.invokespecial 385, 3) := by decide +kernel
theorem dX15_tag_55 : decode cX15_tag 55 = .ok (.astore_n 3, 1) := by decide +kernel
theorem dX15_tag_56 : decode cX15_tag 56 = .ok (.iconst 0, 1) := by decide +kernel
theorem dX15_tag_57 : decode cX15_tag 57 = .ok (.istore 4, 2) := by decide +kernel
theorem dX15_tag_59 : decode cX15_tag 59 = .ok (.iconst 1, 1) := by decide +kernel
theorem dX15_tag_60 : decode cX15_tag 60 = .ok (.istore 5, 2) := by decide +kernel
theorem dX15_tag_62 : decode cX15_tag 62 = .ok (.iload 5, 2) := by decide +kernel
theorem dX15_tag_64 : decode cX15_tag 64 = .ok (.ifCond .eq 82, 3) := by decide +kernel
theorem dX15_tag_67 : decode cX15_tag 67 = .ok (.iload 4, 2) := by decide +kernel
theorem dX15_tag_69 : decode cX15_tag 69 = .ok (.iload_n 2, 1) := by decide +kernel
theorem dX15_tag_70 : decode cX15_tag 70 = .ok (.if_icmp .ge 76, 3) := by decide +kernel
theorem dX15_tag_146 : decode cX15_tag 146 = .ok (.aload_n 0, 1) := by decide +kernel
theorem dX15_tag_147 : decode cX15_tag 147 = .ok (.aload_n 3, 1) := by decide +kernel
set_option maxRecDepth 20000 in
theorem ggX15_tag_J4_toString_0e30d : GoodIn wsX15_tag wsJ4_toString_0e30d := goodIn_r _ [224, 225, 226, 33, 227, 228, 229, 230, 231, 232, 233, 23, 24, 41, 35, 40, 234, 235, 236, 237, 238, 20, 239, 29, 240, 181, 241, 242, 177, 7, 179, 180, 62, 182, 183, 65, 243, 111, 112, 113, 114, 115, 27, 244, 245, 95, 246, 97, 98, 99, 100, 101, 102, 247, 248, 249, 28, 103, 104, 87, 105, 106, 107, 108, 109, 250, 251, 252, 253, 6, 254, 255, 45, 256, 257, 258, 259, 161, 162, 163, 123, 124, 125, 164, 165, 166, 129, 167, 168, 132, 169, 260, 200, 201, 119, 137, 138, 47, 48, 49, 50, 261, 262, 263, 264, 290, 291, 292, 293, 286, 287, 288, 289] rfl (by decide +kernel)
set_option maxRecDepth 20000 in
theorem gX15_tag_J4_toString_0e30d : GoodIn wsX15_tag (wsV RX15 379 RJ4 yJ4_toString_0e30d wsJ4_toString_0e30d) := goodIn_app (goodIn_of _ (by decide +kernel)) ggX15_tag_J4_toString_0e30d
theorem dX15_tag_148 : decode cX15_tag 148 = .ok (.invokevirtual 379, 3) := by decide +kernel
theorem dX15_tag_151 : decode cX15_tag 151 = .ok (.putfield 203, 3) := by decide +kernel
theorem dX15_tag_154 : decode cX15_tag 154 = .ok (.iload 4, 2) := by decide +kernel
theorem dX15_tag_156 : decode cX15_tag 156 = .ok (.ireturn, 1) := by decide +kernel
theorem dX15_tag_73 : decode cX15_tag 73 = .ok (.aload_n 3, 1) := by decide +kernel
set_option maxRecDepth 20000 in
theorem ggX15_tag_J4_length_8abf5 : GoodIn wsX15_tag wsJ4_length_8abf5 := goodIn_r _ [179, 180, 181, 62, 182, 20, 183, 65, 286, 287, 288, 289] rfl (by decide +kernel)
set_option maxRecDepth 20000 in
theorem gX15_tag_J4_length_8abf5 : GoodIn wsX15_tag (wsV RX15 388 RJ4 yJ4_length_8abf5 wsJ4_length_8abf5) := goodIn_app (goodIn_of _ (by decide +kernel)) ggX15_tag_J4_length_8abf5
theorem dX15_tag_74 : decode cX15_tag 74 = .ok (.invokevirtual 388, 3) := by decide +kernel
theorem dX15_tag_77 : decode cX15_tag 77 = .ok (.iload_n 1, 1) := by decide +kernel
theorem dX15_tag_78 : decode cX15_tag 78 = .ok (.if_icmp .lt 68, 3) := by decide +kernel
theorem up_same {a k : Nat} : va_up (fun _ => some a) k (some a) = (fun _ => some a) := by
  funext j
  simp [va_up]
theorem up_at {α : Type} {f : Nat → α} {k : Nat} {v : α} : va_up f k v k = v := if_pos rfl
theorem idx97 {p : Int32} (h : 97 ≤ p ∧ p ≤ 100) : vp_in (p - 97) 4 := by
  have h1 := Int32.le_iff_toInt_le.mp h.1
  have h2 := Int32.le_iff_toInt_le.mp h.2
  rw [show (97 : Int32).toInt = 97 from by decide] at h1
  rw [show (100 : Int32).toInt = 100 from by decide] at h2
  rw [vp_in_iff, Int32.toInt_sub, show (97 : Int32).toInt = 97 from by decide]
  have hb : (p.toInt - 97).bmod (2 ^ 32) = p.toInt - 97 := by rw [Int.bmod_eq_of_le] <;> omega
  rw [hb]
  omega
theorem le255 {p : Int32} (h : 97 ≤ p ∧ p ≤ 100) : p ≤ 255 := Int32.le_trans h.2 (by decide)
/-- a sign of the text 'hnosm' as a byte -/
theorem byteN : ∀ k, k < 256 → ((nI k).toInt8.toInt32 = 104 ↔ k = 104) ∧ ((nI k).toInt8.toInt32 = 110 ↔ k = 110) ∧ ((nI k).toInt8.toInt32 = 111 ↔ k = 111) ∧ ((nI k).toInt8.toInt32 = 115 ↔ k = 115) ∧ ((nI k).toInt8.toInt32 = 109 ↔ k = 109) := by decide +kernel
theorem byte5 {w : Int32} (h0 : ¬ w < 0) (h : w ≤ 255) : (w.toInt8.toInt32 = 104 ↔ w = 104) ∧ (w.toInt8.toInt32 = 110 ↔ w = 110) ∧ (w.toInt8.toInt32 = 111 ↔ w = 111) ∧ (w.toInt8.toInt32 = 115 ↔ w = 115) ∧ (w.toInt8.toInt32 = 109 ↔ w = 109) := by
  obtain ⟨j, hj, rfl⟩ := nI_of2 (M := 255) (n := 255) (by decide) h0 h
  have h1 := byteN j (by omega)
  have e : ∀ k : Nat, k < 256 → (nI j = nI k ↔ j = k) := fun k hk => nI_eq (by omega) (by omega)
  exact ⟨h1.1.trans (e 104 (by decide)).symm, h1.2.1.trans (e 110 (by decide)).symm, h1.2.2.1.trans (e 111 (by decide)).symm, h1.2.2.2.1.trans (e 115 (by decide)).symm, h1.2.2.2.2.trans (e 109 (by decide)).symm⟩
/-- where a letter of 'hnosm' is found -/
def whQ (w r : Int32) : Prop := (pWhat w ∧ ¬ r < 0) ∨ (¬ pWhat w ∧ r < 0)
theorem what_lo {w : Int32} (h : w < 0) : ¬ pWhat w := fun h2 => by
  rcases h2 with e | e | e | e | e <;> (rw [e] at h; exact absurd h (by decide))
theorem what_hi {w : Int32} (h : 255 < w) : ¬ pWhat w := fun h2 => by
  rcases h2 with e | e | e | e | e <;> (rw [e] at h; exact absurd h (by decide))
set_option maxHeartbeats 4000000 in
set_option maxRecDepth 100000 in
/-- J0_isLatin1_aae02 -/
theorem c_J0_isLatin1_aae02 (l : Launch) (dC : Nat → ClassId) (dI : Nat → Nat → Nat) (e0 : Nat) (aK aV : Nat → Nat) (sz : Nat) : Met l yJ0_isLatin1_aae02 wsJ0_isLatin1_aae02 ({ frames := 0, cells := 0, slots := 0, locals := 0 }) (va_Pc [.ref (aK 1)] (cPCz (zM e0 aK aV) dC dI [] [] sz)) (va_Qi (fun (r : Int32) (u : Unit) => r = 1) (fun (u : Unit) t => cQB dC dI [] [] (va_A [] sz) t) (va_A [] sz)) 0 0 (va_A [] sz) := by
  refine Met.ofW (cc := cJ0_isLatin1_aae02) (maxL := 1) (ret := (some .boolean)) (by decide) rfl ?_
  intro p e s m args below meth c s₁ B hml hv
  obtain ⟨rfl, ⟨hsz, hP, hK, hD0, hN⟩, hZ⟩ := hv
  have hx := B.exec
  have hb := B.bytes
  have hr := B.returns
  have hts := atoms_spec (ws := wsJ0_isLatin1_aae02) B.pre
  have hown : s.vm.findClass RJ0 = some m.cls := findClass_of_methodNamed B.named
  have hlocks := B.notSynchronized
  subst hsz
  have hD := hD0.self (sz := s.heap.size)
  generalize hAe : va_A [] s.heap.size = A at hD hZ ⊢
  have hA : ∀ q : Nat, s.heap.size ≤ q → A q := fun q h => by rw [← hAe]; exact Or.inr h
  have hS : va_S A s.heap s.heap [] := va_S.rf
  have hP : va_P (dC, dI) vwCl [] s.heap := hP
  have hD : va_D A [] := hD
  have hl := lv_entry ([.ref (aK 1)]) (n := 1) (Nat.le_of_ble_eq_true rfl)
  rw [lg_entry_eq]
  generalize (lg_sl ([.ref (aK 1)]) ++ List.replicate (1 - (lg_sl ([.ref (aK 1)])).length) Slot.unset).toArray = ls at hl ⊢
  have hl : lv_has ls 1 [(0, .ref (aK 1))] := hl
  have iWJ0 : ∀ w ∈ u_ws RJ0 TJ0 4, w ∈ wsJ0_isLatin1_aae02 := by decide +kernel
  refine va_gets hx hb hZ.1.2.2.1 hS hown (hts (.fieldLink RJ0 38 "java/lang/String" "COMPACT_STRINGS" "Z") (by decide +kernel)) (fun _ h9 => h9) dJ0_isLatin1_aae02_0 ?_
  refine lv_if_eq (tgt := 17) hx hb dJ0_isLatin1_aae02_3 (by decide) (fun c3_1 => ?_) (fun c3_1 => ?_)
  · exact absurd c3_1 (by decide)
  · refine lv_aload_n hx hb dJ0_isLatin1_aae02_6 rfl (lv_at hl 0 rfl) ?_
    refine vk_getf hx hb (hZ.1.2.2.2.1 1 (by decide)).2.1 hS hown (hts (.fieldLink RJ0 15 "java/lang/String" "coder" "B") (by decide +kernel)) (fun _ h9 => h9) dJ0_isLatin1_aae02_7 ?_
    refine lv_if_ne (tgt := 17) hx hb dJ0_isLatin1_aae02_10 (by decide) (fun c10_2 => ?_) (fun c10_2 => ?_)
    · exact (c10_2 (by decide)).elim
    · refine lv_iconst (v := 1) hx hb dJ0_isLatin1_aae02_13 (by decide) ?_
      refine lv_goto (tgt := 18) hx hb dJ0_isLatin1_aae02_14 (by decide) ?_
      have hP9 := hP.sub (ws' := []) [] rfl
      have hD9 := hD.sub (ws' := []) [] (by decide) rfl
      have hK9 := hK.sub (tys' := []) [] rfl
      exact W.zret (v := 1) hx hb hr (by rfl) (fun t ht hW => ⟨⟨1, (), rfl, rfl, ⟨by rw [ht]; exact hP9, va_K.moved hW.alike hK9, hD9⟩⟩, hS.F ht⟩) hS.2.2 dJ0_isLatin1_aae02_18

set_option maxHeartbeats 4000000 in
set_option maxRecDepth 100000 in
/-- J0_coder_7d493 -/
theorem c_J0_coder_1 (l : Launch) (dC : Nat → ClassId) (dI : Nat → Nat → Nat) (e0 : Nat) (aK aV : Nat → Nat) (sz : Nat) : Met l yJ0_coder_7d493 wsJ0_coder_7d493 ({ frames := 0, cells := 0, slots := 0, locals := 0 }) (va_Pc [.ref (aK 1)] (cPCz (zM e0 aK aV) dC dI [] [] sz)) (va_Qi (fun (r : Int32) (u : Unit) => r = 0) (fun (u : Unit) t => cQB dC dI [] [] (va_A [] sz) t) (va_A [] sz)) 0 0 (va_A [] sz) := by
  refine Met.ofW (cc := cJ0_coder_7d493) (maxL := 1) (ret := (some .byte)) (by decide) rfl ?_
  intro p e s m args below meth c s₁ B hml hv
  obtain ⟨rfl, ⟨hsz, hP, hK, hD0, hN⟩, hZ⟩ := hv
  have hx := B.exec
  have hb := B.bytes
  have hr := B.returns
  have hts := atoms_spec (ws := wsJ0_coder_7d493) B.pre
  have hown : s.vm.findClass RJ0 = some m.cls := findClass_of_methodNamed B.named
  have hlocks := B.notSynchronized
  subst hsz
  have hD := hD0.self (sz := s.heap.size)
  generalize hAe : va_A [] s.heap.size = A at hD hZ ⊢
  have hA : ∀ q : Nat, s.heap.size ≤ q → A q := fun q h => by rw [← hAe]; exact Or.inr h
  have hS : va_S A s.heap s.heap [] := va_S.rf
  have hP : va_P (dC, dI) vwCl [] s.heap := hP
  have hD : va_D A [] := hD
  have hl := lv_entry ([.ref (aK 1)]) (n := 1) (Nat.le_of_ble_eq_true rfl)
  rw [lg_entry_eq]
  generalize (lg_sl ([.ref (aK 1)]) ++ List.replicate (1 - (lg_sl ([.ref (aK 1)])).length) Slot.unset).toArray = ls at hl ⊢
  have hl : lv_has ls 1 [(0, .ref (aK 1))] := hl
  have iWJ0 : ∀ w ∈ u_ws RJ0 TJ0 4, w ∈ wsJ0_coder_7d493 := by decide +kernel
  refine va_gets hx hb hZ.1.2.2.1 hS hown (hts (.fieldLink RJ0 38 "java/lang/String" "COMPACT_STRINGS" "Z") (by decide +kernel)) (fun _ h9 => h9) dJ0_coder_7d493_0 ?_
  refine lv_if_eq (tgt := 13) hx hb dJ0_coder_7d493_3 (by decide) (fun c3_1 => ?_) (fun c3_1 => ?_)
  · exact absurd c3_1 (by decide)
  · refine lv_aload_n hx hb dJ0_coder_7d493_6 rfl (lv_at hl 0 rfl) ?_
    refine vk_getf hx hb (hZ.1.2.2.2.1 1 (by decide)).2.1 hS hown (hts (.fieldLink RJ0 15 "java/lang/String" "coder" "B") (by decide +kernel)) (fun _ h9 => h9) dJ0_coder_7d493_7 ?_
    refine lv_goto (tgt := 14) hx hb dJ0_coder_7d493_10 (by decide) ?_
    have hP9 := hP.sub (ws' := []) [] rfl
    have hD9 := hD.sub (ws' := []) [] (by decide) rfl
    have hK9 := hK.sub (tys' := []) [] rfl
    exact W.zret (v := 0) hx hb hr (by rfl) (fun t ht hW => ⟨⟨0, (), rfl, rfl, ⟨by rw [ht]; exact hP9, va_K.moved hW.alike hK9, hD9⟩⟩, hS.F ht⟩) hS.2.2 dJ0_coder_7d493_14

set_option maxHeartbeats 4000000 in
set_option maxRecDepth 100000 in
/-- J0_length_8abf5 -/
theorem c_J0_length_1 (l : Launch) (dC : Nat → ClassId) (dI : Nat → Nat → Nat) (e0 : Nat) (aK aV : Nat → Nat) (sz : Nat) : Met l yJ0_length_8abf5 wsJ0_length_8abf5 ({ frames := 1, cells := 0, slots := 0, locals := 20 }) (va_Pc [.ref (aK 1)] (cPCz (zM e0 aK aV) dC dI [] [] sz)) (va_Qi (fun (r : Int32) (u : Unit) => r = 5) (fun (u : Unit) t => cQB dC dI [] [] (va_A [] sz) t) (va_A [] sz)) 0 0 (va_A [] sz) := by
  refine Met.ofW (cc := cJ0_length_8abf5) (maxL := 1) (ret := (some .int)) (by decide) rfl ?_
  intro p e s m args below meth c s₁ B hml hv
  obtain ⟨rfl, ⟨hsz, hP, hK, hD0, hN⟩, hZ⟩ := hv
  have hx := B.exec
  have hb := B.bytes
  have hr := B.returns
  have hts := atoms_spec (ws := wsJ0_length_8abf5) B.pre
  have hown : s.vm.findClass RJ0 = some m.cls := findClass_of_methodNamed B.named
  have hlocks := B.notSynchronized
  subst hsz
  have hD := hD0.self (sz := s.heap.size)
  generalize hAe : va_A [] s.heap.size = A at hD hZ ⊢
  have hA : ∀ q : Nat, s.heap.size ≤ q → A q := fun q h => by rw [← hAe]; exact Or.inr h
  have hS : va_S A s.heap s.heap [] := va_S.rf
  have hP : va_P (dC, dI) vwCl [] s.heap := hP
  have hD : va_D A [] := hD
  have hl := lv_entry ([.ref (aK 1)]) (n := 1) (Nat.le_of_ble_eq_true rfl)
  rw [lg_entry_eq]
  generalize (lg_sl ([.ref (aK 1)]) ++ List.replicate (1 - (lg_sl ([.ref (aK 1)])).length) Slot.unset).toArray = ls at hl ⊢
  have hl : lv_has ls 1 [(0, .ref (aK 1))] := hl
  have iWJ0 : ∀ w ∈ u_ws RJ0 TJ0 4, w ∈ wsJ0_length_8abf5 := by decide +kernel
  refine lv_aload_n hx hb dJ0_length_8abf5_0 rfl (lv_at hl 0 rfl) ?_
  refine vk_getf hx hb (hZ.1.2.2.2.1 1 (by decide)).2.2.1 hS hown (hts (.fieldLink RJ0 9 "java/lang/String" "value" "[B") (by decide +kernel)) (fun _ h9 => h9) dJ0_length_8abf5_1 ?_
  refine va_tlen hx hb (hZ.1.2.2.2.1 1 (by decide)).2.2.2 hS (v := 5) (by decide) dJ0_length_8abf5_4 ?_
  refine lv_aload_n hx hb dJ0_length_8abf5_5 rfl (lv_at hl 0 rfl) ?_
  have hPc := hP.sub (ws' := []) [] rfl
  have hDc := hD.sub (ws' := []) [] (by decide) rfl
  have hKc := hK.sub (tys' := []) [] rfl
  have hFc := va_free (wc := []) hD hS hA [] rfl
  refine va_calli (va_runV (As := []) (rest := [.int 5]) ⟨hx, hb, hml, hown, hts⟩ (c_J0_coder_1 l dC dI e0 aK aV s.heap.size) (cwV 0 hts gJ0_length_8abf5_J0_coder_7d493 rfl rfl rfl (by decide +kernel) ⟨Nat.le_of_ble_eq_true rfl, Nat.le_of_ble_eq_true rfl⟩) (pcVs hPc hDc hKc hN hZ hS hFc (i := 1) (by decide)) rfl rfl hl.1 rfl (lv_room (Nat.le_of_ble_eq_true rfl)) dJ0_length_8abf5_6 ⟨Nat.le_of_ble_eq_true rfl, Nat.le_of_ble_eq_true rfl⟩) hS (fun q _ h => hFc q h) hFc (fun r_1 u t H1 locs ht hvm hw_2 hB hz1 hk1 hS => ?_)
  obtain ⟨hP1, hK1, hD1⟩ := hB
  rw [ht] at hP1
  try dsimp only at hw_2
  obtain ⟨hP, hD⟩ := va_join (wr := []) (w1 := []) hP hD [] [] rfl rfl (by decide) (by decide) hk1 hFc hP1 hD1
  generalize H1 = H at hP hS ⊢
  have hP : va_P (dC, dI) vwCl [] H := hP
  have hD : va_D A [] := hD
  subst hw_2
  refine lv_ishr hx hb dJ0_length_8abf5_9 ?_
  have hP9 := hP.sub (ws' := []) [] rfl
  have hD9 := hD.sub (ws' := []) [] (by decide) rfl
  have hK9 := hK.sub (tys' := []) [] rfl
  exact W.iret (v := ((5 : Int32) >>> 0)) hx hb hr (fun t ht hW => ⟨⟨((5 : Int32) >>> 0), (), rfl, (by decide), ⟨by rw [ht]; exact hP9, va_K.moved hW.alike hK9, hD9⟩⟩, hS.F ht⟩) hS.2.2 dJ0_length_8abf5_10

set_option maxHeartbeats 4000000 in
set_option maxRecDepth 100000 in
/-- J1_canEncode_9a6ad -/
theorem c_J1_canEncode_9a6ad (l : Launch) (dC : Nat → ClassId) (dI : Nat → Nat → Nat) (x9 : Int32) (sz : Nat) : Met l yJ1_canEncode_9a6ad wsJ1_canEncode_9a6ad ({ frames := 0, cells := 0, slots := 0, locals := 0 }) (va_Pc [.int x9] (cPC dC dI [] [] sz)) (va_Qi (fun (r : Int32) (u : Unit) => (r = 1 ∧ ¬ x9 < 0 ∧ x9 ≤ 255) ∨ (r = 0 ∧ ¬ (¬ x9 < 0 ∧ x9 ≤ 255))) (fun (u : Unit) t => cQB dC dI [] [] (va_A [] sz) t) (va_A [] sz)) 0 0 (va_A [] sz) := by
  refine Met.ofW (cc := cJ1_canEncode_9a6ad) (maxL := 1) (ret := (some .boolean)) (by decide) rfl ?_
  intro p e s m args below meth c s₁ B hml hv
  obtain ⟨rfl, hsz, hP, hK, hD0, hN⟩ := hv
  have hx := B.exec
  have hb := B.bytes
  have hr := B.returns
  have hts := atoms_spec (ws := wsJ1_canEncode_9a6ad) B.pre
  have hown : s.vm.findClass RJ1 = some m.cls := findClass_of_methodNamed B.named
  have hlocks := B.notSynchronized
  subst hsz
  have hD := hD0.self (sz := s.heap.size)
  generalize hAe : va_A [] s.heap.size = A at hD ⊢
  have hA : ∀ q : Nat, s.heap.size ≤ q → A q := fun q h => by rw [← hAe]; exact Or.inr h
  have hS : va_S A s.heap s.heap [] := va_S.rf
  have hP : va_P (dC, dI) vwCl [] s.heap := hP
  have hD : va_D A [] := hD
  have hl := lv_entry ([.int x9]) (n := 1) (Nat.le_of_ble_eq_true rfl)
  rw [lg_entry_eq]
  generalize (lg_sl ([.int x9]) ++ List.replicate (1 - (lg_sl ([.int x9])).length) Slot.unset).toArray = ls at hl ⊢
  have hl : lv_has ls 1 [(0, .int x9)] := hl
  refine lv_iload_n hx hb dJ1_canEncode_9a6ad_0 rfl (lv_at hl 0 rfl) ?_
  refine lv_if_lt (tgt := 15) hx hb dJ1_canEncode_9a6ad_1 (by decide) (fun c1_1 => ?_) (fun c1_1 => ?_)
  · refine lv_iconst (v := 0) hx hb dJ1_canEncode_9a6ad_15 (by decide) ?_
    have hP9 := hP.sub (ws' := []) [] rfl
    have hD9 := hD.sub (ws' := []) [] (by decide) rfl
    have hK9 := hK.sub (tys' := []) [] rfl
    exact W.zret (v := 0) hx hb hr (by rfl) (fun t ht hW => ⟨⟨0, (), rfl, (Or.inr ⟨rfl, fun h9 => h9.1 c1_1⟩), ⟨by rw [ht]; exact hP9, va_K.moved hW.alike hK9, hD9⟩⟩, hS.F ht⟩) hS.2.2 dJ1_canEncode_9a6ad_16
  · refine lv_iload_n hx hb dJ1_canEncode_9a6ad_4 rfl (lv_at hl 0 rfl) ?_
    refine lv_sipush (v := 255) hx hb dJ1_canEncode_9a6ad_5 (by decide) ?_
    refine lv_icmp_gt (tgt := 15) hx hb dJ1_canEncode_9a6ad_8 (by decide) (fun c8_2 => ?_) (fun c8_2 => ?_)
    · refine lv_iconst (v := 0) hx hb dJ1_canEncode_9a6ad_15 (by decide) ?_
      have hP9 := hP.sub (ws' := []) [] rfl
      have hD9 := hD.sub (ws' := []) [] (by decide) rfl
      have hK9 := hK.sub (tys' := []) [] rfl
      exact W.zret (v := 0) hx hb hr (by rfl) (fun t ht hW => ⟨⟨0, (), rfl, (Or.inr ⟨rfl, fun h9 => Int32.not_le.mpr c8_2 h9.2⟩), ⟨by rw [ht]; exact hP9, va_K.moved hW.alike hK9, hD9⟩⟩, hS.F ht⟩) hS.2.2 dJ1_canEncode_9a6ad_16
    · refine lv_iconst (v := 1) hx hb dJ1_canEncode_9a6ad_11 (by decide) ?_
      refine lv_goto (tgt := 16) hx hb dJ1_canEncode_9a6ad_12 (by decide) ?_
      have hP9 := hP.sub (ws' := []) [] rfl
      have hD9 := hD.sub (ws' := []) [] (by decide) rfl
      have hK9 := hK.sub (tys' := []) [] rfl
      exact W.zret (v := 1) hx hb hr (by rfl) (fun t ht hW => ⟨⟨1, (), rfl, (Or.inl ⟨rfl, c1_1, Int32.not_lt.mp c8_2⟩), ⟨by rw [ht]; exact hP9, va_K.moved hW.alike hK9, hD9⟩⟩, hS.F ht⟩) hS.2.2 dJ1_canEncode_9a6ad_16

set_option maxHeartbeats 4000000 in
set_option maxRecDepth 100000 in
/-- J1_indexOfChar_4cfef -/
theorem c_J1_indexOfChar_4cfef (l : Launch) (dC : Nat → ClassId) (dI : Nat → Nat → Nat) (e0 : Nat) (aK aV : Nat → Nat) (w9 : Int32) (h09 : ¬ w9 < 0) (h59 : w9 ≤ 255) (sz : Nat) : Met l yJ1_indexOfChar_4cfef wsJ1_indexOfChar_4cfef ({ frames := 0, cells := 0, slots := 0, locals := 0 }) (va_Pc [.ref (aV 1), .int w9, .int 0, .int 5] (cPCz (zM e0 aK aV) dC dI [] [] sz)) (va_Qi (fun (r : Int32) (u : Unit) => whQ w9 r) (fun (u : Unit) t => cQB dC dI [] [] (va_A [] sz) t) (va_A [] sz)) 0 0 (va_A [] sz) := by
  refine Met.ofW (cc := cJ1_indexOfChar_4cfef) (maxL := 6) (ret := (some .int)) (by decide) rfl ?_
  intro p e s m args below meth c s₁ B hml hv
  obtain ⟨rfl, ⟨hsz, hP, hK, hD0, hN⟩, hZ⟩ := hv
  have hx := B.exec
  have hb := B.bytes
  have hr := B.returns
  have hts := atoms_spec (ws := wsJ1_indexOfChar_4cfef) B.pre
  have hown : s.vm.findClass RJ1 = some m.cls := findClass_of_methodNamed B.named
  have hlocks := B.notSynchronized
  subst hsz
  have hD := hD0.self (sz := s.heap.size)
  generalize hAe : va_A [] s.heap.size = A at hD hZ ⊢
  have hA : ∀ q : Nat, s.heap.size ≤ q → A q := fun q h => by rw [← hAe]; exact Or.inr h
  have hS : va_S A s.heap s.heap [] := va_S.rf
  have hP : va_P (dC, dI) vwCl [] s.heap := hP
  have hD : va_D A [] := hD
  have hl := lv_entry ([.ref (aV 1), .int w9, .int 0, .int 5]) (n := 6) (Nat.le_of_ble_eq_true rfl)
  rw [lg_entry_eq]
  generalize (lg_sl ([.ref (aV 1), .int w9, .int 0, .int 5]) ++ List.replicate (6 - (lg_sl ([.ref (aV 1), .int w9, .int 0, .int 5])).length) Slot.unset).toArray = ls at hl ⊢
  have hl : lv_has ls 6 [(0, .ref (aV 1)), (1, .int w9), (2, .int 0), (3, .int 5)] := hl
  refine lv_iload_n hx hb dJ1_indexOfChar_4cfef_0 rfl (lv_at hl 1 rfl) ?_
  refine lv_i2b hx hb dJ1_indexOfChar_4cfef_1 rfl ?_
  refine lv_topi (fun x_1 ex_1 => ?_)
  refine lv_istore (lv' := [(4, .int x_1), (0, .ref (aV 1)), (1, .int w9), (2, .int 0), (3, .int 5)]) hx hb dJ1_indexOfChar_4cfef_2 hl (by decide) rfl (fun ls hl => ?_)
  have ew9 : x_1 = w9.toInt8.toInt32 := ex_1
  refine lv_iload_n hx hb dJ1_indexOfChar_4cfef_4 rfl (lv_at hl 3 rfl) ?_
  refine lv_istore (lv' := [(5, .int 0), (4, .int x_1), (0, .ref (aV 1)), (1, .int w9), (2, .int 0), (3, .int 5)]) hx hb dJ1_indexOfChar_4cfef_5 hl (by decide) rfl (fun ls hl => ?_)
  refine lv_iload hx hb dJ1_indexOfChar_4cfef_7 (lv_at hl 0 rfl) ?_
  refine lv_iload_n hx hb dJ1_indexOfChar_4cfef_9 rfl (lv_at hl 5 rfl) ?_
  refine lv_icmp_ge (tgt := 31) hx hb dJ1_indexOfChar_4cfef_10 (by decide) (fun c10_2 => ?_) (fun c10_2 => ?_)
  · exact absurd c10_2 (by decide)
  · refine lv_aload_n hx hb dJ1_indexOfChar_4cfef_13 rfl (lv_at hl 2 rfl) ?_
    refine lv_iload hx hb dJ1_indexOfChar_4cfef_14 (lv_at hl 0 rfl) ?_
    refine va_tb hx hb (hZ.1.2.2.2.1 1 (by decide)).2.2.2 hS (i := 0) (show vp_in (nI 0) 5 from vp_in_nI (by decide) (by decide)) (v := .int 104) rfl dJ1_indexOfChar_4cfef_16 ?_
    refine lv_iload hx hb dJ1_indexOfChar_4cfef_17 (lv_at hl 1 rfl) ?_
    refine lv_icmp_ne (tgt := 25) hx hb dJ1_indexOfChar_4cfef_19 (by decide) (fun c19_3 => ?_) (fun c19_3 => ?_)
    · obtain ⟨y_4, ey_4⟩ : ∃ y : Int32, y = 0 + 1 := ⟨_, rfl⟩
      refine lv_iinc (v := 1) (lv' := [(5, .int 1), (4, .int x_1), (0, .ref (aV 1)), (1, .int w9), (2, .int 0), (3, .int 5)]) hx hb dJ1_indexOfChar_4cfef_25 hl (k := 0) rfl (by decide) (by decide) rfl (fun ls hl => ?_)
      refine lv_goto (tgt := 7) hx hb dJ1_indexOfChar_4cfef_28 (by decide) ?_
      refine lv_iload hx hb dJ1_indexOfChar_4cfef_7 (lv_at hl 0 rfl) ?_
      refine lv_iload_n hx hb dJ1_indexOfChar_4cfef_9 rfl (lv_at hl 5 rfl) ?_
      refine lv_icmp_ge (tgt := 31) hx hb dJ1_indexOfChar_4cfef_10 (by decide) (fun c10_5 => ?_) (fun c10_5 => ?_)
      · exact absurd c10_5 (by decide)
      · refine lv_aload_n hx hb dJ1_indexOfChar_4cfef_13 rfl (lv_at hl 2 rfl) ?_
        refine lv_iload hx hb dJ1_indexOfChar_4cfef_14 (lv_at hl 0 rfl) ?_
        refine va_tb hx hb (hZ.1.2.2.2.1 1 (by decide)).2.2.2 hS (i := 1) (show vp_in (nI 1) 5 from vp_in_nI (by decide) (by decide)) (v := .int 110) rfl dJ1_indexOfChar_4cfef_16 ?_
        refine lv_iload hx hb dJ1_indexOfChar_4cfef_17 (lv_at hl 1 rfl) ?_
        refine lv_icmp_ne (tgt := 25) hx hb dJ1_indexOfChar_4cfef_19 (by decide) (fun c19_6 => ?_) (fun c19_6 => ?_)
        · obtain ⟨y_7, ey_7⟩ : ∃ y : Int32, y = 1 + 1 := ⟨_, rfl⟩
          refine lv_iinc (v := 2) (lv' := [(5, .int 2), (4, .int x_1), (0, .ref (aV 1)), (1, .int w9), (2, .int 0), (3, .int 5)]) hx hb dJ1_indexOfChar_4cfef_25 hl (k := 0) rfl (by decide) (by decide) rfl (fun ls hl => ?_)
          refine lv_goto (tgt := 7) hx hb dJ1_indexOfChar_4cfef_28 (by decide) ?_
          refine lv_iload hx hb dJ1_indexOfChar_4cfef_7 (lv_at hl 0 rfl) ?_
          refine lv_iload_n hx hb dJ1_indexOfChar_4cfef_9 rfl (lv_at hl 5 rfl) ?_
          refine lv_icmp_ge (tgt := 31) hx hb dJ1_indexOfChar_4cfef_10 (by decide) (fun c10_8 => ?_) (fun c10_8 => ?_)
          · exact absurd c10_8 (by decide)
          · refine lv_aload_n hx hb dJ1_indexOfChar_4cfef_13 rfl (lv_at hl 2 rfl) ?_
            refine lv_iload hx hb dJ1_indexOfChar_4cfef_14 (lv_at hl 0 rfl) ?_
            refine va_tb hx hb (hZ.1.2.2.2.1 1 (by decide)).2.2.2 hS (i := 2) (show vp_in (nI 2) 5 from vp_in_nI (by decide) (by decide)) (v := .int 111) rfl dJ1_indexOfChar_4cfef_16 ?_
            refine lv_iload hx hb dJ1_indexOfChar_4cfef_17 (lv_at hl 1 rfl) ?_
            refine lv_icmp_ne (tgt := 25) hx hb dJ1_indexOfChar_4cfef_19 (by decide) (fun c19_9 => ?_) (fun c19_9 => ?_)
            · obtain ⟨y_10, ey_10⟩ : ∃ y : Int32, y = 2 + 1 := ⟨_, rfl⟩
              refine lv_iinc (v := 3) (lv' := [(5, .int 3), (4, .int x_1), (0, .ref (aV 1)), (1, .int w9), (2, .int 0), (3, .int 5)]) hx hb dJ1_indexOfChar_4cfef_25 hl (k := 0) rfl (by decide) (by decide) rfl (fun ls hl => ?_)
              refine lv_goto (tgt := 7) hx hb dJ1_indexOfChar_4cfef_28 (by decide) ?_
              refine lv_iload hx hb dJ1_indexOfChar_4cfef_7 (lv_at hl 0 rfl) ?_
              refine lv_iload_n hx hb dJ1_indexOfChar_4cfef_9 rfl (lv_at hl 5 rfl) ?_
              refine lv_icmp_ge (tgt := 31) hx hb dJ1_indexOfChar_4cfef_10 (by decide) (fun c10_11 => ?_) (fun c10_11 => ?_)
              · exact absurd c10_11 (by decide)
              · refine lv_aload_n hx hb dJ1_indexOfChar_4cfef_13 rfl (lv_at hl 2 rfl) ?_
                refine lv_iload hx hb dJ1_indexOfChar_4cfef_14 (lv_at hl 0 rfl) ?_
                refine va_tb hx hb (hZ.1.2.2.2.1 1 (by decide)).2.2.2 hS (i := 3) (show vp_in (nI 3) 5 from vp_in_nI (by decide) (by decide)) (v := .int 115) rfl dJ1_indexOfChar_4cfef_16 ?_
                refine lv_iload hx hb dJ1_indexOfChar_4cfef_17 (lv_at hl 1 rfl) ?_
                refine lv_icmp_ne (tgt := 25) hx hb dJ1_indexOfChar_4cfef_19 (by decide) (fun c19_12 => ?_) (fun c19_12 => ?_)
                · obtain ⟨y_13, ey_13⟩ : ∃ y : Int32, y = 3 + 1 := ⟨_, rfl⟩
                  refine lv_iinc (v := 4) (lv' := [(5, .int 4), (4, .int x_1), (0, .ref (aV 1)), (1, .int w9), (2, .int 0), (3, .int 5)]) hx hb dJ1_indexOfChar_4cfef_25 hl (k := 0) rfl (by decide) (by decide) rfl (fun ls hl => ?_)
                  refine lv_goto (tgt := 7) hx hb dJ1_indexOfChar_4cfef_28 (by decide) ?_
                  refine lv_iload hx hb dJ1_indexOfChar_4cfef_7 (lv_at hl 0 rfl) ?_
                  refine lv_iload_n hx hb dJ1_indexOfChar_4cfef_9 rfl (lv_at hl 5 rfl) ?_
                  refine lv_icmp_ge (tgt := 31) hx hb dJ1_indexOfChar_4cfef_10 (by decide) (fun c10_14 => ?_) (fun c10_14 => ?_)
                  · exact absurd c10_14 (by decide)
                  · refine lv_aload_n hx hb dJ1_indexOfChar_4cfef_13 rfl (lv_at hl 2 rfl) ?_
                    refine lv_iload hx hb dJ1_indexOfChar_4cfef_14 (lv_at hl 0 rfl) ?_
                    refine va_tb hx hb (hZ.1.2.2.2.1 1 (by decide)).2.2.2 hS (i := 4) (show vp_in (nI 4) 5 from vp_in_nI (by decide) (by decide)) (v := .int 109) rfl dJ1_indexOfChar_4cfef_16 ?_
                    refine lv_iload hx hb dJ1_indexOfChar_4cfef_17 (lv_at hl 1 rfl) ?_
                    refine lv_icmp_ne (tgt := 25) hx hb dJ1_indexOfChar_4cfef_19 (by decide) (fun c19_15 => ?_) (fun c19_15 => ?_)
                    · obtain ⟨y_16, ey_16⟩ : ∃ y : Int32, y = 4 + 1 := ⟨_, rfl⟩
                      refine lv_iinc (v := 5) (lv' := [(5, .int 5), (4, .int x_1), (0, .ref (aV 1)), (1, .int w9), (2, .int 0), (3, .int 5)]) hx hb dJ1_indexOfChar_4cfef_25 hl (k := 0) rfl (by decide) (by decide) rfl (fun ls hl => ?_)
                      refine lv_goto (tgt := 7) hx hb dJ1_indexOfChar_4cfef_28 (by decide) ?_
                      refine lv_iload hx hb dJ1_indexOfChar_4cfef_7 (lv_at hl 0 rfl) ?_
                      refine lv_iload_n hx hb dJ1_indexOfChar_4cfef_9 rfl (lv_at hl 5 rfl) ?_
                      refine lv_icmp_ge (tgt := 31) hx hb dJ1_indexOfChar_4cfef_10 (by decide) (fun c10_17 => ?_) (fun c10_17 => ?_)
                      · refine lv_iconst (v := (-1)) hx hb dJ1_indexOfChar_4cfef_31 (by decide) ?_
                        have hP9 := hP.sub (ws' := []) [] rfl
                        have hD9 := hD.sub (ws' := []) [] (by decide) rfl
                        have hK9 := hK.sub (tys' := []) [] rfl
                        exact W.iret (v := (-1)) hx hb hr (fun t ht hW => ⟨⟨(-1), (), rfl, (by have hb := byte5 h09 h59; exact Or.inr ⟨fun h9 => by rcases h9 with e9 | e9 | e9 | e9 | e9; (exact c19_3 (by rw [ew9]; exact (hb.1.mpr e9).symm)); (exact c19_6 (by rw [ew9]; exact (hb.2.1.mpr e9).symm)); (exact c19_9 (by rw [ew9]; exact (hb.2.2.1.mpr e9).symm)); (exact c19_12 (by rw [ew9]; exact (hb.2.2.2.1.mpr e9).symm)); (exact c19_15 (by rw [ew9]; exact (hb.2.2.2.2.mpr e9).symm)), by decide⟩), ⟨by rw [ht]; exact hP9, va_K.moved hW.alike hK9, hD9⟩⟩, hS.F ht⟩) hS.2.2 dJ1_indexOfChar_4cfef_32
                      · exact (c10_17 (by decide)).elim
                    · refine lv_iload hx hb dJ1_indexOfChar_4cfef_22 (lv_at hl 0 rfl) ?_
                      have hP9 := hP.sub (ws' := []) [] rfl
                      have hD9 := hD.sub (ws' := []) [] (by decide) rfl
                      have hK9 := hK.sub (tys' := []) [] rfl
                      exact W.iret (v := 4) hx hb hr (fun t ht hW => ⟨⟨4, (), rfl, (by have hb := byte5 h09 h59; exact Or.inl ⟨(Or.inr (Or.inr (Or.inr (Or.inr (hb.2.2.2.2.mp (by rw [← ew9]; exact c19_15.symm)))))), by decide⟩), ⟨by rw [ht]; exact hP9, va_K.moved hW.alike hK9, hD9⟩⟩, hS.F ht⟩) hS.2.2 dJ1_indexOfChar_4cfef_24
                · refine lv_iload hx hb dJ1_indexOfChar_4cfef_22 (lv_at hl 0 rfl) ?_
                  have hP9 := hP.sub (ws' := []) [] rfl
                  have hD9 := hD.sub (ws' := []) [] (by decide) rfl
                  have hK9 := hK.sub (tys' := []) [] rfl
                  exact W.iret (v := 3) hx hb hr (fun t ht hW => ⟨⟨3, (), rfl, (by have hb := byte5 h09 h59; exact Or.inl ⟨(Or.inr (Or.inr (Or.inr (Or.inl (hb.2.2.2.1.mp (by rw [← ew9]; exact c19_12.symm)))))), by decide⟩), ⟨by rw [ht]; exact hP9, va_K.moved hW.alike hK9, hD9⟩⟩, hS.F ht⟩) hS.2.2 dJ1_indexOfChar_4cfef_24
            · refine lv_iload hx hb dJ1_indexOfChar_4cfef_22 (lv_at hl 0 rfl) ?_
              have hP9 := hP.sub (ws' := []) [] rfl
              have hD9 := hD.sub (ws' := []) [] (by decide) rfl
              have hK9 := hK.sub (tys' := []) [] rfl
              exact W.iret (v := 2) hx hb hr (fun t ht hW => ⟨⟨2, (), rfl, (by have hb := byte5 h09 h59; exact Or.inl ⟨(Or.inr (Or.inr (Or.inl (hb.2.2.1.mp (by rw [← ew9]; exact c19_9.symm))))), by decide⟩), ⟨by rw [ht]; exact hP9, va_K.moved hW.alike hK9, hD9⟩⟩, hS.F ht⟩) hS.2.2 dJ1_indexOfChar_4cfef_24
        · refine lv_iload hx hb dJ1_indexOfChar_4cfef_22 (lv_at hl 0 rfl) ?_
          have hP9 := hP.sub (ws' := []) [] rfl
          have hD9 := hD.sub (ws' := []) [] (by decide) rfl
          have hK9 := hK.sub (tys' := []) [] rfl
          exact W.iret (v := 1) hx hb hr (fun t ht hW => ⟨⟨1, (), rfl, (by have hb := byte5 h09 h59; exact Or.inl ⟨(Or.inr (Or.inl (hb.2.1.mp (by rw [← ew9]; exact c19_6.symm)))), by decide⟩), ⟨by rw [ht]; exact hP9, va_K.moved hW.alike hK9, hD9⟩⟩, hS.F ht⟩) hS.2.2 dJ1_indexOfChar_4cfef_24
    · refine lv_iload hx hb dJ1_indexOfChar_4cfef_22 (lv_at hl 0 rfl) ?_
      have hP9 := hP.sub (ws' := []) [] rfl
      have hD9 := hD.sub (ws' := []) [] (by decide) rfl
      have hK9 := hK.sub (tys' := []) [] rfl
      exact W.iret (v := 0) hx hb hr (fun t ht hW => ⟨⟨0, (), rfl, (by have hb := byte5 h09 h59; exact Or.inl ⟨(Or.inl (hb.1.mp (by rw [← ew9]; exact c19_3.symm))), by decide⟩), ⟨by rw [ht]; exact hP9, va_K.moved hW.alike hK9, hD9⟩⟩, hS.F ht⟩) hS.2.2 dJ1_indexOfChar_4cfef_24

set_option maxHeartbeats 4000000 in
set_option maxRecDepth 100000 in
/-- J1_indexOf_4cfef -/
theorem c_J1_indexOf_4cfef (l : Launch) (dC : Nat → ClassId) (dI : Nat → Nat → Nat) (e0 : Nat) (aK aV : Nat → Nat) (w9 : Int32) (sz : Nat) : Met l yJ1_indexOf_4cfef wsJ1_indexOf_4cfef ({ frames := 1, cells := 0, slots := 0, locals := 27 }) (va_Pc [.ref (aV 1), .int w9, .int 0, .int 5] (cPCz (zM e0 aK aV) dC dI [] [] sz)) (va_Qi (fun (r : Int32) (u : Unit) => whQ w9 r) (fun (u : Unit) t => cQB dC dI [] [] (va_A [] sz) t) (va_A [] sz)) 0 0 (va_A [] sz) := by
  refine Met.ofW (cc := cJ1_indexOf_4cfef) (maxL := 4) (ret := (some .int)) (by decide) rfl ?_
  intro p e s m args below meth c s₁ B hml hv
  obtain ⟨rfl, ⟨hsz, hP, hK, hD0, hN⟩, hZ⟩ := hv
  have hx := B.exec
  have hb := B.bytes
  have hr := B.returns
  have hts := atoms_spec (ws := wsJ1_indexOf_4cfef) B.pre
  have hown : s.vm.findClass RJ1 = some m.cls := findClass_of_methodNamed B.named
  have hlocks := B.notSynchronized
  subst hsz
  have hD := hD0.self (sz := s.heap.size)
  generalize hAe : va_A [] s.heap.size = A at hD hZ ⊢
  have hA : ∀ q : Nat, s.heap.size ≤ q → A q := fun q h => by rw [← hAe]; exact Or.inr h
  have hS : va_S A s.heap s.heap [] := va_S.rf
  have hP : va_P (dC, dI) vwCl [] s.heap := hP
  have hD : va_D A [] := hD
  have hl := lv_entry ([.ref (aV 1), .int w9, .int 0, .int 5]) (n := 4) (Nat.le_of_ble_eq_true rfl)
  rw [lg_entry_eq]
  generalize (lg_sl ([.ref (aV 1), .int w9, .int 0, .int 5]) ++ List.replicate (4 - (lg_sl ([.ref (aV 1), .int w9, .int 0, .int 5])).length) Slot.unset).toArray = ls at hl ⊢
  have hl : lv_has ls 4 [(0, .ref (aV 1)), (1, .int w9), (2, .int 0), (3, .int 5)] := hl
  refine lv_iload_n hx hb dJ1_indexOf_4cfef_0 rfl (lv_at hl 1 rfl) ?_
  have hPc := hP.sub (ws' := []) [] rfl
  have hDc := hD.sub (ws' := []) [] (by decide) rfl
  have hKc := hK.sub (tys' := []) [] rfl
  have hFc := va_free (wc := []) hD hS hA [] rfl
  refine va_calli (va_runS (As := [.int w9]) (rest := []) ⟨hx, hb, hml, hown, hts⟩ (c_J1_canEncode_9a6ad l dC dI w9 s.heap.size) (va_cwS 1 hts gJ1_indexOf_4cfef_J1_canEncode_9a6ad rfl rfl rfl (by decide +kernel) ⟨Nat.le_of_ble_eq_true rfl, Nat.le_of_ble_eq_true rfl⟩) (pcS hPc hDc hKc hN) rfl rfl hl.1 rfl (lv_room (Nat.le_of_ble_eq_true rfl)) dJ1_indexOf_4cfef_1 ⟨Nat.le_of_ble_eq_true rfl, Nat.le_of_ble_eq_true rfl⟩) hS (fun q _ h => hFc q h) hFc (fun r_1 u t H1 locs ht hvm hw_2 hB hz1 hk1 hS => ?_)
  obtain ⟨hP1, hK1, hD1⟩ := hB
  rw [ht] at hP1
  try dsimp only at hw_2
  obtain ⟨hP, hD⟩ := va_join (wr := []) (w1 := []) hP hD [] [] rfl rfl (by decide) (by decide) hk1 hFc hP1 hD1
  generalize H1 = H at hP hS ⊢
  have hP : va_P (dC, dI) vwCl [] H := hP
  have hD : va_D A [] := hD
  refine lv_if_ne (tgt := 9) hx hb dJ1_indexOf_4cfef_4 (by decide) (fun c4_3 => ?_) (fun c4_3 => ?_)
  · have hn_4 := (hw_2).elim (fun h => h.2) (fun h => absurd h.1 c4_3)
    refine lv_iload_n hx hb dJ1_indexOf_4cfef_9 rfl (lv_at hl 2 rfl) ?_
    refine lv_iconst (v := 0) hx hb dJ1_indexOf_4cfef_10 (by decide) ?_
    refine va_mmax hx hb (hml.trans hl.1.symm) hown (hts (.methodLink RJ1 92 Lib.Math.max.name) (by decide +kernel)) (hts (.static Lib.Math.max.name) (by decide +kernel)) (hts (.initialized "java/lang/Math") (by decide +kernel)) (hts (.code Lib.Math.max.name Lib.Math.max.code 2 (some .int)) (by decide +kernel)) (Nat.le_of_ble_eq_true rfl) (Nat.le_of_ble_eq_true rfl) (Nat.le_of_ble_eq_true rfl) (Nat.le_of_ble_eq_true rfl) dJ1_indexOf_4cfef_11 ?_
    refine lv_topi (fun x_5 ex_5 => ?_)
    have ex_5 : x_5 = imaxJ 0 0 := ex_5
    obtain rfl : x_5 = 0 := by rw [ex_5]; decide
    refine lv_istore_n (lv' := [(2, .int 0), (0, .ref (aV 1)), (1, .int w9), (3, .int 5)]) hx hb dJ1_indexOf_4cfef_14 rfl hl (by decide) rfl (fun ls hl => ?_)
    refine lv_iload_n hx hb dJ1_indexOf_4cfef_15 rfl (lv_at hl 3 rfl) ?_
    refine lv_aload_n hx hb dJ1_indexOf_4cfef_16 rfl (lv_at hl 1 rfl) ?_
    refine va_tlen hx hb (hZ.1.2.2.2.1 1 (by decide)).2.2.2 hS (v := 5) (by decide) dJ1_indexOf_4cfef_17 ?_
    refine va_mmin hx hb (hml.trans hl.1.symm) hown (hts (.methodLink RJ1 38 Lib.Math.min.name) (by decide +kernel)) (hts (.static Lib.Math.min.name) (by decide +kernel)) (hts (.initialized "java/lang/Math") (by decide +kernel)) (hts (.code Lib.Math.min.name Lib.Math.min.code 2 (some .int)) (by decide +kernel)) (Nat.le_of_ble_eq_true rfl) (Nat.le_of_ble_eq_true rfl) (Nat.le_of_ble_eq_true rfl) (Nat.le_of_ble_eq_true rfl) dJ1_indexOf_4cfef_18 ?_
    refine lv_topi (fun x_6 ex_6 => ?_)
    have ex_6 : x_6 = iminJ 5 5 := ex_6
    obtain rfl : x_6 = 5 := by rw [ex_6]; decide
    refine lv_istore_n (lv' := [(3, .int 5), (2, .int 0), (0, .ref (aV 1)), (1, .int w9)]) hx hb dJ1_indexOf_4cfef_21 rfl hl (by decide) rfl (fun ls hl => ?_)
    refine lv_iload_n hx hb dJ1_indexOf_4cfef_22 rfl (lv_at hl 1 rfl) ?_
    refine lv_iload_n hx hb dJ1_indexOf_4cfef_23 rfl (lv_at hl 0 rfl) ?_
    refine lv_icmp_lt (tgt := 29) hx hb dJ1_indexOf_4cfef_24 (by decide) (fun c24_7 => ?_) (fun c24_7 => ?_)
    · refine lv_aload_n hx hb dJ1_indexOf_4cfef_29 rfl (lv_at hl 2 rfl) ?_
      refine lv_iload_n hx hb dJ1_indexOf_4cfef_30 rfl (lv_at hl 3 rfl) ?_
      refine lv_iload_n hx hb dJ1_indexOf_4cfef_31 rfl (lv_at hl 1 rfl) ?_
      refine lv_iload_n hx hb dJ1_indexOf_4cfef_32 rfl (lv_at hl 0 rfl) ?_
      have hPc := hP.sub (ws' := []) [] rfl
      have hDc := hD.sub (ws' := []) [] (by decide) rfl
      have hKc := hK.sub (tys' := []) [] rfl
      have hFc := va_free (wc := []) hD hS hA [] rfl
      refine va_calli (va_runS (As := [.ref (aV 1), .int w9, .int 0, .int 5]) (rest := []) ⟨hx, hb, hml, hown, hts⟩ (c_J1_indexOfChar_4cfef l dC dI e0 aK aV w9 hn_4.1 hn_4.2 H.size) (va_cwS 4 hts gJ1_indexOf_4cfef_J1_indexOfChar_4cfef rfl rfl rfl (by decide +kernel) ⟨Nat.le_of_ble_eq_true rfl, Nat.le_of_ble_eq_true rfl⟩) (pcSz (zM_ok e0 aK aV) hPc hDc hKc hN hZ hS hFc) rfl rfl hl.1 rfl (lv_room (Nat.le_of_ble_eq_true rfl)) dJ1_indexOf_4cfef_33 ⟨Nat.le_of_ble_eq_true rfl, Nat.le_of_ble_eq_true rfl⟩) hS (fun q _ h => hFc q h) hFc (fun r_8 u t H1 locs ht hvm hw_9 hB hz1 hk1 hS => ?_)
      obtain ⟨hP1, hK1, hD1⟩ := hB
      rw [ht] at hP1
      try dsimp only at hw_9
      obtain ⟨hP, hD⟩ := va_join (wr := []) (w1 := []) hP hD [] [] rfl rfl (by decide) (by decide) hk1 hFc hP1 hD1
      generalize H1 = H at hP hS ⊢
      have hP : va_P (dC, dI) vwCl [] H := hP
      have hD : va_D A [] := hD
      have hP9 := hP.sub (ws' := []) [] rfl
      have hD9 := hD.sub (ws' := []) [] (by decide) rfl
      have hK9 := hK.sub (tys' := []) [] rfl
      exact W.iret (v := r_8) hx hb hr (fun t ht hW => ⟨⟨r_8, (), rfl, hw_9, ⟨by rw [ht]; exact hP9, va_K.moved hW.alike hK9, hD9⟩⟩, hS.F ht⟩) hS.2.2 dJ1_indexOf_4cfef_36
    · exact (c24_7 (by decide)).elim
  · have hn_10 := (hw_2).elim (fun h => absurd (h.1.symm.trans c4_3) (by decide)) (fun h => h.2)
    refine lv_iconst (v := (-1)) hx hb dJ1_indexOf_4cfef_7 (by decide) ?_
    have hP9 := hP.sub (ws' := []) [] rfl
    have hD9 := hD.sub (ws' := []) [] (by decide) rfl
    have hK9 := hK.sub (tys' := []) [] rfl
    exact W.iret (v := (-1)) hx hb hr (fun t ht hW => ⟨⟨(-1), (), rfl, (Or.inr ⟨fun h9 => hn_10 ⟨fun h8 => what_lo h8 h9, Int32.not_lt.mp (fun h8 => what_hi h8 h9)⟩, by decide⟩), ⟨by rw [ht]; exact hP9, va_K.moved hW.alike hK9, hD9⟩⟩, hS.F ht⟩) hS.2.2 dJ1_indexOf_4cfef_8

set_option maxHeartbeats 4000000 in
set_option maxRecDepth 100000 in
/-- J0_indexOf_7cf53 -/
theorem c_J0_indexOf_7cf53 (l : Launch) (dC : Nat → ClassId) (dI : Nat → Nat → Nat) (e0 : Nat) (aK aV : Nat → Nat) (w9 : Int32) (sz : Nat) : Met l yJ0_indexOf_7cf53 wsJ0_indexOf_7cf53 ({ frames := 2, cells := 0, slots := 0, locals := 50 }) (va_Pc [.ref (aK 1), .int w9, .int 0] (cPCz (zM e0 aK aV) dC dI [] [] sz)) (va_Qi (fun (r : Int32) (u : Unit) => whQ w9 r) (fun (u : Unit) t => cQB dC dI [] [] (va_A [] sz) t) (va_A [] sz)) 0 0 (va_A [] sz) := by
  refine Met.ofW (cc := cJ0_indexOf_7cf53) (maxL := 3) (ret := (some .int)) (by decide) rfl ?_
  intro p e s m args below meth c s₁ B hml hv
  obtain ⟨rfl, ⟨hsz, hP, hK, hD0, hN⟩, hZ⟩ := hv
  have hx := B.exec
  have hb := B.bytes
  have hr := B.returns
  have hts := atoms_spec (ws := wsJ0_indexOf_7cf53) B.pre
  have hown : s.vm.findClass RJ0 = some m.cls := findClass_of_methodNamed B.named
  have hlocks := B.notSynchronized
  subst hsz
  have hD := hD0.self (sz := s.heap.size)
  generalize hAe : va_A [] s.heap.size = A at hD hZ ⊢
  have hA : ∀ q : Nat, s.heap.size ≤ q → A q := fun q h => by rw [← hAe]; exact Or.inr h
  have hS : va_S A s.heap s.heap [] := va_S.rf
  have hP : va_P (dC, dI) vwCl [] s.heap := hP
  have hD : va_D A [] := hD
  have hl := lv_entry ([.ref (aK 1), .int w9, .int 0]) (n := 3) (Nat.le_of_ble_eq_true rfl)
  rw [lg_entry_eq]
  generalize (lg_sl ([.ref (aK 1), .int w9, .int 0]) ++ List.replicate (3 - (lg_sl ([.ref (aK 1), .int w9, .int 0])).length) Slot.unset).toArray = ls at hl ⊢
  have hl : lv_has ls 3 [(0, .ref (aK 1)), (1, .int w9), (2, .int 0)] := hl
  have iWJ0 : ∀ w ∈ u_ws RJ0 TJ0 4, w ∈ wsJ0_indexOf_7cf53 := by decide +kernel
  refine lv_aload_n hx hb dJ0_indexOf_7cf53_0 rfl (lv_at hl 0 rfl) ?_
  have hPc := hP.sub (ws' := []) [] rfl
  have hDc := hD.sub (ws' := []) [] (by decide) rfl
  have hKc := hK.sub (tys' := []) [] rfl
  have hFc := va_free (wc := []) hD hS hA [] rfl
  refine va_calli (va_runV (As := []) (rest := []) ⟨hx, hb, hml, hown, hts⟩ (c_J0_isLatin1_aae02 l dC dI e0 aK aV s.heap.size) (cwV 0 hts gJ0_indexOf_7cf53_J0_isLatin1_aae02 rfl rfl rfl (by decide +kernel) ⟨Nat.le_of_ble_eq_true rfl, Nat.le_of_ble_eq_true rfl⟩) (pcVs hPc hDc hKc hN hZ hS hFc (i := 1) (by decide)) rfl rfl hl.1 rfl (lv_room (Nat.le_of_ble_eq_true rfl)) dJ0_indexOf_7cf53_1 ⟨Nat.le_of_ble_eq_true rfl, Nat.le_of_ble_eq_true rfl⟩) hS (fun q _ h => hFc q h) hFc (fun r_1 u t H1 locs ht hvm hw_2 hB hz1 hk1 hS => ?_)
  obtain ⟨hP1, hK1, hD1⟩ := hB
  rw [ht] at hP1
  try dsimp only at hw_2
  obtain ⟨hP, hD⟩ := va_join (wr := []) (w1 := []) hP hD [] [] rfl rfl (by decide) (by decide) hk1 hFc hP1 hD1
  generalize H1 = H at hP hS ⊢
  have hP : va_P (dC, dI) vwCl [] H := hP
  have hD : va_D A [] := hD
  subst hw_2
  refine lv_if_eq (tgt := 23) hx hb dJ0_indexOf_7cf53_4 (by decide) (fun c4_3 => ?_) (fun c4_3 => ?_)
  · exact absurd c4_3 (by decide)
  · refine lv_aload_n hx hb dJ0_indexOf_7cf53_7 rfl (lv_at hl 0 rfl) ?_
    refine vk_getf hx hb (hZ.1.2.2.2.1 1 (by decide)).2.2.1 hS hown (hts (.fieldLink RJ0 9 "java/lang/String" "value" "[B") (by decide +kernel)) (fun _ h9 => h9) dJ0_indexOf_7cf53_8 ?_
    refine lv_iload_n hx hb dJ0_indexOf_7cf53_11 rfl (lv_at hl 1 rfl) ?_
    refine lv_iload_n hx hb dJ0_indexOf_7cf53_12 rfl (lv_at hl 2 rfl) ?_
    refine lv_aload_n hx hb dJ0_indexOf_7cf53_13 rfl (lv_at hl 0 rfl) ?_
    have hPc := hP.sub (ws' := []) [] rfl
    have hDc := hD.sub (ws' := []) [] (by decide) rfl
    have hKc := hK.sub (tys' := []) [] rfl
    have hFc := va_free (wc := []) hD hS hA [] rfl
    refine va_calli (va_runV (As := []) (rest := [.int 0, .int w9, .ref (aV 1)]) ⟨hx, hb, hml, hown, hts⟩ (c_J0_length_1 l dC dI e0 aK aV H.size) (cwV 0 hts gJ0_indexOf_7cf53_J0_length_8abf5 rfl rfl rfl (by decide +kernel) ⟨Nat.le_of_ble_eq_true rfl, Nat.le_of_ble_eq_true rfl⟩) (pcVs hPc hDc hKc hN hZ hS hFc (i := 1) (by decide)) rfl rfl hl.1 rfl (lv_room (Nat.le_of_ble_eq_true rfl)) dJ0_indexOf_7cf53_14 ⟨Nat.le_of_ble_eq_true rfl, Nat.le_of_ble_eq_true rfl⟩) hS (fun q _ h => hFc q h) hFc (fun r_4 u t H1 locs ht hvm hw_5 hB hz1 hk1 hS => ?_)
    obtain ⟨hP1, hK1, hD1⟩ := hB
    rw [ht] at hP1
    try dsimp only at hw_5
    obtain ⟨hP, hD⟩ := va_join (wr := []) (w1 := []) hP hD [] [] rfl rfl (by decide) (by decide) hk1 hFc hP1 hD1
    generalize H1 = H at hP hS ⊢
    have hP : va_P (dC, dI) vwCl [] H := hP
    have hD : va_D A [] := hD
    subst hw_5
    have hPc := hP.sub (ws' := []) [] rfl
    have hDc := hD.sub (ws' := []) [] (by decide) rfl
    have hKc := hK.sub (tys' := []) [] rfl
    have hFc := va_free (wc := []) hD hS hA [] rfl
    refine va_calli (va_runS (As := [.ref (aV 1), .int w9, .int 0, .int 5]) (rest := []) ⟨hx, hb, hml, hown, hts⟩ (c_J1_indexOf_4cfef l dC dI e0 aK aV w9 H.size) (va_cwS 4 hts gJ0_indexOf_7cf53_J1_indexOf_4cfef rfl rfl rfl (by decide +kernel) ⟨Nat.le_of_ble_eq_true rfl, Nat.le_of_ble_eq_true rfl⟩) (pcSz (zM_ok e0 aK aV) hPc hDc hKc hN hZ hS hFc) rfl rfl hl.1 rfl (lv_room (Nat.le_of_ble_eq_true rfl)) dJ0_indexOf_7cf53_17 ⟨Nat.le_of_ble_eq_true rfl, Nat.le_of_ble_eq_true rfl⟩) hS (fun q _ h => hFc q h) hFc (fun r_6 u t H1 locs ht hvm hw_7 hB hz1 hk1 hS => ?_)
    obtain ⟨hP1, hK1, hD1⟩ := hB
    rw [ht] at hP1
    try dsimp only at hw_7
    obtain ⟨hP, hD⟩ := va_join (wr := []) (w1 := []) hP hD [] [] rfl rfl (by decide) (by decide) hk1 hFc hP1 hD1
    generalize H1 = H at hP hS ⊢
    have hP : va_P (dC, dI) vwCl [] H := hP
    have hD : va_D A [] := hD
    refine lv_goto (tgt := 36) hx hb dJ0_indexOf_7cf53_20 (by decide) ?_
    have hP9 := hP.sub (ws' := []) [] rfl
    have hD9 := hD.sub (ws' := []) [] (by decide) rfl
    have hK9 := hK.sub (tys' := []) [] rfl
    exact W.iret (v := r_6) hx hb hr (fun t ht hW => ⟨⟨r_6, (), rfl, hw_7, ⟨by rw [ht]; exact hP9, va_K.moved hW.alike hK9, hD9⟩⟩, hS.F ht⟩) hS.2.2 dJ0_indexOf_7cf53_36

set_option maxHeartbeats 4000000 in
set_option maxRecDepth 100000 in
/-- J0_indexOf_0f7a4 -/
theorem c_J0_indexOf_0f7a4 (l : Launch) (dC : Nat → ClassId) (dI : Nat → Nat → Nat) (e0 : Nat) (aK aV : Nat → Nat) (w9 : Int32) (sz : Nat) : Met l yJ0_indexOf_0f7a4 wsJ0_indexOf_0f7a4 ({ frames := 3, cells := 0, slots := 0, locals := 72 }) (va_Pc [.ref (aK 1), .int w9] (cPCz (zM e0 aK aV) dC dI [] [] sz)) (va_Qi (fun (r : Int32) (u : Unit) => whQ w9 r) (fun (u : Unit) t => cQB dC dI [] [] (va_A [] sz) t) (va_A [] sz)) 0 0 (va_A [] sz) := by
  refine Met.ofW (cc := cJ0_indexOf_0f7a4) (maxL := 2) (ret := (some .int)) (by decide) rfl ?_
  intro p e s m args below meth c s₁ B hml hv
  obtain ⟨rfl, ⟨hsz, hP, hK, hD0, hN⟩, hZ⟩ := hv
  have hx := B.exec
  have hb := B.bytes
  have hr := B.returns
  have hts := atoms_spec (ws := wsJ0_indexOf_0f7a4) B.pre
  have hown : s.vm.findClass RJ0 = some m.cls := findClass_of_methodNamed B.named
  have hlocks := B.notSynchronized
  subst hsz
  have hD := hD0.self (sz := s.heap.size)
  generalize hAe : va_A [] s.heap.size = A at hD hZ ⊢
  have hA : ∀ q : Nat, s.heap.size ≤ q → A q := fun q h => by rw [← hAe]; exact Or.inr h
  have hS : va_S A s.heap s.heap [] := va_S.rf
  have hP : va_P (dC, dI) vwCl [] s.heap := hP
  have hD : va_D A [] := hD
  have hl := lv_entry ([.ref (aK 1), .int w9]) (n := 2) (Nat.le_of_ble_eq_true rfl)
  rw [lg_entry_eq]
  generalize (lg_sl ([.ref (aK 1), .int w9]) ++ List.replicate (2 - (lg_sl ([.ref (aK 1), .int w9])).length) Slot.unset).toArray = ls at hl ⊢
  have hl : lv_has ls 2 [(0, .ref (aK 1)), (1, .int w9)] := hl
  have iWJ0 : ∀ w ∈ u_ws RJ0 TJ0 4, w ∈ wsJ0_indexOf_0f7a4 := by decide +kernel
  refine lv_aload_n hx hb dJ0_indexOf_0f7a4_0 rfl (lv_at hl 0 rfl) ?_
  refine lv_iload_n hx hb dJ0_indexOf_0f7a4_1 rfl (lv_at hl 1 rfl) ?_
  refine lv_iconst (v := 0) hx hb dJ0_indexOf_0f7a4_2 (by decide) ?_
  have hPc := hP.sub (ws' := []) [] rfl
  have hDc := hD.sub (ws' := []) [] (by decide) rfl
  have hKc := hK.sub (tys' := []) [] rfl
  have hFc := va_free (wc := []) hD hS hA [] rfl
  refine va_calli (va_runV (As := [.int w9, .int 0]) (rest := []) ⟨hx, hb, hml, hown, hts⟩ (c_J0_indexOf_7cf53 l dC dI e0 aK aV w9 s.heap.size) (cwV 2 hts gJ0_indexOf_0f7a4_J0_indexOf_7cf53 rfl rfl rfl (by decide +kernel) ⟨Nat.le_of_ble_eq_true rfl, Nat.le_of_ble_eq_true rfl⟩) (pcVs hPc hDc hKc hN hZ hS hFc (i := 1) (by decide)) rfl rfl hl.1 rfl (lv_room (Nat.le_of_ble_eq_true rfl)) dJ0_indexOf_0f7a4_3 ⟨Nat.le_of_ble_eq_true rfl, Nat.le_of_ble_eq_true rfl⟩) hS (fun q _ h => hFc q h) hFc (fun r_1 u t H1 locs ht hvm hw_2 hB hz1 hk1 hS => ?_)
  obtain ⟨hP1, hK1, hD1⟩ := hB
  rw [ht] at hP1
  try dsimp only at hw_2
  obtain ⟨hP, hD⟩ := va_join (wr := []) (w1 := []) hP hD [] [] rfl rfl (by decide) (by decide) hk1 hFc hP1 hD1
  generalize H1 = H at hP hS ⊢
  have hP : va_P (dC, dI) vwCl [] H := hP
  have hD : va_D A [] := hD
  have hP9 := hP.sub (ws' := []) [] rfl
  have hD9 := hD.sub (ws' := []) [] (by decide) rfl
  have hK9 := hK.sub (tys' := []) [] rfl
  exact W.iret (v := r_1) hx hb hr (fun t ht hW => ⟨⟨r_1, (), rfl, hw_2, ⟨by rw [ht]; exact hP9, va_K.moved hW.alike hK9, hD9⟩⟩, hS.F ht⟩) hS.2.2 dJ0_indexOf_0f7a4_6

set_option maxHeartbeats 4000000 in
set_option maxRecDepth 100000 in
/-- X15_tagLength -/
theorem c_X15_tagLength (l : Launch) (dC : Nat → ClassId) (dI : Nat → Nat → Nat) (xm ml cl fl kn rg tr : Nat) (e0 : Nat) (aK aV : Nat → Nat) (sz : Nat) : Met l yX15_tagLength wsX15_tagLength ({ frames := 2, cells := 0, slots := 0, locals := 40 }) (va_Pc [.ref xm] (cPCz (zM e0 aK aV) dC dI [(xm, .inr (20, [.int 0, .int 0, .ref kn, .int 0, .int 0, .int 0, .ref ml, .ref cl, .ref rg, .ref tr, .ref (aK 0), .ref (aK 0), .ref fl, .int 0, .int 0, .int 0, .int 0, .int 0, .int 0, .int 0, .null]))] [] sz)) (va_Qi (fun (r : Int32) (u : List Value) => u[5]? = some (.int 0) ∧ r = 0) (fun (u : List Value) t => cQB dC dI [(xm, .inr (20, u))] [] (va_A [(xm, .inr (20, [.int 0, .int 0, .ref kn, .int 0, .int 0, .int 0, .ref ml, .ref cl, .ref rg, .ref tr, .ref (aK 0), .ref (aK 0), .ref fl, .int 0, .int 0, .int 0, .int 0, .int 0, .int 0, .int 0, .null]))] sz) t) (va_A [(xm, .inr (20, [.int 0, .int 0, .ref kn, .int 0, .int 0, .int 0, .ref ml, .ref cl, .ref rg, .ref tr, .ref (aK 0), .ref (aK 0), .ref fl, .int 0, .int 0, .int 0, .int 0, .int 0, .int 0, .int 0, .null]))] sz)) 0 0 (va_A [(xm, .inr (20, [.int 0, .int 0, .ref kn, .int 0, .int 0, .int 0, .ref ml, .ref cl, .ref rg, .ref tr, .ref (aK 0), .ref (aK 0), .ref fl, .int 0, .int 0, .int 0, .int 0, .int 0, .int 0, .int 0, .null]))] sz) := by
  refine Met.ofW (cc := cX15_tagLength) (maxL := 1) (ret := (some .int)) (by decide) rfl ?_
  intro p e s m args below meth c s₁ B hml hv
  obtain ⟨rfl, ⟨hsz, hP, hK, hD0, hN⟩, hZ⟩ := hv
  have hx := B.exec
  have hb := B.bytes
  have hr := B.returns
  have hts := atoms_spec (ws := wsX15_tagLength) B.pre
  have hown : s.vm.findClass RX15 = some m.cls := findClass_of_methodNamed B.named
  have hlocks := B.notSynchronized
  subst hsz
  have hD := hD0.self (sz := s.heap.size)
  generalize hAe : va_A [(xm, .inr (20, [.int 0, .int 0, .ref kn, .int 0, .int 0, .int 0, .ref ml, .ref cl, .ref rg, .ref tr, .ref (aK 0), .ref (aK 0), .ref fl, .int 0, .int 0, .int 0, .int 0, .int 0, .int 0, .int 0, .null]))] s.heap.size = A at hD hZ ⊢
  have hA : ∀ q : Nat, s.heap.size ≤ q → A q := fun q h => by rw [← hAe]; exact Or.inr h
  have hS : va_S A s.heap s.heap [] := va_S.rf
  have hP : va_P (dC, dI) vwCl [(xm, .inr (20, [.int 0, .int 0, .ref kn, .int 0, .int 0, .int 0, .ref ml, .ref cl, .ref rg, .ref tr, .ref (aK 0), .ref (aK 0), .ref fl, .int 0, .int 0, .int 0, .int 0, .int 0, .int 0, .int 0, .null]))] s.heap := hP
  have hD : va_D A [(xm, .inr (20, [.int 0, .int 0, .ref kn, .int 0, .int 0, .int 0, .ref ml, .ref cl, .ref rg, .ref tr, .ref (aK 0), .ref (aK 0), .ref fl, .int 0, .int 0, .int 0, .int 0, .int 0, .int 0, .int 0, .null]))] := hD
  have hl := lv_entry ([.ref xm]) (n := 1) (Nat.le_of_ble_eq_true rfl)
  rw [lg_entry_eq]
  generalize (lg_sl ([.ref xm]) ++ List.replicate (1 - (lg_sl ([.ref xm])).length) Slot.unset).toArray = ls at hl ⊢
  have hl : lv_has ls 1 [(0, .ref xm)] := hl
  have iWX15 : ∀ w ∈ u_ws RX15 TX15 21, w ∈ wsX15_tagLength := by decide +kernel
  refine lv_aload_n hx hb dX15_tagLength_0 rfl (lv_at hl 0 rfl) ?_
  refine lv_iconst (v := 0) hx hb dX15_tagLength_1 (by decide) ?_
  refine va_put (D := (dC, dI)) (ci := 20) (v := .int 0) (ty := .int) (C := RX15) (T := TX15) (N := 21) hx hb hts iWX15 tyX15 tyX15_ok nmX15 hown hK hP hD hS 0 rfl rfl 5 (by decide) (hts (.fieldLink RX15 209 "BeaverhallModel" "thrown" "I") (by decide +kernel)) (fun _ h9 => h9) rfl (by decide +kernel) rfl rfl (Nat.le_of_ble_eq_true rfl) dX15_tagLength_2 (fun H locs hP hD hS => ?_)
  have hP : va_P (dC, dI) vwCl [(xm, .inr (20, [.int 0, .int 0, .ref kn, .int 0, .int 0, .int 0, .ref ml, .ref cl, .ref rg, .ref tr, .ref (aK 0), .ref (aK 0), .ref fl, .int 0, .int 0, .int 0, .int 0, .int 0, .int 0, .int 0, .null]))] H := hP
  have hD : va_D A [(xm, .inr (20, [.int 0, .int 0, .ref kn, .int 0, .int 0, .int 0, .ref ml, .ref cl, .ref rg, .ref tr, .ref (aK 0), .ref (aK 0), .ref fl, .int 0, .int 0, .int 0, .int 0, .int 0, .int 0, .int 0, .null]))] := hD
  refine lv_aload_n hx hb dX15_tagLength_5 rfl (lv_at hl 0 rfl) ?_
  refine va_get (D := (dC, dI)) (ci := 20) (v := .ref (aK 0)) (C := RX15) (T := TX15) (N := 21) hx hb hts iWX15 hown hK hP 0 rfl rfl 11 (by decide) (hts (.fieldLink RX15 203 "BeaverhallModel" "tagged" "Ljava/lang/String;") (by decide +kernel)) (fun _ h9 => h9) rfl dX15_tagLength_6 ?_
  have hPc := hP.sub (ws' := []) [] rfl
  have hDc := hD.sub (ws' := []) [] (by decide) rfl
  have hKc := hK.sub (tys' := []) [] rfl
  have hFc := va_free (wc := []) hD hS hA [] rfl
  refine va_calli (va_runV (As := []) (rest := []) ⟨hx, hb, hml, hown, hts⟩ (c_J0_length_c l dC dI e0 aK aV H.size) (cwV 0 hts gX15_tagLength_J0_length_8abf5 rfl rfl rfl (by decide +kernel) ⟨Nat.le_of_ble_eq_true rfl, Nat.le_of_ble_eq_true rfl⟩) (pcVs hPc hDc hKc hN hZ hS hFc (i := 0) (by decide)) rfl rfl hl.1 rfl (lv_room (Nat.le_of_ble_eq_true rfl)) dX15_tagLength_9 ⟨Nat.le_of_ble_eq_true rfl, Nat.le_of_ble_eq_true rfl⟩) hS (fun q _ h => hFc q h) hFc (fun r_1 u t H1 locs ht hvm hw_2 hB hz1 hk1 hS => ?_)
  obtain ⟨hP1, hK1, hD1⟩ := hB
  rw [ht] at hP1
  try dsimp only at hw_2
  obtain ⟨hP, hD⟩ := va_join (wr := [(xm, .inr (20, [.int 0, .int 0, .ref kn, .int 0, .int 0, .int 0, .ref ml, .ref cl, .ref rg, .ref tr, .ref (aK 0), .ref (aK 0), .ref fl, .int 0, .int 0, .int 0, .int 0, .int 0, .int 0, .int 0, .null]))]) (w1 := []) hP hD [] [0] rfl rfl (by decide) (by decide) hk1 hFc hP1 hD1
  generalize H1 = H at hP hS ⊢
  have hP : va_P (dC, dI) vwCl [(xm, .inr (20, [.int 0, .int 0, .ref kn, .int 0, .int 0, .int 0, .ref ml, .ref cl, .ref rg, .ref tr, .ref (aK 0), .ref (aK 0), .ref fl, .int 0, .int 0, .int 0, .int 0, .int 0, .int 0, .int 0, .null]))] H := hP
  have hD : va_D A [(xm, .inr (20, [.int 0, .int 0, .ref kn, .int 0, .int 0, .int 0, .ref ml, .ref cl, .ref rg, .ref tr, .ref (aK 0), .ref (aK 0), .ref fl, .int 0, .int 0, .int 0, .int 0, .int 0, .int 0, .int 0, .null]))] := hD
  subst hw_2
  have hP9 := hP.sub (ws' := [(xm, .inr (20, [.int 0, .int 0, .ref kn, .int 0, .int 0, .int 0, .ref ml, .ref cl, .ref rg, .ref tr, .ref (aK 0), .ref (aK 0), .ref fl, .int 0, .int 0, .int 0, .int 0, .int 0, .int 0, .int 0, .null]))]) [0] rfl
  have hD9 := hD.sub (ws' := [(xm, .inr (20, [.int 0, .int 0, .ref kn, .int 0, .int 0, .int 0, .ref ml, .ref cl, .ref rg, .ref tr, .ref (aK 0), .ref (aK 0), .ref fl, .int 0, .int 0, .int 0, .int 0, .int 0, .int 0, .int 0, .null]))]) [0] (by decide) rfl
  have hK9 := hK.sub (tys' := []) [] rfl
  exact W.iret (v := 0) hx hb hr (fun t ht hW => ⟨⟨0, [.int 0, .int 0, .ref kn, .int 0, .int 0, .int 0, .ref ml, .ref cl, .ref rg, .ref tr, .ref (aK 0), .ref (aK 0), .ref fl, .int 0, .int 0, .int 0, .int 0, .int 0, .int 0, .int 0, .null], rfl, ⟨rfl, rfl⟩, ⟨by rw [ht]; exact hP9, va_K.moved hW.alike hK9, hD9⟩⟩, hS.F ht⟩) hS.2.2 dX15_tagLength_12

set_option maxHeartbeats 4000000 in
set_option maxRecDepth 100000 in
/-- X15_tagLetter -/
theorem c_X15_tagLetter (l : Launch) (dC : Nat → ClassId) (dI : Nat → Nat → Nat) (xm ml cl fl kn rg tr : Nat) (e0 : Nat) (aK aV : Nat → Nat) (p0 : Int32) (sz : Nat) : Met l yX15_tagLetter wsX15_tagLetter ({ frames := 2, cells := 0, slots := 0, locals := 40 }) (va_Pc [.ref xm, .int p0] (cPCz (zM e0 aK aV) dC dI [(xm, .inr (20, [.int 0, .int 0, .ref kn, .int 0, .int 0, .int 0, .ref ml, .ref cl, .ref rg, .ref tr, .ref (aK 0), .ref (aK 0), .ref fl, .int 0, .int 0, .int 0, .int 0, .int 0, .int 0, .int 0, .null]))] [] sz)) (va_Qi (fun (r : Int32) (u : List Value) => u[5]? = some (.int 1)) (fun (u : List Value) t => cQB dC dI [(xm, .inr (20, u))] [] (va_A [(xm, .inr (20, [.int 0, .int 0, .ref kn, .int 0, .int 0, .int 0, .ref ml, .ref cl, .ref rg, .ref tr, .ref (aK 0), .ref (aK 0), .ref fl, .int 0, .int 0, .int 0, .int 0, .int 0, .int 0, .int 0, .null]))] sz) t) (va_A [(xm, .inr (20, [.int 0, .int 0, .ref kn, .int 0, .int 0, .int 0, .ref ml, .ref cl, .ref rg, .ref tr, .ref (aK 0), .ref (aK 0), .ref fl, .int 0, .int 0, .int 0, .int 0, .int 0, .int 0, .int 0, .null]))] sz)) 0 0 (va_A [(xm, .inr (20, [.int 0, .int 0, .ref kn, .int 0, .int 0, .int 0, .ref ml, .ref cl, .ref rg, .ref tr, .ref (aK 0), .ref (aK 0), .ref fl, .int 0, .int 0, .int 0, .int 0, .int 0, .int 0, .int 0, .null]))] sz) := by
  refine Met.ofW (cc := cX15_tagLetter) (maxL := 2) (ret := (some .char)) (by decide) rfl ?_
  intro p e s m args below meth c s₁ B hml hv
  obtain ⟨rfl, ⟨hsz, hP, hK, hD0, hN⟩, hZ⟩ := hv
  have hx := B.exec
  have hb := B.bytes
  have hr := B.returns
  have hts := atoms_spec (ws := wsX15_tagLetter) B.pre
  have hown : s.vm.findClass RX15 = some m.cls := findClass_of_methodNamed B.named
  have hlocks := B.notSynchronized
  subst hsz
  have hD := hD0.self (sz := s.heap.size)
  generalize hAe : va_A [(xm, .inr (20, [.int 0, .int 0, .ref kn, .int 0, .int 0, .int 0, .ref ml, .ref cl, .ref rg, .ref tr, .ref (aK 0), .ref (aK 0), .ref fl, .int 0, .int 0, .int 0, .int 0, .int 0, .int 0, .int 0, .null]))] s.heap.size = A at hD hZ ⊢
  have hA : ∀ q : Nat, s.heap.size ≤ q → A q := fun q h => by rw [← hAe]; exact Or.inr h
  have hS : va_S A s.heap s.heap [] := va_S.rf
  have hP : va_P (dC, dI) vwCl [(xm, .inr (20, [.int 0, .int 0, .ref kn, .int 0, .int 0, .int 0, .ref ml, .ref cl, .ref rg, .ref tr, .ref (aK 0), .ref (aK 0), .ref fl, .int 0, .int 0, .int 0, .int 0, .int 0, .int 0, .int 0, .null]))] s.heap := hP
  have hD : va_D A [(xm, .inr (20, [.int 0, .int 0, .ref kn, .int 0, .int 0, .int 0, .ref ml, .ref cl, .ref rg, .ref tr, .ref (aK 0), .ref (aK 0), .ref fl, .int 0, .int 0, .int 0, .int 0, .int 0, .int 0, .int 0, .null]))] := hD
  have hl := lv_entry ([.ref xm, .int p0]) (n := 2) (Nat.le_of_ble_eq_true rfl)
  rw [lg_entry_eq]
  generalize (lg_sl ([.ref xm, .int p0]) ++ List.replicate (2 - (lg_sl ([.ref xm, .int p0])).length) Slot.unset).toArray = ls at hl ⊢
  have hl : lv_has ls 2 [(0, .ref xm), (1, .int p0)] := hl
  have iWX15 : ∀ w ∈ u_ws RX15 TX15 21, w ∈ wsX15_tagLetter := by decide +kernel
  refine lv_aload_n hx hb dX15_tagLetter_0 rfl (lv_at hl 0 rfl) ?_
  refine lv_iload_n hx hb dX15_tagLetter_1 rfl (lv_at hl 1 rfl) ?_
  refine lv_i2l hx hb dX15_tagLetter_2 rfl ?_
  refine lv_lconst (v := 0) hx hb dX15_tagLetter_3 (by decide) ?_
  refine lv_aload_n hx hb dX15_tagLetter_4 rfl (lv_at hl 0 rfl) ?_
  refine va_get (D := (dC, dI)) (ci := 20) (v := .ref (aK 0)) (C := RX15) (T := TX15) (N := 21) hx hb hts iWX15 hown hK hP 0 rfl rfl 11 (by decide) (hts (.fieldLink RX15 203 "BeaverhallModel" "tagged" "Ljava/lang/String;") (by decide +kernel)) (fun _ h9 => h9) rfl dX15_tagLetter_5 ?_
  have hPc := hP.sub (ws' := []) [] rfl
  have hDc := hD.sub (ws' := []) [] (by decide) rfl
  have hKc := hK.sub (tys' := []) [] rfl
  have hFc := va_free (wc := []) hD hS hA [] rfl
  refine va_calli (va_runV (As := []) (rest := [.long 0, .long p0.toInt64, .ref xm]) ⟨hx, hb, hml, hown, hts⟩ (c_J0_length_c l dC dI e0 aK aV s.heap.size) (cwV 0 hts gX15_tagLetter_J0_length_8abf5 rfl rfl rfl (by decide +kernel) ⟨Nat.le_of_ble_eq_true rfl, Nat.le_of_ble_eq_true rfl⟩) (pcVs hPc hDc hKc hN hZ hS hFc (i := 0) (by decide)) rfl rfl hl.1 rfl (lv_room (Nat.le_of_ble_eq_true rfl)) dX15_tagLetter_8 ⟨Nat.le_of_ble_eq_true rfl, Nat.le_of_ble_eq_true rfl⟩) hS (fun q _ h => hFc q h) hFc (fun r_1 u t H1 locs ht hvm hw_2 hB hz1 hk1 hS => ?_)
  obtain ⟨hP1, hK1, hD1⟩ := hB
  rw [ht] at hP1
  try dsimp only at hw_2
  obtain ⟨hP, hD⟩ := va_join (wr := [(xm, .inr (20, [.int 0, .int 0, .ref kn, .int 0, .int 0, .int 0, .ref ml, .ref cl, .ref rg, .ref tr, .ref (aK 0), .ref (aK 0), .ref fl, .int 0, .int 0, .int 0, .int 0, .int 0, .int 0, .int 0, .null]))]) (w1 := []) hP hD [] [0] rfl rfl (by decide) (by decide) hk1 hFc hP1 hD1
  generalize H1 = H at hP hS ⊢
  have hP : va_P (dC, dI) vwCl [(xm, .inr (20, [.int 0, .int 0, .ref kn, .int 0, .int 0, .int 0, .ref ml, .ref cl, .ref rg, .ref tr, .ref (aK 0), .ref (aK 0), .ref fl, .int 0, .int 0, .int 0, .int 0, .int 0, .int 0, .int 0, .null]))] H := hP
  have hD : va_D A [(xm, .inr (20, [.int 0, .int 0, .ref kn, .int 0, .int 0, .int 0, .ref ml, .ref cl, .ref rg, .ref tr, .ref (aK 0), .ref (aK 0), .ref fl, .int 0, .int 0, .int 0, .int 0, .int 0, .int 0, .int 0, .null]))] := hD
  subst hw_2
  refine lv_iconst (v := 1) hx hb dX15_tagLetter_11 (by decide) ?_
  refine lv_isub hx hb dX15_tagLetter_12 ?_
  refine lv_i2l hx hb dX15_tagLetter_13 rfl ?_
  have hPc := hP.sub (ws' := []) [] rfl
  have hDc := hD.sub (ws' := []) [] (by decide) rfl
  have hKc := hK.sub (tys' := []) [] rfl
  have hFc := va_free (wc := []) hD hS hA [] rfl
  refine va_calli (va_runS (As := [.long p0.toInt64, .long 0, .long (((0 : Int32) - 1).toInt64)]) (rest := [.ref xm]) ⟨hx, hb, hml, hown, hts⟩ (c_X15_in l dC dI p0.toInt64 0 (((0 : Int32) - 1).toInt64) H.size) (va_cwS 3 hts gX15_tagLetter_X15_in rfl rfl rfl (by decide +kernel) ⟨Nat.le_of_ble_eq_true rfl, Nat.le_of_ble_eq_true rfl⟩) (pcS hPc hDc hKc hN) rfl rfl hl.1 rfl (lv_room (Nat.le_of_ble_eq_true rfl)) dX15_tagLetter_14 ⟨Nat.le_of_ble_eq_true rfl, Nat.le_of_ble_eq_true rfl⟩) hS (fun q _ h => hFc q h) hFc (fun r_3 u t H1 locs ht hvm hw_4 hB hz1 hk1 hS => ?_)
  obtain ⟨hP1, hK1, hD1⟩ := hB
  rw [ht] at hP1
  try dsimp only at hw_4
  obtain ⟨hP, hD⟩ := va_join (wr := [(xm, .inr (20, [.int 0, .int 0, .ref kn, .int 0, .int 0, .int 0, .ref ml, .ref cl, .ref rg, .ref tr, .ref (aK 0), .ref (aK 0), .ref fl, .int 0, .int 0, .int 0, .int 0, .int 0, .int 0, .int 0, .null]))]) (w1 := []) hP hD [] [0] rfl rfl (by decide) (by decide) hk1 hFc hP1 hD1
  generalize H1 = H at hP hS ⊢
  have hP : va_P (dC, dI) vwCl [(xm, .inr (20, [.int 0, .int 0, .ref kn, .int 0, .int 0, .int 0, .ref ml, .ref cl, .ref rg, .ref tr, .ref (aK 0), .ref (aK 0), .ref fl, .int 0, .int 0, .int 0, .int 0, .int 0, .int 0, .int 0, .null]))] H := hP
  have hD : va_D A [(xm, .inr (20, [.int 0, .int 0, .ref kn, .int 0, .int 0, .int 0, .ref ml, .ref cl, .ref rg, .ref tr, .ref (aK 0), .ref (aK 0), .ref fl, .int 0, .int 0, .int 0, .int 0, .int 0, .int 0, .int 0, .null]))] := hD
  have hi_5 := in32 (0) (((0 : Int32) - 1)) (by decide) rfl hw_4
  refine lv_if_eq (tgt := 24) hx hb dX15_tagLetter_17 (by decide) (fun c17_6 => ?_) (fun c17_6 => ?_)
  · have hn_7 := (hi_5).elim (fun h => absurd (h.1.symm.trans c17_6) (by decide)) (fun h => h.2)
    refine lv_iconst (v := 1) hx hb dX15_tagLetter_24 (by decide) ?_
    refine va_put (D := (dC, dI)) (ci := 20) (v := .int 1) (ty := .int) (C := RX15) (T := TX15) (N := 21) hx hb hts iWX15 tyX15 tyX15_ok nmX15 hown hK hP hD hS 0 rfl rfl 5 (by decide) (hts (.fieldLink RX15 209 "BeaverhallModel" "thrown" "I") (by decide +kernel)) (fun _ h9 => h9) rfl (by decide +kernel) rfl rfl (Nat.le_of_ble_eq_true rfl) dX15_tagLetter_25 (fun H locs hP hD hS => ?_)
    have hP : va_P (dC, dI) vwCl [(xm, .inr (20, [.int 0, .int 0, .ref kn, .int 0, .int 0, .int 1, .ref ml, .ref cl, .ref rg, .ref tr, .ref (aK 0), .ref (aK 0), .ref fl, .int 0, .int 0, .int 0, .int 0, .int 0, .int 0, .int 0, .null]))] H := hP
    have hD : va_D A [(xm, .inr (20, [.int 0, .int 0, .ref kn, .int 0, .int 0, .int 1, .ref ml, .ref cl, .ref rg, .ref tr, .ref (aK 0), .ref (aK 0), .ref fl, .int 0, .int 0, .int 0, .int 0, .int 0, .int 0, .int 0, .null]))] := hD
    refine lv_aload_n hx hb dX15_tagLetter_28 rfl (lv_at hl 0 rfl) ?_
    refine va_get (D := (dC, dI)) (ci := 20) (v := .int 1) (C := RX15) (T := TX15) (N := 21) hx hb hts iWX15 hown hK hP 0 rfl rfl 5 (by decide) (hts (.fieldLink RX15 209 "BeaverhallModel" "thrown" "I") (by decide +kernel)) (fun _ h9 => h9) rfl dX15_tagLetter_29 ?_
    refine lv_if_le (tgt := 40) hx hb dX15_tagLetter_32 (by decide) (fun c32_8 => ?_) (fun c32_8 => ?_)
    · exact absurd c32_8 (by decide)
    · refine lv_bipush (v := 32) hx hb dX15_tagLetter_35 (by decide) ?_
      refine lv_goto (tgt := 48) hx hb dX15_tagLetter_37 (by decide) ?_
      have hP9 := hP.sub (ws' := [(xm, .inr (20, [.int 0, .int 0, .ref kn, .int 0, .int 0, .int 1, .ref ml, .ref cl, .ref rg, .ref tr, .ref (aK 0), .ref (aK 0), .ref fl, .int 0, .int 0, .int 0, .int 0, .int 0, .int 0, .int 0, .null]))]) [0] rfl
      have hD9 := hD.sub (ws' := [(xm, .inr (20, [.int 0, .int 0, .ref kn, .int 0, .int 0, .int 1, .ref ml, .ref cl, .ref rg, .ref tr, .ref (aK 0), .ref (aK 0), .ref fl, .int 0, .int 0, .int 0, .int 0, .int 0, .int 0, .int 0, .null]))]) [0] (by decide) rfl
      have hK9 := hK.sub (tys' := []) [] rfl
      exact W.zret (v := 32) hx hb hr (by rfl) (fun t ht hW => ⟨⟨32, [.int 0, .int 0, .ref kn, .int 0, .int 0, .int 1, .ref ml, .ref cl, .ref rg, .ref tr, .ref (aK 0), .ref (aK 0), .ref fl, .int 0, .int 0, .int 0, .int 0, .int 0, .int 0, .int 0, .null], rfl, rfl, ⟨by rw [ht]; exact hP9, va_K.moved hW.alike hK9, hD9⟩⟩, hS.F ht⟩) hS.2.2 dX15_tagLetter_48
  · have hn_9 := (hi_5).elim (fun h => h.2) (fun h => absurd h.1 c17_6)
    exact absurd hn_9.2 (fun h9 => Int32.not_lt.mpr (Int32.le_trans hn_9.1 h9) (by decide))

set_option maxHeartbeats 4000000 in
set_option maxRecDepth 100000 in
/-- X15_untag -/
theorem c_X15_untag (l : Launch) (dC : Nat → ClassId) (dI : Nat → Nat → Nat) (xm ml cl fl kn rg tr : Nat) (e0 : Nat) (aK aV : Nat → Nat) (cS : ClassId) (sz : Nat) : Met l yX15_untag wsX15_untag ({ frames := 2, cells := 0, slots := 0, locals := 40 }) (va_Pc [.ref xm] (cPCz (zM e0 aK aV) dC dI [(xm, .inr (20, [.int 0, .int 0, .ref kn, .int 0, .int 0, .int 0, .ref ml, .ref cl, .ref rg, .ref tr, .ref (aK 0), .ref (aK 0), .ref fl, .int 0, .int 0, .int 0, .int 0, .int 0, .int 0, .int 0, .null])), (tr, .inl (cS, 4, .inr (.inr (.inr (.inr (fun _ => some (aK 0)))))))] [(cS, .object "java/lang/String")] sz)) (va_Qi (fun (r : Int32) (u : List Value) => u[5]? = some (.int 0) ∧ r = 0) (fun (u : List Value) t => cQB dC dI [(xm, .inr (20, u))] [(cS, .object "java/lang/String")] (va_A [(xm, .inr (20, [.int 0, .int 0, .ref kn, .int 0, .int 0, .int 0, .ref ml, .ref cl, .ref rg, .ref tr, .ref (aK 0), .ref (aK 0), .ref fl, .int 0, .int 0, .int 0, .int 0, .int 0, .int 0, .int 0, .null])), (tr, .inl (cS, 4, .inr (.inr (.inr (.inr (fun _ => some (aK 0)))))))] sz) t) (va_A [(xm, .inr (20, [.int 0, .int 0, .ref kn, .int 0, .int 0, .int 0, .ref ml, .ref cl, .ref rg, .ref tr, .ref (aK 0), .ref (aK 0), .ref fl, .int 0, .int 0, .int 0, .int 0, .int 0, .int 0, .int 0, .null])), (tr, .inl (cS, 4, .inr (.inr (.inr (.inr (fun _ => some (aK 0)))))))] sz)) 0 0 (va_A [(xm, .inr (20, [.int 0, .int 0, .ref kn, .int 0, .int 0, .int 0, .ref ml, .ref cl, .ref rg, .ref tr, .ref (aK 0), .ref (aK 0), .ref fl, .int 0, .int 0, .int 0, .int 0, .int 0, .int 0, .int 0, .null])), (tr, .inl (cS, 4, .inr (.inr (.inr (.inr (fun _ => some (aK 0)))))))] sz) := by
  refine Met.ofW (cc := cX15_untag) (maxL := 3) (ret := (some .int)) (by decide) rfl ?_
  intro p e s m args below meth c s₁ B hml hv
  obtain ⟨rfl, ⟨hsz, hP, hK, hD0, hN⟩, hZ⟩ := hv
  have hx := B.exec
  have hb := B.bytes
  have hr := B.returns
  have hts := atoms_spec (ws := wsX15_untag) B.pre
  have hown : s.vm.findClass RX15 = some m.cls := findClass_of_methodNamed B.named
  have hlocks := B.notSynchronized
  subst hsz
  have hD := hD0.self (sz := s.heap.size)
  generalize hAe : va_A [(xm, .inr (20, [.int 0, .int 0, .ref kn, .int 0, .int 0, .int 0, .ref ml, .ref cl, .ref rg, .ref tr, .ref (aK 0), .ref (aK 0), .ref fl, .int 0, .int 0, .int 0, .int 0, .int 0, .int 0, .int 0, .null])), (tr, .inl (cS, 4, .inr (.inr (.inr (.inr (fun _ => some (aK 0)))))))] s.heap.size = A at hD hZ ⊢
  have hA : ∀ q : Nat, s.heap.size ≤ q → A q := fun q h => by rw [← hAe]; exact Or.inr h
  have hS : va_S A s.heap s.heap [] := va_S.rf
  have hP : va_P (dC, dI) vwCl [(xm, .inr (20, [.int 0, .int 0, .ref kn, .int 0, .int 0, .int 0, .ref ml, .ref cl, .ref rg, .ref tr, .ref (aK 0), .ref (aK 0), .ref fl, .int 0, .int 0, .int 0, .int 0, .int 0, .int 0, .int 0, .null])), (tr, .inl (cS, 4, .inr (.inr (.inr (.inr (fun _ => some (aK 0)))))))] s.heap := hP
  have hD : va_D A [(xm, .inr (20, [.int 0, .int 0, .ref kn, .int 0, .int 0, .int 0, .ref ml, .ref cl, .ref rg, .ref tr, .ref (aK 0), .ref (aK 0), .ref fl, .int 0, .int 0, .int 0, .int 0, .int 0, .int 0, .int 0, .null])), (tr, .inl (cS, 4, .inr (.inr (.inr (.inr (fun _ => some (aK 0)))))))] := hD
  have hl := lv_entry ([.ref xm]) (n := 3) (Nat.le_of_ble_eq_true rfl)
  rw [lg_entry_eq]
  generalize (lg_sl ([.ref xm]) ++ List.replicate (3 - (lg_sl ([.ref xm])).length) Slot.unset).toArray = ls at hl ⊢
  have hl : lv_has ls 3 [(0, .ref xm)] := hl
  have iWX15 : ∀ w ∈ u_ws RX15 TX15 21, w ∈ wsX15_untag := by decide +kernel
  refine lv_aload_n hx hb dX15_untag_0 rfl (lv_at hl 0 rfl) ?_
  refine lv_iconst (v := 0) hx hb dX15_untag_1 (by decide) ?_
  refine va_put (D := (dC, dI)) (ci := 20) (v := .int 0) (ty := .int) (C := RX15) (T := TX15) (N := 21) hx hb hts iWX15 tyX15 tyX15_ok nmX15 hown hK hP hD hS 0 rfl rfl 5 (by decide) (hts (.fieldLink RX15 209 "BeaverhallModel" "thrown" "I") (by decide +kernel)) (fun _ h9 => h9) rfl (by decide +kernel) rfl rfl (Nat.le_of_ble_eq_true rfl) dX15_untag_2 (fun H locs hP hD hS => ?_)
  have hP : va_P (dC, dI) vwCl [(xm, .inr (20, [.int 0, .int 0, .ref kn, .int 0, .int 0, .int 0, .ref ml, .ref cl, .ref rg, .ref tr, .ref (aK 0), .ref (aK 0), .ref fl, .int 0, .int 0, .int 0, .int 0, .int 0, .int 0, .int 0, .null])), (tr, .inl (cS, 4, .inr (.inr (.inr (.inr (fun _ => some (aK 0)))))))] H := hP
  have hD : va_D A [(xm, .inr (20, [.int 0, .int 0, .ref kn, .int 0, .int 0, .int 0, .ref ml, .ref cl, .ref rg, .ref tr, .ref (aK 0), .ref (aK 0), .ref fl, .int 0, .int 0, .int 0, .int 0, .int 0, .int 0, .int 0, .null])), (tr, .inl (cS, 4, .inr (.inr (.inr (.inr (fun _ => some (aK 0)))))))] := hD
  refine lv_aload_n hx hb dX15_untag_5 rfl (lv_at hl 0 rfl) ?_
  refine va_get (D := (dC, dI)) (ci := 20) (v := .ref (aK 0)) (C := RX15) (T := TX15) (N := 21) hx hb hts iWX15 hown hK hP 0 rfl rfl 10 (by decide) (hts (.fieldLink RX15 199 "BeaverhallModel" "tagStart" "Ljava/lang/String;") (by decide +kernel)) (fun _ h9 => h9) rfl dX15_untag_6 ?_
  have hPc := hP.sub (ws' := []) [] rfl
  have hDc := hD.sub (ws' := []) [] (by decide) rfl
  have hKc := hK.sub (tys' := []) [] rfl
  have hFc := va_free (wc := []) hD hS hA [] rfl
  refine va_calli (va_runV (As := []) (rest := []) ⟨hx, hb, hml, hown, hts⟩ (c_J0_length_c l dC dI e0 aK aV H.size) (cwV 0 hts gX15_untag_J0_length_8abf5 rfl rfl rfl (by decide +kernel) ⟨Nat.le_of_ble_eq_true rfl, Nat.le_of_ble_eq_true rfl⟩) (pcVs hPc hDc hKc hN hZ hS hFc (i := 0) (by decide)) rfl rfl hl.1 rfl (lv_room (Nat.le_of_ble_eq_true rfl)) dX15_untag_9 ⟨Nat.le_of_ble_eq_true rfl, Nat.le_of_ble_eq_true rfl⟩) hS (fun q _ h => hFc q h) hFc (fun r_1 u t H1 locs ht hvm hw_2 hB hz1 hk1 hS => ?_)
  obtain ⟨hP1, hK1, hD1⟩ := hB
  rw [ht] at hP1
  try dsimp only at hw_2
  obtain ⟨hP, hD⟩ := va_join (wr := [(xm, .inr (20, [.int 0, .int 0, .ref kn, .int 0, .int 0, .int 0, .ref ml, .ref cl, .ref rg, .ref tr, .ref (aK 0), .ref (aK 0), .ref fl, .int 0, .int 0, .int 0, .int 0, .int 0, .int 0, .int 0, .null])), (tr, .inl (cS, 4, .inr (.inr (.inr (.inr (fun _ => some (aK 0)))))))]) (w1 := []) hP hD [] [0, 1] rfl rfl (by decide) (by decide) hk1 hFc hP1 hD1
  generalize H1 = H at hP hS ⊢
  have hP : va_P (dC, dI) vwCl [(xm, .inr (20, [.int 0, .int 0, .ref kn, .int 0, .int 0, .int 0, .ref ml, .ref cl, .ref rg, .ref tr, .ref (aK 0), .ref (aK 0), .ref fl, .int 0, .int 0, .int 0, .int 0, .int 0, .int 0, .int 0, .null])), (tr, .inl (cS, 4, .inr (.inr (.inr (.inr (fun _ => some (aK 0)))))))] H := hP
  have hD : va_D A [(xm, .inr (20, [.int 0, .int 0, .ref kn, .int 0, .int 0, .int 0, .ref ml, .ref cl, .ref rg, .ref tr, .ref (aK 0), .ref (aK 0), .ref fl, .int 0, .int 0, .int 0, .int 0, .int 0, .int 0, .int 0, .null])), (tr, .inl (cS, 4, .inr (.inr (.inr (.inr (fun _ => some (aK 0)))))))] := hD
  subst hw_2
  refine lv_istore_n (lv' := [(1, .int 0), (0, .ref xm)]) hx hb dX15_untag_12 rfl hl (by decide) rfl (fun ls hl => ?_)
  refine lv_iconst (v := 0) hx hb dX15_untag_13 (by decide) ?_
  refine lv_istore_n (lv' := [(2, .int 0), (1, .int 0), (0, .ref xm)]) hx hb dX15_untag_14 rfl hl (by decide) rfl (fun ls hl => ?_)
  refine lv_iload_n hx hb dX15_untag_15 rfl (lv_at hl 0 rfl) ?_
  refine lv_aload_n hx hb dX15_untag_16 rfl (lv_at hl 2 rfl) ?_
  refine va_get (D := (dC, dI)) (ci := 20) (v := .ref tr) (C := RX15) (T := TX15) (N := 21) hx hb hts iWX15 hown hK hP 0 rfl rfl 9 (by decide) (hts (.fieldLink RX15 195 "BeaverhallModel" "tagRows" "[Ljava/lang/String;") (by decide +kernel)) (fun _ h9 => h9) rfl dX15_untag_17 ?_
  refine va_alen hx hb hK hP 1 0 rfl rfl (v := 4) (by rfl) dX15_untag_20 ?_
  refine lv_icmp_ge (tgt := 50) hx hb dX15_untag_21 (by decide) (fun c21_3 => ?_) (fun c21_3 => ?_)
  · exact absurd c21_3 (by decide)
  · refine lv_iload_n hx hb dX15_untag_24 rfl (lv_at hl 1 rfl) ?_
    refine lv_aload_n hx hb dX15_untag_25 rfl (lv_at hl 2 rfl) ?_
    refine va_get (D := (dC, dI)) (ci := 20) (v := .ref tr) (C := RX15) (T := TX15) (N := 21) hx hb hts iWX15 hown hK hP 0 rfl rfl 9 (by decide) (hts (.fieldLink RX15 195 "BeaverhallModel" "tagRows" "[Ljava/lang/String;") (by decide +kernel)) (fun _ h9 => h9) rfl dX15_untag_26 ?_
    refine lv_iload_n hx hb dX15_untag_29 rfl (lv_at hl 0 rfl) ?_
    refine va_aldq hx hb hK hP 1 0 rfl rfl (show vp_in (nI 0) 4 from vp_in_nI (by decide) (by decide)) dX15_untag_30 ?_
    have hPc := hP.sub (ws' := []) [] rfl
    have hDc := hD.sub (ws' := []) [] (by decide) rfl
    have hKc := hK.sub (tys' := []) [] rfl
    have hFc := va_free (wc := []) hD hS hA [] rfl
    refine va_calli (va_runV (As := []) (rest := [.int 0]) ⟨hx, hb, hml, hown, hts⟩ (c_J0_length_c l dC dI e0 aK aV H.size) (cwV 0 hts gX15_untag_J0_length_8abf5 rfl rfl rfl (by decide +kernel) ⟨Nat.le_of_ble_eq_true rfl, Nat.le_of_ble_eq_true rfl⟩) (pcVs hPc hDc hKc hN hZ hS hFc (i := 0) (by decide)) rfl rfl hl.1 rfl (lv_room (Nat.le_of_ble_eq_true rfl)) dX15_untag_31 ⟨Nat.le_of_ble_eq_true rfl, Nat.le_of_ble_eq_true rfl⟩) hS (fun q _ h => hFc q h) hFc (fun r_4 u t H1 locs ht hvm hw_5 hB hz1 hk1 hS => ?_)
    obtain ⟨hP1, hK1, hD1⟩ := hB
    rw [ht] at hP1
    try dsimp only at hw_5
    obtain ⟨hP, hD⟩ := va_join (wr := [(xm, .inr (20, [.int 0, .int 0, .ref kn, .int 0, .int 0, .int 0, .ref ml, .ref cl, .ref rg, .ref tr, .ref (aK 0), .ref (aK 0), .ref fl, .int 0, .int 0, .int 0, .int 0, .int 0, .int 0, .int 0, .null])), (tr, .inl (cS, 4, .inr (.inr (.inr (.inr (fun _ => some (aK 0)))))))]) (w1 := []) hP hD [] [0, 1] rfl rfl (by decide) (by decide) hk1 hFc hP1 hD1
    generalize H1 = H at hP hS ⊢
    have hP : va_P (dC, dI) vwCl [(xm, .inr (20, [.int 0, .int 0, .ref kn, .int 0, .int 0, .int 0, .ref ml, .ref cl, .ref rg, .ref tr, .ref (aK 0), .ref (aK 0), .ref fl, .int 0, .int 0, .int 0, .int 0, .int 0, .int 0, .int 0, .null])), (tr, .inl (cS, 4, .inr (.inr (.inr (.inr (fun _ => some (aK 0)))))))] H := hP
    have hD : va_D A [(xm, .inr (20, [.int 0, .int 0, .ref kn, .int 0, .int 0, .int 0, .ref ml, .ref cl, .ref rg, .ref tr, .ref (aK 0), .ref (aK 0), .ref fl, .int 0, .int 0, .int 0, .int 0, .int 0, .int 0, .int 0, .null])), (tr, .inl (cS, 4, .inr (.inr (.inr (.inr (fun _ => some (aK 0)))))))] := hD
    subst hw_5
    refine lv_iadd hx hb dX15_untag_34 ?_
    refine lv_topi (fun x_6 ex_6 => ?_)
    obtain rfl : x_6 = 0 := by rw [ex_6]; decide
    refine lv_istore_n (lv' := [(1, .int 0), (2, .int 0), (0, .ref xm)]) hx hb dX15_untag_35 rfl hl (by decide) rfl (fun ls hl => ?_)
    refine lv_aload_n hx hb dX15_untag_36 rfl (lv_at hl 2 rfl) ?_
    refine va_get (D := (dC, dI)) (ci := 20) (v := .ref tr) (C := RX15) (T := TX15) (N := 21) hx hb hts iWX15 hown hK hP 0 rfl rfl 9 (by decide) (hts (.fieldLink RX15 195 "BeaverhallModel" "tagRows" "[Ljava/lang/String;") (by decide +kernel)) (fun _ h9 => h9) rfl dX15_untag_37 ?_
    refine lv_iload_n hx hb dX15_untag_40 rfl (lv_at hl 1 rfl) ?_
    refine va_ldcS hx hb hown hZ.2.1.1 dX15_untag_41 ?_
    refine vb_astq (C := "java/lang/String") hx hb hK hP hD hS 1 0 rfl rfl (vk_recv hZ.1.2.2.2 (show 0 < 2 by decide) hS) vb_asgS (show vp_in (nI 0) 4 from vp_in_nI (by decide) (by decide)) dX15_untag_43 (fun H locs hP hD hS => ?_)
    have hP : va_P (dC, dI) vwCl [(xm, .inr (20, [.int 0, .int 0, .ref kn, .int 0, .int 0, .int 0, .ref ml, .ref cl, .ref rg, .ref tr, .ref (aK 0), .ref (aK 0), .ref fl, .int 0, .int 0, .int 0, .int 0, .int 0, .int 0, .int 0, .null])), (tr, .inl (cS, 4, .inr (.inr (.inr (.inr (va_up (fun _ => some (aK 0)) ((0 : Int32)).toNatClampNeg (some (aK 0))))))))] H := hP
    have hD : va_D A [(xm, .inr (20, [.int 0, .int 0, .ref kn, .int 0, .int 0, .int 0, .ref ml, .ref cl, .ref rg, .ref tr, .ref (aK 0), .ref (aK 0), .ref fl, .int 0, .int 0, .int 0, .int 0, .int 0, .int 0, .int 0, .null])), (tr, .inl (cS, 4, .inr (.inr (.inr (.inr (va_up (fun _ => some (aK 0)) ((0 : Int32)).toNatClampNeg (some (aK 0))))))))] := hD
    rw [up_same] at hP hD
    have hP : va_P (dC, dI) vwCl [(xm, .inr (20, [.int 0, .int 0, .ref kn, .int 0, .int 0, .int 0, .ref ml, .ref cl, .ref rg, .ref tr, .ref (aK 0), .ref (aK 0), .ref fl, .int 0, .int 0, .int 0, .int 0, .int 0, .int 0, .int 0, .null])), (tr, .inl (cS, 4, .inr (.inr (.inr (.inr (fun _ => some (aK 0)))))))] H := hP
    have hD : va_D A [(xm, .inr (20, [.int 0, .int 0, .ref kn, .int 0, .int 0, .int 0, .ref ml, .ref cl, .ref rg, .ref tr, .ref (aK 0), .ref (aK 0), .ref fl, .int 0, .int 0, .int 0, .int 0, .int 0, .int 0, .int 0, .null])), (tr, .inl (cS, 4, .inr (.inr (.inr (.inr (fun _ => some (aK 0)))))))] := hD
    obtain ⟨y_8, ey_8⟩ : ∃ y : Int32, y = 0 + 1 := ⟨_, rfl⟩
    refine lv_iinc (v := 1) (lv' := [(2, .int 1), (1, .int 0), (0, .ref xm)]) hx hb dX15_untag_44 hl (k := 1) rfl (by decide) (by decide) rfl (fun ls hl => ?_)
    refine lv_goto (tgt := 15) hx hb dX15_untag_47 (by decide) ?_
    refine lv_iload_n hx hb dX15_untag_15 rfl (lv_at hl 0 rfl) ?_
    refine lv_aload_n hx hb dX15_untag_16 rfl (lv_at hl 2 rfl) ?_
    refine va_get (D := (dC, dI)) (ci := 20) (v := .ref tr) (C := RX15) (T := TX15) (N := 21) hx hb hts iWX15 hown hK hP 0 rfl rfl 9 (by decide) (hts (.fieldLink RX15 195 "BeaverhallModel" "tagRows" "[Ljava/lang/String;") (by decide +kernel)) (fun _ h9 => h9) rfl dX15_untag_17 ?_
    refine va_alen hx hb hK hP 1 0 rfl rfl (v := 4) (by rfl) dX15_untag_20 ?_
    refine lv_icmp_ge (tgt := 50) hx hb dX15_untag_21 (by decide) (fun c21_9 => ?_) (fun c21_9 => ?_)
    · exact absurd c21_9 (by decide)
    · refine lv_iload_n hx hb dX15_untag_24 rfl (lv_at hl 1 rfl) ?_
      refine lv_aload_n hx hb dX15_untag_25 rfl (lv_at hl 2 rfl) ?_
      refine va_get (D := (dC, dI)) (ci := 20) (v := .ref tr) (C := RX15) (T := TX15) (N := 21) hx hb hts iWX15 hown hK hP 0 rfl rfl 9 (by decide) (hts (.fieldLink RX15 195 "BeaverhallModel" "tagRows" "[Ljava/lang/String;") (by decide +kernel)) (fun _ h9 => h9) rfl dX15_untag_26 ?_
      refine lv_iload_n hx hb dX15_untag_29 rfl (lv_at hl 0 rfl) ?_
      refine va_aldq hx hb hK hP 1 0 rfl rfl (show vp_in (nI 1) 4 from vp_in_nI (by decide) (by decide)) dX15_untag_30 ?_
      have hPc := hP.sub (ws' := []) [] rfl
      have hDc := hD.sub (ws' := []) [] (by decide) rfl
      have hKc := hK.sub (tys' := []) [] rfl
      have hFc := va_free (wc := []) hD hS hA [] rfl
      refine va_calli (va_runV (As := []) (rest := [.int 0]) ⟨hx, hb, hml, hown, hts⟩ (c_J0_length_c l dC dI e0 aK aV H.size) (cwV 0 hts gX15_untag_J0_length_8abf5 rfl rfl rfl (by decide +kernel) ⟨Nat.le_of_ble_eq_true rfl, Nat.le_of_ble_eq_true rfl⟩) (pcVs hPc hDc hKc hN hZ hS hFc (i := 0) (by decide)) rfl rfl hl.1 rfl (lv_room (Nat.le_of_ble_eq_true rfl)) dX15_untag_31 ⟨Nat.le_of_ble_eq_true rfl, Nat.le_of_ble_eq_true rfl⟩) hS (fun q _ h => hFc q h) hFc (fun r_10 u t H1 locs ht hvm hw_11 hB hz1 hk1 hS => ?_)
      obtain ⟨hP1, hK1, hD1⟩ := hB
      rw [ht] at hP1
      try dsimp only at hw_11
      obtain ⟨hP, hD⟩ := va_join (wr := [(xm, .inr (20, [.int 0, .int 0, .ref kn, .int 0, .int 0, .int 0, .ref ml, .ref cl, .ref rg, .ref tr, .ref (aK 0), .ref (aK 0), .ref fl, .int 0, .int 0, .int 0, .int 0, .int 0, .int 0, .int 0, .null])), (tr, .inl (cS, 4, .inr (.inr (.inr (.inr (fun _ => some (aK 0)))))))]) (w1 := []) hP hD [] [0, 1] rfl rfl (by decide) (by decide) hk1 hFc hP1 hD1
      generalize H1 = H at hP hS ⊢
      have hP : va_P (dC, dI) vwCl [(xm, .inr (20, [.int 0, .int 0, .ref kn, .int 0, .int 0, .int 0, .ref ml, .ref cl, .ref rg, .ref tr, .ref (aK 0), .ref (aK 0), .ref fl, .int 0, .int 0, .int 0, .int 0, .int 0, .int 0, .int 0, .null])), (tr, .inl (cS, 4, .inr (.inr (.inr (.inr (fun _ => some (aK 0)))))))] H := hP
      have hD : va_D A [(xm, .inr (20, [.int 0, .int 0, .ref kn, .int 0, .int 0, .int 0, .ref ml, .ref cl, .ref rg, .ref tr, .ref (aK 0), .ref (aK 0), .ref fl, .int 0, .int 0, .int 0, .int 0, .int 0, .int 0, .int 0, .null])), (tr, .inl (cS, 4, .inr (.inr (.inr (.inr (fun _ => some (aK 0)))))))] := hD
      subst hw_11
      refine lv_iadd hx hb dX15_untag_34 ?_
      refine lv_topi (fun x_12 ex_12 => ?_)
      obtain rfl : x_12 = 0 := by rw [ex_12]; decide
      refine lv_istore_n (lv' := [(1, .int 0), (2, .int 1), (0, .ref xm)]) hx hb dX15_untag_35 rfl hl (by decide) rfl (fun ls hl => ?_)
      refine lv_aload_n hx hb dX15_untag_36 rfl (lv_at hl 2 rfl) ?_
      refine va_get (D := (dC, dI)) (ci := 20) (v := .ref tr) (C := RX15) (T := TX15) (N := 21) hx hb hts iWX15 hown hK hP 0 rfl rfl 9 (by decide) (hts (.fieldLink RX15 195 "BeaverhallModel" "tagRows" "[Ljava/lang/String;") (by decide +kernel)) (fun _ h9 => h9) rfl dX15_untag_37 ?_
      refine lv_iload_n hx hb dX15_untag_40 rfl (lv_at hl 1 rfl) ?_
      refine va_ldcS hx hb hown hZ.2.1.1 dX15_untag_41 ?_
      refine vb_astq (C := "java/lang/String") hx hb hK hP hD hS 1 0 rfl rfl (vk_recv hZ.1.2.2.2 (show 0 < 2 by decide) hS) vb_asgS (show vp_in (nI 1) 4 from vp_in_nI (by decide) (by decide)) dX15_untag_43 (fun H locs hP hD hS => ?_)
      have hP : va_P (dC, dI) vwCl [(xm, .inr (20, [.int 0, .int 0, .ref kn, .int 0, .int 0, .int 0, .ref ml, .ref cl, .ref rg, .ref tr, .ref (aK 0), .ref (aK 0), .ref fl, .int 0, .int 0, .int 0, .int 0, .int 0, .int 0, .int 0, .null])), (tr, .inl (cS, 4, .inr (.inr (.inr (.inr (va_up (fun _ => some (aK 0)) ((1 : Int32)).toNatClampNeg (some (aK 0))))))))] H := hP
      have hD : va_D A [(xm, .inr (20, [.int 0, .int 0, .ref kn, .int 0, .int 0, .int 0, .ref ml, .ref cl, .ref rg, .ref tr, .ref (aK 0), .ref (aK 0), .ref fl, .int 0, .int 0, .int 0, .int 0, .int 0, .int 0, .int 0, .null])), (tr, .inl (cS, 4, .inr (.inr (.inr (.inr (va_up (fun _ => some (aK 0)) ((1 : Int32)).toNatClampNeg (some (aK 0))))))))] := hD
      rw [up_same] at hP hD
      have hP : va_P (dC, dI) vwCl [(xm, .inr (20, [.int 0, .int 0, .ref kn, .int 0, .int 0, .int 0, .ref ml, .ref cl, .ref rg, .ref tr, .ref (aK 0), .ref (aK 0), .ref fl, .int 0, .int 0, .int 0, .int 0, .int 0, .int 0, .int 0, .null])), (tr, .inl (cS, 4, .inr (.inr (.inr (.inr (fun _ => some (aK 0)))))))] H := hP
      have hD : va_D A [(xm, .inr (20, [.int 0, .int 0, .ref kn, .int 0, .int 0, .int 0, .ref ml, .ref cl, .ref rg, .ref tr, .ref (aK 0), .ref (aK 0), .ref fl, .int 0, .int 0, .int 0, .int 0, .int 0, .int 0, .int 0, .null])), (tr, .inl (cS, 4, .inr (.inr (.inr (.inr (fun _ => some (aK 0)))))))] := hD
      obtain ⟨y_14, ey_14⟩ : ∃ y : Int32, y = 1 + 1 := ⟨_, rfl⟩
      refine lv_iinc (v := 2) (lv' := [(2, .int 2), (1, .int 0), (0, .ref xm)]) hx hb dX15_untag_44 hl (k := 1) rfl (by decide) (by decide) rfl (fun ls hl => ?_)
      refine lv_goto (tgt := 15) hx hb dX15_untag_47 (by decide) ?_
      refine lv_iload_n hx hb dX15_untag_15 rfl (lv_at hl 0 rfl) ?_
      refine lv_aload_n hx hb dX15_untag_16 rfl (lv_at hl 2 rfl) ?_
      refine va_get (D := (dC, dI)) (ci := 20) (v := .ref tr) (C := RX15) (T := TX15) (N := 21) hx hb hts iWX15 hown hK hP 0 rfl rfl 9 (by decide) (hts (.fieldLink RX15 195 "BeaverhallModel" "tagRows" "[Ljava/lang/String;") (by decide +kernel)) (fun _ h9 => h9) rfl dX15_untag_17 ?_
      refine va_alen hx hb hK hP 1 0 rfl rfl (v := 4) (by rfl) dX15_untag_20 ?_
      refine lv_icmp_ge (tgt := 50) hx hb dX15_untag_21 (by decide) (fun c21_15 => ?_) (fun c21_15 => ?_)
      · exact absurd c21_15 (by decide)
      · refine lv_iload_n hx hb dX15_untag_24 rfl (lv_at hl 1 rfl) ?_
        refine lv_aload_n hx hb dX15_untag_25 rfl (lv_at hl 2 rfl) ?_
        refine va_get (D := (dC, dI)) (ci := 20) (v := .ref tr) (C := RX15) (T := TX15) (N := 21) hx hb hts iWX15 hown hK hP 0 rfl rfl 9 (by decide) (hts (.fieldLink RX15 195 "BeaverhallModel" "tagRows" "[Ljava/lang/String;") (by decide +kernel)) (fun _ h9 => h9) rfl dX15_untag_26 ?_
        refine lv_iload_n hx hb dX15_untag_29 rfl (lv_at hl 0 rfl) ?_
        refine va_aldq hx hb hK hP 1 0 rfl rfl (show vp_in (nI 2) 4 from vp_in_nI (by decide) (by decide)) dX15_untag_30 ?_
        have hPc := hP.sub (ws' := []) [] rfl
        have hDc := hD.sub (ws' := []) [] (by decide) rfl
        have hKc := hK.sub (tys' := []) [] rfl
        have hFc := va_free (wc := []) hD hS hA [] rfl
        refine va_calli (va_runV (As := []) (rest := [.int 0]) ⟨hx, hb, hml, hown, hts⟩ (c_J0_length_c l dC dI e0 aK aV H.size) (cwV 0 hts gX15_untag_J0_length_8abf5 rfl rfl rfl (by decide +kernel) ⟨Nat.le_of_ble_eq_true rfl, Nat.le_of_ble_eq_true rfl⟩) (pcVs hPc hDc hKc hN hZ hS hFc (i := 0) (by decide)) rfl rfl hl.1 rfl (lv_room (Nat.le_of_ble_eq_true rfl)) dX15_untag_31 ⟨Nat.le_of_ble_eq_true rfl, Nat.le_of_ble_eq_true rfl⟩) hS (fun q _ h => hFc q h) hFc (fun r_16 u t H1 locs ht hvm hw_17 hB hz1 hk1 hS => ?_)
        obtain ⟨hP1, hK1, hD1⟩ := hB
        rw [ht] at hP1
        try dsimp only at hw_17
        obtain ⟨hP, hD⟩ := va_join (wr := [(xm, .inr (20, [.int 0, .int 0, .ref kn, .int 0, .int 0, .int 0, .ref ml, .ref cl, .ref rg, .ref tr, .ref (aK 0), .ref (aK 0), .ref fl, .int 0, .int 0, .int 0, .int 0, .int 0, .int 0, .int 0, .null])), (tr, .inl (cS, 4, .inr (.inr (.inr (.inr (fun _ => some (aK 0)))))))]) (w1 := []) hP hD [] [0, 1] rfl rfl (by decide) (by decide) hk1 hFc hP1 hD1
        generalize H1 = H at hP hS ⊢
        have hP : va_P (dC, dI) vwCl [(xm, .inr (20, [.int 0, .int 0, .ref kn, .int 0, .int 0, .int 0, .ref ml, .ref cl, .ref rg, .ref tr, .ref (aK 0), .ref (aK 0), .ref fl, .int 0, .int 0, .int 0, .int 0, .int 0, .int 0, .int 0, .null])), (tr, .inl (cS, 4, .inr (.inr (.inr (.inr (fun _ => some (aK 0)))))))] H := hP
        have hD : va_D A [(xm, .inr (20, [.int 0, .int 0, .ref kn, .int 0, .int 0, .int 0, .ref ml, .ref cl, .ref rg, .ref tr, .ref (aK 0), .ref (aK 0), .ref fl, .int 0, .int 0, .int 0, .int 0, .int 0, .int 0, .int 0, .null])), (tr, .inl (cS, 4, .inr (.inr (.inr (.inr (fun _ => some (aK 0)))))))] := hD
        subst hw_17
        refine lv_iadd hx hb dX15_untag_34 ?_
        refine lv_topi (fun x_18 ex_18 => ?_)
        obtain rfl : x_18 = 0 := by rw [ex_18]; decide
        refine lv_istore_n (lv' := [(1, .int 0), (2, .int 2), (0, .ref xm)]) hx hb dX15_untag_35 rfl hl (by decide) rfl (fun ls hl => ?_)
        refine lv_aload_n hx hb dX15_untag_36 rfl (lv_at hl 2 rfl) ?_
        refine va_get (D := (dC, dI)) (ci := 20) (v := .ref tr) (C := RX15) (T := TX15) (N := 21) hx hb hts iWX15 hown hK hP 0 rfl rfl 9 (by decide) (hts (.fieldLink RX15 195 "BeaverhallModel" "tagRows" "[Ljava/lang/String;") (by decide +kernel)) (fun _ h9 => h9) rfl dX15_untag_37 ?_
        refine lv_iload_n hx hb dX15_untag_40 rfl (lv_at hl 1 rfl) ?_
        refine va_ldcS hx hb hown hZ.2.1.1 dX15_untag_41 ?_
        refine vb_astq (C := "java/lang/String") hx hb hK hP hD hS 1 0 rfl rfl (vk_recv hZ.1.2.2.2 (show 0 < 2 by decide) hS) vb_asgS (show vp_in (nI 2) 4 from vp_in_nI (by decide) (by decide)) dX15_untag_43 (fun H locs hP hD hS => ?_)
        have hP : va_P (dC, dI) vwCl [(xm, .inr (20, [.int 0, .int 0, .ref kn, .int 0, .int 0, .int 0, .ref ml, .ref cl, .ref rg, .ref tr, .ref (aK 0), .ref (aK 0), .ref fl, .int 0, .int 0, .int 0, .int 0, .int 0, .int 0, .int 0, .null])), (tr, .inl (cS, 4, .inr (.inr (.inr (.inr (va_up (fun _ => some (aK 0)) ((2 : Int32)).toNatClampNeg (some (aK 0))))))))] H := hP
        have hD : va_D A [(xm, .inr (20, [.int 0, .int 0, .ref kn, .int 0, .int 0, .int 0, .ref ml, .ref cl, .ref rg, .ref tr, .ref (aK 0), .ref (aK 0), .ref fl, .int 0, .int 0, .int 0, .int 0, .int 0, .int 0, .int 0, .null])), (tr, .inl (cS, 4, .inr (.inr (.inr (.inr (va_up (fun _ => some (aK 0)) ((2 : Int32)).toNatClampNeg (some (aK 0))))))))] := hD
        rw [up_same] at hP hD
        have hP : va_P (dC, dI) vwCl [(xm, .inr (20, [.int 0, .int 0, .ref kn, .int 0, .int 0, .int 0, .ref ml, .ref cl, .ref rg, .ref tr, .ref (aK 0), .ref (aK 0), .ref fl, .int 0, .int 0, .int 0, .int 0, .int 0, .int 0, .int 0, .null])), (tr, .inl (cS, 4, .inr (.inr (.inr (.inr (fun _ => some (aK 0)))))))] H := hP
        have hD : va_D A [(xm, .inr (20, [.int 0, .int 0, .ref kn, .int 0, .int 0, .int 0, .ref ml, .ref cl, .ref rg, .ref tr, .ref (aK 0), .ref (aK 0), .ref fl, .int 0, .int 0, .int 0, .int 0, .int 0, .int 0, .int 0, .null])), (tr, .inl (cS, 4, .inr (.inr (.inr (.inr (fun _ => some (aK 0)))))))] := hD
        obtain ⟨y_20, ey_20⟩ : ∃ y : Int32, y = 2 + 1 := ⟨_, rfl⟩
        refine lv_iinc (v := 3) (lv' := [(2, .int 3), (1, .int 0), (0, .ref xm)]) hx hb dX15_untag_44 hl (k := 1) rfl (by decide) (by decide) rfl (fun ls hl => ?_)
        refine lv_goto (tgt := 15) hx hb dX15_untag_47 (by decide) ?_
        refine lv_iload_n hx hb dX15_untag_15 rfl (lv_at hl 0 rfl) ?_
        refine lv_aload_n hx hb dX15_untag_16 rfl (lv_at hl 2 rfl) ?_
        refine va_get (D := (dC, dI)) (ci := 20) (v := .ref tr) (C := RX15) (T := TX15) (N := 21) hx hb hts iWX15 hown hK hP 0 rfl rfl 9 (by decide) (hts (.fieldLink RX15 195 "BeaverhallModel" "tagRows" "[Ljava/lang/String;") (by decide +kernel)) (fun _ h9 => h9) rfl dX15_untag_17 ?_
        refine va_alen hx hb hK hP 1 0 rfl rfl (v := 4) (by rfl) dX15_untag_20 ?_
        refine lv_icmp_ge (tgt := 50) hx hb dX15_untag_21 (by decide) (fun c21_21 => ?_) (fun c21_21 => ?_)
        · exact absurd c21_21 (by decide)
        · refine lv_iload_n hx hb dX15_untag_24 rfl (lv_at hl 1 rfl) ?_
          refine lv_aload_n hx hb dX15_untag_25 rfl (lv_at hl 2 rfl) ?_
          refine va_get (D := (dC, dI)) (ci := 20) (v := .ref tr) (C := RX15) (T := TX15) (N := 21) hx hb hts iWX15 hown hK hP 0 rfl rfl 9 (by decide) (hts (.fieldLink RX15 195 "BeaverhallModel" "tagRows" "[Ljava/lang/String;") (by decide +kernel)) (fun _ h9 => h9) rfl dX15_untag_26 ?_
          refine lv_iload_n hx hb dX15_untag_29 rfl (lv_at hl 0 rfl) ?_
          refine va_aldq hx hb hK hP 1 0 rfl rfl (show vp_in (nI 3) 4 from vp_in_nI (by decide) (by decide)) dX15_untag_30 ?_
          have hPc := hP.sub (ws' := []) [] rfl
          have hDc := hD.sub (ws' := []) [] (by decide) rfl
          have hKc := hK.sub (tys' := []) [] rfl
          have hFc := va_free (wc := []) hD hS hA [] rfl
          refine va_calli (va_runV (As := []) (rest := [.int 0]) ⟨hx, hb, hml, hown, hts⟩ (c_J0_length_c l dC dI e0 aK aV H.size) (cwV 0 hts gX15_untag_J0_length_8abf5 rfl rfl rfl (by decide +kernel) ⟨Nat.le_of_ble_eq_true rfl, Nat.le_of_ble_eq_true rfl⟩) (pcVs hPc hDc hKc hN hZ hS hFc (i := 0) (by decide)) rfl rfl hl.1 rfl (lv_room (Nat.le_of_ble_eq_true rfl)) dX15_untag_31 ⟨Nat.le_of_ble_eq_true rfl, Nat.le_of_ble_eq_true rfl⟩) hS (fun q _ h => hFc q h) hFc (fun r_22 u t H1 locs ht hvm hw_23 hB hz1 hk1 hS => ?_)
          obtain ⟨hP1, hK1, hD1⟩ := hB
          rw [ht] at hP1
          try dsimp only at hw_23
          obtain ⟨hP, hD⟩ := va_join (wr := [(xm, .inr (20, [.int 0, .int 0, .ref kn, .int 0, .int 0, .int 0, .ref ml, .ref cl, .ref rg, .ref tr, .ref (aK 0), .ref (aK 0), .ref fl, .int 0, .int 0, .int 0, .int 0, .int 0, .int 0, .int 0, .null])), (tr, .inl (cS, 4, .inr (.inr (.inr (.inr (fun _ => some (aK 0)))))))]) (w1 := []) hP hD [] [0, 1] rfl rfl (by decide) (by decide) hk1 hFc hP1 hD1
          generalize H1 = H at hP hS ⊢
          have hP : va_P (dC, dI) vwCl [(xm, .inr (20, [.int 0, .int 0, .ref kn, .int 0, .int 0, .int 0, .ref ml, .ref cl, .ref rg, .ref tr, .ref (aK 0), .ref (aK 0), .ref fl, .int 0, .int 0, .int 0, .int 0, .int 0, .int 0, .int 0, .null])), (tr, .inl (cS, 4, .inr (.inr (.inr (.inr (fun _ => some (aK 0)))))))] H := hP
          have hD : va_D A [(xm, .inr (20, [.int 0, .int 0, .ref kn, .int 0, .int 0, .int 0, .ref ml, .ref cl, .ref rg, .ref tr, .ref (aK 0), .ref (aK 0), .ref fl, .int 0, .int 0, .int 0, .int 0, .int 0, .int 0, .int 0, .null])), (tr, .inl (cS, 4, .inr (.inr (.inr (.inr (fun _ => some (aK 0)))))))] := hD
          subst hw_23
          refine lv_iadd hx hb dX15_untag_34 ?_
          refine lv_topi (fun x_24 ex_24 => ?_)
          obtain rfl : x_24 = 0 := by rw [ex_24]; decide
          refine lv_istore_n (lv' := [(1, .int 0), (2, .int 3), (0, .ref xm)]) hx hb dX15_untag_35 rfl hl (by decide) rfl (fun ls hl => ?_)
          refine lv_aload_n hx hb dX15_untag_36 rfl (lv_at hl 2 rfl) ?_
          refine va_get (D := (dC, dI)) (ci := 20) (v := .ref tr) (C := RX15) (T := TX15) (N := 21) hx hb hts iWX15 hown hK hP 0 rfl rfl 9 (by decide) (hts (.fieldLink RX15 195 "BeaverhallModel" "tagRows" "[Ljava/lang/String;") (by decide +kernel)) (fun _ h9 => h9) rfl dX15_untag_37 ?_
          refine lv_iload_n hx hb dX15_untag_40 rfl (lv_at hl 1 rfl) ?_
          refine va_ldcS hx hb hown hZ.2.1.1 dX15_untag_41 ?_
          refine vb_astq (C := "java/lang/String") hx hb hK hP hD hS 1 0 rfl rfl (vk_recv hZ.1.2.2.2 (show 0 < 2 by decide) hS) vb_asgS (show vp_in (nI 3) 4 from vp_in_nI (by decide) (by decide)) dX15_untag_43 (fun H locs hP hD hS => ?_)
          have hP : va_P (dC, dI) vwCl [(xm, .inr (20, [.int 0, .int 0, .ref kn, .int 0, .int 0, .int 0, .ref ml, .ref cl, .ref rg, .ref tr, .ref (aK 0), .ref (aK 0), .ref fl, .int 0, .int 0, .int 0, .int 0, .int 0, .int 0, .int 0, .null])), (tr, .inl (cS, 4, .inr (.inr (.inr (.inr (va_up (fun _ => some (aK 0)) ((3 : Int32)).toNatClampNeg (some (aK 0))))))))] H := hP
          have hD : va_D A [(xm, .inr (20, [.int 0, .int 0, .ref kn, .int 0, .int 0, .int 0, .ref ml, .ref cl, .ref rg, .ref tr, .ref (aK 0), .ref (aK 0), .ref fl, .int 0, .int 0, .int 0, .int 0, .int 0, .int 0, .int 0, .null])), (tr, .inl (cS, 4, .inr (.inr (.inr (.inr (va_up (fun _ => some (aK 0)) ((3 : Int32)).toNatClampNeg (some (aK 0))))))))] := hD
          rw [up_same] at hP hD
          have hP : va_P (dC, dI) vwCl [(xm, .inr (20, [.int 0, .int 0, .ref kn, .int 0, .int 0, .int 0, .ref ml, .ref cl, .ref rg, .ref tr, .ref (aK 0), .ref (aK 0), .ref fl, .int 0, .int 0, .int 0, .int 0, .int 0, .int 0, .int 0, .null])), (tr, .inl (cS, 4, .inr (.inr (.inr (.inr (fun _ => some (aK 0)))))))] H := hP
          have hD : va_D A [(xm, .inr (20, [.int 0, .int 0, .ref kn, .int 0, .int 0, .int 0, .ref ml, .ref cl, .ref rg, .ref tr, .ref (aK 0), .ref (aK 0), .ref fl, .int 0, .int 0, .int 0, .int 0, .int 0, .int 0, .int 0, .null])), (tr, .inl (cS, 4, .inr (.inr (.inr (.inr (fun _ => some (aK 0)))))))] := hD
          obtain ⟨y_26, ey_26⟩ : ∃ y : Int32, y = 3 + 1 := ⟨_, rfl⟩
          refine lv_iinc (v := 4) (lv' := [(2, .int 4), (1, .int 0), (0, .ref xm)]) hx hb dX15_untag_44 hl (k := 1) rfl (by decide) (by decide) rfl (fun ls hl => ?_)
          refine lv_goto (tgt := 15) hx hb dX15_untag_47 (by decide) ?_
          refine lv_iload_n hx hb dX15_untag_15 rfl (lv_at hl 0 rfl) ?_
          refine lv_aload_n hx hb dX15_untag_16 rfl (lv_at hl 2 rfl) ?_
          refine va_get (D := (dC, dI)) (ci := 20) (v := .ref tr) (C := RX15) (T := TX15) (N := 21) hx hb hts iWX15 hown hK hP 0 rfl rfl 9 (by decide) (hts (.fieldLink RX15 195 "BeaverhallModel" "tagRows" "[Ljava/lang/String;") (by decide +kernel)) (fun _ h9 => h9) rfl dX15_untag_17 ?_
          refine va_alen hx hb hK hP 1 0 rfl rfl (v := 4) (by rfl) dX15_untag_20 ?_
          refine lv_icmp_ge (tgt := 50) hx hb dX15_untag_21 (by decide) (fun c21_27 => ?_) (fun c21_27 => ?_)
          · refine lv_aload_n hx hb dX15_untag_50 rfl (lv_at hl 2 rfl) ?_
            refine va_ldcS hx hb hown hZ.2.1.1 dX15_untag_51 ?_
            refine va_put (D := (dC, dI)) (ci := 20) (v := .ref (aK 0)) (ty := .object "java/lang/String") (C := RX15) (T := TX15) (N := 21) hx hb hts iWX15 tyX15 tyX15_ok nmX15 hown hK hP hD hS 0 rfl rfl 10 (by decide) (hts (.fieldLink RX15 199 "BeaverhallModel" "tagStart" "Ljava/lang/String;") (by decide +kernel)) (fun _ h9 => h9) rfl (by decide +kernel) rfl rfl (Nat.le_of_ble_eq_true rfl) dX15_untag_53 (fun H locs hP hD hS => ?_)
            have hP : va_P (dC, dI) vwCl [(xm, .inr (20, [.int 0, .int 0, .ref kn, .int 0, .int 0, .int 0, .ref ml, .ref cl, .ref rg, .ref tr, .ref (aK 0), .ref (aK 0), .ref fl, .int 0, .int 0, .int 0, .int 0, .int 0, .int 0, .int 0, .null])), (tr, .inl (cS, 4, .inr (.inr (.inr (.inr (fun _ => some (aK 0)))))))] H := hP
            have hD : va_D A [(xm, .inr (20, [.int 0, .int 0, .ref kn, .int 0, .int 0, .int 0, .ref ml, .ref cl, .ref rg, .ref tr, .ref (aK 0), .ref (aK 0), .ref fl, .int 0, .int 0, .int 0, .int 0, .int 0, .int 0, .int 0, .null])), (tr, .inl (cS, 4, .inr (.inr (.inr (.inr (fun _ => some (aK 0)))))))] := hD
            refine lv_iload_n hx hb dX15_untag_56 rfl (lv_at hl 1 rfl) ?_
            have hP9 := hP.sub (ws' := [(xm, .inr (20, [.int 0, .int 0, .ref kn, .int 0, .int 0, .int 0, .ref ml, .ref cl, .ref rg, .ref tr, .ref (aK 0), .ref (aK 0), .ref fl, .int 0, .int 0, .int 0, .int 0, .int 0, .int 0, .int 0, .null]))]) [0] rfl
            have hD9 := hD.sub (ws' := [(xm, .inr (20, [.int 0, .int 0, .ref kn, .int 0, .int 0, .int 0, .ref ml, .ref cl, .ref rg, .ref tr, .ref (aK 0), .ref (aK 0), .ref fl, .int 0, .int 0, .int 0, .int 0, .int 0, .int 0, .int 0, .null]))]) [0] (by decide) rfl
            have hK9 := hK.sub (tys' := [(cS, .object "java/lang/String")]) [0] rfl
            exact W.iret (v := 0) hx hb hr (fun t ht hW => ⟨⟨0, [.int 0, .int 0, .ref kn, .int 0, .int 0, .int 0, .ref ml, .ref cl, .ref rg, .ref tr, .ref (aK 0), .ref (aK 0), .ref fl, .int 0, .int 0, .int 0, .int 0, .int 0, .int 0, .int 0, .null], rfl, ⟨rfl, by decide⟩, ⟨by rw [ht]; exact hP9, va_K.moved hW.alike hK9, hD9⟩⟩, hS.F ht⟩) hS.2.2 dX15_untag_57
          · exact (c21_27 (by decide)).elim

set_option maxHeartbeats 4000000 in
set_option maxRecDepth 100000 in
/-- X15_tagRow -/
theorem c_X15_tagRow (l : Launch) (dC : Nat → ClassId) (dI : Nat → Nat → Nat) (xm ml cl fl kn rg tr : Nat) (e0 : Nat) (aK aV : Nat → Nat) (cB cS : ClassId) (p0 p1 : Int32) (sz : Nat) : Met l yX15_tagRow wsX15_tagRow ({ frames := 6, cells := 4, slots := 25, locals := 171 }) (va_Pc [.ref xm, .int p0, .int p1] (cPCz (zM e0 aK aV) dC dI [(xm, .inr (20, [.int 0, .int 0, .ref kn, .int 0, .int 0, .int 0, .ref ml, .ref cl, .ref rg, .ref tr, .ref (aK 0), .ref (aK 0), .ref fl, .int 0, .int 0, .int 0, .int 0, .int 0, .int 0, .int 0, .null])), (tr, .inl (cS, 4, .inr (.inr (.inr (.inr (fun _ => some (aK 0)))))))] [(cS, .object "java/lang/String"), (cB, .byte)] sz)) (va_Qi (fun (r : Int32) (u : List Value) => ((pLetter p0 ∧ pLetter p1) ∧ u[5]? = some (.int 0) ∧ r = 1) ∨ (¬ (pLetter p0 ∧ pLetter p1) ∧ u[5]? = some (.int 1))) (fun (u : List Value) t => cQB dC dI [(xm, .inr (20, u))] [(cS, .object "java/lang/String"), (cB, .byte)] (va_A [(xm, .inr (20, [.int 0, .int 0, .ref kn, .int 0, .int 0, .int 0, .ref ml, .ref cl, .ref rg, .ref tr, .ref (aK 0), .ref (aK 0), .ref fl, .int 0, .int 0, .int 0, .int 0, .int 0, .int 0, .int 0, .null])), (tr, .inl (cS, 4, .inr (.inr (.inr (.inr (fun _ => some (aK 0)))))))] sz) t) (va_A [(xm, .inr (20, [.int 0, .int 0, .ref kn, .int 0, .int 0, .int 0, .ref ml, .ref cl, .ref rg, .ref tr, .ref (aK 0), .ref (aK 0), .ref fl, .int 0, .int 0, .int 0, .int 0, .int 0, .int 0, .int 0, .null])), (tr, .inl (cS, 4, .inr (.inr (.inr (.inr (fun _ => some (aK 0)))))))] sz)) 4 25 (va_A [(xm, .inr (20, [.int 0, .int 0, .ref kn, .int 0, .int 0, .int 0, .ref ml, .ref cl, .ref rg, .ref tr, .ref (aK 0), .ref (aK 0), .ref fl, .int 0, .int 0, .int 0, .int 0, .int 0, .int 0, .int 0, .null])), (tr, .inl (cS, 4, .inr (.inr (.inr (.inr (fun _ => some (aK 0)))))))] sz) := by
  refine Met.ofW (cc := cX15_tagRow) (maxL := 4) (ret := (some .int)) (by decide) rfl ?_
  intro p e s m args below meth c s₁ B hml hv
  obtain ⟨rfl, ⟨hsz, hP, hK, hD0, hN⟩, hZ⟩ := hv
  have hx := B.exec
  have hb := B.bytes
  have hr := B.returns
  have hts := atoms_spec (ws := wsX15_tagRow) B.pre
  have hown : s.vm.findClass RX15 = some m.cls := findClass_of_methodNamed B.named
  have hlocks := B.notSynchronized
  subst hsz
  have hD := hD0.self (sz := s.heap.size)
  generalize hAe : va_A [(xm, .inr (20, [.int 0, .int 0, .ref kn, .int 0, .int 0, .int 0, .ref ml, .ref cl, .ref rg, .ref tr, .ref (aK 0), .ref (aK 0), .ref fl, .int 0, .int 0, .int 0, .int 0, .int 0, .int 0, .int 0, .null])), (tr, .inl (cS, 4, .inr (.inr (.inr (.inr (fun _ => some (aK 0)))))))] s.heap.size = A at hD hZ ⊢
  have hA : ∀ q : Nat, s.heap.size ≤ q → A q := fun q h => by rw [← hAe]; exact Or.inr h
  have hS : va_S A s.heap s.heap [] := va_S.rf
  have hP : va_P (dC, dI) vwCl [(xm, .inr (20, [.int 0, .int 0, .ref kn, .int 0, .int 0, .int 0, .ref ml, .ref cl, .ref rg, .ref tr, .ref (aK 0), .ref (aK 0), .ref fl, .int 0, .int 0, .int 0, .int 0, .int 0, .int 0, .int 0, .null])), (tr, .inl (cS, 4, .inr (.inr (.inr (.inr (fun _ => some (aK 0)))))))] s.heap := hP
  have hD : va_D A [(xm, .inr (20, [.int 0, .int 0, .ref kn, .int 0, .int 0, .int 0, .ref ml, .ref cl, .ref rg, .ref tr, .ref (aK 0), .ref (aK 0), .ref fl, .int 0, .int 0, .int 0, .int 0, .int 0, .int 0, .int 0, .null])), (tr, .inl (cS, 4, .inr (.inr (.inr (.inr (fun _ => some (aK 0)))))))] := hD
  have hl := lv_entry ([.ref xm, .int p0, .int p1]) (n := 4) (Nat.le_of_ble_eq_true rfl)
  rw [lg_entry_eq]
  generalize (lg_sl ([.ref xm, .int p0, .int p1]) ++ List.replicate (4 - (lg_sl ([.ref xm, .int p0, .int p1])).length) Slot.unset).toArray = ls at hl ⊢
  have hl : lv_has ls 4 [(0, .ref xm), (1, .int p0), (2, .int p1)] := hl
  have iWJ4 : ∀ w ∈ u_ws RJ4 TJ4 4, w ∈ wsX15_tagRow := by decide +kernel
  have iWX15 : ∀ w ∈ u_ws RX15 TX15 21, w ∈ wsX15_tagRow := by decide +kernel
  refine lv_iload_n hx hb dX15_tagRow_0 rfl (lv_at hl 1 rfl) ?_
  refine lv_i2l hx hb dX15_tagRow_1 rfl ?_
  refine lv_ldc2 (v := (97)) hx hb hown (hts (.constantLong RX15 364 (97)) (by decide +kernel)) dX15_tagRow_2 ?_
  refine lv_ldc2 (v := (100)) hx hb hown (hts (.constantLong RX15 326 (100)) (by decide +kernel)) dX15_tagRow_5 ?_
  have hPc := hP.sub (ws' := []) [] rfl
  have hDc := hD.sub (ws' := []) [] (by decide) rfl
  have hKc := hK.sub (tys' := []) [] rfl
  have hFc := va_free (wc := []) hD hS hA [] rfl
  refine va_calli (va_runS (As := [.long p0.toInt64, .long (97), .long (100)]) (rest := []) ⟨hx, hb, hml, hown, hts⟩ (c_X15_in l dC dI p0.toInt64 (97) (100) s.heap.size) (va_cwS 3 hts gX15_tagRow_X15_in rfl rfl rfl (by decide +kernel) ⟨Nat.le_of_ble_eq_true rfl, Nat.le_of_ble_eq_true rfl⟩) (pcS hPc hDc hKc hN) rfl rfl hl.1 rfl (lv_room (Nat.le_of_ble_eq_true rfl)) dX15_tagRow_8 ⟨Nat.le_of_ble_eq_true rfl, Nat.le_of_ble_eq_true rfl⟩) hS (fun q _ h => hFc q h) hFc (fun r_1 u t H1 locs ht hvm hw_2 hB hz1 hk1 hS => ?_)
  obtain ⟨hP1, hK1, hD1⟩ := hB
  rw [ht] at hP1
  try dsimp only at hw_2
  obtain ⟨hP, hD⟩ := va_join (wr := [(xm, .inr (20, [.int 0, .int 0, .ref kn, .int 0, .int 0, .int 0, .ref ml, .ref cl, .ref rg, .ref tr, .ref (aK 0), .ref (aK 0), .ref fl, .int 0, .int 0, .int 0, .int 0, .int 0, .int 0, .int 0, .null])), (tr, .inl (cS, 4, .inr (.inr (.inr (.inr (fun _ => some (aK 0)))))))]) (w1 := []) hP hD [] [0, 1] rfl rfl (by decide) (by decide) hk1 hFc hP1 hD1
  generalize H1 = H at hP hS ⊢
  have hP : va_P (dC, dI) vwCl [(xm, .inr (20, [.int 0, .int 0, .ref kn, .int 0, .int 0, .int 0, .ref ml, .ref cl, .ref rg, .ref tr, .ref (aK 0), .ref (aK 0), .ref fl, .int 0, .int 0, .int 0, .int 0, .int 0, .int 0, .int 0, .null])), (tr, .inl (cS, 4, .inr (.inr (.inr (.inr (fun _ => some (aK 0)))))))] H := hP
  have hD : va_D A [(xm, .inr (20, [.int 0, .int 0, .ref kn, .int 0, .int 0, .int 0, .ref ml, .ref cl, .ref rg, .ref tr, .ref (aK 0), .ref (aK 0), .ref fl, .int 0, .int 0, .int 0, .int 0, .int 0, .int 0, .int 0, .null])), (tr, .inl (cS, 4, .inr (.inr (.inr (.inr (fun _ => some (aK 0)))))))] := hD
  have hi_3 := in32 (97) (100) (by decide) (by decide) hw_2
  refine lv_if_eq (tgt := 32) hx hb dX15_tagRow_11 (by decide) (fun c11_4 => ?_) (fun c11_4 => ?_)
  · have hn_5 := (hi_3).elim (fun h => absurd (h.1.symm.trans c11_4) (by decide)) (fun h => h.2)
    refine lv_iconst (v := 0) hx hb dX15_tagRow_32 (by decide) ?_
    refine lv_istore_n (lv' := [(3, .int 0), (0, .ref xm), (1, .int p0), (2, .int p1)]) hx hb dX15_tagRow_33 rfl hl (by decide) rfl (fun ls hl => ?_)
    refine lv_aload_n hx hb dX15_tagRow_34 rfl (lv_at hl 1 rfl) ?_
    refine lv_iload_n hx hb dX15_tagRow_35 rfl (lv_at hl 0 rfl) ?_
    refine lv_if_ne (tgt := 43) hx hb dX15_tagRow_36 (by decide) (fun c36_6 => ?_) (fun c36_6 => ?_)
    · exact (c36_6 (by decide)).elim
    · refine lv_iconst (v := 1) hx hb dX15_tagRow_39 (by decide) ?_
      refine lv_goto (tgt := 65) hx hb dX15_tagRow_40 (by decide) ?_
      refine va_put (D := (dC, dI)) (ci := 20) (v := .int 1) (ty := .int) (C := RX15) (T := TX15) (N := 21) hx hb hts iWX15 tyX15 tyX15_ok nmX15 hown hK hP hD hS 0 rfl rfl 5 (by decide) (hts (.fieldLink RX15 209 "BeaverhallModel" "thrown" "I") (by decide +kernel)) (fun _ h9 => h9) rfl (by decide +kernel) rfl rfl (Nat.le_of_ble_eq_true rfl) dX15_tagRow_65 (fun H locs hP hD hS => ?_)
      have hP : va_P (dC, dI) vwCl [(xm, .inr (20, [.int 0, .int 0, .ref kn, .int 0, .int 0, .int 1, .ref ml, .ref cl, .ref rg, .ref tr, .ref (aK 0), .ref (aK 0), .ref fl, .int 0, .int 0, .int 0, .int 0, .int 0, .int 0, .int 0, .null])), (tr, .inl (cS, 4, .inr (.inr (.inr (.inr (fun _ => some (aK 0)))))))] H := hP
      have hD : va_D A [(xm, .inr (20, [.int 0, .int 0, .ref kn, .int 0, .int 0, .int 1, .ref ml, .ref cl, .ref rg, .ref tr, .ref (aK 0), .ref (aK 0), .ref fl, .int 0, .int 0, .int 0, .int 0, .int 0, .int 0, .int 0, .null])), (tr, .inl (cS, 4, .inr (.inr (.inr (.inr (fun _ => some (aK 0)))))))] := hD
      refine lv_aload_n hx hb dX15_tagRow_68 rfl (lv_at hl 1 rfl) ?_
      refine va_get (D := (dC, dI)) (ci := 20) (v := .int 1) (C := RX15) (T := TX15) (N := 21) hx hb hts iWX15 hown hK hP 0 rfl rfl 5 (by decide) (hts (.fieldLink RX15 209 "BeaverhallModel" "thrown" "I") (by decide +kernel)) (fun _ h9 => h9) rfl dX15_tagRow_69 ?_
      refine lv_if_le (tgt := 77) hx hb dX15_tagRow_72 (by decide) (fun c72_7 => ?_) (fun c72_7 => ?_)
      · exact absurd c72_7 (by decide)
      · refine lv_iconst (v := 0) hx hb dX15_tagRow_75 (by decide) ?_
        have hP9 := hP.sub (ws' := [(xm, .inr (20, [.int 0, .int 0, .ref kn, .int 0, .int 0, .int 1, .ref ml, .ref cl, .ref rg, .ref tr, .ref (aK 0), .ref (aK 0), .ref fl, .int 0, .int 0, .int 0, .int 0, .int 0, .int 0, .int 0, .null]))]) [0] rfl
        have hD9 := hD.sub (ws' := [(xm, .inr (20, [.int 0, .int 0, .ref kn, .int 0, .int 0, .int 1, .ref ml, .ref cl, .ref rg, .ref tr, .ref (aK 0), .ref (aK 0), .ref fl, .int 0, .int 0, .int 0, .int 0, .int 0, .int 0, .int 0, .null]))]) [0] (by decide) rfl
        have hK9 := hK.sub (tys' := [(cS, .object "java/lang/String"), (cB, .byte)]) [0, 1] rfl
        refine W.widen (k := 4) (n := 25) (Nat.le_of_ble_eq_true rfl) (Nat.le_of_ble_eq_true rfl) ?_
        exact W.iret (v := 0) hx hb hr (fun t ht hW => ⟨⟨0, [.int 0, .int 0, .ref kn, .int 0, .int 0, .int 1, .ref ml, .ref cl, .ref rg, .ref tr, .ref (aK 0), .ref (aK 0), .ref fl, .int 0, .int 0, .int 0, .int 0, .int 0, .int 0, .int 0, .null], rfl, (Or.inr ⟨(fun h9 => hn_5 h9.1), rfl⟩), ⟨by rw [ht]; exact hP9, va_K.moved hW.alike hK9, hD9⟩⟩, hS.F ht⟩) hS.2.2 dX15_tagRow_76
  · have hn_8 := (hi_3).elim (fun h => h.2) (fun h => absurd h.1 c11_4)
    refine lv_iload_n hx hb dX15_tagRow_14 rfl (lv_at hl 2 rfl) ?_
    refine lv_i2l hx hb dX15_tagRow_15 rfl ?_
    refine lv_ldc2 (v := (97)) hx hb hown (hts (.constantLong RX15 364 (97)) (by decide +kernel)) dX15_tagRow_16 ?_
    refine lv_ldc2 (v := (100)) hx hb hown (hts (.constantLong RX15 326 (100)) (by decide +kernel)) dX15_tagRow_19 ?_
    have hPc := hP.sub (ws' := []) [] rfl
    have hDc := hD.sub (ws' := []) [] (by decide) rfl
    have hKc := hK.sub (tys' := []) [] rfl
    have hFc := va_free (wc := []) hD hS hA [] rfl
    refine va_calli (va_runS (As := [.long p1.toInt64, .long (97), .long (100)]) (rest := []) ⟨hx, hb, hml, hown, hts⟩ (c_X15_in l dC dI p1.toInt64 (97) (100) H.size) (va_cwS 3 hts gX15_tagRow_X15_in rfl rfl rfl (by decide +kernel) ⟨Nat.le_of_ble_eq_true rfl, Nat.le_of_ble_eq_true rfl⟩) (pcS hPc hDc hKc hN) rfl rfl hl.1 rfl (lv_room (Nat.le_of_ble_eq_true rfl)) dX15_tagRow_22 ⟨Nat.le_of_ble_eq_true rfl, Nat.le_of_ble_eq_true rfl⟩) hS (fun q _ h => hFc q h) hFc (fun r_9 u t H1 locs ht hvm hw_10 hB hz1 hk1 hS => ?_)
    obtain ⟨hP1, hK1, hD1⟩ := hB
    rw [ht] at hP1
    try dsimp only at hw_10
    obtain ⟨hP, hD⟩ := va_join (wr := [(xm, .inr (20, [.int 0, .int 0, .ref kn, .int 0, .int 0, .int 0, .ref ml, .ref cl, .ref rg, .ref tr, .ref (aK 0), .ref (aK 0), .ref fl, .int 0, .int 0, .int 0, .int 0, .int 0, .int 0, .int 0, .null])), (tr, .inl (cS, 4, .inr (.inr (.inr (.inr (fun _ => some (aK 0)))))))]) (w1 := []) hP hD [] [0, 1] rfl rfl (by decide) (by decide) hk1 hFc hP1 hD1
    generalize H1 = H at hP hS ⊢
    have hP : va_P (dC, dI) vwCl [(xm, .inr (20, [.int 0, .int 0, .ref kn, .int 0, .int 0, .int 0, .ref ml, .ref cl, .ref rg, .ref tr, .ref (aK 0), .ref (aK 0), .ref fl, .int 0, .int 0, .int 0, .int 0, .int 0, .int 0, .int 0, .null])), (tr, .inl (cS, 4, .inr (.inr (.inr (.inr (fun _ => some (aK 0)))))))] H := hP
    have hD : va_D A [(xm, .inr (20, [.int 0, .int 0, .ref kn, .int 0, .int 0, .int 0, .ref ml, .ref cl, .ref rg, .ref tr, .ref (aK 0), .ref (aK 0), .ref fl, .int 0, .int 0, .int 0, .int 0, .int 0, .int 0, .int 0, .null])), (tr, .inl (cS, 4, .inr (.inr (.inr (.inr (fun _ => some (aK 0)))))))] := hD
    have hi_11 := in32 (97) (100) (by decide) (by decide) hw_10
    refine lv_if_eq (tgt := 32) hx hb dX15_tagRow_25 (by decide) (fun c25_12 => ?_) (fun c25_12 => ?_)
    · have hn_13 := (hi_11).elim (fun h => absurd (h.1.symm.trans c25_12) (by decide)) (fun h => h.2)
      refine lv_iconst (v := 0) hx hb dX15_tagRow_32 (by decide) ?_
      refine lv_istore_n (lv' := [(3, .int 0), (0, .ref xm), (1, .int p0), (2, .int p1)]) hx hb dX15_tagRow_33 rfl hl (by decide) rfl (fun ls hl => ?_)
      refine lv_aload_n hx hb dX15_tagRow_34 rfl (lv_at hl 1 rfl) ?_
      refine lv_iload_n hx hb dX15_tagRow_35 rfl (lv_at hl 0 rfl) ?_
      refine lv_if_ne (tgt := 43) hx hb dX15_tagRow_36 (by decide) (fun c36_14 => ?_) (fun c36_14 => ?_)
      · exact (c36_14 (by decide)).elim
      · refine lv_iconst (v := 1) hx hb dX15_tagRow_39 (by decide) ?_
        refine lv_goto (tgt := 65) hx hb dX15_tagRow_40 (by decide) ?_
        refine va_put (D := (dC, dI)) (ci := 20) (v := .int 1) (ty := .int) (C := RX15) (T := TX15) (N := 21) hx hb hts iWX15 tyX15 tyX15_ok nmX15 hown hK hP hD hS 0 rfl rfl 5 (by decide) (hts (.fieldLink RX15 209 "BeaverhallModel" "thrown" "I") (by decide +kernel)) (fun _ h9 => h9) rfl (by decide +kernel) rfl rfl (Nat.le_of_ble_eq_true rfl) dX15_tagRow_65 (fun H locs hP hD hS => ?_)
        have hP : va_P (dC, dI) vwCl [(xm, .inr (20, [.int 0, .int 0, .ref kn, .int 0, .int 0, .int 1, .ref ml, .ref cl, .ref rg, .ref tr, .ref (aK 0), .ref (aK 0), .ref fl, .int 0, .int 0, .int 0, .int 0, .int 0, .int 0, .int 0, .null])), (tr, .inl (cS, 4, .inr (.inr (.inr (.inr (fun _ => some (aK 0)))))))] H := hP
        have hD : va_D A [(xm, .inr (20, [.int 0, .int 0, .ref kn, .int 0, .int 0, .int 1, .ref ml, .ref cl, .ref rg, .ref tr, .ref (aK 0), .ref (aK 0), .ref fl, .int 0, .int 0, .int 0, .int 0, .int 0, .int 0, .int 0, .null])), (tr, .inl (cS, 4, .inr (.inr (.inr (.inr (fun _ => some (aK 0)))))))] := hD
        refine lv_aload_n hx hb dX15_tagRow_68 rfl (lv_at hl 1 rfl) ?_
        refine va_get (D := (dC, dI)) (ci := 20) (v := .int 1) (C := RX15) (T := TX15) (N := 21) hx hb hts iWX15 hown hK hP 0 rfl rfl 5 (by decide) (hts (.fieldLink RX15 209 "BeaverhallModel" "thrown" "I") (by decide +kernel)) (fun _ h9 => h9) rfl dX15_tagRow_69 ?_
        refine lv_if_le (tgt := 77) hx hb dX15_tagRow_72 (by decide) (fun c72_15 => ?_) (fun c72_15 => ?_)
        · exact absurd c72_15 (by decide)
        · refine lv_iconst (v := 0) hx hb dX15_tagRow_75 (by decide) ?_
          have hP9 := hP.sub (ws' := [(xm, .inr (20, [.int 0, .int 0, .ref kn, .int 0, .int 0, .int 1, .ref ml, .ref cl, .ref rg, .ref tr, .ref (aK 0), .ref (aK 0), .ref fl, .int 0, .int 0, .int 0, .int 0, .int 0, .int 0, .int 0, .null]))]) [0] rfl
          have hD9 := hD.sub (ws' := [(xm, .inr (20, [.int 0, .int 0, .ref kn, .int 0, .int 0, .int 1, .ref ml, .ref cl, .ref rg, .ref tr, .ref (aK 0), .ref (aK 0), .ref fl, .int 0, .int 0, .int 0, .int 0, .int 0, .int 0, .int 0, .null]))]) [0] (by decide) rfl
          have hK9 := hK.sub (tys' := [(cS, .object "java/lang/String"), (cB, .byte)]) [0, 1] rfl
          refine W.widen (k := 4) (n := 25) (Nat.le_of_ble_eq_true rfl) (Nat.le_of_ble_eq_true rfl) ?_
          exact W.iret (v := 0) hx hb hr (fun t ht hW => ⟨⟨0, [.int 0, .int 0, .ref kn, .int 0, .int 0, .int 1, .ref ml, .ref cl, .ref rg, .ref tr, .ref (aK 0), .ref (aK 0), .ref fl, .int 0, .int 0, .int 0, .int 0, .int 0, .int 0, .int 0, .null], rfl, (Or.inr ⟨(fun h9 => hn_13 h9.2), rfl⟩), ⟨by rw [ht]; exact hP9, va_K.moved hW.alike hK9, hD9⟩⟩, hS.F ht⟩) hS.2.2 dX15_tagRow_76
    · have hn_16 := (hi_11).elim (fun h => h.2) (fun h => absurd h.1 c25_12)
      refine lv_iconst (v := 1) hx hb dX15_tagRow_28 (by decide) ?_
      refine lv_goto (tgt := 33) hx hb dX15_tagRow_29 (by decide) ?_
      refine lv_istore_n (lv' := [(3, .int 1), (0, .ref xm), (1, .int p0), (2, .int p1)]) hx hb dX15_tagRow_33 rfl hl (by decide) rfl (fun ls hl => ?_)
      refine lv_aload_n hx hb dX15_tagRow_34 rfl (lv_at hl 1 rfl) ?_
      refine lv_iload_n hx hb dX15_tagRow_35 rfl (lv_at hl 0 rfl) ?_
      refine lv_if_ne (tgt := 43) hx hb dX15_tagRow_36 (by decide) (fun c36_17 => ?_) (fun c36_17 => ?_)
      · refine lv_aload_n hx hb dX15_tagRow_43 rfl (lv_at hl 1 rfl) ?_
        refine va_get (D := (dC, dI)) (ci := 20) (v := .ref tr) (C := RX15) (T := TX15) (N := 21) hx hb hts iWX15 hown hK hP 0 rfl rfl 9 (by decide) (hts (.fieldLink RX15 195 "BeaverhallModel" "tagRows" "[Ljava/lang/String;") (by decide +kernel)) (fun _ h9 => h9) rfl dX15_tagRow_44 ?_
        refine lv_iload_n hx hb dX15_tagRow_47 rfl (lv_at hl 2 rfl) ?_
        refine lv_bipush (v := 97) hx hb dX15_tagRow_48 (by decide) ?_
        refine lv_isub hx hb dX15_tagRow_50 ?_
        refine va_aldq hx hb hK hP 1 0 rfl rfl (idx97 hn_8) dX15_tagRow_51 ?_
        have hPc := hP.sub (ws' := []) [] rfl
        have hDc := hD.sub (ws' := []) [] (by decide) rfl
        have hKc := hK.sub (tys' := []) [] rfl
        have hFc := va_free (wc := []) hD hS hA [] rfl
        refine va_calli (va_runV (As := []) (rest := [.ref xm]) ⟨hx, hb, hml, hown, hts⟩ (c_J0_length_c l dC dI e0 aK aV H.size) (cwV 0 hts gX15_tagRow_J0_length_8abf5 rfl rfl rfl (by decide +kernel) ⟨Nat.le_of_ble_eq_true rfl, Nat.le_of_ble_eq_true rfl⟩) (pcVs hPc hDc hKc hN hZ hS hFc (i := 0) (by decide)) rfl rfl hl.1 rfl (lv_room (Nat.le_of_ble_eq_true rfl)) dX15_tagRow_52 ⟨Nat.le_of_ble_eq_true rfl, Nat.le_of_ble_eq_true rfl⟩) hS (fun q _ h => hFc q h) hFc (fun r_18 u t H1 locs ht hvm hw_19 hB hz1 hk1 hS => ?_)
        obtain ⟨hP1, hK1, hD1⟩ := hB
        rw [ht] at hP1
        try dsimp only at hw_19
        obtain ⟨hP, hD⟩ := va_join (wr := [(xm, .inr (20, [.int 0, .int 0, .ref kn, .int 0, .int 0, .int 0, .ref ml, .ref cl, .ref rg, .ref tr, .ref (aK 0), .ref (aK 0), .ref fl, .int 0, .int 0, .int 0, .int 0, .int 0, .int 0, .int 0, .null])), (tr, .inl (cS, 4, .inr (.inr (.inr (.inr (fun _ => some (aK 0)))))))]) (w1 := []) hP hD [] [0, 1] rfl rfl (by decide) (by decide) hk1 hFc hP1 hD1
        generalize H1 = H at hP hS ⊢
        have hP : va_P (dC, dI) vwCl [(xm, .inr (20, [.int 0, .int 0, .ref kn, .int 0, .int 0, .int 0, .ref ml, .ref cl, .ref rg, .ref tr, .ref (aK 0), .ref (aK 0), .ref fl, .int 0, .int 0, .int 0, .int 0, .int 0, .int 0, .int 0, .null])), (tr, .inl (cS, 4, .inr (.inr (.inr (.inr (fun _ => some (aK 0)))))))] H := hP
        have hD : va_D A [(xm, .inr (20, [.int 0, .int 0, .ref kn, .int 0, .int 0, .int 0, .ref ml, .ref cl, .ref rg, .ref tr, .ref (aK 0), .ref (aK 0), .ref fl, .int 0, .int 0, .int 0, .int 0, .int 0, .int 0, .int 0, .null])), (tr, .inl (cS, 4, .inr (.inr (.inr (.inr (fun _ => some (aK 0)))))))] := hD
        subst hw_19
        refine lv_bipush (v := 6) hx hb dX15_tagRow_55 (by decide) ?_
        refine lv_icmp_ne (tgt := 64) hx hb dX15_tagRow_57 (by decide) (fun c57_20 => ?_) (fun c57_20 => ?_)
        · refine lv_iconst (v := 0) hx hb dX15_tagRow_64 (by decide) ?_
          refine va_put (D := (dC, dI)) (ci := 20) (v := .int 0) (ty := .int) (C := RX15) (T := TX15) (N := 21) hx hb hts iWX15 tyX15 tyX15_ok nmX15 hown hK hP hD hS 0 rfl rfl 5 (by decide) (hts (.fieldLink RX15 209 "BeaverhallModel" "thrown" "I") (by decide +kernel)) (fun _ h9 => h9) rfl (by decide +kernel) rfl rfl (Nat.le_of_ble_eq_true rfl) dX15_tagRow_65 (fun H locs hP hD hS => ?_)
          have hP : va_P (dC, dI) vwCl [(xm, .inr (20, [.int 0, .int 0, .ref kn, .int 0, .int 0, .int 0, .ref ml, .ref cl, .ref rg, .ref tr, .ref (aK 0), .ref (aK 0), .ref fl, .int 0, .int 0, .int 0, .int 0, .int 0, .int 0, .int 0, .null])), (tr, .inl (cS, 4, .inr (.inr (.inr (.inr (fun _ => some (aK 0)))))))] H := hP
          have hD : va_D A [(xm, .inr (20, [.int 0, .int 0, .ref kn, .int 0, .int 0, .int 0, .ref ml, .ref cl, .ref rg, .ref tr, .ref (aK 0), .ref (aK 0), .ref fl, .int 0, .int 0, .int 0, .int 0, .int 0, .int 0, .int 0, .null])), (tr, .inl (cS, 4, .inr (.inr (.inr (.inr (fun _ => some (aK 0)))))))] := hD
          refine lv_aload_n hx hb dX15_tagRow_68 rfl (lv_at hl 1 rfl) ?_
          refine va_get (D := (dC, dI)) (ci := 20) (v := .int 0) (C := RX15) (T := TX15) (N := 21) hx hb hts iWX15 hown hK hP 0 rfl rfl 5 (by decide) (hts (.fieldLink RX15 209 "BeaverhallModel" "thrown" "I") (by decide +kernel)) (fun _ h9 => h9) rfl dX15_tagRow_69 ?_
          refine lv_if_le (tgt := 77) hx hb dX15_tagRow_72 (by decide) (fun c72_21 => ?_) (fun c72_21 => ?_)
          · have hx9 := le255 hn_16
            refine va_new (ci := 1) (fs := [.null, .int 0, .int 0, .int 0]) (C := RJ4) (T := TJ4) (N := 4) hx hb hts iWJ4 tyJ4 tyJ4_ok hown (hts (.classLink RX15 369 RJ4) (by decide +kernel)) (hts (.instantiable RJ4 4) (by decide +kernel)) (hts (.initialized RJ4) (by decide +kernel)) hK hP hD hS hA rfl (fun j hj => by rcases (show j = 0 ∨ j = 1 ∨ j = 2 ∨ j = 3 by omega) with rfl | rfl | rfl | rfl <;> rfl) (Nat.le_of_ble_eq_true rfl) (Nat.le_of_ble_eq_true rfl) dX15_tagRow_77 (fun q_22 H hP hD hS => ?_)
            have hP : va_P (dC, dI) vwCl [(xm, .inr (20, [.int 0, .int 0, .ref kn, .int 0, .int 0, .int 0, .ref ml, .ref cl, .ref rg, .ref tr, .ref (aK 0), .ref (aK 0), .ref fl, .int 0, .int 0, .int 0, .int 0, .int 0, .int 0, .int 0, .null])), (tr, .inl (cS, 4, .inr (.inr (.inr (.inr (fun _ => some (aK 0))))))), (q_22, .inr (1, [.null, .int 0, .int 0, .int 0]))] H := hP
            have hD : va_D A [(xm, .inr (20, [.int 0, .int 0, .ref kn, .int 0, .int 0, .int 0, .ref ml, .ref cl, .ref rg, .ref tr, .ref (aK 0), .ref (aK 0), .ref fl, .int 0, .int 0, .int 0, .int 0, .int 0, .int 0, .int 0, .null])), (tr, .inl (cS, 4, .inr (.inr (.inr (.inr (fun _ => some (aK 0))))))), (q_22, .inr (1, [.null, .int 0, .int 0, .int 0]))] := hD
            refine W.widen (k := 1) (n := 4) (Nat.le_of_ble_eq_true rfl) (Nat.le_of_ble_eq_true rfl) ?_
            refine lv_dup hx hb dX15_tagRow_80 rfl ?_
            have hPc := hP.sub (ws' := [(q_22, .inr (1, [.null, .int 0, .int 0, .int 0]))]) [2] rfl
            have hDc := hD.sub (ws' := [(q_22, .inr (1, [.null, .int 0, .int 0, .int 0]))]) [2] (by decide) rfl
            have hKc := hK.sub (tys' := [(cB, .byte)]) [1] rfl
            have hFc := va_free (wc := [(q_22, .inr (1, [.null, .int 0, .int 0, .int 0]))]) hD hS hA [2] rfl
            refine va_callv (va_runI (As := []) (rest := [.ref q_22]) ⟨hx, hb, hml, hown, hts⟩ (c_J4_init_da8c8 l dC dI e0 aK aV cB q_22 H.size) (cwI 0 hts gX15_tagRow_J4_init_da8c8 rfl rfl rfl (hts (.initialized RJ4) (by decide +kernel)) (hts (.methodLink RX15 371 yJ4_init_da8c8) (by decide +kernel)) (hts (.instanceMethod yJ4_init_da8c8) (by decide +kernel)) rfl (by decide +kernel) ⟨Nat.le_of_ble_eq_true rfl, Nat.le_of_ble_eq_true rfl⟩) (pcSz (zM_ok e0 aK aV) hPc hDc hKc hN hZ hS hFc) rfl rfl hl.1 rfl (lv_room (Nat.le_of_ble_eq_true rfl)) dX15_tagRow_81 ⟨Nat.le_of_ble_eq_true rfl, Nat.le_of_ble_eq_true rfl⟩) hS (fun q _ h => hFc q h) hFc (fun u t H1 locs ht hvm hw_24 hB hz1 hk1 hS => ?_)
            obtain ⟨hP1, hK1, hD1⟩ := hB
            rw [ht] at hP1
            try dsimp only at hw_24
            obtain ⟨hP, hD⟩ := va_join (wr := [(xm, .inr (20, [.int 0, .int 0, .ref kn, .int 0, .int 0, .int 0, .ref ml, .ref cl, .ref rg, .ref tr, .ref (aK 0), .ref (aK 0), .ref fl, .int 0, .int 0, .int 0, .int 0, .int 0, .int 0, .int 0, .null])), (tr, .inl (cS, 4, .inr (.inr (.inr (.inr (fun _ => some (aK 0)))))))]) (w1 := [(q_22, .inr (1, [.ref u, .int 0, .int 0, .int 0])), (u, .inl (cB, 16, .inl (fun _ => 0)))]) hP hD [2] [0, 1] rfl rfl (by decide) (by decide) hk1 hFc hP1 hD1
            generalize H1 = H at hP hS ⊢
            have hP : va_P (dC, dI) vwCl [(xm, .inr (20, [.int 0, .int 0, .ref kn, .int 0, .int 0, .int 0, .ref ml, .ref cl, .ref rg, .ref tr, .ref (aK 0), .ref (aK 0), .ref fl, .int 0, .int 0, .int 0, .int 0, .int 0, .int 0, .int 0, .null])), (tr, .inl (cS, 4, .inr (.inr (.inr (.inr (fun _ => some (aK 0))))))), (q_22, .inr (1, [.ref u, .int 0, .int 0, .int 0])), (u, .inl (cB, 16, .inl (fun _ => 0)))] H := hP
            have hD : va_D A [(xm, .inr (20, [.int 0, .int 0, .ref kn, .int 0, .int 0, .int 0, .ref ml, .ref cl, .ref rg, .ref tr, .ref (aK 0), .ref (aK 0), .ref fl, .int 0, .int 0, .int 0, .int 0, .int 0, .int 0, .int 0, .null])), (tr, .inl (cS, 4, .inr (.inr (.inr (.inr (fun _ => some (aK 0))))))), (q_22, .inr (1, [.ref u, .int 0, .int 0, .int 0])), (u, .inl (cB, 16, .inl (fun _ => 0)))] := hD
            refine W.widen (k := 2) (n := 20) (Nat.le_of_ble_eq_true rfl) (Nat.le_of_ble_eq_true rfl) ?_
            obtain ⟨q_23, eq_23⟩ : ∃ z, z = u := ⟨_, rfl⟩
            subst eq_23
            refine lv_aload_n hx hb dX15_tagRow_84 rfl (lv_at hl 1 rfl) ?_
            refine va_get (D := (dC, dI)) (ci := 20) (v := .ref tr) (C := RX15) (T := TX15) (N := 21) hx hb hts iWX15 hown hK hP 0 rfl rfl 9 (by decide) (hts (.fieldLink RX15 195 "BeaverhallModel" "tagRows" "[Ljava/lang/String;") (by decide +kernel)) (fun _ h9 => h9) rfl dX15_tagRow_85 ?_
            refine lv_iload_n hx hb dX15_tagRow_88 rfl (lv_at hl 2 rfl) ?_
            refine lv_bipush (v := 97) hx hb dX15_tagRow_89 (by decide) ?_
            refine lv_isub hx hb dX15_tagRow_91 ?_
            refine lv_dup2_x1_11 hx hb dX15_tagRow_92 rfl rfl rfl ?_
            refine va_aldq hx hb hK hP 1 0 rfl rfl (idx97 hn_8) dX15_tagRow_93 ?_
            have hPc := hP.sub (ws' := [(q_22, .inr (1, [.ref q_23, .int 0, .int 0, .int 0])), (q_23, .inl (cB, 16, .inl (fun _ => 0)))]) [2, 3] rfl
            have hDc := hD.sub (ws' := [(q_22, .inr (1, [.ref q_23, .int 0, .int 0, .int 0])), (q_23, .inl (cB, 16, .inl (fun _ => 0)))]) [2, 3] (by decide) rfl
            have hKc := hK.sub (tys' := [(cB, .byte)]) [1] rfl
            have hFc := va_free (wc := [(q_22, .inr (1, [.ref q_23, .int 0, .int 0, .int 0])), (q_23, .inl (cB, 16, .inl (fun _ => 0)))]) hD hS hA [2, 3] rfl
            refine va_callr (va_runV (As := [.ref (aK 0)]) (rest := [.int (p0 - 97), .ref tr]) ⟨hx, hb, hml, hown, hts⟩ (c_J4_appendS_c l dC dI e0 aK aV cB q_22 q_23 0 (fun _ => 0) H.size) (cwV 1 hts gX15_tagRow_J4_append_15ec4 rfl rfl rfl (by decide +kernel) ⟨Nat.le_of_ble_eq_true rfl, Nat.le_of_ble_eq_true rfl⟩) (pcVz (zM_ok e0 aK aV) hPc hDc hKc hN hZ hS hFc (ci := 1) (q0 := 0) rfl rfl) rfl rfl hl.1 rfl (lv_room (Nat.le_of_ble_eq_true rfl)) dX15_tagRow_94 ⟨Nat.le_of_ble_eq_true rfl, Nat.le_of_ble_eq_true rfl⟩) hS (fun q _ h => hFc q h) hFc (fun u r_26 t H1 locs ht hvm hw_27 hB hz1 hk1 hS => ?_)
            obtain ⟨ha9, hP1, hK1, hD1⟩ := hB
            rw [ht] at hP1
            try dsimp only at hw_27
            obtain ⟨hP, hD⟩ := va_join (wr := [(xm, .inr (20, [.int 0, .int 0, .ref kn, .int 0, .int 0, .int 0, .ref ml, .ref cl, .ref rg, .ref tr, .ref (aK 0), .ref (aK 0), .ref fl, .int 0, .int 0, .int 0, .int 0, .int 0, .int 0, .int 0, .null])), (tr, .inl (cS, 4, .inr (.inr (.inr (.inr (fun _ => some (aK 0)))))))]) (w1 := [(q_22, .inr (1, [.ref q_23, .int 0, .int 0, .int 0])), (q_23, .inl (cB, 16, .inl u))]) hP hD [2, 3] [0, 1] rfl rfl (by decide) (by decide) hk1 hFc hP1 hD1
            generalize H1 = H at hP hS ⊢
            have hP : va_P (dC, dI) vwCl [(xm, .inr (20, [.int 0, .int 0, .ref kn, .int 0, .int 0, .int 0, .ref ml, .ref cl, .ref rg, .ref tr, .ref (aK 0), .ref (aK 0), .ref fl, .int 0, .int 0, .int 0, .int 0, .int 0, .int 0, .int 0, .null])), (tr, .inl (cS, 4, .inr (.inr (.inr (.inr (fun _ => some (aK 0))))))), (q_22, .inr (1, [.ref q_23, .int 0, .int 0, .int 0])), (q_23, .inl (cB, 16, .inl u))] H := hP
            have hD : va_D A [(xm, .inr (20, [.int 0, .int 0, .ref kn, .int 0, .int 0, .int 0, .ref ml, .ref cl, .ref rg, .ref tr, .ref (aK 0), .ref (aK 0), .ref fl, .int 0, .int 0, .int 0, .int 0, .int 0, .int 0, .int 0, .null])), (tr, .inl (cS, 4, .inr (.inr (.inr (.inr (fun _ => some (aK 0))))))), (q_22, .inr (1, [.ref q_23, .int 0, .int 0, .int 0])), (q_23, .inl (cB, 16, .inl u))] := hD
            rw [ha9]
            obtain ⟨f_25, ef_25⟩ : ∃ z, z = u := ⟨_, rfl⟩
            subst ef_25
            refine lv_iload_n hx hb dX15_tagRow_97 rfl (lv_at hl 3 rfl) ?_
            have hPc := hP.sub (ws' := [(q_22, .inr (1, [.ref q_23, .int 0, .int 0, .int 0])), (q_23, .inl (cB, 16, .inl f_25))]) [2, 3] rfl
            have hDc := hD.sub (ws' := [(q_22, .inr (1, [.ref q_23, .int 0, .int 0, .int 0])), (q_23, .inl (cB, 16, .inl f_25))]) [2, 3] (by decide) rfl
            have hKc := hK.sub (tys' := [(cB, .byte)]) [1] rfl
            have hFc := va_free (wc := [(q_22, .inr (1, [.ref q_23, .int 0, .int 0, .int 0])), (q_23, .inl (cB, 16, .inl f_25))]) hD hS hA [2, 3] rfl
            refine va_callr (va_runV (As := [.int p1]) (rest := [.int (p0 - 97), .ref tr]) ⟨hx, hb, hml, hown, hts⟩ (c_J4_append_cf468 l dC dI e0 aK aV cB q_22 q_23 0 f_25 p1 hx9 H.size) (cwV 1 hts gX15_tagRow_J4_append_cf468 rfl rfl rfl (by decide +kernel) ⟨Nat.le_of_ble_eq_true rfl, Nat.le_of_ble_eq_true rfl⟩) (pcVz (zM_ok e0 aK aV) hPc hDc hKc hN hZ hS hFc (ci := 1) (q0 := 0) rfl rfl) rfl rfl hl.1 rfl (lv_room (Nat.le_of_ble_eq_true rfl)) dX15_tagRow_98 ⟨Nat.le_of_ble_eq_true rfl, Nat.le_of_ble_eq_true rfl⟩) hS (fun q _ h => hFc q h) hFc (fun u r_29 t H1 locs ht hvm hw_30 hB hz1 hk1 hS => ?_)
            obtain ⟨ha9, hP1, hK1, hD1⟩ := hB
            rw [ht] at hP1
            try dsimp only at hw_30
            obtain ⟨hP, hD⟩ := va_join (wr := [(xm, .inr (20, [.int 0, .int 0, .ref kn, .int 0, .int 0, .int 0, .ref ml, .ref cl, .ref rg, .ref tr, .ref (aK 0), .ref (aK 0), .ref fl, .int 0, .int 0, .int 0, .int 0, .int 0, .int 0, .int 0, .null])), (tr, .inl (cS, 4, .inr (.inr (.inr (.inr (fun _ => some (aK 0)))))))]) (w1 := [(q_22, .inr (1, [.ref q_23, .int 0, .int 0, .int 1])), (q_23, .inl (cB, 16, .inl u))]) hP hD [2, 3] [0, 1] rfl rfl (by decide) (by decide) hk1 hFc hP1 hD1
            generalize H1 = H at hP hS ⊢
            have hP : va_P (dC, dI) vwCl [(xm, .inr (20, [.int 0, .int 0, .ref kn, .int 0, .int 0, .int 0, .ref ml, .ref cl, .ref rg, .ref tr, .ref (aK 0), .ref (aK 0), .ref fl, .int 0, .int 0, .int 0, .int 0, .int 0, .int 0, .int 0, .null])), (tr, .inl (cS, 4, .inr (.inr (.inr (.inr (fun _ => some (aK 0))))))), (q_22, .inr (1, [.ref q_23, .int 0, .int 0, .int 1])), (q_23, .inl (cB, 16, .inl u))] H := hP
            have hD : va_D A [(xm, .inr (20, [.int 0, .int 0, .ref kn, .int 0, .int 0, .int 0, .ref ml, .ref cl, .ref rg, .ref tr, .ref (aK 0), .ref (aK 0), .ref fl, .int 0, .int 0, .int 0, .int 0, .int 0, .int 0, .int 0, .null])), (tr, .inl (cS, 4, .inr (.inr (.inr (.inr (fun _ => some (aK 0))))))), (q_22, .inr (1, [.ref q_23, .int 0, .int 0, .int 1])), (q_23, .inl (cB, 16, .inl u))] := hD
            rw [ha9]
            obtain ⟨f_28, ef_28⟩ : ∃ z, z = u := ⟨_, rfl⟩
            subst ef_28
            have hfb := hw_30
            have hPc := hP.sub (ws' := [(q_22, .inr (1, [.ref q_23, .int 0, .int 0, .int 1])), (q_23, .inl (cB, 16, .inl f_28))]) [2, 3] rfl
            have hDc := hD.sub (ws' := [(q_22, .inr (1, [.ref q_23, .int 0, .int 0, .int 1])), (q_23, .inl (cB, 16, .inl f_28))]) [2, 3] (by decide) rfl
            have hKc := hK.sub (tys' := [(cB, .byte)]) [1] rfl
            have hFc := va_free (wc := [(q_22, .inr (1, [.ref q_23, .int 0, .int 0, .int 1])), (q_23, .inl (cB, 16, .inl f_28))]) hD hS hA [2, 3] rfl
            refine va_callr (va_runV (As := []) (rest := [.int (p0 - 97), .ref tr]) ⟨hx, hb, hml, hown, hts⟩ (c_J4_toString_1 l dC dI e0 aK aV cB q_22 q_23 0 f_28 hfb H.size) (cwV 0 hts gX15_tagRow_J4_toString_0e30d rfl rfl rfl (by decide +kernel) ⟨Nat.le_of_ble_eq_true rfl, Nat.le_of_ble_eq_true rfl⟩) (pcVz (zM_ok e0 aK aV) hPc hDc hKc hN hZ hS hFc (ci := 1) (q0 := 0) rfl rfl) rfl rfl hl.1 rfl (lv_room (Nat.le_of_ble_eq_true rfl)) dX15_tagRow_101 ⟨Nat.le_of_ble_eq_true rfl, Nat.le_of_ble_eq_true rfl⟩) hS (fun q _ h => hFc q h) hFc (fun u r_33 t H1 locs ht hvm hw_34 hB hz1 hk1 hS => ?_)
            obtain ⟨q_31, f_32⟩ := u
            obtain ⟨hP1, hK1, hD1⟩ := hB
            rw [ht] at hP1
            try dsimp only at hw_34
            obtain ⟨hP, hD⟩ := va_join (wr := [(xm, .inr (20, [.int 0, .int 0, .ref kn, .int 0, .int 0, .int 0, .ref ml, .ref cl, .ref rg, .ref tr, .ref (aK 0), .ref (aK 0), .ref fl, .int 0, .int 0, .int 0, .int 0, .int 0, .int 0, .int 0, .null])), (tr, .inl (cS, 4, .inr (.inr (.inr (.inr (fun _ => some (aK 0)))))))]) (w1 := [(q_22, .inr (1, [.ref q_23, .int 0, .int 0, .int 1])), (q_23, .inl (cB, 16, .inl f_28)), (r_33, .inr (0, [.ref q_31, .int 0, .int 0, .int 0])), (q_31, .inl (cB, 1, .inl f_32))]) hP hD [2, 3] [0, 1] rfl rfl (by decide) (by decide) hk1 hFc hP1 hD1
            generalize H1 = H at hP hS ⊢
            have hP : va_P (dC, dI) vwCl [(xm, .inr (20, [.int 0, .int 0, .ref kn, .int 0, .int 0, .int 0, .ref ml, .ref cl, .ref rg, .ref tr, .ref (aK 0), .ref (aK 0), .ref fl, .int 0, .int 0, .int 0, .int 0, .int 0, .int 0, .int 0, .null])), (tr, .inl (cS, 4, .inr (.inr (.inr (.inr (fun _ => some (aK 0))))))), (q_22, .inr (1, [.ref q_23, .int 0, .int 0, .int 1])), (q_23, .inl (cB, 16, .inl f_28)), (r_33, .inr (0, [.ref q_31, .int 0, .int 0, .int 0])), (q_31, .inl (cB, 1, .inl f_32))] H := hP
            have hD : va_D A [(xm, .inr (20, [.int 0, .int 0, .ref kn, .int 0, .int 0, .int 0, .ref ml, .ref cl, .ref rg, .ref tr, .ref (aK 0), .ref (aK 0), .ref fl, .int 0, .int 0, .int 0, .int 0, .int 0, .int 0, .int 0, .null])), (tr, .inl (cS, 4, .inr (.inr (.inr (.inr (fun _ => some (aK 0))))))), (q_22, .inr (1, [.ref q_23, .int 0, .int 0, .int 1])), (q_23, .inl (cB, 16, .inl f_28)), (r_33, .inr (0, [.ref q_31, .int 0, .int 0, .int 0])), (q_31, .inl (cB, 1, .inl f_32))] := hD
            refine W.widen (k := 4) (n := 25) (Nat.le_of_ble_eq_true rfl) (Nat.le_of_ble_eq_true rfl) ?_
            refine vb_astq (C := "java/lang/String") hx hb hK hP hD hS 1 0 rfl rfl (ooE_obj hK hP (q0 := 4) (ci := 0) rfl rfl) vb_asgS (idx97 hn_8) dX15_tagRow_104 (fun H locs hP hD hS => ?_)
            have hP : va_P (dC, dI) vwCl [(xm, .inr (20, [.int 0, .int 0, .ref kn, .int 0, .int 0, .int 0, .ref ml, .ref cl, .ref rg, .ref tr, .ref (aK 0), .ref (aK 0), .ref fl, .int 0, .int 0, .int 0, .int 0, .int 0, .int 0, .int 0, .null])), (tr, .inl (cS, 4, .inr (.inr (.inr (.inr (va_up (fun _ => some (aK 0)) ((p0 - 97)).toNatClampNeg (some r_33))))))), (q_22, .inr (1, [.ref q_23, .int 0, .int 0, .int 1])), (q_23, .inl (cB, 16, .inl f_28)), (r_33, .inr (0, [.ref q_31, .int 0, .int 0, .int 0])), (q_31, .inl (cB, 1, .inl f_32))] H := hP
            have hD : va_D A [(xm, .inr (20, [.int 0, .int 0, .ref kn, .int 0, .int 0, .int 0, .ref ml, .ref cl, .ref rg, .ref tr, .ref (aK 0), .ref (aK 0), .ref fl, .int 0, .int 0, .int 0, .int 0, .int 0, .int 0, .int 0, .null])), (tr, .inl (cS, 4, .inr (.inr (.inr (.inr (va_up (fun _ => some (aK 0)) ((p0 - 97)).toNatClampNeg (some r_33))))))), (q_22, .inr (1, [.ref q_23, .int 0, .int 0, .int 1])), (q_23, .inl (cB, 16, .inl f_28)), (r_33, .inr (0, [.ref q_31, .int 0, .int 0, .int 0])), (q_31, .inl (cB, 1, .inl f_32))] := hD
            refine lv_aload_n hx hb dX15_tagRow_105 rfl (lv_at hl 1 rfl) ?_
            refine va_get (D := (dC, dI)) (ci := 20) (v := .ref tr) (C := RX15) (T := TX15) (N := 21) hx hb hts iWX15 hown hK hP 0 rfl rfl 9 (by decide) (hts (.fieldLink RX15 195 "BeaverhallModel" "tagRows" "[Ljava/lang/String;") (by decide +kernel)) (fun _ h9 => h9) rfl dX15_tagRow_106 ?_
            refine lv_iload_n hx hb dX15_tagRow_109 rfl (lv_at hl 2 rfl) ?_
            refine lv_bipush (v := 97) hx hb dX15_tagRow_110 (by decide) ?_
            refine lv_isub hx hb dX15_tagRow_112 ?_
            refine va_aldq hx hb hK hP 1 0 rfl rfl (idx97 hn_8) dX15_tagRow_113 ?_
            rw [up_at]
            have hPc := hP.sub (ws' := [(r_33, .inr (0, [.ref q_31, .int 0, .int 0, .int 0])), (q_31, .inl (cB, 1, .inl f_32))]) [4, 5] rfl
            have hDc := hD.sub (ws' := [(r_33, .inr (0, [.ref q_31, .int 0, .int 0, .int 0])), (q_31, .inl (cB, 1, .inl f_32))]) [4, 5] (by decide) rfl
            have hKc := hK.sub (tys' := [(cB, .byte)]) [1] rfl
            have hFc := va_free (wc := [(r_33, .inr (0, [.ref q_31, .int 0, .int 0, .int 0])), (q_31, .inl (cB, 1, .inl f_32))]) hD hS hA [4, 5] rfl
            refine va_calli (va_runV (As := []) (rest := []) ⟨hx, hb, hml, hown, hts⟩ (c_J0_length_w l dC dI e0 aK aV cB r_33 q_31 0 0 f_32 H.size) (cwV 0 hts gX15_tagRow_J0_length_8abf5 rfl rfl rfl (by decide +kernel) ⟨Nat.le_of_ble_eq_true rfl, Nat.le_of_ble_eq_true rfl⟩) (pcVz (zM_ok e0 aK aV) hPc hDc hKc hN hZ hS hFc (ci := 0) (q0 := 0) rfl rfl) rfl rfl hl.1 rfl (lv_room (Nat.le_of_ble_eq_true rfl)) dX15_tagRow_114 ⟨Nat.le_of_ble_eq_true rfl, Nat.le_of_ble_eq_true rfl⟩) hS (fun q _ h => hFc q h) hFc (fun r_36 u t H1 locs ht hvm hw_37 hB hz1 hk1 hS => ?_)
            obtain ⟨hP1, hK1, hD1⟩ := hB
            rw [ht] at hP1
            try dsimp only at hw_37
            obtain ⟨hP, hD⟩ := va_join (wr := [(xm, .inr (20, [.int 0, .int 0, .ref kn, .int 0, .int 0, .int 0, .ref ml, .ref cl, .ref rg, .ref tr, .ref (aK 0), .ref (aK 0), .ref fl, .int 0, .int 0, .int 0, .int 0, .int 0, .int 0, .int 0, .null])), (tr, .inl (cS, 4, .inr (.inr (.inr (.inr (va_up (fun _ => some (aK 0)) ((p0 - 97)).toNatClampNeg (some r_33))))))), (q_22, .inr (1, [.ref q_23, .int 0, .int 0, .int 1])), (q_23, .inl (cB, 16, .inl f_28))]) (w1 := [(r_33, .inr (0, [.ref q_31, .int 0, .int 0, .int 0])), (q_31, .inl (cB, 1, .inl f_32))]) hP hD [4, 5] [0, 1, 2, 3] rfl rfl (by decide) (by decide) hk1 hFc hP1 hD1
            generalize H1 = H at hP hS ⊢
            have hP : va_P (dC, dI) vwCl [(xm, .inr (20, [.int 0, .int 0, .ref kn, .int 0, .int 0, .int 0, .ref ml, .ref cl, .ref rg, .ref tr, .ref (aK 0), .ref (aK 0), .ref fl, .int 0, .int 0, .int 0, .int 0, .int 0, .int 0, .int 0, .null])), (tr, .inl (cS, 4, .inr (.inr (.inr (.inr (va_up (fun _ => some (aK 0)) ((p0 - 97)).toNatClampNeg (some r_33))))))), (q_22, .inr (1, [.ref q_23, .int 0, .int 0, .int 1])), (q_23, .inl (cB, 16, .inl f_28)), (r_33, .inr (0, [.ref q_31, .int 0, .int 0, .int 0])), (q_31, .inl (cB, 1, .inl f_32))] H := hP
            have hD : va_D A [(xm, .inr (20, [.int 0, .int 0, .ref kn, .int 0, .int 0, .int 0, .ref ml, .ref cl, .ref rg, .ref tr, .ref (aK 0), .ref (aK 0), .ref fl, .int 0, .int 0, .int 0, .int 0, .int 0, .int 0, .int 0, .null])), (tr, .inl (cS, 4, .inr (.inr (.inr (.inr (va_up (fun _ => some (aK 0)) ((p0 - 97)).toNatClampNeg (some r_33))))))), (q_22, .inr (1, [.ref q_23, .int 0, .int 0, .int 1])), (q_23, .inl (cB, 16, .inl f_28)), (r_33, .inr (0, [.ref q_31, .int 0, .int 0, .int 0])), (q_31, .inl (cB, 1, .inl f_32))] := hD
            subst hw_37
            have hP9 := hP.sub (ws' := [(xm, .inr (20, [.int 0, .int 0, .ref kn, .int 0, .int 0, .int 0, .ref ml, .ref cl, .ref rg, .ref tr, .ref (aK 0), .ref (aK 0), .ref fl, .int 0, .int 0, .int 0, .int 0, .int 0, .int 0, .int 0, .null]))]) [0] rfl
            have hD9 := hD.sub (ws' := [(xm, .inr (20, [.int 0, .int 0, .ref kn, .int 0, .int 0, .int 0, .ref ml, .ref cl, .ref rg, .ref tr, .ref (aK 0), .ref (aK 0), .ref fl, .int 0, .int 0, .int 0, .int 0, .int 0, .int 0, .int 0, .null]))]) [0] (by decide) rfl
            have hK9 := hK.sub (tys' := [(cS, .object "java/lang/String"), (cB, .byte)]) [0, 1] rfl
            exact W.iret (v := 1) hx hb hr (fun t ht hW => ⟨⟨1, [.int 0, .int 0, .ref kn, .int 0, .int 0, .int 0, .ref ml, .ref cl, .ref rg, .ref tr, .ref (aK 0), .ref (aK 0), .ref fl, .int 0, .int 0, .int 0, .int 0, .int 0, .int 0, .int 0, .null], rfl, (Or.inl ⟨⟨hn_8, hn_16⟩, rfl, rfl⟩), ⟨by rw [ht]; exact hP9, va_K.moved hW.alike hK9, hD9⟩⟩, hS.F ht⟩) hS.2.2 dX15_tagRow_117
          · exact (c72_21 (by decide)).elim
        · exact absurd c57_20 (by decide)
      · exact absurd c36_17 (by decide)

set_option maxHeartbeats 4000000 in
set_option maxRecDepth 100000 in
/-- X15_tagStart -/
theorem c_X15_tagStart (l : Launch) (dC : Nat → ClassId) (dI : Nat → Nat → Nat) (xm ml cl fl kn rg tr : Nat) (e0 : Nat) (aK aV : Nat → Nat) (cB : ClassId) (p0 : Int32) (sz : Nat) : Met l yX15_tagStart wsX15_tagStart ({ frames := 6, cells := 8, slots := 50, locals := 171 }) (va_Pc [.ref xm, .int p0] (cPCz (zM e0 aK aV) dC dI [(xm, .inr (20, [.int 0, .int 0, .ref kn, .int 0, .int 0, .int 0, .ref ml, .ref cl, .ref rg, .ref tr, .ref (aK 0), .ref (aK 0), .ref fl, .int 0, .int 0, .int 0, .int 0, .int 0, .int 0, .int 0, .null]))] [(cB, .byte)] sz)) (va_Qi (fun (r : Int32) (u : List Value) => (pLetter p0 ∧ u[5]? = some (.int 0) ∧ r = 1) ∨ (¬ pLetter p0 ∧ u[5]? = some (.int 1))) (fun (u : List Value) t => cQB dC dI [(xm, .inr (20, u))] [(cB, .byte)] (va_A [(xm, .inr (20, [.int 0, .int 0, .ref kn, .int 0, .int 0, .int 0, .ref ml, .ref cl, .ref rg, .ref tr, .ref (aK 0), .ref (aK 0), .ref fl, .int 0, .int 0, .int 0, .int 0, .int 0, .int 0, .int 0, .null]))] sz) t) (va_A [(xm, .inr (20, [.int 0, .int 0, .ref kn, .int 0, .int 0, .int 0, .ref ml, .ref cl, .ref rg, .ref tr, .ref (aK 0), .ref (aK 0), .ref fl, .int 0, .int 0, .int 0, .int 0, .int 0, .int 0, .int 0, .null]))] sz)) 8 50 (va_A [(xm, .inr (20, [.int 0, .int 0, .ref kn, .int 0, .int 0, .int 0, .ref ml, .ref cl, .ref rg, .ref tr, .ref (aK 0), .ref (aK 0), .ref fl, .int 0, .int 0, .int 0, .int 0, .int 0, .int 0, .int 0, .null]))] sz) := by
  refine Met.ofW (cc := cX15_tagStart) (maxL := 2) (ret := (some .int)) (by decide) rfl ?_
  intro p e s m args below meth c s₁ B hml hv
  obtain ⟨rfl, ⟨hsz, hP, hK, hD0, hN⟩, hZ⟩ := hv
  have hx := B.exec
  have hb := B.bytes
  have hr := B.returns
  have hts := atoms_spec (ws := wsX15_tagStart) B.pre
  have hown : s.vm.findClass RX15 = some m.cls := findClass_of_methodNamed B.named
  have hlocks := B.notSynchronized
  subst hsz
  have hD := hD0.self (sz := s.heap.size)
  generalize hAe : va_A [(xm, .inr (20, [.int 0, .int 0, .ref kn, .int 0, .int 0, .int 0, .ref ml, .ref cl, .ref rg, .ref tr, .ref (aK 0), .ref (aK 0), .ref fl, .int 0, .int 0, .int 0, .int 0, .int 0, .int 0, .int 0, .null]))] s.heap.size = A at hD hZ ⊢
  have hA : ∀ q : Nat, s.heap.size ≤ q → A q := fun q h => by rw [← hAe]; exact Or.inr h
  have hS : va_S A s.heap s.heap [] := va_S.rf
  have hP : va_P (dC, dI) vwCl [(xm, .inr (20, [.int 0, .int 0, .ref kn, .int 0, .int 0, .int 0, .ref ml, .ref cl, .ref rg, .ref tr, .ref (aK 0), .ref (aK 0), .ref fl, .int 0, .int 0, .int 0, .int 0, .int 0, .int 0, .int 0, .null]))] s.heap := hP
  have hD : va_D A [(xm, .inr (20, [.int 0, .int 0, .ref kn, .int 0, .int 0, .int 0, .ref ml, .ref cl, .ref rg, .ref tr, .ref (aK 0), .ref (aK 0), .ref fl, .int 0, .int 0, .int 0, .int 0, .int 0, .int 0, .int 0, .null]))] := hD
  have hl := lv_entry ([.ref xm, .int p0]) (n := 2) (Nat.le_of_ble_eq_true rfl)
  rw [lg_entry_eq]
  generalize (lg_sl ([.ref xm, .int p0]) ++ List.replicate (2 - (lg_sl ([.ref xm, .int p0])).length) Slot.unset).toArray = ls at hl ⊢
  have hl : lv_has ls 2 [(0, .ref xm), (1, .int p0)] := hl
  have iWJ4 : ∀ w ∈ u_ws RJ4 TJ4 4, w ∈ wsX15_tagStart := by decide +kernel
  have iWX15 : ∀ w ∈ u_ws RX15 TX15 21, w ∈ wsX15_tagStart := by decide +kernel
  refine lv_aload_n hx hb dX15_tagStart_0 rfl (lv_at hl 0 rfl) ?_
  refine lv_iload_n hx hb dX15_tagStart_1 rfl (lv_at hl 1 rfl) ?_
  refine lv_i2l hx hb dX15_tagStart_2 rfl ?_
  refine lv_ldc2 (v := (97)) hx hb hown (hts (.constantLong RX15 364 (97)) (by decide +kernel)) dX15_tagStart_3 ?_
  refine lv_ldc2 (v := (100)) hx hb hown (hts (.constantLong RX15 326 (100)) (by decide +kernel)) dX15_tagStart_6 ?_
  have hPc := hP.sub (ws' := []) [] rfl
  have hDc := hD.sub (ws' := []) [] (by decide) rfl
  have hKc := hK.sub (tys' := []) [] rfl
  have hFc := va_free (wc := []) hD hS hA [] rfl
  refine va_calli (va_runS (As := [.long p0.toInt64, .long (97), .long (100)]) (rest := [.ref xm]) ⟨hx, hb, hml, hown, hts⟩ (c_X15_in l dC dI p0.toInt64 (97) (100) s.heap.size) (va_cwS 3 hts gX15_tagStart_X15_in rfl rfl rfl (by decide +kernel) ⟨Nat.le_of_ble_eq_true rfl, Nat.le_of_ble_eq_true rfl⟩) (pcS hPc hDc hKc hN) rfl rfl hl.1 rfl (lv_room (Nat.le_of_ble_eq_true rfl)) dX15_tagStart_9 ⟨Nat.le_of_ble_eq_true rfl, Nat.le_of_ble_eq_true rfl⟩) hS (fun q _ h => hFc q h) hFc (fun r_1 u t H1 locs ht hvm hw_2 hB hz1 hk1 hS => ?_)
  obtain ⟨hP1, hK1, hD1⟩ := hB
  rw [ht] at hP1
  try dsimp only at hw_2
  obtain ⟨hP, hD⟩ := va_join (wr := [(xm, .inr (20, [.int 0, .int 0, .ref kn, .int 0, .int 0, .int 0, .ref ml, .ref cl, .ref rg, .ref tr, .ref (aK 0), .ref (aK 0), .ref fl, .int 0, .int 0, .int 0, .int 0, .int 0, .int 0, .int 0, .null]))]) (w1 := []) hP hD [] [0] rfl rfl (by decide) (by decide) hk1 hFc hP1 hD1
  generalize H1 = H at hP hS ⊢
  have hP : va_P (dC, dI) vwCl [(xm, .inr (20, [.int 0, .int 0, .ref kn, .int 0, .int 0, .int 0, .ref ml, .ref cl, .ref rg, .ref tr, .ref (aK 0), .ref (aK 0), .ref fl, .int 0, .int 0, .int 0, .int 0, .int 0, .int 0, .int 0, .null]))] H := hP
  have hD : va_D A [(xm, .inr (20, [.int 0, .int 0, .ref kn, .int 0, .int 0, .int 0, .ref ml, .ref cl, .ref rg, .ref tr, .ref (aK 0), .ref (aK 0), .ref fl, .int 0, .int 0, .int 0, .int 0, .int 0, .int 0, .int 0, .null]))] := hD
  have hi_3 := in32 (97) (100) (by decide) (by decide) hw_2
  refine lv_if_ne (tgt := 19) hx hb dX15_tagStart_12 (by decide) (fun c12_4 => ?_) (fun c12_4 => ?_)
  · have hn_5 := (hi_3).elim (fun h => h.2) (fun h => absurd h.1 c12_4)
    refine lv_aload_n hx hb dX15_tagStart_19 rfl (lv_at hl 0 rfl) ?_
    refine va_get (D := (dC, dI)) (ci := 20) (v := .ref (aK 0)) (C := RX15) (T := TX15) (N := 21) hx hb hts iWX15 hown hK hP 0 rfl rfl 10 (by decide) (hts (.fieldLink RX15 199 "BeaverhallModel" "tagStart" "Ljava/lang/String;") (by decide +kernel)) (fun _ h9 => h9) rfl dX15_tagStart_20 ?_
    have hPc := hP.sub (ws' := []) [] rfl
    have hDc := hD.sub (ws' := []) [] (by decide) rfl
    have hKc := hK.sub (tys' := []) [] rfl
    have hFc := va_free (wc := []) hD hS hA [] rfl
    refine va_calli (va_runV (As := []) (rest := [.ref xm]) ⟨hx, hb, hml, hown, hts⟩ (c_J0_length_c l dC dI e0 aK aV H.size) (cwV 0 hts gX15_tagStart_J0_length_8abf5 rfl rfl rfl (by decide +kernel) ⟨Nat.le_of_ble_eq_true rfl, Nat.le_of_ble_eq_true rfl⟩) (pcVs hPc hDc hKc hN hZ hS hFc (i := 0) (by decide)) rfl rfl hl.1 rfl (lv_room (Nat.le_of_ble_eq_true rfl)) dX15_tagStart_23 ⟨Nat.le_of_ble_eq_true rfl, Nat.le_of_ble_eq_true rfl⟩) hS (fun q _ h => hFc q h) hFc (fun r_6 u t H1 locs ht hvm hw_7 hB hz1 hk1 hS => ?_)
    obtain ⟨hP1, hK1, hD1⟩ := hB
    rw [ht] at hP1
    try dsimp only at hw_7
    obtain ⟨hP, hD⟩ := va_join (wr := [(xm, .inr (20, [.int 0, .int 0, .ref kn, .int 0, .int 0, .int 0, .ref ml, .ref cl, .ref rg, .ref tr, .ref (aK 0), .ref (aK 0), .ref fl, .int 0, .int 0, .int 0, .int 0, .int 0, .int 0, .int 0, .null]))]) (w1 := []) hP hD [] [0] rfl rfl (by decide) (by decide) hk1 hFc hP1 hD1
    generalize H1 = H at hP hS ⊢
    have hP : va_P (dC, dI) vwCl [(xm, .inr (20, [.int 0, .int 0, .ref kn, .int 0, .int 0, .int 0, .ref ml, .ref cl, .ref rg, .ref tr, .ref (aK 0), .ref (aK 0), .ref fl, .int 0, .int 0, .int 0, .int 0, .int 0, .int 0, .int 0, .null]))] H := hP
    have hD : va_D A [(xm, .inr (20, [.int 0, .int 0, .ref kn, .int 0, .int 0, .int 0, .ref ml, .ref cl, .ref rg, .ref tr, .ref (aK 0), .ref (aK 0), .ref fl, .int 0, .int 0, .int 0, .int 0, .int 0, .int 0, .int 0, .null]))] := hD
    subst hw_7
    refine lv_bipush (v := 40) hx hb dX15_tagStart_26 (by decide) ?_
    refine lv_icmp_ne (tgt := 35) hx hb dX15_tagStart_28 (by decide) (fun c28_8 => ?_) (fun c28_8 => ?_)
    · refine lv_iconst (v := 0) hx hb dX15_tagStart_35 (by decide) ?_
      refine va_put (D := (dC, dI)) (ci := 20) (v := .int 0) (ty := .int) (C := RX15) (T := TX15) (N := 21) hx hb hts iWX15 tyX15 tyX15_ok nmX15 hown hK hP hD hS 0 rfl rfl 5 (by decide) (hts (.fieldLink RX15 209 "BeaverhallModel" "thrown" "I") (by decide +kernel)) (fun _ h9 => h9) rfl (by decide +kernel) rfl rfl (Nat.le_of_ble_eq_true rfl) dX15_tagStart_36 (fun H locs hP hD hS => ?_)
      have hP : va_P (dC, dI) vwCl [(xm, .inr (20, [.int 0, .int 0, .ref kn, .int 0, .int 0, .int 0, .ref ml, .ref cl, .ref rg, .ref tr, .ref (aK 0), .ref (aK 0), .ref fl, .int 0, .int 0, .int 0, .int 0, .int 0, .int 0, .int 0, .null]))] H := hP
      have hD : va_D A [(xm, .inr (20, [.int 0, .int 0, .ref kn, .int 0, .int 0, .int 0, .ref ml, .ref cl, .ref rg, .ref tr, .ref (aK 0), .ref (aK 0), .ref fl, .int 0, .int 0, .int 0, .int 0, .int 0, .int 0, .int 0, .null]))] := hD
      refine va_new (ci := 1) (fs := [.null, .int 0, .int 0, .int 0]) (C := RJ4) (T := TJ4) (N := 4) hx hb hts iWJ4 tyJ4 tyJ4_ok hown (hts (.classLink RX15 369 RJ4) (by decide +kernel)) (hts (.instantiable RJ4 4) (by decide +kernel)) (hts (.initialized RJ4) (by decide +kernel)) hK hP hD hS hA rfl (fun j hj => by rcases (show j = 0 ∨ j = 1 ∨ j = 2 ∨ j = 3 by omega) with rfl | rfl | rfl | rfl <;> rfl) (Nat.le_of_ble_eq_true rfl) (Nat.le_of_ble_eq_true rfl) dX15_tagStart_39 (fun q_9 H hP hD hS => ?_)
      have hP : va_P (dC, dI) vwCl [(xm, .inr (20, [.int 0, .int 0, .ref kn, .int 0, .int 0, .int 0, .ref ml, .ref cl, .ref rg, .ref tr, .ref (aK 0), .ref (aK 0), .ref fl, .int 0, .int 0, .int 0, .int 0, .int 0, .int 0, .int 0, .null])), (q_9, .inr (1, [.null, .int 0, .int 0, .int 0]))] H := hP
      have hD : va_D A [(xm, .inr (20, [.int 0, .int 0, .ref kn, .int 0, .int 0, .int 0, .ref ml, .ref cl, .ref rg, .ref tr, .ref (aK 0), .ref (aK 0), .ref fl, .int 0, .int 0, .int 0, .int 0, .int 0, .int 0, .int 0, .null])), (q_9, .inr (1, [.null, .int 0, .int 0, .int 0]))] := hD
      refine W.widen (k := 1) (n := 4) (Nat.le_of_ble_eq_true rfl) (Nat.le_of_ble_eq_true rfl) ?_
      refine lv_dup hx hb dX15_tagStart_42 rfl ?_
      have hPc := hP.sub (ws' := [(q_9, .inr (1, [.null, .int 0, .int 0, .int 0]))]) [1] rfl
      have hDc := hD.sub (ws' := [(q_9, .inr (1, [.null, .int 0, .int 0, .int 0]))]) [1] (by decide) rfl
      have hKc := hK.sub (tys' := [(cB, .byte)]) [0] rfl
      have hFc := va_free (wc := [(q_9, .inr (1, [.null, .int 0, .int 0, .int 0]))]) hD hS hA [1] rfl
      refine va_callv (va_runI (As := []) (rest := [.ref q_9]) ⟨hx, hb, hml, hown, hts⟩ (c_J4_init_da8c8 l dC dI e0 aK aV cB q_9 H.size) (cwI 0 hts gX15_tagStart_J4_init_da8c8 rfl rfl rfl (hts (.initialized RJ4) (by decide +kernel)) (hts (.methodLink RX15 371 yJ4_init_da8c8) (by decide +kernel)) (hts (.instanceMethod yJ4_init_da8c8) (by decide +kernel)) rfl (by decide +kernel) ⟨Nat.le_of_ble_eq_true rfl, Nat.le_of_ble_eq_true rfl⟩) (pcSz (zM_ok e0 aK aV) hPc hDc hKc hN hZ hS hFc) rfl rfl hl.1 rfl (lv_room (Nat.le_of_ble_eq_true rfl)) dX15_tagStart_43 ⟨Nat.le_of_ble_eq_true rfl, Nat.le_of_ble_eq_true rfl⟩) hS (fun q _ h => hFc q h) hFc (fun u t H1 locs ht hvm hw_11 hB hz1 hk1 hS => ?_)
      obtain ⟨hP1, hK1, hD1⟩ := hB
      rw [ht] at hP1
      try dsimp only at hw_11
      obtain ⟨hP, hD⟩ := va_join (wr := [(xm, .inr (20, [.int 0, .int 0, .ref kn, .int 0, .int 0, .int 0, .ref ml, .ref cl, .ref rg, .ref tr, .ref (aK 0), .ref (aK 0), .ref fl, .int 0, .int 0, .int 0, .int 0, .int 0, .int 0, .int 0, .null]))]) (w1 := [(q_9, .inr (1, [.ref u, .int 0, .int 0, .int 0])), (u, .inl (cB, 16, .inl (fun _ => 0)))]) hP hD [1] [0] rfl rfl (by decide) (by decide) hk1 hFc hP1 hD1
      generalize H1 = H at hP hS ⊢
      have hP : va_P (dC, dI) vwCl [(xm, .inr (20, [.int 0, .int 0, .ref kn, .int 0, .int 0, .int 0, .ref ml, .ref cl, .ref rg, .ref tr, .ref (aK 0), .ref (aK 0), .ref fl, .int 0, .int 0, .int 0, .int 0, .int 0, .int 0, .int 0, .null])), (q_9, .inr (1, [.ref u, .int 0, .int 0, .int 0])), (u, .inl (cB, 16, .inl (fun _ => 0)))] H := hP
      have hD : va_D A [(xm, .inr (20, [.int 0, .int 0, .ref kn, .int 0, .int 0, .int 0, .ref ml, .ref cl, .ref rg, .ref tr, .ref (aK 0), .ref (aK 0), .ref fl, .int 0, .int 0, .int 0, .int 0, .int 0, .int 0, .int 0, .null])), (q_9, .inr (1, [.ref u, .int 0, .int 0, .int 0])), (u, .inl (cB, 16, .inl (fun _ => 0)))] := hD
      refine W.widen (k := 2) (n := 20) (Nat.le_of_ble_eq_true rfl) (Nat.le_of_ble_eq_true rfl) ?_
      obtain ⟨q_10, eq_10⟩ : ∃ z, z = u := ⟨_, rfl⟩
      subst eq_10
      refine lv_aload_n hx hb dX15_tagStart_46 rfl (lv_at hl 0 rfl) ?_
      refine lv_dup_x1 hx hb dX15_tagStart_47 rfl rfl ?_
      refine va_get (D := (dC, dI)) (ci := 20) (v := .ref (aK 0)) (C := RX15) (T := TX15) (N := 21) hx hb hts iWX15 hown hK hP 0 rfl rfl 10 (by decide) (hts (.fieldLink RX15 199 "BeaverhallModel" "tagStart" "Ljava/lang/String;") (by decide +kernel)) (fun _ h9 => h9) rfl dX15_tagStart_48 ?_
      have hPc := hP.sub (ws' := [(q_9, .inr (1, [.ref q_10, .int 0, .int 0, .int 0])), (q_10, .inl (cB, 16, .inl (fun _ => 0)))]) [1, 2] rfl
      have hDc := hD.sub (ws' := [(q_9, .inr (1, [.ref q_10, .int 0, .int 0, .int 0])), (q_10, .inl (cB, 16, .inl (fun _ => 0)))]) [1, 2] (by decide) rfl
      have hKc := hK.sub (tys' := [(cB, .byte)]) [0] rfl
      have hFc := va_free (wc := [(q_9, .inr (1, [.ref q_10, .int 0, .int 0, .int 0])), (q_10, .inl (cB, 16, .inl (fun _ => 0)))]) hD hS hA [1, 2] rfl
      refine va_callr (va_runV (As := [.ref (aK 0)]) (rest := [.ref xm]) ⟨hx, hb, hml, hown, hts⟩ (c_J4_appendS_c l dC dI e0 aK aV cB q_9 q_10 0 (fun _ => 0) H.size) (cwV 1 hts gX15_tagStart_J4_append_15ec4 rfl rfl rfl (by decide +kernel) ⟨Nat.le_of_ble_eq_true rfl, Nat.le_of_ble_eq_true rfl⟩) (pcVz (zM_ok e0 aK aV) hPc hDc hKc hN hZ hS hFc (ci := 1) (q0 := 0) rfl rfl) rfl rfl hl.1 rfl (lv_room (Nat.le_of_ble_eq_true rfl)) dX15_tagStart_51 ⟨Nat.le_of_ble_eq_true rfl, Nat.le_of_ble_eq_true rfl⟩) hS (fun q _ h => hFc q h) hFc (fun u r_13 t H1 locs ht hvm hw_14 hB hz1 hk1 hS => ?_)
      obtain ⟨ha9, hP1, hK1, hD1⟩ := hB
      rw [ht] at hP1
      try dsimp only at hw_14
      obtain ⟨hP, hD⟩ := va_join (wr := [(xm, .inr (20, [.int 0, .int 0, .ref kn, .int 0, .int 0, .int 0, .ref ml, .ref cl, .ref rg, .ref tr, .ref (aK 0), .ref (aK 0), .ref fl, .int 0, .int 0, .int 0, .int 0, .int 0, .int 0, .int 0, .null]))]) (w1 := [(q_9, .inr (1, [.ref q_10, .int 0, .int 0, .int 0])), (q_10, .inl (cB, 16, .inl u))]) hP hD [1, 2] [0] rfl rfl (by decide) (by decide) hk1 hFc hP1 hD1
      generalize H1 = H at hP hS ⊢
      have hP : va_P (dC, dI) vwCl [(xm, .inr (20, [.int 0, .int 0, .ref kn, .int 0, .int 0, .int 0, .ref ml, .ref cl, .ref rg, .ref tr, .ref (aK 0), .ref (aK 0), .ref fl, .int 0, .int 0, .int 0, .int 0, .int 0, .int 0, .int 0, .null])), (q_9, .inr (1, [.ref q_10, .int 0, .int 0, .int 0])), (q_10, .inl (cB, 16, .inl u))] H := hP
      have hD : va_D A [(xm, .inr (20, [.int 0, .int 0, .ref kn, .int 0, .int 0, .int 0, .ref ml, .ref cl, .ref rg, .ref tr, .ref (aK 0), .ref (aK 0), .ref fl, .int 0, .int 0, .int 0, .int 0, .int 0, .int 0, .int 0, .null])), (q_9, .inr (1, [.ref q_10, .int 0, .int 0, .int 0])), (q_10, .inl (cB, 16, .inl u))] := hD
      rw [ha9]
      obtain ⟨f_12, ef_12⟩ : ∃ z, z = u := ⟨_, rfl⟩
      subst ef_12
      refine lv_aload_n hx hb dX15_tagStart_54 rfl (lv_at hl 0 rfl) ?_
      refine va_get (D := (dC, dI)) (ci := 20) (v := .int 0) (C := RX15) (T := TX15) (N := 21) hx hb hts iWX15 hown hK hP 0 rfl rfl 5 (by decide) (hts (.fieldLink RX15 209 "BeaverhallModel" "thrown" "I") (by decide +kernel)) (fun _ h9 => h9) rfl dX15_tagStart_55 ?_
      refine lv_if_le (tgt := 66) hx hb dX15_tagStart_58 (by decide) (fun c58_15 => ?_) (fun c58_15 => ?_)
      · have hx9 := le255 hn_5
        refine va_new (ci := 1) (fs := [.null, .int 0, .int 0, .int 0]) (C := RJ4) (T := TJ4) (N := 4) hx hb hts iWJ4 tyJ4 tyJ4_ok hown (hts (.classLink RX15 369 RJ4) (by decide +kernel)) (hts (.instantiable RJ4 4) (by decide +kernel)) (hts (.initialized RJ4) (by decide +kernel)) hK hP hD hS hA rfl (fun j hj => by rcases (show j = 0 ∨ j = 1 ∨ j = 2 ∨ j = 3 by omega) with rfl | rfl | rfl | rfl <;> rfl) (Nat.le_of_ble_eq_true rfl) (Nat.le_of_ble_eq_true rfl) dX15_tagStart_66 (fun q_16 H hP hD hS => ?_)
        have hP : va_P (dC, dI) vwCl [(xm, .inr (20, [.int 0, .int 0, .ref kn, .int 0, .int 0, .int 0, .ref ml, .ref cl, .ref rg, .ref tr, .ref (aK 0), .ref (aK 0), .ref fl, .int 0, .int 0, .int 0, .int 0, .int 0, .int 0, .int 0, .null])), (q_9, .inr (1, [.ref q_10, .int 0, .int 0, .int 0])), (q_10, .inl (cB, 16, .inl f_12)), (q_16, .inr (1, [.null, .int 0, .int 0, .int 0]))] H := hP
        have hD : va_D A [(xm, .inr (20, [.int 0, .int 0, .ref kn, .int 0, .int 0, .int 0, .ref ml, .ref cl, .ref rg, .ref tr, .ref (aK 0), .ref (aK 0), .ref fl, .int 0, .int 0, .int 0, .int 0, .int 0, .int 0, .int 0, .null])), (q_9, .inr (1, [.ref q_10, .int 0, .int 0, .int 0])), (q_10, .inl (cB, 16, .inl f_12)), (q_16, .inr (1, [.null, .int 0, .int 0, .int 0]))] := hD
        refine W.widen (k := 3) (n := 24) (Nat.le_of_ble_eq_true rfl) (Nat.le_of_ble_eq_true rfl) ?_
        refine lv_dup hx hb dX15_tagStart_69 rfl ?_
        have hPc := hP.sub (ws' := [(q_16, .inr (1, [.null, .int 0, .int 0, .int 0]))]) [3] rfl
        have hDc := hD.sub (ws' := [(q_16, .inr (1, [.null, .int 0, .int 0, .int 0]))]) [3] (by decide) rfl
        have hKc := hK.sub (tys' := [(cB, .byte)]) [0] rfl
        have hFc := va_free (wc := [(q_16, .inr (1, [.null, .int 0, .int 0, .int 0]))]) hD hS hA [3] rfl
        refine va_callv (va_runI (As := []) (rest := [.ref q_16, .ref q_9, .ref xm]) ⟨hx, hb, hml, hown, hts⟩ (c_J4_init_da8c8 l dC dI e0 aK aV cB q_16 H.size) (cwI 0 hts gX15_tagStart_J4_init_da8c8 rfl rfl rfl (hts (.initialized RJ4) (by decide +kernel)) (hts (.methodLink RX15 371 yJ4_init_da8c8) (by decide +kernel)) (hts (.instanceMethod yJ4_init_da8c8) (by decide +kernel)) rfl (by decide +kernel) ⟨Nat.le_of_ble_eq_true rfl, Nat.le_of_ble_eq_true rfl⟩) (pcSz (zM_ok e0 aK aV) hPc hDc hKc hN hZ hS hFc) rfl rfl hl.1 rfl (lv_room (Nat.le_of_ble_eq_true rfl)) dX15_tagStart_70 ⟨Nat.le_of_ble_eq_true rfl, Nat.le_of_ble_eq_true rfl⟩) hS (fun q _ h => hFc q h) hFc (fun u t H1 locs ht hvm hw_18 hB hz1 hk1 hS => ?_)
        obtain ⟨hP1, hK1, hD1⟩ := hB
        rw [ht] at hP1
        try dsimp only at hw_18
        obtain ⟨hP, hD⟩ := va_join (wr := [(xm, .inr (20, [.int 0, .int 0, .ref kn, .int 0, .int 0, .int 0, .ref ml, .ref cl, .ref rg, .ref tr, .ref (aK 0), .ref (aK 0), .ref fl, .int 0, .int 0, .int 0, .int 0, .int 0, .int 0, .int 0, .null])), (q_9, .inr (1, [.ref q_10, .int 0, .int 0, .int 0])), (q_10, .inl (cB, 16, .inl f_12))]) (w1 := [(q_16, .inr (1, [.ref u, .int 0, .int 0, .int 0])), (u, .inl (cB, 16, .inl (fun _ => 0)))]) hP hD [3] [0, 1, 2] rfl rfl (by decide) (by decide) hk1 hFc hP1 hD1
        generalize H1 = H at hP hS ⊢
        have hP : va_P (dC, dI) vwCl [(xm, .inr (20, [.int 0, .int 0, .ref kn, .int 0, .int 0, .int 0, .ref ml, .ref cl, .ref rg, .ref tr, .ref (aK 0), .ref (aK 0), .ref fl, .int 0, .int 0, .int 0, .int 0, .int 0, .int 0, .int 0, .null])), (q_9, .inr (1, [.ref q_10, .int 0, .int 0, .int 0])), (q_10, .inl (cB, 16, .inl f_12)), (q_16, .inr (1, [.ref u, .int 0, .int 0, .int 0])), (u, .inl (cB, 16, .inl (fun _ => 0)))] H := hP
        have hD : va_D A [(xm, .inr (20, [.int 0, .int 0, .ref kn, .int 0, .int 0, .int 0, .ref ml, .ref cl, .ref rg, .ref tr, .ref (aK 0), .ref (aK 0), .ref fl, .int 0, .int 0, .int 0, .int 0, .int 0, .int 0, .int 0, .null])), (q_9, .inr (1, [.ref q_10, .int 0, .int 0, .int 0])), (q_10, .inl (cB, 16, .inl f_12)), (q_16, .inr (1, [.ref u, .int 0, .int 0, .int 0])), (u, .inl (cB, 16, .inl (fun _ => 0)))] := hD
        refine W.widen (k := 4) (n := 40) (Nat.le_of_ble_eq_true rfl) (Nat.le_of_ble_eq_true rfl) ?_
        obtain ⟨q_17, eq_17⟩ : ∃ z, z = u := ⟨_, rfl⟩
        subst eq_17
        refine va_ldcS hx hb hown hZ.2.1.1 dX15_tagStart_73 ?_
        have hPc := hP.sub (ws' := [(q_16, .inr (1, [.ref q_17, .int 0, .int 0, .int 0])), (q_17, .inl (cB, 16, .inl (fun _ => 0)))]) [3, 4] rfl
        have hDc := hD.sub (ws' := [(q_16, .inr (1, [.ref q_17, .int 0, .int 0, .int 0])), (q_17, .inl (cB, 16, .inl (fun _ => 0)))]) [3, 4] (by decide) rfl
        have hKc := hK.sub (tys' := [(cB, .byte)]) [0] rfl
        have hFc := va_free (wc := [(q_16, .inr (1, [.ref q_17, .int 0, .int 0, .int 0])), (q_17, .inl (cB, 16, .inl (fun _ => 0)))]) hD hS hA [3, 4] rfl
        refine va_callr (va_runV (As := [.ref (aK 0)]) (rest := [.ref q_9, .ref xm]) ⟨hx, hb, hml, hown, hts⟩ (c_J4_appendS_c l dC dI e0 aK aV cB q_16 q_17 0 (fun _ => 0) H.size) (cwV 1 hts gX15_tagStart_J4_append_15ec4 rfl rfl rfl (by decide +kernel) ⟨Nat.le_of_ble_eq_true rfl, Nat.le_of_ble_eq_true rfl⟩) (pcVz (zM_ok e0 aK aV) hPc hDc hKc hN hZ hS hFc (ci := 1) (q0 := 0) rfl rfl) rfl rfl hl.1 rfl (lv_room (Nat.le_of_ble_eq_true rfl)) dX15_tagStart_75 ⟨Nat.le_of_ble_eq_true rfl, Nat.le_of_ble_eq_true rfl⟩) hS (fun q _ h => hFc q h) hFc (fun u r_20 t H1 locs ht hvm hw_21 hB hz1 hk1 hS => ?_)
        obtain ⟨ha9, hP1, hK1, hD1⟩ := hB
        rw [ht] at hP1
        try dsimp only at hw_21
        obtain ⟨hP, hD⟩ := va_join (wr := [(xm, .inr (20, [.int 0, .int 0, .ref kn, .int 0, .int 0, .int 0, .ref ml, .ref cl, .ref rg, .ref tr, .ref (aK 0), .ref (aK 0), .ref fl, .int 0, .int 0, .int 0, .int 0, .int 0, .int 0, .int 0, .null])), (q_9, .inr (1, [.ref q_10, .int 0, .int 0, .int 0])), (q_10, .inl (cB, 16, .inl f_12))]) (w1 := [(q_16, .inr (1, [.ref q_17, .int 0, .int 0, .int 0])), (q_17, .inl (cB, 16, .inl u))]) hP hD [3, 4] [0, 1, 2] rfl rfl (by decide) (by decide) hk1 hFc hP1 hD1
        generalize H1 = H at hP hS ⊢
        have hP : va_P (dC, dI) vwCl [(xm, .inr (20, [.int 0, .int 0, .ref kn, .int 0, .int 0, .int 0, .ref ml, .ref cl, .ref rg, .ref tr, .ref (aK 0), .ref (aK 0), .ref fl, .int 0, .int 0, .int 0, .int 0, .int 0, .int 0, .int 0, .null])), (q_9, .inr (1, [.ref q_10, .int 0, .int 0, .int 0])), (q_10, .inl (cB, 16, .inl f_12)), (q_16, .inr (1, [.ref q_17, .int 0, .int 0, .int 0])), (q_17, .inl (cB, 16, .inl u))] H := hP
        have hD : va_D A [(xm, .inr (20, [.int 0, .int 0, .ref kn, .int 0, .int 0, .int 0, .ref ml, .ref cl, .ref rg, .ref tr, .ref (aK 0), .ref (aK 0), .ref fl, .int 0, .int 0, .int 0, .int 0, .int 0, .int 0, .int 0, .null])), (q_9, .inr (1, [.ref q_10, .int 0, .int 0, .int 0])), (q_10, .inl (cB, 16, .inl f_12)), (q_16, .inr (1, [.ref q_17, .int 0, .int 0, .int 0])), (q_17, .inl (cB, 16, .inl u))] := hD
        rw [ha9]
        obtain ⟨f_19, ef_19⟩ : ∃ z, z = u := ⟨_, rfl⟩
        subst ef_19
        refine lv_iload_n hx hb dX15_tagStart_78 rfl (lv_at hl 1 rfl) ?_
        have hPc := hP.sub (ws' := [(q_16, .inr (1, [.ref q_17, .int 0, .int 0, .int 0])), (q_17, .inl (cB, 16, .inl f_19))]) [3, 4] rfl
        have hDc := hD.sub (ws' := [(q_16, .inr (1, [.ref q_17, .int 0, .int 0, .int 0])), (q_17, .inl (cB, 16, .inl f_19))]) [3, 4] (by decide) rfl
        have hKc := hK.sub (tys' := [(cB, .byte)]) [0] rfl
        have hFc := va_free (wc := [(q_16, .inr (1, [.ref q_17, .int 0, .int 0, .int 0])), (q_17, .inl (cB, 16, .inl f_19))]) hD hS hA [3, 4] rfl
        refine va_callr (va_runV (As := [.int p0]) (rest := [.ref q_9, .ref xm]) ⟨hx, hb, hml, hown, hts⟩ (c_J4_append_cf468 l dC dI e0 aK aV cB q_16 q_17 0 f_19 p0 hx9 H.size) (cwV 1 hts gX15_tagStart_J4_append_cf468 rfl rfl rfl (by decide +kernel) ⟨Nat.le_of_ble_eq_true rfl, Nat.le_of_ble_eq_true rfl⟩) (pcVz (zM_ok e0 aK aV) hPc hDc hKc hN hZ hS hFc (ci := 1) (q0 := 0) rfl rfl) rfl rfl hl.1 rfl (lv_room (Nat.le_of_ble_eq_true rfl)) dX15_tagStart_79 ⟨Nat.le_of_ble_eq_true rfl, Nat.le_of_ble_eq_true rfl⟩) hS (fun q _ h => hFc q h) hFc (fun u r_23 t H1 locs ht hvm hw_24 hB hz1 hk1 hS => ?_)
        obtain ⟨ha9, hP1, hK1, hD1⟩ := hB
        rw [ht] at hP1
        try dsimp only at hw_24
        obtain ⟨hP, hD⟩ := va_join (wr := [(xm, .inr (20, [.int 0, .int 0, .ref kn, .int 0, .int 0, .int 0, .ref ml, .ref cl, .ref rg, .ref tr, .ref (aK 0), .ref (aK 0), .ref fl, .int 0, .int 0, .int 0, .int 0, .int 0, .int 0, .int 0, .null])), (q_9, .inr (1, [.ref q_10, .int 0, .int 0, .int 0])), (q_10, .inl (cB, 16, .inl f_12))]) (w1 := [(q_16, .inr (1, [.ref q_17, .int 0, .int 0, .int 1])), (q_17, .inl (cB, 16, .inl u))]) hP hD [3, 4] [0, 1, 2] rfl rfl (by decide) (by decide) hk1 hFc hP1 hD1
        generalize H1 = H at hP hS ⊢
        have hP : va_P (dC, dI) vwCl [(xm, .inr (20, [.int 0, .int 0, .ref kn, .int 0, .int 0, .int 0, .ref ml, .ref cl, .ref rg, .ref tr, .ref (aK 0), .ref (aK 0), .ref fl, .int 0, .int 0, .int 0, .int 0, .int 0, .int 0, .int 0, .null])), (q_9, .inr (1, [.ref q_10, .int 0, .int 0, .int 0])), (q_10, .inl (cB, 16, .inl f_12)), (q_16, .inr (1, [.ref q_17, .int 0, .int 0, .int 1])), (q_17, .inl (cB, 16, .inl u))] H := hP
        have hD : va_D A [(xm, .inr (20, [.int 0, .int 0, .ref kn, .int 0, .int 0, .int 0, .ref ml, .ref cl, .ref rg, .ref tr, .ref (aK 0), .ref (aK 0), .ref fl, .int 0, .int 0, .int 0, .int 0, .int 0, .int 0, .int 0, .null])), (q_9, .inr (1, [.ref q_10, .int 0, .int 0, .int 0])), (q_10, .inl (cB, 16, .inl f_12)), (q_16, .inr (1, [.ref q_17, .int 0, .int 0, .int 1])), (q_17, .inl (cB, 16, .inl u))] := hD
        rw [ha9]
        obtain ⟨f_22, ef_22⟩ : ∃ z, z = u := ⟨_, rfl⟩
        subst ef_22
        have hfb := hw_24
        have hPc := hP.sub (ws' := [(q_16, .inr (1, [.ref q_17, .int 0, .int 0, .int 1])), (q_17, .inl (cB, 16, .inl f_22))]) [3, 4] rfl
        have hDc := hD.sub (ws' := [(q_16, .inr (1, [.ref q_17, .int 0, .int 0, .int 1])), (q_17, .inl (cB, 16, .inl f_22))]) [3, 4] (by decide) rfl
        have hKc := hK.sub (tys' := [(cB, .byte)]) [0] rfl
        have hFc := va_free (wc := [(q_16, .inr (1, [.ref q_17, .int 0, .int 0, .int 1])), (q_17, .inl (cB, 16, .inl f_22))]) hD hS hA [3, 4] rfl
        refine va_callr (va_runV (As := []) (rest := [.ref q_9, .ref xm]) ⟨hx, hb, hml, hown, hts⟩ (c_J4_toString_1 l dC dI e0 aK aV cB q_16 q_17 0 f_22 hfb H.size) (cwV 0 hts gX15_tagStart_J4_toString_0e30d rfl rfl rfl (by decide +kernel) ⟨Nat.le_of_ble_eq_true rfl, Nat.le_of_ble_eq_true rfl⟩) (pcVz (zM_ok e0 aK aV) hPc hDc hKc hN hZ hS hFc (ci := 1) (q0 := 0) rfl rfl) rfl rfl hl.1 rfl (lv_room (Nat.le_of_ble_eq_true rfl)) dX15_tagStart_82 ⟨Nat.le_of_ble_eq_true rfl, Nat.le_of_ble_eq_true rfl⟩) hS (fun q _ h => hFc q h) hFc (fun u r_27 t H1 locs ht hvm hw_28 hB hz1 hk1 hS => ?_)
        obtain ⟨q_25, f_26⟩ := u
        obtain ⟨hP1, hK1, hD1⟩ := hB
        rw [ht] at hP1
        try dsimp only at hw_28
        obtain ⟨hP, hD⟩ := va_join (wr := [(xm, .inr (20, [.int 0, .int 0, .ref kn, .int 0, .int 0, .int 0, .ref ml, .ref cl, .ref rg, .ref tr, .ref (aK 0), .ref (aK 0), .ref fl, .int 0, .int 0, .int 0, .int 0, .int 0, .int 0, .int 0, .null])), (q_9, .inr (1, [.ref q_10, .int 0, .int 0, .int 0])), (q_10, .inl (cB, 16, .inl f_12))]) (w1 := [(q_16, .inr (1, [.ref q_17, .int 0, .int 0, .int 1])), (q_17, .inl (cB, 16, .inl f_22)), (r_27, .inr (0, [.ref q_25, .int 0, .int 0, .int 0])), (q_25, .inl (cB, 1, .inl f_26))]) hP hD [3, 4] [0, 1, 2] rfl rfl (by decide) (by decide) hk1 hFc hP1 hD1
        generalize H1 = H at hP hS ⊢
        have hP : va_P (dC, dI) vwCl [(xm, .inr (20, [.int 0, .int 0, .ref kn, .int 0, .int 0, .int 0, .ref ml, .ref cl, .ref rg, .ref tr, .ref (aK 0), .ref (aK 0), .ref fl, .int 0, .int 0, .int 0, .int 0, .int 0, .int 0, .int 0, .null])), (q_9, .inr (1, [.ref q_10, .int 0, .int 0, .int 0])), (q_10, .inl (cB, 16, .inl f_12)), (q_16, .inr (1, [.ref q_17, .int 0, .int 0, .int 1])), (q_17, .inl (cB, 16, .inl f_22)), (r_27, .inr (0, [.ref q_25, .int 0, .int 0, .int 0])), (q_25, .inl (cB, 1, .inl f_26))] H := hP
        have hD : va_D A [(xm, .inr (20, [.int 0, .int 0, .ref kn, .int 0, .int 0, .int 0, .ref ml, .ref cl, .ref rg, .ref tr, .ref (aK 0), .ref (aK 0), .ref fl, .int 0, .int 0, .int 0, .int 0, .int 0, .int 0, .int 0, .null])), (q_9, .inr (1, [.ref q_10, .int 0, .int 0, .int 0])), (q_10, .inl (cB, 16, .inl f_12)), (q_16, .inr (1, [.ref q_17, .int 0, .int 0, .int 1])), (q_17, .inl (cB, 16, .inl f_22)), (r_27, .inr (0, [.ref q_25, .int 0, .int 0, .int 0])), (q_25, .inl (cB, 1, .inl f_26))] := hD
        refine W.widen (k := 6) (n := 45) (Nat.le_of_ble_eq_true rfl) (Nat.le_of_ble_eq_true rfl) ?_
        have hfs : fits .byte (.int (f_26 0)) = true := by rw [hw_28]; exact hfb
        have hPc := hP.sub (ws' := [(q_9, .inr (1, [.ref q_10, .int 0, .int 0, .int 0])), (q_10, .inl (cB, 16, .inl f_12)), (r_27, .inr (0, [.ref q_25, .int 0, .int 0, .int 0])), (q_25, .inl (cB, 1, .inl f_26))]) [1, 2, 5, 6] rfl
        have hDc := hD.sub (ws' := [(q_9, .inr (1, [.ref q_10, .int 0, .int 0, .int 0])), (q_10, .inl (cB, 16, .inl f_12)), (r_27, .inr (0, [.ref q_25, .int 0, .int 0, .int 0])), (q_25, .inl (cB, 1, .inl f_26))]) [1, 2, 5, 6] (by decide) rfl
        have hKc := hK.sub (tys' := [(cB, .byte)]) [0] rfl
        have hFc := va_free (wc := [(q_9, .inr (1, [.ref q_10, .int 0, .int 0, .int 0])), (q_10, .inl (cB, 16, .inl f_12)), (r_27, .inr (0, [.ref q_25, .int 0, .int 0, .int 0])), (q_25, .inl (cB, 1, .inl f_26))]) hD hS hA [1, 2, 5, 6] rfl
        refine va_callr (va_runV (As := [.ref r_27]) (rest := [.ref xm]) ⟨hx, hb, hml, hown, hts⟩ (c_J4_appendS_w l dC dI e0 aK aV cB q_9 q_10 0 f_12 r_27 q_25 0 0 f_26 hfs H.size) (cwV 1 hts gX15_tagStart_J4_append_15ec4 rfl rfl rfl (by decide +kernel) ⟨Nat.le_of_ble_eq_true rfl, Nat.le_of_ble_eq_true rfl⟩) (pcVz (zM_ok e0 aK aV) hPc hDc hKc hN hZ hS hFc (ci := 1) (q0 := 0) rfl rfl) rfl rfl hl.1 rfl (lv_room (Nat.le_of_ble_eq_true rfl)) dX15_tagStart_85 ⟨Nat.le_of_ble_eq_true rfl, Nat.le_of_ble_eq_true rfl⟩) hS (fun q _ h => hFc q h) hFc (fun u r_30 t H1 locs ht hvm hw_31 hB hz1 hk1 hS => ?_)
        obtain ⟨ha9, hP1, hK1, hD1⟩ := hB
        rw [ht] at hP1
        try dsimp only at hw_31
        obtain ⟨hP, hD⟩ := va_join (wr := [(xm, .inr (20, [.int 0, .int 0, .ref kn, .int 0, .int 0, .int 0, .ref ml, .ref cl, .ref rg, .ref tr, .ref (aK 0), .ref (aK 0), .ref fl, .int 0, .int 0, .int 0, .int 0, .int 0, .int 0, .int 0, .null])), (q_16, .inr (1, [.ref q_17, .int 0, .int 0, .int 1])), (q_17, .inl (cB, 16, .inl f_22))]) (w1 := [(q_9, .inr (1, [.ref q_10, .int 0, .int 0, .int 1])), (q_10, .inl (cB, 16, .inl u)), (r_27, .inr (0, [.ref q_25, .int 0, .int 0, .int 0])), (q_25, .inl (cB, 1, .inl f_26))]) hP hD [1, 2, 5, 6] [0, 3, 4] rfl rfl (by decide) (by decide) hk1 hFc hP1 hD1
        generalize H1 = H at hP hS ⊢
        have hP : va_P (dC, dI) vwCl [(xm, .inr (20, [.int 0, .int 0, .ref kn, .int 0, .int 0, .int 0, .ref ml, .ref cl, .ref rg, .ref tr, .ref (aK 0), .ref (aK 0), .ref fl, .int 0, .int 0, .int 0, .int 0, .int 0, .int 0, .int 0, .null])), (q_16, .inr (1, [.ref q_17, .int 0, .int 0, .int 1])), (q_17, .inl (cB, 16, .inl f_22)), (q_9, .inr (1, [.ref q_10, .int 0, .int 0, .int 1])), (q_10, .inl (cB, 16, .inl u)), (r_27, .inr (0, [.ref q_25, .int 0, .int 0, .int 0])), (q_25, .inl (cB, 1, .inl f_26))] H := hP
        have hD : va_D A [(xm, .inr (20, [.int 0, .int 0, .ref kn, .int 0, .int 0, .int 0, .ref ml, .ref cl, .ref rg, .ref tr, .ref (aK 0), .ref (aK 0), .ref fl, .int 0, .int 0, .int 0, .int 0, .int 0, .int 0, .int 0, .null])), (q_16, .inr (1, [.ref q_17, .int 0, .int 0, .int 1])), (q_17, .inl (cB, 16, .inl f_22)), (q_9, .inr (1, [.ref q_10, .int 0, .int 0, .int 1])), (q_10, .inl (cB, 16, .inl u)), (r_27, .inr (0, [.ref q_25, .int 0, .int 0, .int 0])), (q_25, .inl (cB, 1, .inl f_26))] := hD
        rw [ha9]
        obtain ⟨f_29, ef_29⟩ : ∃ z, z = u := ⟨_, rfl⟩
        subst ef_29
        have hfb : fits .byte (.int (f_29 0)) = true := by rw [hw_31]; exact hfs
        have hPc := hP.sub (ws' := [(q_9, .inr (1, [.ref q_10, .int 0, .int 0, .int 1])), (q_10, .inl (cB, 16, .inl f_29))]) [3, 4] rfl
        have hDc := hD.sub (ws' := [(q_9, .inr (1, [.ref q_10, .int 0, .int 0, .int 1])), (q_10, .inl (cB, 16, .inl f_29))]) [3, 4] (by decide) rfl
        have hKc := hK.sub (tys' := [(cB, .byte)]) [0] rfl
        have hFc := va_free (wc := [(q_9, .inr (1, [.ref q_10, .int 0, .int 0, .int 1])), (q_10, .inl (cB, 16, .inl f_29))]) hD hS hA [3, 4] rfl
        refine va_callr (va_runV (As := []) (rest := [.ref xm]) ⟨hx, hb, hml, hown, hts⟩ (c_J4_toString_1 l dC dI e0 aK aV cB q_9 q_10 0 f_29 hfb H.size) (cwV 0 hts gX15_tagStart_J4_toString_0e30d rfl rfl rfl (by decide +kernel) ⟨Nat.le_of_ble_eq_true rfl, Nat.le_of_ble_eq_true rfl⟩) (pcVz (zM_ok e0 aK aV) hPc hDc hKc hN hZ hS hFc (ci := 1) (q0 := 0) rfl rfl) rfl rfl hl.1 rfl (lv_room (Nat.le_of_ble_eq_true rfl)) dX15_tagStart_88 ⟨Nat.le_of_ble_eq_true rfl, Nat.le_of_ble_eq_true rfl⟩) hS (fun q _ h => hFc q h) hFc (fun u r_34 t H1 locs ht hvm hw_35 hB hz1 hk1 hS => ?_)
        obtain ⟨q_32, f_33⟩ := u
        obtain ⟨hP1, hK1, hD1⟩ := hB
        rw [ht] at hP1
        try dsimp only at hw_35
        obtain ⟨hP, hD⟩ := va_join (wr := [(xm, .inr (20, [.int 0, .int 0, .ref kn, .int 0, .int 0, .int 0, .ref ml, .ref cl, .ref rg, .ref tr, .ref (aK 0), .ref (aK 0), .ref fl, .int 0, .int 0, .int 0, .int 0, .int 0, .int 0, .int 0, .null])), (q_16, .inr (1, [.ref q_17, .int 0, .int 0, .int 1])), (q_17, .inl (cB, 16, .inl f_22)), (r_27, .inr (0, [.ref q_25, .int 0, .int 0, .int 0])), (q_25, .inl (cB, 1, .inl f_26))]) (w1 := [(q_9, .inr (1, [.ref q_10, .int 0, .int 0, .int 1])), (q_10, .inl (cB, 16, .inl f_29)), (r_34, .inr (0, [.ref q_32, .int 0, .int 0, .int 0])), (q_32, .inl (cB, 1, .inl f_33))]) hP hD [3, 4] [0, 1, 2, 5, 6] rfl rfl (by decide) (by decide) hk1 hFc hP1 hD1
        generalize H1 = H at hP hS ⊢
        have hP : va_P (dC, dI) vwCl [(xm, .inr (20, [.int 0, .int 0, .ref kn, .int 0, .int 0, .int 0, .ref ml, .ref cl, .ref rg, .ref tr, .ref (aK 0), .ref (aK 0), .ref fl, .int 0, .int 0, .int 0, .int 0, .int 0, .int 0, .int 0, .null])), (q_16, .inr (1, [.ref q_17, .int 0, .int 0, .int 1])), (q_17, .inl (cB, 16, .inl f_22)), (r_27, .inr (0, [.ref q_25, .int 0, .int 0, .int 0])), (q_25, .inl (cB, 1, .inl f_26)), (q_9, .inr (1, [.ref q_10, .int 0, .int 0, .int 1])), (q_10, .inl (cB, 16, .inl f_29)), (r_34, .inr (0, [.ref q_32, .int 0, .int 0, .int 0])), (q_32, .inl (cB, 1, .inl f_33))] H := hP
        have hD : va_D A [(xm, .inr (20, [.int 0, .int 0, .ref kn, .int 0, .int 0, .int 0, .ref ml, .ref cl, .ref rg, .ref tr, .ref (aK 0), .ref (aK 0), .ref fl, .int 0, .int 0, .int 0, .int 0, .int 0, .int 0, .int 0, .null])), (q_16, .inr (1, [.ref q_17, .int 0, .int 0, .int 1])), (q_17, .inl (cB, 16, .inl f_22)), (r_27, .inr (0, [.ref q_25, .int 0, .int 0, .int 0])), (q_25, .inl (cB, 1, .inl f_26)), (q_9, .inr (1, [.ref q_10, .int 0, .int 0, .int 1])), (q_10, .inl (cB, 16, .inl f_29)), (r_34, .inr (0, [.ref q_32, .int 0, .int 0, .int 0])), (q_32, .inl (cB, 1, .inl f_33))] := hD
        refine W.widen (k := 8) (n := 50) (Nat.le_of_ble_eq_true rfl) (Nat.le_of_ble_eq_true rfl) ?_
        refine va_put (D := (dC, dI)) (ci := 20) (v := .ref r_34) (ty := .object "java/lang/String") (C := RX15) (T := TX15) (N := 21) hx hb hts iWX15 tyX15 tyX15_ok nmX15 hown hK hP hD hS 0 rfl rfl 10 (by decide) (hts (.fieldLink RX15 199 "BeaverhallModel" "tagStart" "Ljava/lang/String;") (by decide +kernel)) (fun _ h9 => h9) rfl (by decide +kernel) rfl rfl (Nat.le_of_ble_eq_true rfl) dX15_tagStart_91 (fun H locs hP hD hS => ?_)
        have hP : va_P (dC, dI) vwCl [(xm, .inr (20, [.int 0, .int 0, .ref kn, .int 0, .int 0, .int 0, .ref ml, .ref cl, .ref rg, .ref tr, .ref r_34, .ref (aK 0), .ref fl, .int 0, .int 0, .int 0, .int 0, .int 0, .int 0, .int 0, .null])), (q_16, .inr (1, [.ref q_17, .int 0, .int 0, .int 1])), (q_17, .inl (cB, 16, .inl f_22)), (r_27, .inr (0, [.ref q_25, .int 0, .int 0, .int 0])), (q_25, .inl (cB, 1, .inl f_26)), (q_9, .inr (1, [.ref q_10, .int 0, .int 0, .int 1])), (q_10, .inl (cB, 16, .inl f_29)), (r_34, .inr (0, [.ref q_32, .int 0, .int 0, .int 0])), (q_32, .inl (cB, 1, .inl f_33))] H := hP
        have hD : va_D A [(xm, .inr (20, [.int 0, .int 0, .ref kn, .int 0, .int 0, .int 0, .ref ml, .ref cl, .ref rg, .ref tr, .ref r_34, .ref (aK 0), .ref fl, .int 0, .int 0, .int 0, .int 0, .int 0, .int 0, .int 0, .null])), (q_16, .inr (1, [.ref q_17, .int 0, .int 0, .int 1])), (q_17, .inl (cB, 16, .inl f_22)), (r_27, .inr (0, [.ref q_25, .int 0, .int 0, .int 0])), (q_25, .inl (cB, 1, .inl f_26)), (q_9, .inr (1, [.ref q_10, .int 0, .int 0, .int 1])), (q_10, .inl (cB, 16, .inl f_29)), (r_34, .inr (0, [.ref q_32, .int 0, .int 0, .int 0])), (q_32, .inl (cB, 1, .inl f_33))] := hD
        refine lv_aload_n hx hb dX15_tagStart_94 rfl (lv_at hl 0 rfl) ?_
        refine va_get (D := (dC, dI)) (ci := 20) (v := .int 0) (C := RX15) (T := TX15) (N := 21) hx hb hts iWX15 hown hK hP 0 rfl rfl 5 (by decide) (hts (.fieldLink RX15 209 "BeaverhallModel" "thrown" "I") (by decide +kernel)) (fun _ h9 => h9) rfl dX15_tagStart_95 ?_
        refine lv_if_le (tgt := 105) hx hb dX15_tagStart_98 (by decide) (fun c98_36 => ?_) (fun c98_36 => ?_)
        · refine lv_aload_n hx hb dX15_tagStart_105 rfl (lv_at hl 0 rfl) ?_
          refine va_get (D := (dC, dI)) (ci := 20) (v := .ref r_34) (C := RX15) (T := TX15) (N := 21) hx hb hts iWX15 hown hK hP 0 rfl rfl 10 (by decide) (hts (.fieldLink RX15 199 "BeaverhallModel" "tagStart" "Ljava/lang/String;") (by decide +kernel)) (fun _ h9 => h9) rfl dX15_tagStart_106 ?_
          have hPc := hP.sub (ws' := [(r_34, .inr (0, [.ref q_32, .int 0, .int 0, .int 0])), (q_32, .inl (cB, 1, .inl f_33))]) [7, 8] rfl
          have hDc := hD.sub (ws' := [(r_34, .inr (0, [.ref q_32, .int 0, .int 0, .int 0])), (q_32, .inl (cB, 1, .inl f_33))]) [7, 8] (by decide) rfl
          have hKc := hK.sub (tys' := [(cB, .byte)]) [0] rfl
          have hFc := va_free (wc := [(r_34, .inr (0, [.ref q_32, .int 0, .int 0, .int 0])), (q_32, .inl (cB, 1, .inl f_33))]) hD hS hA [7, 8] rfl
          refine va_calli (va_runV (As := []) (rest := []) ⟨hx, hb, hml, hown, hts⟩ (c_J0_length_w l dC dI e0 aK aV cB r_34 q_32 0 0 f_33 H.size) (cwV 0 hts gX15_tagStart_J0_length_8abf5 rfl rfl rfl (by decide +kernel) ⟨Nat.le_of_ble_eq_true rfl, Nat.le_of_ble_eq_true rfl⟩) (pcVz (zM_ok e0 aK aV) hPc hDc hKc hN hZ hS hFc (ci := 0) (q0 := 0) rfl rfl) rfl rfl hl.1 rfl (lv_room (Nat.le_of_ble_eq_true rfl)) dX15_tagStart_109 ⟨Nat.le_of_ble_eq_true rfl, Nat.le_of_ble_eq_true rfl⟩) hS (fun q _ h => hFc q h) hFc (fun r_37 u t H1 locs ht hvm hw_38 hB hz1 hk1 hS => ?_)
          obtain ⟨hP1, hK1, hD1⟩ := hB
          rw [ht] at hP1
          try dsimp only at hw_38
          obtain ⟨hP, hD⟩ := va_join (wr := [(xm, .inr (20, [.int 0, .int 0, .ref kn, .int 0, .int 0, .int 0, .ref ml, .ref cl, .ref rg, .ref tr, .ref r_34, .ref (aK 0), .ref fl, .int 0, .int 0, .int 0, .int 0, .int 0, .int 0, .int 0, .null])), (q_16, .inr (1, [.ref q_17, .int 0, .int 0, .int 1])), (q_17, .inl (cB, 16, .inl f_22)), (r_27, .inr (0, [.ref q_25, .int 0, .int 0, .int 0])), (q_25, .inl (cB, 1, .inl f_26)), (q_9, .inr (1, [.ref q_10, .int 0, .int 0, .int 1])), (q_10, .inl (cB, 16, .inl f_29))]) (w1 := [(r_34, .inr (0, [.ref q_32, .int 0, .int 0, .int 0])), (q_32, .inl (cB, 1, .inl f_33))]) hP hD [7, 8] [0, 1, 2, 3, 4, 5, 6] rfl rfl (by decide) (by decide) hk1 hFc hP1 hD1
          generalize H1 = H at hP hS ⊢
          have hP : va_P (dC, dI) vwCl [(xm, .inr (20, [.int 0, .int 0, .ref kn, .int 0, .int 0, .int 0, .ref ml, .ref cl, .ref rg, .ref tr, .ref r_34, .ref (aK 0), .ref fl, .int 0, .int 0, .int 0, .int 0, .int 0, .int 0, .int 0, .null])), (q_16, .inr (1, [.ref q_17, .int 0, .int 0, .int 1])), (q_17, .inl (cB, 16, .inl f_22)), (r_27, .inr (0, [.ref q_25, .int 0, .int 0, .int 0])), (q_25, .inl (cB, 1, .inl f_26)), (q_9, .inr (1, [.ref q_10, .int 0, .int 0, .int 1])), (q_10, .inl (cB, 16, .inl f_29)), (r_34, .inr (0, [.ref q_32, .int 0, .int 0, .int 0])), (q_32, .inl (cB, 1, .inl f_33))] H := hP
          have hD : va_D A [(xm, .inr (20, [.int 0, .int 0, .ref kn, .int 0, .int 0, .int 0, .ref ml, .ref cl, .ref rg, .ref tr, .ref r_34, .ref (aK 0), .ref fl, .int 0, .int 0, .int 0, .int 0, .int 0, .int 0, .int 0, .null])), (q_16, .inr (1, [.ref q_17, .int 0, .int 0, .int 1])), (q_17, .inl (cB, 16, .inl f_22)), (r_27, .inr (0, [.ref q_25, .int 0, .int 0, .int 0])), (q_25, .inl (cB, 1, .inl f_26)), (q_9, .inr (1, [.ref q_10, .int 0, .int 0, .int 1])), (q_10, .inl (cB, 16, .inl f_29)), (r_34, .inr (0, [.ref q_32, .int 0, .int 0, .int 0])), (q_32, .inl (cB, 1, .inl f_33))] := hD
          subst hw_38
          have hP9 := hP.sub (ws' := [(xm, .inr (20, [.int 0, .int 0, .ref kn, .int 0, .int 0, .int 0, .ref ml, .ref cl, .ref rg, .ref tr, .ref r_34, .ref (aK 0), .ref fl, .int 0, .int 0, .int 0, .int 0, .int 0, .int 0, .int 0, .null]))]) [0] rfl
          have hD9 := hD.sub (ws' := [(xm, .inr (20, [.int 0, .int 0, .ref kn, .int 0, .int 0, .int 0, .ref ml, .ref cl, .ref rg, .ref tr, .ref r_34, .ref (aK 0), .ref fl, .int 0, .int 0, .int 0, .int 0, .int 0, .int 0, .int 0, .null]))]) [0] (by decide) rfl
          have hK9 := hK.sub (tys' := [(cB, .byte)]) [0] rfl
          exact W.iret (v := 1) hx hb hr (fun t ht hW => ⟨⟨1, [.int 0, .int 0, .ref kn, .int 0, .int 0, .int 0, .ref ml, .ref cl, .ref rg, .ref tr, .ref r_34, .ref (aK 0), .ref fl, .int 0, .int 0, .int 0, .int 0, .int 0, .int 0, .int 0, .null], rfl, (Or.inl ⟨hn_5, rfl, rfl⟩), ⟨by rw [ht]; exact hP9, va_K.moved hW.alike hK9, hD9⟩⟩, hS.F ht⟩) hS.2.2 dX15_tagStart_112
        · exact (c98_36 (by decide)).elim
      · exact (c58_15 (by decide)).elim
    · exact absurd c28_8 (by decide)
  · have hn_39 := (hi_3).elim (fun h => absurd (h.1.symm.trans c12_4) (by decide)) (fun h => h.2)
    refine lv_iconst (v := 1) hx hb dX15_tagStart_15 (by decide) ?_
    refine lv_goto (tgt := 36) hx hb dX15_tagStart_16 (by decide) ?_
    refine va_put (D := (dC, dI)) (ci := 20) (v := .int 1) (ty := .int) (C := RX15) (T := TX15) (N := 21) hx hb hts iWX15 tyX15 tyX15_ok nmX15 hown hK hP hD hS 0 rfl rfl 5 (by decide) (hts (.fieldLink RX15 209 "BeaverhallModel" "thrown" "I") (by decide +kernel)) (fun _ h9 => h9) rfl (by decide +kernel) rfl rfl (Nat.le_of_ble_eq_true rfl) dX15_tagStart_36 (fun H locs hP hD hS => ?_)
    have hP : va_P (dC, dI) vwCl [(xm, .inr (20, [.int 0, .int 0, .ref kn, .int 0, .int 0, .int 1, .ref ml, .ref cl, .ref rg, .ref tr, .ref (aK 0), .ref (aK 0), .ref fl, .int 0, .int 0, .int 0, .int 0, .int 0, .int 0, .int 0, .null]))] H := hP
    have hD : va_D A [(xm, .inr (20, [.int 0, .int 0, .ref kn, .int 0, .int 0, .int 1, .ref ml, .ref cl, .ref rg, .ref tr, .ref (aK 0), .ref (aK 0), .ref fl, .int 0, .int 0, .int 0, .int 0, .int 0, .int 0, .int 0, .null]))] := hD
    refine va_new (ci := 1) (fs := [.null, .int 0, .int 0, .int 0]) (C := RJ4) (T := TJ4) (N := 4) hx hb hts iWJ4 tyJ4 tyJ4_ok hown (hts (.classLink RX15 369 RJ4) (by decide +kernel)) (hts (.instantiable RJ4 4) (by decide +kernel)) (hts (.initialized RJ4) (by decide +kernel)) hK hP hD hS hA rfl (fun j hj => by rcases (show j = 0 ∨ j = 1 ∨ j = 2 ∨ j = 3 by omega) with rfl | rfl | rfl | rfl <;> rfl) (Nat.le_of_ble_eq_true rfl) (Nat.le_of_ble_eq_true rfl) dX15_tagStart_39 (fun q_40 H hP hD hS => ?_)
    have hP : va_P (dC, dI) vwCl [(xm, .inr (20, [.int 0, .int 0, .ref kn, .int 0, .int 0, .int 1, .ref ml, .ref cl, .ref rg, .ref tr, .ref (aK 0), .ref (aK 0), .ref fl, .int 0, .int 0, .int 0, .int 0, .int 0, .int 0, .int 0, .null])), (q_40, .inr (1, [.null, .int 0, .int 0, .int 0]))] H := hP
    have hD : va_D A [(xm, .inr (20, [.int 0, .int 0, .ref kn, .int 0, .int 0, .int 1, .ref ml, .ref cl, .ref rg, .ref tr, .ref (aK 0), .ref (aK 0), .ref fl, .int 0, .int 0, .int 0, .int 0, .int 0, .int 0, .int 0, .null])), (q_40, .inr (1, [.null, .int 0, .int 0, .int 0]))] := hD
    refine W.widen (k := 1) (n := 4) (Nat.le_of_ble_eq_true rfl) (Nat.le_of_ble_eq_true rfl) ?_
    refine lv_dup hx hb dX15_tagStart_42 rfl ?_
    have hPc := hP.sub (ws' := [(q_40, .inr (1, [.null, .int 0, .int 0, .int 0]))]) [1] rfl
    have hDc := hD.sub (ws' := [(q_40, .inr (1, [.null, .int 0, .int 0, .int 0]))]) [1] (by decide) rfl
    have hKc := hK.sub (tys' := [(cB, .byte)]) [0] rfl
    have hFc := va_free (wc := [(q_40, .inr (1, [.null, .int 0, .int 0, .int 0]))]) hD hS hA [1] rfl
    refine va_callv (va_runI (As := []) (rest := [.ref q_40]) ⟨hx, hb, hml, hown, hts⟩ (c_J4_init_da8c8 l dC dI e0 aK aV cB q_40 H.size) (cwI 0 hts gX15_tagStart_J4_init_da8c8 rfl rfl rfl (hts (.initialized RJ4) (by decide +kernel)) (hts (.methodLink RX15 371 yJ4_init_da8c8) (by decide +kernel)) (hts (.instanceMethod yJ4_init_da8c8) (by decide +kernel)) rfl (by decide +kernel) ⟨Nat.le_of_ble_eq_true rfl, Nat.le_of_ble_eq_true rfl⟩) (pcSz (zM_ok e0 aK aV) hPc hDc hKc hN hZ hS hFc) rfl rfl hl.1 rfl (lv_room (Nat.le_of_ble_eq_true rfl)) dX15_tagStart_43 ⟨Nat.le_of_ble_eq_true rfl, Nat.le_of_ble_eq_true rfl⟩) hS (fun q _ h => hFc q h) hFc (fun u t H1 locs ht hvm hw_42 hB hz1 hk1 hS => ?_)
    obtain ⟨hP1, hK1, hD1⟩ := hB
    rw [ht] at hP1
    try dsimp only at hw_42
    obtain ⟨hP, hD⟩ := va_join (wr := [(xm, .inr (20, [.int 0, .int 0, .ref kn, .int 0, .int 0, .int 1, .ref ml, .ref cl, .ref rg, .ref tr, .ref (aK 0), .ref (aK 0), .ref fl, .int 0, .int 0, .int 0, .int 0, .int 0, .int 0, .int 0, .null]))]) (w1 := [(q_40, .inr (1, [.ref u, .int 0, .int 0, .int 0])), (u, .inl (cB, 16, .inl (fun _ => 0)))]) hP hD [1] [0] rfl rfl (by decide) (by decide) hk1 hFc hP1 hD1
    generalize H1 = H at hP hS ⊢
    have hP : va_P (dC, dI) vwCl [(xm, .inr (20, [.int 0, .int 0, .ref kn, .int 0, .int 0, .int 1, .ref ml, .ref cl, .ref rg, .ref tr, .ref (aK 0), .ref (aK 0), .ref fl, .int 0, .int 0, .int 0, .int 0, .int 0, .int 0, .int 0, .null])), (q_40, .inr (1, [.ref u, .int 0, .int 0, .int 0])), (u, .inl (cB, 16, .inl (fun _ => 0)))] H := hP
    have hD : va_D A [(xm, .inr (20, [.int 0, .int 0, .ref kn, .int 0, .int 0, .int 1, .ref ml, .ref cl, .ref rg, .ref tr, .ref (aK 0), .ref (aK 0), .ref fl, .int 0, .int 0, .int 0, .int 0, .int 0, .int 0, .int 0, .null])), (q_40, .inr (1, [.ref u, .int 0, .int 0, .int 0])), (u, .inl (cB, 16, .inl (fun _ => 0)))] := hD
    refine W.widen (k := 2) (n := 20) (Nat.le_of_ble_eq_true rfl) (Nat.le_of_ble_eq_true rfl) ?_
    obtain ⟨q_41, eq_41⟩ : ∃ z, z = u := ⟨_, rfl⟩
    subst eq_41
    refine lv_aload_n hx hb dX15_tagStart_46 rfl (lv_at hl 0 rfl) ?_
    refine lv_dup_x1 hx hb dX15_tagStart_47 rfl rfl ?_
    refine va_get (D := (dC, dI)) (ci := 20) (v := .ref (aK 0)) (C := RX15) (T := TX15) (N := 21) hx hb hts iWX15 hown hK hP 0 rfl rfl 10 (by decide) (hts (.fieldLink RX15 199 "BeaverhallModel" "tagStart" "Ljava/lang/String;") (by decide +kernel)) (fun _ h9 => h9) rfl dX15_tagStart_48 ?_
    have hPc := hP.sub (ws' := [(q_40, .inr (1, [.ref q_41, .int 0, .int 0, .int 0])), (q_41, .inl (cB, 16, .inl (fun _ => 0)))]) [1, 2] rfl
    have hDc := hD.sub (ws' := [(q_40, .inr (1, [.ref q_41, .int 0, .int 0, .int 0])), (q_41, .inl (cB, 16, .inl (fun _ => 0)))]) [1, 2] (by decide) rfl
    have hKc := hK.sub (tys' := [(cB, .byte)]) [0] rfl
    have hFc := va_free (wc := [(q_40, .inr (1, [.ref q_41, .int 0, .int 0, .int 0])), (q_41, .inl (cB, 16, .inl (fun _ => 0)))]) hD hS hA [1, 2] rfl
    refine va_callr (va_runV (As := [.ref (aK 0)]) (rest := [.ref xm]) ⟨hx, hb, hml, hown, hts⟩ (c_J4_appendS_c l dC dI e0 aK aV cB q_40 q_41 0 (fun _ => 0) H.size) (cwV 1 hts gX15_tagStart_J4_append_15ec4 rfl rfl rfl (by decide +kernel) ⟨Nat.le_of_ble_eq_true rfl, Nat.le_of_ble_eq_true rfl⟩) (pcVz (zM_ok e0 aK aV) hPc hDc hKc hN hZ hS hFc (ci := 1) (q0 := 0) rfl rfl) rfl rfl hl.1 rfl (lv_room (Nat.le_of_ble_eq_true rfl)) dX15_tagStart_51 ⟨Nat.le_of_ble_eq_true rfl, Nat.le_of_ble_eq_true rfl⟩) hS (fun q _ h => hFc q h) hFc (fun u r_44 t H1 locs ht hvm hw_45 hB hz1 hk1 hS => ?_)
    obtain ⟨ha9, hP1, hK1, hD1⟩ := hB
    rw [ht] at hP1
    try dsimp only at hw_45
    obtain ⟨hP, hD⟩ := va_join (wr := [(xm, .inr (20, [.int 0, .int 0, .ref kn, .int 0, .int 0, .int 1, .ref ml, .ref cl, .ref rg, .ref tr, .ref (aK 0), .ref (aK 0), .ref fl, .int 0, .int 0, .int 0, .int 0, .int 0, .int 0, .int 0, .null]))]) (w1 := [(q_40, .inr (1, [.ref q_41, .int 0, .int 0, .int 0])), (q_41, .inl (cB, 16, .inl u))]) hP hD [1, 2] [0] rfl rfl (by decide) (by decide) hk1 hFc hP1 hD1
    generalize H1 = H at hP hS ⊢
    have hP : va_P (dC, dI) vwCl [(xm, .inr (20, [.int 0, .int 0, .ref kn, .int 0, .int 0, .int 1, .ref ml, .ref cl, .ref rg, .ref tr, .ref (aK 0), .ref (aK 0), .ref fl, .int 0, .int 0, .int 0, .int 0, .int 0, .int 0, .int 0, .null])), (q_40, .inr (1, [.ref q_41, .int 0, .int 0, .int 0])), (q_41, .inl (cB, 16, .inl u))] H := hP
    have hD : va_D A [(xm, .inr (20, [.int 0, .int 0, .ref kn, .int 0, .int 0, .int 1, .ref ml, .ref cl, .ref rg, .ref tr, .ref (aK 0), .ref (aK 0), .ref fl, .int 0, .int 0, .int 0, .int 0, .int 0, .int 0, .int 0, .null])), (q_40, .inr (1, [.ref q_41, .int 0, .int 0, .int 0])), (q_41, .inl (cB, 16, .inl u))] := hD
    rw [ha9]
    obtain ⟨f_43, ef_43⟩ : ∃ z, z = u := ⟨_, rfl⟩
    subst ef_43
    refine lv_aload_n hx hb dX15_tagStart_54 rfl (lv_at hl 0 rfl) ?_
    refine va_get (D := (dC, dI)) (ci := 20) (v := .int 1) (C := RX15) (T := TX15) (N := 21) hx hb hts iWX15 hown hK hP 0 rfl rfl 5 (by decide) (hts (.fieldLink RX15 209 "BeaverhallModel" "thrown" "I") (by decide +kernel)) (fun _ h9 => h9) rfl dX15_tagStart_55 ?_
    refine lv_if_le (tgt := 66) hx hb dX15_tagStart_58 (by decide) (fun c58_46 => ?_) (fun c58_46 => ?_)
    · exact absurd c58_46 (by decide)
    · refine va_ldcS hx hb hown hZ.2.1.1 dX15_tagStart_61 ?_
      refine lv_goto (tgt := 85) hx hb dX15_tagStart_63 (by decide) ?_
      have hPc := hP.sub (ws' := [(q_40, .inr (1, [.ref q_41, .int 0, .int 0, .int 0])), (q_41, .inl (cB, 16, .inl f_43))]) [1, 2] rfl
      have hDc := hD.sub (ws' := [(q_40, .inr (1, [.ref q_41, .int 0, .int 0, .int 0])), (q_41, .inl (cB, 16, .inl f_43))]) [1, 2] (by decide) rfl
      have hKc := hK.sub (tys' := [(cB, .byte)]) [0] rfl
      have hFc := va_free (wc := [(q_40, .inr (1, [.ref q_41, .int 0, .int 0, .int 0])), (q_41, .inl (cB, 16, .inl f_43))]) hD hS hA [1, 2] rfl
      refine va_callr (va_runV (As := [.ref (aK 0)]) (rest := [.ref xm]) ⟨hx, hb, hml, hown, hts⟩ (c_J4_appendS_c l dC dI e0 aK aV cB q_40 q_41 0 f_43 H.size) (cwV 1 hts gX15_tagStart_J4_append_15ec4 rfl rfl rfl (by decide +kernel) ⟨Nat.le_of_ble_eq_true rfl, Nat.le_of_ble_eq_true rfl⟩) (pcVz (zM_ok e0 aK aV) hPc hDc hKc hN hZ hS hFc (ci := 1) (q0 := 0) rfl rfl) rfl rfl hl.1 rfl (lv_room (Nat.le_of_ble_eq_true rfl)) dX15_tagStart_85 ⟨Nat.le_of_ble_eq_true rfl, Nat.le_of_ble_eq_true rfl⟩) hS (fun q _ h => hFc q h) hFc (fun u r_48 t H1 locs ht hvm hw_49 hB hz1 hk1 hS => ?_)
      obtain ⟨ha9, hP1, hK1, hD1⟩ := hB
      rw [ht] at hP1
      try dsimp only at hw_49
      obtain ⟨hP, hD⟩ := va_join (wr := [(xm, .inr (20, [.int 0, .int 0, .ref kn, .int 0, .int 0, .int 1, .ref ml, .ref cl, .ref rg, .ref tr, .ref (aK 0), .ref (aK 0), .ref fl, .int 0, .int 0, .int 0, .int 0, .int 0, .int 0, .int 0, .null]))]) (w1 := [(q_40, .inr (1, [.ref q_41, .int 0, .int 0, .int 0])), (q_41, .inl (cB, 16, .inl u))]) hP hD [1, 2] [0] rfl rfl (by decide) (by decide) hk1 hFc hP1 hD1
      generalize H1 = H at hP hS ⊢
      have hP : va_P (dC, dI) vwCl [(xm, .inr (20, [.int 0, .int 0, .ref kn, .int 0, .int 0, .int 1, .ref ml, .ref cl, .ref rg, .ref tr, .ref (aK 0), .ref (aK 0), .ref fl, .int 0, .int 0, .int 0, .int 0, .int 0, .int 0, .int 0, .null])), (q_40, .inr (1, [.ref q_41, .int 0, .int 0, .int 0])), (q_41, .inl (cB, 16, .inl u))] H := hP
      have hD : va_D A [(xm, .inr (20, [.int 0, .int 0, .ref kn, .int 0, .int 0, .int 1, .ref ml, .ref cl, .ref rg, .ref tr, .ref (aK 0), .ref (aK 0), .ref fl, .int 0, .int 0, .int 0, .int 0, .int 0, .int 0, .int 0, .null])), (q_40, .inr (1, [.ref q_41, .int 0, .int 0, .int 0])), (q_41, .inl (cB, 16, .inl u))] := hD
      rw [ha9]
      obtain ⟨f_47, ef_47⟩ : ∃ z, z = u := ⟨_, rfl⟩
      subst ef_47
      have hPc := hP.sub (ws' := [(q_40, .inr (1, [.ref q_41, .int 0, .int 0, .int 0])), (q_41, .inl (cB, 16, .inl f_47))]) [1, 2] rfl
      have hDc := hD.sub (ws' := [(q_40, .inr (1, [.ref q_41, .int 0, .int 0, .int 0])), (q_41, .inl (cB, 16, .inl f_47))]) [1, 2] (by decide) rfl
      have hKc := hK.sub (tys' := [(cB, .byte)]) [0] rfl
      have hFc := va_free (wc := [(q_40, .inr (1, [.ref q_41, .int 0, .int 0, .int 0])), (q_41, .inl (cB, 16, .inl f_47))]) hD hS hA [1, 2] rfl
      refine va_callr (va_runV (As := []) (rest := [.ref xm]) ⟨hx, hb, hml, hown, hts⟩ (c_J4_toString_0 l dC dI e0 aK aV cB q_40 q_41 0 f_47 H.size) (cwV 0 hts gX15_tagStart_J4_toString_0e30d rfl rfl rfl (by decide +kernel) ⟨Nat.le_of_ble_eq_true rfl, Nat.le_of_ble_eq_true rfl⟩) (pcVz (zM_ok e0 aK aV) hPc hDc hKc hN hZ hS hFc (ci := 1) (q0 := 0) rfl rfl) rfl rfl hl.1 rfl (lv_room (Nat.le_of_ble_eq_true rfl)) dX15_tagStart_88 ⟨Nat.le_of_ble_eq_true rfl, Nat.le_of_ble_eq_true rfl⟩) hS (fun q _ h => hFc q h) hFc (fun u r_52 t H1 locs ht hvm hw_53 hB hz1 hk1 hS => ?_)
      obtain ⟨q_50, f_51⟩ := u
      obtain ⟨hP1, hK1, hD1⟩ := hB
      rw [ht] at hP1
      try dsimp only at hw_53
      obtain ⟨hP, hD⟩ := va_join (wr := [(xm, .inr (20, [.int 0, .int 0, .ref kn, .int 0, .int 0, .int 1, .ref ml, .ref cl, .ref rg, .ref tr, .ref (aK 0), .ref (aK 0), .ref fl, .int 0, .int 0, .int 0, .int 0, .int 0, .int 0, .int 0, .null]))]) (w1 := [(q_40, .inr (1, [.ref q_41, .int 0, .int 0, .int 0])), (q_41, .inl (cB, 16, .inl f_47)), (r_52, .inr (0, [.ref q_50, .int 0, .int 0, .int 0])), (q_50, .inl (cB, 0, .inl f_51))]) hP hD [1, 2] [0] rfl rfl (by decide) (by decide) hk1 hFc hP1 hD1
      generalize H1 = H at hP hS ⊢
      have hP : va_P (dC, dI) vwCl [(xm, .inr (20, [.int 0, .int 0, .ref kn, .int 0, .int 0, .int 1, .ref ml, .ref cl, .ref rg, .ref tr, .ref (aK 0), .ref (aK 0), .ref fl, .int 0, .int 0, .int 0, .int 0, .int 0, .int 0, .int 0, .null])), (q_40, .inr (1, [.ref q_41, .int 0, .int 0, .int 0])), (q_41, .inl (cB, 16, .inl f_47)), (r_52, .inr (0, [.ref q_50, .int 0, .int 0, .int 0])), (q_50, .inl (cB, 0, .inl f_51))] H := hP
      have hD : va_D A [(xm, .inr (20, [.int 0, .int 0, .ref kn, .int 0, .int 0, .int 1, .ref ml, .ref cl, .ref rg, .ref tr, .ref (aK 0), .ref (aK 0), .ref fl, .int 0, .int 0, .int 0, .int 0, .int 0, .int 0, .int 0, .null])), (q_40, .inr (1, [.ref q_41, .int 0, .int 0, .int 0])), (q_41, .inl (cB, 16, .inl f_47)), (r_52, .inr (0, [.ref q_50, .int 0, .int 0, .int 0])), (q_50, .inl (cB, 0, .inl f_51))] := hD
      refine W.widen (k := 4) (n := 24) (Nat.le_of_ble_eq_true rfl) (Nat.le_of_ble_eq_true rfl) ?_
      refine va_put (D := (dC, dI)) (ci := 20) (v := .ref r_52) (ty := .object "java/lang/String") (C := RX15) (T := TX15) (N := 21) hx hb hts iWX15 tyX15 tyX15_ok nmX15 hown hK hP hD hS 0 rfl rfl 10 (by decide) (hts (.fieldLink RX15 199 "BeaverhallModel" "tagStart" "Ljava/lang/String;") (by decide +kernel)) (fun _ h9 => h9) rfl (by decide +kernel) rfl rfl (Nat.le_of_ble_eq_true rfl) dX15_tagStart_91 (fun H locs hP hD hS => ?_)
      have hP : va_P (dC, dI) vwCl [(xm, .inr (20, [.int 0, .int 0, .ref kn, .int 0, .int 0, .int 1, .ref ml, .ref cl, .ref rg, .ref tr, .ref r_52, .ref (aK 0), .ref fl, .int 0, .int 0, .int 0, .int 0, .int 0, .int 0, .int 0, .null])), (q_40, .inr (1, [.ref q_41, .int 0, .int 0, .int 0])), (q_41, .inl (cB, 16, .inl f_47)), (r_52, .inr (0, [.ref q_50, .int 0, .int 0, .int 0])), (q_50, .inl (cB, 0, .inl f_51))] H := hP
      have hD : va_D A [(xm, .inr (20, [.int 0, .int 0, .ref kn, .int 0, .int 0, .int 1, .ref ml, .ref cl, .ref rg, .ref tr, .ref r_52, .ref (aK 0), .ref fl, .int 0, .int 0, .int 0, .int 0, .int 0, .int 0, .int 0, .null])), (q_40, .inr (1, [.ref q_41, .int 0, .int 0, .int 0])), (q_41, .inl (cB, 16, .inl f_47)), (r_52, .inr (0, [.ref q_50, .int 0, .int 0, .int 0])), (q_50, .inl (cB, 0, .inl f_51))] := hD
      refine lv_aload_n hx hb dX15_tagStart_94 rfl (lv_at hl 0 rfl) ?_
      refine va_get (D := (dC, dI)) (ci := 20) (v := .int 1) (C := RX15) (T := TX15) (N := 21) hx hb hts iWX15 hown hK hP 0 rfl rfl 5 (by decide) (hts (.fieldLink RX15 209 "BeaverhallModel" "thrown" "I") (by decide +kernel)) (fun _ h9 => h9) rfl dX15_tagStart_95 ?_
      refine lv_if_le (tgt := 105) hx hb dX15_tagStart_98 (by decide) (fun c98_54 => ?_) (fun c98_54 => ?_)
      · exact absurd c98_54 (by decide)
      · refine lv_iconst (v := 0) hx hb dX15_tagStart_101 (by decide) ?_
        refine lv_goto (tgt := 112) hx hb dX15_tagStart_102 (by decide) ?_
        have hP9 := hP.sub (ws' := [(xm, .inr (20, [.int 0, .int 0, .ref kn, .int 0, .int 0, .int 1, .ref ml, .ref cl, .ref rg, .ref tr, .ref r_52, .ref (aK 0), .ref fl, .int 0, .int 0, .int 0, .int 0, .int 0, .int 0, .int 0, .null]))]) [0] rfl
        have hD9 := hD.sub (ws' := [(xm, .inr (20, [.int 0, .int 0, .ref kn, .int 0, .int 0, .int 1, .ref ml, .ref cl, .ref rg, .ref tr, .ref r_52, .ref (aK 0), .ref fl, .int 0, .int 0, .int 0, .int 0, .int 0, .int 0, .int 0, .null]))]) [0] (by decide) rfl
        have hK9 := hK.sub (tys' := [(cB, .byte)]) [0] rfl
        refine W.widen (k := 8) (n := 50) (Nat.le_of_ble_eq_true rfl) (Nat.le_of_ble_eq_true rfl) ?_
        exact W.iret (v := 0) hx hb hr (fun t ht hW => ⟨⟨0, [.int 0, .int 0, .ref kn, .int 0, .int 0, .int 1, .ref ml, .ref cl, .ref rg, .ref tr, .ref r_52, .ref (aK 0), .ref fl, .int 0, .int 0, .int 0, .int 0, .int 0, .int 0, .int 0, .null], rfl, (Or.inr ⟨(fun h9 => hn_39 h9), rfl⟩), ⟨by rw [ht]; exact hP9, va_K.moved hW.alike hK9, hD9⟩⟩, hS.F ht⟩) hS.2.2 dX15_tagStart_112

set_option maxHeartbeats 4000000 in
set_option maxRecDepth 100000 in
/-- X15_tag -/
theorem c_X15_tag (l : Launch) (dC : Nat → ClassId) (dI : Nat → Nat → Nat) (xm ml cl fl kn rg tr : Nat) (e0 : Nat) (aK aV : Nat → Nat) (cB : ClassId) (p0 p1 : Int32) (sz : Nat) : Met l yX15_tag wsX15_tag ({ frames := 8, cells := 4, slots := 24, locals := 214 }) (va_Pc [.ref xm, .int p0, .int p1] (cPCz (zM e0 aK aV) dC dI [(xm, .inr (20, [.int 0, .int 0, .ref kn, .int 0, .int 0, .int 0, .ref ml, .ref cl, .ref rg, .ref tr, .ref (aK 0), .ref (aK 0), .ref fl, .int 0, .int 0, .int 0, .int 0, .int 0, .int 0, .int 0, .null]))] [(cB, .byte)] sz)) (va_Qi (fun (r : Int32) (u : List Value) => (pTag p0 p1 ∧ u[5]? = some (.int 0) ∧ r = 0) ∨ (¬ pTag p0 p1 ∧ u[5]? = some (.int 1))) (fun (u : List Value) t => cQB dC dI [(xm, .inr (20, u))] [(cB, .byte)] (va_A [(xm, .inr (20, [.int 0, .int 0, .ref kn, .int 0, .int 0, .int 0, .ref ml, .ref cl, .ref rg, .ref tr, .ref (aK 0), .ref (aK 0), .ref fl, .int 0, .int 0, .int 0, .int 0, .int 0, .int 0, .int 0, .null]))] sz) t) (va_A [(xm, .inr (20, [.int 0, .int 0, .ref kn, .int 0, .int 0, .int 0, .ref ml, .ref cl, .ref rg, .ref tr, .ref (aK 0), .ref (aK 0), .ref fl, .int 0, .int 0, .int 0, .int 0, .int 0, .int 0, .int 0, .null]))] sz)) 4 24 (va_A [(xm, .inr (20, [.int 0, .int 0, .ref kn, .int 0, .int 0, .int 0, .ref ml, .ref cl, .ref rg, .ref tr, .ref (aK 0), .ref (aK 0), .ref fl, .int 0, .int 0, .int 0, .int 0, .int 0, .int 0, .int 0, .null]))] sz) := by
  refine Met.ofW (cc := cX15_tag) (maxL := 7) (ret := (some .int)) (by decide) rfl ?_
  intro p e s m args below meth c s₁ B hml hv
  obtain ⟨rfl, ⟨hsz, hP, hK, hD0, hN⟩, hZ⟩ := hv
  have hx := B.exec
  have hb := B.bytes
  have hr := B.returns
  have hts := atoms_spec (ws := wsX15_tag) B.pre
  have hown : s.vm.findClass RX15 = some m.cls := findClass_of_methodNamed B.named
  have hlocks := B.notSynchronized
  subst hsz
  have hD := hD0.self (sz := s.heap.size)
  generalize hAe : va_A [(xm, .inr (20, [.int 0, .int 0, .ref kn, .int 0, .int 0, .int 0, .ref ml, .ref cl, .ref rg, .ref tr, .ref (aK 0), .ref (aK 0), .ref fl, .int 0, .int 0, .int 0, .int 0, .int 0, .int 0, .int 0, .null]))] s.heap.size = A at hD hZ ⊢
  have hA : ∀ q : Nat, s.heap.size ≤ q → A q := fun q h => by rw [← hAe]; exact Or.inr h
  have hS : va_S A s.heap s.heap [] := va_S.rf
  have hP : va_P (dC, dI) vwCl [(xm, .inr (20, [.int 0, .int 0, .ref kn, .int 0, .int 0, .int 0, .ref ml, .ref cl, .ref rg, .ref tr, .ref (aK 0), .ref (aK 0), .ref fl, .int 0, .int 0, .int 0, .int 0, .int 0, .int 0, .int 0, .null]))] s.heap := hP
  have hD : va_D A [(xm, .inr (20, [.int 0, .int 0, .ref kn, .int 0, .int 0, .int 0, .ref ml, .ref cl, .ref rg, .ref tr, .ref (aK 0), .ref (aK 0), .ref fl, .int 0, .int 0, .int 0, .int 0, .int 0, .int 0, .int 0, .null]))] := hD
  have hl := lv_entry ([.ref xm, .int p0, .int p1]) (n := 7) (Nat.le_of_ble_eq_true rfl)
  rw [lg_entry_eq]
  generalize (lg_sl ([.ref xm, .int p0, .int p1]) ++ List.replicate (7 - (lg_sl ([.ref xm, .int p0, .int p1])).length) Slot.unset).toArray = ls at hl ⊢
  have hl : lv_has ls 7 [(0, .ref xm), (1, .int p0), (2, .int p1)] := hl
  have iWJ4 : ∀ w ∈ u_ws RJ4 TJ4 4, w ∈ wsX15_tag := by decide +kernel
  have iWX15 : ∀ w ∈ u_ws RX15 TX15 21, w ∈ wsX15_tag := by decide +kernel
  refine lv_aload_n hx hb dX15_tag_0 rfl (lv_at hl 0 rfl) ?_
  refine lv_iload_n hx hb dX15_tag_1 rfl (lv_at hl 1 rfl) ?_
  refine lv_i2l hx hb dX15_tag_2 rfl ?_
  refine lv_ldc2 (v := (2)) hx hb hown (hts (.constantLong RX15 217 (2)) (by decide +kernel)) dX15_tag_3 ?_
  refine lv_ldc2 (v := (3)) hx hb hown (hts (.constantLong RX15 337 (3)) (by decide +kernel)) dX15_tag_6 ?_
  have hPc := hP.sub (ws' := []) [] rfl
  have hDc := hD.sub (ws' := []) [] (by decide) rfl
  have hKc := hK.sub (tys' := []) [] rfl
  have hFc := va_free (wc := []) hD hS hA [] rfl
  refine va_calli (va_runS (As := [.long p0.toInt64, .long (2), .long (3)]) (rest := [.ref xm]) ⟨hx, hb, hml, hown, hts⟩ (c_X15_in l dC dI p0.toInt64 (2) (3) s.heap.size) (va_cwS 3 hts gX15_tag_X15_in rfl rfl rfl (by decide +kernel) ⟨Nat.le_of_ble_eq_true rfl, Nat.le_of_ble_eq_true rfl⟩) (pcS hPc hDc hKc hN) rfl rfl hl.1 rfl (lv_room (Nat.le_of_ble_eq_true rfl)) dX15_tag_9 ⟨Nat.le_of_ble_eq_true rfl, Nat.le_of_ble_eq_true rfl⟩) hS (fun q _ h => hFc q h) hFc (fun r_1 u t H1 locs ht hvm hw_2 hB hz1 hk1 hS => ?_)
  obtain ⟨hP1, hK1, hD1⟩ := hB
  rw [ht] at hP1
  try dsimp only at hw_2
  obtain ⟨hP, hD⟩ := va_join (wr := [(xm, .inr (20, [.int 0, .int 0, .ref kn, .int 0, .int 0, .int 0, .ref ml, .ref cl, .ref rg, .ref tr, .ref (aK 0), .ref (aK 0), .ref fl, .int 0, .int 0, .int 0, .int 0, .int 0, .int 0, .int 0, .null]))]) (w1 := []) hP hD [] [0] rfl rfl (by decide) (by decide) hk1 hFc hP1 hD1
  generalize H1 = H at hP hS ⊢
  have hP : va_P (dC, dI) vwCl [(xm, .inr (20, [.int 0, .int 0, .ref kn, .int 0, .int 0, .int 0, .ref ml, .ref cl, .ref rg, .ref tr, .ref (aK 0), .ref (aK 0), .ref fl, .int 0, .int 0, .int 0, .int 0, .int 0, .int 0, .int 0, .null]))] H := hP
  have hD : va_D A [(xm, .inr (20, [.int 0, .int 0, .ref kn, .int 0, .int 0, .int 0, .ref ml, .ref cl, .ref rg, .ref tr, .ref (aK 0), .ref (aK 0), .ref fl, .int 0, .int 0, .int 0, .int 0, .int 0, .int 0, .int 0, .null]))] := hD
  have hi_3 := in32 (2) (3) (by decide) (by decide) hw_2
  refine lv_if_eq (tgt := 31) hx hb dX15_tag_12 (by decide) (fun c12_4 => ?_) (fun c12_4 => ?_)
  · have hn_5 := (hi_3).elim (fun h => absurd (h.1.symm.trans c12_4) (by decide)) (fun h => h.2)
    refine lv_iconst (v := 1) hx hb dX15_tag_31 (by decide) ?_
    refine va_put (D := (dC, dI)) (ci := 20) (v := .int 1) (ty := .int) (C := RX15) (T := TX15) (N := 21) hx hb hts iWX15 tyX15 tyX15_ok nmX15 hown hK hP hD hS 0 rfl rfl 5 (by decide) (hts (.fieldLink RX15 209 "BeaverhallModel" "thrown" "I") (by decide +kernel)) (fun _ h9 => h9) rfl (by decide +kernel) rfl rfl (Nat.le_of_ble_eq_true rfl) dX15_tag_32 (fun H locs hP hD hS => ?_)
    have hP : va_P (dC, dI) vwCl [(xm, .inr (20, [.int 0, .int 0, .ref kn, .int 0, .int 0, .int 1, .ref ml, .ref cl, .ref rg, .ref tr, .ref (aK 0), .ref (aK 0), .ref fl, .int 0, .int 0, .int 0, .int 0, .int 0, .int 0, .int 0, .null]))] H := hP
    have hD : va_D A [(xm, .inr (20, [.int 0, .int 0, .ref kn, .int 0, .int 0, .int 1, .ref ml, .ref cl, .ref rg, .ref tr, .ref (aK 0), .ref (aK 0), .ref fl, .int 0, .int 0, .int 0, .int 0, .int 0, .int 0, .int 0, .null]))] := hD
    refine lv_aload_n hx hb dX15_tag_35 rfl (lv_at hl 0 rfl) ?_
    refine va_get (D := (dC, dI)) (ci := 20) (v := .int 1) (C := RX15) (T := TX15) (N := 21) hx hb hts iWX15 hown hK hP 0 rfl rfl 5 (by decide) (hts (.fieldLink RX15 209 "BeaverhallModel" "thrown" "I") (by decide +kernel)) (fun _ h9 => h9) rfl dX15_tag_36 ?_
    refine lv_if_le (tgt := 44) hx hb dX15_tag_39 (by decide) (fun c39_6 => ?_) (fun c39_6 => ?_)
    · exact absurd c39_6 (by decide)
    · refine lv_iconst (v := 0) hx hb dX15_tag_42 (by decide) ?_
      have hP9 := hP.sub (ws' := [(xm, .inr (20, [.int 0, .int 0, .ref kn, .int 0, .int 0, .int 1, .ref ml, .ref cl, .ref rg, .ref tr, .ref (aK 0), .ref (aK 0), .ref fl, .int 0, .int 0, .int 0, .int 0, .int 0, .int 0, .int 0, .null]))]) [0] rfl
      have hD9 := hD.sub (ws' := [(xm, .inr (20, [.int 0, .int 0, .ref kn, .int 0, .int 0, .int 1, .ref ml, .ref cl, .ref rg, .ref tr, .ref (aK 0), .ref (aK 0), .ref fl, .int 0, .int 0, .int 0, .int 0, .int 0, .int 0, .int 0, .null]))]) [0] (by decide) rfl
      have hK9 := hK.sub (tys' := [(cB, .byte)]) [0] rfl
      refine W.widen (k := 4) (n := 24) (Nat.le_of_ble_eq_true rfl) (Nat.le_of_ble_eq_true rfl) ?_
      exact W.iret (v := 0) hx hb hr (fun t ht hW => ⟨⟨0, [.int 0, .int 0, .ref kn, .int 0, .int 0, .int 1, .ref ml, .ref cl, .ref rg, .ref tr, .ref (aK 0), .ref (aK 0), .ref fl, .int 0, .int 0, .int 0, .int 0, .int 0, .int 0, .int 0, .null], rfl, (Or.inr ⟨(fun h9 => hn_5 h9.1), rfl⟩), ⟨by rw [ht]; exact hP9, va_K.moved hW.alike hK9, hD9⟩⟩, hS.F ht⟩) hS.2.2 dX15_tag_43
  · have hn_7 := (hi_3).elim (fun h => h.2) (fun h => absurd h.1 c12_4)
    refine lv_iload_n hx hb dX15_tag_15 rfl (lv_at hl 2 rfl) ?_
    refine lv_i2l hx hb dX15_tag_16 rfl ?_
    refine lv_lconst (v := 0) hx hb dX15_tag_17 (by decide) ?_
    refine lv_ldc2 (v := (2000)) hx hb hown (hts (.constantLong RX15 383 (2000)) (by decide +kernel)) dX15_tag_18 ?_
    have hPc := hP.sub (ws' := []) [] rfl
    have hDc := hD.sub (ws' := []) [] (by decide) rfl
    have hKc := hK.sub (tys' := []) [] rfl
    have hFc := va_free (wc := []) hD hS hA [] rfl
    refine va_calli (va_runS (As := [.long p1.toInt64, .long 0, .long (2000)]) (rest := [.ref xm]) ⟨hx, hb, hml, hown, hts⟩ (c_X15_in l dC dI p1.toInt64 0 (2000) H.size) (va_cwS 3 hts gX15_tag_X15_in rfl rfl rfl (by decide +kernel) ⟨Nat.le_of_ble_eq_true rfl, Nat.le_of_ble_eq_true rfl⟩) (pcS hPc hDc hKc hN) rfl rfl hl.1 rfl (lv_room (Nat.le_of_ble_eq_true rfl)) dX15_tag_21 ⟨Nat.le_of_ble_eq_true rfl, Nat.le_of_ble_eq_true rfl⟩) hS (fun q _ h => hFc q h) hFc (fun r_8 u t H1 locs ht hvm hw_9 hB hz1 hk1 hS => ?_)
    obtain ⟨hP1, hK1, hD1⟩ := hB
    rw [ht] at hP1
    try dsimp only at hw_9
    obtain ⟨hP, hD⟩ := va_join (wr := [(xm, .inr (20, [.int 0, .int 0, .ref kn, .int 0, .int 0, .int 0, .ref ml, .ref cl, .ref rg, .ref tr, .ref (aK 0), .ref (aK 0), .ref fl, .int 0, .int 0, .int 0, .int 0, .int 0, .int 0, .int 0, .null]))]) (w1 := []) hP hD [] [0] rfl rfl (by decide) (by decide) hk1 hFc hP1 hD1
    generalize H1 = H at hP hS ⊢
    have hP : va_P (dC, dI) vwCl [(xm, .inr (20, [.int 0, .int 0, .ref kn, .int 0, .int 0, .int 0, .ref ml, .ref cl, .ref rg, .ref tr, .ref (aK 0), .ref (aK 0), .ref fl, .int 0, .int 0, .int 0, .int 0, .int 0, .int 0, .int 0, .null]))] H := hP
    have hD : va_D A [(xm, .inr (20, [.int 0, .int 0, .ref kn, .int 0, .int 0, .int 0, .ref ml, .ref cl, .ref rg, .ref tr, .ref (aK 0), .ref (aK 0), .ref fl, .int 0, .int 0, .int 0, .int 0, .int 0, .int 0, .int 0, .null]))] := hD
    have hi_10 := in32 (0) (2000) (by decide) (by decide) hw_9
    refine lv_if_eq (tgt := 31) hx hb dX15_tag_24 (by decide) (fun c24_11 => ?_) (fun c24_11 => ?_)
    · have hn_12 := (hi_10).elim (fun h => absurd (h.1.symm.trans c24_11) (by decide)) (fun h => h.2)
      refine lv_iconst (v := 1) hx hb dX15_tag_31 (by decide) ?_
      refine va_put (D := (dC, dI)) (ci := 20) (v := .int 1) (ty := .int) (C := RX15) (T := TX15) (N := 21) hx hb hts iWX15 tyX15 tyX15_ok nmX15 hown hK hP hD hS 0 rfl rfl 5 (by decide) (hts (.fieldLink RX15 209 "BeaverhallModel" "thrown" "I") (by decide +kernel)) (fun _ h9 => h9) rfl (by decide +kernel) rfl rfl (Nat.le_of_ble_eq_true rfl) dX15_tag_32 (fun H locs hP hD hS => ?_)
      have hP : va_P (dC, dI) vwCl [(xm, .inr (20, [.int 0, .int 0, .ref kn, .int 0, .int 0, .int 1, .ref ml, .ref cl, .ref rg, .ref tr, .ref (aK 0), .ref (aK 0), .ref fl, .int 0, .int 0, .int 0, .int 0, .int 0, .int 0, .int 0, .null]))] H := hP
      have hD : va_D A [(xm, .inr (20, [.int 0, .int 0, .ref kn, .int 0, .int 0, .int 1, .ref ml, .ref cl, .ref rg, .ref tr, .ref (aK 0), .ref (aK 0), .ref fl, .int 0, .int 0, .int 0, .int 0, .int 0, .int 0, .int 0, .null]))] := hD
      refine lv_aload_n hx hb dX15_tag_35 rfl (lv_at hl 0 rfl) ?_
      refine va_get (D := (dC, dI)) (ci := 20) (v := .int 1) (C := RX15) (T := TX15) (N := 21) hx hb hts iWX15 hown hK hP 0 rfl rfl 5 (by decide) (hts (.fieldLink RX15 209 "BeaverhallModel" "thrown" "I") (by decide +kernel)) (fun _ h9 => h9) rfl dX15_tag_36 ?_
      refine lv_if_le (tgt := 44) hx hb dX15_tag_39 (by decide) (fun c39_13 => ?_) (fun c39_13 => ?_)
      · exact absurd c39_13 (by decide)
      · refine lv_iconst (v := 0) hx hb dX15_tag_42 (by decide) ?_
        have hP9 := hP.sub (ws' := [(xm, .inr (20, [.int 0, .int 0, .ref kn, .int 0, .int 0, .int 1, .ref ml, .ref cl, .ref rg, .ref tr, .ref (aK 0), .ref (aK 0), .ref fl, .int 0, .int 0, .int 0, .int 0, .int 0, .int 0, .int 0, .null]))]) [0] rfl
        have hD9 := hD.sub (ws' := [(xm, .inr (20, [.int 0, .int 0, .ref kn, .int 0, .int 0, .int 1, .ref ml, .ref cl, .ref rg, .ref tr, .ref (aK 0), .ref (aK 0), .ref fl, .int 0, .int 0, .int 0, .int 0, .int 0, .int 0, .int 0, .null]))]) [0] (by decide) rfl
        have hK9 := hK.sub (tys' := [(cB, .byte)]) [0] rfl
        refine W.widen (k := 4) (n := 24) (Nat.le_of_ble_eq_true rfl) (Nat.le_of_ble_eq_true rfl) ?_
        exact W.iret (v := 0) hx hb hr (fun t ht hW => ⟨⟨0, [.int 0, .int 0, .ref kn, .int 0, .int 0, .int 1, .ref ml, .ref cl, .ref rg, .ref tr, .ref (aK 0), .ref (aK 0), .ref fl, .int 0, .int 0, .int 0, .int 0, .int 0, .int 0, .int 0, .null], rfl, (Or.inr ⟨(fun h9 => hn_12 h9.2), rfl⟩), ⟨by rw [ht]; exact hP9, va_K.moved hW.alike hK9, hD9⟩⟩, hS.F ht⟩) hS.2.2 dX15_tag_43
    · have hn_14 := (hi_10).elim (fun h => h.2) (fun h => absurd h.1 c24_11)
      refine lv_iconst (v := 0) hx hb dX15_tag_27 (by decide) ?_
      refine lv_goto (tgt := 32) hx hb dX15_tag_28 (by decide) ?_
      refine va_put (D := (dC, dI)) (ci := 20) (v := .int 0) (ty := .int) (C := RX15) (T := TX15) (N := 21) hx hb hts iWX15 tyX15 tyX15_ok nmX15 hown hK hP hD hS 0 rfl rfl 5 (by decide) (hts (.fieldLink RX15 209 "BeaverhallModel" "thrown" "I") (by decide +kernel)) (fun _ h9 => h9) rfl (by decide +kernel) rfl rfl (Nat.le_of_ble_eq_true rfl) dX15_tag_32 (fun H locs hP hD hS => ?_)
      have hP : va_P (dC, dI) vwCl [(xm, .inr (20, [.int 0, .int 0, .ref kn, .int 0, .int 0, .int 0, .ref ml, .ref cl, .ref rg, .ref tr, .ref (aK 0), .ref (aK 0), .ref fl, .int 0, .int 0, .int 0, .int 0, .int 0, .int 0, .int 0, .null]))] H := hP
      have hD : va_D A [(xm, .inr (20, [.int 0, .int 0, .ref kn, .int 0, .int 0, .int 0, .ref ml, .ref cl, .ref rg, .ref tr, .ref (aK 0), .ref (aK 0), .ref fl, .int 0, .int 0, .int 0, .int 0, .int 0, .int 0, .int 0, .null]))] := hD
      refine lv_aload_n hx hb dX15_tag_35 rfl (lv_at hl 0 rfl) ?_
      refine va_get (D := (dC, dI)) (ci := 20) (v := .int 0) (C := RX15) (T := TX15) (N := 21) hx hb hts iWX15 hown hK hP 0 rfl rfl 5 (by decide) (hts (.fieldLink RX15 209 "BeaverhallModel" "thrown" "I") (by decide +kernel)) (fun _ h9 => h9) rfl dX15_tag_36 ?_
      refine lv_if_le (tgt := 44) hx hb dX15_tag_39 (by decide) (fun c39_15 => ?_) (fun c39_15 => ?_)
      · refine va_new (ci := 1) (fs := [.null, .int 0, .int 0, .int 0]) (C := RJ4) (T := TJ4) (N := 4) hx hb hts iWJ4 tyJ4 tyJ4_ok hown (hts (.classLink RX15 369 RJ4) (by decide +kernel)) (hts (.instantiable RJ4 4) (by decide +kernel)) (hts (.initialized RJ4) (by decide +kernel)) hK hP hD hS hA rfl (fun j hj => by rcases (show j = 0 ∨ j = 1 ∨ j = 2 ∨ j = 3 by omega) with rfl | rfl | rfl | rfl <;> rfl) (Nat.le_of_ble_eq_true rfl) (Nat.le_of_ble_eq_true rfl) dX15_tag_44 (fun q_16 H hP hD hS => ?_)
        have hP : va_P (dC, dI) vwCl [(xm, .inr (20, [.int 0, .int 0, .ref kn, .int 0, .int 0, .int 0, .ref ml, .ref cl, .ref rg, .ref tr, .ref (aK 0), .ref (aK 0), .ref fl, .int 0, .int 0, .int 0, .int 0, .int 0, .int 0, .int 0, .null])), (q_16, .inr (1, [.null, .int 0, .int 0, .int 0]))] H := hP
        have hD : va_D A [(xm, .inr (20, [.int 0, .int 0, .ref kn, .int 0, .int 0, .int 0, .ref ml, .ref cl, .ref rg, .ref tr, .ref (aK 0), .ref (aK 0), .ref fl, .int 0, .int 0, .int 0, .int 0, .int 0, .int 0, .int 0, .null])), (q_16, .inr (1, [.null, .int 0, .int 0, .int 0]))] := hD
        refine W.widen (k := 1) (n := 4) (Nat.le_of_ble_eq_true rfl) (Nat.le_of_ble_eq_true rfl) ?_
        refine lv_dup hx hb dX15_tag_47 rfl ?_
        refine lv_aload_n hx hb dX15_tag_48 rfl (lv_at hl 0 rfl) ?_
        refine va_get (D := (dC, dI)) (ci := 20) (v := .ref (aK 0)) (C := RX15) (T := TX15) (N := 21) hx hb hts iWX15 hown hK hP 0 rfl rfl 10 (by decide) (hts (.fieldLink RX15 199 "BeaverhallModel" "tagStart" "Ljava/lang/String;") (by decide +kernel)) (fun _ h9 => h9) rfl dX15_tag_49 ?_
        have hPc := hP.sub (ws' := [(q_16, .inr (1, [.null, .int 0, .int 0, .int 0]))]) [1] rfl
        have hDc := hD.sub (ws' := [(q_16, .inr (1, [.null, .int 0, .int 0, .int 0]))]) [1] (by decide) rfl
        have hKc := hK.sub (tys' := [(cB, .byte)]) [0] rfl
        have hFc := va_free (wc := [(q_16, .inr (1, [.null, .int 0, .int 0, .int 0]))]) hD hS hA [1] rfl
        refine va_callv (va_runI (As := [.ref (aK 0)]) (rest := [.ref q_16]) ⟨hx, hb, hml, hown, hts⟩ (c_J4_init_a7421 l dC dI e0 aK aV cB q_16 H.size) (cwI 1 hts gX15_tag_J4_init_a7421 rfl rfl rfl (hts (.initialized RJ4) (by decide +kernel)) (hts (.methodLink RX15 385 yJ4_init_a7421) (by decide +kernel)) (hts (.instanceMethod yJ4_init_a7421) (by decide +kernel)) rfl (by decide +kernel) ⟨Nat.le_of_ble_eq_true rfl, Nat.le_of_ble_eq_true rfl⟩) (pcSz (zM_ok e0 aK aV) hPc hDc hKc hN hZ hS hFc) rfl rfl hl.1 rfl (lv_room (Nat.le_of_ble_eq_true rfl)) dX15_tag_52 ⟨Nat.le_of_ble_eq_true rfl, Nat.le_of_ble_eq_true rfl⟩) hS (fun q _ h => hFc q h) hFc (fun u t H1 locs ht hvm hw_19 hB hz1 hk1 hS => ?_)
        obtain ⟨q_17, f_18⟩ := u
        obtain ⟨hP1, hK1, hD1⟩ := hB
        rw [ht] at hP1
        try dsimp only at hw_19
        obtain ⟨hP, hD⟩ := va_join (wr := [(xm, .inr (20, [.int 0, .int 0, .ref kn, .int 0, .int 0, .int 0, .ref ml, .ref cl, .ref rg, .ref tr, .ref (aK 0), .ref (aK 0), .ref fl, .int 0, .int 0, .int 0, .int 0, .int 0, .int 0, .int 0, .null]))]) (w1 := [(q_16, .inr (1, [.ref q_17, .int 0, .int 0, .int 0])), (q_17, .inl (cB, 16, .inl f_18))]) hP hD [1] [0] rfl rfl (by decide) (by decide) hk1 hFc hP1 hD1
        generalize H1 = H at hP hS ⊢
        have hP : va_P (dC, dI) vwCl [(xm, .inr (20, [.int 0, .int 0, .ref kn, .int 0, .int 0, .int 0, .ref ml, .ref cl, .ref rg, .ref tr, .ref (aK 0), .ref (aK 0), .ref fl, .int 0, .int 0, .int 0, .int 0, .int 0, .int 0, .int 0, .null])), (q_16, .inr (1, [.ref q_17, .int 0, .int 0, .int 0])), (q_17, .inl (cB, 16, .inl f_18))] H := hP
        have hD : va_D A [(xm, .inr (20, [.int 0, .int 0, .ref kn, .int 0, .int 0, .int 0, .ref ml, .ref cl, .ref rg, .ref tr, .ref (aK 0), .ref (aK 0), .ref fl, .int 0, .int 0, .int 0, .int 0, .int 0, .int 0, .int 0, .null])), (q_16, .inr (1, [.ref q_17, .int 0, .int 0, .int 0])), (q_17, .inl (cB, 16, .inl f_18))] := hD
        refine W.widen (k := 2) (n := 20) (Nat.le_of_ble_eq_true rfl) (Nat.le_of_ble_eq_true rfl) ?_
        refine lv_astore_n (lv' := [(3, .ref q_16), (0, .ref xm), (1, .int p0), (2, .int p1)]) hx hb dX15_tag_55 rfl hl (by decide) rfl (fun ls hl => ?_)
        refine lv_iconst (v := 0) hx hb dX15_tag_56 (by decide) ?_
        refine lv_istore (lv' := [(4, .int 0), (3, .ref q_16), (0, .ref xm), (1, .int p0), (2, .int p1)]) hx hb dX15_tag_57 hl (by decide) rfl (fun ls hl => ?_)
        refine lv_iconst (v := 1) hx hb dX15_tag_59 (by decide) ?_
        refine lv_istore (lv' := [(5, .int 1), (4, .int 0), (3, .ref q_16), (0, .ref xm), (1, .int p0), (2, .int p1)]) hx hb dX15_tag_60 hl (by decide) rfl (fun ls hl => ?_)
        refine lv_iload hx hb dX15_tag_62 (lv_at hl 0 rfl) ?_
        refine lv_if_eq (tgt := 146) hx hb dX15_tag_64 (by decide) (fun c64_20 => ?_) (fun c64_20 => ?_)
        · exact absurd c64_20 (by decide)
        · refine lv_iload hx hb dX15_tag_67 (lv_at hl 1 rfl) ?_
          refine lv_iload_n hx hb dX15_tag_69 rfl (lv_at hl 5 rfl) ?_
          refine lv_icmp_ge (tgt := 146) hx hb dX15_tag_70 (by decide) (fun c70_21 => ?_) (fun c70_21 => ?_)
          · refine lv_aload_n hx hb dX15_tag_146 rfl (lv_at hl 3 rfl) ?_
            refine lv_aload_n hx hb dX15_tag_147 rfl (lv_at hl 2 rfl) ?_
            have hPc := hP.sub (ws' := [(q_16, .inr (1, [.ref q_17, .int 0, .int 0, .int 0])), (q_17, .inl (cB, 16, .inl f_18))]) [1, 2] rfl
            have hDc := hD.sub (ws' := [(q_16, .inr (1, [.ref q_17, .int 0, .int 0, .int 0])), (q_17, .inl (cB, 16, .inl f_18))]) [1, 2] (by decide) rfl
            have hKc := hK.sub (tys' := [(cB, .byte)]) [0] rfl
            have hFc := va_free (wc := [(q_16, .inr (1, [.ref q_17, .int 0, .int 0, .int 0])), (q_17, .inl (cB, 16, .inl f_18))]) hD hS hA [1, 2] rfl
            refine va_callr (va_runV (As := []) (rest := [.ref xm]) ⟨hx, hb, hml, hown, hts⟩ (c_J4_toString_0 l dC dI e0 aK aV cB q_16 q_17 0 f_18 H.size) (cwV 0 hts gX15_tag_J4_toString_0e30d rfl rfl rfl (by decide +kernel) ⟨Nat.le_of_ble_eq_true rfl, Nat.le_of_ble_eq_true rfl⟩) (pcVz (zM_ok e0 aK aV) hPc hDc hKc hN hZ hS hFc (ci := 1) (q0 := 0) rfl rfl) rfl rfl hl.1 rfl (lv_room (Nat.le_of_ble_eq_true rfl)) dX15_tag_148 ⟨Nat.le_of_ble_eq_true rfl, Nat.le_of_ble_eq_true rfl⟩) hS (fun q _ h => hFc q h) hFc (fun u r_24 t H1 locs ht hvm hw_25 hB hz1 hk1 hS => ?_)
            obtain ⟨q_22, f_23⟩ := u
            obtain ⟨hP1, hK1, hD1⟩ := hB
            rw [ht] at hP1
            try dsimp only at hw_25
            obtain ⟨hP, hD⟩ := va_join (wr := [(xm, .inr (20, [.int 0, .int 0, .ref kn, .int 0, .int 0, .int 0, .ref ml, .ref cl, .ref rg, .ref tr, .ref (aK 0), .ref (aK 0), .ref fl, .int 0, .int 0, .int 0, .int 0, .int 0, .int 0, .int 0, .null]))]) (w1 := [(q_16, .inr (1, [.ref q_17, .int 0, .int 0, .int 0])), (q_17, .inl (cB, 16, .inl f_18)), (r_24, .inr (0, [.ref q_22, .int 0, .int 0, .int 0])), (q_22, .inl (cB, 0, .inl f_23))]) hP hD [1, 2] [0] rfl rfl (by decide) (by decide) hk1 hFc hP1 hD1
            generalize H1 = H at hP hS ⊢
            have hP : va_P (dC, dI) vwCl [(xm, .inr (20, [.int 0, .int 0, .ref kn, .int 0, .int 0, .int 0, .ref ml, .ref cl, .ref rg, .ref tr, .ref (aK 0), .ref (aK 0), .ref fl, .int 0, .int 0, .int 0, .int 0, .int 0, .int 0, .int 0, .null])), (q_16, .inr (1, [.ref q_17, .int 0, .int 0, .int 0])), (q_17, .inl (cB, 16, .inl f_18)), (r_24, .inr (0, [.ref q_22, .int 0, .int 0, .int 0])), (q_22, .inl (cB, 0, .inl f_23))] H := hP
            have hD : va_D A [(xm, .inr (20, [.int 0, .int 0, .ref kn, .int 0, .int 0, .int 0, .ref ml, .ref cl, .ref rg, .ref tr, .ref (aK 0), .ref (aK 0), .ref fl, .int 0, .int 0, .int 0, .int 0, .int 0, .int 0, .int 0, .null])), (q_16, .inr (1, [.ref q_17, .int 0, .int 0, .int 0])), (q_17, .inl (cB, 16, .inl f_18)), (r_24, .inr (0, [.ref q_22, .int 0, .int 0, .int 0])), (q_22, .inl (cB, 0, .inl f_23))] := hD
            refine W.widen (k := 4) (n := 24) (Nat.le_of_ble_eq_true rfl) (Nat.le_of_ble_eq_true rfl) ?_
            refine va_put (D := (dC, dI)) (ci := 20) (v := .ref r_24) (ty := .object "java/lang/String") (C := RX15) (T := TX15) (N := 21) hx hb hts iWX15 tyX15 tyX15_ok nmX15 hown hK hP hD hS 0 rfl rfl 11 (by decide) (hts (.fieldLink RX15 203 "BeaverhallModel" "tagged" "Ljava/lang/String;") (by decide +kernel)) (fun _ h9 => h9) rfl (by decide +kernel) rfl rfl (Nat.le_of_ble_eq_true rfl) dX15_tag_151 (fun H locs hP hD hS => ?_)
            have hP : va_P (dC, dI) vwCl [(xm, .inr (20, [.int 0, .int 0, .ref kn, .int 0, .int 0, .int 0, .ref ml, .ref cl, .ref rg, .ref tr, .ref (aK 0), .ref r_24, .ref fl, .int 0, .int 0, .int 0, .int 0, .int 0, .int 0, .int 0, .null])), (q_16, .inr (1, [.ref q_17, .int 0, .int 0, .int 0])), (q_17, .inl (cB, 16, .inl f_18)), (r_24, .inr (0, [.ref q_22, .int 0, .int 0, .int 0])), (q_22, .inl (cB, 0, .inl f_23))] H := hP
            have hD : va_D A [(xm, .inr (20, [.int 0, .int 0, .ref kn, .int 0, .int 0, .int 0, .ref ml, .ref cl, .ref rg, .ref tr, .ref (aK 0), .ref r_24, .ref fl, .int 0, .int 0, .int 0, .int 0, .int 0, .int 0, .int 0, .null])), (q_16, .inr (1, [.ref q_17, .int 0, .int 0, .int 0])), (q_17, .inl (cB, 16, .inl f_18)), (r_24, .inr (0, [.ref q_22, .int 0, .int 0, .int 0])), (q_22, .inl (cB, 0, .inl f_23))] := hD
            refine lv_iload hx hb dX15_tag_154 (lv_at hl 1 rfl) ?_
            have hP9 := hP.sub (ws' := [(xm, .inr (20, [.int 0, .int 0, .ref kn, .int 0, .int 0, .int 0, .ref ml, .ref cl, .ref rg, .ref tr, .ref (aK 0), .ref r_24, .ref fl, .int 0, .int 0, .int 0, .int 0, .int 0, .int 0, .int 0, .null]))]) [0] rfl
            have hD9 := hD.sub (ws' := [(xm, .inr (20, [.int 0, .int 0, .ref kn, .int 0, .int 0, .int 0, .ref ml, .ref cl, .ref rg, .ref tr, .ref (aK 0), .ref r_24, .ref fl, .int 0, .int 0, .int 0, .int 0, .int 0, .int 0, .int 0, .null]))]) [0] (by decide) rfl
            have hK9 := hK.sub (tys' := [(cB, .byte)]) [0] rfl
            exact W.iret (v := 0) hx hb hr (fun t ht hW => ⟨⟨0, [.int 0, .int 0, .ref kn, .int 0, .int 0, .int 0, .ref ml, .ref cl, .ref rg, .ref tr, .ref (aK 0), .ref r_24, .ref fl, .int 0, .int 0, .int 0, .int 0, .int 0, .int 0, .int 0, .null], rfl, (Or.inl ⟨⟨hn_7, hn_14⟩, rfl, rfl⟩), ⟨by rw [ht]; exact hP9, va_K.moved hW.alike hK9, hD9⟩⟩, hS.F ht⟩) hS.2.2 dX15_tag_156
          · refine lv_aload_n hx hb dX15_tag_73 rfl (lv_at hl 2 rfl) ?_
            have hPc := hP.sub (ws' := [(q_16, .inr (1, [.ref q_17, .int 0, .int 0, .int 0]))]) [1] rfl
            have hDc := hD.sub (ws' := [(q_16, .inr (1, [.ref q_17, .int 0, .int 0, .int 0]))]) [1] (by decide) rfl
            have hKc := hK.sub (tys' := []) [] rfl
            have hFc := va_free (wc := [(q_16, .inr (1, [.ref q_17, .int 0, .int 0, .int 0]))]) hD hS hA [1] rfl
            refine va_calli (va_runV (As := []) (rest := []) ⟨hx, hb, hml, hown, hts⟩ (c_J4_length_8abf5 l dC dI cB q_16 q_17 0 0 H.size) (cwV 0 hts gX15_tag_J4_length_8abf5 rfl rfl rfl (by decide +kernel) ⟨Nat.le_of_ble_eq_true rfl, Nat.le_of_ble_eq_true rfl⟩) (pcV hPc hDc hKc hN (ci := 1) (q0 := 0) rfl rfl) rfl rfl hl.1 rfl (lv_room (Nat.le_of_ble_eq_true rfl)) dX15_tag_74 ⟨Nat.le_of_ble_eq_true rfl, Nat.le_of_ble_eq_true rfl⟩) hS (fun q _ h => hFc q h) hFc (fun r_26 u t H1 locs ht hvm hw_27 hB hz1 hk1 hS => ?_)
            obtain ⟨hP1, hK1, hD1⟩ := hB
            rw [ht] at hP1
            try dsimp only at hw_27
            obtain ⟨hP, hD⟩ := va_join (wr := [(xm, .inr (20, [.int 0, .int 0, .ref kn, .int 0, .int 0, .int 0, .ref ml, .ref cl, .ref rg, .ref tr, .ref (aK 0), .ref (aK 0), .ref fl, .int 0, .int 0, .int 0, .int 0, .int 0, .int 0, .int 0, .null])), (q_17, .inl (cB, 16, .inl f_18))]) (w1 := [(q_16, .inr (1, [.ref q_17, .int 0, .int 0, .int 0]))]) hP hD [1] [0, 2] rfl rfl (by decide) (by decide) hk1 hFc hP1 hD1
            generalize H1 = H at hP hS ⊢
            have hP : va_P (dC, dI) vwCl [(xm, .inr (20, [.int 0, .int 0, .ref kn, .int 0, .int 0, .int 0, .ref ml, .ref cl, .ref rg, .ref tr, .ref (aK 0), .ref (aK 0), .ref fl, .int 0, .int 0, .int 0, .int 0, .int 0, .int 0, .int 0, .null])), (q_17, .inl (cB, 16, .inl f_18)), (q_16, .inr (1, [.ref q_17, .int 0, .int 0, .int 0]))] H := hP
            have hD : va_D A [(xm, .inr (20, [.int 0, .int 0, .ref kn, .int 0, .int 0, .int 0, .ref ml, .ref cl, .ref rg, .ref tr, .ref (aK 0), .ref (aK 0), .ref fl, .int 0, .int 0, .int 0, .int 0, .int 0, .int 0, .int 0, .null])), (q_17, .inl (cB, 16, .inl f_18)), (q_16, .inr (1, [.ref q_17, .int 0, .int 0, .int 0]))] := hD
            subst hw_27
            refine lv_iload_n hx hb dX15_tag_77 rfl (lv_at hl 4 rfl) ?_
            refine lv_icmp_lt (tgt := 146) hx hb dX15_tag_78 (by decide) (fun c78_28 => ?_) (fun c78_28 => ?_)
            · refine lv_aload_n hx hb dX15_tag_146 rfl (lv_at hl 3 rfl) ?_
              refine lv_aload_n hx hb dX15_tag_147 rfl (lv_at hl 2 rfl) ?_
              have hPc := hP.sub (ws' := [(q_16, .inr (1, [.ref q_17, .int 0, .int 0, .int 0])), (q_17, .inl (cB, 16, .inl f_18))]) [2, 1] rfl
              have hDc := hD.sub (ws' := [(q_16, .inr (1, [.ref q_17, .int 0, .int 0, .int 0])), (q_17, .inl (cB, 16, .inl f_18))]) [2, 1] (by decide) rfl
              have hKc := hK.sub (tys' := [(cB, .byte)]) [0] rfl
              have hFc := va_free (wc := [(q_16, .inr (1, [.ref q_17, .int 0, .int 0, .int 0])), (q_17, .inl (cB, 16, .inl f_18))]) hD hS hA [2, 1] rfl
              refine va_callr (va_runV (As := []) (rest := [.ref xm]) ⟨hx, hb, hml, hown, hts⟩ (c_J4_toString_0 l dC dI e0 aK aV cB q_16 q_17 0 f_18 H.size) (cwV 0 hts gX15_tag_J4_toString_0e30d rfl rfl rfl (by decide +kernel) ⟨Nat.le_of_ble_eq_true rfl, Nat.le_of_ble_eq_true rfl⟩) (pcVz (zM_ok e0 aK aV) hPc hDc hKc hN hZ hS hFc (ci := 1) (q0 := 0) rfl rfl) rfl rfl hl.1 rfl (lv_room (Nat.le_of_ble_eq_true rfl)) dX15_tag_148 ⟨Nat.le_of_ble_eq_true rfl, Nat.le_of_ble_eq_true rfl⟩) hS (fun q _ h => hFc q h) hFc (fun u r_31 t H1 locs ht hvm hw_32 hB hz1 hk1 hS => ?_)
              obtain ⟨q_29, f_30⟩ := u
              obtain ⟨hP1, hK1, hD1⟩ := hB
              rw [ht] at hP1
              try dsimp only at hw_32
              obtain ⟨hP, hD⟩ := va_join (wr := [(xm, .inr (20, [.int 0, .int 0, .ref kn, .int 0, .int 0, .int 0, .ref ml, .ref cl, .ref rg, .ref tr, .ref (aK 0), .ref (aK 0), .ref fl, .int 0, .int 0, .int 0, .int 0, .int 0, .int 0, .int 0, .null]))]) (w1 := [(q_16, .inr (1, [.ref q_17, .int 0, .int 0, .int 0])), (q_17, .inl (cB, 16, .inl f_18)), (r_31, .inr (0, [.ref q_29, .int 0, .int 0, .int 0])), (q_29, .inl (cB, 0, .inl f_30))]) hP hD [2, 1] [0] rfl rfl (by decide) (by decide) hk1 hFc hP1 hD1
              generalize H1 = H at hP hS ⊢
              have hP : va_P (dC, dI) vwCl [(xm, .inr (20, [.int 0, .int 0, .ref kn, .int 0, .int 0, .int 0, .ref ml, .ref cl, .ref rg, .ref tr, .ref (aK 0), .ref (aK 0), .ref fl, .int 0, .int 0, .int 0, .int 0, .int 0, .int 0, .int 0, .null])), (q_16, .inr (1, [.ref q_17, .int 0, .int 0, .int 0])), (q_17, .inl (cB, 16, .inl f_18)), (r_31, .inr (0, [.ref q_29, .int 0, .int 0, .int 0])), (q_29, .inl (cB, 0, .inl f_30))] H := hP
              have hD : va_D A [(xm, .inr (20, [.int 0, .int 0, .ref kn, .int 0, .int 0, .int 0, .ref ml, .ref cl, .ref rg, .ref tr, .ref (aK 0), .ref (aK 0), .ref fl, .int 0, .int 0, .int 0, .int 0, .int 0, .int 0, .int 0, .null])), (q_16, .inr (1, [.ref q_17, .int 0, .int 0, .int 0])), (q_17, .inl (cB, 16, .inl f_18)), (r_31, .inr (0, [.ref q_29, .int 0, .int 0, .int 0])), (q_29, .inl (cB, 0, .inl f_30))] := hD
              refine W.widen (k := 4) (n := 24) (Nat.le_of_ble_eq_true rfl) (Nat.le_of_ble_eq_true rfl) ?_
              refine va_put (D := (dC, dI)) (ci := 20) (v := .ref r_31) (ty := .object "java/lang/String") (C := RX15) (T := TX15) (N := 21) hx hb hts iWX15 tyX15 tyX15_ok nmX15 hown hK hP hD hS 0 rfl rfl 11 (by decide) (hts (.fieldLink RX15 203 "BeaverhallModel" "tagged" "Ljava/lang/String;") (by decide +kernel)) (fun _ h9 => h9) rfl (by decide +kernel) rfl rfl (Nat.le_of_ble_eq_true rfl) dX15_tag_151 (fun H locs hP hD hS => ?_)
              have hP : va_P (dC, dI) vwCl [(xm, .inr (20, [.int 0, .int 0, .ref kn, .int 0, .int 0, .int 0, .ref ml, .ref cl, .ref rg, .ref tr, .ref (aK 0), .ref r_31, .ref fl, .int 0, .int 0, .int 0, .int 0, .int 0, .int 0, .int 0, .null])), (q_16, .inr (1, [.ref q_17, .int 0, .int 0, .int 0])), (q_17, .inl (cB, 16, .inl f_18)), (r_31, .inr (0, [.ref q_29, .int 0, .int 0, .int 0])), (q_29, .inl (cB, 0, .inl f_30))] H := hP
              have hD : va_D A [(xm, .inr (20, [.int 0, .int 0, .ref kn, .int 0, .int 0, .int 0, .ref ml, .ref cl, .ref rg, .ref tr, .ref (aK 0), .ref r_31, .ref fl, .int 0, .int 0, .int 0, .int 0, .int 0, .int 0, .int 0, .null])), (q_16, .inr (1, [.ref q_17, .int 0, .int 0, .int 0])), (q_17, .inl (cB, 16, .inl f_18)), (r_31, .inr (0, [.ref q_29, .int 0, .int 0, .int 0])), (q_29, .inl (cB, 0, .inl f_30))] := hD
              refine lv_iload hx hb dX15_tag_154 (lv_at hl 1 rfl) ?_
              have hP9 := hP.sub (ws' := [(xm, .inr (20, [.int 0, .int 0, .ref kn, .int 0, .int 0, .int 0, .ref ml, .ref cl, .ref rg, .ref tr, .ref (aK 0), .ref r_31, .ref fl, .int 0, .int 0, .int 0, .int 0, .int 0, .int 0, .int 0, .null]))]) [0] rfl
              have hD9 := hD.sub (ws' := [(xm, .inr (20, [.int 0, .int 0, .ref kn, .int 0, .int 0, .int 0, .ref ml, .ref cl, .ref rg, .ref tr, .ref (aK 0), .ref r_31, .ref fl, .int 0, .int 0, .int 0, .int 0, .int 0, .int 0, .int 0, .null]))]) [0] (by decide) rfl
              have hK9 := hK.sub (tys' := [(cB, .byte)]) [0] rfl
              exact W.iret (v := 0) hx hb hr (fun t ht hW => ⟨⟨0, [.int 0, .int 0, .ref kn, .int 0, .int 0, .int 0, .ref ml, .ref cl, .ref rg, .ref tr, .ref (aK 0), .ref r_31, .ref fl, .int 0, .int 0, .int 0, .int 0, .int 0, .int 0, .int 0, .null], rfl, (Or.inl ⟨⟨hn_7, hn_14⟩, rfl, rfl⟩), ⟨by rw [ht]; exact hP9, va_K.moved hW.alike hK9, hD9⟩⟩, hS.F ht⟩) hS.2.2 dX15_tag_156
            · exact absurd (Int32.lt_of_lt_of_le (by decide) hn_7.1) c78_28
      · exact (c39_15 (by decide)).elim
