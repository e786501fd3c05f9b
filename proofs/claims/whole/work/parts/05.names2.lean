theorem dX4_chanceOf200_22 : decode cX4_chanceOf200 22 = .ok (.iload_n 2, 1) := by decide +kernel
theorem dX4_chanceOf200_23 : decode cX4_chanceOf200 23 = .ok (.invokevirtual 120, 3) := by decide +kernel
theorem dX4_chanceOf200_26 : decode cX4_chanceOf200 26 = .ok (.ifCond .eq 13, 3) := by decide +kernel
theorem dX4_chanceOf200_29 : decode cX4_chanceOf200 29 = .ok (.sipush 200, 3) := by decide +kernel
theorem dX4_chanceOf200_32 : decode cX4_chanceOf200 32 = .ok (.iconst 2, 1) := by decide +kernel
theorem dX4_chanceOf200_33 : decode cX4_chanceOf200 33 = .ok (.iload_n 3, 1) := by decide +kernel
theorem dX4_chanceOf200_34 : decode cX4_chanceOf200 34 = .ok (.imul, 1) := by decide +kernel
theorem dX4_chanceOf200_35 : decode cX4_chanceOf200 35 = .ok (.isub, 1) := by decide +kernel
theorem dX4_chanceOf200_36 : decode cX4_chanceOf200 36 = .ok (.goto 4, 3) := by decide +kernel
theorem dX4_chanceOf200_39 : decode cX4_chanceOf200 39 = .ok (.iload_n 3, 1) := by decide +kernel
theorem dX4_chanceOf200_40 : decode cX4_chanceOf200 40 = .ok (.ireturn, 1) := by decide +kernel
set_option maxRecDepth 20000 in
theorem ggX4_isSet_J6_bitCount_0f7a4 : GoodIn wsX4_isSet wsJ6_bitCount_0f7a4 := goodIn_r _ [10, 11, 12, 13] (by decide +kernel) (by decide +kernel)
set_option maxRecDepth 20000 in
theorem gX4_isSet_J6_bitCount_0f7a4 : GoodIn wsX4_isSet (va_wsS RX4 124 yJ6_bitCount_0f7a4 wsJ6_bitCount_0f7a4) := goodIn_app (goodIn_of _ (by decide +kernel)) ggX4_isSet_J6_bitCount_0f7a4
theorem dX4_isSet_0 : decode cX4_isSet 0 = .ok (.iconst 1, 1) := by decide +kernel
theorem dX4_isSet_1 : decode cX4_isSet 1 = .ok (.aload_n 0, 1) := by decide +kernel
theorem dX4_isSet_2 : decode cX4_isSet 2 = .ok (.getfield 23, 3) := by decide +kernel
theorem dX4_isSet_5 : decode cX4_isSet 5 = .ok (.getfield 63, 3) := by decide +kernel
theorem dX4_isSet_8 : decode cX4_isSet 8 = .ok (.bipush 30, 2) := by decide +kernel
theorem dX4_isSet_10 : decode cX4_isSet 10 = .ok (.invokestatic 70, 3) := by decide +kernel
theorem dX4_isSet_13 : decode cX4_isSet 13 = .ok (.ishl, 1) := by decide +kernel
theorem dX4_isSet_14 : decode cX4_isSet 14 = .ok (.iconst 1, 1) := by decide +kernel
theorem dX4_isSet_15 : decode cX4_isSet 15 = .ok (.isub, 1) := by decide +kernel
theorem dX4_isSet_16 : decode cX4_isSet 16 = .ok (.istore_n 2, 1) := by decide +kernel
theorem dX4_isSet_17 : decode cX4_isSet 17 = .ok (.iload_n 1, 1) := by decide +kernel
theorem dX4_isSet_18 : decode cX4_isSet 18 = .ok (.iload_n 2, 1) := by decide +kernel
theorem dX4_isSet_19 : decode cX4_isSet 19 = .ok (.iconst (-1), 1) := by decide +kernel
theorem dX4_isSet_20 : decode cX4_isSet 20 = .ok (.ixor, 1) := by decide +kernel
theorem dX4_isSet_21 : decode cX4_isSet 21 = .ok (.iand, 1) := by decide +kernel
theorem dX4_isSet_22 : decode cX4_isSet 22 = .ok (.ifCond .ne 16, 3) := by decide +kernel
theorem dX4_isSet_25 : decode cX4_isSet 25 = .ok (.iload_n 1, 1) := by decide +kernel
theorem dX4_isSet_26 : decode cX4_isSet 26 = .ok (.invokestatic 124, 3) := by decide +kernel
theorem dX4_isSet_29 : decode cX4_isSet 29 = .ok (.bipush 8, 2) := by decide +kernel
theorem dX4_isSet_31 : decode cX4_isSet 31 = .ok (.if_icmp .gt 7, 3) := by decide +kernel
theorem dX4_isSet_34 : decode cX4_isSet 34 = .ok (.iconst 1, 1) := by decide +kernel
theorem dX4_isSet_35 : decode cX4_isSet 35 = .ok (.goto 4, 3) := by decide +kernel
theorem dX4_isSet_38 : decode cX4_isSet 38 = .ok (.iconst 0, 1) := by decide +kernel
theorem dX4_isSet_39 : decode cX4_isSet 39 = .ok (.ireturn, 1) := by decide +kernel
set_option maxRecDepth 20000 in
theorem ggX4_oddsAbove_X4_chanceOf200 : GoodIn wsX4_oddsAbove wsX4_chanceOf200 := goodIn_r _ [5, 6, 7, 8, 9, 10, 4, 11, 12, 13, 14, 15, 16, 17, 18, 19, 20, 21, 22, 23, 24, 25, 26, 27, 28, 29, 30, 31, 32, 33, 34, 35, 36, 37, 38, 39, 40, 41, 42, 43, 44, 45, 46, 47, 48, 49, 50, 51, 52, 53, 54, 55, 56, 57, 58, 59, 60, 61, 62, 63, 64, 65, 66, 67, 68, 69, 70, 71, 72, 73, 74, 75, 76, 77, 78, 79, 80, 81, 82, 83, 84, 85, 86, 87, 88, 89] (by decide +kernel) (by decide +kernel)
set_option maxRecDepth 20000 in
theorem gX4_oddsAbove_X4_chanceOf200 : GoodIn wsX4_oddsAbove (wsV RX4 130 RX4 yX4_chanceOf200 wsX4_chanceOf200) := goodIn_app (goodIn_of _ (by decide +kernel)) ggX4_oddsAbove_X4_chanceOf200
theorem dX4_oddsAbove_0 : decode cX4_oddsAbove 0 = .ok (.lconst 1, 1) := by decide +kernel
theorem dX4_oddsAbove_1 : decode cX4_oddsAbove 1 = .ok (.lstore_n 3, 1) := by decide +kernel
theorem dX4_oddsAbove_2 : decode cX4_oddsAbove 2 = .ok (.iconst 0, 1) := by decide +kernel
theorem dX4_oddsAbove_3 : decode cX4_oddsAbove 3 = .ok (.istore 5, 2) := by decide +kernel
theorem dX4_oddsAbove_5 : decode cX4_oddsAbove 5 = .ok (.iload 5, 2) := by decide +kernel
theorem dX4_oddsAbove_7 : decode cX4_oddsAbove 7 = .ok (.bipush 30, 2) := by decide +kernel
theorem dX4_oddsAbove_9 : decode cX4_oddsAbove 9 = .ok (.if_icmp .ge 30, 3) := by decide +kernel
theorem dX4_oddsAbove_12 : decode cX4_oddsAbove 12 = .ok (.iload_n 2, 1) := by decide +kernel
theorem dX4_oddsAbove_13 : decode cX4_oddsAbove 13 = .ok (.iload 5, 2) := by decide +kernel
theorem dX4_oddsAbove_15 : decode cX4_oddsAbove 15 = .ok (.ishr, 1) := by decide +kernel
theorem dX4_oddsAbove_16 : decode cX4_oddsAbove 16 = .ok (.iconst 1, 1) := by decide +kernel
theorem dX4_oddsAbove_17 : decode cX4_oddsAbove 17 = .ok (.iand, 1) := by decide +kernel
theorem dX4_oddsAbove_18 : decode cX4_oddsAbove 18 = .ok (.iconst 1, 1) := by decide +kernel
theorem dX4_oddsAbove_19 : decode cX4_oddsAbove 19 = .ok (.if_icmp .ne 14, 3) := by decide +kernel
theorem dX4_oddsAbove_22 : decode cX4_oddsAbove 22 = .ok (.lload_n 3, 1) := by decide +kernel
theorem dX4_oddsAbove_23 : decode cX4_oddsAbove 23 = .ok (.aload_n 0, 1) := by decide +kernel
theorem dX4_oddsAbove_24 : decode cX4_oddsAbove 24 = .ok (.iload_n 1, 1) := by decide +kernel
theorem dX4_oddsAbove_25 : decode cX4_oddsAbove 25 = .ok (.iload 5, 2) := by decide +kernel
theorem dX4_oddsAbove_27 : decode cX4_oddsAbove 27 = .ok (.invokevirtual 130, 3) := by decide +kernel
theorem dX4_oddsAbove_30 : decode cX4_oddsAbove 30 = .ok (.i2l, 1) := by decide +kernel
theorem dX4_oddsAbove_31 : decode cX4_oddsAbove 31 = .ok (.lmul, 1) := by decide +kernel
theorem dX4_oddsAbove_32 : decode cX4_oddsAbove 32 = .ok (.lstore_n 3, 1) := by decide +kernel
theorem dX4_oddsAbove_33 : decode cX4_oddsAbove 33 = .ok (.iinc 5 1, 3) := by decide +kernel
theorem dX4_oddsAbove_36 : decode cX4_oddsAbove 36 = .ok (.goto (-31), 3) := by decide +kernel
theorem dX4_oddsAbove_39 : decode cX4_oddsAbove 39 = .ok (.lload_n 3, 1) := by decide +kernel
theorem dX4_oddsAbove_40 : decode cX4_oddsAbove 40 = .ok (.lreturn, 1) := by decide +kernel
set_option maxRecDepth 20000 in
theorem ggX4_firstImpossible_X4_chanceOf200 : GoodIn wsX4_firstImpossible wsX4_chanceOf200 := goodIn_r _ [7, 8, 9, 10, 11, 12, 6, 13, 14, 15, 16, 17, 18, 1, 19, 20, 21, 22, 23, 24, 25, 26, 27, 28, 29, 30, 31, 32, 33, 34, 35, 36, 37, 38, 39, 40, 41, 42, 43, 44, 45, 46, 47, 48, 49, 50, 51, 52, 53, 2, 54, 55, 56, 57, 58, 59, 60, 61, 62, 63, 64, 65, 66, 67, 68, 69, 70, 71, 72, 73, 74, 75, 76, 77, 82, 83, 84, 85, 86, 87, 88, 89, 78, 79, 80, 81] (by decide +kernel) (by decide +kernel)
set_option maxRecDepth 20000 in
theorem gX4_firstImpossible_X4_chanceOf200 : GoodIn wsX4_firstImpossible (wsV RX4 130 RX4 yX4_chanceOf200 wsX4_chanceOf200) := goodIn_app (goodIn_of _ (by decide +kernel)) ggX4_firstImpossible_X4_chanceOf200
theorem dX4_firstImpossible_0 : decode cX4_firstImpossible 0 = .ok (.iconst 0, 1) := by decide +kernel
theorem dX4_firstImpossible_1 : decode cX4_firstImpossible 1 = .ok (.istore_n 2, 1) := by decide +kernel
theorem dX4_firstImpossible_2 : decode cX4_firstImpossible 2 = .ok (.iload_n 2, 1) := by decide +kernel
theorem dX4_firstImpossible_3 : decode cX4_firstImpossible 3 = .ok (.aload_n 0, 1) := by decide +kernel
theorem dX4_firstImpossible_4 : decode cX4_firstImpossible 4 = .ok (.getfield 23, 3) := by decide +kernel
theorem dX4_firstImpossible_7 : decode cX4_firstImpossible 7 = .ok (.getfield 63, 3) := by decide +kernel
theorem dX4_firstImpossible_10 : decode cX4_firstImpossible 10 = .ok (.if_icmp .ge 20, 3) := by decide +kernel
theorem dX4_firstImpossible_13 : decode cX4_firstImpossible 13 = .ok (.aload_n 0, 1) := by decide +kernel
theorem dX4_firstImpossible_14 : decode cX4_firstImpossible 14 = .ok (.iload_n 1, 1) := by decide +kernel
theorem dX4_firstImpossible_15 : decode cX4_firstImpossible 15 = .ok (.iload_n 2, 1) := by decide +kernel
theorem dX4_firstImpossible_16 : decode cX4_firstImpossible 16 = .ok (.invokevirtual 130, 3) := by decide +kernel
theorem dX4_firstImpossible_19 : decode cX4_firstImpossible 19 = .ok (.ifCond .ne 5, 3) := by decide +kernel
theorem dX4_firstImpossible_22 : decode cX4_firstImpossible 22 = .ok (.iload_n 2, 1) := by decide +kernel
theorem dX4_firstImpossible_23 : decode cX4_firstImpossible 23 = .ok (.ireturn, 1) := by decide +kernel
theorem dX4_firstImpossible_24 : decode cX4_firstImpossible 24 = .ok (.iinc 2 1, 3) := by decide +kernel
theorem dX4_firstImpossible_27 : decode cX4_firstImpossible 27 = .ok (.goto (-25), 3) := by decide +kernel
theorem dX4_firstImpossible_30 : decode cX4_firstImpossible 30 = .ok (.bipush (-5), 2) := by decide +kernel
theorem dX4_firstImpossible_32 : decode cX4_firstImpossible 32 = .ok (.ireturn, 1) := by decide +kernel
set_option maxRecDepth 20000 in
theorem ggX4_rightOf_X2_at : GoodIn wsX4_rightOf wsX2_at := goodIn_r _ [7, 8, 9, 10, 73, 74, 75, 76] (by decide +kernel) (by decide +kernel)
set_option maxRecDepth 20000 in
theorem gX4_rightOf_X2_at : GoodIn wsX4_rightOf (wsV RX4 66 RX2 yX2_at wsX2_at) := goodIn_app (goodIn_of _ (by decide +kernel)) ggX4_rightOf_X2_at
set_option maxRecDepth 20000 in
theorem ggX4_rightOf_X4_isAsTold : GoodIn wsX4_rightOf wsX4_isAsTold := goodIn_r _ [15, 1, 3, 4, 5, 6, 7, 8, 9, 10, 16, 17, 18, 14, 19, 20, 21, 22, 23, 24, 25, 26, 27, 28, 29, 30, 31, 32, 33, 34, 35, 36, 37, 38, 39, 40, 41, 42, 43, 44, 45, 46, 47, 48, 2, 49, 50, 51, 52, 53, 54, 55, 56, 57, 58, 59, 60, 61, 62, 63, 64, 65, 66, 67, 68, 69, 70, 71, 72, 73, 74, 75, 76, 77, 78, 79, 80, 81, 82, 83, 84] (by decide +kernel) (by decide +kernel)
set_option maxRecDepth 20000 in
theorem gX4_rightOf_X4_isAsTold : GoodIn wsX4_rightOf (wsV RX4 120 RX4 yX4_isAsTold wsX4_isAsTold) := goodIn_app (goodIn_of _ (by decide +kernel)) ggX4_rightOf_X4_isAsTold
theorem dX4_rightOf_0 : decode cX4_rightOf 0 = .ok (.iconst 0, 1) := by decide +kernel
theorem dX4_rightOf_1 : decode cX4_rightOf 1 = .ok (.istore_n 3, 1) := by decide +kernel
theorem dX4_rightOf_2 : decode cX4_rightOf 2 = .ok (.iconst 0, 1) := by decide +kernel
theorem dX4_rightOf_3 : decode cX4_rightOf 3 = .ok (.istore 4, 2) := by decide +kernel
theorem dX4_rightOf_5 : decode cX4_rightOf 5 = .ok (.iload 4, 2) := by decide +kernel
theorem dX4_rightOf_7 : decode cX4_rightOf 7 = .ok (.aload_n 0, 1) := by decide +kernel
theorem dX4_rightOf_8 : decode cX4_rightOf 8 = .ok (.getfield 23, 3) := by decide +kernel
theorem dX4_rightOf_11 : decode cX4_rightOf 11 = .ok (.getfield 63, 3) := by decide +kernel
theorem dX4_rightOf_14 : decode cX4_rightOf 14 = .ok (.if_icmp .ge 41, 3) := by decide +kernel
theorem dX4_rightOf_17 : decode cX4_rightOf 17 = .ok (.iload_n 2, 1) := by decide +kernel
theorem dX4_rightOf_18 : decode cX4_rightOf 18 = .ok (.iconst (-1), 1) := by decide +kernel
theorem dX4_rightOf_19 : decode cX4_rightOf 19 = .ok (.if_icmp .eq 17, 3) := by decide +kernel
theorem dX4_rightOf_22 : decode cX4_rightOf 22 = .ok (.aload_n 0, 1) := by decide +kernel
theorem dX4_rightOf_23 : decode cX4_rightOf 23 = .ok (.getfield 23, 3) := by decide +kernel
theorem dX4_rightOf_26 : decode cX4_rightOf 26 = .ok (.iload 4, 2) := by decide +kernel
theorem dX4_rightOf_28 : decode cX4_rightOf 28 = .ok (.iconst 0, 1) := by decide +kernel
theorem dX4_rightOf_29 : decode cX4_rightOf 29 = .ok (.invokevirtual 66, 3) := by decide +kernel
theorem dX4_rightOf_32 : decode cX4_rightOf 32 = .ok (.iload_n 2, 1) := by decide +kernel
theorem dX4_rightOf_33 : decode cX4_rightOf 33 = .ok (.if_icmp .ne 16, 3) := by decide +kernel
theorem dX4_rightOf_36 : decode cX4_rightOf 36 = .ok (.aload_n 0, 1) := by decide +kernel
theorem dX4_rightOf_37 : decode cX4_rightOf 37 = .ok (.iload_n 1, 1) := by decide +kernel
theorem dX4_rightOf_38 : decode cX4_rightOf 38 = .ok (.iload 4, 2) := by decide +kernel
theorem dX4_rightOf_40 : decode cX4_rightOf 40 = .ok (.invokevirtual 120, 3) := by decide +kernel
theorem dX4_rightOf_43 : decode cX4_rightOf 43 = .ok (.ifCond .eq 6, 3) := by decide +kernel
theorem dX4_rightOf_46 : decode cX4_rightOf 46 = .ok (.iinc 3 1, 3) := by decide +kernel
theorem dX4_rightOf_49 : decode cX4_rightOf 49 = .ok (.iinc 4 1, 3) := by decide +kernel
theorem dX4_rightOf_52 : decode cX4_rightOf 52 = .ok (.goto (-47), 3) := by decide +kernel
theorem dX4_rightOf_55 : decode cX4_rightOf 55 = .ok (.iload_n 3, 1) := by decide +kernel
theorem dX4_rightOf_56 : decode cX4_rightOf 56 = .ok (.ireturn, 1) := by decide +kernel
set_option maxRecDepth 20000 in
theorem ggX4_hasAnswered_X2_at : GoodIn wsX4_hasAnswered wsX2_at := goodIn_r _ [7, 8, 9, 10, 17, 18, 19, 20] (by decide +kernel) (by decide +kernel)
set_option maxRecDepth 20000 in
theorem gX4_hasAnswered_X2_at : GoodIn wsX4_hasAnswered (wsV RX4 66 RX2 yX2_at wsX2_at) := goodIn_app (goodIn_of _ (by decide +kernel)) ggX4_hasAnswered_X2_at
theorem dX4_hasAnswered_0 : decode cX4_hasAnswered 0 = .ok (.iconst 0, 1) := by decide +kernel
theorem dX4_hasAnswered_1 : decode cX4_hasAnswered 1 = .ok (.istore_n 2, 1) := by decide +kernel
theorem dX4_hasAnswered_2 : decode cX4_hasAnswered 2 = .ok (.iload_n 2, 1) := by decide +kernel
theorem dX4_hasAnswered_3 : decode cX4_hasAnswered 3 = .ok (.aload_n 0, 1) := by decide +kernel
theorem dX4_hasAnswered_4 : decode cX4_hasAnswered 4 = .ok (.getfield 23, 3) := by decide +kernel
theorem dX4_hasAnswered_7 : decode cX4_hasAnswered 7 = .ok (.getfield 63, 3) := by decide +kernel
theorem dX4_hasAnswered_10 : decode cX4_hasAnswered 10 = .ok (.if_icmp .ge 24, 3) := by decide +kernel
theorem dX4_hasAnswered_13 : decode cX4_hasAnswered 13 = .ok (.aload_n 0, 1) := by decide +kernel
theorem dX4_hasAnswered_14 : decode cX4_hasAnswered 14 = .ok (.getfield 23, 3) := by decide +kernel
theorem dX4_hasAnswered_17 : decode cX4_hasAnswered 17 = .ok (.iload_n 2, 1) := by decide +kernel
theorem dX4_hasAnswered_18 : decode cX4_hasAnswered 18 = .ok (.iconst 0, 1) := by decide +kernel
theorem dX4_hasAnswered_19 : decode cX4_hasAnswered 19 = .ok (.invokevirtual 66, 3) := by decide +kernel
theorem dX4_hasAnswered_22 : decode cX4_hasAnswered 22 = .ok (.iload_n 1, 1) := by decide +kernel
theorem dX4_hasAnswered_23 : decode cX4_hasAnswered 23 = .ok (.if_icmp .ne 5, 3) := by decide +kernel
theorem dX4_hasAnswered_26 : decode cX4_hasAnswered 26 = .ok (.iconst 1, 1) := by decide +kernel
theorem dX4_hasAnswered_27 : decode cX4_hasAnswered 27 = .ok (.ireturn, 1) := by decide +kernel
theorem dX4_hasAnswered_28 : decode cX4_hasAnswered 28 = .ok (.iinc 2 1, 3) := by decide +kernel
theorem dX4_hasAnswered_31 : decode cX4_hasAnswered 31 = .ok (.goto (-29), 3) := by decide +kernel
theorem dX4_hasAnswered_34 : decode cX4_hasAnswered 34 = .ok (.iconst 0, 1) := by decide +kernel
theorem dX4_hasAnswered_35 : decode cX4_hasAnswered 35 = .ok (.ireturn, 1) := by decide +kernel
set_option maxRecDepth 20000 in
theorem ggX4_ruleOf_X4_hasAnswered : GoodIn wsX4_ruleOf wsX4_hasAnswered := goodIn_r _ [6, 7, 8, 9, 10, 11, 12, 13, 14, 15, 16, 75, 76, 77, 78, 79, 80, 81, 82, 83, 84] (by decide +kernel) (by decide +kernel)
set_option maxRecDepth 20000 in
theorem gX4_ruleOf_X4_hasAnswered : GoodIn wsX4_ruleOf (wsV RX4 133 RX4 yX4_hasAnswered wsX4_hasAnswered) := goodIn_app (goodIn_of _ (by decide +kernel)) ggX4_ruleOf_X4_hasAnswered
set_option maxRecDepth 20000 in
theorem ggX4_ruleOf_X4_rightOf : GoodIn wsX4_ruleOf wsX4_rightOf := goodIn_r _ [20, 7, 8, 9, 10, 11, 12, 13, 14, 15, 16, 21, 22, 23, 5, 24, 25, 26, 27, 28, 29, 30, 31, 32, 33, 34, 1, 35, 36, 37, 38, 39, 40, 41, 42, 43, 44, 45, 46, 47, 48, 49, 50, 51, 52, 53, 54, 55, 56, 57, 58, 59, 60, 61, 62, 63, 64, 65, 66, 67, 68, 69, 70, 71, 72, 73, 74, 75, 76, 77, 78, 79, 80, 81, 82, 83, 84, 85, 86, 87, 88, 89, 90, 91, 92] (by decide +kernel) (by decide +kernel)
set_option maxRecDepth 20000 in
theorem gX4_ruleOf_X4_rightOf : GoodIn wsX4_ruleOf (wsV RX4 136 RX4 yX4_rightOf wsX4_rightOf) := goodIn_app (goodIn_of _ (by decide +kernel)) ggX4_ruleOf_X4_rightOf
theorem dX4_ruleOf_0 : decode cX4_ruleOf 0 = .ok (.aload_n 0, 1) := by decide +kernel
theorem dX4_ruleOf_1 : decode cX4_ruleOf 1 = .ok (.iload_n 1, 1) := by decide +kernel
theorem dX4_ruleOf_2 : decode cX4_ruleOf 2 = .ok (.invokevirtual 133, 3) := by decide +kernel
theorem dX4_ruleOf_5 : decode cX4_ruleOf 5 = .ok (.ifCond .ne 6, 3) := by decide +kernel
theorem dX4_ruleOf_8 : decode cX4_ruleOf 8 = .ok (.bipush (-5), 2) := by decide +kernel
theorem dX4_ruleOf_10 : decode cX4_ruleOf 10 = .ok (.ireturn, 1) := by decide +kernel
theorem dX4_ruleOf_11 : decode cX4_ruleOf 11 = .ok (.bipush (-5), 2) := by decide +kernel
theorem dX4_ruleOf_13 : decode cX4_ruleOf 13 = .ok (.istore_n 2, 1) := by decide +kernel
theorem dX4_ruleOf_14 : decode cX4_ruleOf 14 = .ok (.iconst (-1), 1) := by decide +kernel
theorem dX4_ruleOf_15 : decode cX4_ruleOf 15 = .ok (.istore_n 3, 1) := by decide +kernel
theorem dX4_ruleOf_16 : decode cX4_ruleOf 16 = .ok (.iconst 0, 1) := by decide +kernel
theorem dX4_ruleOf_17 : decode cX4_ruleOf 17 = .ok (.istore 4, 2) := by decide +kernel
theorem dX4_ruleOf_19 : decode cX4_ruleOf 19 = .ok (.iload 4, 2) := by decide +kernel
theorem dX4_ruleOf_21 : decode cX4_ruleOf 21 = .ok (.aload_n 0, 1) := by decide +kernel
theorem dX4_ruleOf_22 : decode cX4_ruleOf 22 = .ok (.getfield 47, 3) := by decide +kernel
theorem dX4_ruleOf_25 : decode cX4_ruleOf 25 = .ok (.if_icmp .ge 30, 3) := by decide +kernel
theorem dX4_ruleOf_28 : decode cX4_ruleOf 28 = .ok (.aload_n 0, 1) := by decide +kernel
theorem dX4_ruleOf_29 : decode cX4_ruleOf 29 = .ok (.iload 4, 2) := by decide +kernel
theorem dX4_ruleOf_31 : decode cX4_ruleOf 31 = .ok (.iload_n 1, 1) := by decide +kernel
theorem dX4_ruleOf_32 : decode cX4_ruleOf 32 = .ok (.invokevirtual 136, 3) := by decide +kernel
theorem dX4_ruleOf_35 : decode cX4_ruleOf 35 = .ok (.istore 5, 2) := by decide +kernel
theorem dX4_ruleOf_37 : decode cX4_ruleOf 37 = .ok (.iload 5, 2) := by decide +kernel
theorem dX4_ruleOf_39 : decode cX4_ruleOf 39 = .ok (.iload_n 3, 1) := by decide +kernel
theorem dX4_ruleOf_40 : decode cX4_ruleOf 40 = .ok (.if_icmp .le 9, 3) := by decide +kernel
theorem dX4_ruleOf_43 : decode cX4_ruleOf 43 = .ok (.iload 5, 2) := by decide +kernel
theorem dX4_ruleOf_45 : decode cX4_ruleOf 45 = .ok (.istore_n 3, 1) := by decide +kernel
theorem dX4_ruleOf_46 : decode cX4_ruleOf 46 = .ok (.iload 4, 2) := by decide +kernel
theorem dX4_ruleOf_48 : decode cX4_ruleOf 48 = .ok (.istore_n 2, 1) := by decide +kernel
theorem dX4_ruleOf_49 : decode cX4_ruleOf 49 = .ok (.iinc 4 1, 3) := by decide +kernel
theorem dX4_ruleOf_52 : decode cX4_ruleOf 52 = .ok (.goto (-33), 3) := by decide +kernel
theorem dX4_ruleOf_55 : decode cX4_ruleOf 55 = .ok (.iload_n 2, 1) := by decide +kernel
theorem dX4_ruleOf_56 : decode cX4_ruleOf 56 = .ok (.ireturn, 1) := by decide +kernel
set_option maxRecDepth 20000 in
theorem ggX4_partings_X4_toldNow : GoodIn wsX4_partings wsX4_toldNow := goodIn_r _ [8, 1, 9, 10, 11, 12, 13, 14, 15, 16, 17, 18, 19, 7, 20, 21, 3, 22, 23, 24, 25, 26, 27, 28, 29, 30, 31, 32, 33, 34, 35, 36, 37, 38, 39, 40, 41, 42, 43, 44, 45, 46, 47, 2, 48, 49, 50, 51, 52, 53, 54, 55, 56, 57, 58, 59, 60, 61, 62, 63, 64, 65, 66, 67, 68, 69, 70, 71, 72, 73, 74, 75, 76, 77, 78, 79, 80, 81, 82, 83] (by decide +kernel) (by decide +kernel)
set_option maxRecDepth 20000 in
theorem gX4_partings_X4_toldNow : GoodIn wsX4_partings (wsV RX4 139 RX4 yX4_toldNow wsX4_toldNow) := goodIn_app (goodIn_of _ (by decide +kernel)) ggX4_partings_X4_toldNow
theorem dX4_partings_0 : decode cX4_partings 0 = .ok (.iconst 0, 1) := by decide +kernel
theorem dX4_partings_1 : decode cX4_partings 1 = .ok (.istore_n 3, 1) := by decide +kernel
theorem dX4_partings_2 : decode cX4_partings 2 = .ok (.iconst 0, 1) := by decide +kernel
theorem dX4_partings_3 : decode cX4_partings 3 = .ok (.istore 4, 2) := by decide +kernel
theorem dX4_partings_5 : decode cX4_partings 5 = .ok (.iload 4, 2) := by decide +kernel
theorem dX4_partings_7 : decode cX4_partings 7 = .ok (.aload_n 0, 1) := by decide +kernel
theorem dX4_partings_8 : decode cX4_partings 8 = .ok (.getfield 14, 3) := by decide +kernel
theorem dX4_partings_11 : decode cX4_partings 11 = .ok (.getfield 63, 3) := by decide +kernel
theorem dX4_partings_14 : decode cX4_partings 14 = .ok (.if_icmp .ge 54, 3) := by decide +kernel
theorem dX4_partings_17 : decode cX4_partings 17 = .ok (.iconst 0, 1) := by decide +kernel
theorem dX4_partings_18 : decode cX4_partings 18 = .ok (.istore 5, 2) := by decide +kernel
theorem dX4_partings_20 : decode cX4_partings 20 = .ok (.iload 5, 2) := by decide +kernel
theorem dX4_partings_22 : decode cX4_partings 22 = .ok (.aload_n 0, 1) := by decide +kernel
theorem dX4_partings_23 : decode cX4_partings 23 = .ok (.getfield 20, 3) := by decide +kernel
theorem dX4_partings_26 : decode cX4_partings 26 = .ok (.getfield 63, 3) := by decide +kernel
theorem dX4_partings_29 : decode cX4_partings 29 = .ok (.if_icmp .ge 33, 3) := by decide +kernel
theorem dX4_partings_32 : decode cX4_partings 32 = .ok (.aload_n 0, 1) := by decide +kernel
theorem dX4_partings_33 : decode cX4_partings 33 = .ok (.iload_n 1, 1) := by decide +kernel
theorem dX4_partings_34 : decode cX4_partings 34 = .ok (.iload 4, 2) := by decide +kernel
theorem dX4_partings_36 : decode cX4_partings 36 = .ok (.iload 5, 2) := by decide +kernel
theorem dX4_partings_38 : decode cX4_partings 38 = .ok (.invokevirtual 139, 3) := by decide +kernel
theorem dX4_partings_41 : decode cX4_partings 41 = .ok (.aload_n 0, 1) := by decide +kernel
theorem dX4_partings_42 : decode cX4_partings 42 = .ok (.iload_n 2, 1) := by decide +kernel
theorem dX4_partings_43 : decode cX4_partings 43 = .ok (.iload 4, 2) := by decide +kernel
theorem dX4_partings_45 : decode cX4_partings 45 = .ok (.iload 5, 2) := by decide +kernel
theorem dX4_partings_47 : decode cX4_partings 47 = .ok (.invokevirtual 139, 3) := by decide +kernel
theorem dX4_partings_50 : decode cX4_partings 50 = .ok (.if_icmp .eq 6, 3) := by decide +kernel
theorem dX4_partings_53 : decode cX4_partings 53 = .ok (.iinc 3 1, 3) := by decide +kernel
theorem dX4_partings_56 : decode cX4_partings 56 = .ok (.iinc 5 1, 3) := by decide +kernel
theorem dX4_partings_59 : decode cX4_partings 59 = .ok (.goto (-39), 3) := by decide +kernel
theorem dX4_partings_62 : decode cX4_partings 62 = .ok (.iinc 4 1, 3) := by decide +kernel
theorem dX4_partings_65 : decode cX4_partings 65 = .ok (.goto (-60), 3) := by decide +kernel
theorem dX4_partings_68 : decode cX4_partings 68 = .ok (.iload_n 3, 1) := by decide +kernel
theorem dX4_partings_69 : decode cX4_partings 69 = .ok (.ireturn, 1) := by decide +kernel
set_option maxRecDepth 20000 in
theorem ggX4_bestAsking_X4_greatestHeap : GoodIn wsX4_bestAsking wsX4_greatestHeap := goodIn_r _ [8, 1, 9, 10, 11, 12, 13, 14, 15, 7, 16, 17, 18, 19, 20, 21, 22, 23, 24, 25, 26, 27, 28, 29, 30, 2, 31, 32, 33, 34, 35, 36, 37, 38, 39, 40, 41, 42, 43, 44, 45, 46, 47, 48, 49, 50, 51, 52, 53, 54, 55, 3, 56, 57, 58, 59, 60, 61, 62, 63, 64, 65, 66, 67, 68, 69, 70, 71, 72, 73, 74, 75, 76, 77, 78, 79, 80, 81, 82, 83, 84, 85, 86, 87] (by decide +kernel) (by decide +kernel)
set_option maxRecDepth 20000 in
theorem gX4_bestAsking_X4_greatestHeap : GoodIn wsX4_bestAsking (wsV RX4 143 RX4 yX4_greatestHeap wsX4_greatestHeap) := goodIn_app (goodIn_of _ (by decide +kernel)) ggX4_bestAsking_X4_greatestHeap
theorem dX4_bestAsking_0 : decode cX4_bestAsking 0 = .ok (.bipush (-5), 2) := by decide +kernel
theorem dX4_bestAsking_2 : decode cX4_bestAsking 2 = .ok (.istore_n 2, 1) := by decide +kernel
theorem dX4_bestAsking_3 : decode cX4_bestAsking 3 = .ok (.aload_n 0, 1) := by decide +kernel
theorem dX4_bestAsking_4 : decode cX4_bestAsking 4 = .ok (.getfield 47, 3) := by decide +kernel
theorem dX4_bestAsking_7 : decode cX4_bestAsking 7 = .ok (.istore_n 3, 1) := by decide +kernel
theorem dX4_bestAsking_8 : decode cX4_bestAsking 8 = .ok (.iconst 0, 1) := by decide +kernel
theorem dX4_bestAsking_9 : decode cX4_bestAsking 9 = .ok (.istore 4, 2) := by decide +kernel
theorem dX4_bestAsking_11 : decode cX4_bestAsking 11 = .ok (.iload 4, 2) := by decide +kernel
theorem dX4_bestAsking_13 : decode cX4_bestAsking 13 = .ok (.aload_n 0, 1) := by decide +kernel
theorem dX4_bestAsking_14 : decode cX4_bestAsking 14 = .ok (.getfield 20, 3) := by decide +kernel
theorem dX4_bestAsking_17 : decode cX4_bestAsking 17 = .ok (.getfield 63, 3) := by decide +kernel
theorem dX4_bestAsking_20 : decode cX4_bestAsking 20 = .ok (.if_icmp .ge 30, 3) := by decide +kernel
theorem dX4_bestAsking_23 : decode cX4_bestAsking 23 = .ok (.aload_n 0, 1) := by decide +kernel
theorem dX4_bestAsking_24 : decode cX4_bestAsking 24 = .ok (.iload_n 1, 1) := by decide +kernel
theorem dX4_bestAsking_25 : decode cX4_bestAsking 25 = .ok (.iload 4, 2) := by decide +kernel
theorem dX4_bestAsking_27 : decode cX4_bestAsking 27 = .ok (.invokevirtual 143, 3) := by decide +kernel
theorem dX4_bestAsking_30 : decode cX4_bestAsking 30 = .ok (.istore 5, 2) := by decide +kernel
theorem dX4_bestAsking_32 : decode cX4_bestAsking 32 = .ok (.iload 5, 2) := by decide +kernel
theorem dX4_bestAsking_34 : decode cX4_bestAsking 34 = .ok (.iload_n 3, 1) := by decide +kernel
theorem dX4_bestAsking_35 : decode cX4_bestAsking 35 = .ok (.if_icmp .ge 9, 3) := by decide +kernel
theorem dX4_bestAsking_38 : decode cX4_bestAsking 38 = .ok (.iload 5, 2) := by decide +kernel
theorem dX4_bestAsking_40 : decode cX4_bestAsking 40 = .ok (.istore_n 3, 1) := by decide +kernel
theorem dX4_bestAsking_41 : decode cX4_bestAsking 41 = .ok (.iload 4, 2) := by decide +kernel
theorem dX4_bestAsking_43 : decode cX4_bestAsking 43 = .ok (.istore_n 2, 1) := by decide +kernel
theorem dX4_bestAsking_44 : decode cX4_bestAsking 44 = .ok (.iinc 4 1, 3) := by decide +kernel
theorem dX4_bestAsking_47 : decode cX4_bestAsking 47 = .ok (.goto (-36), 3) := by decide +kernel
theorem dX4_bestAsking_50 : decode cX4_bestAsking 50 = .ok (.iload_n 2, 1) := by decide +kernel
theorem dX4_bestAsking_51 : decode cX4_bestAsking 51 = .ok (.ireturn, 1) := by decide +kernel
set_option maxRecDepth 20000 in
theorem ggX4_greatestHeap_X4_toldNow : GoodIn wsX4_greatestHeap wsX4_toldNow := goodIn_r _ [10, 11, 12, 13, 14, 15, 16, 17, 18, 19, 20, 21, 22, 9, 23, 24, 25, 26, 27, 28, 29, 1, 30, 31, 32, 33, 34, 35, 36, 37, 38, 39, 40, 41, 42, 43, 44, 45, 46, 47, 48, 49, 50, 51, 52, 53, 54, 55, 56, 57, 58, 59, 60, 61, 2, 3, 4, 5, 62, 63, 64, 65, 66, 67, 68, 69, 70, 71, 72, 73, 74, 75, 76, 77, 78, 79, 80, 81, 82, 83] (by decide +kernel) (by decide +kernel)
set_option maxRecDepth 20000 in
theorem gX4_greatestHeap_X4_toldNow : GoodIn wsX4_greatestHeap (wsV RX4 139 RX4 yX4_toldNow wsX4_toldNow) := goodIn_app (goodIn_of _ (by decide +kernel)) ggX4_greatestHeap_X4_toldNow
theorem dX4_greatestHeap_0 : decode cX4_greatestHeap 0 = .ok (.iconst 0, 1) := by decide +kernel
theorem dX4_greatestHeap_1 : decode cX4_greatestHeap 1 = .ok (.istore_n 3, 1) := by decide +kernel
theorem dX4_greatestHeap_2 : decode cX4_greatestHeap 2 = .ok (.iconst 0, 1) := by decide +kernel
theorem dX4_greatestHeap_3 : decode cX4_greatestHeap 3 = .ok (.istore 4, 2) := by decide +kernel
theorem dX4_greatestHeap_5 : decode cX4_greatestHeap 5 = .ok (.iconst 0, 1) := by decide +kernel
theorem dX4_greatestHeap_6 : decode cX4_greatestHeap 6 = .ok (.istore 5, 2) := by decide +kernel
theorem dX4_greatestHeap_8 : decode cX4_greatestHeap 8 = .ok (.iconst 0, 1) := by decide +kernel
theorem dX4_greatestHeap_9 : decode cX4_greatestHeap 9 = .ok (.istore 6, 2) := by decide +kernel
theorem dX4_greatestHeap_11 : decode cX4_greatestHeap 11 = .ok (.iload 6, 2) := by decide +kernel
theorem dX4_greatestHeap_13 : decode cX4_greatestHeap 13 = .ok (.aload_n 0, 1) := by decide +kernel
theorem dX4_greatestHeap_14 : decode cX4_greatestHeap 14 = .ok (.getfield 47, 3) := by decide +kernel
theorem dX4_greatestHeap_17 : decode cX4_greatestHeap 17 = .ok (.if_icmp .ge 45, 3) := by decide +kernel
theorem dX4_greatestHeap_20 : decode cX4_greatestHeap 20 = .ok (.aload_n 0, 1) := by decide +kernel
theorem dX4_greatestHeap_21 : decode cX4_greatestHeap 21 = .ok (.iload 6, 2) := by decide +kernel
theorem dX4_greatestHeap_23 : decode cX4_greatestHeap 23 = .ok (.iload_n 1, 1) := by decide +kernel
theorem dX4_greatestHeap_24 : decode cX4_greatestHeap 24 = .ok (.iload_n 2, 1) := by decide +kernel
theorem dX4_greatestHeap_25 : decode cX4_greatestHeap 25 = .ok (.invokevirtual 139, 3) := by decide +kernel
theorem dX4_greatestHeap_28 : decode cX4_greatestHeap 28 = .ok (.istore 7, 2) := by decide +kernel
theorem dX4_greatestHeap_30 : decode cX4_greatestHeap 30 = .ok (.iload 7, 2) := by decide +kernel
theorem dX4_greatestHeap_32 : decode cX4_greatestHeap 32 = .ok (.ifCond .ne 9, 3) := by decide +kernel
theorem dX4_greatestHeap_35 : decode cX4_greatestHeap 35 = .ok (.iinc 3 1, 3) := by decide +kernel
theorem dX4_greatestHeap_38 : decode cX4_greatestHeap 38 = .ok (.goto 18, 3) := by decide +kernel
theorem dX4_greatestHeap_41 : decode cX4_greatestHeap 41 = .ok (.iload 7, 2) := by decide +kernel
theorem dX4_greatestHeap_43 : decode cX4_greatestHeap 43 = .ok (.iconst 1, 1) := by decide +kernel
theorem dX4_greatestHeap_44 : decode cX4_greatestHeap 44 = .ok (.if_icmp .ne 9, 3) := by decide +kernel
theorem dX4_greatestHeap_47 : decode cX4_greatestHeap 47 = .ok (.iinc 4 1, 3) := by decide +kernel
theorem dX4_greatestHeap_50 : decode cX4_greatestHeap 50 = .ok (.goto 6, 3) := by decide +kernel
theorem dX4_greatestHeap_53 : decode cX4_greatestHeap 53 = .ok (.iinc 5 1, 3) := by decide +kernel
theorem dX4_greatestHeap_56 : decode cX4_greatestHeap 56 = .ok (.iinc 6 1, 3) := by decide +kernel
theorem dX4_greatestHeap_59 : decode cX4_greatestHeap 59 = .ok (.goto (-48), 3) := by decide +kernel
theorem dX4_greatestHeap_62 : decode cX4_greatestHeap 62 = .ok (.iload_n 3, 1) := by decide +kernel
theorem dX4_greatestHeap_63 : decode cX4_greatestHeap 63 = .ok (.iload 4, 2) := by decide +kernel
theorem dX4_greatestHeap_65 : decode cX4_greatestHeap 65 = .ok (.iload 5, 2) := by decide +kernel
theorem dX4_greatestHeap_67 : decode cX4_greatestHeap 67 = .ok (.invokestatic 114, 3) := by decide +kernel
theorem dX4_greatestHeap_70 : decode cX4_greatestHeap 70 = .ok (.invokestatic 114, 3) := by decide +kernel
theorem dX4_greatestHeap_73 : decode cX4_greatestHeap 73 = .ok (.ireturn, 1) := by decide +kernel
set_option maxRecDepth 20000 in
theorem ggX4_isSame_X2_at : GoodIn wsX4_isSame wsX2_at := goodIn_r _ [6, 7, 8, 9, 16, 17, 18, 19] (by decide +kernel) (by decide +kernel)
set_option maxRecDepth 20000 in
theorem gX4_isSame_X2_at : GoodIn wsX4_isSame (wsV RX4 66 RX2 yX2_at wsX2_at) := goodIn_app (goodIn_of _ (by decide +kernel)) ggX4_isSame_X2_at
theorem dX4_isSame_0 : decode cX4_isSame 0 = .ok (.aload_n 0, 1) := by decide +kernel
theorem dX4_isSame_1 : decode cX4_isSame 1 = .ok (.getfield 23, 3) := by decide +kernel
theorem dX4_isSame_4 : decode cX4_isSame 4 = .ok (.iload_n 1, 1) := by decide +kernel
theorem dX4_isSame_5 : decode cX4_isSame 5 = .ok (.iconst 2, 1) := by decide +kernel
theorem dX4_isSame_6 : decode cX4_isSame 6 = .ok (.invokevirtual 66, 3) := by decide +kernel
theorem dX4_isSame_9 : decode cX4_isSame 9 = .ok (.iconst 1, 1) := by decide +kernel
theorem dX4_isSame_10 : decode cX4_isSame 10 = .ok (.if_icmp .ne 7, 3) := by decide +kernel
theorem dX4_isSame_13 : decode cX4_isSame 13 = .ok (.iconst 1, 1) := by decide +kernel
theorem dX4_isSame_14 : decode cX4_isSame 14 = .ok (.goto 4, 3) := by decide +kernel
theorem dX4_isSame_17 : decode cX4_isSame 17 = .ok (.iconst 0, 1) := by decide +kernel
theorem dX4_isSame_18 : decode cX4_isSame 18 = .ok (.ireturn, 1) := by decide +kernel
set_option maxRecDepth 20000 in
theorem ggX4_ofAsked_X2_at : GoodIn wsX4_ofAsked wsX2_at := goodIn_r _ [7, 8, 9, 10, 17, 18, 19, 20] (by decide +kernel) (by decide +kernel)
set_option maxRecDepth 20000 in
theorem gX4_ofAsked_X2_at : GoodIn wsX4_ofAsked (wsV RX4 66 RX2 yX2_at wsX2_at) := goodIn_app (goodIn_of _ (by decide +kernel)) ggX4_ofAsked_X2_at
theorem dX4_ofAsked_0 : decode cX4_ofAsked 0 = .ok (.aload_n 0, 1) := by decide +kernel
theorem dX4_ofAsked_1 : decode cX4_ofAsked 1 = .ok (.getfield 20, 3) := by decide +kernel
theorem dX4_ofAsked_4 : decode cX4_ofAsked 4 = .ok (.aload_n 0, 1) := by decide +kernel
theorem dX4_ofAsked_5 : decode cX4_ofAsked 5 = .ok (.getfield 23, 3) := by decide +kernel
theorem dX4_ofAsked_8 : decode cX4_ofAsked 8 = .ok (.iload_n 1, 1) := by decide +kernel
theorem dX4_ofAsked_9 : decode cX4_ofAsked 9 = .ok (.iconst 1, 1) := by decide +kernel
theorem dX4_ofAsked_10 : decode cX4_ofAsked 10 = .ok (.invokevirtual 66, 3) := by decide +kernel
theorem dX4_ofAsked_13 : decode cX4_ofAsked 13 = .ok (.iload_n 2, 1) := by decide +kernel
theorem dX4_ofAsked_14 : decode cX4_ofAsked 14 = .ok (.invokevirtual 66, 3) := by decide +kernel
theorem dX4_ofAsked_17 : decode cX4_ofAsked 17 = .ok (.ireturn, 1) := by decide +kernel
set_option maxRecDepth 20000 in
theorem ggX4_unchanged_X4_ofAsked : GoodIn wsX4_unchanged wsX4_ofAsked := goodIn_r _ [7, 8, 1, 9, 10, 11, 12, 13, 14, 15, 16, 21, 22, 23, 24, 25, 26, 27, 28, 29, 30] (by decide +kernel) (by decide +kernel)
set_option maxRecDepth 20000 in
theorem gX4_unchanged_X4_ofAsked : GoodIn wsX4_unchanged (wsV RX4 146 RX4 yX4_ofAsked wsX4_ofAsked) := goodIn_app (goodIn_of _ (by decide +kernel)) ggX4_unchanged_X4_ofAsked
set_option maxRecDepth 20000 in
theorem ggX4_unchanged_X4_isSame : GoodIn wsX4_unchanged wsX4_isSame := goodIn_r _ [20, 1, 9, 10, 11, 12, 13, 14, 15, 16, 21, 22, 23, 24, 25, 26, 27, 28, 29, 30] (by decide +kernel) (by decide +kernel)
set_option maxRecDepth 20000 in
theorem gX4_unchanged_X4_isSame : GoodIn wsX4_unchanged (wsV RX4 149 RX4 yX4_isSame wsX4_isSame) := goodIn_app (goodIn_of _ (by decide +kernel)) ggX4_unchanged_X4_isSame
theorem dX4_unchanged_0 : decode cX4_unchanged 0 = .ok (.lconst 0, 1) := by decide +kernel
theorem dX4_unchanged_1 : decode cX4_unchanged 1 = .ok (.lstore 4, 2) := by decide +kernel
theorem dX4_unchanged_3 : decode cX4_unchanged 3 = .ok (.iconst 0, 1) := by decide +kernel
theorem dX4_unchanged_4 : decode cX4_unchanged 4 = .ok (.istore 6, 2) := by decide +kernel
theorem dX4_unchanged_6 : decode cX4_unchanged 6 = .ok (.iload 6, 2) := by decide +kernel
theorem dX4_unchanged_8 : decode cX4_unchanged 8 = .ok (.aload_n 0, 1) := by decide +kernel
theorem dX4_unchanged_9 : decode cX4_unchanged 9 = .ok (.getfield 23, 3) := by decide +kernel
theorem dX4_unchanged_12 : decode cX4_unchanged 12 = .ok (.getfield 63, 3) := by decide +kernel
theorem dX4_unchanged_15 : decode cX4_unchanged 15 = .ok (.if_icmp .ge 78, 3) := by decide +kernel
theorem dX4_unchanged_18 : decode cX4_unchanged 18 = .ok (.aload_n 0, 1) := by decide +kernel
theorem dX4_unchanged_19 : decode cX4_unchanged 19 = .ok (.iload 6, 2) := by decide +kernel
theorem dX4_unchanged_21 : decode cX4_unchanged 21 = .ok (.bipush 6, 2) := by decide +kernel
theorem dX4_unchanged_23 : decode cX4_unchanged 23 = .ok (.invokevirtual 146, 3) := by decide +kernel
theorem dX4_unchanged_26 : decode cX4_unchanged 26 = .ok (.ifCond .ne 34, 3) := by decide +kernel
theorem dX4_unchanged_29 : decode cX4_unchanged 29 = .ok (.aload_n 0, 1) := by decide +kernel
theorem dX4_unchanged_30 : decode cX4_unchanged 30 = .ok (.iload 6, 2) := by decide +kernel
theorem dX4_unchanged_32 : decode cX4_unchanged 32 = .ok (.iconst 1, 1) := by decide +kernel
theorem dX4_unchanged_33 : decode cX4_unchanged 33 = .ok (.invokevirtual 146, 3) := by decide +kernel
theorem dX4_unchanged_36 : decode cX4_unchanged 36 = .ok (.iload_n 1, 1) := by decide +kernel
theorem dX4_unchanged_37 : decode cX4_unchanged 37 = .ok (.if_icmp .ne 23, 3) := by decide +kernel
theorem dX4_unchanged_40 : decode cX4_unchanged 40 = .ok (.iload_n 2, 1) := by decide +kernel
theorem dX4_unchanged_41 : decode cX4_unchanged 41 = .ok (.iconst (-1), 1) := by decide +kernel
theorem dX4_unchanged_42 : decode cX4_unchanged 42 = .ok (.if_icmp .eq 14, 3) := by decide +kernel
theorem dX4_unchanged_45 : decode cX4_unchanged 45 = .ok (.aload_n 0, 1) := by decide +kernel
theorem dX4_unchanged_46 : decode cX4_unchanged 46 = .ok (.iload 6, 2) := by decide +kernel
theorem dX4_unchanged_48 : decode cX4_unchanged 48 = .ok (.iconst 2, 1) := by decide +kernel
theorem dX4_unchanged_49 : decode cX4_unchanged 49 = .ok (.invokevirtual 146, 3) := by decide +kernel
theorem dX4_unchanged_52 : decode cX4_unchanged 52 = .ok (.iload_n 2, 1) := by decide +kernel
theorem dX4_unchanged_53 : decode cX4_unchanged 53 = .ok (.if_icmp .ne 7, 3) := by decide +kernel
theorem dX4_unchanged_56 : decode cX4_unchanged 56 = .ok (.iconst 1, 1) := by decide +kernel
theorem dX4_unchanged_57 : decode cX4_unchanged 57 = .ok (.goto 4, 3) := by decide +kernel
theorem dX4_unchanged_60 : decode cX4_unchanged 60 = .ok (.iconst 0, 1) := by decide +kernel
theorem dX4_unchanged_61 : decode cX4_unchanged 61 = .ok (.istore 7, 2) := by decide +kernel
theorem dX4_unchanged_63 : decode cX4_unchanged 63 = .ok (.iload 7, 2) := by decide +kernel
theorem dX4_unchanged_65 : decode cX4_unchanged 65 = .ok (.ifCond .eq 22, 3) := by decide +kernel
theorem dX4_unchanged_68 : decode cX4_unchanged 68 = .ok (.iload_n 3, 1) := by decide +kernel
theorem dX4_unchanged_69 : decode cX4_unchanged 69 = .ok (.ifCond .eq 12, 3) := by decide +kernel
theorem dX4_unchanged_72 : decode cX4_unchanged 72 = .ok (.aload_n 0, 1) := by decide +kernel
theorem dX4_unchanged_73 : decode cX4_unchanged 73 = .ok (.iload 6, 2) := by decide +kernel
theorem dX4_unchanged_75 : decode cX4_unchanged 75 = .ok (.invokevirtual 149, 3) := by decide +kernel
theorem dX4_unchanged_78 : decode cX4_unchanged 78 = .ok (.ifCond .eq 9, 3) := by decide +kernel
theorem dX4_unchanged_81 : decode cX4_unchanged 81 = .ok (.lload 4, 2) := by decide +kernel
theorem dX4_unchanged_83 : decode cX4_unchanged 83 = .ok (.lconst 1, 1) := by decide +kernel
theorem dX4_unchanged_84 : decode cX4_unchanged 84 = .ok (.ladd, 1) := by decide +kernel
theorem dX4_unchanged_85 : decode cX4_unchanged 85 = .ok (.lstore 4, 2) := by decide +kernel
theorem dX4_unchanged_87 : decode cX4_unchanged 87 = .ok (.iinc 6 1, 3) := by decide +kernel
theorem dX4_unchanged_90 : decode cX4_unchanged 90 = .ok (.goto (-84), 3) := by decide +kernel
theorem dX4_unchanged_93 : decode cX4_unchanged 93 = .ok (.lload 4, 2) := by decide +kernel
theorem dX4_unchanged_95 : decode cX4_unchanged 95 = .ok (.lreturn, 1) := by decide +kernel
set_option maxRecDepth 20000 in
theorem ggX4_shareLess_X4_unchanged : GoodIn wsX4_shareLess wsX4_unchanged := goodIn_r _ [9, 10, 11, 12, 13, 14, 8, 15, 16, 17, 18, 19, 20, 21, 22, 23, 24, 25, 26, 27, 28, 36, 37, 38, 39, 40, 41, 42, 43, 44, 45] (by decide +kernel) (by decide +kernel)
set_option maxRecDepth 20000 in
theorem gX4_shareLess_X4_unchanged : GoodIn wsX4_shareLess (wsV RX4 152 RX4 yX4_unchanged wsX4_unchanged) := goodIn_app (goodIn_of _ (by decide +kernel)) ggX4_shareLess_X4_unchanged
set_option maxRecDepth 20000 in
theorem ggX4_shareLess_X5_lowest : GoodIn wsX4_shareLess wsX5_lowest := goodIn_r _ [31, 32, 33, 3, 34, 35, 2, 4] (by decide +kernel) (by decide +kernel)
set_option maxRecDepth 20000 in
theorem gX4_shareLess_X5_lowest_n159 : GoodIn wsX4_shareLess (wsX5_lowest) := ggX4_shareLess_X5_lowest
theorem dX4_shareLess_0 : decode cX4_shareLess 0 = .ok (.aload_n 0, 1) := by decide +kernel
theorem dX4_shareLess_1 : decode cX4_shareLess 1 = .ok (.iload_n 1, 1) := by decide +kernel
theorem dX4_shareLess_2 : decode cX4_shareLess 2 = .ok (.iload_n 2, 1) := by decide +kernel
theorem dX4_shareLess_3 : decode cX4_shareLess 3 = .ok (.iconst 0, 1) := by decide +kernel
theorem dX4_shareLess_4 : decode cX4_shareLess 4 = .ok (.invokevirtual 152, 3) := by decide +kernel
theorem dX4_shareLess_7 : decode cX4_shareLess 7 = .ok (.lconst 1, 1) := by decide +kernel
theorem dX4_shareLess_8 : decode cX4_shareLess 8 = .ok (.invokestatic 156, 3) := by decide +kernel
theorem dX4_shareLess_11 : decode cX4_shareLess 11 = .ok (.lstore 6, 2) := by decide +kernel
theorem dX4_shareLess_13 : decode cX4_shareLess 13 = .ok (.aload_n 0, 1) := by decide +kernel
theorem dX4_shareLess_14 : decode cX4_shareLess 14 = .ok (.iload_n 3, 1) := by decide +kernel
theorem dX4_shareLess_15 : decode cX4_shareLess 15 = .ok (.iload 4, 2) := by decide +kernel
theorem dX4_shareLess_17 : decode cX4_shareLess 17 = .ok (.iconst 0, 1) := by decide +kernel
theorem dX4_shareLess_18 : decode cX4_shareLess 18 = .ok (.invokevirtual 152, 3) := by decide +kernel
theorem dX4_shareLess_21 : decode cX4_shareLess 21 = .ok (.lconst 1, 1) := by decide +kernel
theorem dX4_shareLess_22 : decode cX4_shareLess 22 = .ok (.invokestatic 156, 3) := by decide +kernel
theorem dX4_shareLess_25 : decode cX4_shareLess 25 = .ok (.lstore 8, 2) := by decide +kernel
theorem dX4_shareLess_27 : decode cX4_shareLess 27 = .ok (.aload_n 0, 1) := by decide +kernel
theorem dX4_shareLess_28 : decode cX4_shareLess 28 = .ok (.iload_n 1, 1) := by decide +kernel
theorem dX4_shareLess_29 : decode cX4_shareLess 29 = .ok (.iload_n 2, 1) := by decide +kernel
theorem dX4_shareLess_30 : decode cX4_shareLess 30 = .ok (.iconst 1, 1) := by decide +kernel
theorem dX4_shareLess_31 : decode cX4_shareLess 31 = .ok (.invokevirtual 152, 3) := by decide +kernel
theorem dX4_shareLess_34 : decode cX4_shareLess 34 = .ok (.lload 8, 2) := by decide +kernel
theorem dX4_shareLess_36 : decode cX4_shareLess 36 = .ok (.lmul, 1) := by decide +kernel
theorem dX4_shareLess_37 : decode cX4_shareLess 37 = .ok (.aload_n 0, 1) := by decide +kernel
theorem dX4_shareLess_38 : decode cX4_shareLess 38 = .ok (.iload_n 3, 1) := by decide +kernel
theorem dX4_shareLess_39 : decode cX4_shareLess 39 = .ok (.iload 4, 2) := by decide +kernel
theorem dX4_shareLess_41 : decode cX4_shareLess 41 = .ok (.iconst 1, 1) := by decide +kernel
theorem dX4_shareLess_42 : decode cX4_shareLess 42 = .ok (.invokevirtual 152, 3) := by decide +kernel
theorem dX4_shareLess_45 : decode cX4_shareLess 45 = .ok (.lload 6, 2) := by decide +kernel
theorem dX4_shareLess_47 : decode cX4_shareLess 47 = .ok (.lmul, 1) := by decide +kernel
theorem dX4_shareLess_48 : decode cX4_shareLess 48 = .ok (.lsub, 1) := by decide +kernel
theorem dX4_shareLess_49 : decode cX4_shareLess 49 = .ok (.lstore 10, 2) := by decide +kernel
theorem dX4_shareLess_51 : decode cX4_shareLess 51 = .ok (.lload 10, 2) := by decide +kernel
theorem dX4_shareLess_53 : decode cX4_shareLess 53 = .ok (.lload 6, 2) := by decide +kernel
theorem dX4_shareLess_55 : decode cX4_shareLess 55 = .ok (.lload 8, 2) := by decide +kernel
theorem dX4_shareLess_57 : decode cX4_shareLess 57 = .ok (.lmul, 1) := by decide +kernel
theorem dX4_shareLess_58 : decode cX4_shareLess 58 = .ok (.iload 5, 2) := by decide +kernel
theorem dX4_shareLess_60 : decode cX4_shareLess 60 = .ok (.invokestatic 159, 3) := by decide +kernel
theorem dX4_shareLess_63 : decode cX4_shareLess 63 = .ok (.lreturn, 1) := by decide +kernel
set_option maxRecDepth 20000 in
theorem ggX4_fooledChildren_X4_isSame : GoodIn wsX4_fooledChildren wsX4_isSame := goodIn_r _ [7, 1, 8, 9, 10, 11, 12, 13, 14, 15, 21, 22, 23, 24, 25, 26, 27, 28, 29, 30] (by decide +kernel) (by decide +kernel)
set_option maxRecDepth 20000 in
theorem gX4_fooledChildren_X4_isSame : GoodIn wsX4_fooledChildren (wsV RX4 149 RX4 yX4_isSame wsX4_isSame) := goodIn_app (goodIn_of _ (by decide +kernel)) ggX4_fooledChildren_X4_isSame
set_option maxRecDepth 20000 in
theorem ggX4_fooledChildren_X4_ofAsked : GoodIn wsX4_fooledChildren wsX4_ofAsked := goodIn_r _ [19, 20, 1, 8, 9, 10, 11, 12, 13, 14, 15, 21, 22, 23, 24, 25, 26, 27, 28, 29, 30] (by decide +kernel) (by decide +kernel)
set_option maxRecDepth 20000 in
theorem gX4_fooledChildren_X4_ofAsked : GoodIn wsX4_fooledChildren (wsV RX4 146 RX4 yX4_ofAsked wsX4_ofAsked) := goodIn_app (goodIn_of _ (by decide +kernel)) ggX4_fooledChildren_X4_ofAsked
set_option maxRecDepth 20000 in
theorem ggX4_fooledChildren_X2_at : GoodIn wsX4_fooledChildren wsX2_at := goodIn_r _ [12, 13, 14, 15, 27, 28, 29, 30] (by decide +kernel) (by decide +kernel)
set_option maxRecDepth 20000 in
theorem gX4_fooledChildren_X2_at : GoodIn wsX4_fooledChildren (wsV RX4 66 RX2 yX2_at wsX2_at) := goodIn_app (goodIn_of _ (by decide +kernel)) ggX4_fooledChildren_X2_at
theorem dX4_fooledChildren_0 : decode cX4_fooledChildren 0 = .ok (.iconst 0, 1) := by decide +kernel
theorem dX4_fooledChildren_1 : decode cX4_fooledChildren 1 = .ok (.istore_n 1, 1) := by decide +kernel
theorem dX4_fooledChildren_2 : decode cX4_fooledChildren 2 = .ok (.iconst 0, 1) := by decide +kernel
theorem dX4_fooledChildren_3 : decode cX4_fooledChildren 3 = .ok (.istore_n 2, 1) := by decide +kernel
theorem dX4_fooledChildren_4 : decode cX4_fooledChildren 4 = .ok (.iload_n 2, 1) := by decide +kernel
theorem dX4_fooledChildren_5 : decode cX4_fooledChildren 5 = .ok (.aload_n 0, 1) := by decide +kernel
theorem dX4_fooledChildren_6 : decode cX4_fooledChildren 6 = .ok (.getfield 23, 3) := by decide +kernel
theorem dX4_fooledChildren_9 : decode cX4_fooledChildren 9 = .ok (.getfield 63, 3) := by decide +kernel
theorem dX4_fooledChildren_12 : decode cX4_fooledChildren 12 = .ok (.if_icmp .ge 41, 3) := by decide +kernel
theorem dX4_fooledChildren_15 : decode cX4_fooledChildren 15 = .ok (.aload_n 0, 1) := by decide +kernel
theorem dX4_fooledChildren_16 : decode cX4_fooledChildren 16 = .ok (.iload_n 2, 1) := by decide +kernel
theorem dX4_fooledChildren_17 : decode cX4_fooledChildren 17 = .ok (.invokevirtual 149, 3) := by decide +kernel
theorem dX4_fooledChildren_20 : decode cX4_fooledChildren 20 = .ok (.ifCond .eq 27, 3) := by decide +kernel
theorem dX4_fooledChildren_23 : decode cX4_fooledChildren 23 = .ok (.aload_n 0, 1) := by decide +kernel
theorem dX4_fooledChildren_24 : decode cX4_fooledChildren 24 = .ok (.iload_n 2, 1) := by decide +kernel
theorem dX4_fooledChildren_25 : decode cX4_fooledChildren 25 = .ok (.bipush 6, 2) := by decide +kernel
theorem dX4_fooledChildren_27 : decode cX4_fooledChildren 27 = .ok (.invokevirtual 146, 3) := by decide +kernel
theorem dX4_fooledChildren_30 : decode cX4_fooledChildren 30 = .ok (.ifCond .eq 17, 3) := by decide +kernel
theorem dX4_fooledChildren_33 : decode cX4_fooledChildren 33 = .ok (.iload_n 1, 1) := by decide +kernel
theorem dX4_fooledChildren_34 : decode cX4_fooledChildren 34 = .ok (.iconst 1, 1) := by decide +kernel
theorem dX4_fooledChildren_35 : decode cX4_fooledChildren 35 = .ok (.aload_n 0, 1) := by decide +kernel
theorem dX4_fooledChildren_36 : decode cX4_fooledChildren 36 = .ok (.getfield 23, 3) := by decide +kernel
theorem dX4_fooledChildren_39 : decode cX4_fooledChildren 39 = .ok (.iload_n 2, 1) := by decide +kernel
theorem dX4_fooledChildren_40 : decode cX4_fooledChildren 40 = .ok (.iconst 0, 1) := by decide +kernel
theorem dX4_fooledChildren_41 : decode cX4_fooledChildren 41 = .ok (.invokevirtual 66, 3) := by decide +kernel
theorem dX4_fooledChildren_44 : decode cX4_fooledChildren 44 = .ok (.ishl, 1) := by decide +kernel
theorem dX4_fooledChildren_45 : decode cX4_fooledChildren 45 = .ok (.ior, 1) := by decide +kernel
theorem dX4_fooledChildren_46 : decode cX4_fooledChildren 46 = .ok (.istore_n 1, 1) := by decide +kernel
theorem dX4_fooledChildren_47 : decode cX4_fooledChildren 47 = .ok (.iinc 2 1, 3) := by decide +kernel
theorem dX4_fooledChildren_50 : decode cX4_fooledChildren 50 = .ok (.goto (-46), 3) := by decide +kernel
theorem dX4_fooledChildren_53 : decode cX4_fooledChildren 53 = .ok (.iload_n 1, 1) := by decide +kernel
theorem dX4_fooledChildren_54 : decode cX4_fooledChildren 54 = .ok (.ireturn, 1) := by decide +kernel
set_option maxRecDepth 20000 in
theorem ggX4_stepOf_X2_at : GoodIn wsX4_stepOf wsX2_at := goodIn_r _ [7, 8, 9, 10, 27, 28, 29, 30] (by decide +kernel) (by decide +kernel)
set_option maxRecDepth 20000 in
theorem gX4_stepOf_X2_at : GoodIn wsX4_stepOf (wsV RX4 66 RX2 yX2_at wsX2_at) := goodIn_app (goodIn_of _ (by decide +kernel)) ggX4_stepOf_X2_at
set_option maxRecDepth 20000 in
theorem ggX4_stepOf_X4_ofAsked : GoodIn wsX4_stepOf wsX4_ofAsked := goodIn_r _ [15, 16, 1, 3, 4, 5, 6, 7, 8, 9, 10, 21, 22, 23, 24, 25, 26, 27, 28, 29, 30] (by decide +kernel) (by decide +kernel)
set_option maxRecDepth 20000 in
theorem gX4_stepOf_X4_ofAsked : GoodIn wsX4_stepOf (wsV RX4 146 RX4 yX4_ofAsked wsX4_ofAsked) := goodIn_app (goodIn_of _ (by decide +kernel)) ggX4_stepOf_X4_ofAsked
set_option maxRecDepth 20000 in
theorem ggX4_stepOf_X4_isSame : GoodIn wsX4_stepOf wsX4_isSame := goodIn_r _ [20, 1, 3, 4, 5, 6, 7, 8, 9, 10, 21, 22, 23, 24, 25, 26, 27, 28, 29, 30] (by decide +kernel) (by decide +kernel)
set_option maxRecDepth 20000 in
theorem gX4_stepOf_X4_isSame : GoodIn wsX4_stepOf (wsV RX4 149 RX4 yX4_isSame wsX4_isSame) := goodIn_app (goodIn_of _ (by decide +kernel)) ggX4_stepOf_X4_isSame
theorem dX4_stepOf_0 : decode cX4_stepOf 0 = .ok (.iconst 0, 1) := by decide +kernel
theorem dX4_stepOf_1 : decode cX4_stepOf 1 = .ok (.istore_n 3, 1) := by decide +kernel
theorem dX4_stepOf_2 : decode cX4_stepOf 2 = .ok (.iconst 0, 1) := by decide +kernel
theorem dX4_stepOf_3 : decode cX4_stepOf 3 = .ok (.istore 4, 2) := by decide +kernel
theorem dX4_stepOf_5 : decode cX4_stepOf 5 = .ok (.iload 4, 2) := by decide +kernel
theorem dX4_stepOf_7 : decode cX4_stepOf 7 = .ok (.aload_n 0, 1) := by decide +kernel
theorem dX4_stepOf_8 : decode cX4_stepOf 8 = .ok (.getfield 23, 3) := by decide +kernel
theorem dX4_stepOf_11 : decode cX4_stepOf 11 = .ok (.getfield 63, 3) := by decide +kernel
theorem dX4_stepOf_14 : decode cX4_stepOf 14 = .ok (.if_icmp .ge 75, 3) := by decide +kernel
theorem dX4_stepOf_17 : decode cX4_stepOf 17 = .ok (.aload_n 0, 1) := by decide +kernel
theorem dX4_stepOf_18 : decode cX4_stepOf 18 = .ok (.getfield 23, 3) := by decide +kernel
theorem dX4_stepOf_21 : decode cX4_stepOf 21 = .ok (.iload 4, 2) := by decide +kernel
theorem dX4_stepOf_23 : decode cX4_stepOf 23 = .ok (.iconst 0, 1) := by decide +kernel
theorem dX4_stepOf_24 : decode cX4_stepOf 24 = .ok (.invokevirtual 66, 3) := by decide +kernel
theorem dX4_stepOf_27 : decode cX4_stepOf 27 = .ok (.iload_n 1, 1) := by decide +kernel
theorem dX4_stepOf_28 : decode cX4_stepOf 28 = .ok (.if_icmp .ne 29, 3) := by decide +kernel
theorem dX4_stepOf_31 : decode cX4_stepOf 31 = .ok (.aload_n 0, 1) := by decide +kernel
theorem dX4_stepOf_32 : decode cX4_stepOf 32 = .ok (.iload 4, 2) := by decide +kernel
theorem dX4_stepOf_34 : decode cX4_stepOf 34 = .ok (.iconst 0, 1) := by decide +kernel
theorem dX4_stepOf_35 : decode cX4_stepOf 35 = .ok (.invokevirtual 146, 3) := by decide +kernel
theorem dX4_stepOf_38 : decode cX4_stepOf 38 = .ok (.iload_n 2, 1) := by decide +kernel
theorem dX4_stepOf_39 : decode cX4_stepOf 39 = .ok (.if_icmp .ne 18, 3) := by decide +kernel
theorem dX4_stepOf_42 : decode cX4_stepOf 42 = .ok (.aload_n 0, 1) := by decide +kernel
theorem dX4_stepOf_43 : decode cX4_stepOf 43 = .ok (.iload 4, 2) := by decide +kernel
theorem dX4_stepOf_45 : decode cX4_stepOf 45 = .ok (.bipush 6, 2) := by decide +kernel
theorem dX4_stepOf_47 : decode cX4_stepOf 47 = .ok (.invokevirtual 146, 3) := by decide +kernel
theorem dX4_stepOf_50 : decode cX4_stepOf 50 = .ok (.ifCond .ne 7, 3) := by decide +kernel
theorem dX4_stepOf_53 : decode cX4_stepOf 53 = .ok (.iconst 1, 1) := by decide +kernel
theorem dX4_stepOf_54 : decode cX4_stepOf 54 = .ok (.goto 4, 3) := by decide +kernel
theorem dX4_stepOf_57 : decode cX4_stepOf 57 = .ok (.iconst 0, 1) := by decide +kernel
theorem dX4_stepOf_58 : decode cX4_stepOf 58 = .ok (.istore 5, 2) := by decide +kernel
theorem dX4_stepOf_60 : decode cX4_stepOf 60 = .ok (.iload 5, 2) := by decide +kernel
theorem dX4_stepOf_62 : decode cX4_stepOf 62 = .ok (.ifCond .eq 14, 3) := by decide +kernel
theorem dX4_stepOf_65 : decode cX4_stepOf 65 = .ok (.aload_n 0, 1) := by decide +kernel
theorem dX4_stepOf_66 : decode cX4_stepOf 66 = .ok (.iload 4, 2) := by decide +kernel
theorem dX4_stepOf_68 : decode cX4_stepOf 68 = .ok (.invokevirtual 149, 3) := by decide +kernel
theorem dX4_stepOf_71 : decode cX4_stepOf 71 = .ok (.ifCond .ne 5, 3) := by decide +kernel
theorem dX4_stepOf_74 : decode cX4_stepOf 74 = .ok (.iconst 2, 1) := by decide +kernel
theorem dX4_stepOf_75 : decode cX4_stepOf 75 = .ok (.ireturn, 1) := by decide +kernel
theorem dX4_stepOf_76 : decode cX4_stepOf 76 = .ok (.iload 5, 2) := by decide +kernel
theorem dX4_stepOf_78 : decode cX4_stepOf 78 = .ok (.ifCond .eq 5, 3) := by decide +kernel
theorem dX4_stepOf_81 : decode cX4_stepOf 81 = .ok (.iconst 1, 1) := by decide +kernel
theorem dX4_stepOf_82 : decode cX4_stepOf 82 = .ok (.istore_n 3, 1) := by decide +kernel
theorem dX4_stepOf_83 : decode cX4_stepOf 83 = .ok (.iinc 4 1, 3) := by decide +kernel
theorem dX4_stepOf_86 : decode cX4_stepOf 86 = .ok (.goto (-81), 3) := by decide +kernel
theorem dX4_stepOf_89 : decode cX4_stepOf 89 = .ok (.iload_n 3, 1) := by decide +kernel
theorem dX4_stepOf_90 : decode cX4_stepOf 90 = .ok (.ireturn, 1) := by decide +kernel
set_option maxRecDepth 20000 in
theorem ggX4_isAllAtOnce_X4_stepOf : GoodIn wsX4_isAllAtOnce wsX4_stepOf := goodIn_r _ [5, 6, 7, 8, 9, 10, 11, 12, 13, 14, 15, 16, 17, 18, 4, 19, 20, 21, 22, 23, 24, 25, 26, 27, 28, 29, 30, 31, 32, 33, 34] (by decide +kernel) (by decide +kernel)
set_option maxRecDepth 20000 in
theorem gX4_isAllAtOnce_X4_stepOf : GoodIn wsX4_isAllAtOnce (wsV RX4 163 RX4 yX4_stepOf wsX4_stepOf) := goodIn_app (goodIn_of _ (by decide +kernel)) ggX4_isAllAtOnce_X4_stepOf
theorem dX4_isAllAtOnce_0 : decode cX4_isAllAtOnce 0 = .ok (.iconst 0, 1) := by decide +kernel
theorem dX4_isAllAtOnce_1 : decode cX4_isAllAtOnce 1 = .ok (.istore_n 2, 1) := by decide +kernel
theorem dX4_isAllAtOnce_2 : decode cX4_isAllAtOnce 2 = .ok (.iconst 0, 1) := by decide +kernel
theorem dX4_isAllAtOnce_3 : decode cX4_isAllAtOnce 3 = .ok (.istore_n 3, 1) := by decide +kernel
theorem dX4_isAllAtOnce_4 : decode cX4_isAllAtOnce 4 = .ok (.iconst 0, 1) := by decide +kernel
theorem dX4_isAllAtOnce_5 : decode cX4_isAllAtOnce 5 = .ok (.istore 4, 2) := by decide +kernel
theorem dX4_isAllAtOnce_7 : decode cX4_isAllAtOnce 7 = .ok (.iload 4, 2) := by decide +kernel
theorem dX4_isAllAtOnce_9 : decode cX4_isAllAtOnce 9 = .ok (.iconst 4, 1) := by decide +kernel
theorem dX4_isAllAtOnce_10 : decode cX4_isAllAtOnce 10 = .ok (.if_icmp .ge 46, 3) := by decide +kernel
theorem dX4_isAllAtOnce_13 : decode cX4_isAllAtOnce 13 = .ok (.aload_n 0, 1) := by decide +kernel
theorem dX4_isAllAtOnce_14 : decode cX4_isAllAtOnce 14 = .ok (.iload_n 1, 1) := by decide +kernel
theorem dX4_isAllAtOnce_15 : decode cX4_isAllAtOnce 15 = .ok (.iload 4, 2) := by decide +kernel
theorem dX4_isAllAtOnce_17 : decode cX4_isAllAtOnce 17 = .ok (.invokevirtual 163, 3) := by decide +kernel
theorem dX4_isAllAtOnce_20 : decode cX4_isAllAtOnce 20 = .ok (.istore 5, 2) := by decide +kernel
theorem dX4_isAllAtOnce_22 : decode cX4_isAllAtOnce 22 = .ok (.iload_n 2, 1) := by decide +kernel
theorem dX4_isAllAtOnce_23 : decode cX4_isAllAtOnce 23 = .ok (.iload 5, 2) := by decide +kernel
theorem dX4_isAllAtOnce_25 : decode cX4_isAllAtOnce 25 = .ok (.iconst 1, 1) := by decide +kernel
theorem dX4_isAllAtOnce_26 : decode cX4_isAllAtOnce 26 = .ok (.if_icmp .ne 7, 3) := by decide +kernel
theorem dX4_isAllAtOnce_29 : decode cX4_isAllAtOnce 29 = .ok (.iconst 1, 1) := by decide +kernel
theorem dX4_isAllAtOnce_30 : decode cX4_isAllAtOnce 30 = .ok (.goto 4, 3) := by decide +kernel
theorem dX4_isAllAtOnce_33 : decode cX4_isAllAtOnce 33 = .ok (.iconst 0, 1) := by decide +kernel
theorem dX4_isAllAtOnce_34 : decode cX4_isAllAtOnce 34 = .ok (.iadd, 1) := by decide +kernel
theorem dX4_isAllAtOnce_35 : decode cX4_isAllAtOnce 35 = .ok (.istore_n 2, 1) := by decide +kernel
theorem dX4_isAllAtOnce_36 : decode cX4_isAllAtOnce 36 = .ok (.iload_n 3, 1) := by decide +kernel
theorem dX4_isAllAtOnce_37 : decode cX4_isAllAtOnce 37 = .ok (.iload 5, 2) := by decide +kernel
theorem dX4_isAllAtOnce_39 : decode cX4_isAllAtOnce 39 = .ok (.iconst 2, 1) := by decide +kernel
theorem dX4_isAllAtOnce_40 : decode cX4_isAllAtOnce 40 = .ok (.if_icmp .ne 7, 3) := by decide +kernel
theorem dX4_isAllAtOnce_43 : decode cX4_isAllAtOnce 43 = .ok (.iconst 1, 1) := by decide +kernel
theorem dX4_isAllAtOnce_44 : decode cX4_isAllAtOnce 44 = .ok (.goto 4, 3) := by decide +kernel
theorem dX4_isAllAtOnce_47 : decode cX4_isAllAtOnce 47 = .ok (.iconst 0, 1) := by decide +kernel
theorem dX4_isAllAtOnce_48 : decode cX4_isAllAtOnce 48 = .ok (.iadd, 1) := by decide +kernel
theorem dX4_isAllAtOnce_49 : decode cX4_isAllAtOnce 49 = .ok (.istore_n 3, 1) := by decide +kernel
theorem dX4_isAllAtOnce_50 : decode cX4_isAllAtOnce 50 = .ok (.iinc 4 1, 3) := by decide +kernel
theorem dX4_isAllAtOnce_53 : decode cX4_isAllAtOnce 53 = .ok (.goto (-46), 3) := by decide +kernel
theorem dX4_isAllAtOnce_56 : decode cX4_isAllAtOnce 56 = .ok (.iload_n 2, 1) := by decide +kernel
theorem dX4_isAllAtOnce_57 : decode cX4_isAllAtOnce 57 = .ok (.iload_n 3, 1) := by decide +kernel
theorem dX4_isAllAtOnce_58 : decode cX4_isAllAtOnce 58 = .ok (.iadd, 1) := by decide +kernel
theorem dX4_isAllAtOnce_59 : decode cX4_isAllAtOnce 59 = .ok (.iconst 2, 1) := by decide +kernel
theorem dX4_isAllAtOnce_60 : decode cX4_isAllAtOnce 60 = .ok (.if_icmp .lt 15, 3) := by decide +kernel
theorem dX4_isAllAtOnce_63 : decode cX4_isAllAtOnce 63 = .ok (.iload_n 2, 1) := by decide +kernel
theorem dX4_isAllAtOnce_64 : decode cX4_isAllAtOnce 64 = .ok (.ifCond .eq 7, 3) := by decide +kernel
theorem dX4_isAllAtOnce_67 : decode cX4_isAllAtOnce 67 = .ok (.iload_n 3, 1) := by decide +kernel
theorem dX4_isAllAtOnce_68 : decode cX4_isAllAtOnce 68 = .ok (.ifCond .ne 7, 3) := by decide +kernel
theorem dX4_isAllAtOnce_71 : decode cX4_isAllAtOnce 71 = .ok (.iconst 1, 1) := by decide +kernel
theorem dX4_isAllAtOnce_72 : decode cX4_isAllAtOnce 72 = .ok (.goto 4, 3) := by decide +kernel
theorem dX4_isAllAtOnce_75 : decode cX4_isAllAtOnce 75 = .ok (.iconst 0, 1) := by decide +kernel
theorem dX4_isAllAtOnce_76 : decode cX4_isAllAtOnce 76 = .ok (.ireturn, 1) := by decide +kernel
set_option maxRecDepth 20000 in
theorem ggX4_allAtOnce_X4_isAllAtOnce : GoodIn wsX4_allAtOnce wsX4_isAllAtOnce := goodIn_r _ [7, 8, 9, 10, 6, 11, 12, 2, 13, 14, 15, 16, 17, 18, 19, 20, 21, 22, 23, 24, 25, 26, 27, 28, 29, 30, 31, 32, 33, 34, 35, 36, 37, 38, 39] (by decide +kernel) (by decide +kernel)
set_option maxRecDepth 20000 in
theorem gX4_allAtOnce_X4_isAllAtOnce : GoodIn wsX4_allAtOnce (wsV RX4 166 RX4 yX4_isAllAtOnce wsX4_isAllAtOnce) := goodIn_app (goodIn_of _ (by decide +kernel)) ggX4_allAtOnce_X4_isAllAtOnce
theorem dX4_allAtOnce_0 : decode cX4_allAtOnce 0 = .ok (.iconst 0, 1) := by decide +kernel
theorem dX4_allAtOnce_1 : decode cX4_allAtOnce 1 = .ok (.istore_n 1, 1) := by decide +kernel
theorem dX4_allAtOnce_2 : decode cX4_allAtOnce 2 = .ok (.iconst 0, 1) := by decide +kernel
theorem dX4_allAtOnce_3 : decode cX4_allAtOnce 3 = .ok (.istore_n 2, 1) := by decide +kernel
theorem dX4_allAtOnce_4 : decode cX4_allAtOnce 4 = .ok (.iload_n 2, 1) := by decide +kernel
theorem dX4_allAtOnce_5 : decode cX4_allAtOnce 5 = .ok (.aload_n 0, 1) := by decide +kernel
theorem dX4_allAtOnce_6 : decode cX4_allAtOnce 6 = .ok (.getfield 14, 3) := by decide +kernel
theorem dX4_allAtOnce_9 : decode cX4_allAtOnce 9 = .ok (.getfield 63, 3) := by decide +kernel
theorem dX4_allAtOnce_12 : decode cX4_allAtOnce 12 = .ok (.if_icmp .ge 23, 3) := by decide +kernel
theorem dX4_allAtOnce_15 : decode cX4_allAtOnce 15 = .ok (.aload_n 0, 1) := by decide +kernel
theorem dX4_allAtOnce_16 : decode cX4_allAtOnce 16 = .ok (.iload_n 2, 1) := by decide +kernel
theorem dX4_allAtOnce_17 : decode cX4_allAtOnce 17 = .ok (.invokevirtual 166, 3) := by decide +kernel
theorem dX4_allAtOnce_20 : decode cX4_allAtOnce 20 = .ok (.ifCond .eq 9, 3) := by decide +kernel
theorem dX4_allAtOnce_23 : decode cX4_allAtOnce 23 = .ok (.iload_n 1, 1) := by decide +kernel
theorem dX4_allAtOnce_24 : decode cX4_allAtOnce 24 = .ok (.iconst 1, 1) := by decide +kernel
theorem dX4_allAtOnce_25 : decode cX4_allAtOnce 25 = .ok (.iload_n 2, 1) := by decide +kernel
theorem dX4_allAtOnce_26 : decode cX4_allAtOnce 26 = .ok (.ishl, 1) := by decide +kernel
theorem dX4_allAtOnce_27 : decode cX4_allAtOnce 27 = .ok (.ior, 1) := by decide +kernel
theorem dX4_allAtOnce_28 : decode cX4_allAtOnce 28 = .ok (.istore_n 1, 1) := by decide +kernel
theorem dX4_allAtOnce_29 : decode cX4_allAtOnce 29 = .ok (.iinc 2 1, 3) := by decide +kernel
theorem dX4_allAtOnce_32 : decode cX4_allAtOnce 32 = .ok (.goto (-28), 3) := by decide +kernel
theorem dX4_allAtOnce_35 : decode cX4_allAtOnce 35 = .ok (.iload_n 1, 1) := by decide +kernel
theorem dX4_allAtOnce_36 : decode cX4_allAtOnce 36 = .ok (.ireturn, 1) := by decide +kernel
set_option maxRecDepth 20000 in
theorem ggX4_shownBefore_X4_stepOf : GoodIn wsX4_shownBefore wsX4_stepOf := goodIn_r _ [7, 8, 2, 9, 10, 11, 12, 13, 14, 15, 16, 17, 18, 19, 6, 20, 21, 22, 23, 24, 25, 26, 27, 28, 29, 30, 31, 32, 33, 34, 35] (by decide +kernel) (by decide +kernel)
set_option maxRecDepth 20000 in
theorem gX4_shownBefore_X4_stepOf : GoodIn wsX4_shownBefore (wsV RX4 163 RX4 yX4_stepOf wsX4_stepOf) := goodIn_app (goodIn_of _ (by decide +kernel)) ggX4_shownBefore_X4_stepOf
theorem dX4_shownBefore_0 : decode cX4_shownBefore 0 = .ok (.iconst 0, 1) := by decide +kernel
theorem dX4_shownBefore_1 : decode cX4_shownBefore 1 = .ok (.istore_n 3, 1) := by decide +kernel
theorem dX4_shownBefore_2 : decode cX4_shownBefore 2 = .ok (.iconst 0, 1) := by decide +kernel
theorem dX4_shownBefore_3 : decode cX4_shownBefore 3 = .ok (.istore 4, 2) := by decide +kernel
theorem dX4_shownBefore_5 : decode cX4_shownBefore 5 = .ok (.iload 4, 2) := by decide +kernel
theorem dX4_shownBefore_7 : decode cX4_shownBefore 7 = .ok (.aload_n 0, 1) := by decide +kernel
theorem dX4_shownBefore_8 : decode cX4_shownBefore 8 = .ok (.getfield 14, 3) := by decide +kernel
theorem dX4_shownBefore_11 : decode cX4_shownBefore 11 = .ok (.getfield 63, 3) := by decide +kernel
theorem dX4_shownBefore_14 : decode cX4_shownBefore 14 = .ok (.if_icmp .ge 34, 3) := by decide +kernel
theorem dX4_shownBefore_17 : decode cX4_shownBefore 17 = .ok (.aload_n 0, 1) := by decide +kernel
theorem dX4_shownBefore_18 : decode cX4_shownBefore 18 = .ok (.iload 4, 2) := by decide +kernel
theorem dX4_shownBefore_20 : decode cX4_shownBefore 20 = .ok (.iload_n 1, 1) := by decide +kernel
theorem dX4_shownBefore_21 : decode cX4_shownBefore 21 = .ok (.invokevirtual 163, 3) := by decide +kernel
theorem dX4_shownBefore_24 : decode cX4_shownBefore 24 = .ok (.iconst 1, 1) := by decide +kernel
theorem dX4_shownBefore_25 : decode cX4_shownBefore 25 = .ok (.if_icmp .ne 17, 3) := by decide +kernel
theorem dX4_shownBefore_28 : decode cX4_shownBefore 28 = .ok (.aload_n 0, 1) := by decide +kernel
theorem dX4_shownBefore_29 : decode cX4_shownBefore 29 = .ok (.iload 4, 2) := by decide +kernel
theorem dX4_shownBefore_31 : decode cX4_shownBefore 31 = .ok (.iload_n 2, 1) := by decide +kernel
theorem dX4_shownBefore_32 : decode cX4_shownBefore 32 = .ok (.invokevirtual 163, 3) := by decide +kernel
theorem dX4_shownBefore_35 : decode cX4_shownBefore 35 = .ok (.iconst 2, 1) := by decide +kernel
theorem dX4_shownBefore_36 : decode cX4_shownBefore 36 = .ok (.if_icmp .ne 6, 3) := by decide +kernel
theorem dX4_shownBefore_39 : decode cX4_shownBefore 39 = .ok (.iinc 3 1, 3) := by decide +kernel
theorem dX4_shownBefore_42 : decode cX4_shownBefore 42 = .ok (.iinc 4 1, 3) := by decide +kernel
theorem dX4_shownBefore_45 : decode cX4_shownBefore 45 = .ok (.goto (-40), 3) := by decide +kernel
theorem dX4_shownBefore_48 : decode cX4_shownBefore 48 = .ok (.iload_n 3, 1) := by decide +kernel
theorem dX4_shownBefore_49 : decode cX4_shownBefore 49 = .ok (.ireturn, 1) := by decide +kernel
set_option maxRecDepth 20000 in
theorem ggX4_ageOf_X4_isMostlyKept : GoodIn wsX4_ageOf wsX4_isMostlyKept := goodIn_r _ [5, 6, 7, 8, 9, 10, 11, 12, 13, 14, 15, 16, 17, 18, 4, 19, 20, 21, 22, 23, 24, 25, 26, 27, 28, 29, 30, 31, 32, 33, 34] (by decide +kernel) (by decide +kernel)
set_option maxRecDepth 20000 in
theorem gX4_ageOf_X4_isMostlyKept : GoodIn wsX4_ageOf (wsV RX4 169 RX4 yX4_isMostlyKept wsX4_isMostlyKept) := goodIn_app (goodIn_of _ (by decide +kernel)) ggX4_ageOf_X4_isMostlyKept
theorem dX4_ageOf_0 : decode cX4_ageOf 0 = .ok (.bipush 24, 2) := by decide +kernel
theorem dX4_ageOf_2 : decode cX4_ageOf 2 = .ok (.istore_n 3, 1) := by decide +kernel
theorem dX4_ageOf_3 : decode cX4_ageOf 3 = .ok (.iload_n 3, 1) := by decide +kernel
theorem dX4_ageOf_4 : decode cX4_ageOf 4 = .ok (.bipush 120, 2) := by decide +kernel
theorem dX4_ageOf_6 : decode cX4_ageOf 6 = .ok (.if_icmp .gt 21, 3) := by decide +kernel
theorem dX4_ageOf_9 : decode cX4_ageOf 9 = .ok (.aload_n 0, 1) := by decide +kernel
theorem dX4_ageOf_10 : decode cX4_ageOf 10 = .ok (.iload_n 1, 1) := by decide +kernel
theorem dX4_ageOf_11 : decode cX4_ageOf 11 = .ok (.iload_n 3, 1) := by decide +kernel
theorem dX4_ageOf_12 : decode cX4_ageOf 12 = .ok (.iload_n 2, 1) := by decide +kernel
theorem dX4_ageOf_13 : decode cX4_ageOf 13 = .ok (.invokevirtual 169, 3) := by decide +kernel
theorem dX4_ageOf_16 : decode cX4_ageOf 16 = .ok (.ifCond .eq 5, 3) := by decide +kernel
theorem dX4_ageOf_19 : decode cX4_ageOf 19 = .ok (.iload_n 3, 1) := by decide +kernel
theorem dX4_ageOf_20 : decode cX4_ageOf 20 = .ok (.ireturn, 1) := by decide +kernel
theorem dX4_ageOf_21 : decode cX4_ageOf 21 = .ok (.iinc 3 1, 3) := by decide +kernel
theorem dX4_ageOf_24 : decode cX4_ageOf 24 = .ok (.goto (-21), 3) := by decide +kernel
theorem dX4_ageOf_27 : decode cX4_ageOf 27 = .ok (.bipush (-5), 2) := by decide +kernel
theorem dX4_ageOf_29 : decode cX4_ageOf 29 = .ok (.ireturn, 1) := by decide +kernel
set_option maxRecDepth 20000 in
theorem ggX4_isMostlyKept_X2_at : GoodIn wsX4_isMostlyKept wsX2_at := goodIn_r _ [7, 8, 9, 10, 27, 28, 29, 30] (by decide +kernel) (by decide +kernel)
set_option maxRecDepth 20000 in
theorem gX4_isMostlyKept_X2_at : GoodIn wsX4_isMostlyKept (wsV RX4 66 RX2 yX2_at wsX2_at) := goodIn_app (goodIn_of _ (by decide +kernel)) ggX4_isMostlyKept_X2_at
set_option maxRecDepth 20000 in
theorem ggX4_isMostlyKept_X4_ofAsked : GoodIn wsX4_isMostlyKept wsX4_ofAsked := goodIn_r _ [15, 16, 1, 3, 4, 5, 6, 7, 8, 9, 10, 21, 22, 23, 24, 25, 26, 27, 28, 29, 30] (by decide +kernel) (by decide +kernel)
set_option maxRecDepth 20000 in
theorem gX4_isMostlyKept_X4_ofAsked : GoodIn wsX4_isMostlyKept (wsV RX4 146 RX4 yX4_ofAsked wsX4_ofAsked) := goodIn_app (goodIn_of _ (by decide +kernel)) ggX4_isMostlyKept_X4_ofAsked
set_option maxRecDepth 20000 in
theorem ggX4_isMostlyKept_X4_isSame : GoodIn wsX4_isMostlyKept wsX4_isSame := goodIn_r _ [20, 1, 3, 4, 5, 6, 7, 8, 9, 10, 21, 22, 23, 24, 25, 26, 27, 28, 29, 30] (by decide +kernel) (by decide +kernel)
set_option maxRecDepth 20000 in
theorem gX4_isMostlyKept_X4_isSame : GoodIn wsX4_isMostlyKept (wsV RX4 149 RX4 yX4_isSame wsX4_isSame) := goodIn_app (goodIn_of _ (by decide +kernel)) ggX4_isMostlyKept_X4_isSame
theorem dX4_isMostlyKept_0 : decode cX4_isMostlyKept 0 = .ok (.iconst 0, 1) := by decide +kernel
theorem dX4_isMostlyKept_1 : decode cX4_isMostlyKept 1 = .ok (.istore 4, 2) := by decide +kernel
theorem dX4_isMostlyKept_3 : decode cX4_isMostlyKept 3 = .ok (.iconst 0, 1) := by decide +kernel
theorem dX4_isMostlyKept_4 : decode cX4_isMostlyKept 4 = .ok (.istore 5, 2) := by decide +kernel
theorem dX4_isMostlyKept_6 : decode cX4_isMostlyKept 6 = .ok (.iconst 0, 1) := by decide +kernel
theorem dX4_isMostlyKept_7 : decode cX4_isMostlyKept 7 = .ok (.istore 6, 2) := by decide +kernel
theorem dX4_isMostlyKept_9 : decode cX4_isMostlyKept 9 = .ok (.iload 6, 2) := by decide +kernel
theorem dX4_isMostlyKept_11 : decode cX4_isMostlyKept 11 = .ok (.aload_n 0, 1) := by decide +kernel
theorem dX4_isMostlyKept_12 : decode cX4_isMostlyKept 12 = .ok (.getfield 23, 3) := by decide +kernel
theorem dX4_isMostlyKept_15 : decode cX4_isMostlyKept 15 = .ok (.getfield 63, 3) := by decide +kernel
theorem dX4_isMostlyKept_18 : decode cX4_isMostlyKept 18 = .ok (.if_icmp .ge 95, 3) := by decide +kernel
theorem dX4_isMostlyKept_21 : decode cX4_isMostlyKept 21 = .ok (.aload_n 0, 1) := by decide +kernel
theorem dX4_isMostlyKept_22 : decode cX4_isMostlyKept 22 = .ok (.getfield 23, 3) := by decide +kernel
theorem dX4_isMostlyKept_25 : decode cX4_isMostlyKept 25 = .ok (.iload 6, 2) := by decide +kernel
theorem dX4_isMostlyKept_27 : decode cX4_isMostlyKept 27 = .ok (.iconst 4, 1) := by decide +kernel
theorem dX4_isMostlyKept_28 : decode cX4_isMostlyKept 28 = .ok (.invokevirtual 66, 3) := by decide +kernel
theorem dX4_isMostlyKept_31 : decode cX4_isMostlyKept 31 = .ok (.iload_n 2, 1) := by decide +kernel
theorem dX4_isMostlyKept_32 : decode cX4_isMostlyKept 32 = .ok (.if_icmp .lt 29, 3) := by decide +kernel
theorem dX4_isMostlyKept_35 : decode cX4_isMostlyKept 35 = .ok (.aload_n 0, 1) := by decide +kernel
theorem dX4_isMostlyKept_36 : decode cX4_isMostlyKept 36 = .ok (.iload 6, 2) := by decide +kernel
theorem dX4_isMostlyKept_38 : decode cX4_isMostlyKept 38 = .ok (.iconst 0, 1) := by decide +kernel
theorem dX4_isMostlyKept_39 : decode cX4_isMostlyKept 39 = .ok (.invokevirtual 146, 3) := by decide +kernel
theorem dX4_isMostlyKept_42 : decode cX4_isMostlyKept 42 = .ok (.iload_n 1, 1) := by decide +kernel
theorem dX4_isMostlyKept_43 : decode cX4_isMostlyKept 43 = .ok (.if_icmp .ne 18, 3) := by decide +kernel
theorem dX4_isMostlyKept_46 : decode cX4_isMostlyKept 46 = .ok (.aload_n 0, 1) := by decide +kernel
theorem dX4_isMostlyKept_47 : decode cX4_isMostlyKept 47 = .ok (.iload 6, 2) := by decide +kernel
theorem dX4_isMostlyKept_49 : decode cX4_isMostlyKept 49 = .ok (.bipush 6, 2) := by decide +kernel
theorem dX4_isMostlyKept_51 : decode cX4_isMostlyKept 51 = .ok (.invokevirtual 146, 3) := by decide +kernel
theorem dX4_isMostlyKept_54 : decode cX4_isMostlyKept 54 = .ok (.ifCond .ne 7, 3) := by decide +kernel
theorem dX4_isMostlyKept_57 : decode cX4_isMostlyKept 57 = .ok (.iconst 1, 1) := by decide +kernel
theorem dX4_isMostlyKept_58 : decode cX4_isMostlyKept 58 = .ok (.goto 4, 3) := by decide +kernel
theorem dX4_isMostlyKept_61 : decode cX4_isMostlyKept 61 = .ok (.iconst 0, 1) := by decide +kernel
theorem dX4_isMostlyKept_62 : decode cX4_isMostlyKept 62 = .ok (.istore 7, 2) := by decide +kernel
theorem dX4_isMostlyKept_64 : decode cX4_isMostlyKept 64 = .ok (.iload 7, 2) := by decide +kernel
theorem dX4_isMostlyKept_66 : decode cX4_isMostlyKept 66 = .ok (.ifCond .eq 6, 3) := by decide +kernel
theorem dX4_isMostlyKept_69 : decode cX4_isMostlyKept 69 = .ok (.iinc 4 1, 3) := by decide +kernel
theorem dX4_isMostlyKept_72 : decode cX4_isMostlyKept 72 = .ok (.iload 7, 2) := by decide +kernel
theorem dX4_isMostlyKept_74 : decode cX4_isMostlyKept 74 = .ok (.ifCond .eq 33, 3) := by decide +kernel
theorem dX4_isMostlyKept_77 : decode cX4_isMostlyKept 77 = .ok (.aload_n 0, 1) := by decide +kernel
theorem dX4_isMostlyKept_78 : decode cX4_isMostlyKept 78 = .ok (.iload 6, 2) := by decide +kernel
theorem dX4_isMostlyKept_80 : decode cX4_isMostlyKept 80 = .ok (.invokevirtual 149, 3) := by decide +kernel
theorem dX4_isMostlyKept_83 : decode cX4_isMostlyKept 83 = .ok (.ifCond .eq 24, 3) := by decide +kernel
theorem dX4_isMostlyKept_86 : decode cX4_isMostlyKept 86 = .ok (.iload_n 3, 1) := by decide +kernel
theorem dX4_isMostlyKept_87 : decode cX4_isMostlyKept 87 = .ok (.ifCond .eq 17, 3) := by decide +kernel
theorem dX4_isMostlyKept_90 : decode cX4_isMostlyKept 90 = .ok (.aload_n 0, 1) := by decide +kernel
theorem dX4_isMostlyKept_91 : decode cX4_isMostlyKept 91 = .ok (.getfield 23, 3) := by decide +kernel
theorem dX4_isMostlyKept_94 : decode cX4_isMostlyKept 94 = .ok (.iload 6, 2) := by decide +kernel
theorem dX4_isMostlyKept_96 : decode cX4_isMostlyKept 96 = .ok (.iconst 3, 1) := by decide +kernel
theorem dX4_isMostlyKept_97 : decode cX4_isMostlyKept 97 = .ok (.invokevirtual 66, 3) := by decide +kernel
theorem dX4_isMostlyKept_100 : decode cX4_isMostlyKept 100 = .ok (.iconst 1, 1) := by decide +kernel
theorem dX4_isMostlyKept_101 : decode cX4_isMostlyKept 101 = .ok (.if_icmp .ne 6, 3) := by decide +kernel
theorem dX4_isMostlyKept_104 : decode cX4_isMostlyKept 104 = .ok (.iinc 5 1, 3) := by decide +kernel
theorem dX4_isMostlyKept_107 : decode cX4_isMostlyKept 107 = .ok (.iinc 6 1, 3) := by decide +kernel
theorem dX4_isMostlyKept_110 : decode cX4_isMostlyKept 110 = .ok (.goto (-101), 3) := by decide +kernel
theorem dX4_isMostlyKept_113 : decode cX4_isMostlyKept 113 = .ok (.iload 5, 2) := by decide +kernel
theorem dX4_isMostlyKept_115 : decode cX4_isMostlyKept 115 = .ok (.iconst 2, 1) := by decide +kernel
theorem dX4_isMostlyKept_116 : decode cX4_isMostlyKept 116 = .ok (.imul, 1) := by decide +kernel
theorem dX4_isMostlyKept_117 : decode cX4_isMostlyKept 117 = .ok (.iload 4, 2) := by decide +kernel
theorem dX4_isMostlyKept_119 : decode cX4_isMostlyKept 119 = .ok (.if_icmp .le 7, 3) := by decide +kernel
theorem dX4_isMostlyKept_122 : decode cX4_isMostlyKept 122 = .ok (.iconst 1, 1) := by decide +kernel
theorem dX4_isMostlyKept_123 : decode cX4_isMostlyKept 123 = .ok (.goto 4, 3) := by decide +kernel
theorem dX4_isMostlyKept_126 : decode cX4_isMostlyKept 126 = .ok (.iconst 0, 1) := by decide +kernel
theorem dX4_isMostlyKept_127 : decode cX4_isMostlyKept 127 = .ok (.ireturn, 1) := by decide +kernel
set_option maxRecDepth 20000 in
theorem ggX5_init_X4_init : GoodIn wsX5_init wsX4_init := goodIn_r _ [15, 16, 2, 3, 17, 18, 19, 20, 21, 22, 23, 24, 25, 26, 27, 28, 29, 30, 31, 32, 33, 34, 35, 36, 37, 38, 39, 40, 41, 42, 43, 44, 45, 46, 47, 48, 49, 50, 51, 68, 69, 70, 71, 56, 57, 58, 59, 60, 61, 72, 73, 74, 75, 76, 77, 78, 79, 80, 81, 82] (by decide +kernel) (by decide +kernel)
set_option maxRecDepth 20000 in
theorem gX5_init_X4_init : GoodIn wsX5_init (wsX4_init) := ggX5_init_X4_init
set_option maxRecDepth 20000 in
theorem ggX5_init_X0_init : GoodIn wsX5_init wsX0_init := goodIn_r _ [53, 54, 2, 3, 37, 55, 66, 67] (by decide +kernel) (by decide +kernel)
set_option maxRecDepth 20000 in
theorem gX5_init_X0_init_n23 : GoodIn wsX5_init (wsX0_init) := ggX5_init_X0_init
theorem dX5_init_0 : decode cX5_init 0 = .ok (.aload_n 0, 1) := by decide +kernel
theorem dX5_init_1 : decode cX5_init 1 = .ok (.invokespecial 5, 3) := by decide +kernel
theorem dX5_init_4 : decode cX5_init 4 = .ok (.aload_n 0, 1) := by decide +kernel
theorem dX5_init_5 : decode cX5_init 5 = .ok (.new 11, 3) := by decide +kernel
theorem dX5_init_8 : decode cX5_init 8 = .ok (.dup, 1) := by decide +kernel
theorem dX5_init_9 : decode cX5_init 9 = .ok (.invokespecial 13, 3) := by decide +kernel
theorem dX5_init_12 : decode cX5_init 12 = .ok (.putfield 14, 3) := by decide +kernel
theorem dX5_init_15 : decode cX5_init 15 = .ok (.aload_n 0, 1) := by decide +kernel
theorem dX5_init_16 : decode cX5_init 16 = .ok (.new 11, 3) := by decide +kernel
theorem dX5_init_19 : decode cX5_init 19 = .ok (.dup, 1) := by decide +kernel
theorem dX5_init_20 : decode cX5_init 20 = .ok (.invokespecial 13, 3) := by decide +kernel
theorem dX5_init_23 : decode cX5_init 23 = .ok (.putfield 18, 3) := by decide +kernel
theorem dX5_init_26 : decode cX5_init 26 = .ok (.aload_n 0, 1) := by decide +kernel
theorem dX5_init_27 : decode cX5_init 27 = .ok (.new 21, 3) := by decide +kernel
theorem dX5_init_30 : decode cX5_init 30 = .ok (.dup, 1) := by decide +kernel
theorem dX5_init_31 : decode cX5_init 31 = .ok (.invokespecial 23, 3) := by decide +kernel
theorem dX5_init_34 : decode cX5_init 34 = .ok (.putfield 24, 3) := by decide +kernel
theorem dX5_init_37 : decode cX5_init 37 = .ok (.return_, 1) := by decide +kernel
set_option maxRecDepth 20000 in
theorem ggX5_child_X2_isFull : GoodIn wsX5_child wsX2_isFull := goodIn_r _ [7, 8, 9, 37, 38, 39, 40] (by decide +kernel) (by decide +kernel)
set_option maxRecDepth 20000 in
theorem gX5_child_X2_isFull : GoodIn wsX5_child (wsV RX5 32 RX2 yX2_isFull wsX2_isFull) := goodIn_app (goodIn_of _ (by decide +kernel)) ggX5_child_X2_isFull
set_option maxRecDepth 20000 in
theorem ggX5_child_X4_addChild : GoodIn wsX5_child wsX4_addChild := goodIn_r _ [14, 15, 16, 17, 18, 19, 6, 20, 8, 9, 21, 22, 23, 24, 25, 26, 31, 32, 33, 34, 35, 36, 37, 38, 39, 40] (by decide +kernel) (by decide +kernel)
set_option maxRecDepth 20000 in
theorem gX5_child_X4_addChild : GoodIn wsX5_child (wsV RX5 38 RX4 yX4_addChild wsX4_addChild) := goodIn_app (goodIn_of _ (by decide +kernel)) ggX5_child_X4_addChild
theorem dX5_child_0 : decode cX5_child 0 = .ok (.iload_n 1, 1) := by decide +kernel
theorem dX5_child_1 : decode cX5_child 1 = .ok (.bipush 24, 2) := by decide +kernel
theorem dX5_child_3 : decode cX5_child 3 = .ok (.if_icmp .lt 9, 3) := by decide +kernel
theorem dX5_child_6 : decode cX5_child 6 = .ok (.iload_n 1, 1) := by decide +kernel
theorem dX5_child_7 : decode cX5_child 7 = .ok (.bipush 120, 2) := by decide +kernel
theorem dX5_child_9 : decode cX5_child 9 = .ok (.if_icmp .le 6, 3) := by decide +kernel
theorem dX5_child_12 : decode cX5_child 12 = .ok (.bipush (-2), 2) := by decide +kernel
theorem dX5_child_14 : decode cX5_child 14 = .ok (.ireturn, 1) := by decide +kernel
theorem dX5_child_15 : decode cX5_child 15 = .ok (.aload_n 0, 1) := by decide +kernel
theorem dX5_child_16 : decode cX5_child 16 = .ok (.getfield 14, 3) := by decide +kernel
theorem dX5_child_19 : decode cX5_child 19 = .ok (.getfield 28, 3) := by decide +kernel
theorem dX5_child_22 : decode cX5_child 22 = .ok (.invokevirtual 32, 3) := by decide +kernel
theorem dX5_child_25 : decode cX5_child 25 = .ok (.ifCond .eq 8, 3) := by decide +kernel
theorem dX5_child_28 : decode cX5_child 28 = .ok (.bipush (-4), 2) := by decide +kernel
theorem dX5_child_30 : decode cX5_child 30 = .ok (.goto 11, 3) := by decide +kernel
theorem dX5_child_33 : decode cX5_child 33 = .ok (.aload_n 0, 1) := by decide +kernel
theorem dX5_child_34 : decode cX5_child 34 = .ok (.getfield 14, 3) := by decide +kernel
theorem dX5_child_37 : decode cX5_child 37 = .ok (.iload_n 1, 1) := by decide +kernel
theorem dX5_child_38 : decode cX5_child 38 = .ok (.invokevirtual 38, 3) := by decide +kernel
theorem dX5_child_41 : decode cX5_child 41 = .ok (.ireturn, 1) := by decide +kernel
set_option maxRecDepth 20000 in
theorem ggX5_age_X2_has : GoodIn wsX5_age wsX2_has := goodIn_r _ [7, 8, 25, 26, 27, 28] (by decide +kernel) (by decide +kernel)
set_option maxRecDepth 20000 in
theorem gX5_age_X2_has : GoodIn wsX5_age (wsV RX5 42 RX2 yX2_has wsX2_has) := goodIn_app (goodIn_of _ (by decide +kernel)) ggX5_age_X2_has
set_option maxRecDepth 20000 in
theorem ggX5_age_X2_at : GoodIn wsX5_age wsX2_at := goodIn_r _ [12, 8, 13, 14, 25, 26, 27, 28] (by decide +kernel) (by decide +kernel)
set_option maxRecDepth 20000 in
theorem gX5_age_X2_at : GoodIn wsX5_age (wsV RX5 46 RX2 yX2_at wsX2_at) := goodIn_app (goodIn_of _ (by decide +kernel)) ggX5_age_X2_at
theorem dX5_age_0 : decode cX5_age 0 = .ok (.aload_n 0, 1) := by decide +kernel
theorem dX5_age_1 : decode cX5_age 1 = .ok (.getfield 14, 3) := by decide +kernel
theorem dX5_age_4 : decode cX5_age 4 = .ok (.getfield 28, 3) := by decide +kernel
theorem dX5_age_7 : decode cX5_age 7 = .ok (.iload_n 1, 1) := by decide +kernel
theorem dX5_age_8 : decode cX5_age 8 = .ok (.invokevirtual 42, 3) := by decide +kernel
theorem dX5_age_11 : decode cX5_age 11 = .ok (.ifCond .eq 18, 3) := by decide +kernel
theorem dX5_age_14 : decode cX5_age 14 = .ok (.aload_n 0, 1) := by decide +kernel
theorem dX5_age_15 : decode cX5_age 15 = .ok (.getfield 14, 3) := by decide +kernel
theorem dX5_age_18 : decode cX5_age 18 = .ok (.getfield 28, 3) := by decide +kernel
theorem dX5_age_21 : decode cX5_age 21 = .ok (.iload_n 1, 1) := by decide +kernel
theorem dX5_age_22 : decode cX5_age 22 = .ok (.iconst 0, 1) := by decide +kernel
theorem dX5_age_23 : decode cX5_age 23 = .ok (.invokevirtual 46, 3) := by decide +kernel
theorem dX5_age_26 : decode cX5_age 26 = .ok (.goto 4, 3) := by decide +kernel
theorem dX5_age_29 : decode cX5_age 29 = .ok (.iconst (-1), 1) := by decide +kernel
theorem dX5_age_30 : decode cX5_age 30 = .ok (.ireturn, 1) := by decide +kernel
set_option maxRecDepth 20000 in
theorem ggX5_grow_X4_growBy : GoodIn wsX5_grow wsX4_growBy := goodIn_r _ [8, 9, 10, 11, 12, 13, 14, 15, 16, 17, 18, 19, 20, 21, 22, 23, 24, 25, 26, 31, 32, 33, 34, 35, 36, 37, 38, 39, 40] (by decide +kernel) (by decide +kernel)
set_option maxRecDepth 20000 in
theorem gX5_grow_X4_growBy : GoodIn wsX5_grow (wsV RX5 50 RX4 yX4_growBy wsX4_growBy) := goodIn_app (goodIn_of _ (by decide +kernel)) ggX5_grow_X4_growBy
theorem dX5_grow_0 : decode cX5_grow 0 = .ok (.iload_n 1, 1) := by decide +kernel
theorem dX5_grow_1 : decode cX5_grow 1 = .ok (.iconst 1, 1) := by decide +kernel
theorem dX5_grow_2 : decode cX5_grow 2 = .ok (.if_icmp .lt 9, 3) := by decide +kernel
theorem dX5_grow_5 : decode cX5_grow 5 = .ok (.iload_n 1, 1) := by decide +kernel
theorem dX5_grow_6 : decode cX5_grow 6 = .ok (.bipush 60, 2) := by decide +kernel
theorem dX5_grow_8 : decode cX5_grow 8 = .ok (.if_icmp .le 6, 3) := by decide +kernel
theorem dX5_grow_11 : decode cX5_grow 11 = .ok (.bipush (-2), 2) := by decide +kernel
theorem dX5_grow_13 : decode cX5_grow 13 = .ok (.ireturn, 1) := by decide +kernel
theorem dX5_grow_14 : decode cX5_grow 14 = .ok (.aload_n 0, 1) := by decide +kernel
theorem dX5_grow_15 : decode cX5_grow 15 = .ok (.getfield 14, 3) := by decide +kernel
theorem dX5_grow_18 : decode cX5_grow 18 = .ok (.iload_n 1, 1) := by decide +kernel
theorem dX5_grow_19 : decode cX5_grow 19 = .ok (.invokevirtual 50, 3) := by decide +kernel
theorem dX5_grow_22 : decode cX5_grow 22 = .ok (.aload_n 0, 1) := by decide +kernel
theorem dX5_grow_23 : decode cX5_grow 23 = .ok (.getfield 14, 3) := by decide +kernel
theorem dX5_grow_26 : decode cX5_grow 26 = .ok (.getfield 28, 3) := by decide +kernel
theorem dX5_grow_29 : decode cX5_grow 29 = .ok (.getfield 54, 3) := by decide +kernel
theorem dX5_grow_32 : decode cX5_grow 32 = .ok (.ireturn, 1) := by decide +kernel
set_option maxRecDepth 20000 in
theorem ggX5_asking_X5_isStuff : GoodIn wsX5_asking wsX5_isStuff := goodIn_r _ [6] (by decide +kernel) (by decide +kernel)
set_option maxRecDepth 20000 in
theorem gX5_asking_X5_isStuff : GoodIn wsX5_asking (va_wsS RX5 58 yX5_isStuff wsX5_isStuff) := goodIn_app (goodIn_of _ (by decide +kernel)) ggX5_asking_X5_isStuff
set_option maxRecDepth 20000 in
theorem ggX5_asking_X2_isFull : GoodIn wsX5_asking wsX2_isFull := goodIn_r _ [11, 12, 13, 34, 35, 36, 37] (by decide +kernel) (by decide +kernel)
set_option maxRecDepth 20000 in
theorem gX5_asking_X2_isFull : GoodIn wsX5_asking (wsV RX5 32 RX2 yX2_isFull wsX2_isFull) := goodIn_app (goodIn_of _ (by decide +kernel)) ggX5_asking_X2_isFull
set_option maxRecDepth 20000 in
theorem ggX5_asking_X2_add : GoodIn wsX5_asking wsX2_add := goodIn_r _ [17, 12, 13, 34, 35, 36, 37] (by decide +kernel) (by decide +kernel)
set_option maxRecDepth 20000 in
theorem gX5_asking_X2_add : GoodIn wsX5_asking (wsV RX5 64 RX2 yX2_add wsX2_add) := goodIn_app (goodIn_of _ (by decide +kernel)) ggX5_asking_X2_add
set_option maxRecDepth 20000 in
theorem ggX5_asking_X2_put : GoodIn wsX5_asking wsX2_put := goodIn_r _ [21, 12, 22, 23, 34, 35, 36, 37] (by decide +kernel) (by decide +kernel)
set_option maxRecDepth 20000 in
theorem gX5_asking_X2_put : GoodIn wsX5_asking (wsV RX5 68 RX2 yX2_put wsX2_put) := goodIn_app (goodIn_of _ (by decide +kernel)) ggX5_asking_X2_put
theorem dX5_asking_0 : decode cX5_asking 0 = .ok (.iload_n 1, 1) := by decide +kernel
theorem dX5_asking_1 : decode cX5_asking 1 = .ok (.invokestatic 58, 3) := by decide +kernel
theorem dX5_asking_4 : decode cX5_asking 4 = .ok (.ifCond .eq 12, 3) := by decide +kernel
theorem dX5_asking_7 : decode cX5_asking 7 = .ok (.iload_n 2, 1) := by decide +kernel
theorem dX5_asking_8 : decode cX5_asking 8 = .ok (.ifCond .lt 8, 3) := by decide +kernel
theorem dX5_asking_11 : decode cX5_asking 11 = .ok (.iload_n 2, 1) := by decide +kernel
theorem dX5_asking_12 : decode cX5_asking 12 = .ok (.iconst 2, 1) := by decide +kernel
theorem dX5_asking_13 : decode cX5_asking 13 = .ok (.if_icmp .le 5, 3) := by decide +kernel
theorem dX5_asking_16 : decode cX5_asking 16 = .ok (.iconst (-1), 1) := by decide +kernel
theorem dX5_asking_17 : decode cX5_asking 17 = .ok (.ireturn, 1) := by decide +kernel
theorem dX5_asking_18 : decode cX5_asking 18 = .ok (.iload_n 3, 1) := by decide +kernel
theorem dX5_asking_19 : decode cX5_asking 19 = .ok (.iconst 1, 1) := by decide +kernel
theorem dX5_asking_20 : decode cX5_asking 20 = .ok (.if_icmp .lt 45, 3) := by decide +kernel
theorem dX5_asking_23 : decode cX5_asking 23 = .ok (.iload_n 3, 1) := by decide +kernel
theorem dX5_asking_24 : decode cX5_asking 24 = .ok (.iconst 2, 1) := by decide +kernel
theorem dX5_asking_25 : decode cX5_asking 25 = .ok (.if_icmp .gt 40, 3) := by decide +kernel
theorem dX5_asking_28 : decode cX5_asking 28 = .ok (.iload 5, 2) := by decide +kernel
theorem dX5_asking_30 : decode cX5_asking 30 = .ok (.ifCond .lt 35, 3) := by decide +kernel
theorem dX5_asking_33 : decode cX5_asking 33 = .ok (.iload 5, 2) := by decide +kernel
theorem dX5_asking_35 : decode cX5_asking 35 = .ok (.iconst 3, 1) := by decide +kernel
theorem dX5_asking_36 : decode cX5_asking 36 = .ok (.if_icmp .gt 29, 3) := by decide +kernel
theorem dX5_asking_39 : decode cX5_asking 39 = .ok (.iload 6, 2) := by decide +kernel
theorem dX5_asking_41 : decode cX5_asking 41 = .ok (.bipush (-9), 2) := by decide +kernel
theorem dX5_asking_43 : decode cX5_asking 43 = .ok (.if_icmp .lt 22, 3) := by decide +kernel
theorem dX5_asking_46 : decode cX5_asking 46 = .ok (.iload 6, 2) := by decide +kernel
theorem dX5_asking_48 : decode cX5_asking 48 = .ok (.bipush 9, 2) := by decide +kernel
theorem dX5_asking_50 : decode cX5_asking 50 = .ok (.if_icmp .gt 15, 3) := by decide +kernel
theorem dX5_asking_53 : decode cX5_asking 53 = .ok (.iload 7, 2) := by decide +kernel
theorem dX5_asking_55 : decode cX5_asking 55 = .ok (.iconst (-1), 1) := by decide +kernel
theorem dX5_asking_56 : decode cX5_asking 56 = .ok (.if_icmp .lt 9, 3) := by decide +kernel
theorem dX5_asking_59 : decode cX5_asking 59 = .ok (.iload 7, 2) := by decide +kernel
theorem dX5_asking_61 : decode cX5_asking 61 = .ok (.iconst 1, 1) := by decide +kernel
theorem dX5_asking_62 : decode cX5_asking 62 = .ok (.if_icmp .le 6, 3) := by decide +kernel
theorem dX5_asking_65 : decode cX5_asking 65 = .ok (.bipush (-2), 2) := by decide +kernel
theorem dX5_asking_67 : decode cX5_asking 67 = .ok (.ireturn, 1) := by decide +kernel
theorem dX5_asking_68 : decode cX5_asking 68 = .ok (.aload_n 0, 1) := by decide +kernel
theorem dX5_asking_69 : decode cX5_asking 69 = .ok (.getfield 14, 3) := by decide +kernel
theorem dX5_asking_72 : decode cX5_asking 72 = .ok (.getfield 61, 3) := by decide +kernel
theorem dX5_asking_75 : decode cX5_asking 75 = .ok (.invokevirtual 32, 3) := by decide +kernel
theorem dX5_asking_78 : decode cX5_asking 78 = .ok (.ifCond .eq 6, 3) := by decide +kernel
theorem dX5_asking_81 : decode cX5_asking 81 = .ok (.bipush (-4), 2) := by decide +kernel
theorem dX5_asking_83 : decode cX5_asking 83 = .ok (.ireturn, 1) := by decide +kernel
theorem dX5_asking_84 : decode cX5_asking 84 = .ok (.aload_n 0, 1) := by decide +kernel
theorem dX5_asking_85 : decode cX5_asking 85 = .ok (.getfield 14, 3) := by decide +kernel
theorem dX5_asking_88 : decode cX5_asking 88 = .ok (.getfield 61, 3) := by decide +kernel
theorem dX5_asking_91 : decode cX5_asking 91 = .ok (.invokevirtual 64, 3) := by decide +kernel
theorem dX5_asking_94 : decode cX5_asking 94 = .ok (.istore 8, 2) := by decide +kernel
theorem dX5_asking_96 : decode cX5_asking 96 = .ok (.aload_n 0, 1) := by decide +kernel
theorem dX5_asking_97 : decode cX5_asking 97 = .ok (.getfield 14, 3) := by decide +kernel
theorem dX5_asking_100 : decode cX5_asking 100 = .ok (.getfield 61, 3) := by decide +kernel
theorem dX5_asking_103 : decode cX5_asking 103 = .ok (.iload 8, 2) := by decide +kernel
theorem dX5_asking_105 : decode cX5_asking 105 = .ok (.iconst 0, 1) := by decide +kernel
theorem dX5_asking_106 : decode cX5_asking 106 = .ok (.iload_n 1, 1) := by decide +kernel
theorem dX5_asking_107 : decode cX5_asking 107 = .ok (.invokevirtual 68, 3) := by decide +kernel
theorem dX5_asking_110 : decode cX5_asking 110 = .ok (.aload_n 0, 1) := by decide +kernel
theorem dX5_asking_111 : decode cX5_asking 111 = .ok (.getfield 14, 3) := by decide +kernel
theorem dX5_asking_114 : decode cX5_asking 114 = .ok (.getfield 61, 3) := by decide +kernel
theorem dX5_asking_117 : decode cX5_asking 117 = .ok (.iload 8, 2) := by decide +kernel
theorem dX5_asking_119 : decode cX5_asking 119 = .ok (.iconst 1, 1) := by decide +kernel
theorem dX5_asking_120 : decode cX5_asking 120 = .ok (.iload_n 2, 1) := by decide +kernel
theorem dX5_asking_121 : decode cX5_asking 121 = .ok (.invokevirtual 68, 3) := by decide +kernel
theorem dX5_asking_124 : decode cX5_asking 124 = .ok (.aload_n 0, 1) := by decide +kernel
theorem dX5_asking_125 : decode cX5_asking 125 = .ok (.getfield 14, 3) := by decide +kernel
theorem dX5_asking_128 : decode cX5_asking 128 = .ok (.getfield 61, 3) := by decide +kernel
theorem dX5_asking_131 : decode cX5_asking 131 = .ok (.iload 8, 2) := by decide +kernel
theorem dX5_asking_133 : decode cX5_asking 133 = .ok (.iconst 2, 1) := by decide +kernel
theorem dX5_asking_134 : decode cX5_asking 134 = .ok (.iload_n 3, 1) := by decide +kernel
theorem dX5_asking_135 : decode cX5_asking 135 = .ok (.invokevirtual 68, 3) := by decide +kernel
theorem dX5_asking_138 : decode cX5_asking 138 = .ok (.aload_n 0, 1) := by decide +kernel
theorem dX5_asking_139 : decode cX5_asking 139 = .ok (.getfield 14, 3) := by decide +kernel
theorem dX5_asking_142 : decode cX5_asking 142 = .ok (.getfield 61, 3) := by decide +kernel
theorem dX5_asking_145 : decode cX5_asking 145 = .ok (.iload 8, 2) := by decide +kernel
theorem dX5_asking_147 : decode cX5_asking 147 = .ok (.iconst 3, 1) := by decide +kernel
theorem dX5_asking_148 : decode cX5_asking 148 = .ok (.iload 4, 2) := by decide +kernel
theorem dX5_asking_150 : decode cX5_asking 150 = .ok (.ifCond .eq 7, 3) := by decide +kernel
theorem dX5_asking_153 : decode cX5_asking 153 = .ok (.iconst 1, 1) := by decide +kernel
theorem dX5_asking_154 : decode cX5_asking 154 = .ok (.goto 4, 3) := by decide +kernel
theorem dX5_asking_157 : decode cX5_asking 157 = .ok (.iconst 0, 1) := by decide +kernel
theorem dX5_asking_158 : decode cX5_asking 158 = .ok (.invokevirtual 68, 3) := by decide +kernel
theorem dX5_asking_161 : decode cX5_asking 161 = .ok (.aload_n 0, 1) := by decide +kernel
theorem dX5_asking_162 : decode cX5_asking 162 = .ok (.getfield 14, 3) := by decide +kernel
theorem dX5_asking_165 : decode cX5_asking 165 = .ok (.getfield 61, 3) := by decide +kernel
theorem dX5_asking_168 : decode cX5_asking 168 = .ok (.iload 8, 2) := by decide +kernel
theorem dX5_asking_170 : decode cX5_asking 170 = .ok (.iconst 4, 1) := by decide +kernel
theorem dX5_asking_171 : decode cX5_asking 171 = .ok (.iload 5, 2) := by decide +kernel
theorem dX5_asking_173 : decode cX5_asking 173 = .ok (.invokevirtual 68, 3) := by decide +kernel
theorem dX5_asking_176 : decode cX5_asking 176 = .ok (.aload_n 0, 1) := by decide +kernel
theorem dX5_asking_177 : decode cX5_asking 177 = .ok (.getfield 14, 3) := by decide +kernel
theorem dX5_asking_180 : decode cX5_asking 180 = .ok (.getfield 61, 3) := by decide +kernel
theorem dX5_asking_183 : decode cX5_asking 183 = .ok (.iload 8, 2) := by decide +kernel
theorem dX5_asking_185 : decode cX5_asking 185 = .ok (.iconst 5, 1) := by decide +kernel
theorem dX5_asking_186 : decode cX5_asking 186 = .ok (.iload 6, 2) := by decide +kernel
theorem dX5_asking_188 : decode cX5_asking 188 = .ok (.invokevirtual 68, 3) := by decide +kernel
theorem dX5_asking_191 : decode cX5_asking 191 = .ok (.aload_n 0, 1) := by decide +kernel
theorem dX5_asking_192 : decode cX5_asking 192 = .ok (.getfield 14, 3) := by decide +kernel
theorem dX5_asking_195 : decode cX5_asking 195 = .ok (.getfield 61, 3) := by decide +kernel
theorem dX5_asking_198 : decode cX5_asking 198 = .ok (.iload 8, 2) := by decide +kernel
theorem dX5_asking_200 : decode cX5_asking 200 = .ok (.bipush 6, 2) := by decide +kernel
theorem dX5_asking_202 : decode cX5_asking 202 = .ok (.iload 7, 2) := by decide +kernel
theorem dX5_asking_204 : decode cX5_asking 204 = .ok (.invokevirtual 68, 3) := by decide +kernel
theorem dX5_asking_207 : decode cX5_asking 207 = .ok (.iload 8, 2) := by decide +kernel
theorem dX5_asking_209 : decode cX5_asking 209 = .ok (.ireturn, 1) := by decide +kernel
set_option maxRecDepth 20000 in
theorem ggX5_of_X2_has : GoodIn wsX5_of wsX2_has := goodIn_r _ [7, 8, 25, 26, 27, 28] (by decide +kernel) (by decide +kernel)
set_option maxRecDepth 20000 in
theorem gX5_of_X2_has : GoodIn wsX5_of (wsV RX5 42 RX2 yX2_has wsX2_has) := goodIn_app (goodIn_of _ (by decide +kernel)) ggX5_of_X2_has
set_option maxRecDepth 20000 in
theorem ggX5_of_X2_at : GoodIn wsX5_of wsX2_at := goodIn_r _ [12, 8, 13, 14, 25, 26, 27, 28] (by decide +kernel) (by decide +kernel)
set_option maxRecDepth 20000 in
theorem gX5_of_X2_at : GoodIn wsX5_of (wsV RX5 46 RX2 yX2_at wsX2_at) := goodIn_app (goodIn_of _ (by decide +kernel)) ggX5_of_X2_at
theorem dX5_of_0 : decode cX5_of 0 = .ok (.aload_n 0, 1) := by decide +kernel
theorem dX5_of_1 : decode cX5_of 1 = .ok (.getfield 14, 3) := by decide +kernel
theorem dX5_of_4 : decode cX5_of 4 = .ok (.getfield 61, 3) := by decide +kernel
theorem dX5_of_7 : decode cX5_of 7 = .ok (.iload_n 1, 1) := by decide +kernel
theorem dX5_of_8 : decode cX5_of 8 = .ok (.invokevirtual 42, 3) := by decide +kernel
theorem dX5_of_11 : decode cX5_of 11 = .ok (.ifCond .eq 28, 3) := by decide +kernel
theorem dX5_of_14 : decode cX5_of 14 = .ok (.iload_n 2, 1) := by decide +kernel
theorem dX5_of_15 : decode cX5_of 15 = .ok (.ifCond .lt 24, 3) := by decide +kernel
theorem dX5_of_18 : decode cX5_of 18 = .ok (.iload_n 2, 1) := by decide +kernel
theorem dX5_of_19 : decode cX5_of 19 = .ok (.bipush 7, 2) := by decide +kernel
theorem dX5_of_21 : decode cX5_of 21 = .ok (.if_icmp .ge 18, 3) := by decide +kernel
theorem dX5_of_24 : decode cX5_of 24 = .ok (.aload_n 0, 1) := by decide +kernel
theorem dX5_of_25 : decode cX5_of 25 = .ok (.getfield 14, 3) := by decide +kernel
theorem dX5_of_28 : decode cX5_of 28 = .ok (.getfield 61, 3) := by decide +kernel
theorem dX5_of_31 : decode cX5_of 31 = .ok (.iload_n 1, 1) := by decide +kernel
theorem dX5_of_32 : decode cX5_of 32 = .ok (.iload_n 2, 1) := by decide +kernel
theorem dX5_of_33 : decode cX5_of 33 = .ok (.invokevirtual 46, 3) := by decide +kernel
theorem dX5_of_36 : decode cX5_of 36 = .ok (.goto 6, 3) := by decide +kernel
theorem dX5_of_39 : decode cX5_of 39 = .ok (.sipush (-1001), 3) := by decide +kernel
theorem dX5_of_42 : decode cX5_of 42 = .ok (.ireturn, 1) := by decide +kernel
set_option maxRecDepth 20000 in
theorem ggX5_answer_X2_has : GoodIn wsX5_answer wsX2_has := goodIn_r _ [9, 10, 40, 41, 42, 43] (by decide +kernel) (by decide +kernel)
set_option maxRecDepth 20000 in
theorem gX5_answer_X2_has : GoodIn wsX5_answer (wsV RX5 42 RX2 yX2_has wsX2_has) := goodIn_app (goodIn_of _ (by decide +kernel)) ggX5_answer_X2_has
set_option maxRecDepth 20000 in
theorem ggX5_answer_X2_isFull : GoodIn wsX5_answer wsX2_isFull := goodIn_r _ [14, 10, 15, 40, 41, 42, 43] (by decide +kernel) (by decide +kernel)
set_option maxRecDepth 20000 in
theorem gX5_answer_X2_isFull : GoodIn wsX5_answer (wsV RX5 32 RX2 yX2_isFull wsX2_isFull) := goodIn_app (goodIn_of _ (by decide +kernel)) ggX5_answer_X2_isFull
set_option maxRecDepth 20000 in
theorem ggX5_answer_X2_add : GoodIn wsX5_answer wsX2_add := goodIn_r _ [19, 10, 15, 40, 41, 42, 43] (by decide +kernel) (by decide +kernel)
set_option maxRecDepth 20000 in
theorem gX5_answer_X2_add : GoodIn wsX5_answer (wsV RX5 64 RX2 yX2_add wsX2_add) := goodIn_app (goodIn_of _ (by decide +kernel)) ggX5_answer_X2_add
set_option maxRecDepth 20000 in
theorem ggX5_answer_X2_put : GoodIn wsX5_answer wsX2_put := goodIn_r _ [23, 10, 24, 25, 40, 41, 42, 43] (by decide +kernel) (by decide +kernel)
set_option maxRecDepth 20000 in
theorem gX5_answer_X2_put : GoodIn wsX5_answer (wsV RX5 68 RX2 yX2_put wsX2_put) := goodIn_app (goodIn_of _ (by decide +kernel)) ggX5_answer_X2_put
set_option maxRecDepth 20000 in
theorem ggX5_answer_X2_at : GoodIn wsX5_answer wsX2_at := goodIn_r _ [29, 10, 24, 25, 40, 41, 42, 43] (by decide +kernel) (by decide +kernel)
set_option maxRecDepth 20000 in
theorem gX5_answer_X2_at : GoodIn wsX5_answer (wsV RX5 46 RX2 yX2_at wsX2_at) := goodIn_app (goodIn_of _ (by decide +kernel)) ggX5_answer_X2_at
theorem dX5_answer_0 : decode cX5_answer 0 = .ok (.aload_n 0, 1) := by decide +kernel
theorem dX5_answer_1 : decode cX5_answer 1 = .ok (.getfield 14, 3) := by decide +kernel
theorem dX5_answer_4 : decode cX5_answer 4 = .ok (.getfield 28, 3) := by decide +kernel
theorem dX5_answer_7 : decode cX5_answer 7 = .ok (.iload_n 1, 1) := by decide +kernel
theorem dX5_answer_8 : decode cX5_answer 8 = .ok (.invokevirtual 42, 3) := by decide +kernel
theorem dX5_answer_11 : decode cX5_answer 11 = .ok (.ifCond .eq 17, 3) := by decide +kernel
theorem dX5_answer_14 : decode cX5_answer 14 = .ok (.aload_n 0, 1) := by decide +kernel
theorem dX5_answer_15 : decode cX5_answer 15 = .ok (.getfield 14, 3) := by decide +kernel
theorem dX5_answer_18 : decode cX5_answer 18 = .ok (.getfield 61, 3) := by decide +kernel
theorem dX5_answer_21 : decode cX5_answer 21 = .ok (.iload_n 2, 1) := by decide +kernel
theorem dX5_answer_22 : decode cX5_answer 22 = .ok (.invokevirtual 42, 3) := by decide +kernel
theorem dX5_answer_25 : decode cX5_answer 25 = .ok (.ifCond .ne 5, 3) := by decide +kernel
theorem dX5_answer_28 : decode cX5_answer 28 = .ok (.iconst (-1), 1) := by decide +kernel
theorem dX5_answer_29 : decode cX5_answer 29 = .ok (.ireturn, 1) := by decide +kernel
theorem dX5_answer_30 : decode cX5_answer 30 = .ok (.iload_n 3, 1) := by decide +kernel
theorem dX5_answer_31 : decode cX5_answer 31 = .ok (.ifCond .lt 8, 3) := by decide +kernel
theorem dX5_answer_34 : decode cX5_answer 34 = .ok (.iload_n 3, 1) := by decide +kernel
theorem dX5_answer_35 : decode cX5_answer 35 = .ok (.iconst 2, 1) := by decide +kernel
theorem dX5_answer_36 : decode cX5_answer 36 = .ok (.if_icmp .le 6, 3) := by decide +kernel
theorem dX5_answer_39 : decode cX5_answer 39 = .ok (.bipush (-2), 2) := by decide +kernel
theorem dX5_answer_41 : decode cX5_answer 41 = .ok (.ireturn, 1) := by decide +kernel
theorem dX5_answer_42 : decode cX5_answer 42 = .ok (.aload_n 0, 1) := by decide +kernel
theorem dX5_answer_43 : decode cX5_answer 43 = .ok (.getfield 14, 3) := by decide +kernel
theorem dX5_answer_46 : decode cX5_answer 46 = .ok (.getfield 72, 3) := by decide +kernel
theorem dX5_answer_49 : decode cX5_answer 49 = .ok (.invokevirtual 32, 3) := by decide +kernel
theorem dX5_answer_52 : decode cX5_answer 52 = .ok (.ifCond .eq 6, 3) := by decide +kernel
theorem dX5_answer_55 : decode cX5_answer 55 = .ok (.bipush (-4), 2) := by decide +kernel
theorem dX5_answer_57 : decode cX5_answer 57 = .ok (.ireturn, 1) := by decide +kernel
theorem dX5_answer_58 : decode cX5_answer 58 = .ok (.aload_n 0, 1) := by decide +kernel
theorem dX5_answer_59 : decode cX5_answer 59 = .ok (.getfield 14, 3) := by decide +kernel
theorem dX5_answer_62 : decode cX5_answer 62 = .ok (.getfield 72, 3) := by decide +kernel
theorem dX5_answer_65 : decode cX5_answer 65 = .ok (.invokevirtual 64, 3) := by decide +kernel
theorem dX5_answer_68 : decode cX5_answer 68 = .ok (.istore 5, 2) := by decide +kernel
theorem dX5_answer_70 : decode cX5_answer 70 = .ok (.aload_n 0, 1) := by decide +kernel
theorem dX5_answer_71 : decode cX5_answer 71 = .ok (.getfield 14, 3) := by decide +kernel
theorem dX5_answer_74 : decode cX5_answer 74 = .ok (.getfield 72, 3) := by decide +kernel
theorem dX5_answer_77 : decode cX5_answer 77 = .ok (.iload 5, 2) := by decide +kernel
theorem dX5_answer_79 : decode cX5_answer 79 = .ok (.iconst 0, 1) := by decide +kernel
theorem dX5_answer_80 : decode cX5_answer 80 = .ok (.iload_n 1, 1) := by decide +kernel
theorem dX5_answer_81 : decode cX5_answer 81 = .ok (.invokevirtual 68, 3) := by decide +kernel
theorem dX5_answer_84 : decode cX5_answer 84 = .ok (.aload_n 0, 1) := by decide +kernel
theorem dX5_answer_85 : decode cX5_answer 85 = .ok (.getfield 14, 3) := by decide +kernel
theorem dX5_answer_88 : decode cX5_answer 88 = .ok (.getfield 72, 3) := by decide +kernel
theorem dX5_answer_91 : decode cX5_answer 91 = .ok (.iload 5, 2) := by decide +kernel
theorem dX5_answer_93 : decode cX5_answer 93 = .ok (.iconst 1, 1) := by decide +kernel
theorem dX5_answer_94 : decode cX5_answer 94 = .ok (.iload_n 2, 1) := by decide +kernel
theorem dX5_answer_95 : decode cX5_answer 95 = .ok (.invokevirtual 68, 3) := by decide +kernel
theorem dX5_answer_98 : decode cX5_answer 98 = .ok (.aload_n 0, 1) := by decide +kernel
theorem dX5_answer_99 : decode cX5_answer 99 = .ok (.getfield 14, 3) := by decide +kernel
theorem dX5_answer_102 : decode cX5_answer 102 = .ok (.getfield 72, 3) := by decide +kernel
theorem dX5_answer_105 : decode cX5_answer 105 = .ok (.iload 5, 2) := by decide +kernel
theorem dX5_answer_107 : decode cX5_answer 107 = .ok (.iconst 2, 1) := by decide +kernel
theorem dX5_answer_108 : decode cX5_answer 108 = .ok (.iload_n 3, 1) := by decide +kernel
theorem dX5_answer_109 : decode cX5_answer 109 = .ok (.invokevirtual 68, 3) := by decide +kernel
theorem dX5_answer_112 : decode cX5_answer 112 = .ok (.aload_n 0, 1) := by decide +kernel
theorem dX5_answer_113 : decode cX5_answer 113 = .ok (.getfield 14, 3) := by decide +kernel
theorem dX5_answer_116 : decode cX5_answer 116 = .ok (.getfield 72, 3) := by decide +kernel
theorem dX5_answer_119 : decode cX5_answer 119 = .ok (.iload 5, 2) := by decide +kernel
theorem dX5_answer_121 : decode cX5_answer 121 = .ok (.iconst 3, 1) := by decide +kernel
theorem dX5_answer_122 : decode cX5_answer 122 = .ok (.iload 4, 2) := by decide +kernel
theorem dX5_answer_124 : decode cX5_answer 124 = .ok (.ifCond .eq 7, 3) := by decide +kernel
theorem dX5_answer_127 : decode cX5_answer 127 = .ok (.iconst 1, 1) := by decide +kernel
theorem dX5_answer_128 : decode cX5_answer 128 = .ok (.goto 4, 3) := by decide +kernel
theorem dX5_answer_131 : decode cX5_answer 131 = .ok (.iconst 0, 1) := by decide +kernel
theorem dX5_answer_132 : decode cX5_answer 132 = .ok (.invokevirtual 68, 3) := by decide +kernel
theorem dX5_answer_135 : decode cX5_answer 135 = .ok (.aload_n 0, 1) := by decide +kernel
theorem dX5_answer_136 : decode cX5_answer 136 = .ok (.getfield 14, 3) := by decide +kernel
theorem dX5_answer_139 : decode cX5_answer 139 = .ok (.getfield 72, 3) := by decide +kernel
theorem dX5_answer_142 : decode cX5_answer 142 = .ok (.iload 5, 2) := by decide +kernel
theorem dX5_answer_144 : decode cX5_answer 144 = .ok (.iconst 4, 1) := by decide +kernel
theorem dX5_answer_145 : decode cX5_answer 145 = .ok (.aload_n 0, 1) := by decide +kernel
theorem dX5_answer_146 : decode cX5_answer 146 = .ok (.getfield 14, 3) := by decide +kernel
theorem dX5_answer_149 : decode cX5_answer 149 = .ok (.getfield 28, 3) := by decide +kernel
theorem dX5_answer_152 : decode cX5_answer 152 = .ok (.iload_n 1, 1) := by decide +kernel
theorem dX5_answer_153 : decode cX5_answer 153 = .ok (.iconst 0, 1) := by decide +kernel
theorem dX5_answer_154 : decode cX5_answer 154 = .ok (.invokevirtual 46, 3) := by decide +kernel
theorem dX5_answer_157 : decode cX5_answer 157 = .ok (.invokevirtual 68, 3) := by decide +kernel
theorem dX5_answer_160 : decode cX5_answer 160 = .ok (.iload 5, 2) := by decide +kernel
theorem dX5_answer_162 : decode cX5_answer 162 = .ok (.ireturn, 1) := by decide +kernel
set_option maxRecDepth 20000 in
theorem ggX5_answered_X2_has : GoodIn wsX5_answered wsX2_has := goodIn_r _ [7, 8, 25, 26, 27, 28] (by decide +kernel) (by decide +kernel)
set_option maxRecDepth 20000 in
theorem gX5_answered_X2_has : GoodIn wsX5_answered (wsV RX5 42 RX2 yX2_has wsX2_has) := goodIn_app (goodIn_of _ (by decide +kernel)) ggX5_answered_X2_has
set_option maxRecDepth 20000 in
theorem ggX5_answered_X2_at : GoodIn wsX5_answered wsX2_at := goodIn_r _ [12, 8, 13, 14, 25, 26, 27, 28] (by decide +kernel) (by decide +kernel)
set_option maxRecDepth 20000 in
theorem gX5_answered_X2_at : GoodIn wsX5_answered (wsV RX5 46 RX2 yX2_at wsX2_at) := goodIn_app (goodIn_of _ (by decide +kernel)) ggX5_answered_X2_at
theorem dX5_answered_0 : decode cX5_answered 0 = .ok (.aload_n 0, 1) := by decide +kernel
theorem dX5_answered_1 : decode cX5_answered 1 = .ok (.getfield 14, 3) := by decide +kernel
theorem dX5_answered_4 : decode cX5_answered 4 = .ok (.getfield 72, 3) := by decide +kernel
theorem dX5_answered_7 : decode cX5_answered 7 = .ok (.iload_n 1, 1) := by decide +kernel
theorem dX5_answered_8 : decode cX5_answered 8 = .ok (.invokevirtual 42, 3) := by decide +kernel
theorem dX5_answered_11 : decode cX5_answered 11 = .ok (.ifCond .eq 27, 3) := by decide +kernel
theorem dX5_answered_14 : decode cX5_answered 14 = .ok (.iload_n 2, 1) := by decide +kernel
theorem dX5_answered_15 : decode cX5_answered 15 = .ok (.ifCond .lt 23, 3) := by decide +kernel
theorem dX5_answered_18 : decode cX5_answered 18 = .ok (.iload_n 2, 1) := by decide +kernel
theorem dX5_answered_19 : decode cX5_answered 19 = .ok (.iconst 5, 1) := by decide +kernel
theorem dX5_answered_20 : decode cX5_answered 20 = .ok (.if_icmp .ge 18, 3) := by decide +kernel
theorem dX5_answered_23 : decode cX5_answered 23 = .ok (.aload_n 0, 1) := by decide +kernel
theorem dX5_answered_24 : decode cX5_answered 24 = .ok (.getfield 14, 3) := by decide +kernel
theorem dX5_answered_27 : decode cX5_answered 27 = .ok (.getfield 72, 3) := by decide +kernel
theorem dX5_answered_30 : decode cX5_answered 30 = .ok (.iload_n 1, 1) := by decide +kernel
theorem dX5_answered_31 : decode cX5_answered 31 = .ok (.iload_n 2, 1) := by decide +kernel
theorem dX5_answered_32 : decode cX5_answered 32 = .ok (.invokevirtual 46, 3) := by decide +kernel
theorem dX5_answered_35 : decode cX5_answered 35 = .ok (.goto 4, 3) := by decide +kernel
theorem dX5_answered_38 : decode cX5_answered 38 = .ok (.iconst (-1), 1) := by decide +kernel
theorem dX5_answered_39 : decode cX5_answered 39 = .ok (.ireturn, 1) := by decide +kernel
set_option maxRecDepth 20000 in
theorem ggX5_teach_X2_has : GoodIn wsX5_teach wsX2_has := goodIn_r _ [7, 8, 40, 41, 42, 43] (by decide +kernel) (by decide +kernel)
set_option maxRecDepth 20000 in
theorem gX5_teach_X2_has : GoodIn wsX5_teach (wsV RX5 42 RX2 yX2_has wsX2_has) := goodIn_app (goodIn_of _ (by decide +kernel)) ggX5_teach_X2_has
set_option maxRecDepth 20000 in
theorem ggX5_teach_X5_isStuff : GoodIn wsX5_teach wsX5_isStuff := goodIn_r _ [12] (by decide +kernel) (by decide +kernel)
set_option maxRecDepth 20000 in
theorem gX5_teach_X5_isStuff : GoodIn wsX5_teach (va_wsS RX5 58 yX5_isStuff wsX5_isStuff) := goodIn_app (goodIn_of _ (by decide +kernel)) ggX5_teach_X5_isStuff
set_option maxRecDepth 20000 in
theorem ggX5_teach_X4_teachNow : GoodIn wsX5_teach wsX4_teachNow := goodIn_r _ [17, 18, 19, 20, 21, 22, 6, 23, 8, 24, 25, 26, 27, 28, 29, 34, 35, 36, 37, 38, 39, 40, 41, 42, 43] (by decide +kernel) (by decide +kernel)
set_option maxRecDepth 20000 in
theorem gX5_teach_X4_teachNow : GoodIn wsX5_teach (wsV RX5 75 RX4 yX4_teachNow wsX4_teachNow) := goodIn_app (goodIn_of _ (by decide +kernel)) ggX5_teach_X4_teachNow
theorem dX5_teach_0 : decode cX5_teach 0 = .ok (.aload_n 0, 1) := by decide +kernel
theorem dX5_teach_1 : decode cX5_teach 1 = .ok (.getfield 14, 3) := by decide +kernel
theorem dX5_teach_4 : decode cX5_teach 4 = .ok (.getfield 28, 3) := by decide +kernel
theorem dX5_teach_7 : decode cX5_teach 7 = .ok (.iload_n 1, 1) := by decide +kernel
theorem dX5_teach_8 : decode cX5_teach 8 = .ok (.invokevirtual 42, 3) := by decide +kernel
theorem dX5_teach_11 : decode cX5_teach 11 = .ok (.ifCond .eq 10, 3) := by decide +kernel
theorem dX5_teach_14 : decode cX5_teach 14 = .ok (.iload_n 2, 1) := by decide +kernel
theorem dX5_teach_15 : decode cX5_teach 15 = .ok (.invokestatic 58, 3) := by decide +kernel
theorem dX5_teach_18 : decode cX5_teach 18 = .ok (.ifCond .ne 5, 3) := by decide +kernel
theorem dX5_teach_21 : decode cX5_teach 21 = .ok (.iconst (-1), 1) := by decide +kernel
theorem dX5_teach_22 : decode cX5_teach 22 = .ok (.ireturn, 1) := by decide +kernel
theorem dX5_teach_23 : decode cX5_teach 23 = .ok (.aload_n 0, 1) := by decide +kernel
theorem dX5_teach_24 : decode cX5_teach 24 = .ok (.getfield 14, 3) := by decide +kernel
theorem dX5_teach_27 : decode cX5_teach 27 = .ok (.iload_n 1, 1) := by decide +kernel
theorem dX5_teach_28 : decode cX5_teach 28 = .ok (.iload_n 2, 1) := by decide +kernel
theorem dX5_teach_29 : decode cX5_teach 29 = .ok (.invokevirtual 75, 3) := by decide +kernel
theorem dX5_teach_32 : decode cX5_teach 32 = .ok (.ifCond .eq 7, 3) := by decide +kernel
theorem dX5_teach_35 : decode cX5_teach 35 = .ok (.iconst 1, 1) := by decide +kernel
theorem dX5_teach_36 : decode cX5_teach 36 = .ok (.goto 4, 3) := by decide +kernel
theorem dX5_teach_39 : decode cX5_teach 39 = .ok (.iconst 0, 1) := by decide +kernel
theorem dX5_teach_40 : decode cX5_teach 40 = .ok (.ireturn, 1) := by decide +kernel
set_option maxRecDepth 20000 in
theorem ggX5_feed_X3_append : GoodIn wsX5_feed wsX3_append := goodIn_r _ [8, 9, 10, 21, 22, 23] (by decide +kernel) (by decide +kernel)
set_option maxRecDepth 20000 in
theorem gX5_feed_X3_append : GoodIn wsX5_feed (wsV RX5 83 RX3 yX3_append wsX3_append) := goodIn_app (goodIn_of _ (by decide +kernel)) ggX5_feed_X3_append
theorem dX5_feed_0 : decode cX5_feed 0 = .ok (.iload_n 3, 1) := by decide +kernel
theorem dX5_feed_1 : decode cX5_feed 1 = .ok (.iconst 1, 1) := by decide +kernel
theorem dX5_feed_2 : decode cX5_feed 2 = .ok (.if_icmp .lt 9, 3) := by decide +kernel
theorem dX5_feed_5 : decode cX5_feed 5 = .ok (.iload_n 3, 1) := by decide +kernel
theorem dX5_feed_6 : decode cX5_feed 6 = .ok (.bipush 8, 2) := by decide +kernel
theorem dX5_feed_8 : decode cX5_feed 8 = .ok (.if_icmp .le 6, 3) := by decide +kernel
theorem dX5_feed_11 : decode cX5_feed 11 = .ok (.bipush (-2), 2) := by decide +kernel
theorem dX5_feed_13 : decode cX5_feed 13 = .ok (.ireturn, 1) := by decide +kernel
theorem dX5_feed_14 : decode cX5_feed 14 = .ok (.aload_n 0, 1) := by decide +kernel
theorem dX5_feed_15 : decode cX5_feed 15 = .ok (.getfield 14, 3) := by decide +kernel
theorem dX5_feed_18 : decode cX5_feed 18 = .ok (.getfield 79, 3) := by decide +kernel
theorem dX5_feed_21 : decode cX5_feed 21 = .ok (.lload_n 1, 1) := by decide +kernel
theorem dX5_feed_22 : decode cX5_feed 22 = .ok (.iload_n 3, 1) := by decide +kernel
theorem dX5_feed_23 : decode cX5_feed 23 = .ok (.invokevirtual 83, 3) := by decide +kernel
theorem dX5_feed_26 : decode cX5_feed 26 = .ok (.ifCond .eq 16, 3) := by decide +kernel
theorem dX5_feed_29 : decode cX5_feed 29 = .ok (.aload_n 0, 1) := by decide +kernel
theorem dX5_feed_30 : decode cX5_feed 30 = .ok (.getfield 14, 3) := by decide +kernel
theorem dX5_feed_33 : decode cX5_feed 33 = .ok (.getfield 79, 3) := by decide +kernel
theorem dX5_feed_36 : decode cX5_feed 36 = .ok (.getfield 89, 3) := by decide +kernel
theorem dX5_feed_39 : decode cX5_feed 39 = .ok (.goto 5, 3) := by decide +kernel
theorem dX5_feed_42 : decode cX5_feed 42 = .ok (.bipush (-4), 2) := by decide +kernel
theorem dX5_feed_44 : decode cX5_feed 44 = .ok (.ireturn, 1) := by decide +kernel
set_option maxRecDepth 20000 in
theorem ggX5_law_X5_isKind : GoodIn wsX5_law wsX5_isKind := goodIn_r _ [13] (by decide +kernel) (by decide +kernel)
set_option maxRecDepth 20000 in
theorem gX5_law_X5_isKind : GoodIn wsX5_law (va_wsS RX5 90 yX5_isKind wsX5_isKind) := goodIn_app (goodIn_of _ (by decide +kernel)) ggX5_law_X5_isKind
set_option maxRecDepth 20000 in
theorem ggX5_law_X3_readInto : GoodIn wsX5_law wsX3_readInto := goodIn_r _ [18, 19, 20, 21, 22, 23, 24, 25, 26, 27, 28, 29, 30, 31, 32, 33, 17, 34, 35, 36, 37, 38, 39, 40, 41, 42, 43, 44, 45, 46, 47, 48, 49, 50, 51, 52, 53, 54, 55, 56, 57, 58, 59, 60, 61, 62, 63, 64, 65, 66, 67, 68, 69, 70, 71, 72, 73, 74, 75, 76, 77, 78, 79, 80, 81, 82, 83, 84, 85, 86, 87, 88, 89, 90, 91, 92, 93, 94, 95, 96, 97, 98, 99, 100, 101, 102, 103, 104, 105, 106, 107, 108, 109, 110, 111, 112, 113, 114, 115, 116, 117, 118, 119, 120, 121, 122, 123, 124, 125, 126, 127, 128, 129, 130, 131, 132, 133, 134, 135, 136, 137, 138, 139, 140, 141, 142, 143, 144, 145, 146, 147, 148, 149, 150, 151, 152, 153, 154, 155, 156, 157, 158, 159, 160, 161, 162, 163, 164, 165, 166, 167, 168, 169, 170, 12, 171, 172, 173, 174, 175, 176, 177, 178, 179, 180, 181, 182, 183, 184, 185, 186, 187, 188, 189, 190, 191, 192, 193, 194, 195, 196, 197, 198, 199, 200, 201, 202, 203, 204, 205, 206, 207, 208, 209, 210, 211, 212, 213, 214, 215, 226, 227, 228, 229, 230, 231, 232, 233, 234, 235, 236, 237, 238, 239, 240] (by decide +kernel) (by decide +kernel)
set_option maxRecDepth 20000 in
theorem gX5_law_X3_readInto : GoodIn wsX5_law (wsV RX5 100 RX3 yX3_readInto wsX3_readInto) := goodIn_app (goodIn_of _ (by decide +kernel)) ggX5_law_X3_readInto
theorem dX5_law_0 : decode cX5_law 0 = .ok (.iload_n 1, 1) := by decide +kernel
theorem dX5_law_1 : decode cX5_law 1 = .ok (.invokestatic 90, 3) := by decide +kernel
theorem dX5_law_4 : decode cX5_law 4 = .ok (.ifCond .ne 5, 3) := by decide +kernel
theorem dX5_law_7 : decode cX5_law 7 = .ok (.iconst (-1), 1) := by decide +kernel
theorem dX5_law_8 : decode cX5_law 8 = .ok (.ireturn, 1) := by decide +kernel
theorem dX5_law_9 : decode cX5_law 9 = .ok (.iload_n 2, 1) := by decide +kernel
theorem dX5_law_10 : decode cX5_law 10 = .ok (.ifCond .lt 9, 3) := by decide +kernel
theorem dX5_law_13 : decode cX5_law 13 = .ok (.iload_n 2, 1) := by decide +kernel
theorem dX5_law_14 : decode cX5_law 14 = .ok (.bipush 9, 2) := by decide +kernel
theorem dX5_law_16 : decode cX5_law 16 = .ok (.if_icmp .le 6, 3) := by decide +kernel
theorem dX5_law_19 : decode cX5_law 19 = .ok (.bipush (-2), 2) := by decide +kernel
theorem dX5_law_21 : decode cX5_law 21 = .ok (.ireturn, 1) := by decide +kernel
theorem dX5_law_22 : decode cX5_law 22 = .ok (.aload_n 0, 1) := by decide +kernel
theorem dX5_law_23 : decode cX5_law 23 = .ok (.getfield 14, 3) := by decide +kernel
theorem dX5_law_26 : decode cX5_law 26 = .ok (.getfield 93, 3) := by decide +kernel
theorem dX5_law_29 : decode cX5_law 29 = .ok (.ifCond .lt 15, 3) := by decide +kernel
theorem dX5_law_32 : decode cX5_law 32 = .ok (.aload_n 0, 1) := by decide +kernel
theorem dX5_law_33 : decode cX5_law 33 = .ok (.getfield 14, 3) := by decide +kernel
theorem dX5_law_36 : decode cX5_law 36 = .ok (.getfield 93, 3) := by decide +kernel
theorem dX5_law_39 : decode cX5_law 39 = .ok (.bipush 8, 2) := by decide +kernel
theorem dX5_law_41 : decode cX5_law 41 = .ok (.if_icmp .lt 6, 3) := by decide +kernel
theorem dX5_law_44 : decode cX5_law 44 = .ok (.bipush (-4), 2) := by decide +kernel
theorem dX5_law_46 : decode cX5_law 46 = .ok (.ireturn, 1) := by decide +kernel
theorem dX5_law_47 : decode cX5_law 47 = .ok (.aload_n 0, 1) := by decide +kernel
theorem dX5_law_48 : decode cX5_law 48 = .ok (.getfield 14, 3) := by decide +kernel
theorem dX5_law_51 : decode cX5_law 51 = .ok (.getfield 96, 3) := by decide +kernel
theorem dX5_law_54 : decode cX5_law 54 = .ok (.aload_n 0, 1) := by decide +kernel
theorem dX5_law_55 : decode cX5_law 55 = .ok (.getfield 14, 3) := by decide +kernel
theorem dX5_law_58 : decode cX5_law 58 = .ok (.getfield 93, 3) := by decide +kernel
theorem dX5_law_61 : decode cX5_law 61 = .ok (.aaload, 1) := by decide +kernel
theorem dX5_law_62 : decode cX5_law 62 = .ok (.astore_n 3, 1) := by decide +kernel
theorem dX5_law_63 : decode cX5_law 63 = .ok (.aload_n 0, 1) := by decide +kernel
theorem dX5_law_64 : decode cX5_law 64 = .ok (.getfield 14, 3) := by decide +kernel
theorem dX5_law_67 : decode cX5_law 67 = .ok (.getfield 79, 3) := by decide +kernel
theorem dX5_law_70 : decode cX5_law 70 = .ok (.aload_n 3, 1) := by decide +kernel
theorem dX5_law_71 : decode cX5_law 71 = .ok (.invokevirtual 100, 3) := by decide +kernel
theorem dX5_law_74 : decode cX5_law 74 = .ok (.istore 4, 2) := by decide +kernel
theorem dX5_law_76 : decode cX5_law 76 = .ok (.aload_n 0, 1) := by decide +kernel
theorem dX5_law_77 : decode cX5_law 77 = .ok (.getfield 14, 3) := by decide +kernel
theorem dX5_law_80 : decode cX5_law 80 = .ok (.getfield 79, 3) := by decide +kernel
theorem dX5_law_83 : decode cX5_law 83 = .ok (.iconst 0, 1) := by decide +kernel
theorem dX5_law_84 : decode cX5_law 84 = .ok (.putfield 89, 3) := by decide +kernel
theorem dX5_law_87 : decode cX5_law 87 = .ok (.iload 4, 2) := by decide +kernel
theorem dX5_law_89 : decode cX5_law 89 = .ok (.ifCond .ne 17, 3) := by decide +kernel
theorem dX5_law_92 : decode cX5_law 92 = .ok (.bipush (-10), 2) := by decide +kernel
theorem dX5_law_94 : decode cX5_law 94 = .ok (.aload_n 0, 1) := by decide +kernel
theorem dX5_law_95 : decode cX5_law 95 = .ok (.getfield 14, 3) := by decide +kernel
theorem dX5_law_98 : decode cX5_law 98 = .ok (.getfield 79, 3) := by decide +kernel
theorem dX5_law_101 : decode cX5_law 101 = .ok (.getfield 104, 3) := by decide +kernel
theorem dX5_law_104 : decode cX5_law 104 = .ok (.isub, 1) := by decide +kernel
theorem dX5_law_105 : decode cX5_law 105 = .ok (.ireturn, 1) := by decide +kernel
theorem dX5_law_106 : decode cX5_law 106 = .ok (.aload_n 3, 1) := by decide +kernel
theorem dX5_law_107 : decode cX5_law 107 = .ok (.aload_n 0, 1) := by decide +kernel
theorem dX5_law_108 : decode cX5_law 108 = .ok (.getfield 14, 3) := by decide +kernel
theorem dX5_law_111 : decode cX5_law 111 = .ok (.getfield 93, 3) := by decide +kernel
theorem dX5_law_114 : decode cX5_law 114 = .ok (.putfield 107, 3) := by decide +kernel
theorem dX5_law_117 : decode cX5_law 117 = .ok (.aload_n 3, 1) := by decide +kernel
theorem dX5_law_118 : decode cX5_law 118 = .ok (.iload_n 1, 1) := by decide +kernel
theorem dX5_law_119 : decode cX5_law 119 = .ok (.putfield 112, 3) := by decide +kernel
theorem dX5_law_122 : decode cX5_law 122 = .ok (.aload_n 3, 1) := by decide +kernel
theorem dX5_law_123 : decode cX5_law 123 = .ok (.iload_n 2, 1) := by decide +kernel
theorem dX5_law_124 : decode cX5_law 124 = .ok (.putfield 115, 3) := by decide +kernel
theorem dX5_law_127 : decode cX5_law 127 = .ok (.aload_n 0, 1) := by decide +kernel
theorem dX5_law_128 : decode cX5_law 128 = .ok (.getfield 14, 3) := by decide +kernel
theorem dX5_law_131 : decode cX5_law 131 = .ok (.dup, 1) := by decide +kernel
theorem dX5_law_132 : decode cX5_law 132 = .ok (.getfield 93, 3) := by decide +kernel
theorem dX5_law_135 : decode cX5_law 135 = .ok (.iconst 1, 1) := by decide +kernel
theorem dX5_law_136 : decode cX5_law 136 = .ok (.iadd, 1) := by decide +kernel
theorem dX5_law_137 : decode cX5_law 137 = .ok (.putfield 93, 3) := by decide +kernel
theorem dX5_law_140 : decode cX5_law 140 = .ok (.aload_n 3, 1) := by decide +kernel
theorem dX5_law_141 : decode cX5_law 141 = .ok (.getfield 107, 3) := by decide +kernel
theorem dX5_law_144 : decode cX5_law 144 = .ok (.ireturn, 1) := by decide +kernel
set_option maxRecDepth 20000 in
theorem ggX5_told_X4_hasLaw : GoodIn wsX5_told wsX4_hasLaw := goodIn_r _ [11, 12, 21, 22, 23, 24, 25, 26] (by decide +kernel) (by decide +kernel)
set_option maxRecDepth 20000 in
theorem gX5_told_X4_hasLaw : GoodIn wsX5_told (wsV RX5 118 RX4 yX4_hasLaw wsX4_hasLaw) := goodIn_app (goodIn_of _ (by decide +kernel)) ggX5_told_X4_hasLaw
set_option maxRecDepth 20000 in
theorem ggX5_told_X5_isStuff : GoodIn wsX5_told wsX5_isStuff := goodIn_r _ [16] (by decide +kernel) (by decide +kernel)
set_option maxRecDepth 20000 in
theorem gX5_told_X5_isStuff : GoodIn wsX5_told (va_wsS RX5 58 yX5_isStuff wsX5_isStuff) := goodIn_app (goodIn_of _ (by decide +kernel)) ggX5_told_X5_isStuff
theorem dX5_told_0 : decode cX5_told 0 = .ok (.aload_n 0, 1) := by decide +kernel
theorem dX5_told_1 : decode cX5_told 1 = .ok (.getfield 14, 3) := by decide +kernel
theorem dX5_told_4 : decode cX5_told 4 = .ok (.iload_n 1, 1) := by decide +kernel
theorem dX5_told_5 : decode cX5_told 5 = .ok (.invokevirtual 118, 3) := by decide +kernel
theorem dX5_told_8 : decode cX5_told 8 = .ok (.ifCond .ne 5, 3) := by decide +kernel
theorem dX5_told_11 : decode cX5_told 11 = .ok (.iconst (-1), 1) := by decide +kernel
theorem dX5_told_12 : decode cX5_told 12 = .ok (.ireturn, 1) := by decide +kernel
theorem dX5_told_13 : decode cX5_told 13 = .ok (.aload_n 0, 1) := by decide +kernel
theorem dX5_told_14 : decode cX5_told 14 = .ok (.getfield 14, 3) := by decide +kernel
theorem dX5_told_17 : decode cX5_told 17 = .ok (.getfield 96, 3) := by decide +kernel
theorem dX5_told_20 : decode cX5_told 20 = .ok (.iload_n 1, 1) := by decide +kernel
theorem dX5_told_21 : decode cX5_told 21 = .ok (.aaload, 1) := by decide +kernel
theorem dX5_told_22 : decode cX5_told 22 = .ok (.astore_n 3, 1) := by decide +kernel
theorem dX5_told_23 : decode cX5_told 23 = .ok (.iload_n 2, 1) := by decide +kernel
theorem dX5_told_24 : decode cX5_told 24 = .ok (.tableswitch 43 0 2 #[28, 33, 38], 28) := by decide +kernel
theorem dX5_told_52 : decode cX5_told 52 = .ok (.aload_n 3, 1) := by decide +kernel
theorem dX5_told_53 : decode cX5_told 53 = .ok (.getfield 112, 3) := by decide +kernel
theorem dX5_told_56 : decode cX5_told 56 = .ok (.ireturn, 1) := by decide +kernel
theorem dX5_told_57 : decode cX5_told 57 = .ok (.aload_n 3, 1) := by decide +kernel
theorem dX5_told_58 : decode cX5_told 58 = .ok (.getfield 115, 3) := by decide +kernel
theorem dX5_told_61 : decode cX5_told 61 = .ok (.ireturn, 1) := by decide +kernel
theorem dX5_told_62 : decode cX5_told 62 = .ok (.aload_n 3, 1) := by decide +kernel
theorem dX5_told_63 : decode cX5_told 63 = .ok (.getfield 121, 3) := by decide +kernel
theorem dX5_told_66 : decode cX5_told 66 = .ok (.ireturn, 1) := by decide +kernel
theorem dX5_told_67 : decode cX5_told 67 = .ok (.iload_n 2, 1) := by decide +kernel
theorem dX5_told_68 : decode cX5_told 68 = .ok (.bipush 10, 2) := by decide +kernel
theorem dX5_told_70 : decode cX5_told 70 = .ok (.isub, 1) := by decide +kernel
theorem dX5_told_71 : decode cX5_told 71 = .ok (.invokestatic 58, 3) := by decide +kernel
theorem dX5_told_74 : decode cX5_told 74 = .ok (.ifCond .eq 15, 3) := by decide +kernel
theorem dX5_told_77 : decode cX5_told 77 = .ok (.aload_n 3, 1) := by decide +kernel
theorem dX5_told_78 : decode cX5_told 78 = .ok (.getfield 124, 3) := by decide +kernel
theorem dX5_told_81 : decode cX5_told 81 = .ok (.iload_n 2, 1) := by decide +kernel
theorem dX5_told_82 : decode cX5_told 82 = .ok (.bipush 10, 2) := by decide +kernel
theorem dX5_told_84 : decode cX5_told 84 = .ok (.isub, 1) := by decide +kernel
theorem dX5_told_85 : decode cX5_told 85 = .ok (.iaload, 1) := by decide +kernel
theorem dX5_told_86 : decode cX5_told 86 = .ok (.goto 4, 3) := by decide +kernel
theorem dX5_told_89 : decode cX5_told 89 = .ok (.iconst (-1), 1) := by decide +kernel
theorem dX5_told_90 : decode cX5_told 90 = .ok (.ireturn, 1) := by decide +kernel
set_option maxRecDepth 20000 in
theorem ggX5_keeps_X4_hasLaw : GoodIn wsX5_keeps wsX4_hasLaw := goodIn_r _ [8, 9, 39, 40, 41, 42, 43, 44] (by decide +kernel) (by decide +kernel)
set_option maxRecDepth 20000 in
theorem gX5_keeps_X4_hasLaw : GoodIn wsX5_keeps (wsV RX5 118 RX4 yX4_hasLaw wsX4_hasLaw) := goodIn_app (goodIn_of _ (by decide +kernel)) ggX5_keeps_X4_hasLaw
set_option maxRecDepth 20000 in
theorem ggX5_keeps_X2_has : GoodIn wsX5_keeps wsX2_has := goodIn_r _ [14, 15, 45, 46, 47, 48] (by decide +kernel) (by decide +kernel)
set_option maxRecDepth 20000 in
theorem gX5_keeps_X2_has : GoodIn wsX5_keeps (wsV RX5 42 RX2 yX2_has wsX2_has) := goodIn_app (goodIn_of _ (by decide +kernel)) ggX5_keeps_X2_has
set_option maxRecDepth 20000 in
theorem ggX5_keeps_X5_isStuff : GoodIn wsX5_keeps wsX5_isStuff := goodIn_r _ [19] (by decide +kernel) (by decide +kernel)
set_option maxRecDepth 20000 in
theorem gX5_keeps_X5_isStuff : GoodIn wsX5_keeps (va_wsS RX5 58 yX5_isStuff wsX5_isStuff) := goodIn_app (goodIn_of _ (by decide +kernel)) ggX5_keeps_X5_isStuff
set_option maxRecDepth 20000 in
theorem ggX5_keeps_X2_at : GoodIn wsX5_keeps wsX2_at := goodIn_r _ [23, 15, 24, 25, 45, 46, 47, 48] (by decide +kernel) (by decide +kernel)
set_option maxRecDepth 20000 in
theorem gX5_keeps_X2_at : GoodIn wsX5_keeps (wsV RX5 46 RX2 yX2_at wsX2_at) := goodIn_app (goodIn_of _ (by decide +kernel)) ggX5_keeps_X2_at
set_option maxRecDepth 20000 in
theorem ggX5_keeps_X4_keptAt : GoodIn wsX5_keeps wsX4_keptAt := goodIn_r _ [29, 30, 31, 32, 33, 34, 21, 22, 13, 23, 15, 24, 25, 49, 50, 51, 52, 53, 54, 55, 56, 39, 40, 41, 42, 43, 44, 45, 46, 47, 48] (by decide +kernel) (by decide +kernel)
set_option maxRecDepth 20000 in
theorem gX5_keeps_X4_keptAt : GoodIn wsX5_keeps (wsV RX5 128 RX4 yX4_keptAt wsX4_keptAt) := goodIn_app (goodIn_of _ (by decide +kernel)) ggX5_keeps_X4_keptAt
theorem dX5_keeps_0 : decode cX5_keeps 0 = .ok (.aload_n 0, 1) := by decide +kernel
theorem dX5_keeps_1 : decode cX5_keeps 1 = .ok (.getfield 14, 3) := by decide +kernel
theorem dX5_keeps_4 : decode cX5_keeps 4 = .ok (.iload_n 1, 1) := by decide +kernel
theorem dX5_keeps_5 : decode cX5_keeps 5 = .ok (.invokevirtual 118, 3) := by decide +kernel
theorem dX5_keeps_8 : decode cX5_keeps 8 = .ok (.ifCond .eq 24, 3) := by decide +kernel
theorem dX5_keeps_11 : decode cX5_keeps 11 = .ok (.aload_n 0, 1) := by decide +kernel
theorem dX5_keeps_12 : decode cX5_keeps 12 = .ok (.getfield 14, 3) := by decide +kernel
theorem dX5_keeps_15 : decode cX5_keeps 15 = .ok (.getfield 28, 3) := by decide +kernel
theorem dX5_keeps_18 : decode cX5_keeps 18 = .ok (.iload_n 2, 1) := by decide +kernel
theorem dX5_keeps_19 : decode cX5_keeps 19 = .ok (.invokevirtual 42, 3) := by decide +kernel
theorem dX5_keeps_22 : decode cX5_keeps 22 = .ok (.ifCond .eq 10, 3) := by decide +kernel
theorem dX5_keeps_25 : decode cX5_keeps 25 = .ok (.iload_n 3, 1) := by decide +kernel
theorem dX5_keeps_26 : decode cX5_keeps 26 = .ok (.invokestatic 58, 3) := by decide +kernel
theorem dX5_keeps_29 : decode cX5_keeps 29 = .ok (.ifCond .ne 5, 3) := by decide +kernel
theorem dX5_keeps_32 : decode cX5_keeps 32 = .ok (.iconst (-1), 1) := by decide +kernel
theorem dX5_keeps_33 : decode cX5_keeps 33 = .ok (.ireturn, 1) := by decide +kernel
theorem dX5_keeps_34 : decode cX5_keeps 34 = .ok (.aload_n 0, 1) := by decide +kernel
theorem dX5_keeps_35 : decode cX5_keeps 35 = .ok (.getfield 14, 3) := by decide +kernel
theorem dX5_keeps_38 : decode cX5_keeps 38 = .ok (.aload_n 0, 1) := by decide +kernel
theorem dX5_keeps_39 : decode cX5_keeps 39 = .ok (.getfield 14, 3) := by decide +kernel
theorem dX5_keeps_42 : decode cX5_keeps 42 = .ok (.getfield 96, 3) := by decide +kernel
theorem dX5_keeps_45 : decode cX5_keeps 45 = .ok (.iload_n 1, 1) := by decide +kernel
theorem dX5_keeps_46 : decode cX5_keeps 46 = .ok (.aaload, 1) := by decide +kernel
theorem dX5_keeps_47 : decode cX5_keeps 47 = .ok (.iload_n 2, 1) := by decide +kernel
theorem dX5_keeps_48 : decode cX5_keeps 48 = .ok (.aload_n 0, 1) := by decide +kernel
theorem dX5_keeps_49 : decode cX5_keeps 49 = .ok (.getfield 14, 3) := by decide +kernel
theorem dX5_keeps_52 : decode cX5_keeps 52 = .ok (.getfield 28, 3) := by decide +kernel
theorem dX5_keeps_55 : decode cX5_keeps 55 = .ok (.iload_n 2, 1) := by decide +kernel
theorem dX5_keeps_56 : decode cX5_keeps 56 = .ok (.iconst 0, 1) := by decide +kernel
theorem dX5_keeps_57 : decode cX5_keeps 57 = .ok (.invokevirtual 46, 3) := by decide +kernel
theorem dX5_keeps_60 : decode cX5_keeps 60 = .ok (.invokevirtual 128, 3) := by decide +kernel
theorem dX5_keeps_63 : decode cX5_keeps 63 = .ok (.iload_n 3, 1) := by decide +kernel
theorem dX5_keeps_64 : decode cX5_keeps 64 = .ok (.ishr, 1) := by decide +kernel
theorem dX5_keeps_65 : decode cX5_keeps 65 = .ok (.iconst 1, 1) := by decide +kernel
theorem dX5_keeps_66 : decode cX5_keeps 66 = .ok (.iand, 1) := by decide +kernel
theorem dX5_keeps_67 : decode cX5_keeps 67 = .ok (.ireturn, 1) := by decide +kernel
set_option maxRecDepth 20000 in
theorem ggX5_tells_X4_hasLaw : GoodIn wsX5_tells wsX4_hasLaw := goodIn_r _ [8, 9, 78, 79, 80, 81, 82, 83] (by decide +kernel) (by decide +kernel)
set_option maxRecDepth 20000 in
theorem gX5_tells_X4_hasLaw : GoodIn wsX5_tells (wsV RX5 118 RX4 yX4_hasLaw wsX4_hasLaw) := goodIn_app (goodIn_of _ (by decide +kernel)) ggX5_tells_X4_hasLaw
set_option maxRecDepth 20000 in
theorem ggX5_tells_X2_has : GoodIn wsX5_tells wsX2_has := goodIn_r _ [14, 15, 84, 85, 86, 87] (by decide +kernel) (by decide +kernel)
set_option maxRecDepth 20000 in
theorem gX5_tells_X2_has : GoodIn wsX5_tells (wsV RX5 42 RX2 yX2_has wsX2_has) := goodIn_app (goodIn_of _ (by decide +kernel)) ggX5_tells_X2_has
set_option maxRecDepth 20000 in
theorem ggX5_tells_X4_toldNow : GoodIn wsX5_tells wsX4_toldNow := goodIn_r _ [19, 20, 21, 22, 23, 13, 24, 15, 25, 26, 27, 28, 29, 7, 30, 31, 32, 33, 5, 6, 8, 9, 34, 35, 36, 37, 38, 39, 40, 41, 42, 43, 44, 45, 46, 47, 48, 49, 50, 51, 52, 53, 54, 55, 56, 57, 58, 59, 60, 61, 62, 63, 64, 65, 66, 67, 68, 69, 70, 71, 72, 73, 78, 79, 80, 81, 82, 83, 84, 85, 86, 87, 88, 89, 90, 91, 92, 93, 94, 95] (by decide +kernel) (by decide +kernel)
set_option maxRecDepth 20000 in
theorem gX5_tells_X4_toldNow : GoodIn wsX5_tells (wsV RX5 132 RX4 yX4_toldNow wsX4_toldNow) := goodIn_app (goodIn_of _ (by decide +kernel)) ggX5_tells_X4_toldNow
theorem dX5_tells_0 : decode cX5_tells 0 = .ok (.aload_n 0, 1) := by decide +kernel
theorem dX5_tells_1 : decode cX5_tells 1 = .ok (.getfield 14, 3) := by decide +kernel
theorem dX5_tells_4 : decode cX5_tells 4 = .ok (.iload_n 1, 1) := by decide +kernel
theorem dX5_tells_5 : decode cX5_tells 5 = .ok (.invokevirtual 118, 3) := by decide +kernel
theorem dX5_tells_8 : decode cX5_tells 8 = .ok (.ifCond .eq 31, 3) := by decide +kernel
theorem dX5_tells_11 : decode cX5_tells 11 = .ok (.aload_n 0, 1) := by decide +kernel
theorem dX5_tells_12 : decode cX5_tells 12 = .ok (.getfield 14, 3) := by decide +kernel
theorem dX5_tells_15 : decode cX5_tells 15 = .ok (.getfield 28, 3) := by decide +kernel
theorem dX5_tells_18 : decode cX5_tells 18 = .ok (.iload_n 2, 1) := by decide +kernel
theorem dX5_tells_19 : decode cX5_tells 19 = .ok (.invokevirtual 42, 3) := by decide +kernel
theorem dX5_tells_22 : decode cX5_tells 22 = .ok (.ifCond .eq 17, 3) := by decide +kernel
theorem dX5_tells_25 : decode cX5_tells 25 = .ok (.aload_n 0, 1) := by decide +kernel
theorem dX5_tells_26 : decode cX5_tells 26 = .ok (.getfield 14, 3) := by decide +kernel
theorem dX5_tells_29 : decode cX5_tells 29 = .ok (.getfield 61, 3) := by decide +kernel
theorem dX5_tells_32 : decode cX5_tells 32 = .ok (.iload_n 3, 1) := by decide +kernel
theorem dX5_tells_33 : decode cX5_tells 33 = .ok (.invokevirtual 42, 3) := by decide +kernel
theorem dX5_tells_36 : decode cX5_tells 36 = .ok (.ifCond .ne 5, 3) := by decide +kernel
theorem dX5_tells_39 : decode cX5_tells 39 = .ok (.iconst (-1), 1) := by decide +kernel
theorem dX5_tells_40 : decode cX5_tells 40 = .ok (.ireturn, 1) := by decide +kernel
theorem dX5_tells_41 : decode cX5_tells 41 = .ok (.aload_n 0, 1) := by decide +kernel
theorem dX5_tells_42 : decode cX5_tells 42 = .ok (.getfield 14, 3) := by decide +kernel
theorem dX5_tells_45 : decode cX5_tells 45 = .ok (.iload_n 1, 1) := by decide +kernel
theorem dX5_tells_46 : decode cX5_tells 46 = .ok (.iload_n 2, 1) := by decide +kernel
theorem dX5_tells_47 : decode cX5_tells 47 = .ok (.iload_n 3, 1) := by decide +kernel
theorem dX5_tells_48 : decode cX5_tells 48 = .ok (.invokevirtual 132, 3) := by decide +kernel
theorem dX5_tells_51 : decode cX5_tells 51 = .ok (.ireturn, 1) := by decide +kernel
set_option maxRecDepth 20000 in
theorem ggX5_chance_X4_hasLaw : GoodIn wsX5_chance wsX4_hasLaw := goodIn_r _ [9, 10, 98, 99, 100, 101, 102, 103] (by decide +kernel) (by decide +kernel)
set_option maxRecDepth 20000 in
theorem gX5_chance_X4_hasLaw : GoodIn wsX5_chance (wsV RX5 118 RX4 yX4_hasLaw wsX4_hasLaw) := goodIn_app (goodIn_of _ (by decide +kernel)) ggX5_chance_X4_hasLaw
set_option maxRecDepth 20000 in
theorem ggX5_chance_X2_has : GoodIn wsX5_chance wsX2_has := goodIn_r _ [15, 16, 104, 105, 106, 107] (by decide +kernel) (by decide +kernel)
set_option maxRecDepth 20000 in
theorem gX5_chance_X2_has : GoodIn wsX5_chance (wsV RX5 42 RX2 yX2_has wsX2_has) := goodIn_app (goodIn_of _ (by decide +kernel)) ggX5_chance_X2_has
set_option maxRecDepth 20000 in
theorem ggX5_chance_X5_isPart : GoodIn wsX5_chance wsX5_isPart := goodIn_r _ [20] (by decide +kernel) (by decide +kernel)
set_option maxRecDepth 20000 in
theorem gX5_chance_X5_isPart : GoodIn wsX5_chance (va_wsS RX5 136 yX5_isPart wsX5_isPart) := goodIn_app (goodIn_of _ (by decide +kernel)) ggX5_chance_X5_isPart
set_option maxRecDepth 20000 in
theorem ggX5_chance_X4_chanceOf200 : GoodIn wsX5_chance wsX4_chanceOf200 := goodIn_r _ [24, 25, 26, 27, 6, 7, 8, 9, 10, 28, 29, 30, 31, 32, 33, 34, 35, 14, 36, 16, 37, 38, 39, 40, 41, 42, 43, 44, 45, 46, 47, 48, 49, 50, 51, 52, 53, 54, 55, 56, 57, 58, 59, 60, 61, 62, 63, 64, 65, 66, 67, 68, 69, 70, 71, 72, 73, 74, 75, 76, 77, 78, 79, 80, 81, 82, 83, 84, 98, 99, 100, 101, 102, 103, 108, 109, 110, 111, 112, 113, 114, 115, 104, 105, 106, 107] (by decide +kernel) (by decide +kernel)
set_option maxRecDepth 20000 in
theorem gX5_chance_X4_chanceOf200 : GoodIn wsX5_chance (wsV RX5 141 RX4 yX4_chanceOf200 wsX4_chanceOf200) := goodIn_app (goodIn_of _ (by decide +kernel)) ggX5_chance_X4_chanceOf200
set_option maxRecDepth 20000 in
theorem ggX5_chance_X5_lowest : GoodIn wsX5_chance wsX5_lowest := goodIn_r _ [87, 88, 89, 79, 90, 91, 92, 93] (by decide +kernel) (by decide +kernel)
set_option maxRecDepth 20000 in
theorem gX5_chance_X5_lowest : GoodIn wsX5_chance (va_wsS RX5 146 yX5_lowest wsX5_lowest) := goodIn_app (goodIn_of _ (by decide +kernel)) ggX5_chance_X5_lowest
theorem dX5_chance_0 : decode cX5_chance 0 = .ok (.aload_n 0, 1) := by decide +kernel
theorem dX5_chance_1 : decode cX5_chance 1 = .ok (.getfield 14, 3) := by decide +kernel
theorem dX5_chance_4 : decode cX5_chance 4 = .ok (.iload_n 1, 1) := by decide +kernel
theorem dX5_chance_5 : decode cX5_chance 5 = .ok (.invokevirtual 118, 3) := by decide +kernel
theorem dX5_chance_8 : decode cX5_chance 8 = .ok (.ifCond .eq 24, 3) := by decide +kernel
theorem dX5_chance_11 : decode cX5_chance 11 = .ok (.aload_n 0, 1) := by decide +kernel
theorem dX5_chance_12 : decode cX5_chance 12 = .ok (.getfield 14, 3) := by decide +kernel
theorem dX5_chance_15 : decode cX5_chance 15 = .ok (.getfield 72, 3) := by decide +kernel
theorem dX5_chance_18 : decode cX5_chance 18 = .ok (.iload_n 2, 1) := by decide +kernel
theorem dX5_chance_19 : decode cX5_chance 19 = .ok (.invokevirtual 42, 3) := by decide +kernel
theorem dX5_chance_22 : decode cX5_chance 22 = .ok (.ifCond .eq 10, 3) := by decide +kernel
theorem dX5_chance_25 : decode cX5_chance 25 = .ok (.iload_n 3, 1) := by decide +kernel
theorem dX5_chance_26 : decode cX5_chance 26 = .ok (.invokestatic 136, 3) := by decide +kernel
theorem dX5_chance_29 : decode cX5_chance 29 = .ok (.ifCond .ne 7, 3) := by decide +kernel
theorem dX5_chance_32 : decode cX5_chance 32 = .ok (.ldc2_w 139, 3) := by decide +kernel
theorem dX5_chance_35 : decode cX5_chance 35 = .ok (.lreturn, 1) := by decide +kernel
theorem dX5_chance_36 : decode cX5_chance 36 = .ok (.aload_n 0, 1) := by decide +kernel
theorem dX5_chance_37 : decode cX5_chance 37 = .ok (.getfield 14, 3) := by decide +kernel
theorem dX5_chance_40 : decode cX5_chance 40 = .ok (.iload_n 1, 1) := by decide +kernel
theorem dX5_chance_41 : decode cX5_chance 41 = .ok (.iload_n 2, 1) := by decide +kernel
theorem dX5_chance_42 : decode cX5_chance 42 = .ok (.invokevirtual 141, 3) := by decide +kernel
theorem dX5_chance_45 : decode cX5_chance 45 = .ok (.i2l, 1) := by decide +kernel
theorem dX5_chance_46 : decode cX5_chance 46 = .ok (.ldc2_w 144, 3) := by decide +kernel
theorem dX5_chance_49 : decode cX5_chance 49 = .ok (.iload_n 3, 1) := by decide +kernel
theorem dX5_chance_50 : decode cX5_chance 50 = .ok (.invokestatic 146, 3) := by decide +kernel
theorem dX5_chance_53 : decode cX5_chance 53 = .ok (.lreturn, 1) := by decide +kernel
set_option maxRecDepth 20000 in
theorem ggX5_odds_X4_hasLaw : GoodIn wsX5_odds wsX4_hasLaw := goodIn_r _ [8, 9, 112, 113, 114, 115, 116, 117] (by decide +kernel) (by decide +kernel)
set_option maxRecDepth 20000 in
theorem gX5_odds_X4_hasLaw : GoodIn wsX5_odds (wsV RX5 118 RX4 yX4_hasLaw wsX4_hasLaw) := goodIn_app (goodIn_of _ (by decide +kernel)) ggX5_odds_X4_hasLaw
set_option maxRecDepth 20000 in
theorem ggX5_odds_X4_isSet : GoodIn wsX5_odds wsX4_isSet := goodIn_r _ [13, 14, 15, 16, 17, 18, 19, 20, 21, 22, 23, 24, 25, 26, 112, 113, 114, 115, 116, 117, 118, 119, 120, 121] (by decide +kernel) (by decide +kernel)
set_option maxRecDepth 20000 in
theorem gX5_odds_X4_isSet : GoodIn wsX5_odds (wsV RX5 150 RX4 yX4_isSet wsX4_isSet) := goodIn_app (goodIn_of _ (by decide +kernel)) ggX5_odds_X4_isSet
set_option maxRecDepth 20000 in
theorem ggX5_odds_X5_isPart : GoodIn wsX5_odds wsX5_isPart := goodIn_r _ [30] (by decide +kernel) (by decide +kernel)
set_option maxRecDepth 20000 in
theorem gX5_odds_X5_isPart : GoodIn wsX5_odds (va_wsS RX5 136 yX5_isPart wsX5_isPart) := goodIn_app (goodIn_of _ (by decide +kernel)) ggX5_odds_X5_isPart
set_option maxRecDepth 20000 in
theorem ggX5_odds_J6_bitCount_0f7a4 : GoodIn wsX5_odds wsJ6_bitCount_0f7a4 := goodIn_r _ [23, 24, 25, 26] (by decide +kernel) (by decide +kernel)
set_option maxRecDepth 20000 in
theorem gX5_odds_J6_bitCount_0f7a4 : GoodIn wsX5_odds (va_wsS RX5 153 yJ6_bitCount_0f7a4 wsJ6_bitCount_0f7a4) := goodIn_app (goodIn_of _ (by decide +kernel)) ggX5_odds_J6_bitCount_0f7a4
set_option maxRecDepth 20000 in
theorem ggX5_odds_X4_oddsAbove : GoodIn wsX5_odds wsX4_oddsAbove := goodIn_r _ [35, 36, 37, 38, 7, 39, 40, 41, 42, 5, 6, 8, 9, 43, 44, 45, 46, 14, 47, 48, 49, 50, 51, 52, 53, 54, 55, 56, 57, 58, 59, 60, 61, 62, 63, 64, 65, 66, 67, 68, 69, 70, 71, 72, 73, 74, 75, 76, 77, 78, 79, 80, 81, 15, 82, 83, 84, 85, 86, 87, 88, 89, 90, 91, 92, 93, 18, 94, 95, 96, 97, 98, 112, 113, 114, 115, 116, 117, 122, 123, 124, 125, 126, 127, 128, 129, 118, 119, 120, 121] (by decide +kernel) (by decide +kernel)
set_option maxRecDepth 20000 in
theorem gX5_odds_X4_oddsAbove : GoodIn wsX5_odds (wsV RX5 158 RX4 yX4_oddsAbove wsX4_oddsAbove) := goodIn_app (goodIn_of _ (by decide +kernel)) ggX5_odds_X4_oddsAbove
set_option maxRecDepth 20000 in
theorem ggX5_odds_X5_lowest : GoodIn wsX5_odds wsX5_lowest := goodIn_r _ [101, 102, 103, 18, 104, 105, 106, 107] (by decide +kernel) (by decide +kernel)
set_option maxRecDepth 20000 in
theorem gX5_odds_X5_lowest : GoodIn wsX5_odds (va_wsS RX5 146 yX5_lowest wsX5_lowest) := goodIn_app (goodIn_of _ (by decide +kernel)) ggX5_odds_X5_lowest
theorem dX5_odds_0 : decode cX5_odds 0 = .ok (.aload_n 0, 1) := by decide +kernel
theorem dX5_odds_1 : decode cX5_odds 1 = .ok (.getfield 14, 3) := by decide +kernel
theorem dX5_odds_4 : decode cX5_odds 4 = .ok (.iload_n 1, 1) := by decide +kernel
theorem dX5_odds_5 : decode cX5_odds 5 = .ok (.invokevirtual 118, 3) := by decide +kernel
theorem dX5_odds_8 : decode cX5_odds 8 = .ok (.ifCond .eq 21, 3) := by decide +kernel
theorem dX5_odds_11 : decode cX5_odds 11 = .ok (.aload_n 0, 1) := by decide +kernel
theorem dX5_odds_12 : decode cX5_odds 12 = .ok (.getfield 14, 3) := by decide +kernel
theorem dX5_odds_15 : decode cX5_odds 15 = .ok (.iload_n 2, 1) := by decide +kernel
theorem dX5_odds_16 : decode cX5_odds 16 = .ok (.invokevirtual 150, 3) := by decide +kernel
theorem dX5_odds_19 : decode cX5_odds 19 = .ok (.ifCond .eq 10, 3) := by decide +kernel
theorem dX5_odds_22 : decode cX5_odds 22 = .ok (.iload_n 3, 1) := by decide +kernel
theorem dX5_odds_23 : decode cX5_odds 23 = .ok (.invokestatic 136, 3) := by decide +kernel
theorem dX5_odds_26 : decode cX5_odds 26 = .ok (.ifCond .ne 7, 3) := by decide +kernel
theorem dX5_odds_29 : decode cX5_odds 29 = .ok (.ldc2_w 139, 3) := by decide +kernel
theorem dX5_odds_32 : decode cX5_odds 32 = .ok (.lreturn, 1) := by decide +kernel
theorem dX5_odds_33 : decode cX5_odds 33 = .ok (.lconst 1, 1) := by decide +kernel
theorem dX5_odds_34 : decode cX5_odds 34 = .ok (.lstore 4, 2) := by decide +kernel
theorem dX5_odds_36 : decode cX5_odds 36 = .ok (.iconst 0, 1) := by decide +kernel
theorem dX5_odds_37 : decode cX5_odds 37 = .ok (.istore 6, 2) := by decide +kernel
theorem dX5_odds_39 : decode cX5_odds 39 = .ok (.iload 6, 2) := by decide +kernel
theorem dX5_odds_41 : decode cX5_odds 41 = .ok (.iload_n 2, 1) := by decide +kernel
theorem dX5_odds_42 : decode cX5_odds 42 = .ok (.invokestatic 153, 3) := by decide +kernel
theorem dX5_odds_45 : decode cX5_odds 45 = .ok (.if_icmp .ge 17, 3) := by decide +kernel
theorem dX5_odds_48 : decode cX5_odds 48 = .ok (.lload 4, 2) := by decide +kernel
theorem dX5_odds_50 : decode cX5_odds 50 = .ok (.ldc2_w 144, 3) := by decide +kernel
theorem dX5_odds_53 : decode cX5_odds 53 = .ok (.lmul, 1) := by decide +kernel
theorem dX5_odds_54 : decode cX5_odds 54 = .ok (.lstore 4, 2) := by decide +kernel
theorem dX5_odds_56 : decode cX5_odds 56 = .ok (.iinc 6 1, 3) := by decide +kernel
theorem dX5_odds_59 : decode cX5_odds 59 = .ok (.goto (-20), 3) := by decide +kernel
theorem dX5_odds_62 : decode cX5_odds 62 = .ok (.aload_n 0, 1) := by decide +kernel
theorem dX5_odds_63 : decode cX5_odds 63 = .ok (.getfield 14, 3) := by decide +kernel
theorem dX5_odds_66 : decode cX5_odds 66 = .ok (.iload_n 1, 1) := by decide +kernel
theorem dX5_odds_67 : decode cX5_odds 67 = .ok (.iload_n 2, 1) := by decide +kernel
theorem dX5_odds_68 : decode cX5_odds 68 = .ok (.invokevirtual 158, 3) := by decide +kernel
theorem dX5_odds_71 : decode cX5_odds 71 = .ok (.lload 4, 2) := by decide +kernel
theorem dX5_odds_73 : decode cX5_odds 73 = .ok (.iload_n 3, 1) := by decide +kernel
theorem dX5_odds_74 : decode cX5_odds 74 = .ok (.invokestatic 146, 3) := by decide +kernel
theorem dX5_odds_77 : decode cX5_odds 77 = .ok (.lreturn, 1) := by decide +kernel
set_option maxRecDepth 20000 in
theorem ggX5_cannot_X4_hasLaw : GoodIn wsX5_cannot wsX4_hasLaw := goodIn_r _ [6, 7, 82, 83, 84, 85, 86, 87] (by decide +kernel) (by decide +kernel)
set_option maxRecDepth 20000 in
theorem gX5_cannot_X4_hasLaw : GoodIn wsX5_cannot (wsV RX5 118 RX4 yX4_hasLaw wsX4_hasLaw) := goodIn_app (goodIn_of _ (by decide +kernel)) ggX5_cannot_X4_hasLaw
set_option maxRecDepth 20000 in
theorem ggX5_cannot_X4_firstImpossible : GoodIn wsX5_cannot wsX4_firstImpossible := goodIn_r _ [11, 12, 13, 14, 15, 16, 5, 17, 18, 19, 20, 3, 4, 6, 7, 21, 22, 23, 24, 25, 26, 27, 28, 29, 30, 31, 32, 33, 34, 35, 36, 37, 38, 39, 40, 41, 42, 43, 44, 45, 46, 47, 48, 49, 50, 51, 52, 53, 54, 55, 56, 57, 58, 59, 60, 61, 62, 63, 64, 65, 66, 67, 68, 69, 70, 71, 72, 73, 74, 75, 76, 77, 82, 83, 84, 85, 86, 87, 88, 89, 90, 91, 92, 93, 94, 95, 96, 97, 98, 99] (by decide +kernel) (by decide +kernel)
set_option maxRecDepth 20000 in
theorem gX5_cannot_X4_firstImpossible : GoodIn wsX5_cannot (wsV RX5 162 RX4 yX4_firstImpossible wsX4_firstImpossible) := goodIn_app (goodIn_of _ (by decide +kernel)) ggX5_cannot_X4_firstImpossible
theorem dX5_cannot_0 : decode cX5_cannot 0 = .ok (.aload_n 0, 1) := by decide +kernel
theorem dX5_cannot_1 : decode cX5_cannot 1 = .ok (.getfield 14, 3) := by decide +kernel
theorem dX5_cannot_4 : decode cX5_cannot 4 = .ok (.iload_n 1, 1) := by decide +kernel
theorem dX5_cannot_5 : decode cX5_cannot 5 = .ok (.invokevirtual 118, 3) := by decide +kernel
theorem dX5_cannot_8 : decode cX5_cannot 8 = .ok (.ifCond .eq 14, 3) := by decide +kernel
theorem dX5_cannot_11 : decode cX5_cannot 11 = .ok (.aload_n 0, 1) := by decide +kernel
theorem dX5_cannot_12 : decode cX5_cannot 12 = .ok (.getfield 14, 3) := by decide +kernel
theorem dX5_cannot_15 : decode cX5_cannot 15 = .ok (.iload_n 1, 1) := by decide +kernel
theorem dX5_cannot_16 : decode cX5_cannot 16 = .ok (.invokevirtual 162, 3) := by decide +kernel
theorem dX5_cannot_19 : decode cX5_cannot 19 = .ok (.goto 4, 3) := by decide +kernel
theorem dX5_cannot_22 : decode cX5_cannot 22 = .ok (.iconst (-1), 1) := by decide +kernel
theorem dX5_cannot_23 : decode cX5_cannot 23 = .ok (.ireturn, 1) := by decide +kernel
set_option maxRecDepth 20000 in
theorem ggX5_right_X4_hasLaw : GoodIn wsX5_right wsX4_hasLaw := goodIn_r _ [6, 7, 77, 78, 79, 80, 81, 82] (by decide +kernel) (by decide +kernel)
set_option maxRecDepth 20000 in
theorem gX5_right_X4_hasLaw : GoodIn wsX5_right (wsV RX5 118 RX4 yX4_hasLaw wsX4_hasLaw) := goodIn_app (goodIn_of _ (by decide +kernel)) ggX5_right_X4_hasLaw
set_option maxRecDepth 20000 in
theorem ggX5_right_X4_rightOf : GoodIn wsX5_right wsX4_rightOf := goodIn_r _ [11, 12, 13, 14, 15, 16, 17, 18, 19, 20, 21, 22, 23, 24, 5, 25, 26, 27, 28, 29, 30, 31, 32, 3, 4, 6, 7, 33, 34, 35, 36, 37, 38, 39, 40, 41, 42, 43, 44, 45, 46, 47, 48, 49, 50, 51, 52, 53, 54, 55, 56, 57, 58, 59, 60, 61, 62, 63, 64, 65, 66, 67, 68, 69, 70, 71, 72, 77, 78, 79, 80, 81, 82, 83, 84, 85, 86, 87, 88, 89, 90, 91, 92, 93, 94] (by decide +kernel) (by decide +kernel)
set_option maxRecDepth 20000 in
theorem gX5_right_X4_rightOf : GoodIn wsX5_right (wsV RX5 165 RX4 yX4_rightOf wsX4_rightOf) := goodIn_app (goodIn_of _ (by decide +kernel)) ggX5_right_X4_rightOf
theorem dX5_right_0 : decode cX5_right 0 = .ok (.aload_n 0, 1) := by decide +kernel
theorem dX5_right_1 : decode cX5_right 1 = .ok (.getfield 14, 3) := by decide +kernel
theorem dX5_right_4 : decode cX5_right 4 = .ok (.iload_n 1, 1) := by decide +kernel
theorem dX5_right_5 : decode cX5_right 5 = .ok (.invokevirtual 118, 3) := by decide +kernel
theorem dX5_right_8 : decode cX5_right 8 = .ok (.ifCond .eq 15, 3) := by decide +kernel
theorem dX5_right_11 : decode cX5_right 11 = .ok (.aload_n 0, 1) := by decide +kernel
theorem dX5_right_12 : decode cX5_right 12 = .ok (.getfield 14, 3) := by decide +kernel
theorem dX5_right_15 : decode cX5_right 15 = .ok (.iload_n 1, 1) := by decide +kernel
theorem dX5_right_16 : decode cX5_right 16 = .ok (.iconst (-1), 1) := by decide +kernel
theorem dX5_right_17 : decode cX5_right 17 = .ok (.invokevirtual 165, 3) := by decide +kernel
theorem dX5_right_20 : decode cX5_right 20 = .ok (.goto 4, 3) := by decide +kernel
theorem dX5_right_23 : decode cX5_right 23 = .ok (.iconst (-1), 1) := by decide +kernel
theorem dX5_right_24 : decode cX5_right 24 = .ok (.ireturn, 1) := by decide +kernel
set_option maxRecDepth 20000 in
theorem ggX5_likeliest_X4_isSet : GoodIn wsX5_likeliest wsX4_isSet := goodIn_r _ [8, 9, 10, 11, 12, 13, 14, 15, 16, 17, 18, 19, 20, 21, 97, 98, 99, 100, 101, 102, 103, 104, 105, 106] (by decide +kernel) (by decide +kernel)
set_option maxRecDepth 20000 in
theorem gX5_likeliest_X4_isSet : GoodIn wsX5_likeliest (wsV RX5 150 RX4 yX4_isSet wsX4_isSet) := goodIn_app (goodIn_of _ (by decide +kernel)) ggX5_likeliest_X4_isSet
set_option maxRecDepth 20000 in
theorem ggX5_likeliest_X4_oddsAbove : GoodIn wsX5_likeliest wsX4_oddsAbove := goodIn_r _ [25, 26, 27, 28, 7, 29, 30, 31, 32, 33, 34, 35, 36, 37, 38, 39, 40, 9, 41, 42, 43, 44, 45, 46, 47, 48, 49, 50, 51, 52, 53, 54, 55, 56, 57, 58, 59, 60, 61, 62, 63, 64, 65, 66, 67, 68, 69, 70, 71, 72, 73, 74, 75, 10, 76, 77, 78, 79, 80, 81, 82, 83, 84, 85, 86, 87, 13, 88, 89, 90, 91, 92, 97, 98, 99, 100, 101, 102, 107, 108, 109, 110, 111, 112, 113, 114, 103, 104, 105, 106] (by decide +kernel) (by decide +kernel)
set_option maxRecDepth 20000 in
theorem gX5_likeliest_X4_oddsAbove : GoodIn wsX5_likeliest (wsV RX5 158 RX4 yX4_oddsAbove wsX4_oddsAbove) := goodIn_app (goodIn_of _ (by decide +kernel)) ggX5_likeliest_X4_oddsAbove
theorem dX5_likeliest_0 : decode cX5_likeliest 0 = .ok (.aload_n 0, 1) := by decide +kernel
theorem dX5_likeliest_1 : decode cX5_likeliest 1 = .ok (.getfield 14, 3) := by decide +kernel
theorem dX5_likeliest_4 : decode cX5_likeliest 4 = .ok (.iload_n 1, 1) := by decide +kernel
theorem dX5_likeliest_5 : decode cX5_likeliest 5 = .ok (.invokevirtual 150, 3) := by decide +kernel
theorem dX5_likeliest_8 : decode cX5_likeliest 8 = .ok (.ifCond .ne 6, 3) := by decide +kernel
theorem dX5_likeliest_11 : decode cX5_likeliest 11 = .ok (.bipush (-2), 2) := by decide +kernel
theorem dX5_likeliest_13 : decode cX5_likeliest 13 = .ok (.ireturn, 1) := by decide +kernel
theorem dX5_likeliest_14 : decode cX5_likeliest 14 = .ok (.bipush (-5), 2) := by decide +kernel
theorem dX5_likeliest_16 : decode cX5_likeliest 16 = .ok (.istore_n 2, 1) := by decide +kernel
theorem dX5_likeliest_17 : decode cX5_likeliest 17 = .ok (.ldc2_w 168, 3) := by decide +kernel
theorem dX5_likeliest_20 : decode cX5_likeliest 20 = .ok (.lstore_n 3, 1) := by decide +kernel
theorem dX5_likeliest_21 : decode cX5_likeliest 21 = .ok (.iconst 0, 1) := by decide +kernel
theorem dX5_likeliest_22 : decode cX5_likeliest 22 = .ok (.istore 5, 2) := by decide +kernel
theorem dX5_likeliest_24 : decode cX5_likeliest 24 = .ok (.iload 5, 2) := by decide +kernel
theorem dX5_likeliest_26 : decode cX5_likeliest 26 = .ok (.aload_n 0, 1) := by decide +kernel
theorem dX5_likeliest_27 : decode cX5_likeliest 27 = .ok (.getfield 14, 3) := by decide +kernel
theorem dX5_likeliest_30 : decode cX5_likeliest 30 = .ok (.getfield 93, 3) := by decide +kernel
theorem dX5_likeliest_33 : decode cX5_likeliest 33 = .ok (.if_icmp .ge 34, 3) := by decide +kernel
theorem dX5_likeliest_36 : decode cX5_likeliest 36 = .ok (.aload_n 0, 1) := by decide +kernel
theorem dX5_likeliest_37 : decode cX5_likeliest 37 = .ok (.getfield 14, 3) := by decide +kernel
theorem dX5_likeliest_40 : decode cX5_likeliest 40 = .ok (.iload 5, 2) := by decide +kernel
theorem dX5_likeliest_42 : decode cX5_likeliest 42 = .ok (.iload_n 1, 1) := by decide +kernel
theorem dX5_likeliest_43 : decode cX5_likeliest 43 = .ok (.invokevirtual 158, 3) := by decide +kernel
theorem dX5_likeliest_46 : decode cX5_likeliest 46 = .ok (.lstore 6, 2) := by decide +kernel
theorem dX5_likeliest_48 : decode cX5_likeliest 48 = .ok (.lload 6, 2) := by decide +kernel
theorem dX5_likeliest_50 : decode cX5_likeliest 50 = .ok (.lload_n 3, 1) := by decide +kernel
theorem dX5_likeliest_51 : decode cX5_likeliest 51 = .ok (.lcmp, 1) := by decide +kernel
theorem dX5_likeliest_52 : decode cX5_likeliest 52 = .ok (.ifCond .le 9, 3) := by decide +kernel
theorem dX5_likeliest_55 : decode cX5_likeliest 55 = .ok (.lload 6, 2) := by decide +kernel
theorem dX5_likeliest_57 : decode cX5_likeliest 57 = .ok (.lstore_n 3, 1) := by decide +kernel
theorem dX5_likeliest_58 : decode cX5_likeliest 58 = .ok (.iload 5, 2) := by decide +kernel
theorem dX5_likeliest_60 : decode cX5_likeliest 60 = .ok (.istore_n 2, 1) := by decide +kernel
theorem dX5_likeliest_61 : decode cX5_likeliest 61 = .ok (.iinc 5 1, 3) := by decide +kernel
theorem dX5_likeliest_64 : decode cX5_likeliest 64 = .ok (.goto (-40), 3) := by decide +kernel
theorem dX5_likeliest_67 : decode cX5_likeliest 67 = .ok (.iload_n 2, 1) := by decide +kernel
theorem dX5_likeliest_68 : decode cX5_likeliest 68 = .ok (.ireturn, 1) := by decide +kernel
set_option maxRecDepth 20000 in
theorem ggX5_rule_X2_has : GoodIn wsX5_rule wsX2_has := goodIn_r _ [7, 8, 95, 96, 97, 98] (by decide +kernel) (by decide +kernel)
set_option maxRecDepth 20000 in
theorem gX5_rule_X2_has : GoodIn wsX5_rule (wsV RX5 42 RX2 yX2_has wsX2_has) := goodIn_app (goodIn_of _ (by decide +kernel)) ggX5_rule_X2_has
set_option maxRecDepth 20000 in
theorem ggX5_rule_X4_ruleOf : GoodIn wsX5_rule wsX4_ruleOf := goodIn_r _ [13, 14, 15, 16, 17, 12, 18, 19, 20, 21, 22, 23, 6, 24, 8, 25, 26, 27, 28, 29, 30, 31, 32, 33, 34, 35, 36, 37, 38, 39, 40, 41, 42, 43, 44, 45, 46, 47, 48, 49, 50, 51, 52, 53, 54, 55, 56, 57, 58, 59, 60, 61, 62, 63, 64, 65, 66, 67, 68, 69, 70, 71, 72, 73, 74, 75, 76, 77, 78, 79, 80, 81, 82, 83, 84, 89, 90, 91, 92, 93, 94, 95, 96, 97, 98, 99, 100, 101, 102, 103, 104, 105, 106] (by decide +kernel) (by decide +kernel)
set_option maxRecDepth 20000 in
theorem gX5_rule_X4_ruleOf : GoodIn wsX5_rule (wsV RX5 170 RX4 yX4_ruleOf wsX4_ruleOf) := goodIn_app (goodIn_of _ (by decide +kernel)) ggX5_rule_X4_ruleOf
theorem dX5_rule_0 : decode cX5_rule 0 = .ok (.aload_n 0, 1) := by decide +kernel
theorem dX5_rule_1 : decode cX5_rule 1 = .ok (.getfield 14, 3) := by decide +kernel
theorem dX5_rule_4 : decode cX5_rule 4 = .ok (.getfield 28, 3) := by decide +kernel
theorem dX5_rule_7 : decode cX5_rule 7 = .ok (.iload_n 1, 1) := by decide +kernel
theorem dX5_rule_8 : decode cX5_rule 8 = .ok (.invokevirtual 42, 3) := by decide +kernel
theorem dX5_rule_11 : decode cX5_rule 11 = .ok (.ifCond .eq 14, 3) := by decide +kernel
theorem dX5_rule_14 : decode cX5_rule 14 = .ok (.aload_n 0, 1) := by decide +kernel
theorem dX5_rule_15 : decode cX5_rule 15 = .ok (.getfield 14, 3) := by decide +kernel
theorem dX5_rule_18 : decode cX5_rule 18 = .ok (.iload_n 1, 1) := by decide +kernel
theorem dX5_rule_19 : decode cX5_rule 19 = .ok (.invokevirtual 170, 3) := by decide +kernel
theorem dX5_rule_22 : decode cX5_rule 22 = .ok (.goto 4, 3) := by decide +kernel
theorem dX5_rule_25 : decode cX5_rule 25 = .ok (.iconst (-1), 1) := by decide +kernel
theorem dX5_rule_26 : decode cX5_rule 26 = .ok (.ireturn, 1) := by decide +kernel
set_option maxRecDepth 20000 in
theorem ggX5_parts_X4_hasLaw : GoodIn wsX5_parts wsX4_hasLaw := goodIn_r _ [6, 7, 76, 77, 78, 79, 80, 81] (by decide +kernel) (by decide +kernel)
set_option maxRecDepth 20000 in
theorem gX5_parts_X4_hasLaw : GoodIn wsX5_parts (wsV RX5 118 RX4 yX4_hasLaw wsX4_hasLaw) := goodIn_app (goodIn_of _ (by decide +kernel)) ggX5_parts_X4_hasLaw
set_option maxRecDepth 20000 in
theorem ggX5_parts_X4_partings : GoodIn wsX5_parts wsX4_partings := goodIn_r _ [11, 12, 13, 14, 15, 16, 17, 5, 18, 19, 20, 21, 22, 23, 24, 25, 26, 27, 28, 29, 30, 31, 32, 3, 4, 6, 7, 33, 34, 35, 36, 37, 38, 39, 40, 41, 42, 43, 44, 45, 46, 47, 48, 49, 50, 51, 52, 53, 54, 55, 56, 57, 58, 59, 60, 61, 62, 63, 64, 65, 66, 67, 68, 69, 70, 71, 76, 77, 78, 79, 80, 81, 82, 83, 84, 85, 86, 87, 88, 89, 90, 91, 92, 93] (by decide +kernel) (by decide +kernel)
set_option maxRecDepth 20000 in
theorem gX5_parts_X4_partings : GoodIn wsX5_parts (wsV RX5 173 RX4 yX4_partings wsX4_partings) := goodIn_app (goodIn_of _ (by decide +kernel)) ggX5_parts_X4_partings
theorem dX5_parts_0 : decode cX5_parts 0 = .ok (.aload_n 0, 1) := by decide +kernel
theorem dX5_parts_1 : decode cX5_parts 1 = .ok (.getfield 14, 3) := by decide +kernel
theorem dX5_parts_4 : decode cX5_parts 4 = .ok (.iload_n 1, 1) := by decide +kernel
theorem dX5_parts_5 : decode cX5_parts 5 = .ok (.invokevirtual 118, 3) := by decide +kernel
theorem dX5_parts_8 : decode cX5_parts 8 = .ok (.ifCond .eq 26, 3) := by decide +kernel
theorem dX5_parts_11 : decode cX5_parts 11 = .ok (.aload_n 0, 1) := by decide +kernel
theorem dX5_parts_12 : decode cX5_parts 12 = .ok (.getfield 14, 3) := by decide +kernel
theorem dX5_parts_15 : decode cX5_parts 15 = .ok (.iload_n 2, 1) := by decide +kernel
theorem dX5_parts_16 : decode cX5_parts 16 = .ok (.invokevirtual 118, 3) := by decide +kernel
theorem dX5_parts_19 : decode cX5_parts 19 = .ok (.ifCond .eq 15, 3) := by decide +kernel
theorem dX5_parts_22 : decode cX5_parts 22 = .ok (.aload_n 0, 1) := by decide +kernel
theorem dX5_parts_23 : decode cX5_parts 23 = .ok (.getfield 14, 3) := by decide +kernel
theorem dX5_parts_26 : decode cX5_parts 26 = .ok (.iload_n 1, 1) := by decide +kernel
theorem dX5_parts_27 : decode cX5_parts 27 = .ok (.iload_n 2, 1) := by decide +kernel
theorem dX5_parts_28 : decode cX5_parts 28 = .ok (.invokevirtual 173, 3) := by decide +kernel
theorem dX5_parts_31 : decode cX5_parts 31 = .ok (.goto 4, 3) := by decide +kernel
theorem dX5_parts_34 : decode cX5_parts 34 = .ok (.iconst (-1), 1) := by decide +kernel
theorem dX5_parts_35 : decode cX5_parts 35 = .ok (.ireturn, 1) := by decide +kernel
set_option maxRecDepth 20000 in
theorem ggX5_next_X2_has : GoodIn wsX5_next wsX2_has := goodIn_r _ [7, 8, 90, 91, 92, 93] (by decide +kernel) (by decide +kernel)
set_option maxRecDepth 20000 in
theorem gX5_next_X2_has : GoodIn wsX5_next (wsV RX5 42 RX2 yX2_has wsX2_has) := goodIn_app (goodIn_of _ (by decide +kernel)) ggX5_next_X2_has
set_option maxRecDepth 20000 in
theorem ggX5_next_X4_bestAsking : GoodIn wsX5_next wsX4_bestAsking := goodIn_r _ [13, 14, 15, 16, 17, 18, 19, 12, 20, 21, 22, 23, 24, 25, 26, 27, 28, 29, 30, 31, 32, 6, 33, 8, 34, 35, 36, 37, 38, 39, 40, 41, 42, 43, 44, 45, 46, 47, 48, 49, 50, 51, 52, 53, 54, 55, 56, 57, 58, 59, 60, 61, 62, 63, 64, 65, 66, 67, 68, 69, 70, 71, 72, 73, 74, 75, 76, 77, 78, 79, 84, 85, 86, 87, 88, 89, 90, 91, 92, 93, 94, 95, 96, 97, 98, 99, 100, 101] (by decide +kernel) (by decide +kernel)
set_option maxRecDepth 20000 in
theorem gX5_next_X4_bestAsking : GoodIn wsX5_next (wsV RX5 176 RX4 yX4_bestAsking wsX4_bestAsking) := goodIn_app (goodIn_of _ (by decide +kernel)) ggX5_next_X4_bestAsking
theorem dX5_next_0 : decode cX5_next 0 = .ok (.aload_n 0, 1) := by decide +kernel
theorem dX5_next_1 : decode cX5_next 1 = .ok (.getfield 14, 3) := by decide +kernel
theorem dX5_next_4 : decode cX5_next 4 = .ok (.getfield 28, 3) := by decide +kernel
theorem dX5_next_7 : decode cX5_next 7 = .ok (.iload_n 1, 1) := by decide +kernel
theorem dX5_next_8 : decode cX5_next 8 = .ok (.invokevirtual 42, 3) := by decide +kernel
theorem dX5_next_11 : decode cX5_next 11 = .ok (.ifCond .eq 14, 3) := by decide +kernel
theorem dX5_next_14 : decode cX5_next 14 = .ok (.aload_n 0, 1) := by decide +kernel
theorem dX5_next_15 : decode cX5_next 15 = .ok (.getfield 14, 3) := by decide +kernel
theorem dX5_next_18 : decode cX5_next 18 = .ok (.iload_n 1, 1) := by decide +kernel
theorem dX5_next_19 : decode cX5_next 19 = .ok (.invokevirtual 176, 3) := by decide +kernel
theorem dX5_next_22 : decode cX5_next 22 = .ok (.goto 4, 3) := by decide +kernel
theorem dX5_next_25 : decode cX5_next 25 = .ok (.iconst (-1), 1) := by decide +kernel
theorem dX5_next_26 : decode cX5_next 26 = .ok (.ireturn, 1) := by decide +kernel
set_option maxRecDepth 20000 in
theorem ggX5_moves_X5_isPart : GoodIn wsX5_moves wsX5_isPart := goodIn_r _ [6] (by decide +kernel) (by decide +kernel)
set_option maxRecDepth 20000 in
theorem gX5_moves_X5_isPart : GoodIn wsX5_moves (va_wsS RX5 136 yX5_isPart wsX5_isPart) := goodIn_app (goodIn_of _ (by decide +kernel)) ggX5_moves_X5_isPart
set_option maxRecDepth 20000 in
theorem ggX5_moves_X4_shareLess : GoodIn wsX5_moves wsX4_shareLess := goodIn_r _ [11, 12, 13, 14, 15, 16, 17, 18, 10, 19, 20, 21, 22, 23, 24, 25, 26, 27, 28, 29, 30, 31, 32, 33, 34, 35, 36, 37, 38, 39, 5, 40, 41, 42, 43, 44, 49, 50, 51, 52, 53, 54, 55, 56, 57, 58] (by decide +kernel) (by decide +kernel)
set_option maxRecDepth 20000 in
theorem gX5_moves_X4_shareLess : GoodIn wsX5_moves (wsV RX5 179 RX4 yX4_shareLess wsX4_shareLess) := goodIn_app (goodIn_of _ (by decide +kernel)) ggX5_moves_X4_shareLess
theorem dX5_moves_0 : decode cX5_moves 0 = .ok (.iload_n 1, 1) := by decide +kernel
theorem dX5_moves_1 : decode cX5_moves 1 = .ok (.ifCond .lt 15, 3) := by decide +kernel
theorem dX5_moves_4 : decode cX5_moves 4 = .ok (.iload_n 1, 1) := by decide +kernel
theorem dX5_moves_5 : decode cX5_moves 5 = .ok (.iconst 1, 1) := by decide +kernel
theorem dX5_moves_6 : decode cX5_moves 6 = .ok (.if_icmp .gt 10, 3) := by decide +kernel
theorem dX5_moves_9 : decode cX5_moves 9 = .ok (.iload_n 2, 1) := by decide +kernel
theorem dX5_moves_10 : decode cX5_moves 10 = .ok (.invokestatic 136, 3) := by decide +kernel
theorem dX5_moves_13 : decode cX5_moves 13 = .ok (.ifCond .ne 7, 3) := by decide +kernel
theorem dX5_moves_16 : decode cX5_moves 16 = .ok (.ldc2_w 139, 3) := by decide +kernel
theorem dX5_moves_19 : decode cX5_moves 19 = .ok (.lreturn, 1) := by decide +kernel
theorem dX5_moves_20 : decode cX5_moves 20 = .ok (.iload_n 1, 1) := by decide +kernel
theorem dX5_moves_21 : decode cX5_moves 21 = .ok (.ifCond .ne 18, 3) := by decide +kernel
theorem dX5_moves_24 : decode cX5_moves 24 = .ok (.aload_n 0, 1) := by decide +kernel
theorem dX5_moves_25 : decode cX5_moves 25 = .ok (.getfield 14, 3) := by decide +kernel
theorem dX5_moves_28 : decode cX5_moves 28 = .ok (.iconst 0, 1) := by decide +kernel
theorem dX5_moves_29 : decode cX5_moves 29 = .ok (.iconst 2, 1) := by decide +kernel
theorem dX5_moves_30 : decode cX5_moves 30 = .ok (.iconst 0, 1) := by decide +kernel
theorem dX5_moves_31 : decode cX5_moves 31 = .ok (.iconst 1, 1) := by decide +kernel
theorem dX5_moves_32 : decode cX5_moves 32 = .ok (.iload_n 2, 1) := by decide +kernel
theorem dX5_moves_33 : decode cX5_moves 33 = .ok (.invokevirtual 179, 3) := by decide +kernel
theorem dX5_moves_36 : decode cX5_moves 36 = .ok (.goto 15, 3) := by decide +kernel
theorem dX5_moves_39 : decode cX5_moves 39 = .ok (.aload_n 0, 1) := by decide +kernel
theorem dX5_moves_40 : decode cX5_moves 40 = .ok (.getfield 14, 3) := by decide +kernel
theorem dX5_moves_43 : decode cX5_moves 43 = .ok (.iconst 1, 1) := by decide +kernel
theorem dX5_moves_44 : decode cX5_moves 44 = .ok (.iconst (-1), 1) := by decide +kernel
theorem dX5_moves_45 : decode cX5_moves 45 = .ok (.iconst 0, 1) := by decide +kernel
theorem dX5_moves_46 : decode cX5_moves 46 = .ok (.iconst (-1), 1) := by decide +kernel
theorem dX5_moves_47 : decode cX5_moves 47 = .ok (.iload_n 2, 1) := by decide +kernel
theorem dX5_moves_48 : decode cX5_moves 48 = .ok (.invokevirtual 179, 3) := by decide +kernel
theorem dX5_moves_51 : decode cX5_moves 51 = .ok (.lreturn, 1) := by decide +kernel
set_option maxRecDepth 20000 in
theorem ggX5_fooled_X4_fooledChildren : GoodIn wsX5_fooled wsX4_fooledChildren := goodIn_r _ [6, 7, 8, 9, 10, 11, 5, 12, 13, 14, 15, 16, 17, 18, 19, 20, 21, 22, 23, 24, 25, 30, 31, 32, 33, 34, 35, 36, 37, 38, 39] (by decide +kernel) (by decide +kernel)
set_option maxRecDepth 20000 in
theorem gX5_fooled_X4_fooledChildren : GoodIn wsX5_fooled (wsV RX5 183 RX4 yX4_fooledChildren wsX4_fooledChildren) := goodIn_app (goodIn_of _ (by decide +kernel)) ggX5_fooled_X4_fooledChildren
theorem dX5_fooled_0 : decode cX5_fooled 0 = .ok (.aload_n 0, 1) := by decide +kernel
theorem dX5_fooled_1 : decode cX5_fooled 1 = .ok (.getfield 14, 3) := by decide +kernel
theorem dX5_fooled_4 : decode cX5_fooled 4 = .ok (.invokevirtual 183, 3) := by decide +kernel
theorem dX5_fooled_7 : decode cX5_fooled 7 = .ok (.ireturn, 1) := by decide +kernel
set_option maxRecDepth 20000 in
theorem ggX5_once_X4_allAtOnce : GoodIn wsX5_once wsX4_allAtOnce := goodIn_r _ [6, 7, 8, 9, 10, 11, 5, 12, 13, 14, 15, 16, 17, 18, 19, 20, 21, 22, 23, 24, 25, 26, 27, 28, 29, 30, 31, 32, 33, 34, 39, 40, 41, 42, 43, 44, 45, 46, 47, 48] (by decide +kernel) (by decide +kernel)
set_option maxRecDepth 20000 in
theorem gX5_once_X4_allAtOnce : GoodIn wsX5_once (wsV RX5 186 RX4 yX4_allAtOnce wsX4_allAtOnce) := goodIn_app (goodIn_of _ (by decide +kernel)) ggX5_once_X4_allAtOnce
theorem dX5_once_0 : decode cX5_once 0 = .ok (.aload_n 0, 1) := by decide +kernel
theorem dX5_once_1 : decode cX5_once 1 = .ok (.getfield 14, 3) := by decide +kernel
theorem dX5_once_4 : decode cX5_once 4 = .ok (.invokevirtual 186, 3) := by decide +kernel
theorem dX5_once_7 : decode cX5_once 7 = .ok (.ireturn, 1) := by decide +kernel
set_option maxRecDepth 20000 in
theorem ggX5_order_X5_isStuff : GoodIn wsX5_order wsX5_isStuff := goodIn_r _ [5] (by decide +kernel) (by decide +kernel)
set_option maxRecDepth 20000 in
theorem gX5_order_X5_isStuff : GoodIn wsX5_order (va_wsS RX5 58 yX5_isStuff wsX5_isStuff) := goodIn_app (goodIn_of _ (by decide +kernel)) ggX5_order_X5_isStuff
set_option maxRecDepth 20000 in
theorem ggX5_order_X4_shownBefore : GoodIn wsX5_order wsX4_shownBefore := goodIn_r _ [10, 11, 12, 13, 14, 15, 9, 16, 17, 18, 19, 20, 21, 22, 23, 24, 25, 26, 27, 28, 29, 30, 31, 32, 33, 34, 39, 40, 41, 42, 43, 44, 45, 46, 47, 48] (by decide +kernel) (by decide +kernel)
set_option maxRecDepth 20000 in
theorem gX5_order_X4_shownBefore : GoodIn wsX5_order (wsV RX5 189 RX4 yX4_shownBefore wsX4_shownBefore) := goodIn_app (goodIn_of _ (by decide +kernel)) ggX5_order_X4_shownBefore
theorem dX5_order_0 : decode cX5_order 0 = .ok (.iload_n 1, 1) := by decide +kernel
theorem dX5_order_1 : decode cX5_order 1 = .ok (.invokestatic 58, 3) := by decide +kernel
theorem dX5_order_4 : decode cX5_order 4 = .ok (.ifCond .eq 10, 3) := by decide +kernel
theorem dX5_order_7 : decode cX5_order 7 = .ok (.iload_n 2, 1) := by decide +kernel
theorem dX5_order_8 : decode cX5_order 8 = .ok (.invokestatic 58, 3) := by decide +kernel
theorem dX5_order_11 : decode cX5_order 11 = .ok (.ifCond .ne 5, 3) := by decide +kernel
theorem dX5_order_14 : decode cX5_order 14 = .ok (.iconst (-1), 1) := by decide +kernel
theorem dX5_order_15 : decode cX5_order 15 = .ok (.ireturn, 1) := by decide +kernel
theorem dX5_order_16 : decode cX5_order 16 = .ok (.iload_n 1, 1) := by decide +kernel
theorem dX5_order_17 : decode cX5_order 17 = .ok (.iload_n 2, 1) := by decide +kernel
theorem dX5_order_18 : decode cX5_order 18 = .ok (.if_icmp .ne 8, 3) := by decide +kernel
theorem dX5_order_21 : decode cX5_order 21 = .ok (.bipush (-2), 2) := by decide +kernel
theorem dX5_order_23 : decode cX5_order 23 = .ok (.goto 12, 3) := by decide +kernel
theorem dX5_order_26 : decode cX5_order 26 = .ok (.aload_n 0, 1) := by decide +kernel
theorem dX5_order_27 : decode cX5_order 27 = .ok (.getfield 14, 3) := by decide +kernel
theorem dX5_order_30 : decode cX5_order 30 = .ok (.iload_n 1, 1) := by decide +kernel
theorem dX5_order_31 : decode cX5_order 31 = .ok (.iload_n 2, 1) := by decide +kernel
theorem dX5_order_32 : decode cX5_order 32 = .ok (.invokevirtual 189, 3) := by decide +kernel
theorem dX5_order_35 : decode cX5_order 35 = .ok (.ireturn, 1) := by decide +kernel
set_option maxRecDepth 20000 in
theorem ggX5_from_X5_isStuff : GoodIn wsX5_from wsX5_isStuff := goodIn_r _ [5] (by decide +kernel) (by decide +kernel)
set_option maxRecDepth 20000 in
theorem gX5_from_X5_isStuff : GoodIn wsX5_from (va_wsS RX5 58 yX5_isStuff wsX5_isStuff) := goodIn_app (goodIn_of _ (by decide +kernel)) ggX5_from_X5_isStuff
set_option maxRecDepth 20000 in
theorem ggX5_from_X4_ageOf : GoodIn wsX5_from wsX4_ageOf := goodIn_r _ [10, 11, 12, 13, 9, 14, 15, 16, 17, 18, 19, 20, 21, 22, 23, 24, 25, 26, 27, 28, 29, 30, 31, 32, 33, 38, 39, 40, 41, 42, 43, 44, 45, 46, 47] (by decide +kernel) (by decide +kernel)
set_option maxRecDepth 20000 in
theorem gX5_from_X4_ageOf : GoodIn wsX5_from (wsV RX5 192 RX4 yX4_ageOf wsX4_ageOf) := goodIn_app (goodIn_of _ (by decide +kernel)) ggX5_from_X4_ageOf
theorem dX5_from_0 : decode cX5_from 0 = .ok (.iload_n 1, 1) := by decide +kernel
theorem dX5_from_1 : decode cX5_from 1 = .ok (.invokestatic 58, 3) := by decide +kernel
theorem dX5_from_4 : decode cX5_from 4 = .ok (.ifCond .eq 15, 3) := by decide +kernel
theorem dX5_from_7 : decode cX5_from 7 = .ok (.aload_n 0, 1) := by decide +kernel
theorem dX5_from_8 : decode cX5_from 8 = .ok (.getfield 14, 3) := by decide +kernel
theorem dX5_from_11 : decode cX5_from 11 = .ok (.iload_n 1, 1) := by decide +kernel
theorem dX5_from_12 : decode cX5_from 12 = .ok (.iload_n 2, 1) := by decide +kernel
theorem dX5_from_13 : decode cX5_from 13 = .ok (.invokevirtual 192, 3) := by decide +kernel
theorem dX5_from_16 : decode cX5_from 16 = .ok (.goto 4, 3) := by decide +kernel
theorem dX5_from_19 : decode cX5_from 19 = .ok (.iconst (-1), 1) := by decide +kernel
theorem dX5_from_20 : decode cX5_from 20 = .ok (.ireturn, 1) := by decide +kernel
set_option maxRecDepth 20000 in
theorem ggX5_spread_X4_hasLaw : GoodIn wsX5_spread wsX4_hasLaw := goodIn_r _ [8, 9, 40, 41, 42, 43, 44, 45] (by decide +kernel) (by decide +kernel)
set_option maxRecDepth 20000 in
theorem gX5_spread_X4_hasLaw : GoodIn wsX5_spread (wsV RX5 118 RX4 yX4_hasLaw wsX4_hasLaw) := goodIn_app (goodIn_of _ (by decide +kernel)) ggX5_spread_X4_hasLaw
set_option maxRecDepth 20000 in
theorem ggX5_spread_X2_has : GoodIn wsX5_spread wsX2_has := goodIn_r _ [14, 15, 46, 47, 48, 49] (by decide +kernel) (by decide +kernel)
set_option maxRecDepth 20000 in
theorem gX5_spread_X2_has : GoodIn wsX5_spread (wsV RX5 42 RX2 yX2_has wsX2_has) := goodIn_app (goodIn_of _ (by decide +kernel)) ggX5_spread_X2_has
set_option maxRecDepth 20000 in
theorem ggX5_spread_X4_isTaughtSome : GoodIn wsX5_spread wsX4_isTaughtSome := goodIn_r _ [19, 20, 21, 22, 23, 24, 13, 25, 15, 26, 27, 40, 41, 42, 43, 44, 45, 46, 47, 48, 49] (by decide +kernel) (by decide +kernel)
set_option maxRecDepth 20000 in
theorem gX5_spread_X4_isTaughtSome : GoodIn wsX5_spread (wsV RX5 196 RX4 yX4_isTaughtSome wsX4_isTaughtSome) := goodIn_app (goodIn_of _ (by decide +kernel)) ggX5_spread_X4_isTaughtSome
set_option maxRecDepth 20000 in
theorem ggX5_spread_X2_at : GoodIn wsX5_spread wsX2_at := goodIn_r _ [25, 15, 26, 27, 46, 47, 48, 49] (by decide +kernel) (by decide +kernel)
set_option maxRecDepth 20000 in
theorem gX5_spread_X2_at : GoodIn wsX5_spread (wsV RX5 46 RX2 yX2_at wsX2_at) := goodIn_app (goodIn_of _ (by decide +kernel)) ggX5_spread_X2_at
set_option maxRecDepth 20000 in
theorem ggX5_spread_X4_keptAt : GoodIn wsX5_spread wsX4_keptAt := goodIn_r _ [32, 33, 20, 34, 35, 22, 23, 24, 13, 25, 15, 26, 27, 50, 51, 52, 53, 54, 55, 56, 57, 40, 41, 42, 43, 44, 45, 46, 47, 48, 49] (by decide +kernel) (by decide +kernel)
set_option maxRecDepth 20000 in
theorem gX5_spread_X4_keptAt : GoodIn wsX5_spread (wsV RX5 128 RX4 yX4_keptAt wsX4_keptAt) := goodIn_app (goodIn_of _ (by decide +kernel)) ggX5_spread_X4_keptAt
theorem dX5_spread_0 : decode cX5_spread 0 = .ok (.aload_n 0, 1) := by decide +kernel
theorem dX5_spread_1 : decode cX5_spread 1 = .ok (.getfield 14, 3) := by decide +kernel
theorem dX5_spread_4 : decode cX5_spread 4 = .ok (.iload_n 1, 1) := by decide +kernel
theorem dX5_spread_5 : decode cX5_spread 5 = .ok (.invokevirtual 118, 3) := by decide +kernel
theorem dX5_spread_8 : decode cX5_spread 8 = .ok (.ifCond .eq 17, 3) := by decide +kernel
theorem dX5_spread_11 : decode cX5_spread 11 = .ok (.aload_n 0, 1) := by decide +kernel
theorem dX5_spread_12 : decode cX5_spread 12 = .ok (.getfield 14, 3) := by decide +kernel
theorem dX5_spread_15 : decode cX5_spread 15 = .ok (.getfield 28, 3) := by decide +kernel
theorem dX5_spread_18 : decode cX5_spread 18 = .ok (.iload_n 2, 1) := by decide +kernel
theorem dX5_spread_19 : decode cX5_spread 19 = .ok (.invokevirtual 42, 3) := by decide +kernel
theorem dX5_spread_22 : decode cX5_spread 22 = .ok (.ifCond .ne 5, 3) := by decide +kernel
theorem dX5_spread_25 : decode cX5_spread 25 = .ok (.iconst (-1), 1) := by decide +kernel
theorem dX5_spread_26 : decode cX5_spread 26 = .ok (.ireturn, 1) := by decide +kernel
theorem dX5_spread_27 : decode cX5_spread 27 = .ok (.iload_n 3, 1) := by decide +kernel
theorem dX5_spread_28 : decode cX5_spread 28 = .ok (.ifCond .lt 9, 3) := by decide +kernel
theorem dX5_spread_31 : decode cX5_spread 31 = .ok (.iload_n 3, 1) := by decide +kernel
theorem dX5_spread_32 : decode cX5_spread 32 = .ok (.bipush 99, 2) := by decide +kernel
theorem dX5_spread_34 : decode cX5_spread 34 = .ok (.if_icmp .le 6, 3) := by decide +kernel
theorem dX5_spread_37 : decode cX5_spread 37 = .ok (.bipush (-2), 2) := by decide +kernel
theorem dX5_spread_39 : decode cX5_spread 39 = .ok (.ireturn, 1) := by decide +kernel
theorem dX5_spread_40 : decode cX5_spread 40 = .ok (.aload_n 0, 1) := by decide +kernel
theorem dX5_spread_41 : decode cX5_spread 41 = .ok (.getfield 14, 3) := by decide +kernel
theorem dX5_spread_44 : decode cX5_spread 44 = .ok (.iload_n 2, 1) := by decide +kernel
theorem dX5_spread_45 : decode cX5_spread 45 = .ok (.invokevirtual 196, 3) := by decide +kernel
theorem dX5_spread_48 : decode cX5_spread 48 = .ok (.ifCond .eq 37, 3) := by decide +kernel
theorem dX5_spread_51 : decode cX5_spread 51 = .ok (.aload_n 0, 1) := by decide +kernel
theorem dX5_spread_52 : decode cX5_spread 52 = .ok (.getfield 14, 3) := by decide +kernel
theorem dX5_spread_55 : decode cX5_spread 55 = .ok (.aload_n 0, 1) := by decide +kernel
theorem dX5_spread_56 : decode cX5_spread 56 = .ok (.getfield 14, 3) := by decide +kernel
theorem dX5_spread_59 : decode cX5_spread 59 = .ok (.getfield 96, 3) := by decide +kernel
theorem dX5_spread_62 : decode cX5_spread 62 = .ok (.iload_n 1, 1) := by decide +kernel
theorem dX5_spread_63 : decode cX5_spread 63 = .ok (.aaload, 1) := by decide +kernel
theorem dX5_spread_64 : decode cX5_spread 64 = .ok (.iload_n 2, 1) := by decide +kernel
theorem dX5_spread_65 : decode cX5_spread 65 = .ok (.aload_n 0, 1) := by decide +kernel
theorem dX5_spread_66 : decode cX5_spread 66 = .ok (.getfield 14, 3) := by decide +kernel
theorem dX5_spread_69 : decode cX5_spread 69 = .ok (.getfield 28, 3) := by decide +kernel
theorem dX5_spread_72 : decode cX5_spread 72 = .ok (.iload_n 2, 1) := by decide +kernel
theorem dX5_spread_73 : decode cX5_spread 73 = .ok (.iconst 0, 1) := by decide +kernel
theorem dX5_spread_74 : decode cX5_spread 74 = .ok (.invokevirtual 46, 3) := by decide +kernel
theorem dX5_spread_77 : decode cX5_spread 77 = .ok (.iload_n 3, 1) := by decide +kernel
theorem dX5_spread_78 : decode cX5_spread 78 = .ok (.iadd, 1) := by decide +kernel
theorem dX5_spread_79 : decode cX5_spread 79 = .ok (.invokevirtual 128, 3) := by decide +kernel
theorem dX5_spread_82 : decode cX5_spread 82 = .ok (.goto 5, 3) := by decide +kernel
theorem dX5_spread_85 : decode cX5_spread 85 = .ok (.bipush (-3), 2) := by decide +kernel
theorem dX5_spread_87 : decode cX5_spread 87 = .ok (.ireturn, 1) := by decide +kernel
set_option maxRecDepth 20000 in
theorem ggX5_act_X4_hasLaw : GoodIn wsX5_act wsX4_hasLaw := goodIn_r _ [10, 11, 39, 40, 41, 42, 43, 44] (by decide +kernel) (by decide +kernel)
set_option maxRecDepth 20000 in
theorem gX5_act_X4_hasLaw : GoodIn wsX5_act (wsV RX5 118 RX4 yX4_hasLaw wsX4_hasLaw) := goodIn_app (goodIn_of _ (by decide +kernel)) ggX5_act_X4_hasLaw
set_option maxRecDepth 20000 in
theorem ggX5_act_X0_run : GoodIn wsX5_act wsX0_run := goodIn_r _ [16, 17, 18, 19, 20, 21, 15, 22, 23, 24, 25, 26, 27, 28, 29, 30, 31, 32, 13, 14, 45, 46, 47, 48, 49, 50, 51, 52, 37, 38] (by decide +kernel) (by decide +kernel)
set_option maxRecDepth 20000 in
theorem gX5_act_X0_run : GoodIn wsX5_act (wsV RX5 202 RX0 yX0_run wsX0_run) := goodIn_app (goodIn_of _ (by decide +kernel)) ggX5_act_X0_run
theorem dX5_act_0 : decode cX5_act 0 = .ok (.aload_n 0, 1) := by decide +kernel
theorem dX5_act_1 : decode cX5_act 1 = .ok (.getfield 24, 3) := by decide +kernel
theorem dX5_act_4 : decode cX5_act 4 = .ok (.iconst 0, 1) := by decide +kernel
theorem dX5_act_5 : decode cX5_act 5 = .ok (.putfield 199, 3) := by decide +kernel
theorem dX5_act_8 : decode cX5_act 8 = .ok (.aload_n 0, 1) := by decide +kernel
theorem dX5_act_9 : decode cX5_act 9 = .ok (.getfield 14, 3) := by decide +kernel
theorem dX5_act_12 : decode cX5_act 12 = .ok (.iload_n 1, 1) := by decide +kernel
theorem dX5_act_13 : decode cX5_act 13 = .ok (.invokevirtual 118, 3) := by decide +kernel
theorem dX5_act_16 : decode cX5_act 16 = .ok (.ifCond .eq 12, 3) := by decide +kernel
theorem dX5_act_19 : decode cX5_act 19 = .ok (.iload_n 2, 1) := by decide +kernel
theorem dX5_act_20 : decode cX5_act 20 = .ok (.ifCond .lt 8, 3) := by decide +kernel
theorem dX5_act_23 : decode cX5_act 23 = .ok (.iload_n 2, 1) := by decide +kernel
theorem dX5_act_24 : decode cX5_act 24 = .ok (.iconst 3, 1) := by decide +kernel
theorem dX5_act_25 : decode cX5_act 25 = .ok (.if_icmp .lt 5, 3) := by decide +kernel
theorem dX5_act_28 : decode cX5_act 28 = .ok (.iconst 0, 1) := by decide +kernel
theorem dX5_act_29 : decode cX5_act 29 = .ok (.ireturn, 1) := by decide +kernel
theorem dX5_act_30 : decode cX5_act 30 = .ok (.aload_n 0, 1) := by decide +kernel
theorem dX5_act_31 : decode cX5_act 31 = .ok (.getfield 14, 3) := by decide +kernel
theorem dX5_act_34 : decode cX5_act 34 = .ok (.getfield 96, 3) := by decide +kernel
theorem dX5_act_37 : decode cX5_act 37 = .ok (.iload_n 1, 1) := by decide +kernel
theorem dX5_act_38 : decode cX5_act 38 = .ok (.aaload, 1) := by decide +kernel
theorem dX5_act_39 : decode cX5_act 39 = .ok (.astore 4, 2) := by decide +kernel
theorem dX5_act_41 : decode cX5_act 41 = .ok (.aload_n 0, 1) := by decide +kernel
theorem dX5_act_42 : decode cX5_act 42 = .ok (.getfield 24, 3) := by decide +kernel
theorem dX5_act_45 : decode cX5_act 45 = .ok (.aload 4, 2) := by decide +kernel
theorem dX5_act_47 : decode cX5_act 47 = .ok (.aload 4, 2) := by decide +kernel
theorem dX5_act_49 : decode cX5_act 49 = .ok (.getfield 112, 3) := by decide +kernel
theorem dX5_act_52 : decode cX5_act 52 = .ok (.iload_n 2, 1) := by decide +kernel
theorem dX5_act_53 : decode cX5_act 53 = .ok (.iload_n 3, 1) := by decide +kernel
theorem dX5_act_54 : decode cX5_act 54 = .ok (.iconst 0, 1) := by decide +kernel
theorem dX5_act_55 : decode cX5_act 55 = .ok (.invokevirtual 202, 3) := by decide +kernel
theorem dX5_act_58 : decode cX5_act 58 = .ok (.ireturn, 1) := by decide +kernel
theorem dX5_trace_0 : decode cX5_trace 0 = .ok (.iload_n 1, 1) := by decide +kernel
theorem dX5_trace_1 : decode cX5_trace 1 = .ok (.ifCond .lt 32, 3) := by decide +kernel
theorem dX5_trace_4 : decode cX5_trace 4 = .ok (.iload_n 1, 1) := by decide +kernel
theorem dX5_trace_5 : decode cX5_trace 5 = .ok (.bipush 20, 2) := by decide +kernel
theorem dX5_trace_7 : decode cX5_trace 7 = .ok (.if_icmp .ge 26, 3) := by decide +kernel
theorem dX5_trace_10 : decode cX5_trace 10 = .ok (.iload_n 1, 1) := by decide +kernel
theorem dX5_trace_11 : decode cX5_trace 11 = .ok (.aload_n 0, 1) := by decide +kernel
theorem dX5_trace_12 : decode cX5_trace 12 = .ok (.getfield 24, 3) := by decide +kernel
theorem dX5_trace_15 : decode cX5_trace 15 = .ok (.getfield 199, 3) := by decide +kernel
theorem dX5_trace_18 : decode cX5_trace 18 = .ok (.if_icmp .ge 15, 3) := by decide +kernel
theorem dX5_trace_21 : decode cX5_trace 21 = .ok (.aload_n 0, 1) := by decide +kernel
theorem dX5_trace_22 : decode cX5_trace 22 = .ok (.getfield 24, 3) := by decide +kernel
theorem dX5_trace_25 : decode cX5_trace 25 = .ok (.getfield 206, 3) := by decide +kernel
theorem dX5_trace_28 : decode cX5_trace 28 = .ok (.iload_n 1, 1) := by decide +kernel
theorem dX5_trace_29 : decode cX5_trace 29 = .ok (.iaload, 1) := by decide +kernel
theorem dX5_trace_30 : decode cX5_trace 30 = .ok (.goto 4, 3) := by decide +kernel
theorem dX5_trace_33 : decode cX5_trace 33 = .ok (.iconst (-1), 1) := by decide +kernel
theorem dX5_trace_34 : decode cX5_trace 34 = .ok (.ireturn, 1) := by decide +kernel
set_option maxRecDepth 20000 in
theorem ggX5_as_X4_hasLaw : GoodIn wsX5_as wsX4_hasLaw := goodIn_r _ [9, 10, 23, 24, 25, 26, 27, 28] (by decide +kernel) (by decide +kernel)
set_option maxRecDepth 20000 in
theorem gX5_as_X4_hasLaw : GoodIn wsX5_as (wsV RX5 118 RX4 yX4_hasLaw wsX4_hasLaw) := goodIn_app (goodIn_of _ (by decide +kernel)) ggX5_as_X4_hasLaw
set_option maxRecDepth 20000 in
theorem ggX5_as_X5_isKind : GoodIn wsX5_as wsX5_isKind := goodIn_r _ [14] (by decide +kernel) (by decide +kernel)
set_option maxRecDepth 20000 in
theorem gX5_as_X5_isKind : GoodIn wsX5_as (va_wsS RX5 90 yX5_isKind wsX5_isKind) := goodIn_app (goodIn_of _ (by decide +kernel)) ggX5_as_X5_isKind
set_option maxRecDepth 20000 in
theorem ggX5_as_X5_isUnder : GoodIn wsX5_as wsX5_isUnder := goodIn_r _ [17, 18, 11, 12, 13, 14] (by decide +kernel) (by decide +kernel)
set_option maxRecDepth 20000 in
theorem gX5_as_X5_isUnder : GoodIn wsX5_as (va_wsS RX5 209 yX5_isUnder wsX5_isUnder) := goodIn_app (goodIn_of _ (by decide +kernel)) ggX5_as_X5_isUnder
theorem dX5_as_0 : decode cX5_as 0 = .ok (.aload_n 0, 1) := by decide +kernel
theorem dX5_as_1 : decode cX5_as 1 = .ok (.getfield 14, 3) := by decide +kernel
theorem dX5_as_4 : decode cX5_as 4 = .ok (.iload_n 1, 1) := by decide +kernel
theorem dX5_as_5 : decode cX5_as 5 = .ok (.invokevirtual 118, 3) := by decide +kernel
theorem dX5_as_8 : decode cX5_as 8 = .ok (.ifCond .eq 10, 3) := by decide +kernel
theorem dX5_as_11 : decode cX5_as 11 = .ok (.iload_n 2, 1) := by decide +kernel
theorem dX5_as_12 : decode cX5_as 12 = .ok (.invokestatic 90, 3) := by decide +kernel
theorem dX5_as_15 : decode cX5_as 15 = .ok (.ifCond .ne 5, 3) := by decide +kernel
theorem dX5_as_18 : decode cX5_as 18 = .ok (.iconst (-1), 1) := by decide +kernel
theorem dX5_as_19 : decode cX5_as 19 = .ok (.ireturn, 1) := by decide +kernel
theorem dX5_as_20 : decode cX5_as 20 = .ok (.aload_n 0, 1) := by decide +kernel
theorem dX5_as_21 : decode cX5_as 21 = .ok (.getfield 14, 3) := by decide +kernel
theorem dX5_as_24 : decode cX5_as 24 = .ok (.getfield 96, 3) := by decide +kernel
theorem dX5_as_27 : decode cX5_as 27 = .ok (.iload_n 1, 1) := by decide +kernel
theorem dX5_as_28 : decode cX5_as 28 = .ok (.aaload, 1) := by decide +kernel
theorem dX5_as_29 : decode cX5_as 29 = .ok (.getfield 112, 3) := by decide +kernel
theorem dX5_as_32 : decode cX5_as 32 = .ok (.iload_n 2, 1) := by decide +kernel
theorem dX5_as_33 : decode cX5_as 33 = .ok (.invokestatic 209, 3) := by decide +kernel
theorem dX5_as_36 : decode cX5_as 36 = .ok (.ifCond .eq 18, 3) := by decide +kernel
theorem dX5_as_39 : decode cX5_as 39 = .ok (.aload_n 0, 1) := by decide +kernel
theorem dX5_as_40 : decode cX5_as 40 = .ok (.getfield 14, 3) := by decide +kernel
theorem dX5_as_43 : decode cX5_as 43 = .ok (.getfield 96, 3) := by decide +kernel
theorem dX5_as_46 : decode cX5_as 46 = .ok (.iload_n 1, 1) := by decide +kernel
theorem dX5_as_47 : decode cX5_as 47 = .ok (.aaload, 1) := by decide +kernel
theorem dX5_as_48 : decode cX5_as 48 = .ok (.getfield 115, 3) := by decide +kernel
theorem dX5_as_51 : decode cX5_as 51 = .ok (.goto 5, 3) := by decide +kernel
theorem dX5_as_54 : decode cX5_as 54 = .ok (.bipush (-6), 2) := by decide +kernel
theorem dX5_as_56 : decode cX5_as 56 = .ok (.ireturn, 1) := by decide +kernel
set_option maxRecDepth 20000 in
theorem ggX5_image_X4_copy : GoodIn wsX5_image wsX4_copy := goodIn_r _ [10, 11, 12, 13, 14, 15, 16, 17, 18, 19, 20, 21, 22, 23, 24, 25, 26, 27, 28, 29, 30, 31, 32, 33, 34, 35, 36, 37, 38, 39, 40, 41, 42, 43, 44, 45, 46, 47, 48, 49, 50, 51, 52, 53, 54, 55, 60, 61, 62, 63, 64, 65, 66, 67, 68, 69, 70, 71, 72, 73, 74, 75, 76, 77, 78, 79, 80] (by decide +kernel) (by decide +kernel)
set_option maxRecDepth 20000 in
theorem gX5_image_X4_copy : GoodIn wsX5_image (wsV RX5 212 RX4 yX4_copy wsX4_copy) := goodIn_app (goodIn_of _ (by decide +kernel)) ggX5_image_X4_copy
theorem dX5_image_0 : decode cX5_image 0 = .ok (.aload_n 0, 1) := by decide +kernel
theorem dX5_image_1 : decode cX5_image 1 = .ok (.getfield 18, 3) := by decide +kernel
theorem dX5_image_4 : decode cX5_image 4 = .ok (.aload_n 0, 1) := by decide +kernel
theorem dX5_image_5 : decode cX5_image 5 = .ok (.getfield 14, 3) := by decide +kernel
theorem dX5_image_8 : decode cX5_image 8 = .ok (.invokevirtual 212, 3) := by decide +kernel
theorem dX5_image_11 : decode cX5_image 11 = .ok (.aload_n 0, 1) := by decide +kernel
theorem dX5_image_12 : decode cX5_image 12 = .ok (.iconst 1, 1) := by decide +kernel
theorem dX5_image_13 : decode cX5_image 13 = .ok (.putfield 216, 3) := by decide +kernel
theorem dX5_image_16 : decode cX5_image 16 = .ok (.aload_n 0, 1) := by decide +kernel
theorem dX5_image_17 : decode cX5_image 17 = .ok (.getfield 14, 3) := by decide +kernel
theorem dX5_image_20 : decode cX5_image 20 = .ok (.getfield 28, 3) := by decide +kernel
theorem dX5_image_23 : decode cX5_image 23 = .ok (.getfield 54, 3) := by decide +kernel
theorem dX5_image_26 : decode cX5_image 26 = .ok (.ireturn, 1) := by decide +kernel
set_option maxRecDepth 20000 in
theorem ggX5_undo_X4_copy : GoodIn wsX5_undo wsX4_copy := goodIn_r _ [10, 11, 12, 13, 14, 15, 16, 17, 18, 19, 20, 21, 22, 23, 24, 25, 26, 27, 28, 29, 30, 31, 32, 33, 34, 35, 36, 37, 38, 39, 40, 41, 42, 43, 44, 45, 46, 47, 48, 49, 50, 51, 52, 53, 54, 55, 60, 61, 62, 63, 64, 65, 66, 67, 68, 69, 70, 71, 72, 73, 74, 75, 76, 77, 78, 79, 80] (by decide +kernel) (by decide +kernel)
set_option maxRecDepth 20000 in
theorem gX5_undo_X4_copy : GoodIn wsX5_undo (wsV RX5 212 RX4 yX4_copy wsX4_copy) := goodIn_app (goodIn_of _ (by decide +kernel)) ggX5_undo_X4_copy
theorem dX5_undo_0 : decode cX5_undo 0 = .ok (.aload_n 0, 1) := by decide +kernel
