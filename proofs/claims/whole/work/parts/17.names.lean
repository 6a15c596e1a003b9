theorem dX10_known_22 : decode cX10_known 22 = .ok (.iaload, 1) := by decide +kernel
theorem dX10_known_23 : decode cX10_known 23 = .ok (.ireturn, 1) := by decide +kernel
theorem dX10_sum_0 : decode cX10_sum 0 = .ok (.aload_n 0, 1) := by decide +kernel
theorem dX10_sum_1 : decode cX10_sum 1 = .ok (.invokevirtual 260, 3) := by decide +kernel
theorem dX10_sum_4 : decode cX10_sum 4 = .ok (.iconst 0, 1) := by decide +kernel
theorem dX10_sum_5 : decode cX10_sum 5 = .ok (.istore_n 1, 1) := by decide +kernel
theorem dX10_sum_6 : decode cX10_sum 6 = .ok (.iconst 0, 1) := by decide +kernel
theorem dX10_sum_7 : decode cX10_sum 7 = .ok (.istore_n 2, 1) := by decide +kernel
theorem dX10_sum_8 : decode cX10_sum 8 = .ok (.iload_n 2, 1) := by decide +kernel
theorem dX10_sum_9 : decode cX10_sum 9 = .ok (.aload_n 0, 1) := by decide +kernel
theorem dX10_sum_10 : decode cX10_sum 10 = .ok (.getfield 12, 3) := by decide +kernel
theorem dX10_sum_13 : decode cX10_sum 13 = .ok (.getfield 126, 3) := by decide +kernel
theorem dX10_sum_16 : decode cX10_sum 16 = .ok (.aload_n 0, 1) := by decide +kernel
theorem dX10_sum_17 : decode cX10_sum 17 = .ok (.getfield 12, 3) := by decide +kernel
theorem dX10_sum_20 : decode cX10_sum 20 = .ok (.getfield 123, 3) := by decide +kernel
theorem dX10_sum_23 : decode cX10_sum 23 = .ok (.imul, 1) := by decide +kernel
theorem dX10_sum_24 : decode cX10_sum 24 = .ok (.if_icmp .ge 23, 3) := by decide +kernel
theorem dX10_sum_27 : decode cX10_sum 27 = .ok (.bipush 31, 2) := by decide +kernel
theorem dX10_sum_29 : decode cX10_sum 29 = .ok (.iload_n 1, 1) := by decide +kernel
theorem dX10_sum_30 : decode cX10_sum 30 = .ok (.imul, 1) := by decide +kernel
theorem dX10_sum_31 : decode cX10_sum 31 = .ok (.aload_n 0, 1) := by decide +kernel
theorem dX10_sum_32 : decode cX10_sum 32 = .ok (.getfield 12, 3) := by decide +kernel
theorem dX10_sum_35 : decode cX10_sum 35 = .ok (.iload_n 2, 1) := by decide +kernel
theorem dX10_sum_36 : decode cX10_sum 36 = .ok (.invokevirtual 254, 3) := by decide +kernel
theorem dX10_sum_39 : decode cX10_sum 39 = .ok (.iadd, 1) := by decide +kernel
theorem dX10_sum_40 : decode cX10_sum 40 = .ok (.istore_n 1, 1) := by decide +kernel
theorem dX10_sum_41 : decode cX10_sum 41 = .ok (.iinc 2 1, 3) := by decide +kernel
theorem dX10_sum_44 : decode cX10_sum 44 = .ok (.goto (-36), 3) := by decide +kernel
theorem dX10_sum_47 : decode cX10_sum 47 = .ok (.iload_n 1, 1) := by decide +kernel
theorem dX10_sum_48 : decode cX10_sum 48 = .ok (.ireturn, 1) := by decide +kernel
theorem dX10_has_0 : decode cX10_has 0 = .ok (.aload_n 0, 1) := by decide +kernel
theorem dX10_has_1 : decode cX10_has 1 = .ok (.getfield 89, 3) := by decide +kernel
theorem dX10_has_4 : decode cX10_has 4 = .ok (.iload_n 1, 1) := by decide +kernel
theorem dX10_has_5 : decode cX10_has 5 = .ok (.iand, 1) := by decide +kernel
theorem dX10_has_6 : decode cX10_has 6 = .ok (.ifCond .eq 7, 3) := by decide +kernel
theorem dX10_has_9 : decode cX10_has 9 = .ok (.iconst 1, 1) := by decide +kernel
theorem dX10_has_10 : decode cX10_has 10 = .ok (.goto 4, 3) := by decide +kernel
theorem dX10_has_13 : decode cX10_has 13 = .ok (.iconst 0, 1) := by decide +kernel
theorem dX10_has_14 : decode cX10_has 14 = .ok (.ireturn, 1) := by decide +kernel
theorem dX10_forgetAll_0 : decode cX10_forgetAll 0 = .ok (.aload_n 0, 1) := by decide +kernel
theorem dX10_forgetAll_1 : decode cX10_forgetAll 1 = .ok (.iconst 0, 1) := by decide +kernel
theorem dX10_forgetAll_2 : decode cX10_forgetAll 2 = .ok (.putfield 209, 3) := by decide +kernel
theorem dX10_forgetAll_5 : decode cX10_forgetAll 5 = .ok (.aload_n 0, 1) := by decide +kernel
theorem dX10_forgetAll_6 : decode cX10_forgetAll 6 = .ok (.iconst 0, 1) := by decide +kernel
theorem dX10_forgetAll_7 : decode cX10_forgetAll 7 = .ok (.putfield 213, 3) := by decide +kernel
theorem dX10_forgetAll_10 : decode cX10_forgetAll 10 = .ok (.return_, 1) := by decide +kernel
set_option maxRecDepth 20000 in
theorem ggX10_startOver_X5_forget : GoodIn wsX10_startOver wsX5_forget := goodIn_r _ [9, 10, 11, 12, 13, 14, 15, 42, 43, 44, 45, 46, 47, 48] (by decide +kernel) (by decide +kernel)
set_option maxRecDepth 20000 in
theorem gX10_startOver_X5_forget : GoodIn wsX10_startOver (wsV RX10 263 RX5 yX5_forget wsX5_forget) := goodIn_app (goodIn_of _ (by decide +kernel)) ggX10_startOver_X5_forget
set_option maxRecDepth 20000 in
theorem ggX10_startOver_X4_restart : GoodIn wsX10_startOver wsX4_restart := goodIn_r _ [20, 21, 22, 23, 13, 14, 15, 49, 50] (by decide +kernel) (by decide +kernel)
set_option maxRecDepth 20000 in
theorem gX10_startOver_X4_restart : GoodIn wsX10_startOver (wsV RX10 266 RX4 yX4_restart wsX4_restart) := goodIn_app (goodIn_of _ (by decide +kernel)) ggX10_startOver_X4_restart
theorem dX10_startOver_0 : decode cX10_startOver 0 = .ok (.aload_n 0, 1) := by decide +kernel
theorem dX10_startOver_1 : decode cX10_startOver 1 = .ok (.getfield 12, 3) := by decide +kernel
theorem dX10_startOver_4 : decode cX10_startOver 4 = .ok (.invokevirtual 263, 3) := by decide +kernel
theorem dX10_startOver_7 : decode cX10_startOver 7 = .ok (.aload_n 0, 1) := by decide +kernel
theorem dX10_startOver_8 : decode cX10_startOver 8 = .ok (.getfield 33, 3) := by decide +kernel
theorem dX10_startOver_11 : decode cX10_startOver 11 = .ok (.invokevirtual 266, 3) := by decide +kernel
theorem dX10_startOver_14 : decode cX10_startOver 14 = .ok (.aload_n 0, 1) := by decide +kernel
theorem dX10_startOver_15 : decode cX10_startOver 15 = .ok (.getfield 74, 3) := by decide +kernel
theorem dX10_startOver_18 : decode cX10_startOver 18 = .ok (.iconst 0, 1) := by decide +kernel
theorem dX10_startOver_19 : decode cX10_startOver 19 = .ok (.putfield 248, 3) := by decide +kernel
theorem dX10_startOver_22 : decode cX10_startOver 22 = .ok (.return_, 1) := by decide +kernel
set_option maxRecDepth 20000 in
theorem ggX10_resetIfAsked_X10_has : GoodIn wsX10_resetIfAsked wsX10_has := goodIn_r _ [6, 7, 19, 20, 21, 22, 23, 24, 25, 26, 27, 28, 29, 30] (by decide +kernel) (by decide +kernel)
set_option maxRecDepth 20000 in
theorem gX10_resetIfAsked_X10_has : GoodIn wsX10_resetIfAsked (wsV RX10 93 RX10 yX10_has wsX10_has) := goodIn_app (goodIn_of _ (by decide +kernel)) ggX10_resetIfAsked_X10_has
set_option maxRecDepth 20000 in
theorem ggX10_resetIfAsked_X4_restart : GoodIn wsX10_resetIfAsked wsX4_restart := goodIn_r _ [12, 13, 14, 15, 16, 17, 18, 31, 32] (by decide +kernel) (by decide +kernel)
set_option maxRecDepth 20000 in
theorem gX10_resetIfAsked_X4_restart : GoodIn wsX10_resetIfAsked (wsV RX10 266 RX4 yX4_restart wsX4_restart) := goodIn_app (goodIn_of _ (by decide +kernel)) ggX10_resetIfAsked_X4_restart
theorem dX10_resetIfAsked_0 : decode cX10_resetIfAsked 0 = .ok (.aload_n 0, 1) := by decide +kernel
theorem dX10_resetIfAsked_1 : decode cX10_resetIfAsked 1 = .ok (.iconst 2, 1) := by decide +kernel
theorem dX10_resetIfAsked_2 : decode cX10_resetIfAsked 2 = .ok (.invokevirtual 93, 3) := by decide +kernel
theorem dX10_resetIfAsked_5 : decode cX10_resetIfAsked 5 = .ok (.ifCond .eq 10, 3) := by decide +kernel
theorem dX10_resetIfAsked_8 : decode cX10_resetIfAsked 8 = .ok (.aload_n 0, 1) := by decide +kernel
theorem dX10_resetIfAsked_9 : decode cX10_resetIfAsked 9 = .ok (.getfield 33, 3) := by decide +kernel
theorem dX10_resetIfAsked_12 : decode cX10_resetIfAsked 12 = .ok (.invokevirtual 266, 3) := by decide +kernel
theorem dX10_resetIfAsked_15 : decode cX10_resetIfAsked 15 = .ok (.return_, 1) := by decide +kernel
set_option maxRecDepth 20000 in
theorem ggX10_openForWriting_X1_openSegment : GoodIn wsX10_openForWriting wsX1_openSegment := goodIn_r _ [8, 9, 10, 38, 39, 40] (by decide +kernel) (by decide +kernel)
set_option maxRecDepth 20000 in
theorem gX10_openForWriting_X1_openSegment : GoodIn wsX10_openForWriting (wsV RX10 269 RX1 yX1_openSegment wsX1_openSegment) := goodIn_app (goodIn_of _ (by decide +kernel)) ggX10_openForWriting_X1_openSegment
set_option maxRecDepth 20000 in
theorem ggX10_openForWriting_X8_open : GoodIn wsX10_openForWriting wsX8_open := goodIn_r _ [15, 16, 41, 42] (by decide +kernel) (by decide +kernel)
set_option maxRecDepth 20000 in
theorem gX10_openForWriting_X8_open : GoodIn wsX10_openForWriting (wsV RX10 272 RX8 yX8_open wsX8_open) := goodIn_app (goodIn_of _ (by decide +kernel)) ggX10_openForWriting_X8_open
set_option maxRecDepth 20000 in
theorem ggX10_openForWriting_X3_open : GoodIn wsX10_openForWriting wsX3_open := goodIn_r _ [21, 22, 23, 24, 25, 43, 44, 45, 46, 47] (by decide +kernel) (by decide +kernel)
set_option maxRecDepth 20000 in
theorem gX10_openForWriting_X3_open : GoodIn wsX10_openForWriting (wsV RX10 275 RX3 yX3_open wsX3_open) := goodIn_app (goodIn_of _ (by decide +kernel)) ggX10_openForWriting_X3_open
theorem dX10_openForWriting_0 : decode cX10_openForWriting 0 = .ok (.aload_n 0, 1) := by decide +kernel
theorem dX10_openForWriting_1 : decode cX10_openForWriting 1 = .ok (.getfield 26, 3) := by decide +kernel
theorem dX10_openForWriting_4 : decode cX10_openForWriting 4 = .ok (.invokevirtual 269, 3) := by decide +kernel
theorem dX10_openForWriting_7 : decode cX10_openForWriting 7 = .ok (.iload_n 1, 1) := by decide +kernel
theorem dX10_openForWriting_8 : decode cX10_openForWriting 8 = .ok (.ifCond .eq 13, 3) := by decide +kernel
theorem dX10_openForWriting_11 : decode cX10_openForWriting 11 = .ok (.aload_n 0, 1) := by decide +kernel
theorem dX10_openForWriting_12 : decode cX10_openForWriting 12 = .ok (.getfield 51, 3) := by decide +kernel
theorem dX10_openForWriting_15 : decode cX10_openForWriting 15 = .ok (.invokevirtual 272, 3) := by decide +kernel
theorem dX10_openForWriting_18 : decode cX10_openForWriting 18 = .ok (.goto 10, 3) := by decide +kernel
theorem dX10_openForWriting_21 : decode cX10_openForWriting 21 = .ok (.aload_n 0, 1) := by decide +kernel
theorem dX10_openForWriting_22 : decode cX10_openForWriting 22 = .ok (.getfield 42, 3) := by decide +kernel
theorem dX10_openForWriting_25 : decode cX10_openForWriting 25 = .ok (.invokevirtual 275, 3) := by decide +kernel
theorem dX10_openForWriting_28 : decode cX10_openForWriting 28 = .ok (.return_, 1) := by decide +kernel
set_option maxRecDepth 20000 in
theorem ggX10_endWriting_X8_end : GoodIn wsX10_endWriting wsX8_end := goodIn_r _ [8, 9, 10, 11, 12, 7, 13, 14, 15, 16, 17, 18, 19, 20, 21, 22, 23, 24, 25, 26, 27, 28, 29, 30, 31, 32, 33, 34, 35, 36, 37, 38, 39, 40, 41, 42, 43, 44, 45, 46, 47, 48, 49, 96, 97, 98, 99, 100] (by decide +kernel) (by decide +kernel)
set_option maxRecDepth 20000 in
theorem gX10_endWriting_X8_end : GoodIn wsX10_endWriting (wsV RX10 276 RX8 yX8_end wsX8_end) := goodIn_app (goodIn_of _ (by decide +kernel)) ggX10_endWriting_X8_end
set_option maxRecDepth 20000 in
theorem ggX10_endWriting_X10_has : GoodIn wsX10_endWriting wsX10_has := goodIn_r _ [54, 55, 84, 85, 86, 87, 88, 89, 90, 91, 92, 93, 94, 95] (by decide +kernel) (by decide +kernel)
set_option maxRecDepth 20000 in
theorem gX10_endWriting_X10_has : GoodIn wsX10_endWriting (wsV RX10 93 RX10 yX10_has wsX10_has) := goodIn_app (goodIn_of _ (by decide +kernel)) ggX10_endWriting_X10_has
set_option maxRecDepth 20000 in
theorem ggX10_endWriting_X3_endPlainly : GoodIn wsX10_endWriting wsX3_endPlainly := goodIn_r _ [60, 61, 62, 63, 64, 65, 59, 66, 67, 68, 69, 16, 17, 18, 19, 20, 21, 22, 70, 47, 48, 49, 71, 24, 25, 26, 27, 28, 29, 30, 31, 32, 33, 34, 35, 36, 37, 38, 39, 40, 41, 42, 43, 44, 45, 101, 102, 103, 104, 105, 98, 99, 100] (by decide +kernel) (by decide +kernel)
set_option maxRecDepth 20000 in
theorem gX10_endWriting_X3_endPlainly : GoodIn wsX10_endWriting (wsV RX10 279 RX3 yX3_endPlainly wsX3_endPlainly) := goodIn_app (goodIn_of _ (by decide +kernel)) ggX10_endWriting_X3_endPlainly
set_option maxRecDepth 20000 in
theorem ggX10_endWriting_X3_end : GoodIn wsX10_endWriting wsX3_end := goodIn_r _ [75, 62, 76, 77, 78, 61, 63, 64, 65, 59, 66, 67, 68, 69, 16, 17, 18, 19, 20, 21, 22, 70, 47, 48, 49, 71, 24, 25, 26, 27, 28, 29, 30, 31, 32, 33, 34, 35, 36, 37, 38, 39, 40, 41, 42, 43, 44, 45, 101, 102, 103, 104, 105, 98, 99, 100] (by decide +kernel) (by decide +kernel)
set_option maxRecDepth 20000 in
theorem gX10_endWriting_X3_end : GoodIn wsX10_endWriting (wsV RX10 282 RX3 yX3_end wsX3_end) := goodIn_app (goodIn_of _ (by decide +kernel)) ggX10_endWriting_X3_end
set_option maxRecDepth 20000 in
theorem ggX10_endWriting_X1_dropStuffed : GoodIn wsX10_endWriting wsX1_dropStuffed := goodIn_r _ [82, 20, 83, 16, 17, 18, 19, 21, 22, 98, 99, 100] (by decide +kernel) (by decide +kernel)
set_option maxRecDepth 20000 in
theorem gX10_endWriting_X1_dropStuffed : GoodIn wsX10_endWriting (wsV RX10 283 RX1 yX1_dropStuffed wsX1_dropStuffed) := goodIn_app (goodIn_of _ (by decide +kernel)) ggX10_endWriting_X1_dropStuffed
theorem dX10_endWriting_0 : decode cX10_endWriting 0 = .ok (.iload_n 1, 1) := by decide +kernel
theorem dX10_endWriting_1 : decode cX10_endWriting 1 = .ok (.ifCond .eq 13, 3) := by decide +kernel
theorem dX10_endWriting_4 : decode cX10_endWriting 4 = .ok (.aload_n 0, 1) := by decide +kernel
theorem dX10_endWriting_5 : decode cX10_endWriting 5 = .ok (.getfield 51, 3) := by decide +kernel
theorem dX10_endWriting_8 : decode cX10_endWriting 8 = .ok (.invokevirtual 276, 3) := by decide +kernel
theorem dX10_endWriting_11 : decode cX10_endWriting 11 = .ok (.goto 29, 3) := by decide +kernel
theorem dX10_endWriting_14 : decode cX10_endWriting 14 = .ok (.aload_n 0, 1) := by decide +kernel
theorem dX10_endWriting_15 : decode cX10_endWriting 15 = .ok (.bipush 16, 2) := by decide +kernel
theorem dX10_endWriting_17 : decode cX10_endWriting 17 = .ok (.invokevirtual 93, 3) := by decide +kernel
theorem dX10_endWriting_20 : decode cX10_endWriting 20 = .ok (.ifCond .eq 13, 3) := by decide +kernel
theorem dX10_endWriting_23 : decode cX10_endWriting 23 = .ok (.aload_n 0, 1) := by decide +kernel
theorem dX10_endWriting_24 : decode cX10_endWriting 24 = .ok (.getfield 42, 3) := by decide +kernel
theorem dX10_endWriting_27 : decode cX10_endWriting 27 = .ok (.invokevirtual 279, 3) := by decide +kernel
theorem dX10_endWriting_30 : decode cX10_endWriting 30 = .ok (.goto 10, 3) := by decide +kernel
theorem dX10_endWriting_33 : decode cX10_endWriting 33 = .ok (.aload_n 0, 1) := by decide +kernel
theorem dX10_endWriting_34 : decode cX10_endWriting 34 = .ok (.getfield 42, 3) := by decide +kernel
theorem dX10_endWriting_37 : decode cX10_endWriting 37 = .ok (.invokevirtual 282, 3) := by decide +kernel
theorem dX10_endWriting_40 : decode cX10_endWriting 40 = .ok (.aload_n 0, 1) := by decide +kernel
theorem dX10_endWriting_41 : decode cX10_endWriting 41 = .ok (.getfield 26, 3) := by decide +kernel
theorem dX10_endWriting_44 : decode cX10_endWriting 44 = .ok (.invokevirtual 283, 3) := by decide +kernel
theorem dX10_endWriting_47 : decode cX10_endWriting 47 = .ok (.return_, 1) := by decide +kernel
set_option maxRecDepth 20000 in
theorem ggX10_openForReading_X7_open : GoodIn wsX10_openForReading wsX7_open := goodIn_r _ [7, 8, 9, 10, 11, 48, 49, 50, 51, 52] (by decide +kernel) (by decide +kernel)
set_option maxRecDepth 20000 in
theorem gX10_openForReading_X7_open : GoodIn wsX10_openForReading (wsV RX10 286 RX7 yX7_open wsX7_open) := goodIn_app (goodIn_of _ (by decide +kernel)) ggX10_openForReading_X7_open
set_option maxRecDepth 20000 in
theorem ggX10_openForReading_X2_open : GoodIn wsX10_openForReading wsX2_open := goodIn_r _ [16, 17, 18, 19, 20, 21, 22, 23, 24, 25, 26, 27, 28, 29, 30, 31, 32, 33, 15, 34, 35, 53, 54, 55, 56, 57, 58, 59, 60, 61, 62] (by decide +kernel) (by decide +kernel)
set_option maxRecDepth 20000 in
theorem gX10_openForReading_X2_open : GoodIn wsX10_openForReading (wsV RX10 288 RX2 yX2_open wsX2_open) := goodIn_app (goodIn_of _ (by decide +kernel)) ggX10_openForReading_X2_open
theorem dX10_openForReading_0 : decode cX10_openForReading 0 = .ok (.iload_n 1, 1) := by decide +kernel
theorem dX10_openForReading_1 : decode cX10_openForReading 1 = .ok (.ifCond .eq 15, 3) := by decide +kernel
theorem dX10_openForReading_4 : decode cX10_openForReading 4 = .ok (.aload_n 0, 1) := by decide +kernel
theorem dX10_openForReading_5 : decode cX10_openForReading 5 = .ok (.getfield 65, 3) := by decide +kernel
theorem dX10_openForReading_8 : decode cX10_openForReading 8 = .ok (.iload_n 2, 1) := by decide +kernel
theorem dX10_openForReading_9 : decode cX10_openForReading 9 = .ok (.iload_n 3, 1) := by decide +kernel
theorem dX10_openForReading_10 : decode cX10_openForReading 10 = .ok (.invokevirtual 286, 3) := by decide +kernel
theorem dX10_openForReading_13 : decode cX10_openForReading 13 = .ok (.goto 12, 3) := by decide +kernel
theorem dX10_openForReading_16 : decode cX10_openForReading 16 = .ok (.aload_n 0, 1) := by decide +kernel
theorem dX10_openForReading_17 : decode cX10_openForReading 17 = .ok (.getfield 58, 3) := by decide +kernel
theorem dX10_openForReading_20 : decode cX10_openForReading 20 = .ok (.iload_n 2, 1) := by decide +kernel
theorem dX10_openForReading_21 : decode cX10_openForReading 21 = .ok (.iload_n 3, 1) := by decide +kernel
theorem dX10_openForReading_22 : decode cX10_openForReading 22 = .ok (.invokevirtual 288, 3) := by decide +kernel
theorem dX10_openForReading_25 : decode cX10_openForReading 25 = .ok (.return_, 1) := by decide +kernel
theorem dX10_needWritten_0 : decode cX10_needWritten 0 = .ok (.aload_n 0, 1) := by decide +kernel
theorem dX10_needWritten_1 : decode cX10_needWritten 1 = .ok (.getfield 209, 3) := by decide +kernel
theorem dX10_needWritten_4 : decode cX10_needWritten 4 = .ok (.ifCond .ne 14, 3) := by decide +kernel
theorem dX10_needWritten_7 : decode cX10_needWritten 7 = .ok (.new 289, 3) := by decide +kernel
theorem dX10_needWritten_10 : decode cX10_needWritten 10 = .ok (.dup, 1) := by decide +kernel
theorem dX10_needWritten_11 : decode cX10_needWritten 11 = .ok (.ldc_w 291, 3) := by decide +kernel
theorem dX10_needWritten_14 : decode cX10_needWritten 14 = .ok (.invokespecial 293, 3) := by decide +kernel
theorem dX10_needWritten_17 : decode cX10_needWritten 17 = .ok (.athrow, 1) := by decide +kernel
theorem dX10_needWritten_18 : decode cX10_needWritten 18 = .ok (.return_, 1) := by decide +kernel
theorem dX10_needPass_0 : decode cX10_needPass 0 = .ok (.aload_n 0, 1) := by decide +kernel
theorem dX10_needPass_1 : decode cX10_needPass 1 = .ok (.invokevirtual 216, 3) := by decide +kernel
theorem dX10_needPass_4 : decode cX10_needPass 4 = .ok (.iload_n 1, 1) := by decide +kernel
theorem dX10_needPass_5 : decode cX10_needPass 5 = .ok (.ifCond .lt 14, 3) := by decide +kernel
theorem dX10_needPass_8 : decode cX10_needPass 8 = .ok (.iload_n 1, 1) := by decide +kernel
theorem dX10_needPass_9 : decode cX10_needPass 9 = .ok (.aload_n 0, 1) := by decide +kernel
theorem dX10_needPass_10 : decode cX10_needPass 10 = .ok (.getfield 19, 3) := by decide +kernel
theorem dX10_needPass_13 : decode cX10_needPass 13 = .ok (.getfield 147, 3) := by decide +kernel
theorem dX10_needPass_16 : decode cX10_needPass 16 = .ok (.if_icmp .lt 14, 3) := by decide +kernel
theorem dX10_needPass_19 : decode cX10_needPass 19 = .ok (.new 294, 3) := by decide +kernel
theorem dX10_needPass_22 : decode cX10_needPass 22 = .ok (.dup, 1) := by decide +kernel
theorem dX10_needPass_23 : decode cX10_needPass 23 = .ok (.ldc_w 296, 3) := by decide +kernel
theorem dX10_needPass_26 : decode cX10_needPass 26 = .ok (.invokespecial 298, 3) := by decide +kernel
theorem dX10_needPass_29 : decode cX10_needPass 29 = .ok (.athrow, 1) := by decide +kernel
theorem dX10_needPass_30 : decode cX10_needPass 30 = .ok (.return_, 1) := by decide +kernel
theorem dX10_needByte_0 : decode cX10_needByte 0 = .ok (.aload_n 0, 1) := by decide +kernel
theorem dX10_needByte_1 : decode cX10_needByte 1 = .ok (.invokevirtual 216, 3) := by decide +kernel
theorem dX10_needByte_4 : decode cX10_needByte 4 = .ok (.iload_n 1, 1) := by decide +kernel
theorem dX10_needByte_5 : decode cX10_needByte 5 = .ok (.ifCond .lt 14, 3) := by decide +kernel
theorem dX10_needByte_8 : decode cX10_needByte 8 = .ok (.iload_n 1, 1) := by decide +kernel
theorem dX10_needByte_9 : decode cX10_needByte 9 = .ok (.aload_n 0, 1) := by decide +kernel
theorem dX10_needByte_10 : decode cX10_needByte 10 = .ok (.getfield 26, 3) := by decide +kernel
theorem dX10_needByte_13 : decode cX10_needByte 13 = .ok (.getfield 200, 3) := by decide +kernel
theorem dX10_needByte_16 : decode cX10_needByte 16 = .ok (.if_icmp .lt 14, 3) := by decide +kernel
theorem dX10_needByte_19 : decode cX10_needByte 19 = .ok (.new 294, 3) := by decide +kernel
theorem dX10_needByte_22 : decode cX10_needByte 22 = .ok (.dup, 1) := by decide +kernel
theorem dX10_needByte_23 : decode cX10_needByte 23 = .ok (.ldc_w 299, 3) := by decide +kernel
theorem dX10_needByte_26 : decode cX10_needByte 26 = .ok (.invokespecial 298, 3) := by decide +kernel
theorem dX10_needByte_29 : decode cX10_needByte 29 = .ok (.athrow, 1) := by decide +kernel
theorem dX10_needByte_30 : decode cX10_needByte 30 = .ok (.return_, 1) := by decide +kernel
theorem dX10_needRead_0 : decode cX10_needRead 0 = .ok (.aload_n 0, 1) := by decide +kernel
theorem dX10_needRead_1 : decode cX10_needRead 1 = .ok (.getfield 213, 3) := by decide +kernel
theorem dX10_needRead_4 : decode cX10_needRead 4 = .ok (.ifCond .ne 14, 3) := by decide +kernel
theorem dX10_needRead_7 : decode cX10_needRead 7 = .ok (.new 289, 3) := by decide +kernel
theorem dX10_needRead_10 : decode cX10_needRead 10 = .ok (.dup, 1) := by decide +kernel
theorem dX10_needRead_11 : decode cX10_needRead 11 = .ok (.ldc_w 301, 3) := by decide +kernel
theorem dX10_needRead_14 : decode cX10_needRead 14 = .ok (.invokespecial 293, 3) := by decide +kernel
theorem dX10_needRead_17 : decode cX10_needRead 17 = .ok (.athrow, 1) := by decide +kernel
theorem dX10_needRead_18 : decode cX10_needRead 18 = .ok (.return_, 1) := by decide +kernel
theorem dX10_needReadAt_0 : decode cX10_needReadAt 0 = .ok (.aload_n 0, 1) := by decide +kernel
theorem dX10_needReadAt_1 : decode cX10_needReadAt 1 = .ok (.getfield 12, 3) := by decide +kernel
theorem dX10_needReadAt_4 : decode cX10_needReadAt 4 = .ok (.iload_n 1, 1) := by decide +kernel
theorem dX10_needReadAt_5 : decode cX10_needReadAt 5 = .ok (.iload_n 2, 1) := by decide +kernel
theorem dX10_needReadAt_6 : decode cX10_needReadAt 6 = .ok (.invokevirtual 104, 3) := by decide +kernel
theorem dX10_needReadAt_9 : decode cX10_needReadAt 9 = .ok (.ifCond .ne 13, 3) := by decide +kernel
theorem dX10_needReadAt_12 : decode cX10_needReadAt 12 = .ok (.new 78, 3) := by decide +kernel
theorem dX10_needReadAt_15 : decode cX10_needReadAt 15 = .ok (.dup, 1) := by decide +kernel
theorem dX10_needReadAt_16 : decode cX10_needReadAt 16 = .ok (.ldc 108, 2) := by decide +kernel
theorem dX10_needReadAt_18 : decode cX10_needReadAt 18 = .ok (.invokespecial 82, 3) := by decide +kernel
theorem dX10_needReadAt_21 : decode cX10_needReadAt 21 = .ok (.athrow, 1) := by decide +kernel
theorem dX10_needReadAt_22 : decode cX10_needReadAt 22 = .ok (.aload_n 0, 1) := by decide +kernel
theorem dX10_needReadAt_23 : decode cX10_needReadAt 23 = .ok (.invokevirtual 260, 3) := by decide +kernel
theorem dX10_needReadAt_26 : decode cX10_needReadAt 26 = .ok (.return_, 1) := by decide +kernel
theorem dX11_init_0 : decode cX11_init 0 = .ok (.aload_n 0, 1) := by decide +kernel
theorem dX11_init_1 : decode cX11_init 1 = .ok (.invokespecial 1, 3) := by decide +kernel
theorem dX11_init_4 : decode cX11_init 4 = .ok (.aload_n 0, 1) := by decide +kernel
theorem dX11_init_5 : decode cX11_init 5 = .ok (.bipush 47, 2) := by decide +kernel
theorem dX11_init_7 : decode cX11_init 7 = .ok (.newarray .int, 2) := by decide +kernel
theorem dX11_init_9 : decode cX11_init 9 = .ok (.dup, 1) := by decide +kernel
theorem dX11_init_10 : decode cX11_init 10 = .ok (.iconst 0, 1) := by decide +kernel
theorem dX11_init_11 : decode cX11_init 11 = .ok (.sipush 22017, 3) := by decide +kernel
theorem dX11_init_14 : decode cX11_init 14 = .ok (.iastore, 1) := by decide +kernel
theorem dX11_init_15 : decode cX11_init 15 = .ok (.dup, 1) := by decide +kernel
theorem dX11_init_16 : decode cX11_init 16 = .ok (.iconst 1, 1) := by decide +kernel
theorem dX11_init_17 : decode cX11_init 17 = .ok (.sipush 13313, 3) := by decide +kernel
theorem dX11_init_20 : decode cX11_init 20 = .ok (.iastore, 1) := by decide +kernel
theorem dX11_init_21 : decode cX11_init 21 = .ok (.dup, 1) := by decide +kernel
theorem dX11_init_22 : decode cX11_init 22 = .ok (.iconst 2, 1) := by decide +kernel
theorem dX11_init_23 : decode cX11_init 23 = .ok (.sipush 6145, 3) := by decide +kernel
theorem dX11_init_26 : decode cX11_init 26 = .ok (.iastore, 1) := by decide +kernel
theorem dX11_init_27 : decode cX11_init 27 = .ok (.dup, 1) := by decide +kernel
theorem dX11_init_28 : decode cX11_init 28 = .ok (.iconst 3, 1) := by decide +kernel
theorem dX11_init_29 : decode cX11_init 29 = .ok (.sipush 2753, 3) := by decide +kernel
theorem dX11_init_32 : decode cX11_init 32 = .ok (.iastore, 1) := by decide +kernel
theorem dX11_init_33 : decode cX11_init 33 = .ok (.dup, 1) := by decide +kernel
theorem dX11_init_34 : decode cX11_init 34 = .ok (.iconst 4, 1) := by decide +kernel
theorem dX11_init_35 : decode cX11_init 35 = .ok (.sipush 1313, 3) := by decide +kernel
theorem dX11_init_38 : decode cX11_init 38 = .ok (.iastore, 1) := by decide +kernel
theorem dX11_init_39 : decode cX11_init 39 = .ok (.dup, 1) := by decide +kernel
theorem dX11_init_40 : decode cX11_init 40 = .ok (.iconst 5, 1) := by decide +kernel
theorem dX11_init_41 : decode cX11_init 41 = .ok (.sipush 545, 3) := by decide +kernel
theorem dX11_init_44 : decode cX11_init 44 = .ok (.iastore, 1) := by decide +kernel
theorem dX11_init_45 : decode cX11_init 45 = .ok (.dup, 1) := by decide +kernel
theorem dX11_init_46 : decode cX11_init 46 = .ok (.bipush 6, 2) := by decide +kernel
theorem dX11_init_48 : decode cX11_init 48 = .ok (.sipush 22017, 3) := by decide +kernel
theorem dX11_init_51 : decode cX11_init 51 = .ok (.iastore, 1) := by decide +kernel
theorem dX11_init_52 : decode cX11_init 52 = .ok (.dup, 1) := by decide +kernel
theorem dX11_init_53 : decode cX11_init 53 = .ok (.bipush 7, 2) := by decide +kernel
theorem dX11_init_55 : decode cX11_init 55 = .ok (.sipush 21505, 3) := by decide +kernel
theorem dX11_init_58 : decode cX11_init 58 = .ok (.iastore, 1) := by decide +kernel
theorem dX11_init_59 : decode cX11_init 59 = .ok (.dup, 1) := by decide +kernel
theorem dX11_init_60 : decode cX11_init 60 = .ok (.bipush 8, 2) := by decide +kernel
theorem dX11_init_62 : decode cX11_init 62 = .ok (.sipush 18433, 3) := by decide +kernel
theorem dX11_init_65 : decode cX11_init 65 = .ok (.iastore, 1) := by decide +kernel
theorem dX11_init_66 : decode cX11_init 66 = .ok (.dup, 1) := by decide +kernel
theorem dX11_init_67 : decode cX11_init 67 = .ok (.bipush 9, 2) := by decide +kernel
theorem dX11_init_69 : decode cX11_init 69 = .ok (.sipush 14337, 3) := by decide +kernel
theorem dX11_init_72 : decode cX11_init 72 = .ok (.iastore, 1) := by decide +kernel
theorem dX11_init_73 : decode cX11_init 73 = .ok (.dup, 1) := by decide +kernel
theorem dX11_init_74 : decode cX11_init 74 = .ok (.bipush 10, 2) := by decide +kernel
theorem dX11_init_76 : decode cX11_init 76 = .ok (.sipush 12289, 3) := by decide +kernel
theorem dX11_init_79 : decode cX11_init 79 = .ok (.iastore, 1) := by decide +kernel
theorem dX11_init_80 : decode cX11_init 80 = .ok (.dup, 1) := by decide +kernel
theorem dX11_init_81 : decode cX11_init 81 = .ok (.bipush 11, 2) := by decide +kernel
theorem dX11_init_83 : decode cX11_init 83 = .ok (.sipush 9217, 3) := by decide +kernel
theorem dX11_init_86 : decode cX11_init 86 = .ok (.iastore, 1) := by decide +kernel
theorem dX11_init_87 : decode cX11_init 87 = .ok (.dup, 1) := by decide +kernel
theorem dX11_init_88 : decode cX11_init 88 = .ok (.bipush 12, 2) := by decide +kernel
theorem dX11_init_90 : decode cX11_init 90 = .ok (.sipush 7169, 3) := by decide +kernel
theorem dX11_init_93 : decode cX11_init 93 = .ok (.iastore, 1) := by decide +kernel
theorem dX11_init_94 : decode cX11_init 94 = .ok (.dup, 1) := by decide +kernel
theorem dX11_init_95 : decode cX11_init 95 = .ok (.bipush 13, 2) := by decide +kernel
theorem dX11_init_97 : decode cX11_init 97 = .ok (.sipush 5633, 3) := by decide +kernel
theorem dX11_init_100 : decode cX11_init 100 = .ok (.iastore, 1) := by decide +kernel
theorem dX11_init_101 : decode cX11_init 101 = .ok (.dup, 1) := by decide +kernel
theorem dX11_init_102 : decode cX11_init 102 = .ok (.bipush 14, 2) := by decide +kernel
theorem dX11_init_104 : decode cX11_init 104 = .ok (.sipush 22017, 3) := by decide +kernel
theorem dX11_init_107 : decode cX11_init 107 = .ok (.iastore, 1) := by decide +kernel
theorem dX11_init_108 : decode cX11_init 108 = .ok (.dup, 1) := by decide +kernel
theorem dX11_init_109 : decode cX11_init 109 = .ok (.bipush 15, 2) := by decide +kernel
theorem dX11_init_111 : decode cX11_init 111 = .ok (.sipush 21505, 3) := by decide +kernel
theorem dX11_init_114 : decode cX11_init 114 = .ok (.iastore, 1) := by decide +kernel
theorem dX11_init_115 : decode cX11_init 115 = .ok (.dup, 1) := by decide +kernel
theorem dX11_init_116 : decode cX11_init 116 = .ok (.bipush 16, 2) := by decide +kernel
theorem dX11_init_118 : decode cX11_init 118 = .ok (.sipush 20737, 3) := by decide +kernel
theorem dX11_init_121 : decode cX11_init 121 = .ok (.iastore, 1) := by decide +kernel
theorem dX11_init_122 : decode cX11_init 122 = .ok (.dup, 1) := by decide +kernel
theorem dX11_init_123 : decode cX11_init 123 = .ok (.bipush 17, 2) := by decide +kernel
theorem dX11_init_125 : decode cX11_init 125 = .ok (.sipush 18433, 3) := by decide +kernel
theorem dX11_init_128 : decode cX11_init 128 = .ok (.iastore, 1) := by decide +kernel
theorem dX11_init_129 : decode cX11_init 129 = .ok (.dup, 1) := by decide +kernel
theorem dX11_init_130 : decode cX11_init 130 = .ok (.bipush 18, 2) := by decide +kernel
theorem dX11_init_132 : decode cX11_init 132 = .ok (.sipush 14337, 3) := by decide +kernel
theorem dX11_init_135 : decode cX11_init 135 = .ok (.iastore, 1) := by decide +kernel
theorem dX11_init_136 : decode cX11_init 136 = .ok (.dup, 1) := by decide +kernel
theorem dX11_init_137 : decode cX11_init 137 = .ok (.bipush 19, 2) := by decide +kernel
theorem dX11_init_139 : decode cX11_init 139 = .ok (.sipush 13313, 3) := by decide +kernel
theorem dX11_init_142 : decode cX11_init 142 = .ok (.iastore, 1) := by decide +kernel
theorem dX11_init_143 : decode cX11_init 143 = .ok (.dup, 1) := by decide +kernel
theorem dX11_init_144 : decode cX11_init 144 = .ok (.bipush 20, 2) := by decide +kernel
theorem dX11_init_146 : decode cX11_init 146 = .ok (.sipush 12289, 3) := by decide +kernel
theorem dX11_init_149 : decode cX11_init 149 = .ok (.iastore, 1) := by decide +kernel
theorem dX11_init_150 : decode cX11_init 150 = .ok (.dup, 1) := by decide +kernel
theorem dX11_init_151 : decode cX11_init 151 = .ok (.bipush 21, 2) := by decide +kernel
theorem dX11_init_153 : decode cX11_init 153 = .ok (.sipush 10241, 3) := by decide +kernel
theorem dX11_init_156 : decode cX11_init 156 = .ok (.iastore, 1) := by decide +kernel
theorem dX11_init_157 : decode cX11_init 157 = .ok (.dup, 1) := by decide +kernel
theorem dX11_init_158 : decode cX11_init 158 = .ok (.bipush 22, 2) := by decide +kernel
theorem dX11_init_160 : decode cX11_init 160 = .ok (.sipush 9217, 3) := by decide +kernel
theorem dX11_init_163 : decode cX11_init 163 = .ok (.iastore, 1) := by decide +kernel
theorem dX11_init_164 : decode cX11_init 164 = .ok (.dup, 1) := by decide +kernel
theorem dX11_init_165 : decode cX11_init 165 = .ok (.bipush 23, 2) := by decide +kernel
theorem dX11_init_167 : decode cX11_init 167 = .ok (.sipush 8705, 3) := by decide +kernel
theorem dX11_init_170 : decode cX11_init 170 = .ok (.iastore, 1) := by decide +kernel
theorem dX11_init_171 : decode cX11_init 171 = .ok (.dup, 1) := by decide +kernel
theorem dX11_init_172 : decode cX11_init 172 = .ok (.bipush 24, 2) := by decide +kernel
theorem dX11_init_174 : decode cX11_init 174 = .ok (.sipush 7169, 3) := by decide +kernel
theorem dX11_init_177 : decode cX11_init 177 = .ok (.iastore, 1) := by decide +kernel
theorem dX11_init_178 : decode cX11_init 178 = .ok (.dup, 1) := by decide +kernel
theorem dX11_init_179 : decode cX11_init 179 = .ok (.bipush 25, 2) := by decide +kernel
theorem dX11_init_181 : decode cX11_init 181 = .ok (.sipush 6145, 3) := by decide +kernel
theorem dX11_init_184 : decode cX11_init 184 = .ok (.iastore, 1) := by decide +kernel
theorem dX11_init_185 : decode cX11_init 185 = .ok (.dup, 1) := by decide +kernel
theorem dX11_init_186 : decode cX11_init 186 = .ok (.bipush 26, 2) := by decide +kernel
theorem dX11_init_188 : decode cX11_init 188 = .ok (.sipush 5633, 3) := by decide +kernel
theorem dX11_init_191 : decode cX11_init 191 = .ok (.iastore, 1) := by decide +kernel
theorem dX11_init_192 : decode cX11_init 192 = .ok (.dup, 1) := by decide +kernel
theorem dX11_init_193 : decode cX11_init 193 = .ok (.bipush 27, 2) := by decide +kernel
theorem dX11_init_195 : decode cX11_init 195 = .ok (.sipush 5121, 3) := by decide +kernel
theorem dX11_init_198 : decode cX11_init 198 = .ok (.iastore, 1) := by decide +kernel
theorem dX11_init_199 : decode cX11_init 199 = .ok (.dup, 1) := by decide +kernel
theorem dX11_init_200 : decode cX11_init 200 = .ok (.bipush 28, 2) := by decide +kernel
theorem dX11_init_202 : decode cX11_init 202 = .ok (.sipush 4609, 3) := by decide +kernel
theorem dX11_init_205 : decode cX11_init 205 = .ok (.iastore, 1) := by decide +kernel
theorem dX11_init_206 : decode cX11_init 206 = .ok (.dup, 1) := by decide +kernel
theorem dX11_init_207 : decode cX11_init 207 = .ok (.bipush 29, 2) := by decide +kernel
theorem dX11_init_209 : decode cX11_init 209 = .ok (.sipush 4353, 3) := by decide +kernel
theorem dX11_init_212 : decode cX11_init 212 = .ok (.iastore, 1) := by decide +kernel
theorem dX11_init_213 : decode cX11_init 213 = .ok (.dup, 1) := by decide +kernel
theorem dX11_init_214 : decode cX11_init 214 = .ok (.bipush 30, 2) := by decide +kernel
theorem dX11_init_216 : decode cX11_init 216 = .ok (.sipush 2753, 3) := by decide +kernel
theorem dX11_init_219 : decode cX11_init 219 = .ok (.iastore, 1) := by decide +kernel
theorem dX11_init_220 : decode cX11_init 220 = .ok (.dup, 1) := by decide +kernel
theorem dX11_init_221 : decode cX11_init 221 = .ok (.bipush 31, 2) := by decide +kernel
theorem dX11_init_223 : decode cX11_init 223 = .ok (.sipush 2497, 3) := by decide +kernel
theorem dX11_init_226 : decode cX11_init 226 = .ok (.iastore, 1) := by decide +kernel
theorem dX11_init_227 : decode cX11_init 227 = .ok (.dup, 1) := by decide +kernel
theorem dX11_init_228 : decode cX11_init 228 = .ok (.bipush 32, 2) := by decide +kernel
theorem dX11_init_230 : decode cX11_init 230 = .ok (.sipush 2209, 3) := by decide +kernel
theorem dX11_init_233 : decode cX11_init 233 = .ok (.iastore, 1) := by decide +kernel
theorem dX11_init_234 : decode cX11_init 234 = .ok (.dup, 1) := by decide +kernel
theorem dX11_init_235 : decode cX11_init 235 = .ok (.bipush 33, 2) := by decide +kernel
theorem dX11_init_237 : decode cX11_init 237 = .ok (.sipush 1313, 3) := by decide +kernel
theorem dX11_init_240 : decode cX11_init 240 = .ok (.iastore, 1) := by decide +kernel
theorem dX11_init_241 : decode cX11_init 241 = .ok (.dup, 1) := by decide +kernel
theorem dX11_init_242 : decode cX11_init 242 = .ok (.bipush 34, 2) := by decide +kernel
theorem dX11_init_244 : decode cX11_init 244 = .ok (.sipush 1089, 3) := by decide +kernel
theorem dX11_init_247 : decode cX11_init 247 = .ok (.iastore, 1) := by decide +kernel
theorem dX11_init_248 : decode cX11_init 248 = .ok (.dup, 1) := by decide +kernel
theorem dX11_init_249 : decode cX11_init 249 = .ok (.bipush 35, 2) := by decide +kernel
theorem dX11_init_251 : decode cX11_init 251 = .ok (.sipush 673, 3) := by decide +kernel
theorem dX11_init_254 : decode cX11_init 254 = .ok (.iastore, 1) := by decide +kernel
theorem dX11_init_255 : decode cX11_init 255 = .ok (.dup, 1) := by decide +kernel
theorem dX11_init_256 : decode cX11_init 256 = .ok (.bipush 36, 2) := by decide +kernel
theorem dX11_init_258 : decode cX11_init 258 = .ok (.sipush 545, 3) := by decide +kernel
theorem dX11_init_261 : decode cX11_init 261 = .ok (.iastore, 1) := by decide +kernel
theorem dX11_init_262 : decode cX11_init 262 = .ok (.dup, 1) := by decide +kernel
theorem dX11_init_263 : decode cX11_init 263 = .ok (.bipush 37, 2) := by decide +kernel
theorem dX11_init_265 : decode cX11_init 265 = .ok (.sipush 321, 3) := by decide +kernel
theorem dX11_init_268 : decode cX11_init 268 = .ok (.iastore, 1) := by decide +kernel
theorem dX11_init_269 : decode cX11_init 269 = .ok (.dup, 1) := by decide +kernel
theorem dX11_init_270 : decode cX11_init 270 = .ok (.bipush 38, 2) := by decide +kernel
theorem dX11_init_272 : decode cX11_init 272 = .ok (.sipush 273, 3) := by decide +kernel
theorem dX11_init_275 : decode cX11_init 275 = .ok (.iastore, 1) := by decide +kernel
theorem dX11_init_276 : decode cX11_init 276 = .ok (.dup, 1) := by decide +kernel
theorem dX11_init_277 : decode cX11_init 277 = .ok (.bipush 39, 2) := by decide +kernel
theorem dX11_init_279 : decode cX11_init 279 = .ok (.sipush 133, 3) := by decide +kernel
theorem dX11_init_282 : decode cX11_init 282 = .ok (.iastore, 1) := by decide +kernel
theorem dX11_init_283 : decode cX11_init 283 = .ok (.dup, 1) := by decide +kernel
theorem dX11_init_284 : decode cX11_init 284 = .ok (.bipush 40, 2) := by decide +kernel
theorem dX11_init_286 : decode cX11_init 286 = .ok (.bipush 73, 2) := by decide +kernel
theorem dX11_init_288 : decode cX11_init 288 = .ok (.iastore, 1) := by decide +kernel
theorem dX11_init_289 : decode cX11_init 289 = .ok (.dup, 1) := by decide +kernel
theorem dX11_init_290 : decode cX11_init 290 = .ok (.bipush 41, 2) := by decide +kernel
theorem dX11_init_292 : decode cX11_init 292 = .ok (.bipush 37, 2) := by decide +kernel
theorem dX11_init_294 : decode cX11_init 294 = .ok (.iastore, 1) := by decide +kernel
theorem dX11_init_295 : decode cX11_init 295 = .ok (.dup, 1) := by decide +kernel
theorem dX11_init_296 : decode cX11_init 296 = .ok (.bipush 42, 2) := by decide +kernel
theorem dX11_init_298 : decode cX11_init 298 = .ok (.bipush 21, 2) := by decide +kernel
theorem dX11_init_300 : decode cX11_init 300 = .ok (.iastore, 1) := by decide +kernel
theorem dX11_init_301 : decode cX11_init 301 = .ok (.dup, 1) := by decide +kernel
theorem dX11_init_302 : decode cX11_init 302 = .ok (.bipush 43, 2) := by decide +kernel
theorem dX11_init_304 : decode cX11_init 304 = .ok (.bipush 9, 2) := by decide +kernel
theorem dX11_init_306 : decode cX11_init 306 = .ok (.iastore, 1) := by decide +kernel
theorem dX11_init_307 : decode cX11_init 307 = .ok (.dup, 1) := by decide +kernel
theorem dX11_init_308 : decode cX11_init 308 = .ok (.bipush 44, 2) := by decide +kernel
theorem dX11_init_310 : decode cX11_init 310 = .ok (.iconst 5, 1) := by decide +kernel
theorem dX11_init_311 : decode cX11_init 311 = .ok (.iastore, 1) := by decide +kernel
theorem dX11_init_312 : decode cX11_init 312 = .ok (.dup, 1) := by decide +kernel
theorem dX11_init_313 : decode cX11_init 313 = .ok (.bipush 45, 2) := by decide +kernel
theorem dX11_init_315 : decode cX11_init 315 = .ok (.iconst 1, 1) := by decide +kernel
theorem dX11_init_316 : decode cX11_init 316 = .ok (.iastore, 1) := by decide +kernel
theorem dX11_init_317 : decode cX11_init 317 = .ok (.dup, 1) := by decide +kernel
theorem dX11_init_318 : decode cX11_init 318 = .ok (.bipush 46, 2) := by decide +kernel
theorem dX11_init_320 : decode cX11_init 320 = .ok (.sipush 22017, 3) := by decide +kernel
theorem dX11_init_323 : decode cX11_init 323 = .ok (.iastore, 1) := by decide +kernel
theorem dX11_init_324 : decode cX11_init 324 = .ok (.putfield 7, 3) := by decide +kernel
theorem dX11_init_327 : decode cX11_init 327 = .ok (.aload_n 0, 1) := by decide +kernel
theorem dX11_init_328 : decode cX11_init 328 = .ok (.bipush 47, 2) := by decide +kernel
theorem dX11_init_330 : decode cX11_init 330 = .ok (.newarray .int, 2) := by decide +kernel
theorem dX11_init_332 : decode cX11_init 332 = .ok (.dup, 1) := by decide +kernel
theorem dX11_init_333 : decode cX11_init 333 = .ok (.iconst 0, 1) := by decide +kernel
theorem dX11_init_334 : decode cX11_init 334 = .ok (.iconst 1, 1) := by decide +kernel
theorem dX11_init_335 : decode cX11_init 335 = .ok (.iastore, 1) := by decide +kernel
theorem dX11_init_336 : decode cX11_init 336 = .ok (.dup, 1) := by decide +kernel
theorem dX11_init_337 : decode cX11_init 337 = .ok (.iconst 1, 1) := by decide +kernel
theorem dX11_init_338 : decode cX11_init 338 = .ok (.bipush 6, 2) := by decide +kernel
theorem dX11_init_340 : decode cX11_init 340 = .ok (.iastore, 1) := by decide +kernel
theorem dX11_init_341 : decode cX11_init 341 = .ok (.dup, 1) := by decide +kernel
theorem dX11_init_342 : decode cX11_init 342 = .ok (.iconst 2, 1) := by decide +kernel
theorem dX11_init_343 : decode cX11_init 343 = .ok (.bipush 9, 2) := by decide +kernel
theorem dX11_init_345 : decode cX11_init 345 = .ok (.iastore, 1) := by decide +kernel
theorem dX11_init_346 : decode cX11_init 346 = .ok (.dup, 1) := by decide +kernel
theorem dX11_init_347 : decode cX11_init 347 = .ok (.iconst 3, 1) := by decide +kernel
theorem dX11_init_348 : decode cX11_init 348 = .ok (.bipush 12, 2) := by decide +kernel
theorem dX11_init_350 : decode cX11_init 350 = .ok (.iastore, 1) := by decide +kernel
theorem dX11_init_351 : decode cX11_init 351 = .ok (.dup, 1) := by decide +kernel
theorem dX11_init_352 : decode cX11_init 352 = .ok (.iconst 4, 1) := by decide +kernel
theorem dX11_init_353 : decode cX11_init 353 = .ok (.bipush 29, 2) := by decide +kernel
theorem dX11_init_355 : decode cX11_init 355 = .ok (.iastore, 1) := by decide +kernel
theorem dX11_init_356 : decode cX11_init 356 = .ok (.dup, 1) := by decide +kernel
theorem dX11_init_357 : decode cX11_init 357 = .ok (.iconst 5, 1) := by decide +kernel
theorem dX11_init_358 : decode cX11_init 358 = .ok (.bipush 33, 2) := by decide +kernel
theorem dX11_init_360 : decode cX11_init 360 = .ok (.iastore, 1) := by decide +kernel
theorem dX11_init_361 : decode cX11_init 361 = .ok (.dup, 1) := by decide +kernel
theorem dX11_init_362 : decode cX11_init 362 = .ok (.bipush 6, 2) := by decide +kernel
theorem dX11_init_364 : decode cX11_init 364 = .ok (.bipush 6, 2) := by decide +kernel
theorem dX11_init_366 : decode cX11_init 366 = .ok (.iastore, 1) := by decide +kernel
theorem dX11_init_367 : decode cX11_init 367 = .ok (.dup, 1) := by decide +kernel
theorem dX11_init_368 : decode cX11_init 368 = .ok (.bipush 7, 2) := by decide +kernel
theorem dX11_init_370 : decode cX11_init 370 = .ok (.bipush 14, 2) := by decide +kernel
theorem dX11_init_372 : decode cX11_init 372 = .ok (.iastore, 1) := by decide +kernel
theorem dX11_init_373 : decode cX11_init 373 = .ok (.dup, 1) := by decide +kernel
theorem dX11_init_374 : decode cX11_init 374 = .ok (.bipush 8, 2) := by decide +kernel
theorem dX11_init_376 : decode cX11_init 376 = .ok (.bipush 14, 2) := by decide +kernel
theorem dX11_init_378 : decode cX11_init 378 = .ok (.iastore, 1) := by decide +kernel
theorem dX11_init_379 : decode cX11_init 379 = .ok (.dup, 1) := by decide +kernel
theorem dX11_init_380 : decode cX11_init 380 = .ok (.bipush 9, 2) := by decide +kernel
theorem dX11_init_382 : decode cX11_init 382 = .ok (.bipush 14, 2) := by decide +kernel
theorem dX11_init_384 : decode cX11_init 384 = .ok (.iastore, 1) := by decide +kernel
theorem dX11_init_385 : decode cX11_init 385 = .ok (.dup, 1) := by decide +kernel
theorem dX11_init_386 : decode cX11_init 386 = .ok (.bipush 10, 2) := by decide +kernel
theorem dX11_init_388 : decode cX11_init 388 = .ok (.bipush 17, 2) := by decide +kernel
theorem dX11_init_390 : decode cX11_init 390 = .ok (.iastore, 1) := by decide +kernel
theorem dX11_init_391 : decode cX11_init 391 = .ok (.dup, 1) := by decide +kernel
theorem dX11_init_392 : decode cX11_init 392 = .ok (.bipush 11, 2) := by decide +kernel
theorem dX11_init_394 : decode cX11_init 394 = .ok (.bipush 18, 2) := by decide +kernel
theorem dX11_init_396 : decode cX11_init 396 = .ok (.iastore, 1) := by decide +kernel
theorem dX11_init_397 : decode cX11_init 397 = .ok (.dup, 1) := by decide +kernel
theorem dX11_init_398 : decode cX11_init 398 = .ok (.bipush 12, 2) := by decide +kernel
theorem dX11_init_400 : decode cX11_init 400 = .ok (.bipush 20, 2) := by decide +kernel
theorem dX11_init_402 : decode cX11_init 402 = .ok (.iastore, 1) := by decide +kernel
theorem dX11_init_403 : decode cX11_init 403 = .ok (.dup, 1) := by decide +kernel
theorem dX11_init_404 : decode cX11_init 404 = .ok (.bipush 13, 2) := by decide +kernel
theorem dX11_init_406 : decode cX11_init 406 = .ok (.bipush 21, 2) := by decide +kernel
theorem dX11_init_408 : decode cX11_init 408 = .ok (.iastore, 1) := by decide +kernel
theorem dX11_init_409 : decode cX11_init 409 = .ok (.dup, 1) := by decide +kernel
theorem dX11_init_410 : decode cX11_init 410 = .ok (.bipush 14, 2) := by decide +kernel
theorem dX11_init_412 : decode cX11_init 412 = .ok (.bipush 14, 2) := by decide +kernel
theorem dX11_init_414 : decode cX11_init 414 = .ok (.iastore, 1) := by decide +kernel
theorem dX11_init_415 : decode cX11_init 415 = .ok (.dup, 1) := by decide +kernel
theorem dX11_init_416 : decode cX11_init 416 = .ok (.bipush 15, 2) := by decide +kernel
theorem dX11_init_418 : decode cX11_init 418 = .ok (.bipush 14, 2) := by decide +kernel
theorem dX11_init_420 : decode cX11_init 420 = .ok (.iastore, 1) := by decide +kernel
theorem dX11_init_421 : decode cX11_init 421 = .ok (.dup, 1) := by decide +kernel
theorem dX11_init_422 : decode cX11_init 422 = .ok (.bipush 16, 2) := by decide +kernel
theorem dX11_init_424 : decode cX11_init 424 = .ok (.bipush 15, 2) := by decide +kernel
theorem dX11_init_426 : decode cX11_init 426 = .ok (.iastore, 1) := by decide +kernel
theorem dX11_init_427 : decode cX11_init 427 = .ok (.dup, 1) := by decide +kernel
theorem dX11_init_428 : decode cX11_init 428 = .ok (.bipush 17, 2) := by decide +kernel
theorem dX11_init_430 : decode cX11_init 430 = .ok (.bipush 16, 2) := by decide +kernel
theorem dX11_init_432 : decode cX11_init 432 = .ok (.iastore, 1) := by decide +kernel
theorem dX11_init_433 : decode cX11_init 433 = .ok (.dup, 1) := by decide +kernel
theorem dX11_init_434 : decode cX11_init 434 = .ok (.bipush 18, 2) := by decide +kernel
theorem dX11_init_436 : decode cX11_init 436 = .ok (.bipush 17, 2) := by decide +kernel
theorem dX11_init_438 : decode cX11_init 438 = .ok (.iastore, 1) := by decide +kernel
theorem dX11_init_439 : decode cX11_init 439 = .ok (.dup, 1) := by decide +kernel
theorem dX11_init_440 : decode cX11_init 440 = .ok (.bipush 19, 2) := by decide +kernel
theorem dX11_init_442 : decode cX11_init 442 = .ok (.bipush 18, 2) := by decide +kernel
theorem dX11_init_444 : decode cX11_init 444 = .ok (.iastore, 1) := by decide +kernel
theorem dX11_init_445 : decode cX11_init 445 = .ok (.dup, 1) := by decide +kernel
theorem dX11_init_446 : decode cX11_init 446 = .ok (.bipush 20, 2) := by decide +kernel
theorem dX11_init_448 : decode cX11_init 448 = .ok (.bipush 19, 2) := by decide +kernel
theorem dX11_init_450 : decode cX11_init 450 = .ok (.iastore, 1) := by decide +kernel
theorem dX11_init_451 : decode cX11_init 451 = .ok (.dup, 1) := by decide +kernel
theorem dX11_init_452 : decode cX11_init 452 = .ok (.bipush 21, 2) := by decide +kernel
theorem dX11_init_454 : decode cX11_init 454 = .ok (.bipush 19, 2) := by decide +kernel
theorem dX11_init_456 : decode cX11_init 456 = .ok (.iastore, 1) := by decide +kernel
theorem dX11_init_457 : decode cX11_init 457 = .ok (.dup, 1) := by decide +kernel
theorem dX11_init_458 : decode cX11_init 458 = .ok (.bipush 22, 2) := by decide +kernel
theorem dX11_init_460 : decode cX11_init 460 = .ok (.bipush 20, 2) := by decide +kernel
theorem dX11_init_462 : decode cX11_init 462 = .ok (.iastore, 1) := by decide +kernel
theorem dX11_init_463 : decode cX11_init 463 = .ok (.dup, 1) := by decide +kernel
theorem dX11_init_464 : decode cX11_init 464 = .ok (.bipush 23, 2) := by decide +kernel
theorem dX11_init_466 : decode cX11_init 466 = .ok (.bipush 21, 2) := by decide +kernel
theorem dX11_init_468 : decode cX11_init 468 = .ok (.iastore, 1) := by decide +kernel
theorem dX11_init_469 : decode cX11_init 469 = .ok (.dup, 1) := by decide +kernel
theorem dX11_init_470 : decode cX11_init 470 = .ok (.bipush 24, 2) := by decide +kernel
theorem dX11_init_472 : decode cX11_init 472 = .ok (.bipush 22, 2) := by decide +kernel
theorem dX11_init_474 : decode cX11_init 474 = .ok (.iastore, 1) := by decide +kernel
theorem dX11_init_475 : decode cX11_init 475 = .ok (.dup, 1) := by decide +kernel
theorem dX11_init_476 : decode cX11_init 476 = .ok (.bipush 25, 2) := by decide +kernel
theorem dX11_init_478 : decode cX11_init 478 = .ok (.bipush 23, 2) := by decide +kernel
theorem dX11_init_480 : decode cX11_init 480 = .ok (.iastore, 1) := by decide +kernel
theorem dX11_init_481 : decode cX11_init 481 = .ok (.dup, 1) := by decide +kernel
theorem dX11_init_482 : decode cX11_init 482 = .ok (.bipush 26, 2) := by decide +kernel
theorem dX11_init_484 : decode cX11_init 484 = .ok (.bipush 24, 2) := by decide +kernel
theorem dX11_init_486 : decode cX11_init 486 = .ok (.iastore, 1) := by decide +kernel
theorem dX11_init_487 : decode cX11_init 487 = .ok (.dup, 1) := by decide +kernel
theorem dX11_init_488 : decode cX11_init 488 = .ok (.bipush 27, 2) := by decide +kernel
theorem dX11_init_490 : decode cX11_init 490 = .ok (.bipush 25, 2) := by decide +kernel
theorem dX11_init_492 : decode cX11_init 492 = .ok (.iastore, 1) := by decide +kernel
theorem dX11_init_493 : decode cX11_init 493 = .ok (.dup, 1) := by decide +kernel
theorem dX11_init_494 : decode cX11_init 494 = .ok (.bipush 28, 2) := by decide +kernel
theorem dX11_init_496 : decode cX11_init 496 = .ok (.bipush 26, 2) := by decide +kernel
theorem dX11_init_498 : decode cX11_init 498 = .ok (.iastore, 1) := by decide +kernel
theorem dX11_init_499 : decode cX11_init 499 = .ok (.dup, 1) := by decide +kernel
theorem dX11_init_500 : decode cX11_init 500 = .ok (.bipush 29, 2) := by decide +kernel
theorem dX11_init_502 : decode cX11_init 502 = .ok (.bipush 27, 2) := by decide +kernel
theorem dX11_init_504 : decode cX11_init 504 = .ok (.iastore, 1) := by decide +kernel
theorem dX11_init_505 : decode cX11_init 505 = .ok (.dup, 1) := by decide +kernel
theorem dX11_init_506 : decode cX11_init 506 = .ok (.bipush 30, 2) := by decide +kernel
theorem dX11_init_508 : decode cX11_init 508 = .ok (.bipush 28, 2) := by decide +kernel
theorem dX11_init_510 : decode cX11_init 510 = .ok (.iastore, 1) := by decide +kernel
theorem dX11_init_511 : decode cX11_init 511 = .ok (.dup, 1) := by decide +kernel
theorem dX11_init_512 : decode cX11_init 512 = .ok (.bipush 31, 2) := by decide +kernel
theorem dX11_init_514 : decode cX11_init 514 = .ok (.bipush 29, 2) := by decide +kernel
theorem dX11_init_516 : decode cX11_init 516 = .ok (.iastore, 1) := by decide +kernel
theorem dX11_init_517 : decode cX11_init 517 = .ok (.dup, 1) := by decide +kernel
theorem dX11_init_518 : decode cX11_init 518 = .ok (.bipush 32, 2) := by decide +kernel
theorem dX11_init_520 : decode cX11_init 520 = .ok (.bipush 30, 2) := by decide +kernel
theorem dX11_init_522 : decode cX11_init 522 = .ok (.iastore, 1) := by decide +kernel
theorem dX11_init_523 : decode cX11_init 523 = .ok (.dup, 1) := by decide +kernel
theorem dX11_init_524 : decode cX11_init 524 = .ok (.bipush 33, 2) := by decide +kernel
theorem dX11_init_526 : decode cX11_init 526 = .ok (.bipush 31, 2) := by decide +kernel
theorem dX11_init_528 : decode cX11_init 528 = .ok (.iastore, 1) := by decide +kernel
theorem dX11_init_529 : decode cX11_init 529 = .ok (.dup, 1) := by decide +kernel
theorem dX11_init_530 : decode cX11_init 530 = .ok (.bipush 34, 2) := by decide +kernel
theorem dX11_init_532 : decode cX11_init 532 = .ok (.bipush 32, 2) := by decide +kernel
theorem dX11_init_534 : decode cX11_init 534 = .ok (.iastore, 1) := by decide +kernel
theorem dX11_init_535 : decode cX11_init 535 = .ok (.dup, 1) := by decide +kernel
theorem dX11_init_536 : decode cX11_init 536 = .ok (.bipush 35, 2) := by decide +kernel
theorem dX11_init_538 : decode cX11_init 538 = .ok (.bipush 33, 2) := by decide +kernel
theorem dX11_init_540 : decode cX11_init 540 = .ok (.iastore, 1) := by decide +kernel
theorem dX11_init_541 : decode cX11_init 541 = .ok (.dup, 1) := by decide +kernel
theorem dX11_init_542 : decode cX11_init 542 = .ok (.bipush 36, 2) := by decide +kernel
theorem dX11_init_544 : decode cX11_init 544 = .ok (.bipush 34, 2) := by decide +kernel
theorem dX11_init_546 : decode cX11_init 546 = .ok (.iastore, 1) := by decide +kernel
theorem dX11_init_547 : decode cX11_init 547 = .ok (.dup, 1) := by decide +kernel
theorem dX11_init_548 : decode cX11_init 548 = .ok (.bipush 37, 2) := by decide +kernel
theorem dX11_init_550 : decode cX11_init 550 = .ok (.bipush 35, 2) := by decide +kernel
theorem dX11_init_552 : decode cX11_init 552 = .ok (.iastore, 1) := by decide +kernel
theorem dX11_init_553 : decode cX11_init 553 = .ok (.dup, 1) := by decide +kernel
theorem dX11_init_554 : decode cX11_init 554 = .ok (.bipush 38, 2) := by decide +kernel
theorem dX11_init_556 : decode cX11_init 556 = .ok (.bipush 36, 2) := by decide +kernel
theorem dX11_init_558 : decode cX11_init 558 = .ok (.iastore, 1) := by decide +kernel
theorem dX11_init_559 : decode cX11_init 559 = .ok (.dup, 1) := by decide +kernel
theorem dX11_init_560 : decode cX11_init 560 = .ok (.bipush 39, 2) := by decide +kernel
theorem dX11_init_562 : decode cX11_init 562 = .ok (.bipush 37, 2) := by decide +kernel
theorem dX11_init_564 : decode cX11_init 564 = .ok (.iastore, 1) := by decide +kernel
theorem dX11_init_565 : decode cX11_init 565 = .ok (.dup, 1) := by decide +kernel
theorem dX11_init_566 : decode cX11_init 566 = .ok (.bipush 40, 2) := by decide +kernel
theorem dX11_init_568 : decode cX11_init 568 = .ok (.bipush 38, 2) := by decide +kernel
theorem dX11_init_570 : decode cX11_init 570 = .ok (.iastore, 1) := by decide +kernel
theorem dX11_init_571 : decode cX11_init 571 = .ok (.dup, 1) := by decide +kernel
theorem dX11_init_572 : decode cX11_init 572 = .ok (.bipush 41, 2) := by decide +kernel
theorem dX11_init_574 : decode cX11_init 574 = .ok (.bipush 39, 2) := by decide +kernel
theorem dX11_init_576 : decode cX11_init 576 = .ok (.iastore, 1) := by decide +kernel
theorem dX11_init_577 : decode cX11_init 577 = .ok (.dup, 1) := by decide +kernel
theorem dX11_init_578 : decode cX11_init 578 = .ok (.bipush 42, 2) := by decide +kernel
theorem dX11_init_580 : decode cX11_init 580 = .ok (.bipush 40, 2) := by decide +kernel
theorem dX11_init_582 : decode cX11_init 582 = .ok (.iastore, 1) := by decide +kernel
theorem dX11_init_583 : decode cX11_init 583 = .ok (.dup, 1) := by decide +kernel
theorem dX11_init_584 : decode cX11_init 584 = .ok (.bipush 43, 2) := by decide +kernel
theorem dX11_init_586 : decode cX11_init 586 = .ok (.bipush 41, 2) := by decide +kernel
theorem dX11_init_588 : decode cX11_init 588 = .ok (.iastore, 1) := by decide +kernel
theorem dX11_init_589 : decode cX11_init 589 = .ok (.dup, 1) := by decide +kernel
theorem dX11_init_590 : decode cX11_init 590 = .ok (.bipush 44, 2) := by decide +kernel
theorem dX11_init_592 : decode cX11_init 592 = .ok (.bipush 42, 2) := by decide +kernel
theorem dX11_init_594 : decode cX11_init 594 = .ok (.iastore, 1) := by decide +kernel
theorem dX11_init_595 : decode cX11_init 595 = .ok (.dup, 1) := by decide +kernel
theorem dX11_init_596 : decode cX11_init 596 = .ok (.bipush 45, 2) := by decide +kernel
theorem dX11_init_598 : decode cX11_init 598 = .ok (.bipush 43, 2) := by decide +kernel
theorem dX11_init_600 : decode cX11_init 600 = .ok (.iastore, 1) := by decide +kernel
theorem dX11_init_601 : decode cX11_init 601 = .ok (.dup, 1) := by decide +kernel
theorem dX11_init_602 : decode cX11_init 602 = .ok (.bipush 46, 2) := by decide +kernel
theorem dX11_init_604 : decode cX11_init 604 = .ok (.bipush 46, 2) := by decide +kernel
theorem dX11_init_606 : decode cX11_init 606 = .ok (.iastore, 1) := by decide +kernel
theorem dX11_init_607 : decode cX11_init 607 = .ok (.putfield 13, 3) := by decide +kernel
theorem dX11_init_610 : decode cX11_init 610 = .ok (.aload_n 0, 1) := by decide +kernel
theorem dX11_init_611 : decode cX11_init 611 = .ok (.iconst 1, 1) := by decide +kernel
theorem dX11_init_612 : decode cX11_init 612 = .ok (.putfield 16, 3) := by decide +kernel
theorem dX11_init_615 : decode cX11_init 615 = .ok (.aload_n 0, 1) := by decide +kernel
theorem dX11_init_616 : decode cX11_init 616 = .ok (.iconst 1, 1) := by decide +kernel
theorem dX11_init_617 : decode cX11_init 617 = .ok (.putfield 20, 3) := by decide +kernel
theorem dX11_init_620 : decode cX11_init 620 = .ok (.aload_n 0, 1) := by decide +kernel
theorem dX11_init_621 : decode cX11_init 621 = .ok (.sipush 4096, 3) := by decide +kernel
theorem dX11_init_624 : decode cX11_init 624 = .ok (.newarray .int, 2) := by decide +kernel
theorem dX11_init_626 : decode cX11_init 626 = .ok (.putfield 23, 3) := by decide +kernel
theorem dX11_init_629 : decode cX11_init 629 = .ok (.aload_n 0, 1) := by decide +kernel
