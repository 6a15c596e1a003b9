theorem dX11_fill_67 : decode cX11_fill 67 = .ok (.aload_n 0, 1) := by decide +kernel
theorem dX11_fill_68 : decode cX11_fill 68 = .ok (.getfield 16, 3) := by decide +kernel
theorem dX11_fill_71 : decode cX11_fill 71 = .ok (.imul, 1) := by decide +kernel
theorem dX11_fill_72 : decode cX11_fill 72 = .ok (.iload 6, 2) := by decide +kernel
theorem dX11_fill_74 : decode cX11_fill 74 = .ok (.iadd, 1) := by decide +kernel
theorem dX11_fill_75 : decode cX11_fill 75 = .ok (.iload 7, 2) := by decide +kernel
theorem dX11_fill_77 : decode cX11_fill 77 = .ok (.ldc_w 298, 3) := by decide +kernel
theorem dX11_fill_80 : decode cX11_fill 80 = .ok (.if_icmp .ne 10, 3) := by decide +kernel
theorem dX11_fill_83 : decode cX11_fill 83 = .ok (.iload 7, 2) := by decide +kernel
theorem dX11_fill_85 : decode cX11_fill 85 = .ok (.iconst 1, 1) := by decide +kernel
theorem dX11_fill_86 : decode cX11_fill 86 = .ok (.iadd, 1) := by decide +kernel
theorem dX11_fill_87 : decode cX11_fill 87 = .ok (.goto 5, 3) := by decide +kernel
theorem dX11_fill_90 : decode cX11_fill 90 = .ok (.iload 7, 2) := by decide +kernel
theorem dX11_fill_92 : decode cX11_fill 92 = .ok (.invokevirtual 289, 3) := by decide +kernel
theorem dX11_fill_95 : decode cX11_fill 95 = .ok (.iinc 6 1, 3) := by decide +kernel
theorem dX11_fill_98 : decode cX11_fill 98 = .ok (.goto (-65), 3) := by decide +kernel
theorem dX11_fill_101 : decode cX11_fill 101 = .ok (.iinc 5 1, 3) := by decide +kernel
theorem dX11_fill_104 : decode cX11_fill 104 = .ok (.goto (-83), 3) := by decide +kernel
theorem dX11_fill_107 : decode cX11_fill 107 = .ok (.aload_n 0, 1) := by decide +kernel
theorem dX11_fill_108 : decode cX11_fill 108 = .ok (.invokevirtual 292, 3) := by decide +kernel
theorem dX11_fill_111 : decode cX11_fill 111 = .ok (.return_, 1) := by decide +kernel
set_option maxRecDepth 20000 in
theorem ggX11_written_X11_out : GoodIn wsX11_written wsX11_out := goodIn_r _ [9] (by decide +kernel) (by decide +kernel)
set_option maxRecDepth 20000 in
theorem gX11_written_X11_out : GoodIn wsX11_written (va_wsS RX11 278 yX11_out wsX11_out) := goodIn_app (goodIn_of _ (by decide +kernel)) ggX11_written_X11_out
set_option maxRecDepth 20000 in
theorem ggX11_written_X11_throwing : GoodIn wsX11_written wsX11_throwing := goodIn_r _ [13, 14, 15, 16, 17, 18, 19, 20, 21, 22, 23, 24, 25, 26, 27, 28, 29, 30, 31, 32, 33, 34, 35, 36, 37, 38, 39, 40, 41, 42, 43, 44, 45, 46, 47, 48, 49, 50, 51, 52, 53, 54, 55, 56] (by decide +kernel) (by decide +kernel)
set_option maxRecDepth 20000 in
theorem gX11_written_X11_throwing : GoodIn wsX11_written (wsV RX11 282 RX11 yX11_throwing wsX11_throwing) := goodIn_app (goodIn_of _ (by decide +kernel)) ggX11_written_X11_throwing
theorem dX11_written_0 : decode cX11_written 0 = .ok (.aload_n 0, 1) := by decide +kernel
theorem dX11_written_1 : decode cX11_written 1 = .ok (.aload_n 0, 1) := by decide +kernel
theorem dX11_written_2 : decode cX11_written 2 = .ok (.getfield 249, 3) := by decide +kernel
theorem dX11_written_5 : decode cX11_written 5 = .ok (.ifCond .ne 7, 3) := by decide +kernel
theorem dX11_written_8 : decode cX11_written 8 = .ok (.iconst 1, 1) := by decide +kernel
theorem dX11_written_9 : decode cX11_written 9 = .ok (.goto 4, 3) := by decide +kernel
theorem dX11_written_12 : decode cX11_written 12 = .ok (.iconst 0, 1) := by decide +kernel
theorem dX11_written_13 : decode cX11_written 13 = .ok (.iload_n 1, 1) := by decide +kernel
theorem dX11_written_14 : decode cX11_written 14 = .ok (.iconst 0, 1) := by decide +kernel
theorem dX11_written_15 : decode cX11_written 15 = .ok (.iconst 3, 1) := by decide +kernel
theorem dX11_written_16 : decode cX11_written 16 = .ok (.invokestatic 278, 3) := by decide +kernel
theorem dX11_written_19 : decode cX11_written 19 = .ok (.iconst 0, 1) := by decide +kernel
theorem dX11_written_20 : decode cX11_written 20 = .ok (.invokevirtual 282, 3) := by decide +kernel
theorem dX11_written_23 : decode cX11_written 23 = .ok (.ifCond .eq 5, 3) := by decide +kernel
theorem dX11_written_26 : decode cX11_written 26 = .ok (.iconst 0, 1) := by decide +kernel
theorem dX11_written_27 : decode cX11_written 27 = .ok (.ireturn, 1) := by decide +kernel
theorem dX11_written_28 : decode cX11_written 28 = .ok (.iload_n 1, 1) := by decide +kernel
theorem dX11_written_29 : decode cX11_written 29 = .ok (.ifCond .ne 10, 3) := by decide +kernel
theorem dX11_written_32 : decode cX11_written 32 = .ok (.aload_n 0, 1) := by decide +kernel
theorem dX11_written_33 : decode cX11_written 33 = .ok (.getfield 234, 3) := by decide +kernel
theorem dX11_written_36 : decode cX11_written 36 = .ok (.goto 31, 3) := by decide +kernel
theorem dX11_written_39 : decode cX11_written 39 = .ok (.iload_n 1, 1) := by decide +kernel
theorem dX11_written_40 : decode cX11_written 40 = .ok (.iconst 1, 1) := by decide +kernel
theorem dX11_written_41 : decode cX11_written 41 = .ok (.if_icmp .ne 10, 3) := by decide +kernel
theorem dX11_written_44 : decode cX11_written 44 = .ok (.aload_n 0, 1) := by decide +kernel
theorem dX11_written_45 : decode cX11_written 45 = .ok (.getfield 237, 3) := by decide +kernel
theorem dX11_written_48 : decode cX11_written 48 = .ok (.goto 19, 3) := by decide +kernel
theorem dX11_written_51 : decode cX11_written 51 = .ok (.iload_n 1, 1) := by decide +kernel
theorem dX11_written_52 : decode cX11_written 52 = .ok (.iconst 2, 1) := by decide +kernel
theorem dX11_written_53 : decode cX11_written 53 = .ok (.if_icmp .ne 10, 3) := by decide +kernel
theorem dX11_written_56 : decode cX11_written 56 = .ok (.aload_n 0, 1) := by decide +kernel
theorem dX11_written_57 : decode cX11_written 57 = .ok (.getfield 74, 3) := by decide +kernel
theorem dX11_written_60 : decode cX11_written 60 = .ok (.goto 7, 3) := by decide +kernel
theorem dX11_written_63 : decode cX11_written 63 = .ok (.aload_n 0, 1) := by decide +kernel
theorem dX11_written_64 : decode cX11_written 64 = .ok (.getfield 252, 3) := by decide +kernel
theorem dX11_written_67 : decode cX11_written 67 = .ok (.ireturn, 1) := by decide +kernel
set_option maxRecDepth 20000 in
theorem ggX11_pass_X11_out : GoodIn wsX11_pass wsX11_out := goodIn_r _ [7] (by decide +kernel) (by decide +kernel)
set_option maxRecDepth 20000 in
theorem gX11_pass_X11_out : GoodIn wsX11_pass (va_wsS RX11 278 yX11_out wsX11_out) := goodIn_app (goodIn_of _ (by decide +kernel)) ggX11_pass_X11_out
set_option maxRecDepth 20000 in
theorem ggX11_pass_X11_throwing : GoodIn wsX11_pass wsX11_throwing := goodIn_r _ [11, 12, 30, 31, 32, 33, 34, 35, 36, 37, 38, 39, 40, 41, 42, 43, 44, 45, 46, 47, 48, 49, 50, 51, 52, 53, 54, 55, 56, 57, 58, 59, 60, 61, 62, 63, 64, 65, 66, 67, 68, 69, 70, 71] (by decide +kernel) (by decide +kernel)
set_option maxRecDepth 20000 in
theorem gX11_pass_X11_throwing : GoodIn wsX11_pass (wsV RX11 282 RX11 yX11_throwing wsX11_throwing) := goodIn_app (goodIn_of _ (by decide +kernel)) ggX11_pass_X11_throwing
set_option maxRecDepth 20000 in
theorem ggX11_pass_X11_kindOf : GoodIn wsX11_pass wsX11_kindOf := goodIn_r _ [15] (by decide +kernel) (by decide +kernel)
set_option maxRecDepth 20000 in
theorem gX11_pass_X11_kindOf : GoodIn wsX11_pass (va_wsS RX11 212 yX11_kindOf wsX11_kindOf) := goodIn_app (goodIn_of _ (by decide +kernel)) ggX11_pass_X11_kindOf
set_option maxRecDepth 20000 in
theorem ggX11_pass_X11_planeOf : GoodIn wsX11_pass wsX11_planeOf := goodIn_r _ [19, 20, 30, 31, 32, 33, 34, 35, 36, 37, 38, 39, 40, 41, 42, 43, 44, 45, 46, 47, 48, 49, 50, 51, 52, 53, 54, 55, 56, 57, 58, 59, 60, 61, 62, 63, 64, 65, 66, 67, 68, 69, 70, 71] (by decide +kernel) (by decide +kernel)
set_option maxRecDepth 20000 in
theorem gX11_pass_X11_planeOf : GoodIn wsX11_pass (wsV RX11 215 RX11 yX11_planeOf wsX11_planeOf) := goodIn_app (goodIn_of _ (by decide +kernel)) ggX11_pass_X11_planeOf
set_option maxRecDepth 20000 in
theorem ggX11_pass_X11_isRaw : GoodIn wsX11_pass wsX11_isRaw := goodIn_r _ [24, 25, 13, 14, 6, 15, 30, 31, 32, 33, 34, 35, 36, 37, 38, 39, 40, 41, 42, 43, 44, 45, 46, 47, 48, 49, 50, 51, 52, 53, 54, 55, 56, 57, 58, 59, 60, 61, 62, 63, 64, 65, 66, 67, 68, 69, 70, 71] (by decide +kernel) (by decide +kernel)
set_option maxRecDepth 20000 in
theorem gX11_pass_X11_isRaw : GoodIn wsX11_pass (wsV RX11 262 RX11 yX11_isRaw wsX11_isRaw) := goodIn_app (goodIn_of _ (by decide +kernel)) ggX11_pass_X11_isRaw
set_option maxRecDepth 20000 in
theorem ggX11_pass_X11_ends : GoodIn wsX11_pass wsX11_ends := goodIn_r _ [29, 2, 25, 13, 14, 6, 15, 30, 31, 32, 33, 34, 35, 36, 37, 38, 39, 40, 41, 42, 43, 44, 45, 46, 47, 48, 49, 50, 51, 52, 53, 54, 55, 56, 57, 58, 59, 60, 61, 62, 63, 64, 65, 66, 67, 68, 69, 70, 71] (by decide +kernel) (by decide +kernel)
set_option maxRecDepth 20000 in
theorem gX11_pass_X11_ends : GoodIn wsX11_pass (wsV RX11 266 RX11 yX11_ends wsX11_ends) := goodIn_app (goodIn_of _ (by decide +kernel)) ggX11_pass_X11_ends
theorem dX11_pass_0 : decode cX11_pass 0 = .ok (.aload_n 0, 1) := by decide +kernel
theorem dX11_pass_1 : decode cX11_pass 1 = .ok (.aload_n 0, 1) := by decide +kernel
theorem dX11_pass_2 : decode cX11_pass 2 = .ok (.getfield 249, 3) := by decide +kernel
theorem dX11_pass_5 : decode cX11_pass 5 = .ok (.ifCond .ne 7, 3) := by decide +kernel
theorem dX11_pass_8 : decode cX11_pass 8 = .ok (.iconst 1, 1) := by decide +kernel
theorem dX11_pass_9 : decode cX11_pass 9 = .ok (.goto 4, 3) := by decide +kernel
theorem dX11_pass_12 : decode cX11_pass 12 = .ok (.iconst 0, 1) := by decide +kernel
theorem dX11_pass_13 : decode cX11_pass 13 = .ok (.iload_n 1, 1) := by decide +kernel
theorem dX11_pass_14 : decode cX11_pass 14 = .ok (.iconst 0, 1) := by decide +kernel
theorem dX11_pass_15 : decode cX11_pass 15 = .ok (.aload_n 0, 1) := by decide +kernel
theorem dX11_pass_16 : decode cX11_pass 16 = .ok (.getfield 237, 3) := by decide +kernel
theorem dX11_pass_19 : decode cX11_pass 19 = .ok (.iconst 1, 1) := by decide +kernel
theorem dX11_pass_20 : decode cX11_pass 20 = .ok (.isub, 1) := by decide +kernel
theorem dX11_pass_21 : decode cX11_pass 21 = .ok (.invokestatic 278, 3) := by decide +kernel
theorem dX11_pass_24 : decode cX11_pass 24 = .ok (.iload_n 2, 1) := by decide +kernel
theorem dX11_pass_25 : decode cX11_pass 25 = .ok (.iconst 0, 1) := by decide +kernel
theorem dX11_pass_26 : decode cX11_pass 26 = .ok (.iconst 4, 1) := by decide +kernel
theorem dX11_pass_27 : decode cX11_pass 27 = .ok (.invokestatic 278, 3) := by decide +kernel
theorem dX11_pass_30 : decode cX11_pass 30 = .ok (.invokevirtual 282, 3) := by decide +kernel
theorem dX11_pass_33 : decode cX11_pass 33 = .ok (.ifCond .eq 5, 3) := by decide +kernel
theorem dX11_pass_36 : decode cX11_pass 36 = .ok (.iconst 0, 1) := by decide +kernel
theorem dX11_pass_37 : decode cX11_pass 37 = .ok (.ireturn, 1) := by decide +kernel
theorem dX11_pass_38 : decode cX11_pass 38 = .ok (.iload_n 2, 1) := by decide +kernel
theorem dX11_pass_39 : decode cX11_pass 39 = .ok (.tableswitch 68 0 3 #[29, 34, 40, 54], 29) := by decide +kernel
theorem dX11_pass_68 : decode cX11_pass 68 = .ok (.iload_n 1, 1) := by decide +kernel
theorem dX11_pass_69 : decode cX11_pass 69 = .ok (.invokestatic 212, 3) := by decide +kernel
theorem dX11_pass_72 : decode cX11_pass 72 = .ok (.ireturn, 1) := by decide +kernel
theorem dX11_pass_73 : decode cX11_pass 73 = .ok (.aload_n 0, 1) := by decide +kernel
theorem dX11_pass_74 : decode cX11_pass 74 = .ok (.iload_n 1, 1) := by decide +kernel
theorem dX11_pass_75 : decode cX11_pass 75 = .ok (.invokevirtual 215, 3) := by decide +kernel
theorem dX11_pass_78 : decode cX11_pass 78 = .ok (.ireturn, 1) := by decide +kernel
theorem dX11_pass_79 : decode cX11_pass 79 = .ok (.aload_n 0, 1) := by decide +kernel
theorem dX11_pass_80 : decode cX11_pass 80 = .ok (.iload_n 1, 1) := by decide +kernel
theorem dX11_pass_81 : decode cX11_pass 81 = .ok (.invokevirtual 262, 3) := by decide +kernel
theorem dX11_pass_84 : decode cX11_pass 84 = .ok (.ifCond .eq 7, 3) := by decide +kernel
theorem dX11_pass_87 : decode cX11_pass 87 = .ok (.iconst 1, 1) := by decide +kernel
theorem dX11_pass_88 : decode cX11_pass 88 = .ok (.goto 4, 3) := by decide +kernel
theorem dX11_pass_91 : decode cX11_pass 91 = .ok (.iconst 0, 1) := by decide +kernel
theorem dX11_pass_92 : decode cX11_pass 92 = .ok (.ireturn, 1) := by decide +kernel
theorem dX11_pass_93 : decode cX11_pass 93 = .ok (.aload_n 0, 1) := by decide +kernel
theorem dX11_pass_94 : decode cX11_pass 94 = .ok (.iload_n 1, 1) := by decide +kernel
theorem dX11_pass_95 : decode cX11_pass 95 = .ok (.invokevirtual 266, 3) := by decide +kernel
theorem dX11_pass_98 : decode cX11_pass 98 = .ok (.ifCond .eq 7, 3) := by decide +kernel
theorem dX11_pass_101 : decode cX11_pass 101 = .ok (.iconst 1, 1) := by decide +kernel
theorem dX11_pass_102 : decode cX11_pass 102 = .ok (.goto 4, 3) := by decide +kernel
theorem dX11_pass_105 : decode cX11_pass 105 = .ok (.iconst 0, 1) := by decide +kernel
theorem dX11_pass_106 : decode cX11_pass 106 = .ok (.ireturn, 1) := by decide +kernel
theorem dX11_pass_107 : decode cX11_pass 107 = .ok (.aload_n 0, 1) := by decide +kernel
theorem dX11_pass_108 : decode cX11_pass 108 = .ok (.getfield 30, 3) := by decide +kernel
theorem dX11_pass_111 : decode cX11_pass 111 = .ok (.iload_n 1, 1) := by decide +kernel
theorem dX11_pass_112 : decode cX11_pass 112 = .ok (.iaload, 1) := by decide +kernel
theorem dX11_pass_113 : decode cX11_pass 113 = .ok (.ireturn, 1) := by decide +kernel
set_option maxRecDepth 20000 in
theorem ggX11_gain_X11_out : GoodIn wsX11_gain wsX11_out := goodIn_r _ [7] (by decide +kernel) (by decide +kernel)
set_option maxRecDepth 20000 in
theorem gX11_gain_X11_out : GoodIn wsX11_gain (va_wsS RX11 278 yX11_out wsX11_out) := goodIn_app (goodIn_of _ (by decide +kernel)) ggX11_gain_X11_out
set_option maxRecDepth 20000 in
theorem ggX11_gain_X11_throwing : GoodIn wsX11_gain wsX11_throwing := goodIn_r _ [11, 12, 13, 14, 15, 16, 17, 18, 19, 20, 21, 22, 23, 24, 25, 26, 27, 28, 29, 30, 31, 32, 33, 34, 35, 36, 37, 38, 39, 40, 41, 42, 43, 44, 45, 46, 47, 48, 49, 50, 51, 52, 53, 54] (by decide +kernel) (by decide +kernel)
set_option maxRecDepth 20000 in
theorem gX11_gain_X11_throwing : GoodIn wsX11_gain (wsV RX11 282 RX11 yX11_throwing wsX11_throwing) := goodIn_app (goodIn_of _ (by decide +kernel)) ggX11_gain_X11_throwing
theorem dX11_gain_0 : decode cX11_gain 0 = .ok (.aload_n 0, 1) := by decide +kernel
theorem dX11_gain_1 : decode cX11_gain 1 = .ok (.aload_n 0, 1) := by decide +kernel
theorem dX11_gain_2 : decode cX11_gain 2 = .ok (.getfield 249, 3) := by decide +kernel
theorem dX11_gain_5 : decode cX11_gain 5 = .ok (.ifCond .ne 7, 3) := by decide +kernel
theorem dX11_gain_8 : decode cX11_gain 8 = .ok (.iconst 1, 1) := by decide +kernel
theorem dX11_gain_9 : decode cX11_gain 9 = .ok (.goto 4, 3) := by decide +kernel
theorem dX11_gain_12 : decode cX11_gain 12 = .ok (.iconst 0, 1) := by decide +kernel
theorem dX11_gain_13 : decode cX11_gain 13 = .ok (.iload_n 1, 1) := by decide +kernel
theorem dX11_gain_14 : decode cX11_gain 14 = .ok (.iconst 0, 1) := by decide +kernel
theorem dX11_gain_15 : decode cX11_gain 15 = .ok (.aload_n 0, 1) := by decide +kernel
theorem dX11_gain_16 : decode cX11_gain 16 = .ok (.getfield 237, 3) := by decide +kernel
theorem dX11_gain_19 : decode cX11_gain 19 = .ok (.iconst 1, 1) := by decide +kernel
theorem dX11_gain_20 : decode cX11_gain 20 = .ok (.isub, 1) := by decide +kernel
theorem dX11_gain_21 : decode cX11_gain 21 = .ok (.invokestatic 278, 3) := by decide +kernel
theorem dX11_gain_24 : decode cX11_gain 24 = .ok (.iconst 0, 1) := by decide +kernel
theorem dX11_gain_25 : decode cX11_gain 25 = .ok (.invokevirtual 282, 3) := by decide +kernel
theorem dX11_gain_28 : decode cX11_gain 28 = .ok (.ifCond .eq 5, 3) := by decide +kernel
theorem dX11_gain_31 : decode cX11_gain 31 = .ok (.lconst 0, 1) := by decide +kernel
theorem dX11_gain_32 : decode cX11_gain 32 = .ok (.lreturn, 1) := by decide +kernel
theorem dX11_gain_33 : decode cX11_gain 33 = .ok (.aload_n 0, 1) := by decide +kernel
theorem dX11_gain_34 : decode cX11_gain 34 = .ok (.getfield 33, 3) := by decide +kernel
theorem dX11_gain_37 : decode cX11_gain 37 = .ok (.iload_n 1, 1) := by decide +kernel
theorem dX11_gain_38 : decode cX11_gain 38 = .ok (.laload, 1) := by decide +kernel
theorem dX11_gain_39 : decode cX11_gain 39 = .ok (.lreturn, 1) := by decide +kernel
set_option maxRecDepth 20000 in
theorem ggX11_at_X11_out : GoodIn wsX11_at wsX11_out := goodIn_r _ [7] (by decide +kernel) (by decide +kernel)
set_option maxRecDepth 20000 in
theorem gX11_at_X11_out : GoodIn wsX11_at (va_wsS RX11 278 yX11_out wsX11_out) := goodIn_app (goodIn_of _ (by decide +kernel)) ggX11_at_X11_out
set_option maxRecDepth 20000 in
theorem ggX11_at_X11_throwing : GoodIn wsX11_at wsX11_throwing := goodIn_r _ [11, 12, 13, 14, 15, 16, 17, 18, 19, 20, 21, 22, 23, 24, 25, 26, 27, 28, 29, 30, 31, 32, 33, 34, 35, 36, 37, 38, 39, 40, 41, 42, 43, 44, 45, 46, 47, 48, 49, 50, 51, 52, 53, 54] (by decide +kernel) (by decide +kernel)
set_option maxRecDepth 20000 in
theorem gX11_at_X11_throwing : GoodIn wsX11_at (wsV RX11 282 RX11 yX11_throwing wsX11_throwing) := goodIn_app (goodIn_of _ (by decide +kernel)) ggX11_at_X11_throwing
theorem dX11_at_0 : decode cX11_at 0 = .ok (.aload_n 0, 1) := by decide +kernel
theorem dX11_at_1 : decode cX11_at 1 = .ok (.aload_n 0, 1) := by decide +kernel
theorem dX11_at_2 : decode cX11_at 2 = .ok (.getfield 249, 3) := by decide +kernel
theorem dX11_at_5 : decode cX11_at 5 = .ok (.ifCond .ne 7, 3) := by decide +kernel
theorem dX11_at_8 : decode cX11_at 8 = .ok (.iconst 1, 1) := by decide +kernel
theorem dX11_at_9 : decode cX11_at 9 = .ok (.goto 4, 3) := by decide +kernel
theorem dX11_at_12 : decode cX11_at 12 = .ok (.iconst 0, 1) := by decide +kernel
theorem dX11_at_13 : decode cX11_at 13 = .ok (.iload_n 1, 1) := by decide +kernel
theorem dX11_at_14 : decode cX11_at 14 = .ok (.iconst 0, 1) := by decide +kernel
theorem dX11_at_15 : decode cX11_at 15 = .ok (.aload_n 0, 1) := by decide +kernel
theorem dX11_at_16 : decode cX11_at 16 = .ok (.getfield 74, 3) := by decide +kernel
theorem dX11_at_19 : decode cX11_at 19 = .ok (.iconst 1, 1) := by decide +kernel
theorem dX11_at_20 : decode cX11_at 20 = .ok (.isub, 1) := by decide +kernel
theorem dX11_at_21 : decode cX11_at 21 = .ok (.invokestatic 278, 3) := by decide +kernel
theorem dX11_at_24 : decode cX11_at 24 = .ok (.iconst 0, 1) := by decide +kernel
theorem dX11_at_25 : decode cX11_at 25 = .ok (.invokevirtual 282, 3) := by decide +kernel
theorem dX11_at_28 : decode cX11_at 28 = .ok (.ifCond .eq 5, 3) := by decide +kernel
theorem dX11_at_31 : decode cX11_at 31 = .ok (.iconst 0, 1) := by decide +kernel
theorem dX11_at_32 : decode cX11_at 32 = .ok (.ireturn, 1) := by decide +kernel
theorem dX11_at_33 : decode cX11_at 33 = .ok (.aload_n 0, 1) := by decide +kernel
theorem dX11_at_34 : decode cX11_at 34 = .ok (.getfield 68, 3) := by decide +kernel
theorem dX11_at_37 : decode cX11_at 37 = .ok (.iload_n 1, 1) := by decide +kernel
theorem dX11_at_38 : decode cX11_at 38 = .ok (.iaload, 1) := by decide +kernel
theorem dX11_at_39 : decode cX11_at 39 = .ok (.ireturn, 1) := by decide +kernel
set_option maxRecDepth 20000 in
theorem ggX11_change_X11_out : GoodIn wsX11_change wsX11_out := goodIn_r _ [8] (by decide +kernel) (by decide +kernel)
set_option maxRecDepth 20000 in
theorem gX11_change_X11_out : GoodIn wsX11_change (va_wsS RX11 278 yX11_out wsX11_out) := goodIn_app (goodIn_of _ (by decide +kernel)) ggX11_change_X11_out
set_option maxRecDepth 20000 in
theorem ggX11_change_X11_throwing : GoodIn wsX11_change wsX11_throwing := goodIn_r _ [12, 13, 14, 15, 16, 17, 18, 19, 20, 21, 22, 23, 24, 25, 26, 27, 28, 29, 30, 31, 32, 33, 34, 35, 36, 37, 38, 39, 40, 41, 42, 43, 44, 45, 46, 47, 48, 49, 50, 51, 52, 53, 54, 55] (by decide +kernel) (by decide +kernel)
set_option maxRecDepth 20000 in
theorem gX11_change_X11_throwing : GoodIn wsX11_change (wsV RX11 282 RX11 yX11_throwing wsX11_throwing) := goodIn_app (goodIn_of _ (by decide +kernel)) ggX11_change_X11_throwing
theorem dX11_change_0 : decode cX11_change 0 = .ok (.aload_n 0, 1) := by decide +kernel
theorem dX11_change_1 : decode cX11_change 1 = .ok (.aload_n 0, 1) := by decide +kernel
theorem dX11_change_2 : decode cX11_change 2 = .ok (.getfield 249, 3) := by decide +kernel
theorem dX11_change_5 : decode cX11_change 5 = .ok (.ifCond .ne 7, 3) := by decide +kernel
theorem dX11_change_8 : decode cX11_change 8 = .ok (.iconst 1, 1) := by decide +kernel
theorem dX11_change_9 : decode cX11_change 9 = .ok (.goto 4, 3) := by decide +kernel
theorem dX11_change_12 : decode cX11_change 12 = .ok (.iconst 0, 1) := by decide +kernel
theorem dX11_change_13 : decode cX11_change 13 = .ok (.iload_n 1, 1) := by decide +kernel
theorem dX11_change_14 : decode cX11_change 14 = .ok (.iconst 0, 1) := by decide +kernel
theorem dX11_change_15 : decode cX11_change 15 = .ok (.aload_n 0, 1) := by decide +kernel
theorem dX11_change_16 : decode cX11_change 16 = .ok (.getfield 74, 3) := by decide +kernel
theorem dX11_change_19 : decode cX11_change 19 = .ok (.iconst 1, 1) := by decide +kernel
theorem dX11_change_20 : decode cX11_change 20 = .ok (.isub, 1) := by decide +kernel
theorem dX11_change_21 : decode cX11_change 21 = .ok (.invokestatic 278, 3) := by decide +kernel
theorem dX11_change_24 : decode cX11_change 24 = .ok (.iconst 0, 1) := by decide +kernel
theorem dX11_change_25 : decode cX11_change 25 = .ok (.invokevirtual 282, 3) := by decide +kernel
theorem dX11_change_28 : decode cX11_change 28 = .ok (.ifCond .eq 5, 3) := by decide +kernel
theorem dX11_change_31 : decode cX11_change 31 = .ok (.iconst 0, 1) := by decide +kernel
theorem dX11_change_32 : decode cX11_change 32 = .ok (.ireturn, 1) := by decide +kernel
theorem dX11_change_33 : decode cX11_change 33 = .ok (.aload_n 0, 1) := by decide +kernel
theorem dX11_change_34 : decode cX11_change 34 = .ok (.getfield 68, 3) := by decide +kernel
theorem dX11_change_37 : decode cX11_change 37 = .ok (.iload_n 1, 1) := by decide +kernel
theorem dX11_change_38 : decode cX11_change 38 = .ok (.iaload, 1) := by decide +kernel
theorem dX11_change_39 : decode cX11_change 39 = .ok (.istore_n 3, 1) := by decide +kernel
theorem dX11_change_40 : decode cX11_change 40 = .ok (.aload_n 0, 1) := by decide +kernel
theorem dX11_change_41 : decode cX11_change 41 = .ok (.getfield 68, 3) := by decide +kernel
theorem dX11_change_44 : decode cX11_change 44 = .ok (.iload_n 1, 1) := by decide +kernel
theorem dX11_change_45 : decode cX11_change 45 = .ok (.iload_n 2, 1) := by decide +kernel
theorem dX11_change_46 : decode cX11_change 46 = .ok (.sipush 255, 3) := by decide +kernel
theorem dX11_change_49 : decode cX11_change 49 = .ok (.iand, 1) := by decide +kernel
theorem dX11_change_50 : decode cX11_change 50 = .ok (.iastore, 1) := by decide +kernel
theorem dX11_change_51 : decode cX11_change 51 = .ok (.aload_n 0, 1) := by decide +kernel
theorem dX11_change_52 : decode cX11_change 52 = .ok (.iconst 0, 1) := by decide +kernel
theorem dX11_change_53 : decode cX11_change 53 = .ok (.putfield 246, 3) := by decide +kernel
theorem dX11_change_56 : decode cX11_change 56 = .ok (.iload_n 3, 1) := by decide +kernel
theorem dX11_change_57 : decode cX11_change 57 = .ok (.ireturn, 1) := by decide +kernel
set_option maxRecDepth 20000 in
theorem ggX11_worthAt_X11_worth : GoodIn wsX11_worthAt wsX11_worth := goodIn_r _ [6, 7, 8, 9, 10, 11, 12, 13, 14, 15, 16, 17, 18, 19, 20, 21, 22, 23, 24, 25, 26, 27, 28, 29, 30, 31, 32, 33, 34, 35, 36, 37, 38, 39, 40, 41, 42, 43, 44, 45, 46, 47, 48, 49, 50] (by decide +kernel) (by decide +kernel)
set_option maxRecDepth 20000 in
theorem gX11_worthAt_X11_worth : GoodIn wsX11_worthAt (wsV RX11 240 RX11 yX11_worth wsX11_worth) := goodIn_app (goodIn_of _ (by decide +kernel)) ggX11_worthAt_X11_worth
theorem dX11_worthAt_0 : decode cX11_worthAt 0 = .ok (.aload_n 0, 1) := by decide +kernel
theorem dX11_worthAt_1 : decode cX11_worthAt 1 = .ok (.getfield 49, 3) := by decide +kernel
theorem dX11_worthAt_4 : decode cX11_worthAt 4 = .ok (.iload_n 1, 1) := by decide +kernel
theorem dX11_worthAt_5 : decode cX11_worthAt 5 = .ok (.baload, 1) := by decide +kernel
theorem dX11_worthAt_6 : decode cX11_worthAt 6 = .ok (.ifCond .eq 12, 3) := by decide +kernel
theorem dX11_worthAt_9 : decode cX11_worthAt 9 = .ok (.aload_n 0, 1) := by decide +kernel
theorem dX11_worthAt_10 : decode cX11_worthAt 10 = .ok (.iload_n 1, 1) := by decide +kernel
theorem dX11_worthAt_11 : decode cX11_worthAt 11 = .ok (.invokevirtual 240, 3) := by decide +kernel
theorem dX11_worthAt_14 : decode cX11_worthAt 14 = .ok (.ineg, 1) := by decide +kernel
theorem dX11_worthAt_15 : decode cX11_worthAt 15 = .ok (.goto 8, 3) := by decide +kernel
theorem dX11_worthAt_18 : decode cX11_worthAt 18 = .ok (.aload_n 0, 1) := by decide +kernel
theorem dX11_worthAt_19 : decode cX11_worthAt 19 = .ok (.iload_n 1, 1) := by decide +kernel
theorem dX11_worthAt_20 : decode cX11_worthAt 20 = .ok (.invokevirtual 240, 3) := by decide +kernel
theorem dX11_worthAt_23 : decode cX11_worthAt 23 = .ok (.ireturn, 1) := by decide +kernel
set_option maxRecDepth 20000 in
theorem ggX11_value_X11_isThere : GoodIn wsX11_value wsX11_isThere := goodIn_r _ [7, 2, 8, 9, 10, 6, 11, 28, 29, 30, 31, 32, 33, 34, 35, 36, 37, 38, 39, 40, 41, 42, 43, 44, 45, 46, 47, 48, 49, 50, 51, 52, 53, 54, 55, 56, 57, 58, 59, 60, 61, 62, 63, 64, 65, 66, 67, 68, 69] (by decide +kernel) (by decide +kernel)
set_option maxRecDepth 20000 in
theorem gX11_value_X11_isThere : GoodIn wsX11_value (wsV RX11 295 RX11 yX11_isThere wsX11_isThere) := goodIn_app (goodIn_of _ (by decide +kernel)) ggX11_value_X11_isThere
set_option maxRecDepth 20000 in
theorem ggX11_value_X11_throwing : GoodIn wsX11_value wsX11_throwing := goodIn_r _ [15, 16, 28, 29, 30, 31, 32, 33, 34, 35, 36, 37, 38, 39, 40, 41, 42, 43, 44, 45, 46, 47, 48, 49, 50, 51, 52, 53, 54, 55, 56, 57, 58, 59, 60, 61, 62, 63, 64, 65, 66, 67, 68, 69] (by decide +kernel) (by decide +kernel)
set_option maxRecDepth 20000 in
theorem gX11_value_X11_throwing : GoodIn wsX11_value (wsV RX11 282 RX11 yX11_throwing wsX11_throwing) := goodIn_app (goodIn_of _ (by decide +kernel)) ggX11_value_X11_throwing
set_option maxRecDepth 20000 in
theorem ggX11_value_X11_worthAt : GoodIn wsX11_value wsX11_worthAt := goodIn_r _ [20, 21, 22, 23, 24, 6, 25, 26, 27, 28, 29, 30, 31, 32, 33, 34, 35, 36, 37, 38, 39, 40, 41, 42, 43, 44, 45, 46, 47, 48, 49, 50, 51, 52, 53, 54, 55, 56, 57, 58, 59, 60, 61, 62, 63, 64, 65, 66, 67, 68, 69] (by decide +kernel) (by decide +kernel)
set_option maxRecDepth 20000 in
theorem gX11_value_X11_worthAt : GoodIn wsX11_value (wsV RX11 299 RX11 yX11_worthAt wsX11_worthAt) := goodIn_app (goodIn_of _ (by decide +kernel)) ggX11_value_X11_worthAt
theorem dX11_value_0 : decode cX11_value 0 = .ok (.aload_n 0, 1) := by decide +kernel
theorem dX11_value_1 : decode cX11_value 1 = .ok (.aload_n 0, 1) := by decide +kernel
theorem dX11_value_2 : decode cX11_value 2 = .ok (.iload_n 1, 1) := by decide +kernel
theorem dX11_value_3 : decode cX11_value 3 = .ok (.iload_n 2, 1) := by decide +kernel
theorem dX11_value_4 : decode cX11_value 4 = .ok (.invokevirtual 295, 3) := by decide +kernel
theorem dX11_value_7 : decode cX11_value 7 = .ok (.ifCond .ne 7, 3) := by decide +kernel
theorem dX11_value_10 : decode cX11_value 10 = .ok (.iconst 1, 1) := by decide +kernel
theorem dX11_value_11 : decode cX11_value 11 = .ok (.goto 4, 3) := by decide +kernel
theorem dX11_value_14 : decode cX11_value 14 = .ok (.iconst 0, 1) := by decide +kernel
theorem dX11_value_15 : decode cX11_value 15 = .ok (.aload_n 0, 1) := by decide +kernel
theorem dX11_value_16 : decode cX11_value 16 = .ok (.getfield 246, 3) := by decide +kernel
theorem dX11_value_19 : decode cX11_value 19 = .ok (.ifCond .ne 7, 3) := by decide +kernel
theorem dX11_value_22 : decode cX11_value 22 = .ok (.iconst 1, 1) := by decide +kernel
theorem dX11_value_23 : decode cX11_value 23 = .ok (.goto 4, 3) := by decide +kernel
theorem dX11_value_26 : decode cX11_value 26 = .ok (.iconst 0, 1) := by decide +kernel
theorem dX11_value_27 : decode cX11_value 27 = .ok (.iconst 0, 1) := by decide +kernel
theorem dX11_value_28 : decode cX11_value 28 = .ok (.invokevirtual 282, 3) := by decide +kernel
theorem dX11_value_31 : decode cX11_value 31 = .ok (.ifCond .eq 5, 3) := by decide +kernel
theorem dX11_value_34 : decode cX11_value 34 = .ok (.iconst 0, 1) := by decide +kernel
theorem dX11_value_35 : decode cX11_value 35 = .ok (.ireturn, 1) := by decide +kernel
theorem dX11_value_36 : decode cX11_value 36 = .ok (.aload_n 0, 1) := by decide +kernel
theorem dX11_value_37 : decode cX11_value 37 = .ok (.iload_n 2, 1) := by decide +kernel
theorem dX11_value_38 : decode cX11_value 38 = .ok (.aload_n 0, 1) := by decide +kernel
theorem dX11_value_39 : decode cX11_value 39 = .ok (.getfield 16, 3) := by decide +kernel
theorem dX11_value_42 : decode cX11_value 42 = .ok (.imul, 1) := by decide +kernel
theorem dX11_value_43 : decode cX11_value 43 = .ok (.iload_n 1, 1) := by decide +kernel
theorem dX11_value_44 : decode cX11_value 44 = .ok (.iadd, 1) := by decide +kernel
theorem dX11_value_45 : decode cX11_value 45 = .ok (.invokevirtual 299, 3) := by decide +kernel
theorem dX11_value_48 : decode cX11_value 48 = .ok (.ireturn, 1) := by decide +kernel
set_option maxRecDepth 20000 in
theorem ggX11_known_X11_isThere : GoodIn wsX11_known wsX11_isThere := goodIn_r _ [8, 3, 9, 10, 11, 7, 12, 18, 19, 20, 21, 22, 23, 24, 25, 26, 27, 28, 29, 30, 31, 32, 33, 34, 35, 36, 37, 38, 39, 40, 41, 42, 43, 44, 45, 46, 47, 48, 49, 50, 51, 52, 53, 54, 55, 56, 57, 58, 59] (by decide +kernel) (by decide +kernel)
set_option maxRecDepth 20000 in
theorem gX11_known_X11_isThere : GoodIn wsX11_known (wsV RX11 295 RX11 yX11_isThere wsX11_isThere) := goodIn_app (goodIn_of _ (by decide +kernel)) ggX11_known_X11_isThere
set_option maxRecDepth 20000 in
theorem ggX11_known_X11_throwing : GoodIn wsX11_known wsX11_throwing := goodIn_r _ [16, 17, 18, 19, 20, 21, 22, 23, 24, 25, 26, 27, 28, 29, 30, 31, 32, 33, 34, 35, 36, 37, 38, 39, 40, 41, 42, 43, 44, 45, 46, 47, 48, 49, 50, 51, 52, 53, 54, 55, 56, 57, 58, 59] (by decide +kernel) (by decide +kernel)
set_option maxRecDepth 20000 in
theorem gX11_known_X11_throwing : GoodIn wsX11_known (wsV RX11 282 RX11 yX11_throwing wsX11_throwing) := goodIn_app (goodIn_of _ (by decide +kernel)) ggX11_known_X11_throwing
theorem dX11_known_0 : decode cX11_known 0 = .ok (.aload_n 0, 1) := by decide +kernel
theorem dX11_known_1 : decode cX11_known 1 = .ok (.aload_n 0, 1) := by decide +kernel
theorem dX11_known_2 : decode cX11_known 2 = .ok (.iload_n 1, 1) := by decide +kernel
theorem dX11_known_3 : decode cX11_known 3 = .ok (.iload_n 2, 1) := by decide +kernel
theorem dX11_known_4 : decode cX11_known 4 = .ok (.invokevirtual 295, 3) := by decide +kernel
theorem dX11_known_7 : decode cX11_known 7 = .ok (.ifCond .ne 7, 3) := by decide +kernel
theorem dX11_known_10 : decode cX11_known 10 = .ok (.iconst 1, 1) := by decide +kernel
theorem dX11_known_11 : decode cX11_known 11 = .ok (.goto 4, 3) := by decide +kernel
theorem dX11_known_14 : decode cX11_known 14 = .ok (.iconst 0, 1) := by decide +kernel
theorem dX11_known_15 : decode cX11_known 15 = .ok (.aload_n 0, 1) := by decide +kernel
theorem dX11_known_16 : decode cX11_known 16 = .ok (.getfield 246, 3) := by decide +kernel
theorem dX11_known_19 : decode cX11_known 19 = .ok (.ifCond .ne 7, 3) := by decide +kernel
theorem dX11_known_22 : decode cX11_known 22 = .ok (.iconst 1, 1) := by decide +kernel
theorem dX11_known_23 : decode cX11_known 23 = .ok (.goto 4, 3) := by decide +kernel
theorem dX11_known_26 : decode cX11_known 26 = .ok (.iconst 0, 1) := by decide +kernel
theorem dX11_known_27 : decode cX11_known 27 = .ok (.iconst 0, 1) := by decide +kernel
theorem dX11_known_28 : decode cX11_known 28 = .ok (.invokevirtual 282, 3) := by decide +kernel
theorem dX11_known_31 : decode cX11_known 31 = .ok (.ifCond .eq 5, 3) := by decide +kernel
theorem dX11_known_34 : decode cX11_known 34 = .ok (.iconst 0, 1) := by decide +kernel
theorem dX11_known_35 : decode cX11_known 35 = .ok (.ireturn, 1) := by decide +kernel
theorem dX11_known_36 : decode cX11_known 36 = .ok (.aload_n 0, 1) := by decide +kernel
theorem dX11_known_37 : decode cX11_known 37 = .ok (.getfield 46, 3) := by decide +kernel
theorem dX11_known_40 : decode cX11_known 40 = .ok (.iload_n 2, 1) := by decide +kernel
theorem dX11_known_41 : decode cX11_known 41 = .ok (.aload_n 0, 1) := by decide +kernel
theorem dX11_known_42 : decode cX11_known 42 = .ok (.getfield 16, 3) := by decide +kernel
theorem dX11_known_45 : decode cX11_known 45 = .ok (.imul, 1) := by decide +kernel
theorem dX11_known_46 : decode cX11_known 46 = .ok (.iload_n 1, 1) := by decide +kernel
theorem dX11_known_47 : decode cX11_known 47 = .ok (.iadd, 1) := by decide +kernel
theorem dX11_known_48 : decode cX11_known 48 = .ok (.iaload, 1) := by decide +kernel
theorem dX11_known_49 : decode cX11_known 49 = .ok (.ireturn, 1) := by decide +kernel
set_option maxRecDepth 20000 in
theorem ggX11_sum__X11_throwing : GoodIn wsX11_sum_ wsX11_throwing := goodIn_r _ [8, 9, 21, 22, 23, 24, 25, 26, 27, 28, 29, 30, 31, 32, 33, 34, 35, 36, 37, 38, 39, 40, 41, 42, 43, 44, 45, 46, 47, 48, 49, 50, 51, 52, 53, 54, 55, 56, 57, 58, 59, 60, 61, 62] (by decide +kernel) (by decide +kernel)
set_option maxRecDepth 20000 in
theorem gX11_sum__X11_throwing : GoodIn wsX11_sum_ (wsV RX11 282 RX11 yX11_throwing wsX11_throwing) := goodIn_app (goodIn_of _ (by decide +kernel)) ggX11_sum__X11_throwing
set_option maxRecDepth 20000 in
theorem ggX11_sum__X11_worthAt : GoodIn wsX11_sum_ wsX11_worthAt := goodIn_r _ [13, 14, 15, 16, 17, 7, 18, 19, 20, 21, 22, 23, 24, 25, 26, 27, 28, 29, 30, 31, 32, 33, 34, 35, 36, 37, 38, 39, 40, 41, 42, 43, 44, 45, 46, 47, 48, 49, 50, 51, 52, 53, 54, 55, 56, 57, 58, 59, 60, 61, 62] (by decide +kernel) (by decide +kernel)
set_option maxRecDepth 20000 in
theorem gX11_sum__X11_worthAt : GoodIn wsX11_sum_ (wsV RX11 299 RX11 yX11_worthAt wsX11_worthAt) := goodIn_app (goodIn_of _ (by decide +kernel)) ggX11_sum__X11_worthAt
theorem dX11_sum__0 : decode cX11_sum_ 0 = .ok (.aload_n 0, 1) := by decide +kernel
theorem dX11_sum__1 : decode cX11_sum_ 1 = .ok (.aload_n 0, 1) := by decide +kernel
theorem dX11_sum__2 : decode cX11_sum_ 2 = .ok (.getfield 246, 3) := by decide +kernel
theorem dX11_sum__5 : decode cX11_sum_ 5 = .ok (.ifCond .ne 7, 3) := by decide +kernel
theorem dX11_sum__8 : decode cX11_sum_ 8 = .ok (.iconst 1, 1) := by decide +kernel
theorem dX11_sum__9 : decode cX11_sum_ 9 = .ok (.goto 4, 3) := by decide +kernel
theorem dX11_sum__12 : decode cX11_sum_ 12 = .ok (.iconst 0, 1) := by decide +kernel
theorem dX11_sum__13 : decode cX11_sum_ 13 = .ok (.iconst 0, 1) := by decide +kernel
theorem dX11_sum__14 : decode cX11_sum_ 14 = .ok (.iconst 0, 1) := by decide +kernel
theorem dX11_sum__15 : decode cX11_sum_ 15 = .ok (.invokevirtual 282, 3) := by decide +kernel
theorem dX11_sum__18 : decode cX11_sum_ 18 = .ok (.ifCond .eq 5, 3) := by decide +kernel
theorem dX11_sum__21 : decode cX11_sum_ 21 = .ok (.iconst 0, 1) := by decide +kernel
theorem dX11_sum__22 : decode cX11_sum_ 22 = .ok (.ireturn, 1) := by decide +kernel
theorem dX11_sum__23 : decode cX11_sum_ 23 = .ok (.iconst 0, 1) := by decide +kernel
theorem dX11_sum__24 : decode cX11_sum_ 24 = .ok (.istore_n 1, 1) := by decide +kernel
theorem dX11_sum__25 : decode cX11_sum_ 25 = .ok (.iconst 0, 1) := by decide +kernel
theorem dX11_sum__26 : decode cX11_sum_ 26 = .ok (.istore_n 2, 1) := by decide +kernel
theorem dX11_sum__27 : decode cX11_sum_ 27 = .ok (.iload_n 2, 1) := by decide +kernel
theorem dX11_sum__28 : decode cX11_sum_ 28 = .ok (.aload_n 0, 1) := by decide +kernel
theorem dX11_sum__29 : decode cX11_sum_ 29 = .ok (.getfield 16, 3) := by decide +kernel
theorem dX11_sum__32 : decode cX11_sum_ 32 = .ok (.aload_n 0, 1) := by decide +kernel
theorem dX11_sum__33 : decode cX11_sum_ 33 = .ok (.getfield 20, 3) := by decide +kernel
theorem dX11_sum__36 : decode cX11_sum_ 36 = .ok (.imul, 1) := by decide +kernel
theorem dX11_sum__37 : decode cX11_sum_ 37 = .ok (.if_icmp .ge 20, 3) := by decide +kernel
theorem dX11_sum__40 : decode cX11_sum_ 40 = .ok (.bipush 31, 2) := by decide +kernel
theorem dX11_sum__42 : decode cX11_sum_ 42 = .ok (.iload_n 1, 1) := by decide +kernel
theorem dX11_sum__43 : decode cX11_sum_ 43 = .ok (.imul, 1) := by decide +kernel
theorem dX11_sum__44 : decode cX11_sum_ 44 = .ok (.aload_n 0, 1) := by decide +kernel
theorem dX11_sum__45 : decode cX11_sum_ 45 = .ok (.iload_n 2, 1) := by decide +kernel
theorem dX11_sum__46 : decode cX11_sum_ 46 = .ok (.invokevirtual 299, 3) := by decide +kernel
theorem dX11_sum__49 : decode cX11_sum_ 49 = .ok (.iadd, 1) := by decide +kernel
theorem dX11_sum__50 : decode cX11_sum_ 50 = .ok (.istore_n 1, 1) := by decide +kernel
theorem dX11_sum__51 : decode cX11_sum_ 51 = .ok (.iinc 2 1, 3) := by decide +kernel
theorem dX11_sum__54 : decode cX11_sum_ 54 = .ok (.goto (-27), 3) := by decide +kernel
theorem dX11_sum__57 : decode cX11_sum_ 57 = .ok (.iload_n 1, 1) := by decide +kernel
theorem dX11_sum__58 : decode cX11_sum_ 58 = .ok (.ireturn, 1) := by decide +kernel
theorem dJ6_numberOfLeadingZeros_0f7a4_0 : decode cJ6_numberOfLeadingZeros_0f7a4 0 = .ok (.iload_n 0, 1) := by decide +kernel
theorem dJ6_numberOfLeadingZeros_0f7a4_1 : decode cJ6_numberOfLeadingZeros_0f7a4 1 = .ok (.ifCond .gt 14, 3) := by decide +kernel
theorem dJ6_numberOfLeadingZeros_0f7a4_4 : decode cJ6_numberOfLeadingZeros_0f7a4 4 = .ok (.iload_n 0, 1) := by decide +kernel
theorem dJ6_numberOfLeadingZeros_0f7a4_5 : decode cJ6_numberOfLeadingZeros_0f7a4 5 = .ok (.ifCond .ne 8, 3) := by decide +kernel
theorem dJ6_numberOfLeadingZeros_0f7a4_8 : decode cJ6_numberOfLeadingZeros_0f7a4 8 = .ok (.bipush 32, 2) := by decide +kernel
theorem dJ6_numberOfLeadingZeros_0f7a4_10 : decode cJ6_numberOfLeadingZeros_0f7a4 10 = .ok (.goto 4, 3) := by decide +kernel
theorem dJ6_numberOfLeadingZeros_0f7a4_13 : decode cJ6_numberOfLeadingZeros_0f7a4 13 = .ok (.iconst 0, 1) := by decide +kernel
theorem dJ6_numberOfLeadingZeros_0f7a4_14 : decode cJ6_numberOfLeadingZeros_0f7a4 14 = .ok (.ireturn, 1) := by decide +kernel
theorem dJ6_numberOfLeadingZeros_0f7a4_15 : decode cJ6_numberOfLeadingZeros_0f7a4 15 = .ok (.bipush 31, 2) := by decide +kernel
theorem dJ6_numberOfLeadingZeros_0f7a4_17 : decode cJ6_numberOfLeadingZeros_0f7a4 17 = .ok (.istore_n 1, 1) := by decide +kernel
theorem dJ6_numberOfLeadingZeros_0f7a4_18 : decode cJ6_numberOfLeadingZeros_0f7a4 18 = .ok (.iload_n 0, 1) := by decide +kernel
theorem dJ6_numberOfLeadingZeros_0f7a4_19 : decode cJ6_numberOfLeadingZeros_0f7a4 19 = .ok (.ldc_w 264, 3) := by decide +kernel
theorem dJ6_numberOfLeadingZeros_0f7a4_22 : decode cJ6_numberOfLeadingZeros_0f7a4 22 = .ok (.if_icmp .lt 11, 3) := by decide +kernel
theorem dJ6_numberOfLeadingZeros_0f7a4_25 : decode cJ6_numberOfLeadingZeros_0f7a4 25 = .ok (.iinc 1 (-16), 3) := by decide +kernel
theorem dJ6_numberOfLeadingZeros_0f7a4_28 : decode cJ6_numberOfLeadingZeros_0f7a4 28 = .ok (.iload_n 0, 1) := by decide +kernel
theorem dJ6_numberOfLeadingZeros_0f7a4_29 : decode cJ6_numberOfLeadingZeros_0f7a4 29 = .ok (.bipush 16, 2) := by decide +kernel
theorem dJ6_numberOfLeadingZeros_0f7a4_31 : decode cJ6_numberOfLeadingZeros_0f7a4 31 = .ok (.iushr, 1) := by decide +kernel
theorem dJ6_numberOfLeadingZeros_0f7a4_32 : decode cJ6_numberOfLeadingZeros_0f7a4 32 = .ok (.istore_n 0, 1) := by decide +kernel
theorem dJ6_numberOfLeadingZeros_0f7a4_33 : decode cJ6_numberOfLeadingZeros_0f7a4 33 = .ok (.iload_n 0, 1) := by decide +kernel
theorem dJ6_numberOfLeadingZeros_0f7a4_34 : decode cJ6_numberOfLeadingZeros_0f7a4 34 = .ok (.sipush 256, 3) := by decide +kernel
theorem dJ6_numberOfLeadingZeros_0f7a4_37 : decode cJ6_numberOfLeadingZeros_0f7a4 37 = .ok (.if_icmp .lt 11, 3) := by decide +kernel
theorem dJ6_numberOfLeadingZeros_0f7a4_40 : decode cJ6_numberOfLeadingZeros_0f7a4 40 = .ok (.iinc 1 (-8), 3) := by decide +kernel
theorem dJ6_numberOfLeadingZeros_0f7a4_43 : decode cJ6_numberOfLeadingZeros_0f7a4 43 = .ok (.iload_n 0, 1) := by decide +kernel
theorem dJ6_numberOfLeadingZeros_0f7a4_44 : decode cJ6_numberOfLeadingZeros_0f7a4 44 = .ok (.bipush 8, 2) := by decide +kernel
theorem dJ6_numberOfLeadingZeros_0f7a4_46 : decode cJ6_numberOfLeadingZeros_0f7a4 46 = .ok (.iushr, 1) := by decide +kernel
theorem dJ6_numberOfLeadingZeros_0f7a4_47 : decode cJ6_numberOfLeadingZeros_0f7a4 47 = .ok (.istore_n 0, 1) := by decide +kernel
theorem dJ6_numberOfLeadingZeros_0f7a4_48 : decode cJ6_numberOfLeadingZeros_0f7a4 48 = .ok (.iload_n 0, 1) := by decide +kernel
theorem dJ6_numberOfLeadingZeros_0f7a4_49 : decode cJ6_numberOfLeadingZeros_0f7a4 49 = .ok (.bipush 16, 2) := by decide +kernel
theorem dJ6_numberOfLeadingZeros_0f7a4_51 : decode cJ6_numberOfLeadingZeros_0f7a4 51 = .ok (.if_icmp .lt 10, 3) := by decide +kernel
theorem dJ6_numberOfLeadingZeros_0f7a4_54 : decode cJ6_numberOfLeadingZeros_0f7a4 54 = .ok (.iinc 1 (-4), 3) := by decide +kernel
theorem dJ6_numberOfLeadingZeros_0f7a4_57 : decode cJ6_numberOfLeadingZeros_0f7a4 57 = .ok (.iload_n 0, 1) := by decide +kernel
theorem dJ6_numberOfLeadingZeros_0f7a4_58 : decode cJ6_numberOfLeadingZeros_0f7a4 58 = .ok (.iconst 4, 1) := by decide +kernel
theorem dJ6_numberOfLeadingZeros_0f7a4_59 : decode cJ6_numberOfLeadingZeros_0f7a4 59 = .ok (.iushr, 1) := by decide +kernel
theorem dJ6_numberOfLeadingZeros_0f7a4_60 : decode cJ6_numberOfLeadingZeros_0f7a4 60 = .ok (.istore_n 0, 1) := by decide +kernel
theorem dJ6_numberOfLeadingZeros_0f7a4_61 : decode cJ6_numberOfLeadingZeros_0f7a4 61 = .ok (.iload_n 0, 1) := by decide +kernel
theorem dJ6_numberOfLeadingZeros_0f7a4_62 : decode cJ6_numberOfLeadingZeros_0f7a4 62 = .ok (.iconst 4, 1) := by decide +kernel
theorem dJ6_numberOfLeadingZeros_0f7a4_63 : decode cJ6_numberOfLeadingZeros_0f7a4 63 = .ok (.if_icmp .lt 10, 3) := by decide +kernel
theorem dJ6_numberOfLeadingZeros_0f7a4_66 : decode cJ6_numberOfLeadingZeros_0f7a4 66 = .ok (.iinc 1 (-2), 3) := by decide +kernel
theorem dJ6_numberOfLeadingZeros_0f7a4_69 : decode cJ6_numberOfLeadingZeros_0f7a4 69 = .ok (.iload_n 0, 1) := by decide +kernel
theorem dJ6_numberOfLeadingZeros_0f7a4_70 : decode cJ6_numberOfLeadingZeros_0f7a4 70 = .ok (.iconst 2, 1) := by decide +kernel
theorem dJ6_numberOfLeadingZeros_0f7a4_71 : decode cJ6_numberOfLeadingZeros_0f7a4 71 = .ok (.iushr, 1) := by decide +kernel
theorem dJ6_numberOfLeadingZeros_0f7a4_72 : decode cJ6_numberOfLeadingZeros_0f7a4 72 = .ok (.istore_n 0, 1) := by decide +kernel
theorem dJ6_numberOfLeadingZeros_0f7a4_73 : decode cJ6_numberOfLeadingZeros_0f7a4 73 = .ok (.iload_n 1, 1) := by decide +kernel
theorem dJ6_numberOfLeadingZeros_0f7a4_74 : decode cJ6_numberOfLeadingZeros_0f7a4 74 = .ok (.iload_n 0, 1) := by decide +kernel
theorem dJ6_numberOfLeadingZeros_0f7a4_75 : decode cJ6_numberOfLeadingZeros_0f7a4 75 = .ok (.iconst 1, 1) := by decide +kernel
theorem dJ6_numberOfLeadingZeros_0f7a4_76 : decode cJ6_numberOfLeadingZeros_0f7a4 76 = .ok (.iushr, 1) := by decide +kernel
theorem dJ6_numberOfLeadingZeros_0f7a4_77 : decode cJ6_numberOfLeadingZeros_0f7a4 77 = .ok (.isub, 1) := by decide +kernel
theorem dJ6_numberOfLeadingZeros_0f7a4_78 : decode cJ6_numberOfLeadingZeros_0f7a4 78 = .ok (.ireturn, 1) := by decide +kernel
theorem dJ6_signum_0f7a4_0 : decode cJ6_signum_0f7a4 0 = .ok (.iload_n 0, 1) := by decide +kernel
theorem dJ6_signum_0f7a4_1 : decode cJ6_signum_0f7a4 1 = .ok (.bipush 31, 2) := by decide +kernel
theorem dJ6_signum_0f7a4_3 : decode cJ6_signum_0f7a4 3 = .ok (.ishr, 1) := by decide +kernel
theorem dJ6_signum_0f7a4_4 : decode cJ6_signum_0f7a4 4 = .ok (.iload_n 0, 1) := by decide +kernel
theorem dJ6_signum_0f7a4_5 : decode cJ6_signum_0f7a4 5 = .ok (.ineg, 1) := by decide +kernel
theorem dJ6_signum_0f7a4_6 : decode cJ6_signum_0f7a4 6 = .ok (.bipush 31, 2) := by decide +kernel
theorem dJ6_signum_0f7a4_8 : decode cJ6_signum_0f7a4 8 = .ok (.iushr, 1) := by decide +kernel
theorem dJ6_signum_0f7a4_9 : decode cJ6_signum_0f7a4 9 = .ok (.ior, 1) := by decide +kernel
theorem dJ6_signum_0f7a4_10 : decode cJ6_signum_0f7a4 10 = .ok (.ireturn, 1) := by decide +kernel
theorem dJ9_abs_0f7a4_0 : decode cJ9_abs_0f7a4 0 = .ok (.iload_n 0, 1) := by decide +kernel
theorem dJ9_abs_0f7a4_1 : decode cJ9_abs_0f7a4 1 = .ok (.ifCond .ge 8, 3) := by decide +kernel
theorem dJ9_abs_0f7a4_4 : decode cJ9_abs_0f7a4 4 = .ok (.iload_n 0, 1) := by decide +kernel
theorem dJ9_abs_0f7a4_5 : decode cJ9_abs_0f7a4 5 = .ok (.ineg, 1) := by decide +kernel
theorem dJ9_abs_0f7a4_6 : decode cJ9_abs_0f7a4 6 = .ok (.goto 4, 3) := by decide +kernel
theorem dJ9_abs_0f7a4_9 : decode cJ9_abs_0f7a4 9 = .ok (.iload_n 0, 1) := by decide +kernel
theorem dJ9_abs_0f7a4_10 : decode cJ9_abs_0f7a4 10 = .ok (.ireturn, 1) := by decide +kernel
theorem dJ9_max_7cf53_0 : decode cJ9_max_7cf53 0 = .ok (.iload_n 0, 1) := by decide +kernel
theorem dJ9_max_7cf53_1 : decode cJ9_max_7cf53 1 = .ok (.iload_n 1, 1) := by decide +kernel
theorem dJ9_max_7cf53_2 : decode cJ9_max_7cf53 2 = .ok (.if_icmp .lt 7, 3) := by decide +kernel
theorem dJ9_max_7cf53_5 : decode cJ9_max_7cf53 5 = .ok (.iload_n 0, 1) := by decide +kernel
theorem dJ9_max_7cf53_6 : decode cJ9_max_7cf53 6 = .ok (.goto 4, 3) := by decide +kernel
theorem dJ9_max_7cf53_9 : decode cJ9_max_7cf53 9 = .ok (.iload_n 1, 1) := by decide +kernel
theorem dJ9_max_7cf53_10 : decode cJ9_max_7cf53 10 = .ok (.ireturn, 1) := by decide +kernel
theorem dJ9_min_7cf53_0 : decode cJ9_min_7cf53 0 = .ok (.iload_n 0, 1) := by decide +kernel
theorem dJ9_min_7cf53_1 : decode cJ9_min_7cf53 1 = .ok (.iload_n 1, 1) := by decide +kernel
theorem dJ9_min_7cf53_2 : decode cJ9_min_7cf53 2 = .ok (.if_icmp .gt 7, 3) := by decide +kernel
theorem dJ9_min_7cf53_5 : decode cJ9_min_7cf53 5 = .ok (.iload_n 0, 1) := by decide +kernel
theorem dJ9_min_7cf53_6 : decode cJ9_min_7cf53 6 = .ok (.goto 4, 3) := by decide +kernel
theorem dJ9_min_7cf53_9 : decode cJ9_min_7cf53 9 = .ok (.iload_n 1, 1) := by decide +kernel
theorem dJ9_min_7cf53_10 : decode cJ9_min_7cf53 10 = .ok (.ireturn, 1) := by decide +kernel
theorem dJ7_fill_53178_0 : decode cJ7_fill_53178 0 = .ok (.iconst 0, 1) := by decide +kernel
theorem dJ7_fill_53178_1 : decode cJ7_fill_53178 1 = .ok (.istore_n 2, 1) := by decide +kernel
theorem dJ7_fill_53178_2 : decode cJ7_fill_53178 2 = .ok (.aload_n 0, 1) := by decide +kernel
theorem dJ7_fill_53178_3 : decode cJ7_fill_53178 3 = .ok (.arraylength, 1) := by decide +kernel
theorem dJ7_fill_53178_4 : decode cJ7_fill_53178 4 = .ok (.istore_n 3, 1) := by decide +kernel
theorem dJ7_fill_53178_5 : decode cJ7_fill_53178 5 = .ok (.iload_n 2, 1) := by decide +kernel
theorem dJ7_fill_53178_6 : decode cJ7_fill_53178 6 = .ok (.iload_n 3, 1) := by decide +kernel
theorem dJ7_fill_53178_7 : decode cJ7_fill_53178 7 = .ok (.if_icmp .ge 13, 3) := by decide +kernel
theorem dJ7_fill_53178_10 : decode cJ7_fill_53178 10 = .ok (.aload_n 0, 1) := by decide +kernel
theorem dJ7_fill_53178_11 : decode cJ7_fill_53178 11 = .ok (.iload_n 2, 1) := by decide +kernel
theorem dJ7_fill_53178_12 : decode cJ7_fill_53178 12 = .ok (.iload_n 1, 1) := by decide +kernel
theorem dJ7_fill_53178_13 : decode cJ7_fill_53178 13 = .ok (.iastore, 1) := by decide +kernel
theorem dJ7_fill_53178_14 : decode cJ7_fill_53178 14 = .ok (.iinc 2 1, 3) := by decide +kernel
theorem dJ7_fill_53178_17 : decode cJ7_fill_53178 17 = .ok (.goto (-12), 3) := by decide +kernel
theorem dJ7_fill_53178_20 : decode cJ7_fill_53178 20 = .ok (.return_, 1) := by decide +kernel
theorem dJ7_copyOf_59c91_0 : decode cJ7_copyOf_59c91 0 = .ok (.iload_n 1, 1) := by decide +kernel
theorem dJ7_copyOf_59c91_1 : decode cJ7_copyOf_59c91 1 = .ok (.aload_n 0, 1) := by decide +kernel
theorem dJ7_copyOf_59c91_2 : decode cJ7_copyOf_59c91 2 = .ok (.arraylength, 1) := by decide +kernel
theorem dJ7_copyOf_59c91_3 : decode cJ7_copyOf_59c91 3 = .ok (.if_icmp .ne 11, 3) := by decide +kernel
theorem dJ7_copyOf_59c91_6 : decode cJ7_copyOf_59c91 6 = .ok (.aload_n 0, 1) := by decide +kernel
theorem dJ7_copyOf_59c91_7 : decode cJ7_copyOf_59c91 7 = .ok (.invokevirtual 316, 3) := by decide +kernel
theorem dJ7_copyOf_59c91_10 : decode cJ7_copyOf_59c91 10 = .ok (.checkcast 317, 3) := by decide +kernel
theorem dJ7_copyOf_59c91_13 : decode cJ7_copyOf_59c91 13 = .ok (.areturn, 1) := by decide +kernel
theorem dJ7_copyOf_59c91_14 : decode cJ7_copyOf_59c91 14 = .ok (.iload_n 1, 1) := by decide +kernel
theorem dJ7_copyOf_59c91_15 : decode cJ7_copyOf_59c91 15 = .ok (.newarray .int, 2) := by decide +kernel
theorem dJ7_copyOf_59c91_17 : decode cJ7_copyOf_59c91 17 = .ok (.astore_n 2, 1) := by decide +kernel
theorem dJ7_copyOf_59c91_18 : decode cJ7_copyOf_59c91 18 = .ok (.aload_n 0, 1) := by decide +kernel
theorem dJ7_copyOf_59c91_19 : decode cJ7_copyOf_59c91 19 = .ok (.iconst 0, 1) := by decide +kernel
theorem dJ7_copyOf_59c91_20 : decode cJ7_copyOf_59c91 20 = .ok (.aload_n 2, 1) := by decide +kernel
theorem dJ7_copyOf_59c91_21 : decode cJ7_copyOf_59c91 21 = .ok (.iconst 0, 1) := by decide +kernel
theorem dJ7_copyOf_59c91_22 : decode cJ7_copyOf_59c91 22 = .ok (.aload_n 0, 1) := by decide +kernel
theorem dJ7_copyOf_59c91_23 : decode cJ7_copyOf_59c91 23 = .ok (.arraylength, 1) := by decide +kernel
theorem dJ7_copyOf_59c91_24 : decode cJ7_copyOf_59c91 24 = .ok (.iload_n 1, 1) := by decide +kernel
theorem dJ7_copyOf_59c91_25 : decode cJ7_copyOf_59c91 25 = .ok (.invokestatic 304, 3) := by decide +kernel
theorem dJ7_copyOf_59c91_28 : decode cJ7_copyOf_59c91 28 = .ok (.invokestatic 150, 3) := by decide +kernel
theorem dJ7_copyOf_59c91_31 : decode cJ7_copyOf_59c91 31 = .ok (.aload_n 2, 1) := by decide +kernel
theorem dJ7_copyOf_59c91_32 : decode cJ7_copyOf_59c91 32 = .ok (.areturn, 1) := by decide +kernel
theorem dL_begin_0 : decode cL_begin 0 = .ok (.aload_n 0, 1) := by decide +kernel
theorem dL_begin_1 : decode cL_begin 1 = .ok (.iload_n 1, 1) := by decide +kernel
theorem dL_begin_2 : decode cL_begin 2 = .ok (.iload_n 2, 1) := by decide +kernel
theorem dL_begin_3 : decode cL_begin 3 = .ok (.iload_n 3, 1) := by decide +kernel
theorem dL_begin_4 : decode cL_begin 4 = .ok (.iload 4, 2) := by decide +kernel
theorem dL_begin_6 : decode cL_begin 6 = .ok (.invokevirtual 7, 3) := by decide +kernel
theorem dL_begin_9 : decode cL_begin 9 = .ok (.goto 7, 3) := by decide +kernel
theorem dL_begin_12 : decode cL_begin 12 = .ok (.astore 5, 2) := by decide +kernel
theorem dL_begin_14 : decode cL_begin 14 = .ok (.iconst 1, 1) := by decide +kernel
theorem dL_begin_15 : decode cL_begin 15 = .ok (.ireturn, 1) := by decide +kernel
theorem dL_begin_16 : decode cL_begin 16 = .ok (.iconst 0, 1) := by decide +kernel
theorem dL_begin_17 : decode cL_begin 17 = .ok (.ireturn, 1) := by decide +kernel
theorem dL_set_0 : decode cL_set 0 = .ok (.aload_n 0, 1) := by decide +kernel
theorem dL_set_1 : decode cL_set 1 = .ok (.iload_n 1, 1) := by decide +kernel
theorem dL_set_2 : decode cL_set 2 = .ok (.iload_n 2, 1) := by decide +kernel
theorem dL_set_3 : decode cL_set 3 = .ok (.iload_n 3, 1) := by decide +kernel
theorem dL_set_4 : decode cL_set 4 = .ok (.invokevirtual 15, 3) := by decide +kernel
theorem dL_set_7 : decode cL_set 7 = .ok (.goto 7, 3) := by decide +kernel
theorem dL_set_10 : decode cL_set 10 = .ok (.astore 4, 2) := by decide +kernel
theorem dL_set_12 : decode cL_set 12 = .ok (.iconst 1, 1) := by decide +kernel
theorem dL_set_13 : decode cL_set 13 = .ok (.ireturn, 1) := by decide +kernel
theorem dL_set_14 : decode cL_set 14 = .ok (.iconst 0, 1) := by decide +kernel
theorem dL_set_15 : decode cL_set 15 = .ok (.ireturn, 1) := by decide +kernel
theorem dL_fill_0 : decode cL_fill 0 = .ok (.aload_n 0, 1) := by decide +kernel
theorem dL_fill_1 : decode cL_fill 1 = .ok (.iload_n 1, 1) := by decide +kernel
theorem dL_fill_2 : decode cL_fill 2 = .ok (.iload_n 2, 1) := by decide +kernel
theorem dL_fill_3 : decode cL_fill 3 = .ok (.iload_n 3, 1) := by decide +kernel
theorem dL_fill_4 : decode cL_fill 4 = .ok (.iload 4, 2) := by decide +kernel
theorem dL_fill_6 : decode cL_fill 6 = .ok (.invokevirtual 19, 3) := by decide +kernel
theorem dL_fill_9 : decode cL_fill 9 = .ok (.goto 7, 3) := by decide +kernel
theorem dL_fill_12 : decode cL_fill 12 = .ok (.astore 5, 2) := by decide +kernel
theorem dL_fill_14 : decode cL_fill 14 = .ok (.iconst 1, 1) := by decide +kernel
theorem dL_fill_15 : decode cL_fill 15 = .ok (.ireturn, 1) := by decide +kernel
theorem dL_fill_16 : decode cL_fill 16 = .ok (.iconst 0, 1) := by decide +kernel
theorem dL_fill_17 : decode cL_fill 17 = .ok (.ireturn, 1) := by decide +kernel
theorem dL_written_0 : decode cL_written 0 = .ok (.aload_n 2, 1) := by decide +kernel
theorem dL_written_1 : decode cL_written 1 = .ok (.iconst 0, 1) := by decide +kernel
theorem dL_written_2 : decode cL_written 2 = .ok (.aload_n 0, 1) := by decide +kernel
theorem dL_written_3 : decode cL_written 3 = .ok (.iload_n 1, 1) := by decide +kernel
theorem dL_written_4 : decode cL_written 4 = .ok (.invokevirtual 22, 3) := by decide +kernel
theorem dL_written_7 : decode cL_written 7 = .ok (.i2l, 1) := by decide +kernel
theorem dL_written_8 : decode cL_written 8 = .ok (.lastore, 1) := by decide +kernel
theorem dL_written_9 : decode cL_written 9 = .ok (.goto 9, 3) := by decide +kernel
theorem dL_written_12 : decode cL_written 12 = .ok (.astore_n 3, 1) := by decide +kernel
theorem dL_written_13 : decode cL_written 13 = .ok (.iconst 1, 1) := by decide +kernel
theorem dL_written_14 : decode cL_written 14 = .ok (.ireturn, 1) := by decide +kernel
theorem dL_written_15 : decode cL_written 15 = .ok (.astore_n 3, 1) := by decide +kernel
theorem dL_written_16 : decode cL_written 16 = .ok (.iconst 2, 1) := by decide +kernel
theorem dL_written_17 : decode cL_written 17 = .ok (.ireturn, 1) := by decide +kernel
theorem dL_written_18 : decode cL_written 18 = .ok (.iconst 0, 1) := by decide +kernel
theorem dL_written_19 : decode cL_written 19 = .ok (.ireturn, 1) := by decide +kernel
theorem dL_pass_0 : decode cL_pass 0 = .ok (.aload_n 3, 1) := by decide +kernel
theorem dL_pass_1 : decode cL_pass 1 = .ok (.iconst 0, 1) := by decide +kernel
theorem dL_pass_2 : decode cL_pass 2 = .ok (.aload_n 0, 1) := by decide +kernel
theorem dL_pass_3 : decode cL_pass 3 = .ok (.iload_n 1, 1) := by decide +kernel
theorem dL_pass_4 : decode cL_pass 4 = .ok (.iload_n 2, 1) := by decide +kernel
theorem dL_pass_5 : decode cL_pass 5 = .ok (.invokevirtual 28, 3) := by decide +kernel
theorem dL_pass_8 : decode cL_pass 8 = .ok (.i2l, 1) := by decide +kernel
theorem dL_pass_9 : decode cL_pass 9 = .ok (.lastore, 1) := by decide +kernel
theorem dL_pass_10 : decode cL_pass 10 = .ok (.goto 15, 3) := by decide +kernel
theorem dL_pass_13 : decode cL_pass 13 = .ok (.astore 4, 2) := by decide +kernel
theorem dL_pass_15 : decode cL_pass 15 = .ok (.iconst 1, 1) := by decide +kernel
theorem dL_pass_16 : decode cL_pass 16 = .ok (.ireturn, 1) := by decide +kernel
theorem dL_pass_17 : decode cL_pass 17 = .ok (.astore 4, 2) := by decide +kernel
theorem dL_pass_19 : decode cL_pass 19 = .ok (.iconst 2, 1) := by decide +kernel
theorem dL_pass_20 : decode cL_pass 20 = .ok (.ireturn, 1) := by decide +kernel
theorem dL_pass_21 : decode cL_pass 21 = .ok (.astore 4, 2) := by decide +kernel
theorem dL_pass_23 : decode cL_pass 23 = .ok (.iconst 3, 1) := by decide +kernel
theorem dL_pass_24 : decode cL_pass 24 = .ok (.ireturn, 1) := by decide +kernel
theorem dL_pass_25 : decode cL_pass 25 = .ok (.iconst 0, 1) := by decide +kernel
theorem dL_pass_26 : decode cL_pass 26 = .ok (.ireturn, 1) := by decide +kernel
theorem dL_gain_0 : decode cL_gain 0 = .ok (.aload_n 2, 1) := by decide +kernel
theorem dL_gain_1 : decode cL_gain 1 = .ok (.iconst 0, 1) := by decide +kernel
theorem dL_gain_2 : decode cL_gain 2 = .ok (.aload_n 0, 1) := by decide +kernel
theorem dL_gain_3 : decode cL_gain 3 = .ok (.iload_n 1, 1) := by decide +kernel
theorem dL_gain_4 : decode cL_gain 4 = .ok (.invokevirtual 34, 3) := by decide +kernel
theorem dL_gain_7 : decode cL_gain 7 = .ok (.lastore, 1) := by decide +kernel
theorem dL_gain_8 : decode cL_gain 8 = .ok (.goto 9, 3) := by decide +kernel
theorem dL_gain_11 : decode cL_gain 11 = .ok (.astore_n 3, 1) := by decide +kernel
theorem dL_gain_12 : decode cL_gain 12 = .ok (.iconst 1, 1) := by decide +kernel
theorem dL_gain_13 : decode cL_gain 13 = .ok (.ireturn, 1) := by decide +kernel
theorem dL_gain_14 : decode cL_gain 14 = .ok (.astore_n 3, 1) := by decide +kernel
theorem dL_gain_15 : decode cL_gain 15 = .ok (.iconst 2, 1) := by decide +kernel
theorem dL_gain_16 : decode cL_gain 16 = .ok (.ireturn, 1) := by decide +kernel
theorem dL_gain_17 : decode cL_gain 17 = .ok (.iconst 0, 1) := by decide +kernel
theorem dL_gain_18 : decode cL_gain 18 = .ok (.ireturn, 1) := by decide +kernel
theorem dL_at_0 : decode cL_at 0 = .ok (.aload_n 2, 1) := by decide +kernel
theorem dL_at_1 : decode cL_at 1 = .ok (.iconst 0, 1) := by decide +kernel
theorem dL_at_2 : decode cL_at 2 = .ok (.aload_n 0, 1) := by decide +kernel
theorem dL_at_3 : decode cL_at 3 = .ok (.iload_n 1, 1) := by decide +kernel
theorem dL_at_4 : decode cL_at 4 = .ok (.invokevirtual 38, 3) := by decide +kernel
theorem dL_at_7 : decode cL_at 7 = .ok (.i2l, 1) := by decide +kernel
theorem dL_at_8 : decode cL_at 8 = .ok (.lastore, 1) := by decide +kernel
theorem dL_at_9 : decode cL_at 9 = .ok (.goto 9, 3) := by decide +kernel
theorem dL_at_12 : decode cL_at 12 = .ok (.astore_n 3, 1) := by decide +kernel
theorem dL_at_13 : decode cL_at 13 = .ok (.iconst 1, 1) := by decide +kernel
theorem dL_at_14 : decode cL_at 14 = .ok (.ireturn, 1) := by decide +kernel
theorem dL_at_15 : decode cL_at 15 = .ok (.astore_n 3, 1) := by decide +kernel
theorem dL_at_16 : decode cL_at 16 = .ok (.iconst 2, 1) := by decide +kernel
theorem dL_at_17 : decode cL_at 17 = .ok (.ireturn, 1) := by decide +kernel
theorem dL_at_18 : decode cL_at 18 = .ok (.iconst 0, 1) := by decide +kernel
theorem dL_at_19 : decode cL_at 19 = .ok (.ireturn, 1) := by decide +kernel
theorem dL_change_0 : decode cL_change 0 = .ok (.aload_n 3, 1) := by decide +kernel
theorem dL_change_1 : decode cL_change 1 = .ok (.iconst 0, 1) := by decide +kernel
theorem dL_change_2 : decode cL_change 2 = .ok (.aload_n 0, 1) := by decide +kernel
theorem dL_change_3 : decode cL_change 3 = .ok (.iload_n 1, 1) := by decide +kernel
theorem dL_change_4 : decode cL_change 4 = .ok (.iload_n 2, 1) := by decide +kernel
theorem dL_change_5 : decode cL_change 5 = .ok (.invokevirtual 41, 3) := by decide +kernel
theorem dL_change_8 : decode cL_change 8 = .ok (.i2l, 1) := by decide +kernel
theorem dL_change_9 : decode cL_change 9 = .ok (.lastore, 1) := by decide +kernel
theorem dL_change_10 : decode cL_change 10 = .ok (.goto 11, 3) := by decide +kernel
theorem dL_change_13 : decode cL_change 13 = .ok (.astore 4, 2) := by decide +kernel
theorem dL_change_15 : decode cL_change 15 = .ok (.iconst 1, 1) := by decide +kernel
theorem dL_change_16 : decode cL_change 16 = .ok (.ireturn, 1) := by decide +kernel
theorem dL_change_17 : decode cL_change 17 = .ok (.astore 4, 2) := by decide +kernel
theorem dL_change_19 : decode cL_change 19 = .ok (.iconst 2, 1) := by decide +kernel
theorem dL_change_20 : decode cL_change 20 = .ok (.ireturn, 1) := by decide +kernel
theorem dL_change_21 : decode cL_change 21 = .ok (.iconst 0, 1) := by decide +kernel
theorem dL_change_22 : decode cL_change 22 = .ok (.ireturn, 1) := by decide +kernel
theorem dL_read_0 : decode cL_read 0 = .ok (.aload_n 2, 1) := by decide +kernel
theorem dL_read_1 : decode cL_read 1 = .ok (.iconst 0, 1) := by decide +kernel
theorem dL_read_2 : decode cL_read 2 = .ok (.aload_n 0, 1) := by decide +kernel
theorem dL_read_3 : decode cL_read 3 = .ok (.iload_n 1, 1) := by decide +kernel
theorem dL_read_4 : decode cL_read 4 = .ok (.invokevirtual 44, 3) := by decide +kernel
theorem dL_read_7 : decode cL_read 7 = .ok (.i2l, 1) := by decide +kernel
theorem dL_read_8 : decode cL_read 8 = .ok (.lastore, 1) := by decide +kernel
theorem dL_read_9 : decode cL_read 9 = .ok (.goto 9, 3) := by decide +kernel
theorem dL_read_12 : decode cL_read 12 = .ok (.astore_n 3, 1) := by decide +kernel
theorem dL_read_13 : decode cL_read 13 = .ok (.iconst 1, 1) := by decide +kernel
theorem dL_read_14 : decode cL_read 14 = .ok (.ireturn, 1) := by decide +kernel
theorem dL_read_15 : decode cL_read 15 = .ok (.astore_n 3, 1) := by decide +kernel
theorem dL_read_16 : decode cL_read 16 = .ok (.iconst 2, 1) := by decide +kernel
theorem dL_read_17 : decode cL_read 17 = .ok (.ireturn, 1) := by decide +kernel
theorem dL_read_18 : decode cL_read 18 = .ok (.iconst 0, 1) := by decide +kernel
theorem dL_read_19 : decode cL_read 19 = .ok (.ireturn, 1) := by decide +kernel
theorem dL_value_0 : decode cL_value 0 = .ok (.aload_n 3, 1) := by decide +kernel
theorem dL_value_1 : decode cL_value 1 = .ok (.iconst 0, 1) := by decide +kernel
theorem dL_value_2 : decode cL_value 2 = .ok (.aload_n 0, 1) := by decide +kernel
theorem dL_value_3 : decode cL_value 3 = .ok (.iload_n 1, 1) := by decide +kernel
