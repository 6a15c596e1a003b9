theorem dX8_next_0 : decode cX8_next 0 = .ok (.aload_n 0, 1) := by decide +kernel
theorem dX8_next_1 : decode cX8_next 1 = .ok (.getfield 15, 3) := by decide +kernel
theorem dX8_next_4 : decode cX8_next 4 = .ok (.ifCond .ne 35, 3) := by decide +kernel
theorem dX8_next_7 : decode cX8_next 7 = .ok (.aload_n 0, 1) := by decide +kernel
theorem dX8_next_8 : decode cX8_next 8 = .ok (.aload_n 0, 1) := by decide +kernel
theorem dX8_next_9 : decode cX8_next 9 = .ok (.getfield 9, 3) := by decide +kernel
theorem dX8_next_12 : decode cX8_next 12 = .ok (.invokevirtual 24, 3) := by decide +kernel
theorem dX8_next_15 : decode cX8_next 15 = .ok (.sipush 255, 3) := by decide +kernel
theorem dX8_next_18 : decode cX8_next 18 = .ok (.if_icmp .ne 8, 3) := by decide +kernel
theorem dX8_next_21 : decode cX8_next 21 = .ok (.bipush 7, 2) := by decide +kernel
theorem dX8_next_23 : decode cX8_next 23 = .ok (.goto 5, 3) := by decide +kernel
theorem dX8_next_26 : decode cX8_next 26 = .ok (.bipush 8, 2) := by decide +kernel
theorem dX8_next_28 : decode cX8_next 28 = .ok (.putfield 15, 3) := by decide +kernel
theorem dX8_next_31 : decode cX8_next 31 = .ok (.aload_n 0, 1) := by decide +kernel
theorem dX8_next_32 : decode cX8_next 32 = .ok (.getfield 9, 3) := by decide +kernel
theorem dX8_next_35 : decode cX8_next 35 = .ok (.iconst 0, 1) := by decide +kernel
theorem dX8_next_36 : decode cX8_next 36 = .ok (.invokevirtual 28, 3) := by decide +kernel
theorem dX8_next_39 : decode cX8_next 39 = .ok (.aload_n 0, 1) := by decide +kernel
theorem dX8_next_40 : decode cX8_next 40 = .ok (.dup, 1) := by decide +kernel
theorem dX8_next_41 : decode cX8_next 41 = .ok (.getfield 15, 3) := by decide +kernel
theorem dX8_next_44 : decode cX8_next 44 = .ok (.iconst 1, 1) := by decide +kernel
theorem dX8_next_45 : decode cX8_next 45 = .ok (.isub, 1) := by decide +kernel
theorem dX8_next_46 : decode cX8_next 46 = .ok (.putfield 15, 3) := by decide +kernel
theorem dX8_next_49 : decode cX8_next 49 = .ok (.aload_n 0, 1) := by decide +kernel
theorem dX8_next_50 : decode cX8_next 50 = .ok (.getfield 9, 3) := by decide +kernel
theorem dX8_next_53 : decode cX8_next 53 = .ok (.iload_n 1, 1) := by decide +kernel
theorem dX8_next_54 : decode cX8_next 54 = .ok (.aload_n 0, 1) := by decide +kernel
theorem dX8_next_55 : decode cX8_next 55 = .ok (.getfield 15, 3) := by decide +kernel
theorem dX8_next_58 : decode cX8_next 58 = .ok (.ishl, 1) := by decide +kernel
theorem dX8_next_59 : decode cX8_next 59 = .ok (.invokevirtual 32, 3) := by decide +kernel
theorem dX8_next_62 : decode cX8_next 62 = .ok (.iload_n 1, 1) := by decide +kernel
theorem dX8_next_63 : decode cX8_next 63 = .ok (.ireturn, 1) := by decide +kernel
set_option maxRecDepth 20000 in
theorem ggX8_end_X8_next : GoodIn wsX8_end wsX8_next := goodIn_r _ [6, 1, 7, 8, 9, 10, 11, 12, 13, 14, 15, 16, 17, 18, 19, 20, 21, 22, 23, 24, 25, 26, 27, 28, 29, 30, 31, 32, 33, 34, 35, 36, 37, 38, 39, 40, 41, 42, 43, 44, 45, 46, 47] (by decide +kernel) (by decide +kernel)
set_option maxRecDepth 20000 in
theorem gX8_end_X8_next : GoodIn wsX8_end (wsV RX8 35 RX8 yX8_next wsX8_next) := goodIn_app (goodIn_of _ (by decide +kernel)) ggX8_end_X8_next
theorem dX8_end_0 : decode cX8_end 0 = .ok (.iconst 0, 1) := by decide +kernel
theorem dX8_end_1 : decode cX8_end 1 = .ok (.istore_n 1, 1) := by decide +kernel
theorem dX8_end_2 : decode cX8_end 2 = .ok (.iload_n 1, 1) := by decide +kernel
theorem dX8_end_3 : decode cX8_end 3 = .ok (.bipush 8, 2) := by decide +kernel
theorem dX8_end_5 : decode cX8_end 5 = .ok (.if_icmp .ge 25, 3) := by decide +kernel
theorem dX8_end_8 : decode cX8_end 8 = .ok (.aload_n 0, 1) := by decide +kernel
theorem dX8_end_9 : decode cX8_end 9 = .ok (.getfield 15, 3) := by decide +kernel
theorem dX8_end_12 : decode cX8_end 12 = .ok (.ifCond .le 18, 3) := by decide +kernel
theorem dX8_end_15 : decode cX8_end 15 = .ok (.aload_n 0, 1) := by decide +kernel
theorem dX8_end_16 : decode cX8_end 16 = .ok (.iload_n 1, 1) := by decide +kernel
theorem dX8_end_17 : decode cX8_end 17 = .ok (.iconst 1, 1) := by decide +kernel
theorem dX8_end_18 : decode cX8_end 18 = .ok (.iand, 1) := by decide +kernel
theorem dX8_end_19 : decode cX8_end 19 = .ok (.iconst 0, 1) := by decide +kernel
theorem dX8_end_20 : decode cX8_end 20 = .ok (.invokevirtual 35, 3) := by decide +kernel
theorem dX8_end_23 : decode cX8_end 23 = .ok (.pop, 1) := by decide +kernel
theorem dX8_end_24 : decode cX8_end 24 = .ok (.iinc 1 1, 3) := by decide +kernel
theorem dX8_end_27 : decode cX8_end 27 = .ok (.goto (-25), 3) := by decide +kernel
theorem dX8_end_30 : decode cX8_end 30 = .ok (.return_, 1) := by decide +kernel
theorem dX9_init_0 : decode cX9_init 0 = .ok (.aload_n 0, 1) := by decide +kernel
theorem dX9_init_1 : decode cX9_init 1 = .ok (.invokespecial 3, 3) := by decide +kernel
theorem dX9_init_4 : decode cX9_init 4 = .ok (.aload_n 0, 1) := by decide +kernel
theorem dX9_init_5 : decode cX9_init 5 = .ok (.aload_n 1, 1) := by decide +kernel
theorem dX9_init_6 : decode cX9_init 6 = .ok (.putfield 9, 3) := by decide +kernel
theorem dX9_init_9 : decode cX9_init 9 = .ok (.aload_n 0, 1) := by decide +kernel
theorem dX9_init_10 : decode cX9_init 10 = .ok (.aload_n 2, 1) := by decide +kernel
theorem dX9_init_11 : decode cX9_init 11 = .ok (.putfield 15, 3) := by decide +kernel
theorem dX9_init_14 : decode cX9_init 14 = .ok (.return_, 1) := by decide +kernel
theorem dX9_aim_0 : decode cX9_aim 0 = .ok (.aload_n 0, 1) := by decide +kernel
theorem dX9_aim_1 : decode cX9_aim 1 = .ok (.aload_n 1, 1) := by decide +kernel
theorem dX9_aim_2 : decode cX9_aim 2 = .ok (.putfield 15, 3) := by decide +kernel
theorem dX9_aim_5 : decode cX9_aim 5 = .ok (.aload_n 0, 1) := by decide +kernel
theorem dX9_aim_6 : decode cX9_aim 6 = .ok (.iload_n 2, 1) := by decide +kernel
theorem dX9_aim_7 : decode cX9_aim 7 = .ok (.putfield 19, 3) := by decide +kernel
theorem dX9_aim_10 : decode cX9_aim 10 = .ok (.aload_n 0, 1) := by decide +kernel
theorem dX9_aim_11 : decode cX9_aim 11 = .ok (.iload_n 3, 1) := by decide +kernel
theorem dX9_aim_12 : decode cX9_aim 12 = .ok (.putfield 23, 3) := by decide +kernel
theorem dX9_aim_15 : decode cX9_aim 15 = .ok (.return_, 1) := by decide +kernel
set_option maxRecDepth 20000 in
theorem ggX9_go_X5_forgetSeen : GoodIn wsX9_go wsX5_forgetSeen := goodIn_r _ [13, 14, 15, 16, 250, 251, 252, 253, 254, 255, 256] (by decide +kernel) (by decide +kernel)
set_option maxRecDepth 20000 in
theorem gX9_go_X5_forgetSeen : GoodIn wsX9_go (wsV RX9 31 RX5 yX5_forgetSeen wsX5_forgetSeen) := goodIn_app (goodIn_of _ (by decide +kernel)) ggX9_go_X5_forgetSeen
set_option maxRecDepth 20000 in
theorem ggX9_go_X9_spread : GoodIn wsX9_go wsX9_spread := goodIn_r _ [21, 2, 22, 23, 24, 25, 12, 26, 14, 27, 28, 29, 20, 30, 31, 32, 33, 34, 35, 36, 37, 38, 39, 6, 40, 41, 42, 43, 44, 16, 45, 46, 47, 48, 49, 5, 7, 50, 51, 52, 53, 54, 55, 56, 57, 58, 59, 60, 61, 62, 63, 64, 65, 66, 67, 68, 69, 70, 71, 72, 73, 74, 75, 76, 77, 78, 79, 80, 81, 82, 83, 84, 85, 86, 87, 88, 89, 90, 91, 92, 93, 94, 95, 96, 97, 98, 99, 100, 101, 102, 103, 104, 105, 106, 107, 108, 109, 110, 111, 112, 113, 114, 115, 116, 117, 118, 119, 120, 121, 122, 123, 124, 125, 126, 127, 128, 129, 130, 131, 132, 133, 134, 135, 136, 137, 138, 139, 140, 141, 142, 143, 144, 145, 146, 147, 148, 149, 150, 151, 152, 153, 154, 155, 156, 157, 158, 159, 160, 161, 162, 163, 164, 165, 166, 167, 168, 169, 170, 171, 172, 173, 174, 175, 176, 177, 1, 178, 179, 180, 181, 182, 183, 184, 185, 186, 187, 188, 189, 190, 191, 192, 193, 194, 195, 196, 197, 198, 199, 200, 201, 202, 203, 204, 205, 206, 207, 208, 209, 210, 211, 212, 213, 15, 214, 215, 216, 217, 218, 244, 245, 246, 247, 248, 249, 250, 251, 252, 253, 254, 255, 256, 257, 258, 259, 260, 261, 262, 263, 264, 265, 266, 267, 268, 269, 270, 271, 272, 273, 274, 275, 276, 277, 278, 279, 280] (by decide +kernel) (by decide +kernel)
set_option maxRecDepth 20000 in
theorem gX9_go_X9_spread : GoodIn wsX9_go (wsV RX9 48 RX9 yX9_spread wsX9_spread) := goodIn_app (goodIn_of _ (by decide +kernel)) ggX9_go_X9_spread
set_option maxRecDepth 20000 in
theorem ggX9_go_X9_refine : GoodIn wsX9_go wsX9_refine := goodIn_r _ [222, 2, 22, 31, 32, 1, 23, 24, 25, 12, 26, 14, 33, 34, 35, 36, 37, 38, 39, 6, 40, 223, 224, 225, 226, 16, 53, 54, 55, 56, 57, 58, 59, 60, 61, 62, 63, 64, 65, 66, 67, 68, 69, 70, 71, 72, 73, 74, 75, 76, 77, 78, 79, 80, 81, 82, 83, 84, 85, 86, 87, 88, 89, 90, 91, 92, 93, 94, 95, 96, 97, 98, 99, 100, 101, 102, 103, 104, 105, 106, 107, 108, 109, 110, 111, 112, 113, 114, 115, 116, 117, 118, 119, 120, 121, 122, 123, 124, 125, 126, 127, 128, 129, 130, 131, 132, 133, 134, 135, 136, 137, 138, 139, 140, 141, 142, 143, 144, 145, 146, 147, 148, 5, 7, 149, 150, 151, 152, 153, 154, 155, 156, 157, 158, 159, 160, 161, 162, 163, 164, 165, 166, 167, 168, 169, 170, 171, 190, 191, 192, 193, 194, 195, 196, 197, 198, 199, 214, 215, 216, 217, 218, 244, 245, 246, 247, 248, 249, 250, 251, 252, 253, 254, 255, 256, 257, 258, 259, 260, 261, 262, 263, 264, 265, 266, 267, 268, 269, 270, 271, 272, 273, 274, 275, 276, 277, 278, 279, 280] (by decide +kernel) (by decide +kernel)
set_option maxRecDepth 20000 in
theorem gX9_go_X9_refine : GoodIn wsX9_go (wsV RX9 52 RX9 yX9_refine wsX9_refine) := goodIn_app (goodIn_of _ (by decide +kernel)) ggX9_go_X9_refine
set_option maxRecDepth 20000 in
theorem ggX9_go_X9_clean : GoodIn wsX9_go wsX9_clean := goodIn_r _ [230, 2, 22, 231, 232, 233, 20, 234, 23, 24, 25, 12, 26, 14, 235, 236, 237, 238, 32, 31, 33, 34, 35, 36, 37, 38, 39, 6, 40, 53, 54, 55, 56, 57, 58, 59, 60, 61, 62, 63, 64, 65, 66, 67, 68, 69, 70, 71, 72, 73, 74, 75, 76, 77, 78, 79, 80, 81, 82, 83, 84, 85, 86, 87, 88, 89, 90, 91, 92, 93, 94, 95, 96, 97, 98, 99, 100, 101, 102, 103, 104, 105, 106, 107, 108, 109, 110, 111, 112, 113, 114, 115, 116, 117, 118, 119, 120, 121, 122, 123, 124, 125, 126, 127, 128, 129, 130, 131, 132, 133, 134, 135, 136, 137, 138, 139, 140, 141, 142, 143, 144, 145, 146, 147, 148, 5, 7, 149, 150, 151, 152, 153, 154, 155, 156, 157, 158, 159, 160, 161, 162, 163, 164, 165, 166, 167, 168, 169, 170, 171, 172, 173, 174, 175, 176, 177, 1, 178, 179, 180, 181, 16, 182, 183, 184, 185, 186, 187, 188, 189, 190, 191, 192, 193, 194, 195, 196, 197, 198, 199, 200, 201, 202, 203, 204, 205, 206, 207, 208, 209, 210, 211, 212, 213, 15, 214, 215, 216, 217, 218, 27, 28, 29, 30, 41, 42, 43, 44, 45, 46, 47, 48, 49, 50, 51, 52, 244, 245, 246, 247, 248, 249, 250, 251, 252, 253, 254, 255, 256, 257, 258, 259, 260, 261, 262, 263, 264, 265, 266, 267, 268, 269, 270, 271, 272, 273, 274, 275, 276, 277, 278, 279, 280] (by decide +kernel) (by decide +kernel)
set_option maxRecDepth 20000 in
theorem gX9_go_X9_clean : GoodIn wsX9_go (wsV RX9 55 RX9 yX9_clean wsX9_clean) := goodIn_app (goodIn_of _ (by decide +kernel)) ggX9_go_X9_clean
set_option maxRecDepth 20000 in
theorem ggX9_go_X9_mark : GoodIn wsX9_go wsX9_mark := goodIn_r _ [242, 31, 243, 53, 54, 55, 56, 57, 58, 59, 60, 61, 62, 63, 64, 65, 66, 67, 68, 69, 70, 71, 72, 73, 74, 75, 76, 77, 78, 79, 80, 81, 82, 83, 84, 85, 86, 87, 88, 89, 90, 91, 92, 93, 94, 95, 96, 97, 98, 99, 100, 101, 102, 103, 104, 105, 106, 107, 108, 109, 110, 111, 112, 113, 114, 115, 116, 117, 118, 119, 120, 121, 122, 123, 124, 125, 126, 127, 128, 129, 130, 131, 132, 133, 134, 135, 136, 137, 138, 139, 140, 141, 142, 143, 144, 145, 146, 147, 148, 5, 6, 7, 149, 150, 151, 152, 153, 154, 155, 156, 157, 158, 159, 160, 161, 162, 163, 164, 165, 166, 167, 168, 169, 170, 171, 244, 245, 246, 247, 248, 249, 257, 258, 259, 260, 261, 262, 263, 264, 265, 266, 267, 268, 269, 270, 271, 272, 273, 274, 275, 276, 277, 278, 279, 280] (by decide +kernel) (by decide +kernel)
set_option maxRecDepth 20000 in
theorem gX9_go_X9_mark : GoodIn wsX9_go (wsV RX9 58 RX9 yX9_mark wsX9_mark) := goodIn_app (goodIn_of _ (by decide +kernel)) ggX9_go_X9_mark
theorem dX9_go_0 : decode cX9_go 0 = .ok (.aload_n 0, 1) := by decide +kernel
theorem dX9_go_1 : decode cX9_go 1 = .ok (.lconst 0, 1) := by decide +kernel
theorem dX9_go_2 : decode cX9_go 2 = .ok (.putfield 27, 3) := by decide +kernel
theorem dX9_go_5 : decode cX9_go 5 = .ok (.iload_n 1, 1) := by decide +kernel
theorem dX9_go_6 : decode cX9_go 6 = .ok (.ifCond .ne 10, 3) := by decide +kernel
theorem dX9_go_9 : decode cX9_go 9 = .ok (.aload_n 0, 1) := by decide +kernel
theorem dX9_go_10 : decode cX9_go 10 = .ok (.getfield 9, 3) := by decide +kernel
theorem dX9_go_13 : decode cX9_go 13 = .ok (.invokevirtual 31, 3) := by decide +kernel
theorem dX9_go_16 : decode cX9_go 16 = .ok (.iconst 0, 1) := by decide +kernel
theorem dX9_go_17 : decode cX9_go 17 = .ok (.istore_n 3, 1) := by decide +kernel
theorem dX9_go_18 : decode cX9_go 18 = .ok (.iload_n 3, 1) := by decide +kernel
theorem dX9_go_19 : decode cX9_go 19 = .ok (.aload_n 0, 1) := by decide +kernel
theorem dX9_go_20 : decode cX9_go 20 = .ok (.getfield 9, 3) := by decide +kernel
theorem dX9_go_23 : decode cX9_go 23 = .ok (.getfield 36, 3) := by decide +kernel
theorem dX9_go_26 : decode cX9_go 26 = .ok (.if_icmp .ge 87, 3) := by decide +kernel
theorem dX9_go_29 : decode cX9_go 29 = .ok (.iload_n 3, 1) := by decide +kernel
theorem dX9_go_30 : decode cX9_go 30 = .ok (.iconst 4, 1) := by decide +kernel
theorem dX9_go_31 : decode cX9_go 31 = .ok (.iadd, 1) := by decide +kernel
theorem dX9_go_32 : decode cX9_go 32 = .ok (.aload_n 0, 1) := by decide +kernel
theorem dX9_go_33 : decode cX9_go 33 = .ok (.getfield 9, 3) := by decide +kernel
theorem dX9_go_36 : decode cX9_go 36 = .ok (.getfield 36, 3) := by decide +kernel
theorem dX9_go_39 : decode cX9_go 39 = .ok (.invokestatic 39, 3) := by decide +kernel
theorem dX9_go_42 : decode cX9_go 42 = .ok (.istore 4, 2) := by decide +kernel
theorem dX9_go_44 : decode cX9_go 44 = .ok (.iconst 0, 1) := by decide +kernel
theorem dX9_go_45 : decode cX9_go 45 = .ok (.istore 5, 2) := by decide +kernel
theorem dX9_go_47 : decode cX9_go 47 = .ok (.iload 5, 2) := by decide +kernel
theorem dX9_go_49 : decode cX9_go 49 = .ok (.aload_n 0, 1) := by decide +kernel
theorem dX9_go_50 : decode cX9_go 50 = .ok (.getfield 9, 3) := by decide +kernel
theorem dX9_go_53 : decode cX9_go 53 = .ok (.getfield 45, 3) := by decide +kernel
theorem dX9_go_56 : decode cX9_go 56 = .ok (.if_icmp .ge 51, 3) := by decide +kernel
theorem dX9_go_59 : decode cX9_go 59 = .ok (.iload_n 1, 1) := by decide +kernel
theorem dX9_go_60 : decode cX9_go 60 = .ok (.ifCond .ne 15, 3) := by decide +kernel
theorem dX9_go_63 : decode cX9_go 63 = .ok (.aload_n 0, 1) := by decide +kernel
theorem dX9_go_64 : decode cX9_go 64 = .ok (.iload 5, 2) := by decide +kernel
theorem dX9_go_66 : decode cX9_go 66 = .ok (.iload_n 3, 1) := by decide +kernel
theorem dX9_go_67 : decode cX9_go 67 = .ok (.iload 4, 2) := by decide +kernel
theorem dX9_go_69 : decode cX9_go 69 = .ok (.invokevirtual 48, 3) := by decide +kernel
theorem dX9_go_72 : decode cX9_go 72 = .ok (.goto 29, 3) := by decide +kernel
theorem dX9_go_75 : decode cX9_go 75 = .ok (.iload_n 1, 1) := by decide +kernel
theorem dX9_go_76 : decode cX9_go 76 = .ok (.iconst 1, 1) := by decide +kernel
theorem dX9_go_77 : decode cX9_go 77 = .ok (.if_icmp .ne 15, 3) := by decide +kernel
theorem dX9_go_80 : decode cX9_go 80 = .ok (.aload_n 0, 1) := by decide +kernel
theorem dX9_go_81 : decode cX9_go 81 = .ok (.iload 5, 2) := by decide +kernel
theorem dX9_go_83 : decode cX9_go 83 = .ok (.iload_n 3, 1) := by decide +kernel
theorem dX9_go_84 : decode cX9_go 84 = .ok (.iload 4, 2) := by decide +kernel
theorem dX9_go_86 : decode cX9_go 86 = .ok (.invokevirtual 52, 3) := by decide +kernel
theorem dX9_go_89 : decode cX9_go 89 = .ok (.goto 12, 3) := by decide +kernel
theorem dX9_go_92 : decode cX9_go 92 = .ok (.aload_n 0, 1) := by decide +kernel
theorem dX9_go_93 : decode cX9_go 93 = .ok (.iload 5, 2) := by decide +kernel
theorem dX9_go_95 : decode cX9_go 95 = .ok (.iload_n 3, 1) := by decide +kernel
theorem dX9_go_96 : decode cX9_go 96 = .ok (.iload 4, 2) := by decide +kernel
theorem dX9_go_98 : decode cX9_go 98 = .ok (.invokevirtual 55, 3) := by decide +kernel
theorem dX9_go_101 : decode cX9_go 101 = .ok (.iinc 5 1, 3) := by decide +kernel
theorem dX9_go_104 : decode cX9_go 104 = .ok (.goto (-57), 3) := by decide +kernel
theorem dX9_go_107 : decode cX9_go 107 = .ok (.iinc 3 4, 3) := by decide +kernel
theorem dX9_go_110 : decode cX9_go 110 = .ok (.goto (-92), 3) := by decide +kernel
theorem dX9_go_113 : decode cX9_go 113 = .ok (.iload_n 1, 1) := by decide +kernel
theorem dX9_go_114 : decode cX9_go 114 = .ok (.iconst 2, 1) := by decide +kernel
theorem dX9_go_115 : decode cX9_go 115 = .ok (.if_icmp .ne 11, 3) := by decide +kernel
theorem dX9_go_118 : decode cX9_go 118 = .ok (.iload_n 2, 1) := by decide +kernel
theorem dX9_go_119 : decode cX9_go 119 = .ok (.ifCond .eq 7, 3) := by decide +kernel
theorem dX9_go_122 : decode cX9_go 122 = .ok (.aload_n 0, 1) := by decide +kernel
theorem dX9_go_123 : decode cX9_go 123 = .ok (.invokevirtual 58, 3) := by decide +kernel
theorem dX9_go_126 : decode cX9_go 126 = .ok (.return_, 1) := by decide +kernel
set_option maxRecDepth 20000 in
theorem ggX9_spread_X5_place : GoodIn wsX9_spread wsX5_place := goodIn_r _ [7, 8, 214, 215, 216, 217, 218, 219, 220] (by decide +kernel) (by decide +kernel)
set_option maxRecDepth 20000 in
theorem gX9_spread_X5_place : GoodIn wsX9_spread (wsV RX9 61 RX5 yX5_place wsX5_place) := goodIn_app (goodIn_of _ (by decide +kernel)) ggX9_spread_X5_place
set_option maxRecDepth 20000 in
theorem ggX9_spread_X9_firstBit : GoodIn wsX9_spread wsX9_firstBit := goodIn_r _ [13, 14, 1, 15, 16, 17, 18, 6, 19, 20, 21, 22, 23, 24, 25, 26, 27, 28, 29, 30, 31, 32, 33, 34, 35, 36, 37, 38, 39, 40, 41, 42, 43, 44, 45, 46, 47, 48, 49, 50, 51, 52, 53, 54, 55, 56, 57, 58, 59, 60, 61, 62, 63, 64, 65, 66, 67, 68, 69, 70, 71, 72, 73, 74, 75, 76, 77, 78, 79, 80, 81, 82, 83, 84, 85, 86, 87, 88, 89, 90, 91, 92, 93, 94, 95, 96, 97, 98, 99, 100, 101, 102, 103, 104, 105, 106, 107, 108, 109, 110, 111, 112, 113, 114, 115, 116, 117, 118, 119, 120, 121, 122, 123, 124, 125, 126, 127, 128, 129, 130, 131, 132, 133, 134, 135, 136, 137, 138, 139, 140, 141, 142, 143, 144, 145, 146, 147, 148, 149, 150, 151, 152, 153, 154, 155, 156, 157, 158, 208, 209, 210, 211, 212, 213, 214, 215, 216, 217, 218, 219, 220, 221, 222, 223, 224, 225, 226, 227, 228, 229, 230, 231, 232, 233, 234, 235, 236, 237, 238, 239, 240, 241, 242, 243, 244] (by decide +kernel) (by decide +kernel)
set_option maxRecDepth 20000 in
theorem gX9_spread_X9_firstBit : GoodIn wsX9_spread (wsV RX9 68 RX9 yX9_firstBit wsX9_firstBit) := goodIn_app (goodIn_of _ (by decide +kernel)) ggX9_spread_X9_firstBit
set_option maxRecDepth 20000 in
theorem ggX9_spread_X9_becomeSignificant : GoodIn wsX9_spread wsX9_becomeSignificant := goodIn_r _ [162, 1, 163, 14, 164, 22, 23, 24, 165, 15, 3, 4, 5, 6, 7, 8, 166, 167, 168, 169, 29, 170, 171, 172, 173, 174, 175, 176, 177, 20, 40, 41, 42, 43, 44, 45, 46, 47, 48, 49, 50, 51, 52, 53, 54, 55, 56, 57, 58, 59, 60, 61, 62, 63, 64, 65, 66, 67, 68, 69, 70, 71, 72, 73, 74, 75, 76, 77, 78, 79, 80, 81, 82, 83, 84, 85, 86, 87, 88, 89, 90, 91, 92, 93, 94, 95, 96, 97, 98, 99, 100, 101, 102, 103, 104, 105, 106, 107, 108, 109, 110, 111, 112, 113, 114, 115, 116, 117, 118, 119, 120, 121, 122, 123, 124, 125, 126, 127, 128, 129, 130, 131, 132, 133, 134, 135, 35, 36, 136, 137, 138, 139, 140, 141, 142, 143, 144, 145, 146, 147, 148, 149, 150, 151, 152, 153, 154, 155, 156, 157, 158, 178, 179, 180, 181, 21, 182, 183, 184, 185, 186, 187, 188, 189, 190, 191, 192, 193, 194, 195, 196, 197, 198, 199, 200, 201, 202, 203, 204, 205, 206, 207, 208, 209, 210, 211, 212, 213, 214, 215, 216, 217, 218, 219, 220, 221, 222, 223, 224, 225, 226, 227, 228, 229, 230, 231, 232, 233, 234, 235, 236, 237, 238, 239, 240, 241, 242, 243, 244] (by decide +kernel) (by decide +kernel)
set_option maxRecDepth 20000 in
theorem gX9_spread_X9_becomeSignificant : GoodIn wsX9_spread (wsV RX9 72 RX9 yX9_becomeSignificant wsX9_becomeSignificant) := goodIn_app (goodIn_of _ (by decide +kernel)) ggX9_spread_X9_becomeSignificant
theorem dX9_spread_0 : decode cX9_spread 0 = .ok (.iload_n 2, 1) := by decide +kernel
theorem dX9_spread_1 : decode cX9_spread 1 = .ok (.istore 4, 2) := by decide +kernel
theorem dX9_spread_3 : decode cX9_spread 3 = .ok (.iload 4, 2) := by decide +kernel
theorem dX9_spread_5 : decode cX9_spread 5 = .ok (.iload_n 3, 1) := by decide +kernel
theorem dX9_spread_6 : decode cX9_spread 6 = .ok (.if_icmp .ge 83, 3) := by decide +kernel
theorem dX9_spread_9 : decode cX9_spread 9 = .ok (.aload_n 0, 1) := by decide +kernel
theorem dX9_spread_10 : decode cX9_spread 10 = .ok (.getfield 9, 3) := by decide +kernel
theorem dX9_spread_13 : decode cX9_spread 13 = .ok (.iload_n 1, 1) := by decide +kernel
theorem dX9_spread_14 : decode cX9_spread 14 = .ok (.iload 4, 2) := by decide +kernel
theorem dX9_spread_16 : decode cX9_spread 16 = .ok (.invokevirtual 61, 3) := by decide +kernel
theorem dX9_spread_19 : decode cX9_spread 19 = .ok (.istore 5, 2) := by decide +kernel
theorem dX9_spread_21 : decode cX9_spread 21 = .ok (.aload_n 0, 1) := by decide +kernel
theorem dX9_spread_22 : decode cX9_spread 22 = .ok (.getfield 9, 3) := by decide +kernel
theorem dX9_spread_25 : decode cX9_spread 25 = .ok (.getfield 64, 3) := by decide +kernel
theorem dX9_spread_28 : decode cX9_spread 28 = .ok (.iload 5, 2) := by decide +kernel
theorem dX9_spread_30 : decode cX9_spread 30 = .ok (.iaload, 1) := by decide +kernel
theorem dX9_spread_31 : decode cX9_spread 31 = .ok (.istore 6, 2) := by decide +kernel
theorem dX9_spread_33 : decode cX9_spread 33 = .ok (.iload 6, 2) := by decide +kernel
theorem dX9_spread_35 : decode cX9_spread 35 = .ok (.sipush 2048, 3) := by decide +kernel
theorem dX9_spread_38 : decode cX9_spread 38 = .ok (.iand, 1) := by decide +kernel
theorem dX9_spread_39 : decode cX9_spread 39 = .ok (.ifCond .ne 44, 3) := by decide +kernel
theorem dX9_spread_42 : decode cX9_spread 42 = .ok (.iload 6, 2) := by decide +kernel
theorem dX9_spread_44 : decode cX9_spread 44 = .ok (.bipush 127, 2) := by decide +kernel
theorem dX9_spread_46 : decode cX9_spread 46 = .ok (.iand, 1) := by decide +kernel
theorem dX9_spread_47 : decode cX9_spread 47 = .ok (.ifCond .eq 36, 3) := by decide +kernel
theorem dX9_spread_50 : decode cX9_spread 50 = .ok (.aload_n 0, 1) := by decide +kernel
theorem dX9_spread_51 : decode cX9_spread 51 = .ok (.getfield 9, 3) := by decide +kernel
theorem dX9_spread_54 : decode cX9_spread 54 = .ok (.getfield 64, 3) := by decide +kernel
theorem dX9_spread_57 : decode cX9_spread 57 = .ok (.iload 5, 2) := by decide +kernel
theorem dX9_spread_59 : decode cX9_spread 59 = .ok (.dup2, 1) := by decide +kernel
theorem dX9_spread_60 : decode cX9_spread 60 = .ok (.iaload, 1) := by decide +kernel
theorem dX9_spread_61 : decode cX9_spread 61 = .ok (.sipush 8192, 3) := by decide +kernel
theorem dX9_spread_64 : decode cX9_spread 64 = .ok (.ior, 1) := by decide +kernel
theorem dX9_spread_65 : decode cX9_spread 65 = .ok (.iastore, 1) := by decide +kernel
theorem dX9_spread_66 : decode cX9_spread 66 = .ok (.aload_n 0, 1) := by decide +kernel
theorem dX9_spread_67 : decode cX9_spread 67 = .ok (.iload 5, 2) := by decide +kernel
theorem dX9_spread_69 : decode cX9_spread 69 = .ok (.invokevirtual 68, 3) := by decide +kernel
theorem dX9_spread_72 : decode cX9_spread 72 = .ok (.iconst 1, 1) := by decide +kernel
theorem dX9_spread_73 : decode cX9_spread 73 = .ok (.if_icmp .ne 10, 3) := by decide +kernel
theorem dX9_spread_76 : decode cX9_spread 76 = .ok (.aload_n 0, 1) := by decide +kernel
theorem dX9_spread_77 : decode cX9_spread 77 = .ok (.iload_n 1, 1) := by decide +kernel
theorem dX9_spread_78 : decode cX9_spread 78 = .ok (.iload 4, 2) := by decide +kernel
theorem dX9_spread_80 : decode cX9_spread 80 = .ok (.invokevirtual 72, 3) := by decide +kernel
theorem dX9_spread_83 : decode cX9_spread 83 = .ok (.iinc 4 1, 3) := by decide +kernel
theorem dX9_spread_86 : decode cX9_spread 86 = .ok (.goto (-83), 3) := by decide +kernel
theorem dX9_spread_89 : decode cX9_spread 89 = .ok (.return_, 1) := by decide +kernel
set_option maxRecDepth 20000 in
theorem ggX9_refine_X5_place : GoodIn wsX9_refine wsX5_place := goodIn_r _ [10, 11, 168, 169, 170, 171, 172, 173, 174] (by decide +kernel) (by decide +kernel)
set_option maxRecDepth 20000 in
theorem gX9_refine_X5_place : GoodIn wsX9_refine (wsV RX9 61 RX5 yX5_place wsX5_place) := goodIn_app (goodIn_of _ (by decide +kernel)) ggX9_refine_X5_place
set_option maxRecDepth 20000 in
theorem ggX9_refine_X5_bitOf : GoodIn wsX9_refine wsX5_bitOf := goodIn_r _ [15, 16, 17, 18, 19, 20, 168, 169, 170, 171, 172, 173, 174] (by decide +kernel) (by decide +kernel)
set_option maxRecDepth 20000 in
theorem gX9_refine_X5_bitOf : GoodIn wsX9_refine (wsV RX9 76 RX5 yX5_bitOf wsX5_bitOf) := goodIn_app (goodIn_of _ (by decide +kernel)) ggX9_refine_X5_bitOf
set_option maxRecDepth 20000 in
theorem ggX9_refine_X5_againContext : GoodIn wsX9_refine wsX5_againContext := goodIn_r _ [24, 25, 168, 169, 170, 171, 172, 173, 174] (by decide +kernel) (by decide +kernel)
set_option maxRecDepth 20000 in
theorem gX9_refine_X5_againContext : GoodIn wsX9_refine (wsV RX9 79 RX5 yX5_againContext wsX5_againContext) := goodIn_app (goodIn_of _ (by decide +kernel)) ggX9_refine_X5_againContext
set_option maxRecDepth 20000 in
theorem ggX9_refine_X2_next : GoodIn wsX9_refine wsX2_next := goodIn_r _ [31, 32, 33, 34, 35, 36, 37, 38, 39, 40, 41, 42, 43, 44, 45, 46, 47, 48, 49, 50, 51, 52, 53, 54, 55, 56, 57, 58, 59, 60, 61, 30, 62, 63, 64, 65, 66, 67, 68, 69, 70, 71, 72, 73, 175, 176, 177, 178, 179, 180, 181, 182, 183, 184, 185, 186] (by decide +kernel) (by decide +kernel)
set_option maxRecDepth 20000 in
theorem gX9_refine_X2_next_u82X2 : GoodIn wsX9_refine (va_wsU RX9 82 RX2 "PlaneBlocks$Bits" ⟨"PlaneBlocks$Bits", "next", "(II)I"⟩ yX2_next wsX2_next) := goodIn_app (goodIn_of _ (by decide +kernel)) ggX9_refine_X2_next
set_option maxRecDepth 20000 in
theorem ggX9_refine_X3_next : GoodIn wsX9_refine wsX3_next := goodIn_r _ [77, 78, 79, 80, 81, 82, 83, 38, 39, 40, 41, 42, 43, 84, 45, 46, 47, 48, 85, 86, 87, 76, 88, 89, 50, 51, 52, 53, 90, 55, 56, 57, 58, 91, 92, 93, 94, 95, 96, 97, 98, 99, 70, 100, 72, 101, 73, 102, 103, 104, 105, 106, 107, 108, 109, 110, 111, 112, 113, 114, 115, 116, 117, 118, 119, 120, 121, 122, 19, 123, 124, 125, 126, 127, 187, 188, 189, 190, 191, 182, 183, 184, 185, 186] (by decide +kernel) (by decide +kernel)
set_option maxRecDepth 20000 in
theorem gX9_refine_X3_next_u82X3 : GoodIn wsX9_refine (va_wsU RX9 82 RX3 "PlaneBlocks$Bits" ⟨"PlaneBlocks$Bits", "next", "(II)I"⟩ yX3_next wsX3_next) := goodIn_app (goodIn_of _ (by decide +kernel)) ggX9_refine_X3_next
set_option maxRecDepth 20000 in
theorem ggX9_refine_X7_next : GoodIn wsX9_refine wsX7_next := goodIn_r _ [131, 132, 133, 134, 135, 136, 137, 68, 69, 70, 71, 72, 73, 192, 193, 194, 195, 196, 184, 185, 186] (by decide +kernel) (by decide +kernel)
set_option maxRecDepth 20000 in
theorem gX9_refine_X7_next_u82X7 : GoodIn wsX9_refine (va_wsU RX9 82 RX7 "PlaneBlocks$Bits" ⟨"PlaneBlocks$Bits", "next", "(II)I"⟩ yX7_next wsX7_next) := goodIn_app (goodIn_of _ (by decide +kernel)) ggX9_refine_X7_next
set_option maxRecDepth 20000 in
theorem ggX9_refine_X8_next : GoodIn wsX9_refine wsX8_next := goodIn_r _ [141, 142, 143, 144, 98, 99, 70, 100, 72, 101, 73, 145, 107, 108, 109, 110, 111, 112, 113, 114, 115, 116, 117, 118, 119, 120, 121, 122, 19, 123, 124, 125, 126, 127, 146, 103, 104, 105, 197, 198, 184, 185, 186] (by decide +kernel) (by decide +kernel)
set_option maxRecDepth 20000 in
theorem gX9_refine_X8_next_u82X8 : GoodIn wsX9_refine (va_wsU RX9 82 RX8 "PlaneBlocks$Bits" ⟨"PlaneBlocks$Bits", "next", "(II)I"⟩ yX8_next wsX8_next) := goodIn_app (goodIn_of _ (by decide +kernel)) ggX9_refine_X8_next
set_option maxRecDepth 20000 in
theorem ggX9_refine_X5_lack : GoodIn wsX9_refine wsX5_lack := goodIn_r _ [150, 16, 17, 18, 19, 20, 151, 152, 153, 9, 154, 25, 155, 156, 168, 169, 170, 171, 172, 173, 174] (by decide +kernel) (by decide +kernel)
set_option maxRecDepth 20000 in
theorem gX9_refine_X5_lack : GoodIn wsX9_refine (wsV RX9 87 RX5 yX5_lack wsX5_lack) := goodIn_app (goodIn_of _ (by decide +kernel)) ggX9_refine_X5_lack
set_option maxRecDepth 20000 in
theorem ggX9_refine_X5_learn : GoodIn wsX9_refine wsX5_learn := goodIn_r _ [160, 155, 25, 161, 168, 169, 170, 171, 172, 173, 174] (by decide +kernel) (by decide +kernel)
set_option maxRecDepth 20000 in
theorem gX9_refine_X5_learn : GoodIn wsX9_refine (wsV RX9 91 RX5 yX5_learn wsX5_learn) := goodIn_app (goodIn_of _ (by decide +kernel)) ggX9_refine_X5_learn
theorem dX9_refine_0 : decode cX9_refine 0 = .ok (.iload_n 2, 1) := by decide +kernel
theorem dX9_refine_1 : decode cX9_refine 1 = .ok (.istore 4, 2) := by decide +kernel
theorem dX9_refine_3 : decode cX9_refine 3 = .ok (.iload 4, 2) := by decide +kernel
theorem dX9_refine_5 : decode cX9_refine 5 = .ok (.iload_n 3, 1) := by decide +kernel
theorem dX9_refine_6 : decode cX9_refine 6 = .ok (.if_icmp .ge 139, 3) := by decide +kernel
theorem dX9_refine_9 : decode cX9_refine 9 = .ok (.aload_n 0, 1) := by decide +kernel
theorem dX9_refine_10 : decode cX9_refine 10 = .ok (.getfield 9, 3) := by decide +kernel
theorem dX9_refine_13 : decode cX9_refine 13 = .ok (.iload_n 1, 1) := by decide +kernel
theorem dX9_refine_14 : decode cX9_refine 14 = .ok (.iload 4, 2) := by decide +kernel
theorem dX9_refine_16 : decode cX9_refine 16 = .ok (.invokevirtual 61, 3) := by decide +kernel
theorem dX9_refine_19 : decode cX9_refine 19 = .ok (.istore 5, 2) := by decide +kernel
theorem dX9_refine_21 : decode cX9_refine 21 = .ok (.aload_n 0, 1) := by decide +kernel
theorem dX9_refine_22 : decode cX9_refine 22 = .ok (.getfield 9, 3) := by decide +kernel
theorem dX9_refine_25 : decode cX9_refine 25 = .ok (.getfield 64, 3) := by decide +kernel
theorem dX9_refine_28 : decode cX9_refine 28 = .ok (.iload 5, 2) := by decide +kernel
theorem dX9_refine_30 : decode cX9_refine 30 = .ok (.iaload, 1) := by decide +kernel
theorem dX9_refine_31 : decode cX9_refine 31 = .ok (.sipush 10240, 3) := by decide +kernel
theorem dX9_refine_34 : decode cX9_refine 34 = .ok (.iand, 1) := by decide +kernel
theorem dX9_refine_35 : decode cX9_refine 35 = .ok (.sipush 2048, 3) := by decide +kernel
theorem dX9_refine_38 : decode cX9_refine 38 = .ok (.if_icmp .ne 101, 3) := by decide +kernel
theorem dX9_refine_41 : decode cX9_refine 41 = .ok (.aload_n 0, 1) := by decide +kernel
theorem dX9_refine_42 : decode cX9_refine 42 = .ok (.getfield 15, 3) := by decide +kernel
theorem dX9_refine_45 : decode cX9_refine 45 = .ok (.aload_n 0, 1) := by decide +kernel
theorem dX9_refine_46 : decode cX9_refine 46 = .ok (.getfield 9, 3) := by decide +kernel
theorem dX9_refine_49 : decode cX9_refine 49 = .ok (.iload 5, 2) := by decide +kernel
theorem dX9_refine_51 : decode cX9_refine 51 = .ok (.aload_n 0, 1) := by decide +kernel
theorem dX9_refine_52 : decode cX9_refine 52 = .ok (.getfield 23, 3) := by decide +kernel
theorem dX9_refine_55 : decode cX9_refine 55 = .ok (.invokevirtual 76, 3) := by decide +kernel
theorem dX9_refine_58 : decode cX9_refine 58 = .ok (.aload_n 0, 1) := by decide +kernel
theorem dX9_refine_59 : decode cX9_refine 59 = .ok (.getfield 9, 3) := by decide +kernel
theorem dX9_refine_62 : decode cX9_refine 62 = .ok (.iload 5, 2) := by decide +kernel
theorem dX9_refine_64 : decode cX9_refine 64 = .ok (.invokevirtual 79, 3) := by decide +kernel
theorem dX9_refine_67 : decode cX9_refine 67 = .ok (.invokevirtual 82, 3) := by decide +kernel
theorem dX9_refine_70 : decode cX9_refine 70 = .ok (.istore 6, 2) := by decide +kernel
theorem dX9_refine_72 : decode cX9_refine 72 = .ok (.aload_n 0, 1) := by decide +kernel
theorem dX9_refine_73 : decode cX9_refine 73 = .ok (.getfield 9, 3) := by decide +kernel
theorem dX9_refine_76 : decode cX9_refine 76 = .ok (.getfield 64, 3) := by decide +kernel
theorem dX9_refine_79 : decode cX9_refine 79 = .ok (.iload 5, 2) := by decide +kernel
theorem dX9_refine_81 : decode cX9_refine 81 = .ok (.dup2, 1) := by decide +kernel
theorem dX9_refine_82 : decode cX9_refine 82 = .ok (.iaload, 1) := by decide +kernel
theorem dX9_refine_83 : decode cX9_refine 83 = .ok (.sipush 16384, 3) := by decide +kernel
theorem dX9_refine_86 : decode cX9_refine 86 = .ok (.ior, 1) := by decide +kernel
theorem dX9_refine_87 : decode cX9_refine 87 = .ok (.iastore, 1) := by decide +kernel
theorem dX9_refine_88 : decode cX9_refine 88 = .ok (.aload_n 0, 1) := by decide +kernel
theorem dX9_refine_89 : decode cX9_refine 89 = .ok (.dup, 1) := by decide +kernel
theorem dX9_refine_90 : decode cX9_refine 90 = .ok (.getfield 27, 3) := by decide +kernel
theorem dX9_refine_93 : decode cX9_refine 93 = .ok (.aload_n 0, 1) := by decide +kernel
theorem dX9_refine_94 : decode cX9_refine 94 = .ok (.getfield 9, 3) := by decide +kernel
theorem dX9_refine_97 : decode cX9_refine 97 = .ok (.iload 5, 2) := by decide +kernel
theorem dX9_refine_99 : decode cX9_refine 99 = .ok (.invokevirtual 87, 3) := by decide +kernel
theorem dX9_refine_102 : decode cX9_refine 102 = .ok (.ladd, 1) := by decide +kernel
theorem dX9_refine_103 : decode cX9_refine 103 = .ok (.putfield 27, 3) := by decide +kernel
theorem dX9_refine_106 : decode cX9_refine 106 = .ok (.aload_n 0, 1) := by decide +kernel
theorem dX9_refine_107 : decode cX9_refine 107 = .ok (.getfield 9, 3) := by decide +kernel
theorem dX9_refine_110 : decode cX9_refine 110 = .ok (.iload 5, 2) := by decide +kernel
theorem dX9_refine_112 : decode cX9_refine 112 = .ok (.aload_n 0, 1) := by decide +kernel
theorem dX9_refine_113 : decode cX9_refine 113 = .ok (.getfield 23, 3) := by decide +kernel
theorem dX9_refine_116 : decode cX9_refine 116 = .ok (.iload 6, 2) := by decide +kernel
theorem dX9_refine_118 : decode cX9_refine 118 = .ok (.invokevirtual 91, 3) := by decide +kernel
theorem dX9_refine_121 : decode cX9_refine 121 = .ok (.aload_n 0, 1) := by decide +kernel
theorem dX9_refine_122 : decode cX9_refine 122 = .ok (.dup, 1) := by decide +kernel
theorem dX9_refine_123 : decode cX9_refine 123 = .ok (.getfield 27, 3) := by decide +kernel
theorem dX9_refine_126 : decode cX9_refine 126 = .ok (.aload_n 0, 1) := by decide +kernel
theorem dX9_refine_127 : decode cX9_refine 127 = .ok (.getfield 9, 3) := by decide +kernel
theorem dX9_refine_130 : decode cX9_refine 130 = .ok (.iload 5, 2) := by decide +kernel
theorem dX9_refine_132 : decode cX9_refine 132 = .ok (.invokevirtual 87, 3) := by decide +kernel
theorem dX9_refine_135 : decode cX9_refine 135 = .ok (.lsub, 1) := by decide +kernel
theorem dX9_refine_136 : decode cX9_refine 136 = .ok (.putfield 27, 3) := by decide +kernel
theorem dX9_refine_139 : decode cX9_refine 139 = .ok (.iinc 4 1, 3) := by decide +kernel
theorem dX9_refine_142 : decode cX9_refine 142 = .ok (.goto (-139), 3) := by decide +kernel
theorem dX9_refine_145 : decode cX9_refine 145 = .ok (.return_, 1) := by decide +kernel
set_option maxRecDepth 20000 in
theorem ggX9_clean_X9_isQuiet : GoodIn wsX9_clean wsX9_isQuiet := goodIn_r _ [7, 1, 2, 8, 9, 10, 11, 12, 13, 216, 217, 218, 219, 220, 221, 222, 223, 224, 225, 226, 227, 228] (by decide +kernel) (by decide +kernel)
set_option maxRecDepth 20000 in
theorem gX9_clean_X9_isQuiet : GoodIn wsX9_clean (wsV RX9 94 RX9 yX9_isQuiet wsX9_isQuiet) := goodIn_app (goodIn_of _ (by decide +kernel)) ggX9_clean_X9_isQuiet
set_option maxRecDepth 20000 in
theorem ggX9_clean_X9_run : GoodIn wsX9_clean wsX9_run := goodIn_r _ [17, 1, 18, 19, 8, 9, 10, 11, 12, 13, 20, 21, 22, 23, 24, 25, 26, 27, 28, 29, 30, 31, 32, 33, 34, 35, 36, 37, 38, 39, 40, 41, 42, 43, 44, 45, 46, 47, 48, 49, 50, 51, 52, 53, 54, 55, 56, 57, 58, 59, 60, 61, 62, 63, 64, 65, 66, 67, 68, 69, 70, 71, 72, 73, 74, 75, 76, 77, 78, 79, 80, 81, 82, 83, 84, 85, 86, 87, 88, 89, 90, 91, 92, 93, 94, 95, 96, 97, 98, 99, 100, 101, 102, 103, 104, 105, 106, 107, 108, 109, 110, 111, 112, 113, 114, 115, 116, 117, 118, 119, 120, 121, 122, 123, 124, 125, 126, 127, 128, 129, 130, 131, 132, 133, 134, 135, 136, 137, 138, 139, 140, 141, 142, 143, 144, 145, 146, 147, 148, 149, 216, 217, 218, 219, 220, 221, 222, 223, 224, 225, 226, 227, 228, 229, 230, 231, 232, 233, 234, 235, 236, 237, 238, 239, 240, 241, 242, 243, 244, 245, 246, 247, 248, 249, 250, 251, 252] (by decide +kernel) (by decide +kernel)
set_option maxRecDepth 20000 in
theorem gX9_clean_X9_run : GoodIn wsX9_clean (wsV RX9 98 RX9 yX9_run wsX9_run) := goodIn_app (goodIn_of _ (by decide +kernel)) ggX9_clean_X9_run
set_option maxRecDepth 20000 in
theorem ggX9_clean_X9_becomeSignificant : GoodIn wsX9_clean wsX9_becomeSignificant := goodIn_r _ [153, 1, 154, 19, 155, 26, 27, 28, 156, 18, 8, 9, 10, 11, 12, 13, 157, 158, 159, 160, 161, 162, 163, 164, 165, 166, 167, 168, 169, 24, 29, 30, 31, 32, 33, 34, 35, 36, 37, 38, 39, 40, 41, 42, 43, 44, 45, 46, 47, 48, 49, 50, 51, 52, 53, 54, 55, 56, 57, 58, 59, 60, 61, 62, 63, 64, 65, 66, 67, 68, 69, 70, 71, 72, 73, 74, 75, 76, 77, 78, 79, 80, 81, 82, 83, 84, 85, 86, 87, 88, 89, 90, 91, 92, 93, 94, 95, 96, 97, 98, 99, 100, 101, 102, 103, 104, 105, 106, 107, 108, 109, 110, 111, 112, 113, 114, 115, 116, 117, 118, 119, 120, 121, 122, 123, 124, 125, 126, 127, 128, 129, 130, 131, 132, 133, 134, 135, 136, 137, 138, 139, 140, 141, 142, 143, 144, 145, 146, 147, 148, 149, 170, 171, 172, 173, 25, 174, 175, 176, 177, 178, 179, 180, 181, 182, 183, 184, 185, 186, 187, 188, 189, 190, 191, 192, 193, 194, 195, 196, 197, 198, 199, 216, 217, 218, 219, 220, 221, 222, 223, 224, 225, 226, 227, 228, 229, 230, 231, 232, 233, 234, 235, 236, 237, 238, 239, 240, 241, 242, 243, 244, 245, 246, 247, 248, 249, 250, 251, 252] (by decide +kernel) (by decide +kernel)
set_option maxRecDepth 20000 in
theorem gX9_clean_X9_becomeSignificant : GoodIn wsX9_clean (wsV RX9 72 RX9 yX9_becomeSignificant wsX9_becomeSignificant) := goodIn_app (goodIn_of _ (by decide +kernel)) ggX9_clean_X9_becomeSignificant
set_option maxRecDepth 20000 in
theorem ggX9_clean_X5_place : GoodIn wsX9_clean wsX5_place := goodIn_r _ [12, 13, 222, 223, 224, 225, 226, 227, 228] (by decide +kernel) (by decide +kernel)
set_option maxRecDepth 20000 in
theorem gX9_clean_X5_place : GoodIn wsX9_clean (wsV RX9 61 RX5 yX5_place wsX5_place) := goodIn_app (goodIn_of _ (by decide +kernel)) ggX9_clean_X5_place
set_option maxRecDepth 20000 in
theorem ggX9_clean_X9_firstBit : GoodIn wsX9_clean wsX9_firstBit := goodIn_r _ [203, 19, 1, 18, 20, 21, 22, 11, 23, 24, 25, 26, 27, 28, 204, 205, 206, 207, 161, 208, 209, 210, 211, 212, 125, 126, 213, 214, 215, 29, 30, 31, 32, 33, 34, 35, 36, 37, 38, 39, 40, 41, 42, 43, 44, 45, 46, 47, 48, 49, 50, 51, 52, 53, 54, 55, 56, 57, 58, 59, 60, 61, 62, 63, 64, 65, 66, 67, 68, 69, 70, 71, 72, 73, 74, 75, 76, 77, 78, 79, 80, 81, 82, 83, 84, 85, 86, 87, 88, 89, 90, 91, 92, 93, 94, 95, 96, 97, 98, 99, 100, 101, 102, 103, 104, 105, 106, 107, 108, 109, 110, 111, 112, 113, 114, 115, 116, 117, 118, 119, 120, 121, 122, 123, 124, 127, 128, 129, 130, 131, 132, 133, 134, 135, 136, 137, 138, 139, 140, 141, 142, 143, 144, 145, 146, 147, 148, 149, 216, 217, 218, 219, 220, 221, 222, 223, 224, 225, 226, 227, 228, 229, 230, 231, 232, 233, 234, 235, 236, 237, 238, 239, 240, 241, 242, 243, 244, 245, 246, 247, 248, 249, 250, 251, 252] (by decide +kernel) (by decide +kernel)
set_option maxRecDepth 20000 in
theorem gX9_clean_X9_firstBit : GoodIn wsX9_clean (wsV RX9 68 RX9 yX9_firstBit wsX9_firstBit) := goodIn_app (goodIn_of _ (by decide +kernel)) ggX9_clean_X9_firstBit
theorem dX9_clean_0 : decode cX9_clean 0 = .ok (.iload_n 2, 1) := by decide +kernel
theorem dX9_clean_1 : decode cX9_clean 1 = .ok (.istore 4, 2) := by decide +kernel
theorem dX9_clean_3 : decode cX9_clean 3 = .ok (.aload_n 0, 1) := by decide +kernel
theorem dX9_clean_4 : decode cX9_clean 4 = .ok (.iload_n 1, 1) := by decide +kernel
theorem dX9_clean_5 : decode cX9_clean 5 = .ok (.iload_n 2, 1) := by decide +kernel
theorem dX9_clean_6 : decode cX9_clean 6 = .ok (.iload_n 3, 1) := by decide +kernel
theorem dX9_clean_7 : decode cX9_clean 7 = .ok (.invokevirtual 94, 3) := by decide +kernel
theorem dX9_clean_10 : decode cX9_clean 10 = .ok (.ifCond .eq 26, 3) := by decide +kernel
theorem dX9_clean_13 : decode cX9_clean 13 = .ok (.iload_n 2, 1) := by decide +kernel
theorem dX9_clean_14 : decode cX9_clean 14 = .ok (.aload_n 0, 1) := by decide +kernel
theorem dX9_clean_15 : decode cX9_clean 15 = .ok (.iload_n 1, 1) := by decide +kernel
theorem dX9_clean_16 : decode cX9_clean 16 = .ok (.iload_n 2, 1) := by decide +kernel
theorem dX9_clean_17 : decode cX9_clean 17 = .ok (.invokevirtual 98, 3) := by decide +kernel
theorem dX9_clean_20 : decode cX9_clean 20 = .ok (.iadd, 1) := by decide +kernel
theorem dX9_clean_21 : decode cX9_clean 21 = .ok (.istore 4, 2) := by decide +kernel
theorem dX9_clean_23 : decode cX9_clean 23 = .ok (.iload 4, 2) := by decide +kernel
theorem dX9_clean_25 : decode cX9_clean 25 = .ok (.iload_n 3, 1) := by decide +kernel
theorem dX9_clean_26 : decode cX9_clean 26 = .ok (.if_icmp .ge 10, 3) := by decide +kernel
theorem dX9_clean_29 : decode cX9_clean 29 = .ok (.aload_n 0, 1) := by decide +kernel
theorem dX9_clean_30 : decode cX9_clean 30 = .ok (.iload_n 1, 1) := by decide +kernel
theorem dX9_clean_31 : decode cX9_clean 31 = .ok (.iload 4, 2) := by decide +kernel
theorem dX9_clean_33 : decode cX9_clean 33 = .ok (.invokevirtual 72, 3) := by decide +kernel
theorem dX9_clean_36 : decode cX9_clean 36 = .ok (.iload 4, 2) := by decide +kernel
theorem dX9_clean_38 : decode cX9_clean 38 = .ok (.iload_n 3, 1) := by decide +kernel
theorem dX9_clean_39 : decode cX9_clean 39 = .ok (.if_icmp .ge 55, 3) := by decide +kernel
theorem dX9_clean_42 : decode cX9_clean 42 = .ok (.aload_n 0, 1) := by decide +kernel
theorem dX9_clean_43 : decode cX9_clean 43 = .ok (.getfield 9, 3) := by decide +kernel
theorem dX9_clean_46 : decode cX9_clean 46 = .ok (.iload_n 1, 1) := by decide +kernel
theorem dX9_clean_47 : decode cX9_clean 47 = .ok (.iload 4, 2) := by decide +kernel
theorem dX9_clean_49 : decode cX9_clean 49 = .ok (.invokevirtual 61, 3) := by decide +kernel
theorem dX9_clean_52 : decode cX9_clean 52 = .ok (.istore 5, 2) := by decide +kernel
theorem dX9_clean_54 : decode cX9_clean 54 = .ok (.aload_n 0, 1) := by decide +kernel
theorem dX9_clean_55 : decode cX9_clean 55 = .ok (.getfield 9, 3) := by decide +kernel
theorem dX9_clean_58 : decode cX9_clean 58 = .ok (.getfield 64, 3) := by decide +kernel
theorem dX9_clean_61 : decode cX9_clean 61 = .ok (.iload 5, 2) := by decide +kernel
theorem dX9_clean_63 : decode cX9_clean 63 = .ok (.iaload, 1) := by decide +kernel
theorem dX9_clean_64 : decode cX9_clean 64 = .ok (.sipush 10240, 3) := by decide +kernel
theorem dX9_clean_67 : decode cX9_clean 67 = .ok (.iand, 1) := by decide +kernel
theorem dX9_clean_68 : decode cX9_clean 68 = .ok (.ifCond .ne 20, 3) := by decide +kernel
theorem dX9_clean_71 : decode cX9_clean 71 = .ok (.aload_n 0, 1) := by decide +kernel
theorem dX9_clean_72 : decode cX9_clean 72 = .ok (.iload 5, 2) := by decide +kernel
theorem dX9_clean_74 : decode cX9_clean 74 = .ok (.invokevirtual 68, 3) := by decide +kernel
theorem dX9_clean_77 : decode cX9_clean 77 = .ok (.iconst 1, 1) := by decide +kernel
theorem dX9_clean_78 : decode cX9_clean 78 = .ok (.if_icmp .ne 10, 3) := by decide +kernel
theorem dX9_clean_81 : decode cX9_clean 81 = .ok (.aload_n 0, 1) := by decide +kernel
theorem dX9_clean_82 : decode cX9_clean 82 = .ok (.iload_n 1, 1) := by decide +kernel
theorem dX9_clean_83 : decode cX9_clean 83 = .ok (.iload 4, 2) := by decide +kernel
theorem dX9_clean_85 : decode cX9_clean 85 = .ok (.invokevirtual 72, 3) := by decide +kernel
theorem dX9_clean_88 : decode cX9_clean 88 = .ok (.iinc 4 1, 3) := by decide +kernel
theorem dX9_clean_91 : decode cX9_clean 91 = .ok (.goto (-55), 3) := by decide +kernel
theorem dX9_clean_94 : decode cX9_clean 94 = .ok (.return_, 1) := by decide +kernel
set_option maxRecDepth 20000 in
theorem ggX9_isQuiet_X5_place : GoodIn wsX9_isQuiet wsX5_place := goodIn_r _ [7, 8, 15, 16, 17, 18, 19, 20, 21] (by decide +kernel) (by decide +kernel)
set_option maxRecDepth 20000 in
theorem gX9_isQuiet_X5_place : GoodIn wsX9_isQuiet (wsV RX9 61 RX5 yX5_place wsX5_place) := goodIn_app (goodIn_of _ (by decide +kernel)) ggX9_isQuiet_X5_place
theorem dX9_isQuiet_0 : decode cX9_isQuiet 0 = .ok (.iconst 0, 1) := by decide +kernel
theorem dX9_isQuiet_1 : decode cX9_isQuiet 1 = .ok (.istore 4, 2) := by decide +kernel
theorem dX9_isQuiet_3 : decode cX9_isQuiet 3 = .ok (.iload_n 2, 1) := by decide +kernel
theorem dX9_isQuiet_4 : decode cX9_isQuiet 4 = .ok (.istore 5, 2) := by decide +kernel
theorem dX9_isQuiet_6 : decode cX9_isQuiet 6 = .ok (.iload 5, 2) := by decide +kernel
theorem dX9_isQuiet_8 : decode cX9_isQuiet 8 = .ok (.iload_n 3, 1) := by decide +kernel
theorem dX9_isQuiet_9 : decode cX9_isQuiet 9 = .ok (.if_icmp .ge 32, 3) := by decide +kernel
theorem dX9_isQuiet_12 : decode cX9_isQuiet 12 = .ok (.iload 4, 2) := by decide +kernel
theorem dX9_isQuiet_14 : decode cX9_isQuiet 14 = .ok (.aload_n 0, 1) := by decide +kernel
theorem dX9_isQuiet_15 : decode cX9_isQuiet 15 = .ok (.getfield 9, 3) := by decide +kernel
theorem dX9_isQuiet_18 : decode cX9_isQuiet 18 = .ok (.getfield 64, 3) := by decide +kernel
theorem dX9_isQuiet_21 : decode cX9_isQuiet 21 = .ok (.aload_n 0, 1) := by decide +kernel
theorem dX9_isQuiet_22 : decode cX9_isQuiet 22 = .ok (.getfield 9, 3) := by decide +kernel
theorem dX9_isQuiet_25 : decode cX9_isQuiet 25 = .ok (.iload_n 1, 1) := by decide +kernel
theorem dX9_isQuiet_26 : decode cX9_isQuiet 26 = .ok (.iload 5, 2) := by decide +kernel
theorem dX9_isQuiet_28 : decode cX9_isQuiet 28 = .ok (.invokevirtual 61, 3) := by decide +kernel
theorem dX9_isQuiet_31 : decode cX9_isQuiet 31 = .ok (.iaload, 1) := by decide +kernel
theorem dX9_isQuiet_32 : decode cX9_isQuiet 32 = .ok (.ior, 1) := by decide +kernel
theorem dX9_isQuiet_33 : decode cX9_isQuiet 33 = .ok (.istore 4, 2) := by decide +kernel
theorem dX9_isQuiet_35 : decode cX9_isQuiet 35 = .ok (.iinc 5 1, 3) := by decide +kernel
theorem dX9_isQuiet_38 : decode cX9_isQuiet 38 = .ok (.goto (-32), 3) := by decide +kernel
theorem dX9_isQuiet_41 : decode cX9_isQuiet 41 = .ok (.iload_n 3, 1) := by decide +kernel
theorem dX9_isQuiet_42 : decode cX9_isQuiet 42 = .ok (.iload_n 2, 1) := by decide +kernel
theorem dX9_isQuiet_43 : decode cX9_isQuiet 43 = .ok (.isub, 1) := by decide +kernel
theorem dX9_isQuiet_44 : decode cX9_isQuiet 44 = .ok (.iconst 4, 1) := by decide +kernel
theorem dX9_isQuiet_45 : decode cX9_isQuiet 45 = .ok (.if_icmp .ne 16, 3) := by decide +kernel
theorem dX9_isQuiet_48 : decode cX9_isQuiet 48 = .ok (.iload 4, 2) := by decide +kernel
theorem dX9_isQuiet_50 : decode cX9_isQuiet 50 = .ok (.sipush 10367, 3) := by decide +kernel
theorem dX9_isQuiet_53 : decode cX9_isQuiet 53 = .ok (.iand, 1) := by decide +kernel
theorem dX9_isQuiet_54 : decode cX9_isQuiet 54 = .ok (.ifCond .ne 7, 3) := by decide +kernel
theorem dX9_isQuiet_57 : decode cX9_isQuiet 57 = .ok (.iconst 1, 1) := by decide +kernel
theorem dX9_isQuiet_58 : decode cX9_isQuiet 58 = .ok (.goto 4, 3) := by decide +kernel
theorem dX9_isQuiet_61 : decode cX9_isQuiet 61 = .ok (.iconst 0, 1) := by decide +kernel
theorem dX9_isQuiet_62 : decode cX9_isQuiet 62 = .ok (.ireturn, 1) := by decide +kernel
set_option maxRecDepth 20000 in
theorem ggX9_run_X5_place : GoodIn wsX9_run wsX5_place := goodIn_r _ [8, 9, 146, 147, 148, 149, 150, 151, 152] (by decide +kernel) (by decide +kernel)
set_option maxRecDepth 20000 in
theorem gX9_run_X5_place : GoodIn wsX9_run (wsV RX9 61 RX5 yX5_place wsX5_place) := goodIn_app (goodIn_of _ (by decide +kernel)) ggX9_run_X5_place
set_option maxRecDepth 20000 in
theorem ggX9_run_X5_bitOf : GoodIn wsX9_run wsX5_bitOf := goodIn_r _ [13, 14, 15, 16, 17, 18, 146, 147, 148, 149, 150, 151, 152] (by decide +kernel) (by decide +kernel)
set_option maxRecDepth 20000 in
theorem gX9_run_X5_bitOf : GoodIn wsX9_run (wsV RX9 76 RX5 yX5_bitOf wsX5_bitOf) := goodIn_app (goodIn_of _ (by decide +kernel)) ggX9_run_X5_bitOf
set_option maxRecDepth 20000 in
theorem ggX9_run_X2_next : GoodIn wsX9_run wsX2_next := goodIn_r _ [24, 25, 26, 27, 28, 29, 30, 31, 32, 33, 34, 35, 36, 37, 38, 39, 40, 41, 42, 43, 44, 45, 46, 47, 48, 49, 50, 51, 52, 53, 54, 23, 55, 56, 57, 58, 59, 60, 61, 62, 63, 64, 65, 66, 153, 154, 155, 156, 157, 158, 159, 160, 161, 162, 163, 164] (by decide +kernel) (by decide +kernel)
set_option maxRecDepth 20000 in
theorem gX9_run_X2_next_u82X2 : GoodIn wsX9_run (va_wsU RX9 82 RX2 "PlaneBlocks$Bits" ⟨"PlaneBlocks$Bits", "next", "(II)I"⟩ yX2_next wsX2_next) := goodIn_app (goodIn_of _ (by decide +kernel)) ggX9_run_X2_next
set_option maxRecDepth 20000 in
theorem ggX9_run_X3_next : GoodIn wsX9_run wsX3_next := goodIn_r _ [70, 71, 72, 73, 74, 75, 76, 31, 32, 33, 34, 35, 36, 77, 38, 39, 40, 41, 78, 79, 80, 69, 81, 82, 43, 44, 45, 46, 83, 48, 49, 50, 51, 84, 85, 86, 87, 88, 89, 90, 91, 92, 63, 93, 65, 94, 66, 95, 96, 97, 98, 99, 100, 101, 102, 103, 104, 105, 106, 107, 108, 109, 110, 111, 112, 113, 114, 115, 17, 116, 117, 118, 119, 120, 165, 166, 167, 168, 169, 160, 161, 162, 163, 164] (by decide +kernel) (by decide +kernel)
set_option maxRecDepth 20000 in
theorem gX9_run_X3_next_u82X3 : GoodIn wsX9_run (va_wsU RX9 82 RX3 "PlaneBlocks$Bits" ⟨"PlaneBlocks$Bits", "next", "(II)I"⟩ yX3_next wsX3_next) := goodIn_app (goodIn_of _ (by decide +kernel)) ggX9_run_X3_next
set_option maxRecDepth 20000 in
theorem ggX9_run_X7_next : GoodIn wsX9_run wsX7_next := goodIn_r _ [124, 125, 126, 127, 128, 129, 130, 61, 62, 63, 64, 65, 66, 170, 171, 172, 173, 174, 162, 163, 164] (by decide +kernel) (by decide +kernel)
set_option maxRecDepth 20000 in
theorem gX9_run_X7_next_u82X7 : GoodIn wsX9_run (va_wsU RX9 82 RX7 "PlaneBlocks$Bits" ⟨"PlaneBlocks$Bits", "next", "(II)I"⟩ yX7_next wsX7_next) := goodIn_app (goodIn_of _ (by decide +kernel)) ggX9_run_X7_next
set_option maxRecDepth 20000 in
theorem ggX9_run_X8_next : GoodIn wsX9_run wsX8_next := goodIn_r _ [134, 135, 136, 137, 91, 92, 63, 93, 65, 94, 66, 138, 100, 101, 102, 103, 104, 105, 106, 107, 108, 109, 110, 111, 112, 113, 114, 115, 17, 116, 117, 118, 119, 120, 139, 96, 97, 98, 175, 176, 162, 163, 164] (by decide +kernel) (by decide +kernel)
set_option maxRecDepth 20000 in
theorem gX9_run_X8_next_u82X8 : GoodIn wsX9_run (va_wsU RX9 82 RX8 "PlaneBlocks$Bits" ⟨"PlaneBlocks$Bits", "next", "(II)I"⟩ yX8_next wsX8_next) := goodIn_app (goodIn_of _ (by decide +kernel)) ggX9_run_X8_next
theorem dX9_run_0 : decode cX9_run 0 = .ok (.iconst 0, 1) := by decide +kernel
theorem dX9_run_1 : decode cX9_run 1 = .ok (.istore_n 3, 1) := by decide +kernel
theorem dX9_run_2 : decode cX9_run 2 = .ok (.iload_n 3, 1) := by decide +kernel
theorem dX9_run_3 : decode cX9_run 3 = .ok (.iconst 4, 1) := by decide +kernel
theorem dX9_run_4 : decode cX9_run 4 = .ok (.if_icmp .ge 34, 3) := by decide +kernel
theorem dX9_run_7 : decode cX9_run 7 = .ok (.aload_n 0, 1) := by decide +kernel
theorem dX9_run_8 : decode cX9_run 8 = .ok (.getfield 9, 3) := by decide +kernel
theorem dX9_run_11 : decode cX9_run 11 = .ok (.aload_n 0, 1) := by decide +kernel
theorem dX9_run_12 : decode cX9_run 12 = .ok (.getfield 9, 3) := by decide +kernel
theorem dX9_run_15 : decode cX9_run 15 = .ok (.iload_n 1, 1) := by decide +kernel
theorem dX9_run_16 : decode cX9_run 16 = .ok (.iload_n 2, 1) := by decide +kernel
theorem dX9_run_17 : decode cX9_run 17 = .ok (.iload_n 3, 1) := by decide +kernel
theorem dX9_run_18 : decode cX9_run 18 = .ok (.iadd, 1) := by decide +kernel
theorem dX9_run_19 : decode cX9_run 19 = .ok (.invokevirtual 61, 3) := by decide +kernel
theorem dX9_run_22 : decode cX9_run 22 = .ok (.aload_n 0, 1) := by decide +kernel
theorem dX9_run_23 : decode cX9_run 23 = .ok (.getfield 23, 3) := by decide +kernel
theorem dX9_run_26 : decode cX9_run 26 = .ok (.invokevirtual 76, 3) := by decide +kernel
theorem dX9_run_29 : decode cX9_run 29 = .ok (.ifCond .ne 9, 3) := by decide +kernel
theorem dX9_run_32 : decode cX9_run 32 = .ok (.iinc 3 1, 3) := by decide +kernel
theorem dX9_run_35 : decode cX9_run 35 = .ok (.goto (-33), 3) := by decide +kernel
theorem dX9_run_38 : decode cX9_run 38 = .ok (.aload_n 0, 1) := by decide +kernel
theorem dX9_run_39 : decode cX9_run 39 = .ok (.getfield 15, 3) := by decide +kernel
theorem dX9_run_42 : decode cX9_run 42 = .ok (.iload_n 3, 1) := by decide +kernel
theorem dX9_run_43 : decode cX9_run 43 = .ok (.iconst 4, 1) := by decide +kernel
theorem dX9_run_44 : decode cX9_run 44 = .ok (.if_icmp .ge 7, 3) := by decide +kernel
theorem dX9_run_47 : decode cX9_run 47 = .ok (.iconst 1, 1) := by decide +kernel
theorem dX9_run_48 : decode cX9_run 48 = .ok (.goto 4, 3) := by decide +kernel
theorem dX9_run_51 : decode cX9_run 51 = .ok (.iconst 0, 1) := by decide +kernel
theorem dX9_run_52 : decode cX9_run 52 = .ok (.bipush 17, 2) := by decide +kernel
theorem dX9_run_54 : decode cX9_run 54 = .ok (.invokevirtual 82, 3) := by decide +kernel
theorem dX9_run_57 : decode cX9_run 57 = .ok (.ifCond .ne 5, 3) := by decide +kernel
theorem dX9_run_60 : decode cX9_run 60 = .ok (.iconst 4, 1) := by decide +kernel
theorem dX9_run_61 : decode cX9_run 61 = .ok (.ireturn, 1) := by decide +kernel
theorem dX9_run_62 : decode cX9_run 62 = .ok (.aload_n 0, 1) := by decide +kernel
theorem dX9_run_63 : decode cX9_run 63 = .ok (.getfield 15, 3) := by decide +kernel
theorem dX9_run_66 : decode cX9_run 66 = .ok (.iload_n 3, 1) := by decide +kernel
theorem dX9_run_67 : decode cX9_run 67 = .ok (.iconst 1, 1) := by decide +kernel
theorem dX9_run_68 : decode cX9_run 68 = .ok (.ishr, 1) := by decide +kernel
theorem dX9_run_69 : decode cX9_run 69 = .ok (.iconst 1, 1) := by decide +kernel
theorem dX9_run_70 : decode cX9_run 70 = .ok (.iand, 1) := by decide +kernel
theorem dX9_run_71 : decode cX9_run 71 = .ok (.bipush 18, 2) := by decide +kernel
theorem dX9_run_73 : decode cX9_run 73 = .ok (.invokevirtual 82, 3) := by decide +kernel
theorem dX9_run_76 : decode cX9_run 76 = .ok (.istore 4, 2) := by decide +kernel
theorem dX9_run_78 : decode cX9_run 78 = .ok (.iconst 2, 1) := by decide +kernel
theorem dX9_run_79 : decode cX9_run 79 = .ok (.iload 4, 2) := by decide +kernel
theorem dX9_run_81 : decode cX9_run 81 = .ok (.imul, 1) := by decide +kernel
theorem dX9_run_82 : decode cX9_run 82 = .ok (.aload_n 0, 1) := by decide +kernel
theorem dX9_run_83 : decode cX9_run 83 = .ok (.getfield 15, 3) := by decide +kernel
theorem dX9_run_86 : decode cX9_run 86 = .ok (.iload_n 3, 1) := by decide +kernel
theorem dX9_run_87 : decode cX9_run 87 = .ok (.iconst 1, 1) := by decide +kernel
theorem dX9_run_88 : decode cX9_run 88 = .ok (.iand, 1) := by decide +kernel
theorem dX9_run_89 : decode cX9_run 89 = .ok (.bipush 18, 2) := by decide +kernel
theorem dX9_run_91 : decode cX9_run 91 = .ok (.invokevirtual 82, 3) := by decide +kernel
theorem dX9_run_94 : decode cX9_run 94 = .ok (.iadd, 1) := by decide +kernel
theorem dX9_run_95 : decode cX9_run 95 = .ok (.ireturn, 1) := by decide +kernel
set_option maxRecDepth 20000 in
theorem ggX9_firstBit_X5_bitOf : GoodIn wsX9_firstBit wsX5_bitOf := goodIn_r _ [8, 9, 10, 11, 12, 13, 154, 155, 156, 157, 158, 159, 160] (by decide +kernel) (by decide +kernel)
set_option maxRecDepth 20000 in
theorem gX9_firstBit_X5_bitOf : GoodIn wsX9_firstBit (wsV RX9 76 RX5 yX5_bitOf wsX5_bitOf) := goodIn_app (goodIn_of _ (by decide +kernel)) ggX9_firstBit_X5_bitOf
set_option maxRecDepth 20000 in
theorem ggX9_firstBit_X5_zeroContext : GoodIn wsX9_firstBit wsX5_zeroContext := goodIn_r _ [17, 18, 19, 20, 21, 7, 22, 23, 24, 12, 25, 26, 27, 28, 154, 155, 156, 157, 158, 159, 160] (by decide +kernel) (by decide +kernel)
set_option maxRecDepth 20000 in
theorem gX9_firstBit_X5_zeroContext : GoodIn wsX9_firstBit (wsV RX9 101 RX5 yX5_zeroContext wsX5_zeroContext) := goodIn_app (goodIn_of _ (by decide +kernel)) ggX9_firstBit_X5_zeroContext
set_option maxRecDepth 20000 in
theorem ggX9_firstBit_X2_next : GoodIn wsX9_firstBit wsX2_next := goodIn_r _ [34, 35, 36, 37, 38, 39, 40, 41, 42, 43, 44, 45, 46, 47, 48, 49, 50, 51, 52, 53, 54, 55, 56, 57, 58, 59, 60, 61, 62, 63, 64, 33, 65, 66, 67, 68, 69, 70, 71, 72, 73, 74, 75, 76, 161, 162, 163, 164, 165, 166, 167, 168, 169, 170, 171, 172] (by decide +kernel) (by decide +kernel)
set_option maxRecDepth 20000 in
theorem gX9_firstBit_X2_next_u82X2 : GoodIn wsX9_firstBit (va_wsU RX9 82 RX2 "PlaneBlocks$Bits" ⟨"PlaneBlocks$Bits", "next", "(II)I"⟩ yX2_next wsX2_next) := goodIn_app (goodIn_of _ (by decide +kernel)) ggX9_firstBit_X2_next
set_option maxRecDepth 20000 in
theorem ggX9_firstBit_X3_next : GoodIn wsX9_firstBit wsX3_next := goodIn_r _ [80, 81, 82, 83, 84, 85, 86, 41, 42, 43, 44, 45, 46, 87, 48, 49, 50, 51, 88, 89, 90, 79, 91, 92, 53, 54, 55, 56, 93, 58, 59, 60, 61, 94, 95, 96, 97, 98, 99, 100, 101, 102, 73, 103, 75, 104, 76, 105, 106, 107, 108, 109, 110, 111, 112, 113, 114, 115, 116, 117, 118, 119, 120, 121, 122, 123, 124, 24, 12, 25, 125, 126, 127, 128, 173, 174, 175, 176, 177, 168, 169, 170, 171, 172] (by decide +kernel) (by decide +kernel)
set_option maxRecDepth 20000 in
theorem gX9_firstBit_X3_next_u82X3 : GoodIn wsX9_firstBit (va_wsU RX9 82 RX3 "PlaneBlocks$Bits" ⟨"PlaneBlocks$Bits", "next", "(II)I"⟩ yX3_next wsX3_next) := goodIn_app (goodIn_of _ (by decide +kernel)) ggX9_firstBit_X3_next
set_option maxRecDepth 20000 in
theorem ggX9_firstBit_X7_next : GoodIn wsX9_firstBit wsX7_next := goodIn_r _ [132, 133, 134, 135, 136, 137, 138, 71, 72, 73, 74, 75, 76, 178, 179, 180, 181, 182, 170, 171, 172] (by decide +kernel) (by decide +kernel)
set_option maxRecDepth 20000 in
theorem gX9_firstBit_X7_next_u82X7 : GoodIn wsX9_firstBit (va_wsU RX9 82 RX7 "PlaneBlocks$Bits" ⟨"PlaneBlocks$Bits", "next", "(II)I"⟩ yX7_next wsX7_next) := goodIn_app (goodIn_of _ (by decide +kernel)) ggX9_firstBit_X7_next
set_option maxRecDepth 20000 in
theorem ggX9_firstBit_X8_next : GoodIn wsX9_firstBit wsX8_next := goodIn_r _ [142, 143, 144, 145, 101, 102, 73, 103, 75, 104, 76, 146, 110, 111, 112, 113, 114, 115, 116, 117, 118, 119, 120, 121, 122, 123, 124, 24, 12, 25, 125, 126, 127, 128, 147, 106, 107, 108, 183, 184, 170, 171, 172] (by decide +kernel) (by decide +kernel)
set_option maxRecDepth 20000 in
theorem gX9_firstBit_X8_next_u82X8 : GoodIn wsX9_firstBit (va_wsU RX9 82 RX8 "PlaneBlocks$Bits" ⟨"PlaneBlocks$Bits", "next", "(II)I"⟩ yX8_next wsX8_next) := goodIn_app (goodIn_of _ (by decide +kernel)) ggX9_firstBit_X8_next
theorem dX9_firstBit_0 : decode cX9_firstBit 0 = .ok (.aload_n 0, 1) := by decide +kernel
theorem dX9_firstBit_1 : decode cX9_firstBit 1 = .ok (.getfield 15, 3) := by decide +kernel
theorem dX9_firstBit_4 : decode cX9_firstBit 4 = .ok (.aload_n 0, 1) := by decide +kernel
theorem dX9_firstBit_5 : decode cX9_firstBit 5 = .ok (.getfield 9, 3) := by decide +kernel
theorem dX9_firstBit_8 : decode cX9_firstBit 8 = .ok (.iload_n 1, 1) := by decide +kernel
theorem dX9_firstBit_9 : decode cX9_firstBit 9 = .ok (.aload_n 0, 1) := by decide +kernel
theorem dX9_firstBit_10 : decode cX9_firstBit 10 = .ok (.getfield 23, 3) := by decide +kernel
theorem dX9_firstBit_13 : decode cX9_firstBit 13 = .ok (.invokevirtual 76, 3) := by decide +kernel
theorem dX9_firstBit_16 : decode cX9_firstBit 16 = .ok (.aload_n 0, 1) := by decide +kernel
theorem dX9_firstBit_17 : decode cX9_firstBit 17 = .ok (.getfield 9, 3) := by decide +kernel
theorem dX9_firstBit_20 : decode cX9_firstBit 20 = .ok (.iload_n 1, 1) := by decide +kernel
theorem dX9_firstBit_21 : decode cX9_firstBit 21 = .ok (.invokevirtual 101, 3) := by decide +kernel
theorem dX9_firstBit_24 : decode cX9_firstBit 24 = .ok (.invokevirtual 82, 3) := by decide +kernel
theorem dX9_firstBit_27 : decode cX9_firstBit 27 = .ok (.ireturn, 1) := by decide +kernel
set_option maxRecDepth 20000 in
theorem ggX9_becomeSignificant_X5_place : GoodIn wsX9_becomeSignificant wsX5_place := goodIn_r _ [14, 15, 188, 189, 190, 191, 192, 193, 194] (by decide +kernel) (by decide +kernel)
set_option maxRecDepth 20000 in
theorem gX9_becomeSignificant_X5_place : GoodIn wsX9_becomeSignificant (wsV RX9 61 RX5 yX5_place wsX5_place) := goodIn_app (goodIn_of _ (by decide +kernel)) ggX9_becomeSignificant_X5_place
set_option maxRecDepth 20000 in
theorem ggX9_becomeSignificant_X5_signPull : GoodIn wsX9_becomeSignificant wsX5_signPull := goodIn_r _ [19, 20, 21, 22, 23, 24, 188, 189, 190, 191, 192, 193, 194] (by decide +kernel) (by decide +kernel)
set_option maxRecDepth 20000 in
theorem gX9_becomeSignificant_X5_signPull : GoodIn wsX9_becomeSignificant (wsV RX9 104 RX5 yX5_signPull wsX5_signPull) := goodIn_app (goodIn_of _ (by decide +kernel)) ggX9_becomeSignificant_X5_signPull
set_option maxRecDepth 20000 in
theorem ggX9_becomeSignificant_X5_minusOf : GoodIn wsX9_becomeSignificant wsX5_minusOf := goodIn_r _ [28, 29, 188, 189, 190, 191, 192, 193, 194] (by decide +kernel) (by decide +kernel)
set_option maxRecDepth 20000 in
theorem gX9_becomeSignificant_X5_minusOf : GoodIn wsX9_becomeSignificant (wsV RX9 107 RX5 yX5_minusOf wsX5_minusOf) := goodIn_app (goodIn_of _ (by decide +kernel)) ggX9_becomeSignificant_X5_minusOf
set_option maxRecDepth 20000 in
theorem ggX9_becomeSignificant_X2_next : GoodIn wsX9_becomeSignificant wsX2_next := goodIn_r _ [35, 36, 37, 38, 39, 40, 41, 42, 43, 44, 45, 46, 47, 48, 49, 50, 51, 52, 53, 54, 55, 56, 57, 58, 59, 60, 61, 62, 63, 64, 65, 34, 66, 67, 68, 69, 70, 71, 72, 73, 74, 75, 76, 77, 195, 196, 197, 198, 199, 200, 201, 202, 203, 204, 205, 206] (by decide +kernel) (by decide +kernel)
set_option maxRecDepth 20000 in
theorem gX9_becomeSignificant_X2_next_u82X2 : GoodIn wsX9_becomeSignificant (va_wsU RX9 82 RX2 "PlaneBlocks$Bits" ⟨"PlaneBlocks$Bits", "next", "(II)I"⟩ yX2_next wsX2_next) := goodIn_app (goodIn_of _ (by decide +kernel)) ggX9_becomeSignificant_X2_next
set_option maxRecDepth 20000 in
theorem ggX9_becomeSignificant_X3_next : GoodIn wsX9_becomeSignificant wsX3_next := goodIn_r _ [81, 82, 83, 84, 85, 86, 87, 42, 43, 44, 45, 46, 47, 88, 49, 50, 51, 52, 89, 90, 91, 80, 92, 93, 54, 55, 56, 57, 94, 59, 60, 61, 62, 95, 96, 97, 98, 99, 100, 101, 102, 103, 74, 104, 76, 105, 77, 106, 107, 108, 109, 110, 111, 112, 113, 114, 115, 116, 117, 118, 119, 120, 121, 122, 123, 124, 125, 126, 6, 127, 128, 129, 130, 131, 207, 208, 209, 210, 211, 202, 203, 204, 205, 206] (by decide +kernel) (by decide +kernel)
set_option maxRecDepth 20000 in
theorem gX9_becomeSignificant_X3_next_u82X3 : GoodIn wsX9_becomeSignificant (va_wsU RX9 82 RX3 "PlaneBlocks$Bits" ⟨"PlaneBlocks$Bits", "next", "(II)I"⟩ yX3_next wsX3_next) := goodIn_app (goodIn_of _ (by decide +kernel)) ggX9_becomeSignificant_X3_next
set_option maxRecDepth 20000 in
theorem ggX9_becomeSignificant_X7_next : GoodIn wsX9_becomeSignificant wsX7_next := goodIn_r _ [135, 136, 137, 138, 139, 140, 141, 72, 73, 74, 75, 76, 77, 212, 213, 214, 215, 216, 204, 205, 206] (by decide +kernel) (by decide +kernel)
set_option maxRecDepth 20000 in
theorem gX9_becomeSignificant_X7_next_u82X7 : GoodIn wsX9_becomeSignificant (va_wsU RX9 82 RX7 "PlaneBlocks$Bits" ⟨"PlaneBlocks$Bits", "next", "(II)I"⟩ yX7_next wsX7_next) := goodIn_app (goodIn_of _ (by decide +kernel)) ggX9_becomeSignificant_X7_next
set_option maxRecDepth 20000 in
theorem ggX9_becomeSignificant_X8_next : GoodIn wsX9_becomeSignificant wsX8_next := goodIn_r _ [145, 146, 147, 148, 102, 103, 74, 104, 76, 105, 77, 149, 111, 112, 113, 114, 115, 116, 117, 118, 119, 120, 121, 122, 123, 124, 125, 126, 6, 127, 128, 129, 130, 131, 150, 107, 108, 109, 217, 218, 204, 205, 206] (by decide +kernel) (by decide +kernel)
set_option maxRecDepth 20000 in
theorem gX9_becomeSignificant_X8_next_u82X8 : GoodIn wsX9_becomeSignificant (va_wsU RX9 82 RX8 "PlaneBlocks$Bits" ⟨"PlaneBlocks$Bits", "next", "(II)I"⟩ yX8_next wsX8_next) := goodIn_app (goodIn_of _ (by decide +kernel)) ggX9_becomeSignificant_X8_next
set_option maxRecDepth 20000 in
theorem ggX9_becomeSignificant_X5_lack : GoodIn wsX9_becomeSignificant wsX5_lack := goodIn_r _ [154, 29, 155, 5, 6, 7, 156, 157, 158, 13, 159, 20, 160, 161, 188, 189, 190, 191, 192, 193, 194] (by decide +kernel) (by decide +kernel)
set_option maxRecDepth 20000 in
theorem gX9_becomeSignificant_X5_lack : GoodIn wsX9_becomeSignificant (wsV RX9 87 RX5 yX5_lack wsX5_lack) := goodIn_app (goodIn_of _ (by decide +kernel)) ggX9_becomeSignificant_X5_lack
set_option maxRecDepth 20000 in
theorem ggX9_becomeSignificant_X5_signify : GoodIn wsX9_becomeSignificant wsX5_signify := goodIn_r _ [165, 20, 166, 167, 11, 12, 13, 14, 15, 168, 169, 170, 171, 172, 173, 174, 175, 176, 188, 189, 190, 191, 192, 193, 194] (by decide +kernel) (by decide +kernel)
set_option maxRecDepth 20000 in
theorem gX9_becomeSignificant_X5_signify : GoodIn wsX9_becomeSignificant (wsV RX9 113 RX5 yX5_signify wsX5_signify) := goodIn_app (goodIn_of _ (by decide +kernel)) ggX9_becomeSignificant_X5_signify
set_option maxRecDepth 20000 in
theorem ggX9_becomeSignificant_X5_learn : GoodIn wsX9_becomeSignificant wsX5_learn := goodIn_r _ [180, 160, 20, 181, 188, 189, 190, 191, 192, 193, 194] (by decide +kernel) (by decide +kernel)
set_option maxRecDepth 20000 in
theorem gX9_becomeSignificant_X5_learn : GoodIn wsX9_becomeSignificant (wsV RX9 91 RX5 yX5_learn wsX5_learn) := goodIn_app (goodIn_of _ (by decide +kernel)) ggX9_becomeSignificant_X5_learn
theorem dX9_becomeSignificant_0 : decode cX9_becomeSignificant 0 = .ok (.aload_n 0, 1) := by decide +kernel
theorem dX9_becomeSignificant_1 : decode cX9_becomeSignificant 1 = .ok (.getfield 9, 3) := by decide +kernel
theorem dX9_becomeSignificant_4 : decode cX9_becomeSignificant 4 = .ok (.iload_n 1, 1) := by decide +kernel
theorem dX9_becomeSignificant_5 : decode cX9_becomeSignificant 5 = .ok (.iload_n 2, 1) := by decide +kernel
theorem dX9_becomeSignificant_6 : decode cX9_becomeSignificant 6 = .ok (.invokevirtual 61, 3) := by decide +kernel
theorem dX9_becomeSignificant_9 : decode cX9_becomeSignificant 9 = .ok (.istore_n 3, 1) := by decide +kernel
theorem dX9_becomeSignificant_10 : decode cX9_becomeSignificant 10 = .ok (.aload_n 0, 1) := by decide +kernel
theorem dX9_becomeSignificant_11 : decode cX9_becomeSignificant 11 = .ok (.getfield 9, 3) := by decide +kernel
theorem dX9_becomeSignificant_14 : decode cX9_becomeSignificant 14 = .ok (.iload_n 3, 1) := by decide +kernel
theorem dX9_becomeSignificant_15 : decode cX9_becomeSignificant 15 = .ok (.invokevirtual 104, 3) := by decide +kernel
theorem dX9_becomeSignificant_18 : decode cX9_becomeSignificant 18 = .ok (.istore 4, 2) := by decide +kernel
theorem dX9_becomeSignificant_20 : decode cX9_becomeSignificant 20 = .ok (.iload 4, 2) := by decide +kernel
theorem dX9_becomeSignificant_22 : decode cX9_becomeSignificant 22 = .ok (.ifCond .ge 14, 3) := by decide +kernel
theorem dX9_becomeSignificant_25 : decode cX9_becomeSignificant 25 = .ok (.aload_n 0, 1) := by decide +kernel
theorem dX9_becomeSignificant_26 : decode cX9_becomeSignificant 26 = .ok (.getfield 19, 3) := by decide +kernel
theorem dX9_becomeSignificant_29 : decode cX9_becomeSignificant 29 = .ok (.ifCond .ne 7, 3) := by decide +kernel
theorem dX9_becomeSignificant_32 : decode cX9_becomeSignificant 32 = .ok (.iconst 1, 1) := by decide +kernel
theorem dX9_becomeSignificant_33 : decode cX9_becomeSignificant 33 = .ok (.goto 4, 3) := by decide +kernel
theorem dX9_becomeSignificant_36 : decode cX9_becomeSignificant 36 = .ok (.iconst 0, 1) := by decide +kernel
theorem dX9_becomeSignificant_37 : decode cX9_becomeSignificant 37 = .ok (.istore 5, 2) := by decide +kernel
theorem dX9_becomeSignificant_39 : decode cX9_becomeSignificant 39 = .ok (.aload_n 0, 1) := by decide +kernel
theorem dX9_becomeSignificant_40 : decode cX9_becomeSignificant 40 = .ok (.getfield 15, 3) := by decide +kernel
theorem dX9_becomeSignificant_43 : decode cX9_becomeSignificant 43 = .ok (.aload_n 0, 1) := by decide +kernel
theorem dX9_becomeSignificant_44 : decode cX9_becomeSignificant 44 = .ok (.getfield 9, 3) := by decide +kernel
theorem dX9_becomeSignificant_47 : decode cX9_becomeSignificant 47 = .ok (.iload_n 3, 1) := by decide +kernel
theorem dX9_becomeSignificant_48 : decode cX9_becomeSignificant 48 = .ok (.invokevirtual 107, 3) := by decide +kernel
theorem dX9_becomeSignificant_51 : decode cX9_becomeSignificant 51 = .ok (.iload 5, 2) := by decide +kernel
theorem dX9_becomeSignificant_53 : decode cX9_becomeSignificant 53 = .ok (.ixor, 1) := by decide +kernel
theorem dX9_becomeSignificant_54 : decode cX9_becomeSignificant 54 = .ok (.bipush 9, 2) := by decide +kernel
theorem dX9_becomeSignificant_56 : decode cX9_becomeSignificant 56 = .ok (.iload 4, 2) := by decide +kernel
theorem dX9_becomeSignificant_58 : decode cX9_becomeSignificant 58 = .ok (.invokestatic 110, 3) := by decide +kernel
theorem dX9_becomeSignificant_61 : decode cX9_becomeSignificant 61 = .ok (.iadd, 1) := by decide +kernel
theorem dX9_becomeSignificant_62 : decode cX9_becomeSignificant 62 = .ok (.invokevirtual 82, 3) := by decide +kernel
theorem dX9_becomeSignificant_65 : decode cX9_becomeSignificant 65 = .ok (.iload 5, 2) := by decide +kernel
theorem dX9_becomeSignificant_67 : decode cX9_becomeSignificant 67 = .ok (.ixor, 1) := by decide +kernel
theorem dX9_becomeSignificant_68 : decode cX9_becomeSignificant 68 = .ok (.istore 6, 2) := by decide +kernel
theorem dX9_becomeSignificant_70 : decode cX9_becomeSignificant 70 = .ok (.aload_n 0, 1) := by decide +kernel
theorem dX9_becomeSignificant_71 : decode cX9_becomeSignificant 71 = .ok (.dup, 1) := by decide +kernel
theorem dX9_becomeSignificant_72 : decode cX9_becomeSignificant 72 = .ok (.getfield 27, 3) := by decide +kernel
theorem dX9_becomeSignificant_75 : decode cX9_becomeSignificant 75 = .ok (.aload_n 0, 1) := by decide +kernel
theorem dX9_becomeSignificant_76 : decode cX9_becomeSignificant 76 = .ok (.getfield 9, 3) := by decide +kernel
theorem dX9_becomeSignificant_79 : decode cX9_becomeSignificant 79 = .ok (.iload_n 3, 1) := by decide +kernel
theorem dX9_becomeSignificant_80 : decode cX9_becomeSignificant 80 = .ok (.invokevirtual 87, 3) := by decide +kernel
theorem dX9_becomeSignificant_83 : decode cX9_becomeSignificant 83 = .ok (.ladd, 1) := by decide +kernel
theorem dX9_becomeSignificant_84 : decode cX9_becomeSignificant 84 = .ok (.putfield 27, 3) := by decide +kernel
theorem dX9_becomeSignificant_87 : decode cX9_becomeSignificant 87 = .ok (.aload_n 0, 1) := by decide +kernel
theorem dX9_becomeSignificant_88 : decode cX9_becomeSignificant 88 = .ok (.getfield 9, 3) := by decide +kernel
theorem dX9_becomeSignificant_91 : decode cX9_becomeSignificant 91 = .ok (.iload_n 1, 1) := by decide +kernel
theorem dX9_becomeSignificant_92 : decode cX9_becomeSignificant 92 = .ok (.iload_n 2, 1) := by decide +kernel
theorem dX9_becomeSignificant_93 : decode cX9_becomeSignificant 93 = .ok (.iload 6, 2) := by decide +kernel
theorem dX9_becomeSignificant_95 : decode cX9_becomeSignificant 95 = .ok (.invokevirtual 113, 3) := by decide +kernel
theorem dX9_becomeSignificant_98 : decode cX9_becomeSignificant 98 = .ok (.aload_n 0, 1) := by decide +kernel
theorem dX9_becomeSignificant_99 : decode cX9_becomeSignificant 99 = .ok (.getfield 9, 3) := by decide +kernel
theorem dX9_becomeSignificant_102 : decode cX9_becomeSignificant 102 = .ok (.iload_n 3, 1) := by decide +kernel
theorem dX9_becomeSignificant_103 : decode cX9_becomeSignificant 103 = .ok (.aload_n 0, 1) := by decide +kernel
theorem dX9_becomeSignificant_104 : decode cX9_becomeSignificant 104 = .ok (.getfield 23, 3) := by decide +kernel
theorem dX9_becomeSignificant_107 : decode cX9_becomeSignificant 107 = .ok (.iconst 1, 1) := by decide +kernel
theorem dX9_becomeSignificant_108 : decode cX9_becomeSignificant 108 = .ok (.invokevirtual 91, 3) := by decide +kernel
theorem dX9_becomeSignificant_111 : decode cX9_becomeSignificant 111 = .ok (.aload_n 0, 1) := by decide +kernel
theorem dX9_becomeSignificant_112 : decode cX9_becomeSignificant 112 = .ok (.dup, 1) := by decide +kernel
theorem dX9_becomeSignificant_113 : decode cX9_becomeSignificant 113 = .ok (.getfield 27, 3) := by decide +kernel
theorem dX9_becomeSignificant_116 : decode cX9_becomeSignificant 116 = .ok (.aload_n 0, 1) := by decide +kernel
theorem dX9_becomeSignificant_117 : decode cX9_becomeSignificant 117 = .ok (.getfield 9, 3) := by decide +kernel
theorem dX9_becomeSignificant_120 : decode cX9_becomeSignificant 120 = .ok (.iload_n 3, 1) := by decide +kernel
theorem dX9_becomeSignificant_121 : decode cX9_becomeSignificant 121 = .ok (.invokevirtual 87, 3) := by decide +kernel
theorem dX9_becomeSignificant_124 : decode cX9_becomeSignificant 124 = .ok (.lsub, 1) := by decide +kernel
theorem dX9_becomeSignificant_125 : decode cX9_becomeSignificant 125 = .ok (.putfield 27, 3) := by decide +kernel
theorem dX9_becomeSignificant_128 : decode cX9_becomeSignificant 128 = .ok (.return_, 1) := by decide +kernel
set_option maxRecDepth 20000 in
theorem ggX9_mark_X2_next : GoodIn wsX9_mark wsX2_next := goodIn_r _ [8, 9, 10, 11, 12, 13, 14, 15, 16, 17, 18, 19, 20, 21, 22, 23, 24, 25, 26, 27, 28, 29, 30, 31, 32, 33, 34, 35, 36, 37, 38, 7, 39, 40, 41, 42, 43, 44, 45, 46, 47, 48, 49, 50, 131, 132, 133, 134, 135, 136, 137, 138, 139, 140, 141, 142] (by decide +kernel) (by decide +kernel)
set_option maxRecDepth 20000 in
theorem gX9_mark_X2_next_u82X2 : GoodIn wsX9_mark (va_wsU RX9 82 RX2 "PlaneBlocks$Bits" ⟨"PlaneBlocks$Bits", "next", "(II)I"⟩ yX2_next wsX2_next) := goodIn_app (goodIn_of _ (by decide +kernel)) ggX9_mark_X2_next
set_option maxRecDepth 20000 in
theorem ggX9_mark_X3_next : GoodIn wsX9_mark wsX3_next := goodIn_r _ [54, 55, 56, 57, 58, 59, 60, 15, 16, 17, 18, 19, 20, 61, 22, 23, 24, 25, 62, 63, 64, 53, 65, 66, 27, 28, 29, 30, 67, 32, 33, 34, 35, 68, 69, 70, 71, 72, 73, 74, 75, 76, 47, 77, 49, 78, 50, 79, 80, 81, 82, 83, 84, 85, 86, 87, 88, 89, 90, 91, 92, 93, 94, 95, 96, 97, 98, 99, 100, 101, 102, 103, 104, 105, 143, 144, 145, 146, 147, 138, 139, 140, 141, 142] (by decide +kernel) (by decide +kernel)
set_option maxRecDepth 20000 in
theorem gX9_mark_X3_next_u82X3 : GoodIn wsX9_mark (va_wsU RX9 82 RX3 "PlaneBlocks$Bits" ⟨"PlaneBlocks$Bits", "next", "(II)I"⟩ yX3_next wsX3_next) := goodIn_app (goodIn_of _ (by decide +kernel)) ggX9_mark_X3_next
set_option maxRecDepth 20000 in
theorem ggX9_mark_X7_next : GoodIn wsX9_mark wsX7_next := goodIn_r _ [109, 110, 111, 112, 113, 114, 115, 45, 46, 47, 48, 49, 50, 148, 149, 150, 151, 152, 140, 141, 142] (by decide +kernel) (by decide +kernel)
set_option maxRecDepth 20000 in
theorem gX9_mark_X7_next_u82X7 : GoodIn wsX9_mark (va_wsU RX9 82 RX7 "PlaneBlocks$Bits" ⟨"PlaneBlocks$Bits", "next", "(II)I"⟩ yX7_next wsX7_next) := goodIn_app (goodIn_of _ (by decide +kernel)) ggX9_mark_X7_next
set_option maxRecDepth 20000 in
theorem ggX9_mark_X8_next : GoodIn wsX9_mark wsX8_next := goodIn_r _ [119, 120, 121, 122, 75, 76, 47, 77, 49, 78, 50, 123, 84, 85, 86, 87, 88, 89, 90, 91, 92, 93, 94, 95, 96, 97, 98, 99, 100, 101, 102, 103, 104, 105, 124, 80, 81, 82, 153, 154, 140, 141, 142] (by decide +kernel) (by decide +kernel)
set_option maxRecDepth 20000 in
theorem gX9_mark_X8_next_u82X8 : GoodIn wsX9_mark (va_wsU RX9 82 RX8 "PlaneBlocks$Bits" ⟨"PlaneBlocks$Bits", "next", "(II)I"⟩ yX8_next wsX8_next) := goodIn_app (goodIn_of _ (by decide +kernel)) ggX9_mark_X8_next
theorem dX9_mark_0 : decode cX9_mark 0 = .ok (.iconst 0, 1) := by decide +kernel
theorem dX9_mark_1 : decode cX9_mark 1 = .ok (.istore_n 1, 1) := by decide +kernel
theorem dX9_mark_2 : decode cX9_mark 2 = .ok (.iconst 3, 1) := by decide +kernel
theorem dX9_mark_3 : decode cX9_mark 3 = .ok (.istore_n 2, 1) := by decide +kernel
theorem dX9_mark_4 : decode cX9_mark 4 = .ok (.iload_n 2, 1) := by decide +kernel
theorem dX9_mark_5 : decode cX9_mark 5 = .ok (.ifCond .lt 29, 3) := by decide +kernel
theorem dX9_mark_8 : decode cX9_mark 8 = .ok (.iconst 2, 1) := by decide +kernel
theorem dX9_mark_9 : decode cX9_mark 9 = .ok (.iload_n 1, 1) := by decide +kernel
theorem dX9_mark_10 : decode cX9_mark 10 = .ok (.imul, 1) := by decide +kernel
theorem dX9_mark_11 : decode cX9_mark 11 = .ok (.aload_n 0, 1) := by decide +kernel
theorem dX9_mark_12 : decode cX9_mark 12 = .ok (.getfield 15, 3) := by decide +kernel
theorem dX9_mark_15 : decode cX9_mark 15 = .ok (.bipush 10, 2) := by decide +kernel
theorem dX9_mark_17 : decode cX9_mark 17 = .ok (.iload_n 2, 1) := by decide +kernel
theorem dX9_mark_18 : decode cX9_mark 18 = .ok (.ishr, 1) := by decide +kernel
theorem dX9_mark_19 : decode cX9_mark 19 = .ok (.iconst 1, 1) := by decide +kernel
theorem dX9_mark_20 : decode cX9_mark 20 = .ok (.iand, 1) := by decide +kernel
theorem dX9_mark_21 : decode cX9_mark 21 = .ok (.bipush 18, 2) := by decide +kernel
theorem dX9_mark_23 : decode cX9_mark 23 = .ok (.invokevirtual 82, 3) := by decide +kernel
theorem dX9_mark_26 : decode cX9_mark 26 = .ok (.iadd, 1) := by decide +kernel
theorem dX9_mark_27 : decode cX9_mark 27 = .ok (.istore_n 1, 1) := by decide +kernel
theorem dX9_mark_28 : decode cX9_mark 28 = .ok (.iinc 2 (-1), 3) := by decide +kernel
theorem dX9_mark_31 : decode cX9_mark 31 = .ok (.goto (-27), 3) := by decide +kernel
theorem dX9_mark_34 : decode cX9_mark 34 = .ok (.iload_n 1, 1) := by decide +kernel
theorem dX9_mark_35 : decode cX9_mark 35 = .ok (.bipush 10, 2) := by decide +kernel
theorem dX9_mark_37 : decode cX9_mark 37 = .ok (.if_icmp .eq 13, 3) := by decide +kernel
theorem dX9_mark_40 : decode cX9_mark 40 = .ok (.aload_n 0, 1) := by decide +kernel
theorem dX9_mark_41 : decode cX9_mark 41 = .ok (.dup, 1) := by decide +kernel
theorem dX9_mark_42 : decode cX9_mark 42 = .ok (.getfield 116, 3) := by decide +kernel
