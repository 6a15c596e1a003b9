theorem dX9_mark_45 : decode cX9_mark 45 = .ok (.iconst 1, 1) := by decide +kernel
theorem dX9_mark_46 : decode cX9_mark 46 = .ok (.iadd, 1) := by decide +kernel
theorem dX9_mark_47 : decode cX9_mark 47 = .ok (.putfield 116, 3) := by decide +kernel
theorem dX9_mark_50 : decode cX9_mark 50 = .ok (.return_, 1) := by decide +kernel
set_option maxRecDepth 20000 in
theorem ggX10_init_X5_init : GoodIn wsX10_init wsX5_init := goodIn_r _ [41, 42, 2, 3, 43, 44, 45, 46, 47, 48, 92, 93, 94, 95, 96, 97, 98] (by decide +kernel) (by decide +kernel)
set_option maxRecDepth 20000 in
theorem gX10_init_X5_init_n11 : GoodIn wsX10_init (wsX5_init) := ggX10_init_X5_init
set_option maxRecDepth 20000 in
theorem ggX10_init_X6_init : GoodIn wsX10_init wsX6_init := goodIn_r _ [50, 51, 2, 3, 45, 52, 53, 54, 111, 112, 113, 114, 115, 116, 117] (by decide +kernel) (by decide +kernel)
set_option maxRecDepth 20000 in
theorem gX10_init_X6_init_n18 : GoodIn wsX10_init (wsX6_init) := ggX10_init_X6_init
set_option maxRecDepth 20000 in
theorem ggX10_init_X1_init : GoodIn wsX10_init wsX1_init := goodIn_r _ [56, 57, 2, 3, 45, 58, 118, 119, 120] (by decide +kernel) (by decide +kernel)
set_option maxRecDepth 20000 in
theorem gX10_init_X1_init_n25 : GoodIn wsX10_init (wsX1_init) := ggX10_init_X1_init
set_option maxRecDepth 20000 in
theorem ggX10_init_X4_init : GoodIn wsX10_init wsX4_init := goodIn_r _ [60, 61, 2, 3, 45, 62, 63, 121, 122] (by decide +kernel) (by decide +kernel)
set_option maxRecDepth 20000 in
theorem gX10_init_X4_init_n32 : GoodIn wsX10_init (wsX4_init) := ggX10_init_X4_init
set_option maxRecDepth 20000 in
theorem ggX10_init_X3_init : GoodIn wsX10_init wsX3_init := goodIn_r _ [66, 67, 68, 69, 70, 71, 72, 2, 3, 123, 124, 125, 126, 127] (by decide +kernel) (by decide +kernel)
set_option maxRecDepth 20000 in
theorem gX10_init_X3_init : GoodIn wsX10_init (wsX3_init) := ggX10_init_X3_init
set_option maxRecDepth 20000 in
theorem ggX10_init_X8_init : GoodIn wsX10_init wsX8_init := goodIn_r _ [75, 76, 69, 70, 71, 72, 2, 3, 128, 129] (by decide +kernel) (by decide +kernel)
set_option maxRecDepth 20000 in
theorem gX10_init_X8_init : GoodIn wsX10_init (wsX8_init) := ggX10_init_X8_init
set_option maxRecDepth 20000 in
theorem ggX10_init_X2_init : GoodIn wsX10_init wsX2_init := goodIn_r _ [79, 80, 81, 69, 70, 71, 72, 2, 3, 130, 131, 132, 133, 134, 135, 136] (by decide +kernel) (by decide +kernel)
set_option maxRecDepth 20000 in
theorem gX10_init_X2_init : GoodIn wsX10_init (wsX2_init) := ggX10_init_X2_init
set_option maxRecDepth 20000 in
theorem ggX10_init_X7_init : GoodIn wsX10_init wsX7_init := goodIn_r _ [84, 85, 69, 70, 71, 72, 2, 3, 137, 138, 139, 140, 141] (by decide +kernel) (by decide +kernel)
set_option maxRecDepth 20000 in
theorem gX10_init_X7_init : GoodIn wsX10_init (wsX7_init) := ggX10_init_X7_init
set_option maxRecDepth 20000 in
theorem ggX10_init_X9_init : GoodIn wsX10_init wsX9_init := goodIn_r _ [88, 89, 2, 3, 90, 91, 142, 143, 144, 145, 146, 147] (by decide +kernel) (by decide +kernel)
set_option maxRecDepth 20000 in
theorem gX10_init_X9_init : GoodIn wsX10_init (wsX9_init) := ggX10_init_X9_init
theorem dX10_init_0 : decode cX10_init 0 = .ok (.aload_n 0, 1) := by decide +kernel
theorem dX10_init_1 : decode cX10_init 1 = .ok (.invokespecial 3, 3) := by decide +kernel
theorem dX10_init_4 : decode cX10_init 4 = .ok (.aload_n 0, 1) := by decide +kernel
theorem dX10_init_5 : decode cX10_init 5 = .ok (.new 9, 3) := by decide +kernel
theorem dX10_init_8 : decode cX10_init 8 = .ok (.dup, 1) := by decide +kernel
theorem dX10_init_9 : decode cX10_init 9 = .ok (.invokespecial 11, 3) := by decide +kernel
theorem dX10_init_12 : decode cX10_init 12 = .ok (.putfield 12, 3) := by decide +kernel
theorem dX10_init_15 : decode cX10_init 15 = .ok (.aload_n 0, 1) := by decide +kernel
theorem dX10_init_16 : decode cX10_init 16 = .ok (.new 16, 3) := by decide +kernel
theorem dX10_init_19 : decode cX10_init 19 = .ok (.dup, 1) := by decide +kernel
theorem dX10_init_20 : decode cX10_init 20 = .ok (.invokespecial 18, 3) := by decide +kernel
theorem dX10_init_23 : decode cX10_init 23 = .ok (.putfield 19, 3) := by decide +kernel
theorem dX10_init_26 : decode cX10_init 26 = .ok (.aload_n 0, 1) := by decide +kernel
theorem dX10_init_27 : decode cX10_init 27 = .ok (.new 23, 3) := by decide +kernel
theorem dX10_init_30 : decode cX10_init 30 = .ok (.dup, 1) := by decide +kernel
theorem dX10_init_31 : decode cX10_init 31 = .ok (.invokespecial 25, 3) := by decide +kernel
theorem dX10_init_34 : decode cX10_init 34 = .ok (.putfield 26, 3) := by decide +kernel
theorem dX10_init_37 : decode cX10_init 37 = .ok (.aload_n 0, 1) := by decide +kernel
theorem dX10_init_38 : decode cX10_init 38 = .ok (.new 30, 3) := by decide +kernel
theorem dX10_init_41 : decode cX10_init 41 = .ok (.dup, 1) := by decide +kernel
theorem dX10_init_42 : decode cX10_init 42 = .ok (.invokespecial 32, 3) := by decide +kernel
theorem dX10_init_45 : decode cX10_init 45 = .ok (.putfield 33, 3) := by decide +kernel
theorem dX10_init_48 : decode cX10_init 48 = .ok (.aload_n 0, 1) := by decide +kernel
theorem dX10_init_49 : decode cX10_init 49 = .ok (.new 37, 3) := by decide +kernel
theorem dX10_init_52 : decode cX10_init 52 = .ok (.dup, 1) := by decide +kernel
theorem dX10_init_53 : decode cX10_init 53 = .ok (.aload_n 0, 1) := by decide +kernel
theorem dX10_init_54 : decode cX10_init 54 = .ok (.getfield 26, 3) := by decide +kernel
theorem dX10_init_57 : decode cX10_init 57 = .ok (.aload_n 0, 1) := by decide +kernel
theorem dX10_init_58 : decode cX10_init 58 = .ok (.getfield 33, 3) := by decide +kernel
theorem dX10_init_61 : decode cX10_init 61 = .ok (.invokespecial 39, 3) := by decide +kernel
theorem dX10_init_64 : decode cX10_init 64 = .ok (.putfield 42, 3) := by decide +kernel
theorem dX10_init_67 : decode cX10_init 67 = .ok (.aload_n 0, 1) := by decide +kernel
theorem dX10_init_68 : decode cX10_init 68 = .ok (.new 46, 3) := by decide +kernel
theorem dX10_init_71 : decode cX10_init 71 = .ok (.dup, 1) := by decide +kernel
theorem dX10_init_72 : decode cX10_init 72 = .ok (.aload_n 0, 1) := by decide +kernel
theorem dX10_init_73 : decode cX10_init 73 = .ok (.getfield 26, 3) := by decide +kernel
theorem dX10_init_76 : decode cX10_init 76 = .ok (.invokespecial 48, 3) := by decide +kernel
theorem dX10_init_79 : decode cX10_init 79 = .ok (.putfield 51, 3) := by decide +kernel
theorem dX10_init_82 : decode cX10_init 82 = .ok (.aload_n 0, 1) := by decide +kernel
theorem dX10_init_83 : decode cX10_init 83 = .ok (.new 55, 3) := by decide +kernel
theorem dX10_init_86 : decode cX10_init 86 = .ok (.dup, 1) := by decide +kernel
theorem dX10_init_87 : decode cX10_init 87 = .ok (.aload_n 0, 1) := by decide +kernel
theorem dX10_init_88 : decode cX10_init 88 = .ok (.getfield 26, 3) := by decide +kernel
theorem dX10_init_91 : decode cX10_init 91 = .ok (.aload_n 0, 1) := by decide +kernel
theorem dX10_init_92 : decode cX10_init 92 = .ok (.getfield 33, 3) := by decide +kernel
theorem dX10_init_95 : decode cX10_init 95 = .ok (.invokespecial 57, 3) := by decide +kernel
theorem dX10_init_98 : decode cX10_init 98 = .ok (.putfield 58, 3) := by decide +kernel
theorem dX10_init_101 : decode cX10_init 101 = .ok (.aload_n 0, 1) := by decide +kernel
theorem dX10_init_102 : decode cX10_init 102 = .ok (.new 62, 3) := by decide +kernel
theorem dX10_init_105 : decode cX10_init 105 = .ok (.dup, 1) := by decide +kernel
theorem dX10_init_106 : decode cX10_init 106 = .ok (.aload_n 0, 1) := by decide +kernel
theorem dX10_init_107 : decode cX10_init 107 = .ok (.getfield 26, 3) := by decide +kernel
theorem dX10_init_110 : decode cX10_init 110 = .ok (.invokespecial 64, 3) := by decide +kernel
theorem dX10_init_113 : decode cX10_init 113 = .ok (.putfield 65, 3) := by decide +kernel
theorem dX10_init_116 : decode cX10_init 116 = .ok (.aload_n 0, 1) := by decide +kernel
theorem dX10_init_117 : decode cX10_init 117 = .ok (.new 69, 3) := by decide +kernel
theorem dX10_init_120 : decode cX10_init 120 = .ok (.dup, 1) := by decide +kernel
theorem dX10_init_121 : decode cX10_init 121 = .ok (.aload_n 0, 1) := by decide +kernel
theorem dX10_init_122 : decode cX10_init 122 = .ok (.getfield 12, 3) := by decide +kernel
theorem dX10_init_125 : decode cX10_init 125 = .ok (.aload_n 0, 1) := by decide +kernel
theorem dX10_init_126 : decode cX10_init 126 = .ok (.getfield 42, 3) := by decide +kernel
theorem dX10_init_129 : decode cX10_init 129 = .ok (.invokespecial 71, 3) := by decide +kernel
theorem dX10_init_132 : decode cX10_init 132 = .ok (.putfield 74, 3) := by decide +kernel
theorem dX10_init_135 : decode cX10_init 135 = .ok (.return_, 1) := by decide +kernel
theorem dX10_begin_0 : decode cX10_begin 0 = .ok (.iload_n 1, 1) := by decide +kernel
theorem dX10_begin_1 : decode cX10_begin 1 = .ok (.iconst 1, 1) := by decide +kernel
theorem dX10_begin_2 : decode cX10_begin 2 = .ok (.if_icmp .lt 20, 3) := by decide +kernel
theorem dX10_begin_5 : decode cX10_begin 5 = .ok (.iload_n 1, 1) := by decide +kernel
theorem dX10_begin_6 : decode cX10_begin 6 = .ok (.bipush 64, 2) := by decide +kernel
theorem dX10_begin_8 : decode cX10_begin 8 = .ok (.if_icmp .gt 14, 3) := by decide +kernel
theorem dX10_begin_11 : decode cX10_begin 11 = .ok (.iload_n 2, 1) := by decide +kernel
theorem dX10_begin_12 : decode cX10_begin 12 = .ok (.iconst 1, 1) := by decide +kernel
theorem dX10_begin_13 : decode cX10_begin 13 = .ok (.if_icmp .lt 9, 3) := by decide +kernel
theorem dX10_begin_16 : decode cX10_begin 16 = .ok (.iload_n 2, 1) := by decide +kernel
theorem dX10_begin_17 : decode cX10_begin 17 = .ok (.bipush 64, 2) := by decide +kernel
theorem dX10_begin_19 : decode cX10_begin 19 = .ok (.if_icmp .le 13, 3) := by decide +kernel
theorem dX10_begin_22 : decode cX10_begin 22 = .ok (.new 78, 3) := by decide +kernel
theorem dX10_begin_25 : decode cX10_begin 25 = .ok (.dup, 1) := by decide +kernel
theorem dX10_begin_26 : decode cX10_begin 26 = .ok (.ldc 80, 2) := by decide +kernel
theorem dX10_begin_28 : decode cX10_begin 28 = .ok (.invokespecial 82, 3) := by decide +kernel
theorem dX10_begin_31 : decode cX10_begin 31 = .ok (.athrow, 1) := by decide +kernel
theorem dX10_begin_32 : decode cX10_begin 32 = .ok (.iload_n 3, 1) := by decide +kernel
theorem dX10_begin_33 : decode cX10_begin 33 = .ok (.ifCond .lt 8, 3) := by decide +kernel
theorem dX10_begin_36 : decode cX10_begin 36 = .ok (.iload_n 3, 1) := by decide +kernel
theorem dX10_begin_37 : decode cX10_begin 37 = .ok (.iconst 3, 1) := by decide +kernel
theorem dX10_begin_38 : decode cX10_begin 38 = .ok (.if_icmp .le 13, 3) := by decide +kernel
theorem dX10_begin_41 : decode cX10_begin 41 = .ok (.new 78, 3) := by decide +kernel
theorem dX10_begin_44 : decode cX10_begin 44 = .ok (.dup, 1) := by decide +kernel
theorem dX10_begin_45 : decode cX10_begin 45 = .ok (.ldc 85, 2) := by decide +kernel
theorem dX10_begin_47 : decode cX10_begin 47 = .ok (.invokespecial 82, 3) := by decide +kernel
theorem dX10_begin_50 : decode cX10_begin 50 = .ok (.athrow, 1) := by decide +kernel
theorem dX10_begin_51 : decode cX10_begin 51 = .ok (.iload 4, 2) := by decide +kernel
theorem dX10_begin_53 : decode cX10_begin 53 = .ok (.ifCond .lt 10, 3) := by decide +kernel
theorem dX10_begin_56 : decode cX10_begin 56 = .ok (.iload 4, 2) := by decide +kernel
theorem dX10_begin_58 : decode cX10_begin 58 = .ok (.bipush 63, 2) := by decide +kernel
theorem dX10_begin_60 : decode cX10_begin 60 = .ok (.if_icmp .le 13, 3) := by decide +kernel
theorem dX10_begin_63 : decode cX10_begin 63 = .ok (.new 78, 3) := by decide +kernel
theorem dX10_begin_66 : decode cX10_begin 66 = .ok (.dup, 1) := by decide +kernel
theorem dX10_begin_67 : decode cX10_begin 67 = .ok (.ldc 87, 2) := by decide +kernel
theorem dX10_begin_69 : decode cX10_begin 69 = .ok (.invokespecial 82, 3) := by decide +kernel
theorem dX10_begin_72 : decode cX10_begin 72 = .ok (.athrow, 1) := by decide +kernel
theorem dX10_begin_73 : decode cX10_begin 73 = .ok (.aload_n 0, 1) := by decide +kernel
theorem dX10_begin_74 : decode cX10_begin 74 = .ok (.iload 4, 2) := by decide +kernel
theorem dX10_begin_76 : decode cX10_begin 76 = .ok (.putfield 89, 3) := by decide +kernel
theorem dX10_begin_79 : decode cX10_begin 79 = .ok (.aload_n 0, 1) := by decide +kernel
theorem dX10_begin_80 : decode cX10_begin 80 = .ok (.getfield 12, 3) := by decide +kernel
theorem dX10_begin_83 : decode cX10_begin 83 = .ok (.iload_n 1, 1) := by decide +kernel
theorem dX10_begin_84 : decode cX10_begin 84 = .ok (.iload_n 2, 1) := by decide +kernel
theorem dX10_begin_85 : decode cX10_begin 85 = .ok (.iload_n 3, 1) := by decide +kernel
theorem dX10_begin_86 : decode cX10_begin 86 = .ok (.aload_n 0, 1) := by decide +kernel
theorem dX10_begin_87 : decode cX10_begin 87 = .ok (.bipush 8, 2) := by decide +kernel
theorem dX10_begin_89 : decode cX10_begin 89 = .ok (.invokevirtual 93, 3) := by decide +kernel
theorem dX10_begin_92 : decode cX10_begin 92 = .ok (.invokevirtual 97, 3) := by decide +kernel
theorem dX10_begin_95 : decode cX10_begin 95 = .ok (.aload_n 0, 1) := by decide +kernel
theorem dX10_begin_96 : decode cX10_begin 96 = .ok (.invokevirtual 101, 3) := by decide +kernel
theorem dX10_begin_99 : decode cX10_begin 99 = .ok (.return_, 1) := by decide +kernel
theorem dX10_set_0 : decode cX10_set 0 = .ok (.aload_n 0, 1) := by decide +kernel
theorem dX10_set_1 : decode cX10_set 1 = .ok (.getfield 12, 3) := by decide +kernel
theorem dX10_set_4 : decode cX10_set 4 = .ok (.iload_n 1, 1) := by decide +kernel
theorem dX10_set_5 : decode cX10_set 5 = .ok (.iload_n 2, 1) := by decide +kernel
theorem dX10_set_6 : decode cX10_set 6 = .ok (.invokevirtual 104, 3) := by decide +kernel
theorem dX10_set_9 : decode cX10_set 9 = .ok (.ifCond .ne 13, 3) := by decide +kernel
theorem dX10_set_12 : decode cX10_set 12 = .ok (.new 78, 3) := by decide +kernel
theorem dX10_set_15 : decode cX10_set 15 = .ok (.dup, 1) := by decide +kernel
theorem dX10_set_16 : decode cX10_set 16 = .ok (.ldc 108, 2) := by decide +kernel
theorem dX10_set_18 : decode cX10_set 18 = .ok (.invokespecial 82, 3) := by decide +kernel
theorem dX10_set_21 : decode cX10_set 21 = .ok (.athrow, 1) := by decide +kernel
theorem dX10_set_22 : decode cX10_set 22 = .ok (.iload_n 3, 1) := by decide +kernel
theorem dX10_set_23 : decode cX10_set 23 = .ok (.ldc 110, 2) := by decide +kernel
theorem dX10_set_25 : decode cX10_set 25 = .ok (.if_icmp .ge 13, 3) := by decide +kernel
theorem dX10_set_28 : decode cX10_set 28 = .ok (.new 78, 3) := by decide +kernel
theorem dX10_set_31 : decode cX10_set 31 = .ok (.dup, 1) := by decide +kernel
theorem dX10_set_32 : decode cX10_set 32 = .ok (.ldc 111, 2) := by decide +kernel
theorem dX10_set_34 : decode cX10_set 34 = .ok (.invokespecial 82, 3) := by decide +kernel
theorem dX10_set_37 : decode cX10_set 37 = .ok (.athrow, 1) := by decide +kernel
theorem dX10_set_38 : decode cX10_set 38 = .ok (.aload_n 0, 1) := by decide +kernel
theorem dX10_set_39 : decode cX10_set 39 = .ok (.getfield 12, 3) := by decide +kernel
theorem dX10_set_42 : decode cX10_set 42 = .ok (.getfield 113, 3) := by decide +kernel
theorem dX10_set_45 : decode cX10_set 45 = .ok (.aload_n 0, 1) := by decide +kernel
theorem dX10_set_46 : decode cX10_set 46 = .ok (.getfield 12, 3) := by decide +kernel
theorem dX10_set_49 : decode cX10_set 49 = .ok (.iload_n 1, 1) := by decide +kernel
theorem dX10_set_50 : decode cX10_set 50 = .ok (.iload_n 2, 1) := by decide +kernel
theorem dX10_set_51 : decode cX10_set 51 = .ok (.invokevirtual 117, 3) := by decide +kernel
theorem dX10_set_54 : decode cX10_set 54 = .ok (.iload_n 3, 1) := by decide +kernel
theorem dX10_set_55 : decode cX10_set 55 = .ok (.iastore, 1) := by decide +kernel
theorem dX10_set_56 : decode cX10_set 56 = .ok (.aload_n 0, 1) := by decide +kernel
theorem dX10_set_57 : decode cX10_set 57 = .ok (.invokevirtual 101, 3) := by decide +kernel
theorem dX10_set_60 : decode cX10_set 60 = .ok (.return_, 1) := by decide +kernel
theorem dX10_fill_0 : decode cX10_fill 0 = .ok (.iload 4, 2) := by decide +kernel
theorem dX10_fill_2 : decode cX10_fill 2 = .ok (.ifCond .lt 10, 3) := by decide +kernel
theorem dX10_fill_5 : decode cX10_fill 5 = .ok (.iload 4, 2) := by decide +kernel
theorem dX10_fill_7 : decode cX10_fill 7 = .ok (.bipush 31, 2) := by decide +kernel
theorem dX10_fill_9 : decode cX10_fill 9 = .ok (.if_icmp .le 13, 3) := by decide +kernel
theorem dX10_fill_12 : decode cX10_fill 12 = .ok (.new 78, 3) := by decide +kernel
theorem dX10_fill_15 : decode cX10_fill 15 = .ok (.dup, 1) := by decide +kernel
theorem dX10_fill_16 : decode cX10_fill 16 = .ok (.ldc 121, 2) := by decide +kernel
theorem dX10_fill_18 : decode cX10_fill 18 = .ok (.invokespecial 82, 3) := by decide +kernel
theorem dX10_fill_21 : decode cX10_fill 21 = .ok (.athrow, 1) := by decide +kernel
theorem dX10_fill_22 : decode cX10_fill 22 = .ok (.iconst 0, 1) := by decide +kernel
theorem dX10_fill_23 : decode cX10_fill 23 = .ok (.istore 5, 2) := by decide +kernel
theorem dX10_fill_25 : decode cX10_fill 25 = .ok (.iload 5, 2) := by decide +kernel
theorem dX10_fill_27 : decode cX10_fill 27 = .ok (.aload_n 0, 1) := by decide +kernel
theorem dX10_fill_28 : decode cX10_fill 28 = .ok (.getfield 12, 3) := by decide +kernel
theorem dX10_fill_31 : decode cX10_fill 31 = .ok (.getfield 123, 3) := by decide +kernel
theorem dX10_fill_34 : decode cX10_fill 34 = .ok (.if_icmp .ge 78, 3) := by decide +kernel
theorem dX10_fill_37 : decode cX10_fill 37 = .ok (.iconst 0, 1) := by decide +kernel
theorem dX10_fill_38 : decode cX10_fill 38 = .ok (.istore 6, 2) := by decide +kernel
theorem dX10_fill_40 : decode cX10_fill 40 = .ok (.iload 6, 2) := by decide +kernel
theorem dX10_fill_42 : decode cX10_fill 42 = .ok (.aload_n 0, 1) := by decide +kernel
theorem dX10_fill_43 : decode cX10_fill 43 = .ok (.getfield 12, 3) := by decide +kernel
theorem dX10_fill_46 : decode cX10_fill 46 = .ok (.getfield 126, 3) := by decide +kernel
theorem dX10_fill_49 : decode cX10_fill 49 = .ok (.if_icmp .ge 57, 3) := by decide +kernel
theorem dX10_fill_52 : decode cX10_fill 52 = .ok (.iload_n 1, 1) := by decide +kernel
theorem dX10_fill_53 : decode cX10_fill 53 = .ok (.iload 6, 2) := by decide +kernel
theorem dX10_fill_55 : decode cX10_fill 55 = .ok (.imul, 1) := by decide +kernel
theorem dX10_fill_56 : decode cX10_fill 56 = .ok (.iload_n 2, 1) := by decide +kernel
theorem dX10_fill_57 : decode cX10_fill 57 = .ok (.iload 5, 2) := by decide +kernel
theorem dX10_fill_59 : decode cX10_fill 59 = .ok (.imul, 1) := by decide +kernel
theorem dX10_fill_60 : decode cX10_fill 60 = .ok (.iadd, 1) := by decide +kernel
theorem dX10_fill_61 : decode cX10_fill 61 = .ok (.iload_n 3, 1) := by decide +kernel
theorem dX10_fill_62 : decode cX10_fill 62 = .ok (.iload 6, 2) := by decide +kernel
theorem dX10_fill_64 : decode cX10_fill 64 = .ok (.imul, 1) := by decide +kernel
theorem dX10_fill_65 : decode cX10_fill 65 = .ok (.iload 5, 2) := by decide +kernel
theorem dX10_fill_67 : decode cX10_fill 67 = .ok (.imul, 1) := by decide +kernel
theorem dX10_fill_68 : decode cX10_fill 68 = .ok (.iadd, 1) := by decide +kernel
theorem dX10_fill_69 : decode cX10_fill 69 = .ok (.iload 4, 2) := by decide +kernel
theorem dX10_fill_71 : decode cX10_fill 71 = .ok (.ishr, 1) := by decide +kernel
theorem dX10_fill_72 : decode cX10_fill 72 = .ok (.istore 7, 2) := by decide +kernel
theorem dX10_fill_74 : decode cX10_fill 74 = .ok (.aload_n 0, 1) := by decide +kernel
theorem dX10_fill_75 : decode cX10_fill 75 = .ok (.getfield 12, 3) := by decide +kernel
theorem dX10_fill_78 : decode cX10_fill 78 = .ok (.getfield 113, 3) := by decide +kernel
theorem dX10_fill_81 : decode cX10_fill 81 = .ok (.aload_n 0, 1) := by decide +kernel
theorem dX10_fill_82 : decode cX10_fill 82 = .ok (.getfield 12, 3) := by decide +kernel
theorem dX10_fill_85 : decode cX10_fill 85 = .ok (.iload 6, 2) := by decide +kernel
theorem dX10_fill_87 : decode cX10_fill 87 = .ok (.iload 5, 2) := by decide +kernel
theorem dX10_fill_89 : decode cX10_fill 89 = .ok (.invokevirtual 117, 3) := by decide +kernel
theorem dX10_fill_92 : decode cX10_fill 92 = .ok (.iload 7, 2) := by decide +kernel
theorem dX10_fill_94 : decode cX10_fill 94 = .ok (.ldc 110, 2) := by decide +kernel
theorem dX10_fill_96 : decode cX10_fill 96 = .ok (.invokestatic 129, 3) := by decide +kernel
theorem dX10_fill_99 : decode cX10_fill 99 = .ok (.iastore, 1) := by decide +kernel
theorem dX10_fill_100 : decode cX10_fill 100 = .ok (.iinc 6 1, 3) := by decide +kernel
theorem dX10_fill_103 : decode cX10_fill 103 = .ok (.goto (-63), 3) := by decide +kernel
theorem dX10_fill_106 : decode cX10_fill 106 = .ok (.iinc 5 1, 3) := by decide +kernel
theorem dX10_fill_109 : decode cX10_fill 109 = .ok (.goto (-84), 3) := by decide +kernel
theorem dX10_fill_112 : decode cX10_fill 112 = .ok (.aload_n 0, 1) := by decide +kernel
theorem dX10_fill_113 : decode cX10_fill 113 = .ok (.invokevirtual 101, 3) := by decide +kernel
theorem dX10_fill_116 : decode cX10_fill 116 = .ok (.return_, 1) := by decide +kernel
set_option maxRecDepth 20000 in
theorem ggX10_write_X10_startOver : GoodIn wsX10_write wsX10_startOver := goodIn_r _ [22, 3, 23, 9, 24, 25, 26, 27, 28, 29, 30, 31, 32, 33, 34, 35, 36, 37, 38, 39, 40, 41, 42, 43, 399, 400, 401, 402, 403, 404, 405, 406, 407, 408, 409, 410, 425, 426, 427, 428, 429, 430, 411, 412, 413, 414, 415, 416, 417, 434, 435] (by decide +kernel) (by decide +kernel)
set_option maxRecDepth 20000 in
theorem gX10_write_X10_startOver : GoodIn wsX10_write (wsV RX10 134 RX10 yX10_startOver wsX10_startOver) := goodIn_app (goodIn_of _ (by decide +kernel)) ggX10_write_X10_startOver
set_option maxRecDepth 20000 in
theorem ggX10_write_X5_planes : GoodIn wsX10_write wsX5_planes := goodIn_r _ [47, 48, 49, 50, 51, 52, 53, 54, 55, 56, 57, 58, 59, 411, 412, 413, 414, 415, 416, 417] (by decide +kernel) (by decide +kernel)
set_option maxRecDepth 20000 in
theorem gX10_write_X5_planes : GoodIn wsX10_write (wsV RX10 137 RX5 yX5_planes wsX5_planes) := goodIn_app (goodIn_of _ (by decide +kernel)) ggX10_write_X5_planes
set_option maxRecDepth 20000 in
theorem ggX10_write_X6_lay : GoodIn wsX10_write wsX6_lay := goodIn_r _ [64, 65, 66, 67, 68, 69, 418, 419, 420, 421, 422, 423, 424] (by decide +kernel) (by decide +kernel)
set_option maxRecDepth 20000 in
theorem gX10_write_X6_lay : GoodIn wsX10_write (wsV RX10 141 RX6 yX6_lay wsX6_lay) := goodIn_app (goodIn_of _ (by decide +kernel)) ggX10_write_X6_lay
set_option maxRecDepth 20000 in
theorem ggX10_write_X1_clear : GoodIn wsX10_write wsX1_clear := goodIn_r _ [74, 75, 76, 77, 78, 79, 53, 80, 81, 431, 432, 433] (by decide +kernel) (by decide +kernel)
set_option maxRecDepth 20000 in
theorem gX10_write_X1_clear : GoodIn wsX10_write (wsV RX10 150 RX1 yX1_clear wsX1_clear) := goodIn_app (goodIn_of _ (by decide +kernel)) ggX10_write_X1_clear
set_option maxRecDepth 20000 in
theorem ggX10_write_X6_isRaw : GoodIn wsX10_write wsX6_isRaw := goodIn_r _ [85, 65, 86, 87, 88, 63, 89, 418, 419, 420, 421, 422, 423, 424] (by decide +kernel) (by decide +kernel)
set_option maxRecDepth 20000 in
theorem gX10_write_X6_isRaw : GoodIn wsX10_write (wsV RX10 154 RX6 yX6_isRaw wsX6_isRaw) := goodIn_app (goodIn_of _ (by decide +kernel)) ggX10_write_X6_isRaw
set_option maxRecDepth 20000 in
theorem ggX10_write_X6_startsSegment : GoodIn wsX10_write wsX6_startsSegment := goodIn_r _ [93, 94, 95, 96, 63, 97, 67, 65, 86, 87, 88, 89, 418, 419, 420, 421, 422, 423, 424] (by decide +kernel) (by decide +kernel)
set_option maxRecDepth 20000 in
theorem gX10_write_X6_startsSegment : GoodIn wsX10_write (wsV RX10 157 RX6 yX6_startsSegment wsX6_startsSegment) := goodIn_app (goodIn_of _ (by decide +kernel)) ggX10_write_X6_startsSegment
set_option maxRecDepth 20000 in
theorem ggX10_write_X10_openForWriting : GoodIn wsX10_write wsX10_openForWriting := goodIn_r _ [101, 4, 10, 11, 102, 103, 104, 73, 105, 75, 76, 106, 107, 108, 109, 110, 111, 112, 113, 114, 115, 116, 117, 118, 119, 120, 399, 400, 401, 402, 403, 404, 405, 406, 407, 408, 409, 410, 431, 432, 433, 436, 437, 438, 439, 440, 441, 442] (by decide +kernel) (by decide +kernel)
set_option maxRecDepth 20000 in
theorem gX10_write_X10_openForWriting : GoodIn wsX10_write (wsV RX10 160 RX10 yX10_openForWriting wsX10_openForWriting) := goodIn_app (goodIn_of _ (by decide +kernel)) ggX10_write_X10_openForWriting
set_option maxRecDepth 20000 in
theorem ggX10_write_X6_planeOf : GoodIn wsX10_write wsX6_planeOf := goodIn_r _ [124, 66, 418, 419, 420, 421, 422, 423, 424] (by decide +kernel) (by decide +kernel)
set_option maxRecDepth 20000 in
theorem gX10_write_X6_planeOf : GoodIn wsX10_write (wsV RX10 164 RX6 yX6_planeOf wsX6_planeOf) := goodIn_app (goodIn_of _ (by decide +kernel)) ggX10_write_X6_planeOf
set_option maxRecDepth 20000 in
theorem ggX10_write_X9_aim : GoodIn wsX10_write wsX9_aim := goodIn_r _ [129, 130, 131, 132, 425, 426, 427, 428, 429, 430] (by decide +kernel) (by decide +kernel)
set_option maxRecDepth 20000 in
theorem gX10_write_X9_aim : GoodIn wsX10_write (wsV RX10 168 RX9 yX9_aim wsX9_aim) := goodIn_app (goodIn_of _ (by decide +kernel)) ggX10_write_X9_aim
set_option maxRecDepth 20000 in
theorem ggX10_write_X6_kindOf : GoodIn wsX10_write wsX6_kindOf := goodIn_r _ [89] (by decide +kernel) (by decide +kernel)
set_option maxRecDepth 20000 in
theorem gX10_write_X6_kindOf : GoodIn wsX10_write (wsV RX10 172 RX6 yX6_kindOf wsX6_kindOf) := goodIn_app (goodIn_of _ (by decide +kernel)) ggX10_write_X6_kindOf
set_option maxRecDepth 20000 in
theorem ggX10_write_X10_has : GoodIn wsX10_write wsX10_has := goodIn_r _ [137, 2, 399, 400, 401, 402, 403, 404, 405, 406, 407, 408, 409, 410] (by decide +kernel) (by decide +kernel)
set_option maxRecDepth 20000 in
theorem gX10_write_X10_has : GoodIn wsX10_write (wsV RX10 93 RX10 yX10_has wsX10_has) := goodIn_app (goodIn_of _ (by decide +kernel)) ggX10_write_X10_has
set_option maxRecDepth 20000 in
theorem ggX10_write_X9_go : GoodIn wsX10_write wsX9_go := goodIn_r _ [141, 142, 143, 144, 145, 146, 53, 147, 148, 149, 150, 151, 28, 152, 48, 49, 31, 153, 154, 155, 128, 156, 157, 158, 159, 160, 161, 162, 163, 164, 165, 130, 132, 166, 167, 168, 169, 50, 51, 52, 54, 170, 171, 172, 173, 174, 175, 176, 177, 178, 179, 180, 181, 182, 183, 184, 185, 186, 187, 188, 189, 190, 191, 192, 193, 194, 195, 39, 196, 197, 41, 198, 199, 200, 201, 42, 202, 203, 204, 205, 206, 207, 208, 209, 210, 211, 212, 213, 214, 215, 216, 217, 218, 219, 220, 221, 222, 73, 223, 75, 77, 224, 225, 115, 226, 227, 119, 118, 117, 120, 228, 229, 230, 231, 232, 233, 234, 235, 236, 237, 238, 239, 240, 241, 242, 243, 244, 245, 76, 246, 247, 248, 249, 250, 251, 252, 253, 254, 255, 34, 256, 257, 258, 259, 260, 261, 262, 81, 263, 264, 265, 266, 267, 268, 269, 270, 271, 272, 273, 274, 275, 276, 277, 278, 279, 109, 280, 111, 281, 282, 283, 284, 285, 286, 287, 288, 131, 289, 290, 291, 292, 293, 294, 295, 57, 296, 297, 298, 299, 300, 301, 302, 303, 304, 305, 306, 307, 308, 30, 309, 310, 311, 312, 313, 314, 315, 316, 317, 318, 319, 320, 321, 322, 323, 324, 325, 326, 327, 328, 329, 330, 331, 332, 333, 334, 335, 336, 337, 338, 339, 340, 341, 342, 343, 344, 345, 346, 347, 348, 349, 350, 351, 352, 353, 425, 426, 427, 428, 429, 430, 411, 412, 413, 414, 415, 416, 417, 443, 444, 445, 446, 447, 448, 449, 434, 435, 431, 432, 433, 438, 439, 440, 441, 442, 450, 451, 452, 453, 454, 436, 437] (by decide +kernel) (by decide +kernel)
set_option maxRecDepth 20000 in
theorem gX10_write_X9_go : GoodIn wsX10_write (wsV RX10 175 RX9 yX9_go wsX9_go) := goodIn_app (goodIn_of _ (by decide +kernel)) ggX10_write_X9_go
set_option maxRecDepth 20000 in
theorem ggX10_write_X8_enough : GoodIn wsX10_write wsX8_enough := goodIn_r _ [357, 281, 358, 436, 437, 431, 432, 433] (by decide +kernel) (by decide +kernel)
set_option maxRecDepth 20000 in
theorem gX10_write_X8_enough : GoodIn wsX10_write (wsV RX10 190 RX8 yX8_enough wsX8_enough) := goodIn_app (goodIn_of _ (by decide +kernel)) ggX10_write_X8_enough
set_option maxRecDepth 20000 in
theorem ggX10_write_X3_enough : GoodIn wsX10_write wsX3_enough := goodIn_r _ [362, 240, 363, 438, 439, 440, 441, 442, 431, 432, 433] (by decide +kernel) (by decide +kernel)
set_option maxRecDepth 20000 in
theorem gX10_write_X3_enough : GoodIn wsX10_write (wsV RX10 193 RX3 yX3_enough wsX3_enough) := goodIn_app (goodIn_of _ (by decide +kernel)) ggX10_write_X3_enough
set_option maxRecDepth 20000 in
theorem ggX10_write_X6_endsSegment : GoodIn wsX10_write wsX6_endsSegment := goodIn_r _ [97, 67, 65, 86, 87, 88, 63, 89, 418, 419, 420, 421, 422, 423, 424] (by decide +kernel) (by decide +kernel)
set_option maxRecDepth 20000 in
theorem gX10_write_X6_endsSegment : GoodIn wsX10_write (wsV RX10 194 RX6 yX6_endsSegment wsX6_endsSegment) := goodIn_app (goodIn_of _ (by decide +kernel)) ggX10_write_X6_endsSegment
set_option maxRecDepth 20000 in
theorem ggX10_write_X10_endWriting : GoodIn wsX10_write wsX10_endWriting := goodIn_r _ [368, 10, 11, 4, 369, 370, 371, 109, 372, 111, 373, 279, 374, 280, 281, 282, 243, 244, 73, 245, 75, 76, 77, 283, 251, 252, 253, 254, 255, 34, 256, 257, 258, 259, 260, 261, 262, 81, 263, 146, 53, 147, 264, 265, 266, 267, 284, 247, 248, 249, 134, 135, 136, 21, 137, 2, 375, 376, 377, 115, 378, 120, 117, 236, 237, 238, 239, 240, 241, 242, 246, 250, 379, 380, 381, 382, 383, 119, 118, 384, 385, 386, 387, 388, 399, 400, 401, 402, 403, 404, 405, 406, 407, 408, 409, 410, 436, 437, 431, 432, 433, 438, 439, 440, 441, 442] (by decide +kernel) (by decide +kernel)
set_option maxRecDepth 20000 in
theorem gX10_write_X10_endWriting : GoodIn wsX10_write (wsV RX10 197 RX10 yX10_endWriting wsX10_endWriting) := goodIn_app (goodIn_of _ (by decide +kernel)) ggX10_write_X10_endWriting
set_option maxRecDepth 20000 in
theorem ggX10_write_X6_closeSegment : GoodIn wsX10_write wsX6_closeSegment := goodIn_r _ [392, 69, 393, 394, 146, 53, 147, 68, 418, 419, 420, 421, 422, 423, 424] (by decide +kernel) (by decide +kernel)
set_option maxRecDepth 20000 in
theorem gX10_write_X6_closeSegment : GoodIn wsX10_write (wsV RX10 203 RX6 yX6_closeSegment wsX6_closeSegment) := goodIn_app (goodIn_of _ (by decide +kernel)) ggX10_write_X6_closeSegment
set_option maxRecDepth 20000 in
theorem ggX10_write_X10_resetIfAsked : GoodIn wsX10_write wsX10_resetIfAsked := goodIn_r _ [398, 23, 134, 135, 136, 21, 137, 2, 36, 37, 38, 39, 40, 41, 42, 43, 33, 34, 35, 399, 400, 401, 402, 403, 404, 405, 406, 407, 408, 409, 410, 434, 435] (by decide +kernel) (by decide +kernel)
set_option maxRecDepth 20000 in
theorem gX10_write_X10_resetIfAsked : GoodIn wsX10_write (wsV RX10 206 RX10 yX10_resetIfAsked wsX10_resetIfAsked) := goodIn_app (goodIn_of _ (by decide +kernel)) ggX10_write_X10_resetIfAsked
theorem dX10_write_0 : decode cX10_write 0 = .ok (.aload_n 0, 1) := by decide +kernel
theorem dX10_write_1 : decode cX10_write 1 = .ok (.invokevirtual 134, 3) := by decide +kernel
theorem dX10_write_4 : decode cX10_write 4 = .ok (.aload_n 0, 1) := by decide +kernel
theorem dX10_write_5 : decode cX10_write 5 = .ok (.getfield 19, 3) := by decide +kernel
theorem dX10_write_8 : decode cX10_write 8 = .ok (.aload_n 0, 1) := by decide +kernel
theorem dX10_write_9 : decode cX10_write 9 = .ok (.getfield 89, 3) := by decide +kernel
theorem dX10_write_12 : decode cX10_write 12 = .ok (.aload_n 0, 1) := by decide +kernel
theorem dX10_write_13 : decode cX10_write 13 = .ok (.getfield 12, 3) := by decide +kernel
theorem dX10_write_16 : decode cX10_write 16 = .ok (.invokevirtual 137, 3) := by decide +kernel
theorem dX10_write_19 : decode cX10_write 19 = .ok (.invokevirtual 141, 3) := by decide +kernel
theorem dX10_write_22 : decode cX10_write 22 = .ok (.aload_n 0, 1) := by decide +kernel
theorem dX10_write_23 : decode cX10_write 23 = .ok (.getfield 26, 3) := by decide +kernel
theorem dX10_write_26 : decode cX10_write 26 = .ok (.aload_n 0, 1) := by decide +kernel
theorem dX10_write_27 : decode cX10_write 27 = .ok (.getfield 12, 3) := by decide +kernel
theorem dX10_write_30 : decode cX10_write 30 = .ok (.getfield 126, 3) := by decide +kernel
theorem dX10_write_33 : decode cX10_write 33 = .ok (.aload_n 0, 1) := by decide +kernel
theorem dX10_write_34 : decode cX10_write 34 = .ok (.getfield 12, 3) := by decide +kernel
theorem dX10_write_37 : decode cX10_write 37 = .ok (.getfield 123, 3) := by decide +kernel
theorem dX10_write_40 : decode cX10_write 40 = .ok (.imul, 1) := by decide +kernel
theorem dX10_write_41 : decode cX10_write 41 = .ok (.aload_n 0, 1) := by decide +kernel
theorem dX10_write_42 : decode cX10_write 42 = .ok (.getfield 19, 3) := by decide +kernel
theorem dX10_write_45 : decode cX10_write 45 = .ok (.getfield 145, 3) := by decide +kernel
theorem dX10_write_48 : decode cX10_write 48 = .ok (.aload_n 0, 1) := by decide +kernel
theorem dX10_write_49 : decode cX10_write 49 = .ok (.getfield 19, 3) := by decide +kernel
theorem dX10_write_52 : decode cX10_write 52 = .ok (.getfield 147, 3) := by decide +kernel
theorem dX10_write_55 : decode cX10_write 55 = .ok (.invokevirtual 150, 3) := by decide +kernel
theorem dX10_write_58 : decode cX10_write 58 = .ok (.iconst 0, 1) := by decide +kernel
theorem dX10_write_59 : decode cX10_write 59 = .ok (.istore_n 1, 1) := by decide +kernel
theorem dX10_write_60 : decode cX10_write 60 = .ok (.iload_n 1, 1) := by decide +kernel
theorem dX10_write_61 : decode cX10_write 61 = .ok (.aload_n 0, 1) := by decide +kernel
theorem dX10_write_62 : decode cX10_write 62 = .ok (.getfield 19, 3) := by decide +kernel
theorem dX10_write_65 : decode cX10_write 65 = .ok (.getfield 147, 3) := by decide +kernel
theorem dX10_write_68 : decode cX10_write 68 = .ok (.if_icmp .ge 167, 3) := by decide +kernel
theorem dX10_write_71 : decode cX10_write 71 = .ok (.aload_n 0, 1) := by decide +kernel
theorem dX10_write_72 : decode cX10_write 72 = .ok (.getfield 19, 3) := by decide +kernel
theorem dX10_write_75 : decode cX10_write 75 = .ok (.iload_n 1, 1) := by decide +kernel
theorem dX10_write_76 : decode cX10_write 76 = .ok (.invokevirtual 154, 3) := by decide +kernel
theorem dX10_write_79 : decode cX10_write 79 = .ok (.istore_n 2, 1) := by decide +kernel
theorem dX10_write_80 : decode cX10_write 80 = .ok (.aload_n 0, 1) := by decide +kernel
theorem dX10_write_81 : decode cX10_write 81 = .ok (.getfield 19, 3) := by decide +kernel
theorem dX10_write_84 : decode cX10_write 84 = .ok (.iload_n 1, 1) := by decide +kernel
theorem dX10_write_85 : decode cX10_write 85 = .ok (.invokevirtual 157, 3) := by decide +kernel
theorem dX10_write_88 : decode cX10_write 88 = .ok (.ifCond .eq 8, 3) := by decide +kernel
theorem dX10_write_91 : decode cX10_write 91 = .ok (.aload_n 0, 1) := by decide +kernel
theorem dX10_write_92 : decode cX10_write 92 = .ok (.iload_n 2, 1) := by decide +kernel
theorem dX10_write_93 : decode cX10_write 93 = .ok (.invokevirtual 160, 3) := by decide +kernel
theorem dX10_write_96 : decode cX10_write 96 = .ok (.aload_n 0, 1) := by decide +kernel
theorem dX10_write_97 : decode cX10_write 97 = .ok (.getfield 74, 3) := by decide +kernel
theorem dX10_write_100 : decode cX10_write 100 = .ok (.iload_n 2, 1) := by decide +kernel
theorem dX10_write_101 : decode cX10_write 101 = .ok (.ifCond .eq 10, 3) := by decide +kernel
theorem dX10_write_104 : decode cX10_write 104 = .ok (.aload_n 0, 1) := by decide +kernel
theorem dX10_write_105 : decode cX10_write 105 = .ok (.getfield 51, 3) := by decide +kernel
theorem dX10_write_108 : decode cX10_write 108 = .ok (.goto 7, 3) := by decide +kernel
theorem dX10_write_111 : decode cX10_write 111 = .ok (.aload_n 0, 1) := by decide +kernel
theorem dX10_write_112 : decode cX10_write 112 = .ok (.getfield 42, 3) := by decide +kernel
theorem dX10_write_115 : decode cX10_write 115 = .ok (.iload_n 2, 1) := by decide +kernel
theorem dX10_write_116 : decode cX10_write 116 = .ok (.aload_n 0, 1) := by decide +kernel
theorem dX10_write_117 : decode cX10_write 117 = .ok (.getfield 19, 3) := by decide +kernel
theorem dX10_write_120 : decode cX10_write 120 = .ok (.iload_n 1, 1) := by decide +kernel
theorem dX10_write_121 : decode cX10_write 121 = .ok (.invokevirtual 164, 3) := by decide +kernel
theorem dX10_write_124 : decode cX10_write 124 = .ok (.invokevirtual 168, 3) := by decide +kernel
theorem dX10_write_127 : decode cX10_write 127 = .ok (.aload_n 0, 1) := by decide +kernel
theorem dX10_write_128 : decode cX10_write 128 = .ok (.getfield 74, 3) := by decide +kernel
theorem dX10_write_131 : decode cX10_write 131 = .ok (.aload_n 0, 1) := by decide +kernel
theorem dX10_write_132 : decode cX10_write 132 = .ok (.getfield 19, 3) := by decide +kernel
theorem dX10_write_135 : decode cX10_write 135 = .ok (.iload_n 1, 1) := by decide +kernel
theorem dX10_write_136 : decode cX10_write 136 = .ok (.invokevirtual 172, 3) := by decide +kernel
theorem dX10_write_139 : decode cX10_write 139 = .ok (.aload_n 0, 1) := by decide +kernel
theorem dX10_write_140 : decode cX10_write 140 = .ok (.bipush 32, 2) := by decide +kernel
theorem dX10_write_142 : decode cX10_write 142 = .ok (.invokevirtual 93, 3) := by decide +kernel
theorem dX10_write_145 : decode cX10_write 145 = .ok (.invokevirtual 175, 3) := by decide +kernel
theorem dX10_write_148 : decode cX10_write 148 = .ok (.aload_n 0, 1) := by decide +kernel
theorem dX10_write_149 : decode cX10_write 149 = .ok (.getfield 19, 3) := by decide +kernel
theorem dX10_write_152 : decode cX10_write 152 = .ok (.getfield 179, 3) := by decide +kernel
theorem dX10_write_155 : decode cX10_write 155 = .ok (.iload_n 1, 1) := by decide +kernel
theorem dX10_write_156 : decode cX10_write 156 = .ok (.aload_n 0, 1) := by decide +kernel
theorem dX10_write_157 : decode cX10_write 157 = .ok (.getfield 74, 3) := by decide +kernel
theorem dX10_write_160 : decode cX10_write 160 = .ok (.getfield 183, 3) := by decide +kernel
theorem dX10_write_163 : decode cX10_write 163 = .ok (.lastore, 1) := by decide +kernel
theorem dX10_write_164 : decode cX10_write 164 = .ok (.aload_n 0, 1) := by decide +kernel
theorem dX10_write_165 : decode cX10_write 165 = .ok (.getfield 19, 3) := by decide +kernel
theorem dX10_write_168 : decode cX10_write 168 = .ok (.getfield 187, 3) := by decide +kernel
theorem dX10_write_171 : decode cX10_write 171 = .ok (.iload_n 1, 1) := by decide +kernel
theorem dX10_write_172 : decode cX10_write 172 = .ok (.iload_n 2, 1) := by decide +kernel
theorem dX10_write_173 : decode cX10_write 173 = .ok (.ifCond .eq 13, 3) := by decide +kernel
theorem dX10_write_176 : decode cX10_write 176 = .ok (.aload_n 0, 1) := by decide +kernel
theorem dX10_write_177 : decode cX10_write 177 = .ok (.getfield 51, 3) := by decide +kernel
theorem dX10_write_180 : decode cX10_write 180 = .ok (.invokevirtual 190, 3) := by decide +kernel
theorem dX10_write_183 : decode cX10_write 183 = .ok (.goto 10, 3) := by decide +kernel
theorem dX10_write_186 : decode cX10_write 186 = .ok (.aload_n 0, 1) := by decide +kernel
theorem dX10_write_187 : decode cX10_write 187 = .ok (.getfield 42, 3) := by decide +kernel
theorem dX10_write_190 : decode cX10_write 190 = .ok (.invokevirtual 193, 3) := by decide +kernel
theorem dX10_write_193 : decode cX10_write 193 = .ok (.iastore, 1) := by decide +kernel
theorem dX10_write_194 : decode cX10_write 194 = .ok (.aload_n 0, 1) := by decide +kernel
theorem dX10_write_195 : decode cX10_write 195 = .ok (.getfield 19, 3) := by decide +kernel
theorem dX10_write_198 : decode cX10_write 198 = .ok (.iload_n 1, 1) := by decide +kernel
theorem dX10_write_199 : decode cX10_write 199 = .ok (.invokevirtual 194, 3) := by decide +kernel
theorem dX10_write_202 : decode cX10_write 202 = .ok (.ifCond .eq 23, 3) := by decide +kernel
theorem dX10_write_205 : decode cX10_write 205 = .ok (.aload_n 0, 1) := by decide +kernel
theorem dX10_write_206 : decode cX10_write 206 = .ok (.iload_n 2, 1) := by decide +kernel
theorem dX10_write_207 : decode cX10_write 207 = .ok (.invokevirtual 197, 3) := by decide +kernel
theorem dX10_write_210 : decode cX10_write 210 = .ok (.aload_n 0, 1) := by decide +kernel
theorem dX10_write_211 : decode cX10_write 211 = .ok (.getfield 19, 3) := by decide +kernel
theorem dX10_write_214 : decode cX10_write 214 = .ok (.iload_n 1, 1) := by decide +kernel
theorem dX10_write_215 : decode cX10_write 215 = .ok (.aload_n 0, 1) := by decide +kernel
theorem dX10_write_216 : decode cX10_write 216 = .ok (.getfield 26, 3) := by decide +kernel
theorem dX10_write_219 : decode cX10_write 219 = .ok (.getfield 200, 3) := by decide +kernel
theorem dX10_write_222 : decode cX10_write 222 = .ok (.invokevirtual 203, 3) := by decide +kernel
theorem dX10_write_225 : decode cX10_write 225 = .ok (.aload_n 0, 1) := by decide +kernel
theorem dX10_write_226 : decode cX10_write 226 = .ok (.invokevirtual 206, 3) := by decide +kernel
theorem dX10_write_229 : decode cX10_write 229 = .ok (.iinc 1 1, 3) := by decide +kernel
theorem dX10_write_232 : decode cX10_write 232 = .ok (.goto (-172), 3) := by decide +kernel
theorem dX10_write_235 : decode cX10_write 235 = .ok (.aload_n 0, 1) := by decide +kernel
theorem dX10_write_236 : decode cX10_write 236 = .ok (.iconst 1, 1) := by decide +kernel
theorem dX10_write_237 : decode cX10_write 237 = .ok (.putfield 209, 3) := by decide +kernel
theorem dX10_write_240 : decode cX10_write 240 = .ok (.aload_n 0, 1) := by decide +kernel
theorem dX10_write_241 : decode cX10_write 241 = .ok (.iconst 0, 1) := by decide +kernel
theorem dX10_write_242 : decode cX10_write 242 = .ok (.putfield 213, 3) := by decide +kernel
theorem dX10_write_245 : decode cX10_write 245 = .ok (.aload_n 0, 1) := by decide +kernel
theorem dX10_write_246 : decode cX10_write 246 = .ok (.getfield 19, 3) := by decide +kernel
theorem dX10_write_249 : decode cX10_write 249 = .ok (.getfield 147, 3) := by decide +kernel
theorem dX10_write_252 : decode cX10_write 252 = .ok (.ireturn, 1) := by decide +kernel
theorem dX10_written_0 : decode cX10_written 0 = .ok (.aload_n 0, 1) := by decide +kernel
theorem dX10_written_1 : decode cX10_written 1 = .ok (.invokevirtual 216, 3) := by decide +kernel
theorem dX10_written_4 : decode cX10_written 4 = .ok (.iload_n 1, 1) := by decide +kernel
theorem dX10_written_5 : decode cX10_written 5 = .ok (.tableswitch 63 0 3 #[31, 39, 47, 55], 31) := by decide +kernel
theorem dX10_written_36 : decode cX10_written 36 = .ok (.aload_n 0, 1) := by decide +kernel
theorem dX10_written_37 : decode cX10_written 37 = .ok (.getfield 19, 3) := by decide +kernel
theorem dX10_written_40 : decode cX10_written 40 = .ok (.getfield 145, 3) := by decide +kernel
theorem dX10_written_43 : decode cX10_written 43 = .ok (.ireturn, 1) := by decide +kernel
theorem dX10_written_44 : decode cX10_written 44 = .ok (.aload_n 0, 1) := by decide +kernel
theorem dX10_written_45 : decode cX10_written 45 = .ok (.getfield 19, 3) := by decide +kernel
theorem dX10_written_48 : decode cX10_written 48 = .ok (.getfield 147, 3) := by decide +kernel
theorem dX10_written_51 : decode cX10_written 51 = .ok (.ireturn, 1) := by decide +kernel
theorem dX10_written_52 : decode cX10_written 52 = .ok (.aload_n 0, 1) := by decide +kernel
theorem dX10_written_53 : decode cX10_written 53 = .ok (.getfield 26, 3) := by decide +kernel
theorem dX10_written_56 : decode cX10_written 56 = .ok (.getfield 200, 3) := by decide +kernel
theorem dX10_written_59 : decode cX10_written 59 = .ok (.ireturn, 1) := by decide +kernel
theorem dX10_written_60 : decode cX10_written 60 = .ok (.aload_n 0, 1) := by decide +kernel
theorem dX10_written_61 : decode cX10_written 61 = .ok (.getfield 19, 3) := by decide +kernel
theorem dX10_written_64 : decode cX10_written 64 = .ok (.getfield 219, 3) := by decide +kernel
theorem dX10_written_67 : decode cX10_written 67 = .ok (.ireturn, 1) := by decide +kernel
theorem dX10_written_68 : decode cX10_written 68 = .ok (.new 78, 3) := by decide +kernel
theorem dX10_written_71 : decode cX10_written 71 = .ok (.dup, 1) := by decide +kernel
theorem dX10_written_72 : decode cX10_written 72 = .ok (.ldc 222, 2) := by decide +kernel
theorem dX10_written_74 : decode cX10_written 74 = .ok (.invokespecial 82, 3) := by decide +kernel
theorem dX10_written_77 : decode cX10_written 77 = .ok (.athrow, 1) := by decide +kernel
theorem dX10_pass_0 : decode cX10_pass 0 = .ok (.aload_n 0, 1) := by decide +kernel
theorem dX10_pass_1 : decode cX10_pass 1 = .ok (.iload_n 1, 1) := by decide +kernel
theorem dX10_pass_2 : decode cX10_pass 2 = .ok (.invokevirtual 224, 3) := by decide +kernel
theorem dX10_pass_5 : decode cX10_pass 5 = .ok (.iload_n 2, 1) := by decide +kernel
theorem dX10_pass_6 : decode cX10_pass 6 = .ok (.tableswitch 96 0 4 #[34, 43, 52, 69, 86], 34) := by decide +kernel
theorem dX10_pass_40 : decode cX10_pass 40 = .ok (.aload_n 0, 1) := by decide +kernel
theorem dX10_pass_41 : decode cX10_pass 41 = .ok (.getfield 19, 3) := by decide +kernel
theorem dX10_pass_44 : decode cX10_pass 44 = .ok (.iload_n 1, 1) := by decide +kernel
theorem dX10_pass_45 : decode cX10_pass 45 = .ok (.invokevirtual 172, 3) := by decide +kernel
theorem dX10_pass_48 : decode cX10_pass 48 = .ok (.ireturn, 1) := by decide +kernel
theorem dX10_pass_49 : decode cX10_pass 49 = .ok (.aload_n 0, 1) := by decide +kernel
theorem dX10_pass_50 : decode cX10_pass 50 = .ok (.getfield 19, 3) := by decide +kernel
theorem dX10_pass_53 : decode cX10_pass 53 = .ok (.iload_n 1, 1) := by decide +kernel
theorem dX10_pass_54 : decode cX10_pass 54 = .ok (.invokevirtual 164, 3) := by decide +kernel
theorem dX10_pass_57 : decode cX10_pass 57 = .ok (.ireturn, 1) := by decide +kernel
theorem dX10_pass_58 : decode cX10_pass 58 = .ok (.aload_n 0, 1) := by decide +kernel
theorem dX10_pass_59 : decode cX10_pass 59 = .ok (.getfield 19, 3) := by decide +kernel
theorem dX10_pass_62 : decode cX10_pass 62 = .ok (.iload_n 1, 1) := by decide +kernel
theorem dX10_pass_63 : decode cX10_pass 63 = .ok (.invokevirtual 154, 3) := by decide +kernel
theorem dX10_pass_66 : decode cX10_pass 66 = .ok (.ifCond .eq 7, 3) := by decide +kernel
theorem dX10_pass_69 : decode cX10_pass 69 = .ok (.iconst 1, 1) := by decide +kernel
theorem dX10_pass_70 : decode cX10_pass 70 = .ok (.goto 4, 3) := by decide +kernel
theorem dX10_pass_73 : decode cX10_pass 73 = .ok (.iconst 0, 1) := by decide +kernel
theorem dX10_pass_74 : decode cX10_pass 74 = .ok (.ireturn, 1) := by decide +kernel
theorem dX10_pass_75 : decode cX10_pass 75 = .ok (.aload_n 0, 1) := by decide +kernel
theorem dX10_pass_76 : decode cX10_pass 76 = .ok (.getfield 19, 3) := by decide +kernel
theorem dX10_pass_79 : decode cX10_pass 79 = .ok (.iload_n 1, 1) := by decide +kernel
theorem dX10_pass_80 : decode cX10_pass 80 = .ok (.invokevirtual 194, 3) := by decide +kernel
theorem dX10_pass_83 : decode cX10_pass 83 = .ok (.ifCond .eq 7, 3) := by decide +kernel
theorem dX10_pass_86 : decode cX10_pass 86 = .ok (.iconst 1, 1) := by decide +kernel
theorem dX10_pass_87 : decode cX10_pass 87 = .ok (.goto 4, 3) := by decide +kernel
theorem dX10_pass_90 : decode cX10_pass 90 = .ok (.iconst 0, 1) := by decide +kernel
theorem dX10_pass_91 : decode cX10_pass 91 = .ok (.ireturn, 1) := by decide +kernel
theorem dX10_pass_92 : decode cX10_pass 92 = .ok (.aload_n 0, 1) := by decide +kernel
theorem dX10_pass_93 : decode cX10_pass 93 = .ok (.getfield 19, 3) := by decide +kernel
theorem dX10_pass_96 : decode cX10_pass 96 = .ok (.getfield 187, 3) := by decide +kernel
theorem dX10_pass_99 : decode cX10_pass 99 = .ok (.iload_n 1, 1) := by decide +kernel
theorem dX10_pass_100 : decode cX10_pass 100 = .ok (.iaload, 1) := by decide +kernel
theorem dX10_pass_101 : decode cX10_pass 101 = .ok (.ireturn, 1) := by decide +kernel
theorem dX10_pass_102 : decode cX10_pass 102 = .ok (.new 78, 3) := by decide +kernel
theorem dX10_pass_105 : decode cX10_pass 105 = .ok (.dup, 1) := by decide +kernel
theorem dX10_pass_106 : decode cX10_pass 106 = .ok (.ldc 228, 2) := by decide +kernel
theorem dX10_pass_108 : decode cX10_pass 108 = .ok (.invokespecial 82, 3) := by decide +kernel
theorem dX10_pass_111 : decode cX10_pass 111 = .ok (.athrow, 1) := by decide +kernel
theorem dX10_gain_0 : decode cX10_gain 0 = .ok (.aload_n 0, 1) := by decide +kernel
theorem dX10_gain_1 : decode cX10_gain 1 = .ok (.iload_n 1, 1) := by decide +kernel
theorem dX10_gain_2 : decode cX10_gain 2 = .ok (.invokevirtual 224, 3) := by decide +kernel
theorem dX10_gain_5 : decode cX10_gain 5 = .ok (.aload_n 0, 1) := by decide +kernel
theorem dX10_gain_6 : decode cX10_gain 6 = .ok (.getfield 19, 3) := by decide +kernel
theorem dX10_gain_9 : decode cX10_gain 9 = .ok (.getfield 179, 3) := by decide +kernel
theorem dX10_gain_12 : decode cX10_gain 12 = .ok (.iload_n 1, 1) := by decide +kernel
theorem dX10_gain_13 : decode cX10_gain 13 = .ok (.laload, 1) := by decide +kernel
theorem dX10_gain_14 : decode cX10_gain 14 = .ok (.lreturn, 1) := by decide +kernel
theorem dX10_at_0 : decode cX10_at 0 = .ok (.aload_n 0, 1) := by decide +kernel
theorem dX10_at_1 : decode cX10_at 1 = .ok (.iload_n 1, 1) := by decide +kernel
theorem dX10_at_2 : decode cX10_at 2 = .ok (.invokevirtual 230, 3) := by decide +kernel
theorem dX10_at_5 : decode cX10_at 5 = .ok (.aload_n 0, 1) := by decide +kernel
theorem dX10_at_6 : decode cX10_at 6 = .ok (.getfield 26, 3) := by decide +kernel
theorem dX10_at_9 : decode cX10_at 9 = .ok (.getfield 233, 3) := by decide +kernel
theorem dX10_at_12 : decode cX10_at 12 = .ok (.iload_n 1, 1) := by decide +kernel
theorem dX10_at_13 : decode cX10_at 13 = .ok (.iaload, 1) := by decide +kernel
theorem dX10_at_14 : decode cX10_at 14 = .ok (.ireturn, 1) := by decide +kernel
theorem dX10_change_0 : decode cX10_change 0 = .ok (.aload_n 0, 1) := by decide +kernel
theorem dX10_change_1 : decode cX10_change 1 = .ok (.iload_n 1, 1) := by decide +kernel
theorem dX10_change_2 : decode cX10_change 2 = .ok (.invokevirtual 230, 3) := by decide +kernel
theorem dX10_change_5 : decode cX10_change 5 = .ok (.aload_n 0, 1) := by decide +kernel
theorem dX10_change_6 : decode cX10_change 6 = .ok (.getfield 26, 3) := by decide +kernel
theorem dX10_change_9 : decode cX10_change 9 = .ok (.getfield 233, 3) := by decide +kernel
theorem dX10_change_12 : decode cX10_change 12 = .ok (.iload_n 1, 1) := by decide +kernel
theorem dX10_change_13 : decode cX10_change 13 = .ok (.iaload, 1) := by decide +kernel
theorem dX10_change_14 : decode cX10_change 14 = .ok (.istore_n 3, 1) := by decide +kernel
theorem dX10_change_15 : decode cX10_change 15 = .ok (.aload_n 0, 1) := by decide +kernel
theorem dX10_change_16 : decode cX10_change 16 = .ok (.getfield 26, 3) := by decide +kernel
theorem dX10_change_19 : decode cX10_change 19 = .ok (.getfield 233, 3) := by decide +kernel
theorem dX10_change_22 : decode cX10_change 22 = .ok (.iload_n 1, 1) := by decide +kernel
theorem dX10_change_23 : decode cX10_change 23 = .ok (.iload_n 2, 1) := by decide +kernel
theorem dX10_change_24 : decode cX10_change 24 = .ok (.sipush 255, 3) := by decide +kernel
theorem dX10_change_27 : decode cX10_change 27 = .ok (.iand, 1) := by decide +kernel
theorem dX10_change_28 : decode cX10_change 28 = .ok (.iastore, 1) := by decide +kernel
theorem dX10_change_29 : decode cX10_change 29 = .ok (.aload_n 0, 1) := by decide +kernel
theorem dX10_change_30 : decode cX10_change 30 = .ok (.iconst 0, 1) := by decide +kernel
theorem dX10_change_31 : decode cX10_change 31 = .ok (.putfield 213, 3) := by decide +kernel
theorem dX10_change_34 : decode cX10_change 34 = .ok (.iload_n 3, 1) := by decide +kernel
theorem dX10_change_35 : decode cX10_change 35 = .ok (.ireturn, 1) := by decide +kernel
theorem dX10_read_0 : decode cX10_read 0 = .ok (.aload_n 0, 1) := by decide +kernel
theorem dX10_read_1 : decode cX10_read 1 = .ok (.invokevirtual 216, 3) := by decide +kernel
theorem dX10_read_4 : decode cX10_read 4 = .ok (.iload_n 1, 1) := by decide +kernel
theorem dX10_read_5 : decode cX10_read 5 = .ok (.ifCond .lt 14, 3) := by decide +kernel
theorem dX10_read_8 : decode cX10_read 8 = .ok (.iload_n 1, 1) := by decide +kernel
theorem dX10_read_9 : decode cX10_read 9 = .ok (.aload_n 0, 1) := by decide +kernel
theorem dX10_read_10 : decode cX10_read 10 = .ok (.getfield 19, 3) := by decide +kernel
theorem dX10_read_13 : decode cX10_read 13 = .ok (.getfield 147, 3) := by decide +kernel
theorem dX10_read_16 : decode cX10_read 16 = .ok (.if_icmp .le 13, 3) := by decide +kernel
theorem dX10_read_19 : decode cX10_read 19 = .ok (.new 78, 3) := by decide +kernel
theorem dX10_read_22 : decode cX10_read 22 = .ok (.dup, 1) := by decide +kernel
theorem dX10_read_23 : decode cX10_read 23 = .ok (.ldc 236, 2) := by decide +kernel
theorem dX10_read_25 : decode cX10_read 25 = .ok (.invokespecial 82, 3) := by decide +kernel
theorem dX10_read_28 : decode cX10_read 28 = .ok (.athrow, 1) := by decide +kernel
theorem dX10_read_29 : decode cX10_read 29 = .ok (.aload_n 0, 1) := by decide +kernel
theorem dX10_read_30 : decode cX10_read 30 = .ok (.invokevirtual 134, 3) := by decide +kernel
theorem dX10_read_33 : decode cX10_read 33 = .ok (.iconst 0, 1) := by decide +kernel
theorem dX10_read_34 : decode cX10_read 34 = .ok (.istore_n 2, 1) := by decide +kernel
theorem dX10_read_35 : decode cX10_read 35 = .ok (.iload_n 2, 1) := by decide +kernel
theorem dX10_read_36 : decode cX10_read 36 = .ok (.iload_n 1, 1) := by decide +kernel
theorem dX10_read_37 : decode cX10_read 37 = .ok (.if_icmp .ge 107, 3) := by decide +kernel
theorem dX10_read_40 : decode cX10_read 40 = .ok (.aload_n 0, 1) := by decide +kernel
theorem dX10_read_41 : decode cX10_read 41 = .ok (.getfield 19, 3) := by decide +kernel
theorem dX10_read_44 : decode cX10_read 44 = .ok (.iload_n 2, 1) := by decide +kernel
theorem dX10_read_45 : decode cX10_read 45 = .ok (.invokevirtual 154, 3) := by decide +kernel
theorem dX10_read_48 : decode cX10_read 48 = .ok (.istore_n 3, 1) := by decide +kernel
theorem dX10_read_49 : decode cX10_read 49 = .ok (.aload_n 0, 1) := by decide +kernel
theorem dX10_read_50 : decode cX10_read 50 = .ok (.getfield 19, 3) := by decide +kernel
theorem dX10_read_53 : decode cX10_read 53 = .ok (.iload_n 2, 1) := by decide +kernel
theorem dX10_read_54 : decode cX10_read 54 = .ok (.invokevirtual 157, 3) := by decide +kernel
theorem dX10_read_57 : decode cX10_read 57 = .ok (.ifCond .eq 25, 3) := by decide +kernel
theorem dX10_read_60 : decode cX10_read 60 = .ok (.aload_n 0, 1) := by decide +kernel
theorem dX10_read_61 : decode cX10_read 61 = .ok (.iload_n 3, 1) := by decide +kernel
theorem dX10_read_62 : decode cX10_read 62 = .ok (.aload_n 0, 1) := by decide +kernel
theorem dX10_read_63 : decode cX10_read 63 = .ok (.getfield 19, 3) := by decide +kernel
theorem dX10_read_66 : decode cX10_read 66 = .ok (.iload_n 2, 1) := by decide +kernel
theorem dX10_read_67 : decode cX10_read 67 = .ok (.invokevirtual 238, 3) := by decide +kernel
theorem dX10_read_70 : decode cX10_read 70 = .ok (.aload_n 0, 1) := by decide +kernel
theorem dX10_read_71 : decode cX10_read 71 = .ok (.getfield 19, 3) := by decide +kernel
theorem dX10_read_74 : decode cX10_read 74 = .ok (.iload_n 2, 1) := by decide +kernel
theorem dX10_read_75 : decode cX10_read 75 = .ok (.iload_n 1, 1) := by decide +kernel
theorem dX10_read_76 : decode cX10_read 76 = .ok (.invokevirtual 241, 3) := by decide +kernel
theorem dX10_read_79 : decode cX10_read 79 = .ok (.invokevirtual 244, 3) := by decide +kernel
theorem dX10_read_82 : decode cX10_read 82 = .ok (.aload_n 0, 1) := by decide +kernel
theorem dX10_read_83 : decode cX10_read 83 = .ok (.getfield 74, 3) := by decide +kernel
theorem dX10_read_86 : decode cX10_read 86 = .ok (.iload_n 3, 1) := by decide +kernel
theorem dX10_read_87 : decode cX10_read 87 = .ok (.ifCond .eq 10, 3) := by decide +kernel
theorem dX10_read_90 : decode cX10_read 90 = .ok (.aload_n 0, 1) := by decide +kernel
theorem dX10_read_91 : decode cX10_read 91 = .ok (.getfield 65, 3) := by decide +kernel
theorem dX10_read_94 : decode cX10_read 94 = .ok (.goto 7, 3) := by decide +kernel
theorem dX10_read_97 : decode cX10_read 97 = .ok (.aload_n 0, 1) := by decide +kernel
theorem dX10_read_98 : decode cX10_read 98 = .ok (.getfield 58, 3) := by decide +kernel
theorem dX10_read_101 : decode cX10_read 101 = .ok (.iload_n 3, 1) := by decide +kernel
theorem dX10_read_102 : decode cX10_read 102 = .ok (.aload_n 0, 1) := by decide +kernel
theorem dX10_read_103 : decode cX10_read 103 = .ok (.getfield 19, 3) := by decide +kernel
theorem dX10_read_106 : decode cX10_read 106 = .ok (.iload_n 2, 1) := by decide +kernel
theorem dX10_read_107 : decode cX10_read 107 = .ok (.invokevirtual 164, 3) := by decide +kernel
theorem dX10_read_110 : decode cX10_read 110 = .ok (.invokevirtual 168, 3) := by decide +kernel
theorem dX10_read_113 : decode cX10_read 113 = .ok (.aload_n 0, 1) := by decide +kernel
theorem dX10_read_114 : decode cX10_read 114 = .ok (.getfield 74, 3) := by decide +kernel
theorem dX10_read_117 : decode cX10_read 117 = .ok (.aload_n 0, 1) := by decide +kernel
theorem dX10_read_118 : decode cX10_read 118 = .ok (.getfield 19, 3) := by decide +kernel
theorem dX10_read_121 : decode cX10_read 121 = .ok (.iload_n 2, 1) := by decide +kernel
theorem dX10_read_122 : decode cX10_read 122 = .ok (.invokevirtual 172, 3) := by decide +kernel
theorem dX10_read_125 : decode cX10_read 125 = .ok (.aload_n 0, 1) := by decide +kernel
theorem dX10_read_126 : decode cX10_read 126 = .ok (.bipush 32, 2) := by decide +kernel
theorem dX10_read_128 : decode cX10_read 128 = .ok (.invokevirtual 93, 3) := by decide +kernel
theorem dX10_read_131 : decode cX10_read 131 = .ok (.invokevirtual 175, 3) := by decide +kernel
theorem dX10_read_134 : decode cX10_read 134 = .ok (.aload_n 0, 1) := by decide +kernel
theorem dX10_read_135 : decode cX10_read 135 = .ok (.invokevirtual 206, 3) := by decide +kernel
theorem dX10_read_138 : decode cX10_read 138 = .ok (.iinc 2 1, 3) := by decide +kernel
theorem dX10_read_141 : decode cX10_read 141 = .ok (.goto (-106), 3) := by decide +kernel
theorem dX10_read_144 : decode cX10_read 144 = .ok (.aload_n 0, 1) := by decide +kernel
theorem dX10_read_145 : decode cX10_read 145 = .ok (.iconst 1, 1) := by decide +kernel
theorem dX10_read_146 : decode cX10_read 146 = .ok (.putfield 213, 3) := by decide +kernel
theorem dX10_read_149 : decode cX10_read 149 = .ok (.aload_n 0, 1) := by decide +kernel
theorem dX10_read_150 : decode cX10_read 150 = .ok (.getfield 74, 3) := by decide +kernel
theorem dX10_read_153 : decode cX10_read 153 = .ok (.getfield 248, 3) := by decide +kernel
theorem dX10_read_156 : decode cX10_read 156 = .ok (.ireturn, 1) := by decide +kernel
theorem dX10_value_0 : decode cX10_value 0 = .ok (.aload_n 0, 1) := by decide +kernel
theorem dX10_value_1 : decode cX10_value 1 = .ok (.iload_n 1, 1) := by decide +kernel
theorem dX10_value_2 : decode cX10_value 2 = .ok (.iload_n 2, 1) := by decide +kernel
theorem dX10_value_3 : decode cX10_value 3 = .ok (.invokevirtual 251, 3) := by decide +kernel
theorem dX10_value_6 : decode cX10_value 6 = .ok (.aload_n 0, 1) := by decide +kernel
theorem dX10_value_7 : decode cX10_value 7 = .ok (.getfield 12, 3) := by decide +kernel
theorem dX10_value_10 : decode cX10_value 10 = .ok (.aload_n 0, 1) := by decide +kernel
theorem dX10_value_11 : decode cX10_value 11 = .ok (.getfield 12, 3) := by decide +kernel
theorem dX10_value_14 : decode cX10_value 14 = .ok (.iload_n 1, 1) := by decide +kernel
theorem dX10_value_15 : decode cX10_value 15 = .ok (.iload_n 2, 1) := by decide +kernel
theorem dX10_value_16 : decode cX10_value 16 = .ok (.invokevirtual 117, 3) := by decide +kernel
theorem dX10_value_19 : decode cX10_value 19 = .ok (.invokevirtual 254, 3) := by decide +kernel
theorem dX10_value_22 : decode cX10_value 22 = .ok (.ireturn, 1) := by decide +kernel
theorem dX10_known_0 : decode cX10_known 0 = .ok (.aload_n 0, 1) := by decide +kernel
theorem dX10_known_1 : decode cX10_known 1 = .ok (.iload_n 1, 1) := by decide +kernel
theorem dX10_known_2 : decode cX10_known 2 = .ok (.iload_n 2, 1) := by decide +kernel
theorem dX10_known_3 : decode cX10_known 3 = .ok (.invokevirtual 251, 3) := by decide +kernel
theorem dX10_known_6 : decode cX10_known 6 = .ok (.aload_n 0, 1) := by decide +kernel
theorem dX10_known_7 : decode cX10_known 7 = .ok (.getfield 12, 3) := by decide +kernel
theorem dX10_known_10 : decode cX10_known 10 = .ok (.getfield 257, 3) := by decide +kernel
theorem dX10_known_13 : decode cX10_known 13 = .ok (.aload_n 0, 1) := by decide +kernel
theorem dX10_known_14 : decode cX10_known 14 = .ok (.getfield 12, 3) := by decide +kernel
theorem dX10_known_17 : decode cX10_known 17 = .ok (.iload_n 1, 1) := by decide +kernel
theorem dX10_known_18 : decode cX10_known 18 = .ok (.iload_n 2, 1) := by decide +kernel
theorem dX10_known_19 : decode cX10_known 19 = .ok (.invokevirtual 117, 3) := by decide +kernel
