set_option maxRecDepth 20000 in
theorem ggX3_init_X0_init : GoodIn wsX3_init wsX0_init := goodIn_r _ [5, 6, 7, 8] (by decide +kernel) (by decide +kernel)
set_option maxRecDepth 20000 in
theorem gX3_init_X0_init_n3 : GoodIn wsX3_init (wsX0_init) := ggX3_init_X0_init
theorem dX3_init_0 : decode cX3_init 0 = .ok (.aload_n 0, 1) := by decide +kernel
theorem dX3_init_1 : decode cX3_init 1 = .ok (.invokespecial 3, 3) := by decide +kernel
theorem dX3_init_4 : decode cX3_init 4 = .ok (.aload_n 0, 1) := by decide +kernel
theorem dX3_init_5 : decode cX3_init 5 = .ok (.aload_n 1, 1) := by decide +kernel
theorem dX3_init_6 : decode cX3_init 6 = .ok (.putfield 9, 3) := by decide +kernel
theorem dX3_init_9 : decode cX3_init 9 = .ok (.aload_n 0, 1) := by decide +kernel
theorem dX3_init_10 : decode cX3_init 10 = .ok (.aload_n 2, 1) := by decide +kernel
theorem dX3_init_11 : decode cX3_init 11 = .ok (.putfield 15, 3) := by decide +kernel
theorem dX3_init_14 : decode cX3_init 14 = .ok (.return_, 1) := by decide +kernel
theorem dX3_open_0 : decode cX3_open 0 = .ok (.aload_n 0, 1) := by decide +kernel
theorem dX3_open_1 : decode cX3_open 1 = .ok (.iconst 0, 1) := by decide +kernel
theorem dX3_open_2 : decode cX3_open 2 = .ok (.putfield 19, 3) := by decide +kernel
theorem dX3_open_5 : decode cX3_open 5 = .ok (.aload_n 0, 1) := by decide +kernel
theorem dX3_open_6 : decode cX3_open 6 = .ok (.ldc 23, 2) := by decide +kernel
theorem dX3_open_8 : decode cX3_open 8 = .ok (.putfield 24, 3) := by decide +kernel
theorem dX3_open_11 : decode cX3_open 11 = .ok (.aload_n 0, 1) := by decide +kernel
theorem dX3_open_12 : decode cX3_open 12 = .ok (.bipush 12, 2) := by decide +kernel
theorem dX3_open_14 : decode cX3_open 14 = .ok (.putfield 27, 3) := by decide +kernel
theorem dX3_open_17 : decode cX3_open 17 = .ok (.return_, 1) := by decide +kernel
theorem dX3_enough_0 : decode cX3_enough 0 = .ok (.aload_n 0, 1) := by decide +kernel
theorem dX3_enough_1 : decode cX3_enough 1 = .ok (.getfield 9, 3) := by decide +kernel
theorem dX3_enough_4 : decode cX3_enough 4 = .ok (.getfield 30, 3) := by decide +kernel
theorem dX3_enough_7 : decode cX3_enough 7 = .ok (.iconst 5, 1) := by decide +kernel
theorem dX3_enough_8 : decode cX3_enough 8 = .ok (.iadd, 1) := by decide +kernel
theorem dX3_enough_9 : decode cX3_enough 9 = .ok (.ireturn, 1) := by decide +kernel
set_option maxRecDepth 20000 in
theorem ggX3_next_X4_part : GoodIn wsX3_next wsX4_part := goodIn_r _ [10, 11, 12, 79, 80] (by decide +kernel) (by decide +kernel)
set_option maxRecDepth 20000 in
theorem gX3_next_X4_part : GoodIn wsX3_next (wsV RX3 35 RX4 yX4_part wsX4_part) := goodIn_app (goodIn_of _ (by decide +kernel)) ggX3_next_X4_part
set_option maxRecDepth 20000 in
theorem ggX3_next_X4_likelyBit : GoodIn wsX3_next wsX4_likelyBit := goodIn_r _ [16, 17, 79, 80] (by decide +kernel) (by decide +kernel)
set_option maxRecDepth 20000 in
theorem gX3_next_X4_likelyBit : GoodIn wsX3_next (wsV RX3 41 RX4 yX4_likelyBit wsX4_likelyBit) := goodIn_app (goodIn_of _ (by decide +kernel)) ggX3_next_X4_likelyBit
set_option maxRecDepth 20000 in
theorem ggX3_next_X3_takeShare : GoodIn wsX3_next wsX3_takeShare := goodIn_r _ [22, 2, 4, 74, 75, 76, 77, 78] (by decide +kernel) (by decide +kernel)
set_option maxRecDepth 20000 in
theorem gX3_next_X3_takeShare : GoodIn wsX3_next (wsV RX3 44 RX3 yX3_takeShare wsX3_takeShare) := goodIn_app (goodIn_of _ (by decide +kernel)) ggX3_next_X3_takeShare
set_option maxRecDepth 20000 in
theorem ggX3_next_X4_likelyCame : GoodIn wsX3_next wsX4_likelyCame := goodIn_r _ [26, 12, 27, 79, 80] (by decide +kernel) (by decide +kernel)
set_option maxRecDepth 20000 in
theorem gX3_next_X4_likelyCame : GoodIn wsX3_next (wsV RX3 48 RX4 yX4_likelyCame wsX4_likelyCame) := goodIn_app (goodIn_of _ (by decide +kernel)) ggX3_next_X4_likelyCame
set_option maxRecDepth 20000 in
theorem ggX3_next_X4_otherCame : GoodIn wsX3_next wsX4_otherCame := goodIn_r _ [31, 12, 17, 32, 79, 80] (by decide +kernel) (by decide +kernel)
set_option maxRecDepth 20000 in
theorem gX3_next_X4_otherCame : GoodIn wsX3_next (wsV RX3 52 RX4 yX4_otherCame wsX4_otherCame) := goodIn_app (goodIn_of _ (by decide +kernel)) ggX3_next_X4_otherCame
set_option maxRecDepth 20000 in
theorem ggX3_next_X3_byteOut : GoodIn wsX3_next wsX3_byteOut := goodIn_r _ [36, 37, 4, 38, 5, 39, 40, 41, 42, 43, 44, 45, 46, 47, 48, 49, 50, 51, 52, 53, 54, 55, 56, 57, 58, 59, 60, 61, 62, 63, 64, 65, 66, 67, 68, 69, 70, 71, 72, 73, 74, 75, 76, 77, 78, 81, 82, 83] (by decide +kernel) (by decide +kernel)
set_option maxRecDepth 20000 in
theorem gX3_next_X3_byteOut : GoodIn wsX3_next (wsV RX3 55 RX3 yX3_byteOut wsX3_byteOut) := goodIn_app (goodIn_of _ (by decide +kernel)) ggX3_next_X3_byteOut
theorem dX3_next_0 : decode cX3_next 0 = .ok (.aload_n 0, 1) := by decide +kernel
theorem dX3_next_1 : decode cX3_next 1 = .ok (.getfield 15, 3) := by decide +kernel
theorem dX3_next_4 : decode cX3_next 4 = .ok (.iload_n 2, 1) := by decide +kernel
theorem dX3_next_5 : decode cX3_next 5 = .ok (.invokevirtual 35, 3) := by decide +kernel
theorem dX3_next_8 : decode cX3_next 8 = .ok (.istore_n 3, 1) := by decide +kernel
theorem dX3_next_9 : decode cX3_next 9 = .ok (.aload_n 0, 1) := by decide +kernel
theorem dX3_next_10 : decode cX3_next 10 = .ok (.dup, 1) := by decide +kernel
theorem dX3_next_11 : decode cX3_next 11 = .ok (.getfield 24, 3) := by decide +kernel
theorem dX3_next_14 : decode cX3_next 14 = .ok (.iload_n 3, 1) := by decide +kernel
theorem dX3_next_15 : decode cX3_next 15 = .ok (.isub, 1) := by decide +kernel
theorem dX3_next_16 : decode cX3_next 16 = .ok (.putfield 24, 3) := by decide +kernel
theorem dX3_next_19 : decode cX3_next 19 = .ok (.iload_n 1, 1) := by decide +kernel
theorem dX3_next_20 : decode cX3_next 20 = .ok (.aload_n 0, 1) := by decide +kernel
theorem dX3_next_21 : decode cX3_next 21 = .ok (.getfield 15, 3) := by decide +kernel
theorem dX3_next_24 : decode cX3_next 24 = .ok (.iload_n 2, 1) := by decide +kernel
theorem dX3_next_25 : decode cX3_next 25 = .ok (.invokevirtual 41, 3) := by decide +kernel
theorem dX3_next_28 : decode cX3_next 28 = .ok (.if_icmp .ne 53, 3) := by decide +kernel
theorem dX3_next_31 : decode cX3_next 31 = .ok (.aload_n 0, 1) := by decide +kernel
theorem dX3_next_32 : decode cX3_next 32 = .ok (.getfield 24, 3) := by decide +kernel
theorem dX3_next_35 : decode cX3_next 35 = .ok (.ldc 23, 2) := by decide +kernel
theorem dX3_next_37 : decode cX3_next 37 = .ok (.if_icmp .lt 15, 3) := by decide +kernel
theorem dX3_next_40 : decode cX3_next 40 = .ok (.aload_n 0, 1) := by decide +kernel
theorem dX3_next_41 : decode cX3_next 41 = .ok (.dup, 1) := by decide +kernel
theorem dX3_next_42 : decode cX3_next 42 = .ok (.getfield 19, 3) := by decide +kernel
theorem dX3_next_45 : decode cX3_next 45 = .ok (.iload_n 3, 1) := by decide +kernel
theorem dX3_next_46 : decode cX3_next 46 = .ok (.iadd, 1) := by decide +kernel
theorem dX3_next_47 : decode cX3_next 47 = .ok (.putfield 19, 3) := by decide +kernel
theorem dX3_next_50 : decode cX3_next 50 = .ok (.iload_n 1, 1) := by decide +kernel
theorem dX3_next_51 : decode cX3_next 51 = .ok (.ireturn, 1) := by decide +kernel
theorem dX3_next_52 : decode cX3_next 52 = .ok (.aload_n 0, 1) := by decide +kernel
theorem dX3_next_53 : decode cX3_next 53 = .ok (.aload_n 0, 1) := by decide +kernel
theorem dX3_next_54 : decode cX3_next 54 = .ok (.getfield 24, 3) := by decide +kernel
theorem dX3_next_57 : decode cX3_next 57 = .ok (.iload_n 3, 1) := by decide +kernel
theorem dX3_next_58 : decode cX3_next 58 = .ok (.if_icmp .ge 7, 3) := by decide +kernel
theorem dX3_next_61 : decode cX3_next 61 = .ok (.iconst 1, 1) := by decide +kernel
theorem dX3_next_62 : decode cX3_next 62 = .ok (.goto 4, 3) := by decide +kernel
theorem dX3_next_65 : decode cX3_next 65 = .ok (.iconst 0, 1) := by decide +kernel
theorem dX3_next_66 : decode cX3_next 66 = .ok (.iload_n 3, 1) := by decide +kernel
theorem dX3_next_67 : decode cX3_next 67 = .ok (.invokevirtual 44, 3) := by decide +kernel
theorem dX3_next_70 : decode cX3_next 70 = .ok (.aload_n 0, 1) := by decide +kernel
theorem dX3_next_71 : decode cX3_next 71 = .ok (.getfield 15, 3) := by decide +kernel
theorem dX3_next_74 : decode cX3_next 74 = .ok (.iload_n 2, 1) := by decide +kernel
theorem dX3_next_75 : decode cX3_next 75 = .ok (.invokevirtual 48, 3) := by decide +kernel
theorem dX3_next_78 : decode cX3_next 78 = .ok (.goto 29, 3) := by decide +kernel
theorem dX3_next_81 : decode cX3_next 81 = .ok (.aload_n 0, 1) := by decide +kernel
theorem dX3_next_82 : decode cX3_next 82 = .ok (.aload_n 0, 1) := by decide +kernel
theorem dX3_next_83 : decode cX3_next 83 = .ok (.getfield 24, 3) := by decide +kernel
theorem dX3_next_86 : decode cX3_next 86 = .ok (.iload_n 3, 1) := by decide +kernel
theorem dX3_next_87 : decode cX3_next 87 = .ok (.if_icmp .lt 7, 3) := by decide +kernel
theorem dX3_next_90 : decode cX3_next 90 = .ok (.iconst 1, 1) := by decide +kernel
theorem dX3_next_91 : decode cX3_next 91 = .ok (.goto 4, 3) := by decide +kernel
theorem dX3_next_94 : decode cX3_next 94 = .ok (.iconst 0, 1) := by decide +kernel
theorem dX3_next_95 : decode cX3_next 95 = .ok (.iload_n 3, 1) := by decide +kernel
theorem dX3_next_96 : decode cX3_next 96 = .ok (.invokevirtual 44, 3) := by decide +kernel
theorem dX3_next_99 : decode cX3_next 99 = .ok (.aload_n 0, 1) := by decide +kernel
theorem dX3_next_100 : decode cX3_next 100 = .ok (.getfield 15, 3) := by decide +kernel
theorem dX3_next_103 : decode cX3_next 103 = .ok (.iload_n 2, 1) := by decide +kernel
theorem dX3_next_104 : decode cX3_next 104 = .ok (.invokevirtual 52, 3) := by decide +kernel
theorem dX3_next_107 : decode cX3_next 107 = .ok (.iconst 0, 1) := by decide +kernel
theorem dX3_next_108 : decode cX3_next 108 = .ok (.istore 4, 2) := by decide +kernel
theorem dX3_next_110 : decode cX3_next 110 = .ok (.iload 4, 2) := by decide +kernel
theorem dX3_next_112 : decode cX3_next 112 = .ok (.bipush 15, 2) := by decide +kernel
theorem dX3_next_114 : decode cX3_next 114 = .ok (.if_icmp .ge 59, 3) := by decide +kernel
theorem dX3_next_117 : decode cX3_next 117 = .ok (.aload_n 0, 1) := by decide +kernel
theorem dX3_next_118 : decode cX3_next 118 = .ok (.getfield 24, 3) := by decide +kernel
theorem dX3_next_121 : decode cX3_next 121 = .ok (.ldc 23, 2) := by decide +kernel
theorem dX3_next_123 : decode cX3_next 123 = .ok (.if_icmp .ge 50, 3) := by decide +kernel
theorem dX3_next_126 : decode cX3_next 126 = .ok (.aload_n 0, 1) := by decide +kernel
theorem dX3_next_127 : decode cX3_next 127 = .ok (.dup, 1) := by decide +kernel
theorem dX3_next_128 : decode cX3_next 128 = .ok (.getfield 24, 3) := by decide +kernel
theorem dX3_next_131 : decode cX3_next 131 = .ok (.iconst 2, 1) := by decide +kernel
theorem dX3_next_132 : decode cX3_next 132 = .ok (.imul, 1) := by decide +kernel
theorem dX3_next_133 : decode cX3_next 133 = .ok (.putfield 24, 3) := by decide +kernel
theorem dX3_next_136 : decode cX3_next 136 = .ok (.aload_n 0, 1) := by decide +kernel
theorem dX3_next_137 : decode cX3_next 137 = .ok (.dup, 1) := by decide +kernel
theorem dX3_next_138 : decode cX3_next 138 = .ok (.getfield 19, 3) := by decide +kernel
theorem dX3_next_141 : decode cX3_next 141 = .ok (.iconst 2, 1) := by decide +kernel
theorem dX3_next_142 : decode cX3_next 142 = .ok (.imul, 1) := by decide +kernel
theorem dX3_next_143 : decode cX3_next 143 = .ok (.putfield 19, 3) := by decide +kernel
theorem dX3_next_146 : decode cX3_next 146 = .ok (.aload_n 0, 1) := by decide +kernel
theorem dX3_next_147 : decode cX3_next 147 = .ok (.dup, 1) := by decide +kernel
theorem dX3_next_148 : decode cX3_next 148 = .ok (.getfield 27, 3) := by decide +kernel
theorem dX3_next_151 : decode cX3_next 151 = .ok (.iconst 1, 1) := by decide +kernel
theorem dX3_next_152 : decode cX3_next 152 = .ok (.isub, 1) := by decide +kernel
theorem dX3_next_153 : decode cX3_next 153 = .ok (.putfield 27, 3) := by decide +kernel
theorem dX3_next_156 : decode cX3_next 156 = .ok (.aload_n 0, 1) := by decide +kernel
theorem dX3_next_157 : decode cX3_next 157 = .ok (.getfield 27, 3) := by decide +kernel
theorem dX3_next_160 : decode cX3_next 160 = .ok (.ifCond .ne 7, 3) := by decide +kernel
theorem dX3_next_163 : decode cX3_next 163 = .ok (.aload_n 0, 1) := by decide +kernel
theorem dX3_next_164 : decode cX3_next 164 = .ok (.invokevirtual 55, 3) := by decide +kernel
theorem dX3_next_167 : decode cX3_next 167 = .ok (.iinc 4 1, 3) := by decide +kernel
theorem dX3_next_170 : decode cX3_next 170 = .ok (.goto (-60), 3) := by decide +kernel
theorem dX3_next_173 : decode cX3_next 173 = .ok (.iload_n 1, 1) := by decide +kernel
theorem dX3_next_174 : decode cX3_next 174 = .ok (.ireturn, 1) := by decide +kernel
theorem dX3_takeShare_0 : decode cX3_takeShare 0 = .ok (.iload_n 1, 1) := by decide +kernel
theorem dX3_takeShare_1 : decode cX3_takeShare 1 = .ok (.ifCond .eq 11, 3) := by decide +kernel
theorem dX3_takeShare_4 : decode cX3_takeShare 4 = .ok (.aload_n 0, 1) := by decide +kernel
theorem dX3_takeShare_5 : decode cX3_takeShare 5 = .ok (.iload_n 2, 1) := by decide +kernel
theorem dX3_takeShare_6 : decode cX3_takeShare 6 = .ok (.putfield 24, 3) := by decide +kernel
theorem dX3_takeShare_9 : decode cX3_takeShare 9 = .ok (.goto 13, 3) := by decide +kernel
theorem dX3_takeShare_12 : decode cX3_takeShare 12 = .ok (.aload_n 0, 1) := by decide +kernel
theorem dX3_takeShare_13 : decode cX3_takeShare 13 = .ok (.dup, 1) := by decide +kernel
theorem dX3_takeShare_14 : decode cX3_takeShare 14 = .ok (.getfield 19, 3) := by decide +kernel
theorem dX3_takeShare_17 : decode cX3_takeShare 17 = .ok (.iload_n 2, 1) := by decide +kernel
theorem dX3_takeShare_18 : decode cX3_takeShare 18 = .ok (.iadd, 1) := by decide +kernel
theorem dX3_takeShare_19 : decode cX3_takeShare 19 = .ok (.putfield 19, 3) := by decide +kernel
theorem dX3_takeShare_22 : decode cX3_takeShare 22 = .ok (.return_, 1) := by decide +kernel
set_option maxRecDepth 20000 in
theorem ggX3_byteOut_X1_last : GoodIn wsX3_byteOut wsX1_last := goodIn_r _ [9, 10, 11, 12, 45, 46, 47] (by decide +kernel) (by decide +kernel)
set_option maxRecDepth 20000 in
theorem gX3_byteOut_X1_last : GoodIn wsX3_byteOut (wsV RX3 58 RX1 yX1_last wsX1_last) := goodIn_app (goodIn_of _ (by decide +kernel)) ggX3_byteOut_X1_last
set_option maxRecDepth 20000 in
theorem ggX3_byteOut_X1_addToLast : GoodIn wsX3_byteOut wsX1_addToLast := goodIn_r _ [16, 10, 11, 12, 45, 46, 47] (by decide +kernel) (by decide +kernel)
set_option maxRecDepth 20000 in
theorem gX3_byteOut_X1_addToLast : GoodIn wsX3_byteOut (wsV RX3 63 RX1 yX1_addToLast wsX1_addToLast) := goodIn_app (goodIn_of _ (by decide +kernel)) ggX3_byteOut_X1_addToLast
set_option maxRecDepth 20000 in
theorem ggX3_byteOut_X1_append : GoodIn wsX3_byteOut wsX1_append := goodIn_r _ [20, 10, 12, 21, 22, 23, 24, 25, 26, 27, 28, 29, 30, 31, 32, 33, 34, 35, 36, 37, 38, 39, 45, 46, 47] (by decide +kernel) (by decide +kernel)
set_option maxRecDepth 20000 in
theorem gX3_byteOut_X1_append : GoodIn wsX3_byteOut (wsV RX3 66 RX1 yX1_append wsX1_append) := goodIn_app (goodIn_of _ (by decide +kernel)) ggX3_byteOut_X1_append
theorem dX3_byteOut_0 : decode cX3_byteOut 0 = .ok (.aload_n 0, 1) := by decide +kernel
theorem dX3_byteOut_1 : decode cX3_byteOut 1 = .ok (.getfield 9, 3) := by decide +kernel
theorem dX3_byteOut_4 : decode cX3_byteOut 4 = .ok (.invokevirtual 58, 3) := by decide +kernel
theorem dX3_byteOut_7 : decode cX3_byteOut 7 = .ok (.istore_n 1, 1) := by decide +kernel
theorem dX3_byteOut_8 : decode cX3_byteOut 8 = .ok (.iload_n 1, 1) := by decide +kernel
theorem dX3_byteOut_9 : decode cX3_byteOut 9 = .ok (.iconst (-1), 1) := by decide +kernel
theorem dX3_byteOut_10 : decode cX3_byteOut 10 = .ok (.if_icmp .eq 38, 3) := by decide +kernel
theorem dX3_byteOut_13 : decode cX3_byteOut 13 = .ok (.iload_n 1, 1) := by decide +kernel
theorem dX3_byteOut_14 : decode cX3_byteOut 14 = .ok (.sipush 255, 3) := by decide +kernel
theorem dX3_byteOut_17 : decode cX3_byteOut 17 = .ok (.if_icmp .eq 31, 3) := by decide +kernel
theorem dX3_byteOut_20 : decode cX3_byteOut 20 = .ok (.aload_n 0, 1) := by decide +kernel
theorem dX3_byteOut_21 : decode cX3_byteOut 21 = .ok (.getfield 19, 3) := by decide +kernel
theorem dX3_byteOut_24 : decode cX3_byteOut 24 = .ok (.ldc 62, 2) := by decide +kernel
theorem dX3_byteOut_26 : decode cX3_byteOut 26 = .ok (.if_icmp .lt 22, 3) := by decide +kernel
theorem dX3_byteOut_29 : decode cX3_byteOut 29 = .ok (.aload_n 0, 1) := by decide +kernel
theorem dX3_byteOut_30 : decode cX3_byteOut 30 = .ok (.dup, 1) := by decide +kernel
theorem dX3_byteOut_31 : decode cX3_byteOut 31 = .ok (.getfield 19, 3) := by decide +kernel
theorem dX3_byteOut_34 : decode cX3_byteOut 34 = .ok (.ldc 62, 2) := by decide +kernel
theorem dX3_byteOut_36 : decode cX3_byteOut 36 = .ok (.isub, 1) := by decide +kernel
theorem dX3_byteOut_37 : decode cX3_byteOut 37 = .ok (.putfield 19, 3) := by decide +kernel
theorem dX3_byteOut_40 : decode cX3_byteOut 40 = .ok (.aload_n 0, 1) := by decide +kernel
theorem dX3_byteOut_41 : decode cX3_byteOut 41 = .ok (.getfield 9, 3) := by decide +kernel
theorem dX3_byteOut_44 : decode cX3_byteOut 44 = .ok (.iconst 1, 1) := by decide +kernel
theorem dX3_byteOut_45 : decode cX3_byteOut 45 = .ok (.invokevirtual 63, 3) := by decide +kernel
theorem dX3_byteOut_48 : decode cX3_byteOut 48 = .ok (.aload_n 0, 1) := by decide +kernel
theorem dX3_byteOut_49 : decode cX3_byteOut 49 = .ok (.getfield 9, 3) := by decide +kernel
theorem dX3_byteOut_52 : decode cX3_byteOut 52 = .ok (.invokevirtual 58, 3) := by decide +kernel
theorem dX3_byteOut_55 : decode cX3_byteOut 55 = .ok (.sipush 255, 3) := by decide +kernel
theorem dX3_byteOut_58 : decode cX3_byteOut 58 = .ok (.if_icmp .ne 8, 3) := by decide +kernel
theorem dX3_byteOut_61 : decode cX3_byteOut 61 = .ok (.bipush 20, 2) := by decide +kernel
theorem dX3_byteOut_63 : decode cX3_byteOut 63 = .ok (.goto 5, 3) := by decide +kernel
theorem dX3_byteOut_66 : decode cX3_byteOut 66 = .ok (.bipush 19, 2) := by decide +kernel
theorem dX3_byteOut_68 : decode cX3_byteOut 68 = .ok (.istore_n 2, 1) := by decide +kernel
theorem dX3_byteOut_69 : decode cX3_byteOut 69 = .ok (.aload_n 0, 1) := by decide +kernel
theorem dX3_byteOut_70 : decode cX3_byteOut 70 = .ok (.getfield 9, 3) := by decide +kernel
theorem dX3_byteOut_73 : decode cX3_byteOut 73 = .ok (.aload_n 0, 1) := by decide +kernel
theorem dX3_byteOut_74 : decode cX3_byteOut 74 = .ok (.getfield 19, 3) := by decide +kernel
theorem dX3_byteOut_77 : decode cX3_byteOut 77 = .ok (.iload_n 2, 1) := by decide +kernel
theorem dX3_byteOut_78 : decode cX3_byteOut 78 = .ok (.ishr, 1) := by decide +kernel
theorem dX3_byteOut_79 : decode cX3_byteOut 79 = .ok (.sipush 255, 3) := by decide +kernel
theorem dX3_byteOut_82 : decode cX3_byteOut 82 = .ok (.iand, 1) := by decide +kernel
theorem dX3_byteOut_83 : decode cX3_byteOut 83 = .ok (.invokevirtual 66, 3) := by decide +kernel
theorem dX3_byteOut_86 : decode cX3_byteOut 86 = .ok (.aload_n 0, 1) := by decide +kernel
theorem dX3_byteOut_87 : decode cX3_byteOut 87 = .ok (.dup, 1) := by decide +kernel
theorem dX3_byteOut_88 : decode cX3_byteOut 88 = .ok (.getfield 19, 3) := by decide +kernel
theorem dX3_byteOut_91 : decode cX3_byteOut 91 = .ok (.iconst 1, 1) := by decide +kernel
theorem dX3_byteOut_92 : decode cX3_byteOut 92 = .ok (.iload_n 2, 1) := by decide +kernel
theorem dX3_byteOut_93 : decode cX3_byteOut 93 = .ok (.ishl, 1) := by decide +kernel
theorem dX3_byteOut_94 : decode cX3_byteOut 94 = .ok (.iconst 1, 1) := by decide +kernel
theorem dX3_byteOut_95 : decode cX3_byteOut 95 = .ok (.isub, 1) := by decide +kernel
theorem dX3_byteOut_96 : decode cX3_byteOut 96 = .ok (.iand, 1) := by decide +kernel
theorem dX3_byteOut_97 : decode cX3_byteOut 97 = .ok (.putfield 19, 3) := by decide +kernel
theorem dX3_byteOut_100 : decode cX3_byteOut 100 = .ok (.aload_n 0, 1) := by decide +kernel
theorem dX3_byteOut_101 : decode cX3_byteOut 101 = .ok (.bipush 27, 2) := by decide +kernel
theorem dX3_byteOut_103 : decode cX3_byteOut 103 = .ok (.iload_n 2, 1) := by decide +kernel
theorem dX3_byteOut_104 : decode cX3_byteOut 104 = .ok (.isub, 1) := by decide +kernel
theorem dX3_byteOut_105 : decode cX3_byteOut 105 = .ok (.putfield 27, 3) := by decide +kernel
theorem dX3_byteOut_108 : decode cX3_byteOut 108 = .ok (.return_, 1) := by decide +kernel
set_option maxRecDepth 20000 in
theorem ggX3_end_X3_byteOut : GoodIn wsX3_end wsX3_byteOut := goodIn_r _ [10, 11, 1, 12, 5, 13, 14, 15, 16, 17, 18, 19, 20, 21, 22, 23, 24, 25, 26, 27, 28, 29, 30, 31, 32, 33, 34, 35, 36, 37, 38, 39, 40, 41, 42, 43, 44, 45, 46, 47, 48, 49, 50, 51, 52, 53, 54, 55] (by decide +kernel) (by decide +kernel)
set_option maxRecDepth 20000 in
theorem gX3_end_X3_byteOut : GoodIn wsX3_end (wsV RX3 55 RX3 yX3_byteOut wsX3_byteOut) := goodIn_app (goodIn_of _ (by decide +kernel)) ggX3_end_X3_byteOut
theorem dX3_end_0 : decode cX3_end 0 = .ok (.aload_n 0, 1) := by decide +kernel
theorem dX3_end_1 : decode cX3_end 1 = .ok (.getfield 19, 3) := by decide +kernel
theorem dX3_end_4 : decode cX3_end 4 = .ok (.ldc 69, 2) := by decide +kernel
theorem dX3_end_6 : decode cX3_end 6 = .ok (.ior, 1) := by decide +kernel
theorem dX3_end_7 : decode cX3_end 7 = .ok (.istore_n 1, 1) := by decide +kernel
theorem dX3_end_8 : decode cX3_end 8 = .ok (.aload_n 0, 1) := by decide +kernel
theorem dX3_end_9 : decode cX3_end 9 = .ok (.iload_n 1, 1) := by decide +kernel
theorem dX3_end_10 : decode cX3_end 10 = .ok (.aload_n 0, 1) := by decide +kernel
theorem dX3_end_11 : decode cX3_end 11 = .ok (.getfield 19, 3) := by decide +kernel
theorem dX3_end_14 : decode cX3_end 14 = .ok (.aload_n 0, 1) := by decide +kernel
theorem dX3_end_15 : decode cX3_end 15 = .ok (.getfield 24, 3) := by decide +kernel
theorem dX3_end_18 : decode cX3_end 18 = .ok (.iadd, 1) := by decide +kernel
theorem dX3_end_19 : decode cX3_end 19 = .ok (.if_icmp .ge 7, 3) := by decide +kernel
theorem dX3_end_22 : decode cX3_end 22 = .ok (.iload_n 1, 1) := by decide +kernel
theorem dX3_end_23 : decode cX3_end 23 = .ok (.goto 7, 3) := by decide +kernel
theorem dX3_end_26 : decode cX3_end 26 = .ok (.iload_n 1, 1) := by decide +kernel
theorem dX3_end_27 : decode cX3_end 27 = .ok (.ldc 23, 2) := by decide +kernel
theorem dX3_end_29 : decode cX3_end 29 = .ok (.isub, 1) := by decide +kernel
theorem dX3_end_30 : decode cX3_end 30 = .ok (.putfield 19, 3) := by decide +kernel
theorem dX3_end_33 : decode cX3_end 33 = .ok (.iconst 0, 1) := by decide +kernel
theorem dX3_end_34 : decode cX3_end 34 = .ok (.istore_n 2, 1) := by decide +kernel
theorem dX3_end_35 : decode cX3_end 35 = .ok (.iload_n 2, 1) := by decide +kernel
theorem dX3_end_36 : decode cX3_end 36 = .ok (.iconst 2, 1) := by decide +kernel
theorem dX3_end_37 : decode cX3_end 37 = .ok (.if_icmp .ge 26, 3) := by decide +kernel
theorem dX3_end_40 : decode cX3_end 40 = .ok (.aload_n 0, 1) := by decide +kernel
theorem dX3_end_41 : decode cX3_end 41 = .ok (.dup, 1) := by decide +kernel
theorem dX3_end_42 : decode cX3_end 42 = .ok (.getfield 19, 3) := by decide +kernel
theorem dX3_end_45 : decode cX3_end 45 = .ok (.aload_n 0, 1) := by decide +kernel
theorem dX3_end_46 : decode cX3_end 46 = .ok (.getfield 27, 3) := by decide +kernel
theorem dX3_end_49 : decode cX3_end 49 = .ok (.ishl, 1) := by decide +kernel
theorem dX3_end_50 : decode cX3_end 50 = .ok (.putfield 19, 3) := by decide +kernel
theorem dX3_end_53 : decode cX3_end 53 = .ok (.aload_n 0, 1) := by decide +kernel
theorem dX3_end_54 : decode cX3_end 54 = .ok (.invokevirtual 55, 3) := by decide +kernel
theorem dX3_end_57 : decode cX3_end 57 = .ok (.iinc 2 1, 3) := by decide +kernel
theorem dX3_end_60 : decode cX3_end 60 = .ok (.goto (-25), 3) := by decide +kernel
theorem dX3_end_63 : decode cX3_end 63 = .ok (.return_, 1) := by decide +kernel
set_option maxRecDepth 20000 in
theorem ggX3_endPlainly_X3_byteOut : GoodIn wsX3_endPlainly wsX3_byteOut := goodIn_r _ [7, 8, 2, 9, 1, 10, 11, 12, 13, 14, 15, 16, 17, 18, 19, 20, 21, 22, 23, 24, 25, 26, 27, 28, 29, 30, 31, 32, 33, 34, 35, 36, 37, 38, 39, 40, 41, 42, 43, 44, 45, 46, 47, 48, 49, 50, 51, 52] (by decide +kernel) (by decide +kernel)
set_option maxRecDepth 20000 in
theorem gX3_endPlainly_X3_byteOut : GoodIn wsX3_endPlainly (wsV RX3 55 RX3 yX3_byteOut wsX3_byteOut) := goodIn_app (goodIn_of _ (by decide +kernel)) ggX3_endPlainly_X3_byteOut
theorem dX3_endPlainly_0 : decode cX3_endPlainly 0 = .ok (.bipush 12, 2) := by decide +kernel
theorem dX3_endPlainly_2 : decode cX3_endPlainly 2 = .ok (.aload_n 0, 1) := by decide +kernel
theorem dX3_endPlainly_3 : decode cX3_endPlainly 3 = .ok (.getfield 27, 3) := by decide +kernel
theorem dX3_endPlainly_6 : decode cX3_endPlainly 6 = .ok (.isub, 1) := by decide +kernel
theorem dX3_endPlainly_7 : decode cX3_endPlainly 7 = .ok (.istore_n 1, 1) := by decide +kernel
theorem dX3_endPlainly_8 : decode cX3_endPlainly 8 = .ok (.iconst 0, 1) := by decide +kernel
theorem dX3_endPlainly_9 : decode cX3_endPlainly 9 = .ok (.istore_n 2, 1) := by decide +kernel
theorem dX3_endPlainly_10 : decode cX3_endPlainly 10 = .ok (.iload_n 2, 1) := by decide +kernel
theorem dX3_endPlainly_11 : decode cX3_endPlainly 11 = .ok (.iconst 2, 1) := by decide +kernel
theorem dX3_endPlainly_12 : decode cX3_endPlainly 12 = .ok (.if_icmp .ge 37, 3) := by decide +kernel
theorem dX3_endPlainly_15 : decode cX3_endPlainly 15 = .ok (.iload_n 1, 1) := by decide +kernel
theorem dX3_endPlainly_16 : decode cX3_endPlainly 16 = .ok (.ifCond .le 33, 3) := by decide +kernel
theorem dX3_endPlainly_19 : decode cX3_endPlainly 19 = .ok (.aload_n 0, 1) := by decide +kernel
theorem dX3_endPlainly_20 : decode cX3_endPlainly 20 = .ok (.dup, 1) := by decide +kernel
theorem dX3_endPlainly_21 : decode cX3_endPlainly 21 = .ok (.getfield 19, 3) := by decide +kernel
theorem dX3_endPlainly_24 : decode cX3_endPlainly 24 = .ok (.aload_n 0, 1) := by decide +kernel
theorem dX3_endPlainly_25 : decode cX3_endPlainly 25 = .ok (.getfield 27, 3) := by decide +kernel
theorem dX3_endPlainly_28 : decode cX3_endPlainly 28 = .ok (.ishl, 1) := by decide +kernel
theorem dX3_endPlainly_29 : decode cX3_endPlainly 29 = .ok (.putfield 19, 3) := by decide +kernel
theorem dX3_endPlainly_32 : decode cX3_endPlainly 32 = .ok (.aload_n 0, 1) := by decide +kernel
theorem dX3_endPlainly_33 : decode cX3_endPlainly 33 = .ok (.invokevirtual 55, 3) := by decide +kernel
theorem dX3_endPlainly_36 : decode cX3_endPlainly 36 = .ok (.iload_n 1, 1) := by decide +kernel
theorem dX3_endPlainly_37 : decode cX3_endPlainly 37 = .ok (.aload_n 0, 1) := by decide +kernel
theorem dX3_endPlainly_38 : decode cX3_endPlainly 38 = .ok (.getfield 27, 3) := by decide +kernel
theorem dX3_endPlainly_41 : decode cX3_endPlainly 41 = .ok (.isub, 1) := by decide +kernel
theorem dX3_endPlainly_42 : decode cX3_endPlainly 42 = .ok (.istore_n 1, 1) := by decide +kernel
theorem dX3_endPlainly_43 : decode cX3_endPlainly 43 = .ok (.iinc 2 1, 3) := by decide +kernel
theorem dX3_endPlainly_46 : decode cX3_endPlainly 46 = .ok (.goto (-36), 3) := by decide +kernel
theorem dX3_endPlainly_49 : decode cX3_endPlainly 49 = .ok (.return_, 1) := by decide +kernel
theorem dX4_init_0 : decode cX4_init 0 = .ok (.aload_n 0, 1) := by decide +kernel
theorem dX4_init_1 : decode cX4_init 1 = .ok (.invokespecial 3, 3) := by decide +kernel
theorem dX4_init_4 : decode cX4_init 4 = .ok (.aload_n 0, 1) := by decide +kernel
theorem dX4_init_5 : decode cX4_init 5 = .ok (.bipush 19, 2) := by decide +kernel
theorem dX4_init_7 : decode cX4_init 7 = .ok (.newarray .int, 2) := by decide +kernel
theorem dX4_init_9 : decode cX4_init 9 = .ok (.putfield 9, 3) := by decide +kernel
theorem dX4_init_12 : decode cX4_init 12 = .ok (.aload_n 0, 1) := by decide +kernel
theorem dX4_init_13 : decode cX4_init 13 = .ok (.bipush 19, 2) := by decide +kernel
theorem dX4_init_15 : decode cX4_init 15 = .ok (.newarray .int, 2) := by decide +kernel
theorem dX4_init_17 : decode cX4_init 17 = .ok (.putfield 15, 3) := by decide +kernel
theorem dX4_init_20 : decode cX4_init 20 = .ok (.return_, 1) := by decide +kernel
set_option maxRecDepth 20000 in
theorem ggX4_restart_J7_fill_53178 : GoodIn wsX4_restart wsJ7_fill_53178 := goodIn_r _ [6] (by decide +kernel) (by decide +kernel)
set_option maxRecDepth 20000 in
theorem gX4_restart_J7_fill_53178 : GoodIn wsX4_restart (va_wsS RX4 18 yJ7_fill_53178 wsJ7_fill_53178) := goodIn_app (goodIn_of _ (by decide +kernel)) ggX4_restart_J7_fill_53178
theorem dX4_restart_0 : decode cX4_restart 0 = .ok (.aload_n 0, 1) := by decide +kernel
theorem dX4_restart_1 : decode cX4_restart 1 = .ok (.getfield 9, 3) := by decide +kernel
theorem dX4_restart_4 : decode cX4_restart 4 = .ok (.iconst 0, 1) := by decide +kernel
theorem dX4_restart_5 : decode cX4_restart 5 = .ok (.invokestatic 18, 3) := by decide +kernel
theorem dX4_restart_8 : decode cX4_restart 8 = .ok (.aload_n 0, 1) := by decide +kernel
theorem dX4_restart_9 : decode cX4_restart 9 = .ok (.getfield 15, 3) := by decide +kernel
theorem dX4_restart_12 : decode cX4_restart 12 = .ok (.iconst 0, 1) := by decide +kernel
theorem dX4_restart_13 : decode cX4_restart 13 = .ok (.invokestatic 18, 3) := by decide +kernel
theorem dX4_restart_16 : decode cX4_restart 16 = .ok (.aload_n 0, 1) := by decide +kernel
theorem dX4_restart_17 : decode cX4_restart 17 = .ok (.getfield 9, 3) := by decide +kernel
theorem dX4_restart_20 : decode cX4_restart 20 = .ok (.iconst 0, 1) := by decide +kernel
theorem dX4_restart_21 : decode cX4_restart 21 = .ok (.iconst 4, 1) := by decide +kernel
theorem dX4_restart_22 : decode cX4_restart 22 = .ok (.iastore, 1) := by decide +kernel
theorem dX4_restart_23 : decode cX4_restart 23 = .ok (.aload_n 0, 1) := by decide +kernel
theorem dX4_restart_24 : decode cX4_restart 24 = .ok (.getfield 9, 3) := by decide +kernel
theorem dX4_restart_27 : decode cX4_restart 27 = .ok (.bipush 17, 2) := by decide +kernel
theorem dX4_restart_29 : decode cX4_restart 29 = .ok (.iconst 3, 1) := by decide +kernel
theorem dX4_restart_30 : decode cX4_restart 30 = .ok (.iastore, 1) := by decide +kernel
theorem dX4_restart_31 : decode cX4_restart 31 = .ok (.aload_n 0, 1) := by decide +kernel
theorem dX4_restart_32 : decode cX4_restart 32 = .ok (.getfield 9, 3) := by decide +kernel
theorem dX4_restart_35 : decode cX4_restart 35 = .ok (.bipush 18, 2) := by decide +kernel
theorem dX4_restart_37 : decode cX4_restart 37 = .ok (.bipush 46, 2) := by decide +kernel
theorem dX4_restart_39 : decode cX4_restart 39 = .ok (.iastore, 1) := by decide +kernel
theorem dX4_restart_40 : decode cX4_restart 40 = .ok (.return_, 1) := by decide +kernel
theorem dX4_part_0 : decode cX4_part 0 = .ok (.getstatic 24, 3) := by decide +kernel
theorem dX4_part_3 : decode cX4_part 3 = .ok (.aload_n 0, 1) := by decide +kernel
theorem dX4_part_4 : decode cX4_part 4 = .ok (.getfield 9, 3) := by decide +kernel
theorem dX4_part_7 : decode cX4_part 7 = .ok (.iload_n 1, 1) := by decide +kernel
theorem dX4_part_8 : decode cX4_part 8 = .ok (.iaload, 1) := by decide +kernel
theorem dX4_part_9 : decode cX4_part 9 = .ok (.iaload, 1) := by decide +kernel
theorem dX4_part_10 : decode cX4_part 10 = .ok (.ireturn, 1) := by decide +kernel
theorem dX4_likelyBit_0 : decode cX4_likelyBit 0 = .ok (.aload_n 0, 1) := by decide +kernel
theorem dX4_likelyBit_1 : decode cX4_likelyBit 1 = .ok (.getfield 15, 3) := by decide +kernel
theorem dX4_likelyBit_4 : decode cX4_likelyBit 4 = .ok (.iload_n 1, 1) := by decide +kernel
theorem dX4_likelyBit_5 : decode cX4_likelyBit 5 = .ok (.iaload, 1) := by decide +kernel
theorem dX4_likelyBit_6 : decode cX4_likelyBit 6 = .ok (.ireturn, 1) := by decide +kernel
theorem dX4_likelyCame_0 : decode cX4_likelyCame 0 = .ok (.aload_n 0, 1) := by decide +kernel
theorem dX4_likelyCame_1 : decode cX4_likelyCame 1 = .ok (.getfield 9, 3) := by decide +kernel
theorem dX4_likelyCame_4 : decode cX4_likelyCame 4 = .ok (.iload_n 1, 1) := by decide +kernel
theorem dX4_likelyCame_5 : decode cX4_likelyCame 5 = .ok (.getstatic 27, 3) := by decide +kernel
theorem dX4_likelyCame_8 : decode cX4_likelyCame 8 = .ok (.aload_n 0, 1) := by decide +kernel
theorem dX4_likelyCame_9 : decode cX4_likelyCame 9 = .ok (.getfield 9, 3) := by decide +kernel
theorem dX4_likelyCame_12 : decode cX4_likelyCame 12 = .ok (.iload_n 1, 1) := by decide +kernel
theorem dX4_likelyCame_13 : decode cX4_likelyCame 13 = .ok (.iaload, 1) := by decide +kernel
theorem dX4_likelyCame_14 : decode cX4_likelyCame 14 = .ok (.iaload, 1) := by decide +kernel
theorem dX4_likelyCame_15 : decode cX4_likelyCame 15 = .ok (.iastore, 1) := by decide +kernel
theorem dX4_likelyCame_16 : decode cX4_likelyCame 16 = .ok (.return_, 1) := by decide +kernel
theorem dX4_otherCame_0 : decode cX4_otherCame 0 = .ok (.aload_n 0, 1) := by decide +kernel
theorem dX4_otherCame_1 : decode cX4_otherCame 1 = .ok (.getfield 9, 3) := by decide +kernel
theorem dX4_otherCame_4 : decode cX4_otherCame 4 = .ok (.iload_n 1, 1) := by decide +kernel
theorem dX4_otherCame_5 : decode cX4_otherCame 5 = .ok (.iaload, 1) := by decide +kernel
theorem dX4_otherCame_6 : decode cX4_otherCame 6 = .ok (.istore_n 2, 1) := by decide +kernel
theorem dX4_otherCame_7 : decode cX4_otherCame 7 = .ok (.iload_n 2, 1) := by decide +kernel
theorem dX4_otherCame_8 : decode cX4_otherCame 8 = .ok (.ifCond .eq 15, 3) := by decide +kernel
theorem dX4_otherCame_11 : decode cX4_otherCame 11 = .ok (.iload_n 2, 1) := by decide +kernel
theorem dX4_otherCame_12 : decode cX4_otherCame 12 = .ok (.bipush 6, 2) := by decide +kernel
theorem dX4_otherCame_14 : decode cX4_otherCame 14 = .ok (.if_icmp .eq 9, 3) := by decide +kernel
theorem dX4_otherCame_17 : decode cX4_otherCame 17 = .ok (.iload_n 2, 1) := by decide +kernel
theorem dX4_otherCame_18 : decode cX4_otherCame 18 = .ok (.bipush 14, 2) := by decide +kernel
theorem dX4_otherCame_20 : decode cX4_otherCame 20 = .ok (.if_icmp .ne 17, 3) := by decide +kernel
theorem dX4_otherCame_23 : decode cX4_otherCame 23 = .ok (.aload_n 0, 1) := by decide +kernel
theorem dX4_otherCame_24 : decode cX4_otherCame 24 = .ok (.getfield 15, 3) := by decide +kernel
theorem dX4_otherCame_27 : decode cX4_otherCame 27 = .ok (.iload_n 1, 1) := by decide +kernel
theorem dX4_otherCame_28 : decode cX4_otherCame 28 = .ok (.iconst 1, 1) := by decide +kernel
theorem dX4_otherCame_29 : decode cX4_otherCame 29 = .ok (.aload_n 0, 1) := by decide +kernel
theorem dX4_otherCame_30 : decode cX4_otherCame 30 = .ok (.getfield 15, 3) := by decide +kernel
theorem dX4_otherCame_33 : decode cX4_otherCame 33 = .ok (.iload_n 1, 1) := by decide +kernel
theorem dX4_otherCame_34 : decode cX4_otherCame 34 = .ok (.iaload, 1) := by decide +kernel
theorem dX4_otherCame_35 : decode cX4_otherCame 35 = .ok (.isub, 1) := by decide +kernel
theorem dX4_otherCame_36 : decode cX4_otherCame 36 = .ok (.iastore, 1) := by decide +kernel
theorem dX4_otherCame_37 : decode cX4_otherCame 37 = .ok (.aload_n 0, 1) := by decide +kernel
theorem dX4_otherCame_38 : decode cX4_otherCame 38 = .ok (.getfield 9, 3) := by decide +kernel
theorem dX4_otherCame_41 : decode cX4_otherCame 41 = .ok (.iload_n 1, 1) := by decide +kernel
theorem dX4_otherCame_42 : decode cX4_otherCame 42 = .ok (.getstatic 30, 3) := by decide +kernel
theorem dX4_otherCame_45 : decode cX4_otherCame 45 = .ok (.iload_n 2, 1) := by decide +kernel
theorem dX4_otherCame_46 : decode cX4_otherCame 46 = .ok (.iaload, 1) := by decide +kernel
theorem dX4_otherCame_47 : decode cX4_otherCame 47 = .ok (.iastore, 1) := by decide +kernel
theorem dX4_otherCame_48 : decode cX4_otherCame 48 = .ok (.return_, 1) := by decide +kernel
theorem dX5_init_0 : decode cX5_init 0 = .ok (.aload_n 0, 1) := by decide +kernel
theorem dX5_init_1 : decode cX5_init 1 = .ok (.invokespecial 5, 3) := by decide +kernel
theorem dX5_init_4 : decode cX5_init 4 = .ok (.aload_n 0, 1) := by decide +kernel
theorem dX5_init_5 : decode cX5_init 5 = .ok (.iconst 1, 1) := by decide +kernel
theorem dX5_init_6 : decode cX5_init 6 = .ok (.putfield 11, 3) := by decide +kernel
theorem dX5_init_9 : decode cX5_init 9 = .ok (.aload_n 0, 1) := by decide +kernel
theorem dX5_init_10 : decode cX5_init 10 = .ok (.iconst 1, 1) := by decide +kernel
theorem dX5_init_11 : decode cX5_init 11 = .ok (.putfield 15, 3) := by decide +kernel
theorem dX5_init_14 : decode cX5_init 14 = .ok (.aload_n 0, 1) := by decide +kernel
theorem dX5_init_15 : decode cX5_init 15 = .ok (.iconst 1, 1) := by decide +kernel
theorem dX5_init_16 : decode cX5_init 16 = .ok (.newarray .int, 2) := by decide +kernel
theorem dX5_init_18 : decode cX5_init 18 = .ok (.putfield 18, 3) := by decide +kernel
theorem dX5_init_21 : decode cX5_init 21 = .ok (.aload_n 0, 1) := by decide +kernel
theorem dX5_init_22 : decode cX5_init 22 = .ok (.iconst 1, 1) := by decide +kernel
theorem dX5_init_23 : decode cX5_init 23 = .ok (.newarray .int, 2) := by decide +kernel
theorem dX5_init_25 : decode cX5_init 25 = .ok (.putfield 22, 3) := by decide +kernel
theorem dX5_init_28 : decode cX5_init 28 = .ok (.aload_n 0, 1) := by decide +kernel
theorem dX5_init_29 : decode cX5_init 29 = .ok (.iconst 1, 1) := by decide +kernel
theorem dX5_init_30 : decode cX5_init 30 = .ok (.newarray .int, 2) := by decide +kernel
theorem dX5_init_32 : decode cX5_init 32 = .ok (.putfield 25, 3) := by decide +kernel
theorem dX5_init_35 : decode cX5_init 35 = .ok (.return_, 1) := by decide +kernel
set_option maxRecDepth 20000 in
theorem ggX5_resize_J7_fill_53178 : GoodIn wsX5_resize wsJ7_fill_53178 := goodIn_r _ [19] (by decide +kernel) (by decide +kernel)
set_option maxRecDepth 20000 in
theorem gX5_resize_J7_fill_53178 : GoodIn wsX5_resize (va_wsS RX5 44 yJ7_fill_53178 wsJ7_fill_53178) := goodIn_app (goodIn_of _ (by decide +kernel)) ggX5_resize_J7_fill_53178
theorem dX5_resize_0 : decode cX5_resize 0 = .ok (.aload_n 0, 1) := by decide +kernel
theorem dX5_resize_1 : decode cX5_resize 1 = .ok (.iload_n 1, 1) := by decide +kernel
theorem dX5_resize_2 : decode cX5_resize 2 = .ok (.putfield 11, 3) := by decide +kernel
theorem dX5_resize_5 : decode cX5_resize 5 = .ok (.aload_n 0, 1) := by decide +kernel
theorem dX5_resize_6 : decode cX5_resize 6 = .ok (.iload_n 2, 1) := by decide +kernel
theorem dX5_resize_7 : decode cX5_resize 7 = .ok (.putfield 15, 3) := by decide +kernel
theorem dX5_resize_10 : decode cX5_resize 10 = .ok (.aload_n 0, 1) := by decide +kernel
theorem dX5_resize_11 : decode cX5_resize 11 = .ok (.iload_n 3, 1) := by decide +kernel
theorem dX5_resize_12 : decode cX5_resize 12 = .ok (.putfield 28, 3) := by decide +kernel
theorem dX5_resize_15 : decode cX5_resize 15 = .ok (.aload_n 0, 1) := by decide +kernel
theorem dX5_resize_16 : decode cX5_resize 16 = .ok (.iload 4, 2) := by decide +kernel
theorem dX5_resize_18 : decode cX5_resize 18 = .ok (.putfield 31, 3) := by decide +kernel
theorem dX5_resize_21 : decode cX5_resize 21 = .ok (.aload_n 0, 1) := by decide +kernel
theorem dX5_resize_22 : decode cX5_resize 22 = .ok (.getfield 18, 3) := by decide +kernel
theorem dX5_resize_25 : decode cX5_resize 25 = .ok (.arraylength, 1) := by decide +kernel
theorem dX5_resize_26 : decode cX5_resize 26 = .ok (.istore 5, 2) := by decide +kernel
theorem dX5_resize_28 : decode cX5_resize 28 = .ok (.iload_n 1, 1) := by decide +kernel
theorem dX5_resize_29 : decode cX5_resize 29 = .ok (.iload_n 2, 1) := by decide +kernel
theorem dX5_resize_30 : decode cX5_resize 30 = .ok (.imul, 1) := by decide +kernel
theorem dX5_resize_31 : decode cX5_resize 31 = .ok (.iload 5, 2) := by decide +kernel
theorem dX5_resize_33 : decode cX5_resize 33 = .ok (.if_icmp .le 45, 3) := by decide +kernel
theorem dX5_resize_36 : decode cX5_resize 36 = .ok (.sipush 4096, 3) := by decide +kernel
theorem dX5_resize_39 : decode cX5_resize 39 = .ok (.iload_n 1, 1) := by decide +kernel
theorem dX5_resize_40 : decode cX5_resize 40 = .ok (.iload_n 2, 1) := by decide +kernel
theorem dX5_resize_41 : decode cX5_resize 41 = .ok (.imul, 1) := by decide +kernel
theorem dX5_resize_42 : decode cX5_resize 42 = .ok (.iconst 2, 1) := by decide +kernel
theorem dX5_resize_43 : decode cX5_resize 43 = .ok (.iload 5, 2) := by decide +kernel
theorem dX5_resize_45 : decode cX5_resize 45 = .ok (.imul, 1) := by decide +kernel
theorem dX5_resize_46 : decode cX5_resize 46 = .ok (.invokestatic 35, 3) := by decide +kernel
theorem dX5_resize_49 : decode cX5_resize 49 = .ok (.invokestatic 41, 3) := by decide +kernel
theorem dX5_resize_52 : decode cX5_resize 52 = .ok (.istore 6, 2) := by decide +kernel
theorem dX5_resize_54 : decode cX5_resize 54 = .ok (.aload_n 0, 1) := by decide +kernel
theorem dX5_resize_55 : decode cX5_resize 55 = .ok (.iload 6, 2) := by decide +kernel
theorem dX5_resize_57 : decode cX5_resize 57 = .ok (.newarray .int, 2) := by decide +kernel
theorem dX5_resize_59 : decode cX5_resize 59 = .ok (.putfield 18, 3) := by decide +kernel
theorem dX5_resize_62 : decode cX5_resize 62 = .ok (.aload_n 0, 1) := by decide +kernel
theorem dX5_resize_63 : decode cX5_resize 63 = .ok (.iload 6, 2) := by decide +kernel
theorem dX5_resize_65 : decode cX5_resize 65 = .ok (.newarray .int, 2) := by decide +kernel
theorem dX5_resize_67 : decode cX5_resize 67 = .ok (.putfield 22, 3) := by decide +kernel
theorem dX5_resize_70 : decode cX5_resize 70 = .ok (.aload_n 0, 1) := by decide +kernel
theorem dX5_resize_71 : decode cX5_resize 71 = .ok (.iload 6, 2) := by decide +kernel
theorem dX5_resize_73 : decode cX5_resize 73 = .ok (.newarray .int, 2) := by decide +kernel
theorem dX5_resize_75 : decode cX5_resize 75 = .ok (.putfield 25, 3) := by decide +kernel
theorem dX5_resize_78 : decode cX5_resize 78 = .ok (.aload_n 0, 1) := by decide +kernel
theorem dX5_resize_79 : decode cX5_resize 79 = .ok (.getfield 18, 3) := by decide +kernel
theorem dX5_resize_82 : decode cX5_resize 82 = .ok (.iconst 0, 1) := by decide +kernel
theorem dX5_resize_83 : decode cX5_resize 83 = .ok (.invokestatic 44, 3) := by decide +kernel
theorem dX5_resize_86 : decode cX5_resize 86 = .ok (.return_, 1) := by decide +kernel
theorem dX5_holds_0 : decode cX5_holds 0 = .ok (.iload_n 1, 1) := by decide +kernel
theorem dX5_holds_1 : decode cX5_holds 1 = .ok (.ifCond .lt 27, 3) := by decide +kernel
theorem dX5_holds_4 : decode cX5_holds 4 = .ok (.iload_n 1, 1) := by decide +kernel
theorem dX5_holds_5 : decode cX5_holds 5 = .ok (.aload_n 0, 1) := by decide +kernel
theorem dX5_holds_6 : decode cX5_holds 6 = .ok (.getfield 11, 3) := by decide +kernel
theorem dX5_holds_9 : decode cX5_holds 9 = .ok (.if_icmp .ge 19, 3) := by decide +kernel
theorem dX5_holds_12 : decode cX5_holds 12 = .ok (.iload_n 2, 1) := by decide +kernel
theorem dX5_holds_13 : decode cX5_holds 13 = .ok (.ifCond .lt 15, 3) := by decide +kernel
theorem dX5_holds_16 : decode cX5_holds 16 = .ok (.iload_n 2, 1) := by decide +kernel
theorem dX5_holds_17 : decode cX5_holds 17 = .ok (.aload_n 0, 1) := by decide +kernel
theorem dX5_holds_18 : decode cX5_holds 18 = .ok (.getfield 15, 3) := by decide +kernel
theorem dX5_holds_21 : decode cX5_holds 21 = .ok (.if_icmp .ge 7, 3) := by decide +kernel
theorem dX5_holds_24 : decode cX5_holds 24 = .ok (.iconst 1, 1) := by decide +kernel
theorem dX5_holds_25 : decode cX5_holds 25 = .ok (.goto 4, 3) := by decide +kernel
theorem dX5_holds_28 : decode cX5_holds 28 = .ok (.iconst 0, 1) := by decide +kernel
theorem dX5_holds_29 : decode cX5_holds 29 = .ok (.ireturn, 1) := by decide +kernel
theorem dX5_place_0 : decode cX5_place 0 = .ok (.iload_n 2, 1) := by decide +kernel
theorem dX5_place_1 : decode cX5_place 1 = .ok (.aload_n 0, 1) := by decide +kernel
theorem dX5_place_2 : decode cX5_place 2 = .ok (.getfield 11, 3) := by decide +kernel
theorem dX5_place_5 : decode cX5_place 5 = .ok (.imul, 1) := by decide +kernel
theorem dX5_place_6 : decode cX5_place 6 = .ok (.iload_n 1, 1) := by decide +kernel
theorem dX5_place_7 : decode cX5_place 7 = .ok (.iadd, 1) := by decide +kernel
theorem dX5_place_8 : decode cX5_place 8 = .ok (.ireturn, 1) := by decide +kernel
set_option maxRecDepth 20000 in
theorem ggX5_planes_J6_numberOfLeadingZeros_0f7a4 : GoodIn wsX5_planes wsJ6_numberOfLeadingZeros_0f7a4 := goodIn_r _ [11, 12] (by decide +kernel) (by decide +kernel)
set_option maxRecDepth 20000 in
theorem gX5_planes_J6_numberOfLeadingZeros_0f7a4 : GoodIn wsX5_planes (va_wsS RX5 54 yJ6_numberOfLeadingZeros_0f7a4 wsJ6_numberOfLeadingZeros_0f7a4) := goodIn_app (goodIn_of _ (by decide +kernel)) ggX5_planes_J6_numberOfLeadingZeros_0f7a4
theorem dX5_planes_0 : decode cX5_planes 0 = .ok (.iconst 0, 1) := by decide +kernel
theorem dX5_planes_1 : decode cX5_planes 1 = .ok (.istore_n 1, 1) := by decide +kernel
theorem dX5_planes_2 : decode cX5_planes 2 = .ok (.iconst 0, 1) := by decide +kernel
theorem dX5_planes_3 : decode cX5_planes 3 = .ok (.istore_n 2, 1) := by decide +kernel
theorem dX5_planes_4 : decode cX5_planes 4 = .ok (.iload_n 2, 1) := by decide +kernel
theorem dX5_planes_5 : decode cX5_planes 5 = .ok (.aload_n 0, 1) := by decide +kernel
theorem dX5_planes_6 : decode cX5_planes 6 = .ok (.getfield 11, 3) := by decide +kernel
theorem dX5_planes_9 : decode cX5_planes 9 = .ok (.aload_n 0, 1) := by decide +kernel
theorem dX5_planes_10 : decode cX5_planes 10 = .ok (.getfield 15, 3) := by decide +kernel
theorem dX5_planes_13 : decode cX5_planes 13 = .ok (.imul, 1) := by decide +kernel
theorem dX5_planes_14 : decode cX5_planes 14 = .ok (.if_icmp .ge 21, 3) := by decide +kernel
theorem dX5_planes_17 : decode cX5_planes 17 = .ok (.iload_n 1, 1) := by decide +kernel
theorem dX5_planes_18 : decode cX5_planes 18 = .ok (.aload_n 0, 1) := by decide +kernel
theorem dX5_planes_19 : decode cX5_planes 19 = .ok (.getfield 18, 3) := by decide +kernel
theorem dX5_planes_22 : decode cX5_planes 22 = .ok (.iload_n 2, 1) := by decide +kernel
theorem dX5_planes_23 : decode cX5_planes 23 = .ok (.iaload, 1) := by decide +kernel
theorem dX5_planes_24 : decode cX5_planes 24 = .ok (.invokestatic 50, 3) := by decide +kernel
theorem dX5_planes_27 : decode cX5_planes 27 = .ok (.ior, 1) := by decide +kernel
theorem dX5_planes_28 : decode cX5_planes 28 = .ok (.istore_n 1, 1) := by decide +kernel
theorem dX5_planes_29 : decode cX5_planes 29 = .ok (.iinc 2 1, 3) := by decide +kernel
theorem dX5_planes_32 : decode cX5_planes 32 = .ok (.goto (-28), 3) := by decide +kernel
theorem dX5_planes_35 : decode cX5_planes 35 = .ok (.bipush 32, 2) := by decide +kernel
theorem dX5_planes_37 : decode cX5_planes 37 = .ok (.iload_n 1, 1) := by decide +kernel
theorem dX5_planes_38 : decode cX5_planes 38 = .ok (.invokestatic 54, 3) := by decide +kernel
theorem dX5_planes_41 : decode cX5_planes 41 = .ok (.isub, 1) := by decide +kernel
theorem dX5_planes_42 : decode cX5_planes 42 = .ok (.ireturn, 1) := by decide +kernel
set_option maxRecDepth 20000 in
theorem ggX5_forget_J7_fill_53178 : GoodIn wsX5_forget wsJ7_fill_53178 := goodIn_r _ [6] (by decide +kernel) (by decide +kernel)
set_option maxRecDepth 20000 in
theorem gX5_forget_J7_fill_53178 : GoodIn wsX5_forget (va_wsS RX5 44 yJ7_fill_53178 wsJ7_fill_53178) := goodIn_app (goodIn_of _ (by decide +kernel)) ggX5_forget_J7_fill_53178
theorem dX5_forget_0 : decode cX5_forget 0 = .ok (.aload_n 0, 1) := by decide +kernel
theorem dX5_forget_1 : decode cX5_forget 1 = .ok (.getfield 22, 3) := by decide +kernel
theorem dX5_forget_4 : decode cX5_forget 4 = .ok (.iconst 0, 1) := by decide +kernel
theorem dX5_forget_5 : decode cX5_forget 5 = .ok (.invokestatic 44, 3) := by decide +kernel
theorem dX5_forget_8 : decode cX5_forget 8 = .ok (.aload_n 0, 1) := by decide +kernel
theorem dX5_forget_9 : decode cX5_forget 9 = .ok (.getfield 25, 3) := by decide +kernel
theorem dX5_forget_12 : decode cX5_forget 12 = .ok (.iconst 0, 1) := by decide +kernel
theorem dX5_forget_13 : decode cX5_forget 13 = .ok (.invokestatic 44, 3) := by decide +kernel
theorem dX5_forget_16 : decode cX5_forget 16 = .ok (.return_, 1) := by decide +kernel
theorem dX5_forgetSeen_0 : decode cX5_forgetSeen 0 = .ok (.iconst 0, 1) := by decide +kernel
theorem dX5_forgetSeen_1 : decode cX5_forgetSeen 1 = .ok (.istore_n 1, 1) := by decide +kernel
theorem dX5_forgetSeen_2 : decode cX5_forgetSeen 2 = .ok (.iload_n 1, 1) := by decide +kernel
theorem dX5_forgetSeen_3 : decode cX5_forgetSeen 3 = .ok (.aload_n 0, 1) := by decide +kernel
theorem dX5_forgetSeen_4 : decode cX5_forgetSeen 4 = .ok (.getfield 11, 3) := by decide +kernel
theorem dX5_forgetSeen_7 : decode cX5_forgetSeen 7 = .ok (.aload_n 0, 1) := by decide +kernel
theorem dX5_forgetSeen_8 : decode cX5_forgetSeen 8 = .ok (.getfield 15, 3) := by decide +kernel
theorem dX5_forgetSeen_11 : decode cX5_forgetSeen 11 = .ok (.imul, 1) := by decide +kernel
theorem dX5_forgetSeen_12 : decode cX5_forgetSeen 12 = .ok (.if_icmp .ge 21, 3) := by decide +kernel
theorem dX5_forgetSeen_15 : decode cX5_forgetSeen 15 = .ok (.aload_n 0, 1) := by decide +kernel
theorem dX5_forgetSeen_16 : decode cX5_forgetSeen 16 = .ok (.getfield 25, 3) := by decide +kernel
theorem dX5_forgetSeen_19 : decode cX5_forgetSeen 19 = .ok (.iload_n 1, 1) := by decide +kernel
theorem dX5_forgetSeen_20 : decode cX5_forgetSeen 20 = .ok (.dup2, 1) := by decide +kernel
theorem dX5_forgetSeen_21 : decode cX5_forgetSeen 21 = .ok (.iaload, 1) := by decide +kernel
theorem dX5_forgetSeen_22 : decode cX5_forgetSeen 22 = .ok (.sipush (-8193), 3) := by decide +kernel
theorem dX5_forgetSeen_25 : decode cX5_forgetSeen 25 = .ok (.iand, 1) := by decide +kernel
theorem dX5_forgetSeen_26 : decode cX5_forgetSeen 26 = .ok (.iastore, 1) := by decide +kernel
theorem dX5_forgetSeen_27 : decode cX5_forgetSeen 27 = .ok (.iinc 1 1, 3) := by decide +kernel
theorem dX5_forgetSeen_30 : decode cX5_forgetSeen 30 = .ok (.goto (-28), 3) := by decide +kernel
theorem dX5_forgetSeen_33 : decode cX5_forgetSeen 33 = .ok (.return_, 1) := by decide +kernel
theorem dX5_bitOf_0 : decode cX5_bitOf 0 = .ok (.aload_n 0, 1) := by decide +kernel
theorem dX5_bitOf_1 : decode cX5_bitOf 1 = .ok (.getfield 18, 3) := by decide +kernel
theorem dX5_bitOf_4 : decode cX5_bitOf 4 = .ok (.iload_n 1, 1) := by decide +kernel
theorem dX5_bitOf_5 : decode cX5_bitOf 5 = .ok (.iaload, 1) := by decide +kernel
theorem dX5_bitOf_6 : decode cX5_bitOf 6 = .ok (.invokestatic 50, 3) := by decide +kernel
theorem dX5_bitOf_9 : decode cX5_bitOf 9 = .ok (.iload_n 2, 1) := by decide +kernel
theorem dX5_bitOf_10 : decode cX5_bitOf 10 = .ok (.ishr, 1) := by decide +kernel
theorem dX5_bitOf_11 : decode cX5_bitOf 11 = .ok (.iconst 1, 1) := by decide +kernel
theorem dX5_bitOf_12 : decode cX5_bitOf 12 = .ok (.iand, 1) := by decide +kernel
theorem dX5_bitOf_13 : decode cX5_bitOf 13 = .ok (.ireturn, 1) := by decide +kernel
theorem dX5_minusOf_0 : decode cX5_minusOf 0 = .ok (.aload_n 0, 1) := by decide +kernel
theorem dX5_minusOf_1 : decode cX5_minusOf 1 = .ok (.getfield 18, 3) := by decide +kernel
theorem dX5_minusOf_4 : decode cX5_minusOf 4 = .ok (.iload_n 1, 1) := by decide +kernel
theorem dX5_minusOf_5 : decode cX5_minusOf 5 = .ok (.iaload, 1) := by decide +kernel
theorem dX5_minusOf_6 : decode cX5_minusOf 6 = .ok (.ifCond .ge 7, 3) := by decide +kernel
theorem dX5_minusOf_9 : decode cX5_minusOf 9 = .ok (.iconst 1, 1) := by decide +kernel
theorem dX5_minusOf_10 : decode cX5_minusOf 10 = .ok (.goto 4, 3) := by decide +kernel
theorem dX5_minusOf_13 : decode cX5_minusOf 13 = .ok (.iconst 0, 1) := by decide +kernel
theorem dX5_minusOf_14 : decode cX5_minusOf 14 = .ok (.ireturn, 1) := by decide +kernel
theorem dX5_learn_0 : decode cX5_learn 0 = .ok (.aload_n 0, 1) := by decide +kernel
theorem dX5_learn_1 : decode cX5_learn 1 = .ok (.getfield 22, 3) := by decide +kernel
theorem dX5_learn_4 : decode cX5_learn 4 = .ok (.iload_n 1, 1) := by decide +kernel
theorem dX5_learn_5 : decode cX5_learn 5 = .ok (.dup2, 1) := by decide +kernel
theorem dX5_learn_6 : decode cX5_learn 6 = .ok (.iaload, 1) := by decide +kernel
theorem dX5_learn_7 : decode cX5_learn 7 = .ok (.iload_n 3, 1) := by decide +kernel
theorem dX5_learn_8 : decode cX5_learn 8 = .ok (.iload_n 2, 1) := by decide +kernel
theorem dX5_learn_9 : decode cX5_learn 9 = .ok (.ishl, 1) := by decide +kernel
theorem dX5_learn_10 : decode cX5_learn 10 = .ok (.ior, 1) := by decide +kernel
theorem dX5_learn_11 : decode cX5_learn 11 = .ok (.iastore, 1) := by decide +kernel
theorem dX5_learn_12 : decode cX5_learn 12 = .ok (.aload_n 0, 1) := by decide +kernel
theorem dX5_learn_13 : decode cX5_learn 13 = .ok (.getfield 25, 3) := by decide +kernel
theorem dX5_learn_16 : decode cX5_learn 16 = .ok (.iload_n 1, 1) := by decide +kernel
theorem dX5_learn_17 : decode cX5_learn 17 = .ok (.aload_n 0, 1) := by decide +kernel
theorem dX5_learn_18 : decode cX5_learn 18 = .ok (.getfield 25, 3) := by decide +kernel
theorem dX5_learn_21 : decode cX5_learn 21 = .ok (.iload_n 1, 1) := by decide +kernel
theorem dX5_learn_22 : decode cX5_learn 22 = .ok (.iaload, 1) := by decide +kernel
theorem dX5_learn_23 : decode cX5_learn 23 = .ok (.ldc 59, 2) := by decide +kernel
theorem dX5_learn_25 : decode cX5_learn 25 = .ok (.iand, 1) := by decide +kernel
theorem dX5_learn_26 : decode cX5_learn 26 = .ok (.iload_n 2, 1) := by decide +kernel
theorem dX5_learn_27 : decode cX5_learn 27 = .ok (.bipush 16, 2) := by decide +kernel
theorem dX5_learn_29 : decode cX5_learn 29 = .ok (.ishl, 1) := by decide +kernel
theorem dX5_learn_30 : decode cX5_learn 30 = .ok (.ior, 1) := by decide +kernel
theorem dX5_learn_31 : decode cX5_learn 31 = .ok (.iastore, 1) := by decide +kernel
theorem dX5_learn_32 : decode cX5_learn 32 = .ok (.return_, 1) := by decide +kernel
set_option maxRecDepth 20000 in
theorem ggX5_lack_X5_valueOf : GoodIn wsX5_lack wsX5_valueOf := goodIn_r _ [10, 11, 12, 13, 14, 15, 16, 17, 18, 19, 20] (by decide +kernel) (by decide +kernel)
set_option maxRecDepth 20000 in
theorem gX5_lack_X5_valueOf : GoodIn wsX5_lack (wsV RX5 60 RX5 yX5_valueOf wsX5_valueOf) := goodIn_app (goodIn_of _ (by decide +kernel)) ggX5_lack_X5_valueOf
theorem dX5_lack_0 : decode cX5_lack 0 = .ok (.aload_n 0, 1) := by decide +kernel
theorem dX5_lack_1 : decode cX5_lack 1 = .ok (.getfield 18, 3) := by decide +kernel
theorem dX5_lack_4 : decode cX5_lack 4 = .ok (.iload_n 1, 1) := by decide +kernel
theorem dX5_lack_5 : decode cX5_lack 5 = .ok (.iaload, 1) := by decide +kernel
theorem dX5_lack_6 : decode cX5_lack 6 = .ok (.invokestatic 50, 3) := by decide +kernel
theorem dX5_lack_9 : decode cX5_lack 9 = .ok (.i2l, 1) := by decide +kernel
theorem dX5_lack_10 : decode cX5_lack 10 = .ok (.aload_n 0, 1) := by decide +kernel
theorem dX5_lack_11 : decode cX5_lack 11 = .ok (.iload_n 1, 1) := by decide +kernel
theorem dX5_lack_12 : decode cX5_lack 12 = .ok (.invokevirtual 60, 3) := by decide +kernel
theorem dX5_lack_15 : decode cX5_lack 15 = .ok (.invokestatic 50, 3) := by decide +kernel
theorem dX5_lack_18 : decode cX5_lack 18 = .ok (.i2l, 1) := by decide +kernel
theorem dX5_lack_19 : decode cX5_lack 19 = .ok (.lsub, 1) := by decide +kernel
theorem dX5_lack_20 : decode cX5_lack 20 = .ok (.lstore_n 2, 1) := by decide +kernel
theorem dX5_lack_21 : decode cX5_lack 21 = .ok (.lload_n 2, 1) := by decide +kernel
theorem dX5_lack_22 : decode cX5_lack 22 = .ok (.lload_n 2, 1) := by decide +kernel
theorem dX5_lack_23 : decode cX5_lack 23 = .ok (.lmul, 1) := by decide +kernel
theorem dX5_lack_24 : decode cX5_lack 24 = .ok (.lreturn, 1) := by decide +kernel
theorem dX5_valueOf_0 : decode cX5_valueOf 0 = .ok (.aload_n 0, 1) := by decide +kernel
theorem dX5_valueOf_1 : decode cX5_valueOf 1 = .ok (.getfield 25, 3) := by decide +kernel
theorem dX5_valueOf_4 : decode cX5_valueOf 4 = .ok (.iload_n 1, 1) := by decide +kernel
theorem dX5_valueOf_5 : decode cX5_valueOf 5 = .ok (.iaload, 1) := by decide +kernel
theorem dX5_valueOf_6 : decode cX5_valueOf 6 = .ok (.istore_n 2, 1) := by decide +kernel
theorem dX5_valueOf_7 : decode cX5_valueOf 7 = .ok (.iload_n 2, 1) := by decide +kernel
theorem dX5_valueOf_8 : decode cX5_valueOf 8 = .ok (.sipush 2048, 3) := by decide +kernel
theorem dX5_valueOf_11 : decode cX5_valueOf 11 = .ok (.iand, 1) := by decide +kernel
theorem dX5_valueOf_12 : decode cX5_valueOf 12 = .ok (.ifCond .ne 5, 3) := by decide +kernel
theorem dX5_valueOf_15 : decode cX5_valueOf 15 = .ok (.iconst 0, 1) := by decide +kernel
theorem dX5_valueOf_16 : decode cX5_valueOf 16 = .ok (.ireturn, 1) := by decide +kernel
theorem dX5_valueOf_17 : decode cX5_valueOf 17 = .ok (.aload_n 0, 1) := by decide +kernel
theorem dX5_valueOf_18 : decode cX5_valueOf 18 = .ok (.getfield 22, 3) := by decide +kernel
theorem dX5_valueOf_21 : decode cX5_valueOf 21 = .ok (.iload_n 1, 1) := by decide +kernel
