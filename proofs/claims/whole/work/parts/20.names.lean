theorem dX11_codeSign_46 : decode cX11_codeSign 46 = .ok (.iload 5, 2) := by decide +kernel
theorem dX11_codeSign_48 : decode cX11_codeSign 48 = .ok (.ifCond .ge 7, 3) := by decide +kernel
theorem dX11_codeSign_51 : decode cX11_codeSign 51 = .ok (.iconst 1, 1) := by decide +kernel
theorem dX11_codeSign_52 : decode cX11_codeSign 52 = .ok (.goto 4, 3) := by decide +kernel
theorem dX11_codeSign_55 : decode cX11_codeSign 55 = .ok (.iconst 0, 1) := by decide +kernel
theorem dX11_codeSign_56 : decode cX11_codeSign 56 = .ok (.istore 6, 2) := by decide +kernel
theorem dX11_codeSign_58 : decode cX11_codeSign 58 = .ok (.iload 6, 2) := by decide +kernel
theorem dX11_codeSign_60 : decode cX11_codeSign 60 = .ok (.iconst 1, 1) := by decide +kernel
theorem dX11_codeSign_61 : decode cX11_codeSign 61 = .ok (.if_icmp .ne 16, 3) := by decide +kernel
theorem dX11_codeSign_64 : decode cX11_codeSign 64 = .ok (.bipush 9, 2) := by decide +kernel
theorem dX11_codeSign_66 : decode cX11_codeSign 66 = .ok (.iconst 3, 1) := by decide +kernel
theorem dX11_codeSign_67 : decode cX11_codeSign 67 = .ok (.iload 4, 2) := by decide +kernel
theorem dX11_codeSign_69 : decode cX11_codeSign 69 = .ok (.imul, 1) := by decide +kernel
theorem dX11_codeSign_70 : decode cX11_codeSign 70 = .ok (.isub, 1) := by decide +kernel
theorem dX11_codeSign_71 : decode cX11_codeSign 71 = .ok (.iload 5, 2) := by decide +kernel
theorem dX11_codeSign_73 : decode cX11_codeSign 73 = .ok (.isub, 1) := by decide +kernel
theorem dX11_codeSign_74 : decode cX11_codeSign 74 = .ok (.goto 13, 3) := by decide +kernel
theorem dX11_codeSign_77 : decode cX11_codeSign 77 = .ok (.bipush 9, 2) := by decide +kernel
theorem dX11_codeSign_79 : decode cX11_codeSign 79 = .ok (.iconst 3, 1) := by decide +kernel
theorem dX11_codeSign_80 : decode cX11_codeSign 80 = .ok (.iload 4, 2) := by decide +kernel
theorem dX11_codeSign_82 : decode cX11_codeSign 82 = .ok (.imul, 1) := by decide +kernel
theorem dX11_codeSign_83 : decode cX11_codeSign 83 = .ok (.iadd, 1) := by decide +kernel
theorem dX11_codeSign_84 : decode cX11_codeSign 84 = .ok (.iload 5, 2) := by decide +kernel
theorem dX11_codeSign_86 : decode cX11_codeSign 86 = .ok (.iadd, 1) := by decide +kernel
theorem dX11_codeSign_87 : decode cX11_codeSign 87 = .ok (.istore 7, 2) := by decide +kernel
theorem dX11_codeSign_89 : decode cX11_codeSign 89 = .ok (.aload_n 0, 1) := by decide +kernel
theorem dX11_codeSign_90 : decode cX11_codeSign 90 = .ok (.iload 7, 2) := by decide +kernel
theorem dX11_codeSign_92 : decode cX11_codeSign 92 = .ok (.aload_n 0, 1) := by decide +kernel
theorem dX11_codeSign_93 : decode cX11_codeSign 93 = .ok (.getfield 26, 3) := by decide +kernel
theorem dX11_codeSign_96 : decode cX11_codeSign 96 = .ok (.iload_n 3, 1) := by decide +kernel
theorem dX11_codeSign_97 : decode cX11_codeSign 97 = .ok (.baload, 1) := by decide +kernel
theorem dX11_codeSign_98 : decode cX11_codeSign 98 = .ok (.ifCond .eq 7, 3) := by decide +kernel
theorem dX11_codeSign_101 : decode cX11_codeSign 101 = .ok (.iconst 1, 1) := by decide +kernel
theorem dX11_codeSign_102 : decode cX11_codeSign 102 = .ok (.goto 4, 3) := by decide +kernel
theorem dX11_codeSign_105 : decode cX11_codeSign 105 = .ok (.iconst 0, 1) := by decide +kernel
theorem dX11_codeSign_106 : decode cX11_codeSign 106 = .ok (.iload 6, 2) := by decide +kernel
theorem dX11_codeSign_108 : decode cX11_codeSign 108 = .ok (.ixor, 1) := by decide +kernel
theorem dX11_codeSign_109 : decode cX11_codeSign 109 = .ok (.invokevirtual 186, 3) := by decide +kernel
theorem dX11_codeSign_112 : decode cX11_codeSign 112 = .ok (.iload 6, 2) := by decide +kernel
theorem dX11_codeSign_114 : decode cX11_codeSign 114 = .ok (.ixor, 1) := by decide +kernel
theorem dX11_codeSign_115 : decode cX11_codeSign 115 = .ok (.istore 8, 2) := by decide +kernel
theorem dX11_codeSign_117 : decode cX11_codeSign 117 = .ok (.aload_n 0, 1) := by decide +kernel
theorem dX11_codeSign_118 : decode cX11_codeSign 118 = .ok (.getfield 49, 3) := by decide +kernel
theorem dX11_codeSign_121 : decode cX11_codeSign 121 = .ok (.iload_n 3, 1) := by decide +kernel
theorem dX11_codeSign_122 : decode cX11_codeSign 122 = .ok (.iload 8, 2) := by decide +kernel
theorem dX11_codeSign_124 : decode cX11_codeSign 124 = .ok (.iconst 1, 1) := by decide +kernel
theorem dX11_codeSign_125 : decode cX11_codeSign 125 = .ok (.if_icmp .ne 7, 3) := by decide +kernel
theorem dX11_codeSign_128 : decode cX11_codeSign 128 = .ok (.iconst 1, 1) := by decide +kernel
theorem dX11_codeSign_129 : decode cX11_codeSign 129 = .ok (.goto 4, 3) := by decide +kernel
theorem dX11_codeSign_132 : decode cX11_codeSign 132 = .ok (.iconst 0, 1) := by decide +kernel
theorem dX11_codeSign_133 : decode cX11_codeSign 133 = .ok (.bastore, 1) := by decide +kernel
theorem dX11_codeSign_134 : decode cX11_codeSign 134 = .ok (.aload_n 0, 1) := by decide +kernel
theorem dX11_codeSign_135 : decode cX11_codeSign 135 = .ok (.getfield 46, 3) := by decide +kernel
theorem dX11_codeSign_138 : decode cX11_codeSign 138 = .ok (.iload_n 3, 1) := by decide +kernel
theorem dX11_codeSign_139 : decode cX11_codeSign 139 = .ok (.iconst 1, 1) := by decide +kernel
theorem dX11_codeSign_140 : decode cX11_codeSign 140 = .ok (.aload_n 0, 1) := by decide +kernel
theorem dX11_codeSign_141 : decode cX11_codeSign 141 = .ok (.getfield 190, 3) := by decide +kernel
theorem dX11_codeSign_144 : decode cX11_codeSign 144 = .ok (.ishl, 1) := by decide +kernel
theorem dX11_codeSign_145 : decode cX11_codeSign 145 = .ok (.iastore, 1) := by decide +kernel
theorem dX11_codeSign_146 : decode cX11_codeSign 146 = .ok (.aload_n 0, 1) := by decide +kernel
theorem dX11_codeSign_147 : decode cX11_codeSign 147 = .ok (.getfield 52, 3) := by decide +kernel
theorem dX11_codeSign_150 : decode cX11_codeSign 150 = .ok (.iload_n 3, 1) := by decide +kernel
theorem dX11_codeSign_151 : decode cX11_codeSign 151 = .ok (.aload_n 0, 1) := by decide +kernel
theorem dX11_codeSign_152 : decode cX11_codeSign 152 = .ok (.getfield 190, 3) := by decide +kernel
theorem dX11_codeSign_155 : decode cX11_codeSign 155 = .ok (.iastore, 1) := by decide +kernel
theorem dX11_codeSign_156 : decode cX11_codeSign 156 = .ok (.return_, 1) := by decide +kernel
theorem dX11_bitOf_0 : decode cX11_bitOf 0 = .ok (.aload_n 0, 1) := by decide +kernel
theorem dX11_bitOf_1 : decode cX11_bitOf 1 = .ok (.getfield 23, 3) := by decide +kernel
theorem dX11_bitOf_4 : decode cX11_bitOf 4 = .ok (.iload_n 1, 1) := by decide +kernel
theorem dX11_bitOf_5 : decode cX11_bitOf 5 = .ok (.iaload, 1) := by decide +kernel
theorem dX11_bitOf_6 : decode cX11_bitOf 6 = .ok (.aload_n 0, 1) := by decide +kernel
theorem dX11_bitOf_7 : decode cX11_bitOf 7 = .ok (.getfield 190, 3) := by decide +kernel
theorem dX11_bitOf_10 : decode cX11_bitOf 10 = .ok (.ishr, 1) := by decide +kernel
theorem dX11_bitOf_11 : decode cX11_bitOf 11 = .ok (.iconst 1, 1) := by decide +kernel
theorem dX11_bitOf_12 : decode cX11_bitOf 12 = .ok (.iand, 1) := by decide +kernel
theorem dX11_bitOf_13 : decode cX11_bitOf 13 = .ok (.ireturn, 1) := by decide +kernel
set_option maxRecDepth 20000 in
theorem ggX11_codeZero_X11_bitOf : GoodIn wsX11_codeZero wsX11_bitOf := goodIn_r _ [6, 7, 8, 101, 102, 103, 104, 105, 106, 107, 108, 109, 110, 111, 112, 113, 114, 115, 116, 117, 118, 119, 120, 121, 122, 123, 124, 125, 126, 127, 128, 129, 130, 131, 132, 133, 134, 135, 136, 137, 138, 139, 140, 141, 142] (by decide +kernel) (by decide +kernel)
set_option maxRecDepth 20000 in
theorem gX11_codeZero_X11_bitOf : GoodIn wsX11_codeZero (wsV RX11 193 RX11 yX11_bitOf wsX11_bitOf) := goodIn_app (goodIn_of _ (by decide +kernel)) ggX11_codeZero_X11_bitOf
set_option maxRecDepth 20000 in
theorem ggX11_codeZero_X11_code : GoodIn wsX11_codeZero wsX11_code := goodIn_r _ [12, 13, 14, 15, 16, 17, 5, 18, 19, 20, 21, 22, 23, 24, 25, 26, 27, 28, 29, 30, 31, 32, 33, 34, 35, 36, 37, 38, 39, 40, 41, 42, 43, 44, 45, 46, 47, 48, 49, 50, 51, 52, 53, 54, 55, 56, 57, 58, 59, 60, 61, 62, 63, 64, 65, 66, 67, 68, 69, 70, 71, 72, 73, 74, 75, 76, 77, 78, 79, 80, 81, 82, 101, 102, 103, 104, 105, 106, 107, 108, 109, 110, 111, 112, 113, 114, 115, 116, 117, 118, 119, 120, 121, 122, 123, 124, 125, 126, 127, 128, 129, 130, 131, 132, 133, 134, 135, 136, 137, 138, 139, 140, 141, 142] (by decide +kernel) (by decide +kernel)
set_option maxRecDepth 20000 in
theorem gX11_codeZero_X11_code : GoodIn wsX11_codeZero (wsV RX11 186 RX11 yX11_code wsX11_code) := goodIn_app (goodIn_of _ (by decide +kernel)) ggX11_codeZero_X11_code
set_option maxRecDepth 20000 in
theorem ggX11_codeZero_X11_codeSign : GoodIn wsX11_codeZero wsX11_codeSign := goodIn_r _ [86, 1, 14, 87, 88, 89, 8, 90, 91, 92, 93, 5, 94, 95, 96, 97, 98, 99, 100, 9, 10, 11, 12, 13, 15, 16, 17, 18, 19, 20, 21, 22, 23, 24, 25, 26, 27, 28, 29, 30, 31, 32, 33, 34, 35, 36, 37, 38, 39, 40, 41, 42, 43, 44, 45, 46, 47, 48, 49, 50, 51, 52, 53, 54, 55, 56, 57, 58, 59, 60, 61, 62, 63, 64, 65, 66, 67, 68, 69, 70, 71, 72, 73, 74, 75, 76, 77, 78, 79, 80, 81, 82, 101, 102, 103, 104, 105, 106, 107, 108, 109, 110, 111, 112, 113, 114, 115, 116, 117, 118, 119, 120, 121, 122, 123, 124, 125, 126, 127, 128, 129, 130, 131, 132, 133, 134, 135, 136, 137, 138, 139, 140, 141, 142] (by decide +kernel) (by decide +kernel)
set_option maxRecDepth 20000 in
theorem gX11_codeZero_X11_codeSign : GoodIn wsX11_codeZero (wsV RX11 196 RX11 yX11_codeSign wsX11_codeSign) := goodIn_app (goodIn_of _ (by decide +kernel)) ggX11_codeZero_X11_codeSign
theorem dX11_codeZero_0 : decode cX11_codeZero 0 = .ok (.aload_n 0, 1) := by decide +kernel
theorem dX11_codeZero_1 : decode cX11_codeZero 1 = .ok (.iload_n 3, 1) := by decide +kernel
theorem dX11_codeZero_2 : decode cX11_codeZero 2 = .ok (.aload_n 0, 1) := by decide +kernel
theorem dX11_codeZero_3 : decode cX11_codeZero 3 = .ok (.iload_n 2, 1) := by decide +kernel
theorem dX11_codeZero_4 : decode cX11_codeZero 4 = .ok (.aload_n 0, 1) := by decide +kernel
theorem dX11_codeZero_5 : decode cX11_codeZero 5 = .ok (.getfield 16, 3) := by decide +kernel
theorem dX11_codeZero_8 : decode cX11_codeZero 8 = .ok (.imul, 1) := by decide +kernel
theorem dX11_codeZero_9 : decode cX11_codeZero 9 = .ok (.iload_n 1, 1) := by decide +kernel
theorem dX11_codeZero_10 : decode cX11_codeZero 10 = .ok (.iadd, 1) := by decide +kernel
theorem dX11_codeZero_11 : decode cX11_codeZero 11 = .ok (.invokevirtual 193, 3) := by decide +kernel
theorem dX11_codeZero_14 : decode cX11_codeZero 14 = .ok (.invokevirtual 186, 3) := by decide +kernel
theorem dX11_codeZero_17 : decode cX11_codeZero 17 = .ok (.iconst 1, 1) := by decide +kernel
theorem dX11_codeZero_18 : decode cX11_codeZero 18 = .ok (.if_icmp .ne 9, 3) := by decide +kernel
theorem dX11_codeZero_21 : decode cX11_codeZero 21 = .ok (.aload_n 0, 1) := by decide +kernel
theorem dX11_codeZero_22 : decode cX11_codeZero 22 = .ok (.iload_n 1, 1) := by decide +kernel
theorem dX11_codeZero_23 : decode cX11_codeZero 23 = .ok (.iload_n 2, 1) := by decide +kernel
theorem dX11_codeZero_24 : decode cX11_codeZero 24 = .ok (.invokevirtual 196, 3) := by decide +kernel
theorem dX11_codeZero_27 : decode cX11_codeZero 27 = .ok (.return_, 1) := by decide +kernel
set_option maxRecDepth 20000 in
theorem ggX11_codeAgain_X11_many : GoodIn wsX11_codeAgain wsX11_many := goodIn_r _ [10, 11, 12, 13, 9, 14, 1, 15, 16, 2, 17, 97, 98, 99, 100, 101, 102, 103, 104, 105, 106, 107, 108, 109, 110, 111, 112, 113, 114, 115, 116, 117, 118, 119, 120, 121, 122, 123, 124, 125, 126, 127, 128, 129, 130, 131, 132, 133, 134, 135, 136, 137, 138] (by decide +kernel) (by decide +kernel)
set_option maxRecDepth 20000 in
theorem gX11_codeAgain_X11_many : GoodIn wsX11_codeAgain (wsV RX11 176 RX11 yX11_many wsX11_many) := goodIn_app (goodIn_of _ (by decide +kernel)) ggX11_codeAgain_X11_many
set_option maxRecDepth 20000 in
theorem ggX11_codeAgain_X11_bitOf : GoodIn wsX11_codeAgain wsX11_bitOf := goodIn_r _ [21, 22, 4, 97, 98, 99, 100, 101, 102, 103, 104, 105, 106, 107, 108, 109, 110, 111, 112, 113, 114, 115, 116, 117, 118, 119, 120, 121, 122, 123, 124, 125, 126, 127, 128, 129, 130, 131, 132, 133, 134, 135, 136, 137, 138] (by decide +kernel) (by decide +kernel)
set_option maxRecDepth 20000 in
theorem gX11_codeAgain_X11_bitOf : GoodIn wsX11_codeAgain (wsV RX11 193 RX11 yX11_bitOf wsX11_bitOf) := goodIn_app (goodIn_of _ (by decide +kernel)) ggX11_codeAgain_X11_bitOf
set_option maxRecDepth 20000 in
theorem ggX11_codeAgain_X11_code : GoodIn wsX11_codeAgain wsX11_code := goodIn_r _ [26, 27, 28, 29, 30, 31, 9, 32, 33, 34, 35, 36, 37, 38, 39, 40, 41, 42, 43, 44, 45, 46, 47, 48, 49, 50, 51, 52, 53, 54, 55, 56, 57, 58, 59, 60, 61, 62, 63, 64, 65, 66, 67, 68, 69, 70, 71, 72, 73, 74, 75, 76, 77, 78, 79, 80, 81, 82, 83, 84, 85, 86, 87, 88, 89, 90, 91, 92, 93, 94, 95, 96, 97, 98, 99, 100, 101, 102, 103, 104, 105, 106, 107, 108, 109, 110, 111, 112, 113, 114, 115, 116, 117, 118, 119, 120, 121, 122, 123, 124, 125, 126, 127, 128, 129, 130, 131, 132, 133, 134, 135, 136, 137, 138] (by decide +kernel) (by decide +kernel)
set_option maxRecDepth 20000 in
theorem gX11_codeAgain_X11_code : GoodIn wsX11_codeAgain (wsV RX11 186 RX11 yX11_code wsX11_code) := goodIn_app (goodIn_of _ (by decide +kernel)) ggX11_codeAgain_X11_code
theorem dX11_codeAgain_0 : decode cX11_codeAgain 0 = .ok (.iload_n 2, 1) := by decide +kernel
theorem dX11_codeAgain_1 : decode cX11_codeAgain 1 = .ok (.aload_n 0, 1) := by decide +kernel
theorem dX11_codeAgain_2 : decode cX11_codeAgain 2 = .ok (.getfield 16, 3) := by decide +kernel
theorem dX11_codeAgain_5 : decode cX11_codeAgain 5 = .ok (.imul, 1) := by decide +kernel
theorem dX11_codeAgain_6 : decode cX11_codeAgain 6 = .ok (.iload_n 1, 1) := by decide +kernel
theorem dX11_codeAgain_7 : decode cX11_codeAgain 7 = .ok (.iadd, 1) := by decide +kernel
theorem dX11_codeAgain_8 : decode cX11_codeAgain 8 = .ok (.istore_n 3, 1) := by decide +kernel
theorem dX11_codeAgain_9 : decode cX11_codeAgain 9 = .ok (.aload_n 0, 1) := by decide +kernel
theorem dX11_codeAgain_10 : decode cX11_codeAgain 10 = .ok (.iload_n 1, 1) := by decide +kernel
theorem dX11_codeAgain_11 : decode cX11_codeAgain 11 = .ok (.iload_n 2, 1) := by decide +kernel
theorem dX11_codeAgain_12 : decode cX11_codeAgain 12 = .ok (.iconst 1, 1) := by decide +kernel
theorem dX11_codeAgain_13 : decode cX11_codeAgain 13 = .ok (.iconst 0, 1) := by decide +kernel
theorem dX11_codeAgain_14 : decode cX11_codeAgain 14 = .ok (.invokevirtual 176, 3) := by decide +kernel
theorem dX11_codeAgain_17 : decode cX11_codeAgain 17 = .ok (.aload_n 0, 1) := by decide +kernel
theorem dX11_codeAgain_18 : decode cX11_codeAgain 18 = .ok (.iload_n 1, 1) := by decide +kernel
theorem dX11_codeAgain_19 : decode cX11_codeAgain 19 = .ok (.iload_n 2, 1) := by decide +kernel
theorem dX11_codeAgain_20 : decode cX11_codeAgain 20 = .ok (.iconst 0, 1) := by decide +kernel
theorem dX11_codeAgain_21 : decode cX11_codeAgain 21 = .ok (.iconst 1, 1) := by decide +kernel
theorem dX11_codeAgain_22 : decode cX11_codeAgain 22 = .ok (.invokevirtual 176, 3) := by decide +kernel
theorem dX11_codeAgain_25 : decode cX11_codeAgain 25 = .ok (.iadd, 1) := by decide +kernel
theorem dX11_codeAgain_26 : decode cX11_codeAgain 26 = .ok (.aload_n 0, 1) := by decide +kernel
theorem dX11_codeAgain_27 : decode cX11_codeAgain 27 = .ok (.iload_n 1, 1) := by decide +kernel
theorem dX11_codeAgain_28 : decode cX11_codeAgain 28 = .ok (.iload_n 2, 1) := by decide +kernel
theorem dX11_codeAgain_29 : decode cX11_codeAgain 29 = .ok (.iconst 1, 1) := by decide +kernel
theorem dX11_codeAgain_30 : decode cX11_codeAgain 30 = .ok (.iconst 1, 1) := by decide +kernel
theorem dX11_codeAgain_31 : decode cX11_codeAgain 31 = .ok (.invokevirtual 176, 3) := by decide +kernel
theorem dX11_codeAgain_34 : decode cX11_codeAgain 34 = .ok (.iadd, 1) := by decide +kernel
theorem dX11_codeAgain_35 : decode cX11_codeAgain 35 = .ok (.aload_n 0, 1) := by decide +kernel
theorem dX11_codeAgain_36 : decode cX11_codeAgain 36 = .ok (.iload_n 1, 1) := by decide +kernel
theorem dX11_codeAgain_37 : decode cX11_codeAgain 37 = .ok (.iload_n 2, 1) := by decide +kernel
theorem dX11_codeAgain_38 : decode cX11_codeAgain 38 = .ok (.iconst 1, 1) := by decide +kernel
theorem dX11_codeAgain_39 : decode cX11_codeAgain 39 = .ok (.iconst (-1), 1) := by decide +kernel
theorem dX11_codeAgain_40 : decode cX11_codeAgain 40 = .ok (.invokevirtual 176, 3) := by decide +kernel
theorem dX11_codeAgain_43 : decode cX11_codeAgain 43 = .ok (.iadd, 1) := by decide +kernel
theorem dX11_codeAgain_44 : decode cX11_codeAgain 44 = .ok (.istore 4, 2) := by decide +kernel
theorem dX11_codeAgain_46 : decode cX11_codeAgain 46 = .ok (.aload_n 0, 1) := by decide +kernel
theorem dX11_codeAgain_47 : decode cX11_codeAgain 47 = .ok (.getfield 46, 3) := by decide +kernel
theorem dX11_codeAgain_50 : decode cX11_codeAgain 50 = .ok (.iload_n 3, 1) := by decide +kernel
theorem dX11_codeAgain_51 : decode cX11_codeAgain 51 = .ok (.aload_n 0, 1) := by decide +kernel
theorem dX11_codeAgain_52 : decode cX11_codeAgain 52 = .ok (.getfield 46, 3) := by decide +kernel
theorem dX11_codeAgain_55 : decode cX11_codeAgain 55 = .ok (.iload_n 3, 1) := by decide +kernel
theorem dX11_codeAgain_56 : decode cX11_codeAgain 56 = .ok (.iaload, 1) := by decide +kernel
theorem dX11_codeAgain_57 : decode cX11_codeAgain 57 = .ok (.aload_n 0, 1) := by decide +kernel
theorem dX11_codeAgain_58 : decode cX11_codeAgain 58 = .ok (.aload_n 0, 1) := by decide +kernel
theorem dX11_codeAgain_59 : decode cX11_codeAgain 59 = .ok (.getfield 58, 3) := by decide +kernel
theorem dX11_codeAgain_62 : decode cX11_codeAgain 62 = .ok (.iload_n 3, 1) := by decide +kernel
theorem dX11_codeAgain_63 : decode cX11_codeAgain 63 = .ok (.baload, 1) := by decide +kernel
theorem dX11_codeAgain_64 : decode cX11_codeAgain 64 = .ok (.ifCond .eq 8, 3) := by decide +kernel
theorem dX11_codeAgain_67 : decode cX11_codeAgain 67 = .ok (.bipush 16, 2) := by decide +kernel
theorem dX11_codeAgain_69 : decode cX11_codeAgain 69 = .ok (.goto 15, 3) := by decide +kernel
theorem dX11_codeAgain_72 : decode cX11_codeAgain 72 = .ok (.iload 4, 2) := by decide +kernel
theorem dX11_codeAgain_74 : decode cX11_codeAgain 74 = .ok (.ifCond .le 8, 3) := by decide +kernel
theorem dX11_codeAgain_77 : decode cX11_codeAgain 77 = .ok (.bipush 15, 2) := by decide +kernel
theorem dX11_codeAgain_79 : decode cX11_codeAgain 79 = .ok (.goto 5, 3) := by decide +kernel
theorem dX11_codeAgain_82 : decode cX11_codeAgain 82 = .ok (.bipush 14, 2) := by decide +kernel
theorem dX11_codeAgain_84 : decode cX11_codeAgain 84 = .ok (.aload_n 0, 1) := by decide +kernel
theorem dX11_codeAgain_85 : decode cX11_codeAgain 85 = .ok (.iload_n 3, 1) := by decide +kernel
theorem dX11_codeAgain_86 : decode cX11_codeAgain 86 = .ok (.invokevirtual 193, 3) := by decide +kernel
theorem dX11_codeAgain_89 : decode cX11_codeAgain 89 = .ok (.invokevirtual 186, 3) := by decide +kernel
theorem dX11_codeAgain_92 : decode cX11_codeAgain 92 = .ok (.aload_n 0, 1) := by decide +kernel
theorem dX11_codeAgain_93 : decode cX11_codeAgain 93 = .ok (.getfield 190, 3) := by decide +kernel
theorem dX11_codeAgain_96 : decode cX11_codeAgain 96 = .ok (.ishl, 1) := by decide +kernel
theorem dX11_codeAgain_97 : decode cX11_codeAgain 97 = .ok (.ior, 1) := by decide +kernel
theorem dX11_codeAgain_98 : decode cX11_codeAgain 98 = .ok (.iastore, 1) := by decide +kernel
theorem dX11_codeAgain_99 : decode cX11_codeAgain 99 = .ok (.aload_n 0, 1) := by decide +kernel
theorem dX11_codeAgain_100 : decode cX11_codeAgain 100 = .ok (.getfield 52, 3) := by decide +kernel
theorem dX11_codeAgain_103 : decode cX11_codeAgain 103 = .ok (.iload_n 3, 1) := by decide +kernel
theorem dX11_codeAgain_104 : decode cX11_codeAgain 104 = .ok (.aload_n 0, 1) := by decide +kernel
theorem dX11_codeAgain_105 : decode cX11_codeAgain 105 = .ok (.getfield 190, 3) := by decide +kernel
theorem dX11_codeAgain_108 : decode cX11_codeAgain 108 = .ok (.iastore, 1) := by decide +kernel
theorem dX11_codeAgain_109 : decode cX11_codeAgain 109 = .ok (.aload_n 0, 1) := by decide +kernel
theorem dX11_codeAgain_110 : decode cX11_codeAgain 110 = .ok (.getfield 58, 3) := by decide +kernel
theorem dX11_codeAgain_113 : decode cX11_codeAgain 113 = .ok (.iload_n 3, 1) := by decide +kernel
theorem dX11_codeAgain_114 : decode cX11_codeAgain 114 = .ok (.iconst 1, 1) := by decide +kernel
theorem dX11_codeAgain_115 : decode cX11_codeAgain 115 = .ok (.bastore, 1) := by decide +kernel
theorem dX11_codeAgain_116 : decode cX11_codeAgain 116 = .ok (.return_, 1) := by decide +kernel
set_option maxRecDepth 20000 in
theorem ggX11_isQuiet_X11_zeroContext : GoodIn wsX11_isQuiet wsX11_zeroContext := goodIn_r _ [10, 11, 12, 13, 14, 9, 15, 16, 17, 18, 19, 3, 1, 20, 2, 21, 22, 23, 24, 25, 26, 27, 28, 29, 30, 31, 32, 33, 34, 35, 36, 37, 38, 39, 40, 41, 42, 43, 44, 45, 46, 47, 48, 49, 50, 51, 52, 53, 54, 55, 56, 57, 58, 59, 60, 61, 62, 63] (by decide +kernel) (by decide +kernel)
set_option maxRecDepth 20000 in
theorem gX11_isQuiet_X11_zeroContext : GoodIn wsX11_isQuiet (wsV RX11 199 RX11 yX11_zeroContext wsX11_zeroContext) := goodIn_app (goodIn_of _ (by decide +kernel)) ggX11_isQuiet_X11_zeroContext
theorem dX11_isQuiet_0 : decode cX11_isQuiet 0 = .ok (.iload_n 2, 1) := by decide +kernel
theorem dX11_isQuiet_1 : decode cX11_isQuiet 1 = .ok (.iconst 4, 1) := by decide +kernel
theorem dX11_isQuiet_2 : decode cX11_isQuiet 2 = .ok (.iadd, 1) := by decide +kernel
theorem dX11_isQuiet_3 : decode cX11_isQuiet 3 = .ok (.aload_n 0, 1) := by decide +kernel
theorem dX11_isQuiet_4 : decode cX11_isQuiet 4 = .ok (.getfield 20, 3) := by decide +kernel
theorem dX11_isQuiet_7 : decode cX11_isQuiet 7 = .ok (.if_icmp .gt 7, 3) := by decide +kernel
theorem dX11_isQuiet_10 : decode cX11_isQuiet 10 = .ok (.iconst 1, 1) := by decide +kernel
theorem dX11_isQuiet_11 : decode cX11_isQuiet 11 = .ok (.goto 4, 3) := by decide +kernel
theorem dX11_isQuiet_14 : decode cX11_isQuiet 14 = .ok (.iconst 0, 1) := by decide +kernel
theorem dX11_isQuiet_15 : decode cX11_isQuiet 15 = .ok (.istore_n 3, 1) := by decide +kernel
theorem dX11_isQuiet_16 : decode cX11_isQuiet 16 = .ok (.iload_n 2, 1) := by decide +kernel
theorem dX11_isQuiet_17 : decode cX11_isQuiet 17 = .ok (.istore 4, 2) := by decide +kernel
theorem dX11_isQuiet_19 : decode cX11_isQuiet 19 = .ok (.iload 4, 2) := by decide +kernel
theorem dX11_isQuiet_21 : decode cX11_isQuiet 21 = .ok (.iload_n 2, 1) := by decide +kernel
theorem dX11_isQuiet_22 : decode cX11_isQuiet 22 = .ok (.iconst 4, 1) := by decide +kernel
theorem dX11_isQuiet_23 : decode cX11_isQuiet 23 = .ok (.iadd, 1) := by decide +kernel
theorem dX11_isQuiet_24 : decode cX11_isQuiet 24 = .ok (.if_icmp .ge 67, 3) := by decide +kernel
theorem dX11_isQuiet_27 : decode cX11_isQuiet 27 = .ok (.iload_n 3, 1) := by decide +kernel
theorem dX11_isQuiet_28 : decode cX11_isQuiet 28 = .ok (.ifCond .eq 63, 3) := by decide +kernel
theorem dX11_isQuiet_31 : decode cX11_isQuiet 31 = .ok (.aload_n 0, 1) := by decide +kernel
theorem dX11_isQuiet_32 : decode cX11_isQuiet 32 = .ok (.getfield 46, 3) := by decide +kernel
theorem dX11_isQuiet_35 : decode cX11_isQuiet 35 = .ok (.iload 4, 2) := by decide +kernel
theorem dX11_isQuiet_37 : decode cX11_isQuiet 37 = .ok (.aload_n 0, 1) := by decide +kernel
theorem dX11_isQuiet_38 : decode cX11_isQuiet 38 = .ok (.getfield 16, 3) := by decide +kernel
theorem dX11_isQuiet_41 : decode cX11_isQuiet 41 = .ok (.imul, 1) := by decide +kernel
theorem dX11_isQuiet_42 : decode cX11_isQuiet 42 = .ok (.iload_n 1, 1) := by decide +kernel
theorem dX11_isQuiet_43 : decode cX11_isQuiet 43 = .ok (.iadd, 1) := by decide +kernel
theorem dX11_isQuiet_44 : decode cX11_isQuiet 44 = .ok (.iaload, 1) := by decide +kernel
theorem dX11_isQuiet_45 : decode cX11_isQuiet 45 = .ok (.ifCond .ne 38, 3) := by decide +kernel
theorem dX11_isQuiet_48 : decode cX11_isQuiet 48 = .ok (.aload_n 0, 1) := by decide +kernel
theorem dX11_isQuiet_49 : decode cX11_isQuiet 49 = .ok (.getfield 55, 3) := by decide +kernel
theorem dX11_isQuiet_52 : decode cX11_isQuiet 52 = .ok (.iload 4, 2) := by decide +kernel
theorem dX11_isQuiet_54 : decode cX11_isQuiet 54 = .ok (.aload_n 0, 1) := by decide +kernel
theorem dX11_isQuiet_55 : decode cX11_isQuiet 55 = .ok (.getfield 16, 3) := by decide +kernel
theorem dX11_isQuiet_58 : decode cX11_isQuiet 58 = .ok (.imul, 1) := by decide +kernel
theorem dX11_isQuiet_59 : decode cX11_isQuiet 59 = .ok (.iload_n 1, 1) := by decide +kernel
theorem dX11_isQuiet_60 : decode cX11_isQuiet 60 = .ok (.iadd, 1) := by decide +kernel
theorem dX11_isQuiet_61 : decode cX11_isQuiet 61 = .ok (.iaload, 1) := by decide +kernel
theorem dX11_isQuiet_62 : decode cX11_isQuiet 62 = .ok (.aload_n 0, 1) := by decide +kernel
theorem dX11_isQuiet_63 : decode cX11_isQuiet 63 = .ok (.getfield 190, 3) := by decide +kernel
theorem dX11_isQuiet_66 : decode cX11_isQuiet 66 = .ok (.if_icmp .eq 17, 3) := by decide +kernel
theorem dX11_isQuiet_69 : decode cX11_isQuiet 69 = .ok (.aload_n 0, 1) := by decide +kernel
theorem dX11_isQuiet_70 : decode cX11_isQuiet 70 = .ok (.iload_n 1, 1) := by decide +kernel
theorem dX11_isQuiet_71 : decode cX11_isQuiet 71 = .ok (.iload 4, 2) := by decide +kernel
theorem dX11_isQuiet_73 : decode cX11_isQuiet 73 = .ok (.invokevirtual 199, 3) := by decide +kernel
theorem dX11_isQuiet_76 : decode cX11_isQuiet 76 = .ok (.ifCond .ne 7, 3) := by decide +kernel
theorem dX11_isQuiet_79 : decode cX11_isQuiet 79 = .ok (.iconst 1, 1) := by decide +kernel
theorem dX11_isQuiet_80 : decode cX11_isQuiet 80 = .ok (.goto 4, 3) := by decide +kernel
theorem dX11_isQuiet_83 : decode cX11_isQuiet 83 = .ok (.iconst 0, 1) := by decide +kernel
theorem dX11_isQuiet_84 : decode cX11_isQuiet 84 = .ok (.istore_n 3, 1) := by decide +kernel
theorem dX11_isQuiet_85 : decode cX11_isQuiet 85 = .ok (.iinc 4 1, 3) := by decide +kernel
theorem dX11_isQuiet_88 : decode cX11_isQuiet 88 = .ok (.goto (-69), 3) := by decide +kernel
theorem dX11_isQuiet_91 : decode cX11_isQuiet 91 = .ok (.iload_n 3, 1) := by decide +kernel
theorem dX11_isQuiet_92 : decode cX11_isQuiet 92 = .ok (.ireturn, 1) := by decide +kernel
set_option maxRecDepth 20000 in
theorem ggX11_codeRun_X11_bitOf : GoodIn wsX11_codeRun wsX11_bitOf := goodIn_r _ [7, 8, 9, 101, 102, 103, 104, 105, 106, 107, 108, 109, 110, 111, 112, 113, 114, 115, 116, 117, 118, 119, 120, 121, 122, 123, 124, 125, 126, 127, 128, 129, 130, 131, 132, 133, 134, 135, 136, 137, 138, 139, 140, 141, 142] (by decide +kernel) (by decide +kernel)
set_option maxRecDepth 20000 in
theorem gX11_codeRun_X11_bitOf : GoodIn wsX11_codeRun (wsV RX11 193 RX11 yX11_bitOf wsX11_bitOf) := goodIn_app (goodIn_of _ (by decide +kernel)) ggX11_codeRun_X11_bitOf
set_option maxRecDepth 20000 in
theorem ggX11_codeRun_X11_code : GoodIn wsX11_codeRun wsX11_code := goodIn_r _ [13, 1, 14, 15, 16, 17, 6, 18, 19, 20, 21, 22, 23, 24, 25, 26, 27, 28, 29, 30, 31, 32, 33, 34, 35, 36, 37, 38, 39, 40, 41, 42, 43, 44, 45, 46, 47, 48, 49, 50, 51, 52, 53, 54, 55, 56, 57, 58, 59, 60, 61, 62, 63, 64, 65, 66, 67, 68, 69, 70, 71, 72, 73, 74, 75, 76, 77, 78, 79, 80, 81, 82, 101, 102, 103, 104, 105, 106, 107, 108, 109, 110, 111, 112, 113, 114, 115, 116, 117, 118, 119, 120, 121, 122, 123, 124, 125, 126, 127, 128, 129, 130, 131, 132, 133, 134, 135, 136, 137, 138, 139, 140, 141, 142] (by decide +kernel) (by decide +kernel)
set_option maxRecDepth 20000 in
theorem gX11_codeRun_X11_code : GoodIn wsX11_codeRun (wsV RX11 186 RX11 yX11_code wsX11_code) := goodIn_app (goodIn_of _ (by decide +kernel)) ggX11_codeRun_X11_code
set_option maxRecDepth 20000 in
theorem ggX11_codeRun_X11_codeSign : GoodIn wsX11_codeRun wsX11_codeSign := goodIn_r _ [86, 2, 14, 87, 88, 89, 9, 90, 91, 92, 93, 6, 94, 95, 96, 97, 98, 99, 100, 10, 11, 12, 13, 1, 15, 16, 17, 18, 19, 20, 21, 22, 23, 24, 25, 26, 27, 28, 29, 30, 31, 32, 33, 34, 35, 36, 37, 38, 39, 40, 41, 42, 43, 44, 45, 46, 47, 48, 49, 50, 51, 52, 53, 54, 55, 56, 57, 58, 59, 60, 61, 62, 63, 64, 65, 66, 67, 68, 69, 70, 71, 72, 73, 74, 75, 76, 77, 78, 79, 80, 81, 82, 101, 102, 103, 104, 105, 106, 107, 108, 109, 110, 111, 112, 113, 114, 115, 116, 117, 118, 119, 120, 121, 122, 123, 124, 125, 126, 127, 128, 129, 130, 131, 132, 133, 134, 135, 136, 137, 138, 139, 140, 141, 142] (by decide +kernel) (by decide +kernel)
set_option maxRecDepth 20000 in
theorem gX11_codeRun_X11_codeSign : GoodIn wsX11_codeRun (wsV RX11 196 RX11 yX11_codeSign wsX11_codeSign) := goodIn_app (goodIn_of _ (by decide +kernel)) ggX11_codeRun_X11_codeSign
theorem dX11_codeRun_0 : decode cX11_codeRun 0 = .ok (.iconst 0, 1) := by decide +kernel
theorem dX11_codeRun_1 : decode cX11_codeRun 1 = .ok (.istore_n 3, 1) := by decide +kernel
theorem dX11_codeRun_2 : decode cX11_codeRun 2 = .ok (.aload_n 0, 1) := by decide +kernel
theorem dX11_codeRun_3 : decode cX11_codeRun 3 = .ok (.getfield 159, 3) := by decide +kernel
theorem dX11_codeRun_6 : decode cX11_codeRun 6 = .ok (.ifCond .eq 31, 3) := by decide +kernel
theorem dX11_codeRun_9 : decode cX11_codeRun 9 = .ok (.iload_n 3, 1) := by decide +kernel
theorem dX11_codeRun_10 : decode cX11_codeRun 10 = .ok (.iconst 4, 1) := by decide +kernel
theorem dX11_codeRun_11 : decode cX11_codeRun 11 = .ok (.if_icmp .ge 26, 3) := by decide +kernel
theorem dX11_codeRun_14 : decode cX11_codeRun 14 = .ok (.aload_n 0, 1) := by decide +kernel
theorem dX11_codeRun_15 : decode cX11_codeRun 15 = .ok (.iload_n 2, 1) := by decide +kernel
theorem dX11_codeRun_16 : decode cX11_codeRun 16 = .ok (.iload_n 3, 1) := by decide +kernel
theorem dX11_codeRun_17 : decode cX11_codeRun 17 = .ok (.iadd, 1) := by decide +kernel
theorem dX11_codeRun_18 : decode cX11_codeRun 18 = .ok (.aload_n 0, 1) := by decide +kernel
theorem dX11_codeRun_19 : decode cX11_codeRun 19 = .ok (.getfield 16, 3) := by decide +kernel
theorem dX11_codeRun_22 : decode cX11_codeRun 22 = .ok (.imul, 1) := by decide +kernel
theorem dX11_codeRun_23 : decode cX11_codeRun 23 = .ok (.iload_n 1, 1) := by decide +kernel
theorem dX11_codeRun_24 : decode cX11_codeRun 24 = .ok (.iadd, 1) := by decide +kernel
theorem dX11_codeRun_25 : decode cX11_codeRun 25 = .ok (.invokevirtual 193, 3) := by decide +kernel
theorem dX11_codeRun_28 : decode cX11_codeRun 28 = .ok (.ifCond .ne 9, 3) := by decide +kernel
theorem dX11_codeRun_31 : decode cX11_codeRun 31 = .ok (.iinc 3 1, 3) := by decide +kernel
theorem dX11_codeRun_34 : decode cX11_codeRun 34 = .ok (.goto (-32), 3) := by decide +kernel
theorem dX11_codeRun_37 : decode cX11_codeRun 37 = .ok (.aload_n 0, 1) := by decide +kernel
theorem dX11_codeRun_38 : decode cX11_codeRun 38 = .ok (.bipush 17, 2) := by decide +kernel
theorem dX11_codeRun_40 : decode cX11_codeRun 40 = .ok (.iload_n 3, 1) := by decide +kernel
theorem dX11_codeRun_41 : decode cX11_codeRun 41 = .ok (.iconst 4, 1) := by decide +kernel
theorem dX11_codeRun_42 : decode cX11_codeRun 42 = .ok (.if_icmp .ge 7, 3) := by decide +kernel
theorem dX11_codeRun_45 : decode cX11_codeRun 45 = .ok (.iconst 1, 1) := by decide +kernel
theorem dX11_codeRun_46 : decode cX11_codeRun 46 = .ok (.goto 4, 3) := by decide +kernel
theorem dX11_codeRun_49 : decode cX11_codeRun 49 = .ok (.iconst 0, 1) := by decide +kernel
theorem dX11_codeRun_50 : decode cX11_codeRun 50 = .ok (.invokevirtual 186, 3) := by decide +kernel
theorem dX11_codeRun_53 : decode cX11_codeRun 53 = .ok (.ifCond .ne 5, 3) := by decide +kernel
theorem dX11_codeRun_56 : decode cX11_codeRun 56 = .ok (.iconst 4, 1) := by decide +kernel
theorem dX11_codeRun_57 : decode cX11_codeRun 57 = .ok (.ireturn, 1) := by decide +kernel
theorem dX11_codeRun_58 : decode cX11_codeRun 58 = .ok (.aload_n 0, 1) := by decide +kernel
theorem dX11_codeRun_59 : decode cX11_codeRun 59 = .ok (.bipush 18, 2) := by decide +kernel
theorem dX11_codeRun_61 : decode cX11_codeRun 61 = .ok (.iload_n 3, 1) := by decide +kernel
theorem dX11_codeRun_62 : decode cX11_codeRun 62 = .ok (.iconst 1, 1) := by decide +kernel
theorem dX11_codeRun_63 : decode cX11_codeRun 63 = .ok (.ishr, 1) := by decide +kernel
theorem dX11_codeRun_64 : decode cX11_codeRun 64 = .ok (.iconst 1, 1) := by decide +kernel
theorem dX11_codeRun_65 : decode cX11_codeRun 65 = .ok (.iand, 1) := by decide +kernel
theorem dX11_codeRun_66 : decode cX11_codeRun 66 = .ok (.invokevirtual 186, 3) := by decide +kernel
theorem dX11_codeRun_69 : decode cX11_codeRun 69 = .ok (.iconst 2, 1) := by decide +kernel
theorem dX11_codeRun_70 : decode cX11_codeRun 70 = .ok (.imul, 1) := by decide +kernel
theorem dX11_codeRun_71 : decode cX11_codeRun 71 = .ok (.istore 4, 2) := by decide +kernel
theorem dX11_codeRun_73 : decode cX11_codeRun 73 = .ok (.iload 4, 2) := by decide +kernel
theorem dX11_codeRun_75 : decode cX11_codeRun 75 = .ok (.aload_n 0, 1) := by decide +kernel
theorem dX11_codeRun_76 : decode cX11_codeRun 76 = .ok (.bipush 18, 2) := by decide +kernel
theorem dX11_codeRun_78 : decode cX11_codeRun 78 = .ok (.iload_n 3, 1) := by decide +kernel
theorem dX11_codeRun_79 : decode cX11_codeRun 79 = .ok (.iconst 1, 1) := by decide +kernel
theorem dX11_codeRun_80 : decode cX11_codeRun 80 = .ok (.iand, 1) := by decide +kernel
theorem dX11_codeRun_81 : decode cX11_codeRun 81 = .ok (.invokevirtual 186, 3) := by decide +kernel
theorem dX11_codeRun_84 : decode cX11_codeRun 84 = .ok (.iadd, 1) := by decide +kernel
theorem dX11_codeRun_85 : decode cX11_codeRun 85 = .ok (.istore 4, 2) := by decide +kernel
theorem dX11_codeRun_87 : decode cX11_codeRun 87 = .ok (.aload_n 0, 1) := by decide +kernel
theorem dX11_codeRun_88 : decode cX11_codeRun 88 = .ok (.iload_n 1, 1) := by decide +kernel
theorem dX11_codeRun_89 : decode cX11_codeRun 89 = .ok (.iload_n 2, 1) := by decide +kernel
theorem dX11_codeRun_90 : decode cX11_codeRun 90 = .ok (.iload 4, 2) := by decide +kernel
theorem dX11_codeRun_92 : decode cX11_codeRun 92 = .ok (.iadd, 1) := by decide +kernel
theorem dX11_codeRun_93 : decode cX11_codeRun 93 = .ok (.invokevirtual 196, 3) := by decide +kernel
theorem dX11_codeRun_96 : decode cX11_codeRun 96 = .ok (.iload 4, 2) := by decide +kernel
theorem dX11_codeRun_98 : decode cX11_codeRun 98 = .ok (.iconst 1, 1) := by decide +kernel
theorem dX11_codeRun_99 : decode cX11_codeRun 99 = .ok (.iadd, 1) := by decide +kernel
theorem dX11_codeRun_100 : decode cX11_codeRun 100 = .ok (.ireturn, 1) := by decide +kernel
set_option maxRecDepth 20000 in
theorem ggX11_visit_X11_codeAgain : GoodIn wsX11_visit wsX11_codeAgain := goodIn_r _ [9, 1, 2, 10, 4, 11, 12, 13, 14, 8, 15, 16, 17, 18, 19, 20, 21, 22, 23, 24, 25, 26, 27, 28, 29, 30, 31, 32, 33, 34, 35, 36, 37, 38, 39, 40, 41, 42, 43, 44, 45, 46, 47, 48, 49, 50, 51, 52, 53, 54, 55, 56, 57, 58, 59, 60, 61, 62, 63, 64, 65, 66, 67, 68, 69, 70, 71, 72, 73, 74, 75, 76, 77, 78, 79, 80, 81, 82, 83, 84, 85, 86, 87, 88, 89, 90, 91, 92, 93, 94, 95, 96, 97, 98, 99, 100, 101, 120, 121, 122, 123, 124, 125, 126, 127, 128, 129, 130, 131, 132, 133, 134, 135, 136, 137, 138, 139, 140, 141, 142, 143, 144, 145, 146, 147, 148, 149, 150, 151, 152, 153, 154, 155, 156, 157, 158, 159, 160, 161] (by decide +kernel) (by decide +kernel)
set_option maxRecDepth 20000 in
theorem gX11_visit_X11_codeAgain : GoodIn wsX11_visit (wsV RX11 202 RX11 yX11_codeAgain wsX11_codeAgain) := goodIn_app (goodIn_of _ (by decide +kernel)) ggX11_visit_X11_codeAgain
set_option maxRecDepth 20000 in
theorem ggX11_visit_X11_zeroContext : GoodIn wsX11_visit wsX11_zeroContext := goodIn_r _ [105, 106, 12, 13, 14, 8, 15, 16, 17, 18, 19, 1, 20, 21, 2, 22, 120, 121, 122, 123, 124, 125, 126, 127, 128, 129, 130, 131, 132, 133, 134, 135, 136, 137, 138, 139, 140, 141, 142, 143, 144, 145, 146, 147, 148, 149, 150, 151, 152, 153, 154, 155, 156, 157, 158, 159, 160, 161] (by decide +kernel) (by decide +kernel)
set_option maxRecDepth 20000 in
theorem gX11_visit_X11_zeroContext : GoodIn wsX11_visit (wsV RX11 199 RX11 yX11_zeroContext wsX11_zeroContext) := goodIn_app (goodIn_of _ (by decide +kernel)) ggX11_visit_X11_zeroContext
set_option maxRecDepth 20000 in
theorem ggX11_visit_X11_codeZero : GoodIn wsX11_visit wsX11_codeZero := goodIn_r _ [110, 1, 23, 24, 25, 8, 26, 27, 4, 28, 29, 30, 31, 32, 33, 34, 35, 36, 37, 38, 39, 40, 41, 42, 43, 44, 45, 46, 47, 48, 49, 50, 51, 52, 53, 54, 55, 56, 57, 58, 59, 60, 61, 62, 63, 64, 65, 66, 67, 68, 69, 70, 71, 72, 73, 74, 75, 76, 77, 78, 79, 80, 81, 82, 83, 84, 85, 86, 87, 88, 89, 90, 91, 92, 93, 94, 95, 96, 97, 98, 99, 100, 101, 111, 112, 113, 114, 115, 22, 2, 11, 116, 117, 118, 119, 16, 17, 18, 19, 20, 21, 120, 121, 122, 123, 124, 125, 126, 127, 128, 129, 130, 131, 132, 133, 134, 135, 136, 137, 138, 139, 140, 141, 142, 143, 144, 145, 146, 147, 148, 149, 150, 151, 152, 153, 154, 155, 156, 157, 158, 159, 160, 161] (by decide +kernel) (by decide +kernel)
set_option maxRecDepth 20000 in
theorem gX11_visit_X11_codeZero : GoodIn wsX11_visit (wsV RX11 205 RX11 yX11_codeZero wsX11_codeZero) := goodIn_app (goodIn_of _ (by decide +kernel)) ggX11_visit_X11_codeZero
theorem dX11_visit_0 : decode cX11_visit 0 = .ok (.iload_n 3, 1) := by decide +kernel
theorem dX11_visit_1 : decode cX11_visit 1 = .ok (.aload_n 0, 1) := by decide +kernel
theorem dX11_visit_2 : decode cX11_visit 2 = .ok (.getfield 16, 3) := by decide +kernel
theorem dX11_visit_5 : decode cX11_visit 5 = .ok (.imul, 1) := by decide +kernel
theorem dX11_visit_6 : decode cX11_visit 6 = .ok (.iload_n 2, 1) := by decide +kernel
theorem dX11_visit_7 : decode cX11_visit 7 = .ok (.iadd, 1) := by decide +kernel
theorem dX11_visit_8 : decode cX11_visit 8 = .ok (.istore 4, 2) := by decide +kernel
theorem dX11_visit_10 : decode cX11_visit 10 = .ok (.aload_n 0, 1) := by decide +kernel
theorem dX11_visit_11 : decode cX11_visit 11 = .ok (.getfield 46, 3) := by decide +kernel
theorem dX11_visit_14 : decode cX11_visit 14 = .ok (.iload 4, 2) := by decide +kernel
theorem dX11_visit_16 : decode cX11_visit 16 = .ok (.iaload, 1) := by decide +kernel
theorem dX11_visit_17 : decode cX11_visit 17 = .ok (.ifCond .ne 7, 3) := by decide +kernel
theorem dX11_visit_20 : decode cX11_visit 20 = .ok (.iconst 1, 1) := by decide +kernel
theorem dX11_visit_21 : decode cX11_visit 21 = .ok (.goto 4, 3) := by decide +kernel
theorem dX11_visit_24 : decode cX11_visit 24 = .ok (.iconst 0, 1) := by decide +kernel
theorem dX11_visit_25 : decode cX11_visit 25 = .ok (.istore 5, 2) := by decide +kernel
theorem dX11_visit_27 : decode cX11_visit 27 = .ok (.iload_n 1, 1) := by decide +kernel
theorem dX11_visit_28 : decode cX11_visit 28 = .ok (.iconst 1, 1) := by decide +kernel
theorem dX11_visit_29 : decode cX11_visit 29 = .ok (.if_icmp .ne 29, 3) := by decide +kernel
theorem dX11_visit_32 : decode cX11_visit 32 = .ok (.iload 5, 2) := by decide +kernel
theorem dX11_visit_34 : decode cX11_visit 34 = .ok (.ifCond .ne 23, 3) := by decide +kernel
theorem dX11_visit_37 : decode cX11_visit 37 = .ok (.aload_n 0, 1) := by decide +kernel
theorem dX11_visit_38 : decode cX11_visit 38 = .ok (.getfield 55, 3) := by decide +kernel
theorem dX11_visit_41 : decode cX11_visit 41 = .ok (.iload 4, 2) := by decide +kernel
theorem dX11_visit_43 : decode cX11_visit 43 = .ok (.iaload, 1) := by decide +kernel
theorem dX11_visit_44 : decode cX11_visit 44 = .ok (.aload_n 0, 1) := by decide +kernel
theorem dX11_visit_45 : decode cX11_visit 45 = .ok (.getfield 190, 3) := by decide +kernel
theorem dX11_visit_48 : decode cX11_visit 48 = .ok (.if_icmp .eq 9, 3) := by decide +kernel
theorem dX11_visit_51 : decode cX11_visit 51 = .ok (.aload_n 0, 1) := by decide +kernel
theorem dX11_visit_52 : decode cX11_visit 52 = .ok (.iload_n 2, 1) := by decide +kernel
theorem dX11_visit_53 : decode cX11_visit 53 = .ok (.iload_n 3, 1) := by decide +kernel
theorem dX11_visit_54 : decode cX11_visit 54 = .ok (.invokevirtual 202, 3) := by decide +kernel
theorem dX11_visit_57 : decode cX11_visit 57 = .ok (.return_, 1) := by decide +kernel
theorem dX11_visit_58 : decode cX11_visit 58 = .ok (.iload 5, 2) := by decide +kernel
theorem dX11_visit_60 : decode cX11_visit 60 = .ok (.ifCond .eq 22, 3) := by decide +kernel
theorem dX11_visit_63 : decode cX11_visit 63 = .ok (.iload_n 1, 1) := by decide +kernel
theorem dX11_visit_64 : decode cX11_visit 64 = .ok (.iconst 2, 1) := by decide +kernel
theorem dX11_visit_65 : decode cX11_visit 65 = .ok (.if_icmp .ne 18, 3) := by decide +kernel
theorem dX11_visit_68 : decode cX11_visit 68 = .ok (.aload_n 0, 1) := by decide +kernel
theorem dX11_visit_69 : decode cX11_visit 69 = .ok (.getfield 55, 3) := by decide +kernel
theorem dX11_visit_72 : decode cX11_visit 72 = .ok (.iload 4, 2) := by decide +kernel
theorem dX11_visit_74 : decode cX11_visit 74 = .ok (.iaload, 1) := by decide +kernel
theorem dX11_visit_75 : decode cX11_visit 75 = .ok (.aload_n 0, 1) := by decide +kernel
theorem dX11_visit_76 : decode cX11_visit 76 = .ok (.getfield 190, 3) := by decide +kernel
theorem dX11_visit_79 : decode cX11_visit 79 = .ok (.if_icmp .ne 4, 3) := by decide +kernel
theorem dX11_visit_82 : decode cX11_visit 82 = .ok (.return_, 1) := by decide +kernel
theorem dX11_visit_83 : decode cX11_visit 83 = .ok (.aload_n 0, 1) := by decide +kernel
theorem dX11_visit_84 : decode cX11_visit 84 = .ok (.iload_n 2, 1) := by decide +kernel
theorem dX11_visit_85 : decode cX11_visit 85 = .ok (.iload_n 3, 1) := by decide +kernel
theorem dX11_visit_86 : decode cX11_visit 86 = .ok (.invokevirtual 199, 3) := by decide +kernel
theorem dX11_visit_89 : decode cX11_visit 89 = .ok (.istore 6, 2) := by decide +kernel
theorem dX11_visit_91 : decode cX11_visit 91 = .ok (.iload_n 1, 1) := by decide +kernel
theorem dX11_visit_92 : decode cX11_visit 92 = .ok (.ifCond .ne 9, 3) := by decide +kernel
theorem dX11_visit_95 : decode cX11_visit 95 = .ok (.iload 6, 2) := by decide +kernel
theorem dX11_visit_97 : decode cX11_visit 97 = .ok (.ifCond .ne 4, 3) := by decide +kernel
theorem dX11_visit_100 : decode cX11_visit 100 = .ok (.return_, 1) := by decide +kernel
theorem dX11_visit_101 : decode cX11_visit 101 = .ok (.iload_n 1, 1) := by decide +kernel
theorem dX11_visit_102 : decode cX11_visit 102 = .ok (.ifCond .ne 14, 3) := by decide +kernel
theorem dX11_visit_105 : decode cX11_visit 105 = .ok (.aload_n 0, 1) := by decide +kernel
theorem dX11_visit_106 : decode cX11_visit 106 = .ok (.getfield 55, 3) := by decide +kernel
theorem dX11_visit_109 : decode cX11_visit 109 = .ok (.iload 4, 2) := by decide +kernel
theorem dX11_visit_111 : decode cX11_visit 111 = .ok (.aload_n 0, 1) := by decide +kernel
theorem dX11_visit_112 : decode cX11_visit 112 = .ok (.getfield 190, 3) := by decide +kernel
theorem dX11_visit_115 : decode cX11_visit 115 = .ok (.iastore, 1) := by decide +kernel
theorem dX11_visit_116 : decode cX11_visit 116 = .ok (.aload_n 0, 1) := by decide +kernel
theorem dX11_visit_117 : decode cX11_visit 117 = .ok (.iload_n 2, 1) := by decide +kernel
theorem dX11_visit_118 : decode cX11_visit 118 = .ok (.iload_n 3, 1) := by decide +kernel
theorem dX11_visit_119 : decode cX11_visit 119 = .ok (.iload 6, 2) := by decide +kernel
theorem dX11_visit_121 : decode cX11_visit 121 = .ok (.invokevirtual 205, 3) := by decide +kernel
theorem dX11_visit_124 : decode cX11_visit 124 = .ok (.return_, 1) := by decide +kernel
set_option maxRecDepth 20000 in
theorem ggX11_codeMark_X11_code : GoodIn wsX11_codeMark wsX11_code := goodIn_r _ [6, 7, 8, 9, 10, 11, 5, 12, 13, 14, 15, 16, 17, 18, 19, 20, 21, 22, 23, 24, 25, 26, 27, 28, 29, 30, 31, 32, 33, 34, 35, 36, 37, 38, 39, 40, 41, 42, 43, 44, 45, 46, 47, 48, 49, 50, 51, 52, 53, 54, 55, 56, 57, 58, 59, 60, 61, 62, 63, 64, 65, 66, 67, 68, 69, 70, 71, 72, 73, 74, 75, 76, 77, 78, 79, 80, 81, 82, 83, 84, 85, 86, 87, 88, 89, 90, 91, 92, 93, 94, 95, 96, 97, 98, 99, 100, 101, 102, 103, 104, 105, 106, 107, 108, 109, 110, 111, 112, 113, 114, 115, 116, 117, 118] (by decide +kernel) (by decide +kernel)
set_option maxRecDepth 20000 in
theorem gX11_codeMark_X11_code : GoodIn wsX11_codeMark (wsV RX11 186 RX11 yX11_code wsX11_code) := goodIn_app (goodIn_of _ (by decide +kernel)) ggX11_codeMark_X11_code
theorem dX11_codeMark_0 : decode cX11_codeMark 0 = .ok (.iconst 0, 1) := by decide +kernel
theorem dX11_codeMark_1 : decode cX11_codeMark 1 = .ok (.istore_n 1, 1) := by decide +kernel
theorem dX11_codeMark_2 : decode cX11_codeMark 2 = .ok (.iconst 0, 1) := by decide +kernel
theorem dX11_codeMark_3 : decode cX11_codeMark 3 = .ok (.istore_n 2, 1) := by decide +kernel
theorem dX11_codeMark_4 : decode cX11_codeMark 4 = .ok (.iload_n 2, 1) := by decide +kernel
theorem dX11_codeMark_5 : decode cX11_codeMark 5 = .ok (.iconst 4, 1) := by decide +kernel
theorem dX11_codeMark_6 : decode cX11_codeMark 6 = .ok (.if_icmp .ge 25, 3) := by decide +kernel
theorem dX11_codeMark_9 : decode cX11_codeMark 9 = .ok (.iconst 2, 1) := by decide +kernel
theorem dX11_codeMark_10 : decode cX11_codeMark 10 = .ok (.iload_n 1, 1) := by decide +kernel
theorem dX11_codeMark_11 : decode cX11_codeMark 11 = .ok (.imul, 1) := by decide +kernel
theorem dX11_codeMark_12 : decode cX11_codeMark 12 = .ok (.aload_n 0, 1) := by decide +kernel
theorem dX11_codeMark_13 : decode cX11_codeMark 13 = .ok (.bipush 18, 2) := by decide +kernel
theorem dX11_codeMark_15 : decode cX11_codeMark 15 = .ok (.iconst 1, 1) := by decide +kernel
theorem dX11_codeMark_16 : decode cX11_codeMark 16 = .ok (.iload_n 2, 1) := by decide +kernel
theorem dX11_codeMark_17 : decode cX11_codeMark 17 = .ok (.iconst 2, 1) := by decide +kernel
theorem dX11_codeMark_18 : decode cX11_codeMark 18 = .ok (.irem, 1) := by decide +kernel
theorem dX11_codeMark_19 : decode cX11_codeMark 19 = .ok (.isub, 1) := by decide +kernel
theorem dX11_codeMark_20 : decode cX11_codeMark 20 = .ok (.invokevirtual 186, 3) := by decide +kernel
theorem dX11_codeMark_23 : decode cX11_codeMark 23 = .ok (.iadd, 1) := by decide +kernel
theorem dX11_codeMark_24 : decode cX11_codeMark 24 = .ok (.istore_n 1, 1) := by decide +kernel
theorem dX11_codeMark_25 : decode cX11_codeMark 25 = .ok (.iinc 2 1, 3) := by decide +kernel
theorem dX11_codeMark_28 : decode cX11_codeMark 28 = .ok (.goto (-24), 3) := by decide +kernel
theorem dX11_codeMark_31 : decode cX11_codeMark 31 = .ok (.iload_n 1, 1) := by decide +kernel
theorem dX11_codeMark_32 : decode cX11_codeMark 32 = .ok (.bipush 10, 2) := by decide +kernel
theorem dX11_codeMark_34 : decode cX11_codeMark 34 = .ok (.if_icmp .eq 13, 3) := by decide +kernel
theorem dX11_codeMark_37 : decode cX11_codeMark 37 = .ok (.aload_n 0, 1) := by decide +kernel
theorem dX11_codeMark_38 : decode cX11_codeMark 38 = .ok (.dup, 1) := by decide +kernel
theorem dX11_codeMark_39 : decode cX11_codeMark 39 = .ok (.getfield 209, 3) := by decide +kernel
theorem dX11_codeMark_42 : decode cX11_codeMark 42 = .ok (.iconst 1, 1) := by decide +kernel
theorem dX11_codeMark_43 : decode cX11_codeMark 43 = .ok (.iadd, 1) := by decide +kernel
theorem dX11_codeMark_44 : decode cX11_codeMark 44 = .ok (.putfield 209, 3) := by decide +kernel
theorem dX11_codeMark_47 : decode cX11_codeMark 47 = .ok (.return_, 1) := by decide +kernel
set_option maxRecDepth 20000 in
theorem ggX11_codePass_X11_kindOf : GoodIn wsX11_codePass wsX11_kindOf := goodIn_r _ [8] (by decide +kernel) (by decide +kernel)
set_option maxRecDepth 20000 in
theorem gX11_codePass_X11_kindOf : GoodIn wsX11_codePass (va_wsS RX11 212 yX11_kindOf wsX11_kindOf) := goodIn_app (goodIn_of _ (by decide +kernel)) ggX11_codePass_X11_kindOf
set_option maxRecDepth 20000 in
theorem ggX11_codePass_X11_planeOf : GoodIn wsX11_codePass wsX11_planeOf := goodIn_r _ [12, 13, 149, 150, 151, 152, 153, 154, 155, 156, 157, 158, 159, 160, 161, 162, 163, 164, 165, 166, 167, 168, 169, 170, 171, 172, 173, 174, 175, 176, 177, 178, 179, 180, 181, 182, 183, 184, 185, 186, 187, 188, 189, 190] (by decide +kernel) (by decide +kernel)
set_option maxRecDepth 20000 in
theorem gX11_codePass_X11_planeOf : GoodIn wsX11_codePass (wsV RX11 215 RX11 yX11_planeOf wsX11_planeOf) := goodIn_app (goodIn_of _ (by decide +kernel)) ggX11_codePass_X11_planeOf
set_option maxRecDepth 20000 in
theorem ggX11_codePass_X11_isQuiet : GoodIn wsX11_codePass wsX11_isQuiet := goodIn_r _ [17, 2, 18, 3, 19, 1, 20, 21, 22, 7, 23, 24, 25, 26, 27, 28, 29, 30, 31, 32, 4, 33, 149, 150, 151, 152, 153, 154, 155, 156, 157, 158, 159, 160, 161, 162, 163, 164, 165, 166, 167, 168, 169, 170, 171, 172, 173, 174, 175, 176, 177, 178, 179, 180, 181, 182, 183, 184, 185, 186, 187, 188, 189, 190] (by decide +kernel) (by decide +kernel)
set_option maxRecDepth 20000 in
theorem gX11_codePass_X11_isQuiet : GoodIn wsX11_codePass (wsV RX11 218 RX11 yX11_isQuiet wsX11_isQuiet) := goodIn_app (goodIn_of _ (by decide +kernel)) ggX11_codePass_X11_isQuiet
set_option maxRecDepth 20000 in
theorem ggX11_codePass_X11_codeRun : GoodIn wsX11_codePass wsX11_codeRun := goodIn_r _ [37, 38, 3, 39, 40, 41, 7, 42, 43, 1, 44, 45, 46, 47, 48, 49, 50, 51, 52, 53, 54, 55, 56, 57, 58, 59, 60, 61, 62, 63, 64, 65, 66, 67, 68, 69, 70, 71, 72, 73, 74, 75, 76, 77, 78, 79, 80, 81, 82, 83, 84, 85, 86, 87, 88, 89, 90, 91, 92, 93, 94, 95, 96, 97, 98, 99, 100, 101, 102, 103, 104, 105, 106, 107, 108, 109, 110, 111, 112, 113, 114, 115, 116, 117, 118, 119, 120, 121, 33, 18, 122, 123, 124, 125, 126, 29, 30, 31, 32, 2, 4, 149, 150, 151, 152, 153, 154, 155, 156, 157, 158, 159, 160, 161, 162, 163, 164, 165, 166, 167, 168, 169, 170, 171, 172, 173, 174, 175, 176, 177, 178, 179, 180, 181, 182, 183, 184, 185, 186, 187, 188, 189, 190] (by decide +kernel) (by decide +kernel)
set_option maxRecDepth 20000 in
theorem gX11_codePass_X11_codeRun : GoodIn wsX11_codePass (wsV RX11 222 RX11 yX11_codeRun wsX11_codeRun) := goodIn_app (goodIn_of _ (by decide +kernel)) ggX11_codePass_X11_codeRun
set_option maxRecDepth 20000 in
theorem ggX11_codePass_X11_visit : GoodIn wsX11_codePass wsX11_visit := goodIn_r _ [130, 3, 18, 19, 1, 131, 132, 133, 7, 134, 135, 122, 25, 26, 27, 28, 29, 30, 31, 32, 2, 4, 33, 39, 40, 41, 42, 43, 44, 45, 46, 47, 38, 48, 49, 50, 51, 52, 53, 54, 55, 56, 57, 58, 59, 60, 61, 62, 63, 64, 65, 66, 67, 68, 69, 70, 71, 72, 73, 74, 75, 76, 77, 78, 79, 80, 81, 82, 83, 84, 85, 86, 87, 88, 89, 90, 91, 92, 93, 94, 95, 96, 97, 98, 99, 100, 101, 102, 103, 104, 105, 106, 107, 108, 109, 110, 111, 112, 113, 114, 115, 116, 20, 21, 22, 23, 24, 136, 137, 138, 139, 117, 118, 119, 120, 121, 123, 124, 125, 126, 149, 150, 151, 152, 153, 154, 155, 156, 157, 158, 159, 160, 161, 162, 163, 164, 165, 166, 167, 168, 169, 170, 171, 172, 173, 174, 175, 176, 177, 178, 179, 180, 181, 182, 183, 184, 185, 186, 187, 188, 189, 190] (by decide +kernel) (by decide +kernel)
set_option maxRecDepth 20000 in
theorem gX11_codePass_X11_visit : GoodIn wsX11_codePass (wsV RX11 225 RX11 yX11_visit wsX11_visit) := goodIn_app (goodIn_of _ (by decide +kernel)) ggX11_codePass_X11_visit
set_option maxRecDepth 20000 in
theorem ggX11_codePass_X11_codeMark : GoodIn wsX11_codePass wsX11_codeMark := goodIn_r _ [143, 144, 44, 45, 46, 7, 47, 38, 48, 49, 50, 51, 52, 53, 54, 55, 56, 57, 58, 59, 60, 61, 62, 63, 64, 65, 66, 67, 68, 69, 70, 71, 72, 73, 74, 75, 76, 77, 78, 79, 80, 81, 82, 83, 84, 85, 86, 87, 88, 89, 90, 91, 92, 93, 94, 95, 96, 97, 98, 99, 100, 101, 102, 103, 104, 105, 106, 107, 108, 109, 110, 111, 112, 113, 114, 115, 116, 149, 150, 151, 152, 153, 154, 155, 156, 157, 158, 159, 160, 161, 162, 163, 164, 165, 166, 167, 168, 169, 170, 171, 172, 173, 174, 175, 176, 177, 178, 179, 180, 181, 182, 183, 184, 185, 186, 187, 188, 189, 190] (by decide +kernel) (by decide +kernel)
set_option maxRecDepth 20000 in
theorem gX11_codePass_X11_codeMark : GoodIn wsX11_codePass (wsV RX11 228 RX11 yX11_codeMark wsX11_codeMark) := goodIn_app (goodIn_of _ (by decide +kernel)) ggX11_codePass_X11_codeMark
set_option maxRecDepth 20000 in
theorem ggX11_codePass_X11_resetContexts : GoodIn wsX11_codePass wsX11_resetContexts := goodIn_r _ [148, 68, 69, 149, 150, 151, 152, 153, 154, 155, 156, 157, 158, 159, 160, 161, 162, 163, 164, 165, 166, 167, 168, 169, 170, 171, 172, 173, 174, 175, 176, 177, 178, 179, 180, 181, 182, 183, 184, 185, 186, 187, 188, 189, 190] (by decide +kernel) (by decide +kernel)
set_option maxRecDepth 20000 in
theorem gX11_codePass_X11_resetContexts : GoodIn wsX11_codePass (wsV RX11 231 RX11 yX11_resetContexts wsX11_resetContexts) := goodIn_app (goodIn_of _ (by decide +kernel)) ggX11_codePass_X11_resetContexts
theorem dX11_codePass_0 : decode cX11_codePass 0 = .ok (.iload_n 1, 1) := by decide +kernel
theorem dX11_codePass_1 : decode cX11_codePass 1 = .ok (.invokestatic 212, 3) := by decide +kernel
theorem dX11_codePass_4 : decode cX11_codePass 4 = .ok (.istore_n 2, 1) := by decide +kernel
theorem dX11_codePass_5 : decode cX11_codePass 5 = .ok (.aload_n 0, 1) := by decide +kernel
theorem dX11_codePass_6 : decode cX11_codePass 6 = .ok (.aload_n 0, 1) := by decide +kernel
theorem dX11_codePass_7 : decode cX11_codePass 7 = .ok (.iload_n 1, 1) := by decide +kernel
theorem dX11_codePass_8 : decode cX11_codePass 8 = .ok (.invokevirtual 215, 3) := by decide +kernel
theorem dX11_codePass_11 : decode cX11_codePass 11 = .ok (.putfield 190, 3) := by decide +kernel
theorem dX11_codePass_14 : decode cX11_codePass 14 = .ok (.iconst 0, 1) := by decide +kernel
theorem dX11_codePass_15 : decode cX11_codePass 15 = .ok (.istore_n 3, 1) := by decide +kernel
theorem dX11_codePass_16 : decode cX11_codePass 16 = .ok (.iload_n 3, 1) := by decide +kernel
theorem dX11_codePass_17 : decode cX11_codePass 17 = .ok (.aload_n 0, 1) := by decide +kernel
theorem dX11_codePass_18 : decode cX11_codePass 18 = .ok (.getfield 20, 3) := by decide +kernel
theorem dX11_codePass_21 : decode cX11_codePass 21 = .ok (.if_icmp .ge 93, 3) := by decide +kernel
theorem dX11_codePass_24 : decode cX11_codePass 24 = .ok (.iconst 0, 1) := by decide +kernel
theorem dX11_codePass_25 : decode cX11_codePass 25 = .ok (.istore 4, 2) := by decide +kernel
theorem dX11_codePass_27 : decode cX11_codePass 27 = .ok (.iload 4, 2) := by decide +kernel
theorem dX11_codePass_29 : decode cX11_codePass 29 = .ok (.aload_n 0, 1) := by decide +kernel
theorem dX11_codePass_30 : decode cX11_codePass 30 = .ok (.getfield 16, 3) := by decide +kernel
theorem dX11_codePass_33 : decode cX11_codePass 33 = .ok (.if_icmp .ge 75, 3) := by decide +kernel
theorem dX11_codePass_36 : decode cX11_codePass 36 = .ok (.iload_n 2, 1) := by decide +kernel
theorem dX11_codePass_37 : decode cX11_codePass 37 = .ok (.iconst 2, 1) := by decide +kernel
theorem dX11_codePass_38 : decode cX11_codePass 38 = .ok (.if_icmp .ne 23, 3) := by decide +kernel
theorem dX11_codePass_41 : decode cX11_codePass 41 = .ok (.aload_n 0, 1) := by decide +kernel
theorem dX11_codePass_42 : decode cX11_codePass 42 = .ok (.iload 4, 2) := by decide +kernel
theorem dX11_codePass_44 : decode cX11_codePass 44 = .ok (.iload_n 3, 1) := by decide +kernel
theorem dX11_codePass_45 : decode cX11_codePass 45 = .ok (.invokevirtual 218, 3) := by decide +kernel
theorem dX11_codePass_48 : decode cX11_codePass 48 = .ok (.ifCond .eq 13, 3) := by decide +kernel
theorem dX11_codePass_51 : decode cX11_codePass 51 = .ok (.aload_n 0, 1) := by decide +kernel
theorem dX11_codePass_52 : decode cX11_codePass 52 = .ok (.iload 4, 2) := by decide +kernel
theorem dX11_codePass_54 : decode cX11_codePass 54 = .ok (.iload_n 3, 1) := by decide +kernel
theorem dX11_codePass_55 : decode cX11_codePass 55 = .ok (.invokevirtual 222, 3) := by decide +kernel
theorem dX11_codePass_58 : decode cX11_codePass 58 = .ok (.goto 4, 3) := by decide +kernel
theorem dX11_codePass_61 : decode cX11_codePass 61 = .ok (.iconst 0, 1) := by decide +kernel
theorem dX11_codePass_62 : decode cX11_codePass 62 = .ok (.istore 5, 2) := by decide +kernel
theorem dX11_codePass_64 : decode cX11_codePass 64 = .ok (.iload_n 3, 1) := by decide +kernel
theorem dX11_codePass_65 : decode cX11_codePass 65 = .ok (.iload 5, 2) := by decide +kernel
theorem dX11_codePass_67 : decode cX11_codePass 67 = .ok (.iadd, 1) := by decide +kernel
theorem dX11_codePass_68 : decode cX11_codePass 68 = .ok (.istore 6, 2) := by decide +kernel
theorem dX11_codePass_70 : decode cX11_codePass 70 = .ok (.iload 6, 2) := by decide +kernel
theorem dX11_codePass_72 : decode cX11_codePass 72 = .ok (.iload_n 3, 1) := by decide +kernel
theorem dX11_codePass_73 : decode cX11_codePass 73 = .ok (.iconst 4, 1) := by decide +kernel
theorem dX11_codePass_74 : decode cX11_codePass 74 = .ok (.iadd, 1) := by decide +kernel
theorem dX11_codePass_75 : decode cX11_codePass 75 = .ok (.if_icmp .ge 27, 3) := by decide +kernel
theorem dX11_codePass_78 : decode cX11_codePass 78 = .ok (.iload 6, 2) := by decide +kernel
theorem dX11_codePass_80 : decode cX11_codePass 80 = .ok (.aload_n 0, 1) := by decide +kernel
theorem dX11_codePass_81 : decode cX11_codePass 81 = .ok (.getfield 20, 3) := by decide +kernel
theorem dX11_codePass_84 : decode cX11_codePass 84 = .ok (.if_icmp .ge 18, 3) := by decide +kernel
theorem dX11_codePass_87 : decode cX11_codePass 87 = .ok (.aload_n 0, 1) := by decide +kernel
theorem dX11_codePass_88 : decode cX11_codePass 88 = .ok (.iload_n 2, 1) := by decide +kernel
theorem dX11_codePass_89 : decode cX11_codePass 89 = .ok (.iload 4, 2) := by decide +kernel
theorem dX11_codePass_91 : decode cX11_codePass 91 = .ok (.iload 6, 2) := by decide +kernel
theorem dX11_codePass_93 : decode cX11_codePass 93 = .ok (.invokevirtual 225, 3) := by decide +kernel
theorem dX11_codePass_96 : decode cX11_codePass 96 = .ok (.iinc 6 1, 3) := by decide +kernel
theorem dX11_codePass_99 : decode cX11_codePass 99 = .ok (.goto (-29), 3) := by decide +kernel
theorem dX11_codePass_102 : decode cX11_codePass 102 = .ok (.iinc 4 1, 3) := by decide +kernel
theorem dX11_codePass_105 : decode cX11_codePass 105 = .ok (.goto (-78), 3) := by decide +kernel
theorem dX11_codePass_108 : decode cX11_codePass 108 = .ok (.iinc 3 4, 3) := by decide +kernel
theorem dX11_codePass_111 : decode cX11_codePass 111 = .ok (.goto (-95), 3) := by decide +kernel
theorem dX11_codePass_114 : decode cX11_codePass 114 = .ok (.iload_n 2, 1) := by decide +kernel
theorem dX11_codePass_115 : decode cX11_codePass 115 = .ok (.iconst 2, 1) := by decide +kernel
theorem dX11_codePass_116 : decode cX11_codePass 116 = .ok (.if_icmp .ne 17, 3) := by decide +kernel
theorem dX11_codePass_119 : decode cX11_codePass 119 = .ok (.aload_n 0, 1) := by decide +kernel
theorem dX11_codePass_120 : decode cX11_codePass 120 = .ok (.getfield 119, 3) := by decide +kernel
theorem dX11_codePass_123 : decode cX11_codePass 123 = .ok (.bipush 32, 2) := by decide +kernel
theorem dX11_codePass_125 : decode cX11_codePass 125 = .ok (.iand, 1) := by decide +kernel
theorem dX11_codePass_126 : decode cX11_codePass 126 = .ok (.ifCond .eq 7, 3) := by decide +kernel
theorem dX11_codePass_129 : decode cX11_codePass 129 = .ok (.aload_n 0, 1) := by decide +kernel
theorem dX11_codePass_130 : decode cX11_codePass 130 = .ok (.invokevirtual 228, 3) := by decide +kernel
theorem dX11_codePass_133 : decode cX11_codePass 133 = .ok (.aload_n 0, 1) := by decide +kernel
theorem dX11_codePass_134 : decode cX11_codePass 134 = .ok (.getfield 119, 3) := by decide +kernel
theorem dX11_codePass_137 : decode cX11_codePass 137 = .ok (.iconst 2, 1) := by decide +kernel
theorem dX11_codePass_138 : decode cX11_codePass 138 = .ok (.iand, 1) := by decide +kernel
theorem dX11_codePass_139 : decode cX11_codePass 139 = .ok (.ifCond .eq 7, 3) := by decide +kernel
theorem dX11_codePass_142 : decode cX11_codePass 142 = .ok (.aload_n 0, 1) := by decide +kernel
theorem dX11_codePass_143 : decode cX11_codePass 143 = .ok (.invokevirtual 231, 3) := by decide +kernel
theorem dX11_codePass_146 : decode cX11_codePass 146 = .ok (.return_, 1) := by decide +kernel
theorem dX11_kindOf_0 : decode cX11_kindOf 0 = .ok (.iload_n 0, 1) := by decide +kernel
theorem dX11_kindOf_1 : decode cX11_kindOf 1 = .ok (.ifCond .ne 7, 3) := by decide +kernel
theorem dX11_kindOf_4 : decode cX11_kindOf 4 = .ok (.iconst 2, 1) := by decide +kernel
theorem dX11_kindOf_5 : decode cX11_kindOf 5 = .ok (.goto 8, 3) := by decide +kernel
theorem dX11_kindOf_8 : decode cX11_kindOf 8 = .ok (.iload_n 0, 1) := by decide +kernel
theorem dX11_kindOf_9 : decode cX11_kindOf 9 = .ok (.iconst 1, 1) := by decide +kernel
theorem dX11_kindOf_10 : decode cX11_kindOf 10 = .ok (.isub, 1) := by decide +kernel
theorem dX11_kindOf_11 : decode cX11_kindOf 11 = .ok (.iconst 3, 1) := by decide +kernel
theorem dX11_kindOf_12 : decode cX11_kindOf 12 = .ok (.irem, 1) := by decide +kernel
theorem dX11_kindOf_13 : decode cX11_kindOf 13 = .ok (.ireturn, 1) := by decide +kernel
theorem dX11_planeOf_0 : decode cX11_planeOf 0 = .ok (.iload_n 1, 1) := by decide +kernel
theorem dX11_planeOf_1 : decode cX11_planeOf 1 = .ok (.ifCond .ne 12, 3) := by decide +kernel
theorem dX11_planeOf_4 : decode cX11_planeOf 4 = .ok (.aload_n 0, 1) := by decide +kernel
theorem dX11_planeOf_5 : decode cX11_planeOf 5 = .ok (.getfield 234, 3) := by decide +kernel
theorem dX11_planeOf_8 : decode cX11_planeOf 8 = .ok (.iconst 1, 1) := by decide +kernel
theorem dX11_planeOf_9 : decode cX11_planeOf 9 = .ok (.isub, 1) := by decide +kernel
theorem dX11_planeOf_10 : decode cX11_planeOf 10 = .ok (.goto 15, 3) := by decide +kernel
theorem dX11_planeOf_13 : decode cX11_planeOf 13 = .ok (.aload_n 0, 1) := by decide +kernel
theorem dX11_planeOf_14 : decode cX11_planeOf 14 = .ok (.getfield 234, 3) := by decide +kernel
theorem dX11_planeOf_17 : decode cX11_planeOf 17 = .ok (.iconst 2, 1) := by decide +kernel
theorem dX11_planeOf_18 : decode cX11_planeOf 18 = .ok (.isub, 1) := by decide +kernel
theorem dX11_planeOf_19 : decode cX11_planeOf 19 = .ok (.iload_n 1, 1) := by decide +kernel
theorem dX11_planeOf_20 : decode cX11_planeOf 20 = .ok (.iconst 1, 1) := by decide +kernel
theorem dX11_planeOf_21 : decode cX11_planeOf 21 = .ok (.isub, 1) := by decide +kernel
theorem dX11_planeOf_22 : decode cX11_planeOf 22 = .ok (.iconst 3, 1) := by decide +kernel
theorem dX11_planeOf_23 : decode cX11_planeOf 23 = .ok (.idiv, 1) := by decide +kernel
theorem dX11_planeOf_24 : decode cX11_planeOf 24 = .ok (.isub, 1) := by decide +kernel
theorem dX11_planeOf_25 : decode cX11_planeOf 25 = .ok (.ireturn, 1) := by decide +kernel
set_option maxRecDepth 20000 in
theorem ggX11_isRaw_X11_kindOf : GoodIn wsX11_isRaw wsX11_kindOf := goodIn_r _ [5] (by decide +kernel) (by decide +kernel)
set_option maxRecDepth 20000 in
theorem gX11_isRaw_X11_kindOf : GoodIn wsX11_isRaw (va_wsS RX11 212 yX11_kindOf wsX11_kindOf) := goodIn_app (goodIn_of _ (by decide +kernel)) ggX11_isRaw_X11_kindOf
theorem dX11_isRaw_0 : decode cX11_isRaw 0 = .ok (.aload_n 0, 1) := by decide +kernel
theorem dX11_isRaw_1 : decode cX11_isRaw 1 = .ok (.getfield 119, 3) := by decide +kernel
theorem dX11_isRaw_4 : decode cX11_isRaw 4 = .ok (.iconst 1, 1) := by decide +kernel
theorem dX11_isRaw_5 : decode cX11_isRaw 5 = .ok (.iand, 1) := by decide +kernel
theorem dX11_isRaw_6 : decode cX11_isRaw 6 = .ok (.ifCond .eq 21, 3) := by decide +kernel
theorem dX11_isRaw_9 : decode cX11_isRaw 9 = .ok (.iload_n 1, 1) := by decide +kernel
theorem dX11_isRaw_10 : decode cX11_isRaw 10 = .ok (.bipush 9, 2) := by decide +kernel
theorem dX11_isRaw_12 : decode cX11_isRaw 12 = .ok (.if_icmp .le 15, 3) := by decide +kernel
theorem dX11_isRaw_15 : decode cX11_isRaw 15 = .ok (.iload_n 1, 1) := by decide +kernel
theorem dX11_isRaw_16 : decode cX11_isRaw 16 = .ok (.invokestatic 212, 3) := by decide +kernel
theorem dX11_isRaw_19 : decode cX11_isRaw 19 = .ok (.iconst 2, 1) := by decide +kernel
theorem dX11_isRaw_20 : decode cX11_isRaw 20 = .ok (.if_icmp .ge 7, 3) := by decide +kernel
theorem dX11_isRaw_23 : decode cX11_isRaw 23 = .ok (.iconst 1, 1) := by decide +kernel
theorem dX11_isRaw_24 : decode cX11_isRaw 24 = .ok (.goto 4, 3) := by decide +kernel
theorem dX11_isRaw_27 : decode cX11_isRaw 27 = .ok (.iconst 0, 1) := by decide +kernel
theorem dX11_isRaw_28 : decode cX11_isRaw 28 = .ok (.ireturn, 1) := by decide +kernel
set_option maxRecDepth 20000 in
theorem ggX11_ends_X11_kindOf : GoodIn wsX11_ends wsX11_kindOf := goodIn_r _ [6] (by decide +kernel) (by decide +kernel)
set_option maxRecDepth 20000 in
theorem gX11_ends_X11_kindOf : GoodIn wsX11_ends (va_wsS RX11 212 yX11_kindOf wsX11_kindOf) := goodIn_app (goodIn_of _ (by decide +kernel)) ggX11_ends_X11_kindOf
theorem dX11_ends_0 : decode cX11_ends 0 = .ok (.iload_n 1, 1) := by decide +kernel
theorem dX11_ends_1 : decode cX11_ends 1 = .ok (.aload_n 0, 1) := by decide +kernel
theorem dX11_ends_2 : decode cX11_ends 2 = .ok (.getfield 237, 3) := by decide +kernel
theorem dX11_ends_5 : decode cX11_ends 5 = .ok (.iconst 1, 1) := by decide +kernel
theorem dX11_ends_6 : decode cX11_ends 6 = .ok (.isub, 1) := by decide +kernel
theorem dX11_ends_7 : decode cX11_ends 7 = .ok (.if_icmp .eq 12, 3) := by decide +kernel
theorem dX11_ends_10 : decode cX11_ends 10 = .ok (.aload_n 0, 1) := by decide +kernel
theorem dX11_ends_11 : decode cX11_ends 11 = .ok (.getfield 119, 3) := by decide +kernel
theorem dX11_ends_14 : decode cX11_ends 14 = .ok (.iconst 4, 1) := by decide +kernel
theorem dX11_ends_15 : decode cX11_ends 15 = .ok (.iand, 1) := by decide +kernel
theorem dX11_ends_16 : decode cX11_ends 16 = .ok (.ifCond .eq 5, 3) := by decide +kernel
theorem dX11_ends_19 : decode cX11_ends 19 = .ok (.iconst 1, 1) := by decide +kernel
theorem dX11_ends_20 : decode cX11_ends 20 = .ok (.ireturn, 1) := by decide +kernel
theorem dX11_ends_21 : decode cX11_ends 21 = .ok (.aload_n 0, 1) := by decide +kernel
theorem dX11_ends_22 : decode cX11_ends 22 = .ok (.getfield 119, 3) := by decide +kernel
theorem dX11_ends_25 : decode cX11_ends 25 = .ok (.iconst 1, 1) := by decide +kernel
theorem dX11_ends_26 : decode cX11_ends 26 = .ok (.iand, 1) := by decide +kernel
theorem dX11_ends_27 : decode cX11_ends 27 = .ok (.ifCond .eq 35, 3) := by decide +kernel
theorem dX11_ends_30 : decode cX11_ends 30 = .ok (.iload_n 1, 1) := by decide +kernel
theorem dX11_ends_31 : decode cX11_ends 31 = .ok (.invokestatic 212, 3) := by decide +kernel
theorem dX11_ends_34 : decode cX11_ends 34 = .ok (.iconst 2, 1) := by decide +kernel
theorem dX11_ends_35 : decode cX11_ends 35 = .ok (.if_icmp .ne 9, 3) := by decide +kernel
theorem dX11_ends_38 : decode cX11_ends 38 = .ok (.iload_n 1, 1) := by decide +kernel
theorem dX11_ends_39 : decode cX11_ends 39 = .ok (.bipush 8, 2) := by decide +kernel
theorem dX11_ends_41 : decode cX11_ends 41 = .ok (.if_icmp .gt 17, 3) := by decide +kernel
theorem dX11_ends_44 : decode cX11_ends 44 = .ok (.iload_n 1, 1) := by decide +kernel
theorem dX11_ends_45 : decode cX11_ends 45 = .ok (.invokestatic 212, 3) := by decide +kernel
theorem dX11_ends_48 : decode cX11_ends 48 = .ok (.iconst 1, 1) := by decide +kernel
theorem dX11_ends_49 : decode cX11_ends 49 = .ok (.if_icmp .ne 13, 3) := by decide +kernel
theorem dX11_ends_52 : decode cX11_ends 52 = .ok (.iload_n 1, 1) := by decide +kernel
theorem dX11_ends_53 : decode cX11_ends 53 = .ok (.bipush 9, 2) := by decide +kernel
theorem dX11_ends_55 : decode cX11_ends 55 = .ok (.if_icmp .le 7, 3) := by decide +kernel
theorem dX11_ends_58 : decode cX11_ends 58 = .ok (.iconst 1, 1) := by decide +kernel
theorem dX11_ends_59 : decode cX11_ends 59 = .ok (.goto 4, 3) := by decide +kernel
theorem dX11_ends_62 : decode cX11_ends 62 = .ok (.iconst 0, 1) := by decide +kernel
theorem dX11_ends_63 : decode cX11_ends 63 = .ok (.ireturn, 1) := by decide +kernel
theorem dX11_clearKnown_0 : decode cX11_clearKnown 0 = .ok (.iconst 0, 1) := by decide +kernel
theorem dX11_clearKnown_1 : decode cX11_clearKnown 1 = .ok (.istore_n 1, 1) := by decide +kernel
theorem dX11_clearKnown_2 : decode cX11_clearKnown 2 = .ok (.iload_n 1, 1) := by decide +kernel
theorem dX11_clearKnown_3 : decode cX11_clearKnown 3 = .ok (.sipush 4096, 3) := by decide +kernel
theorem dX11_clearKnown_6 : decode cX11_clearKnown 6 = .ok (.if_icmp .ge 44, 3) := by decide +kernel
theorem dX11_clearKnown_9 : decode cX11_clearKnown 9 = .ok (.aload_n 0, 1) := by decide +kernel
theorem dX11_clearKnown_10 : decode cX11_clearKnown 10 = .ok (.getfield 46, 3) := by decide +kernel
theorem dX11_clearKnown_13 : decode cX11_clearKnown 13 = .ok (.iload_n 1, 1) := by decide +kernel
