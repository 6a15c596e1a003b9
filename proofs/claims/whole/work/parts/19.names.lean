theorem dX11_openRead_5 : decode cX11_openRead 5 = .ok (.aload_n 0, 1) := by decide +kernel
theorem dX11_openRead_6 : decode cX11_openRead 6 = .ok (.iload_n 2, 1) := by decide +kernel
theorem dX11_openRead_7 : decode cX11_openRead 7 = .ok (.putfield 126, 3) := by decide +kernel
theorem dX11_openRead_10 : decode cX11_openRead 10 = .ok (.aload_n 0, 1) := by decide +kernel
theorem dX11_openRead_11 : decode cX11_openRead 11 = .ok (.iconst 0, 1) := by decide +kernel
theorem dX11_openRead_12 : decode cX11_openRead 12 = .ok (.putfield 132, 3) := by decide +kernel
theorem dX11_openRead_15 : decode cX11_openRead 15 = .ok (.aload_n 0, 1) := by decide +kernel
theorem dX11_openRead_16 : decode cX11_openRead 16 = .ok (.iconst 0, 1) := by decide +kernel
theorem dX11_openRead_17 : decode cX11_openRead 17 = .ok (.putfield 135, 3) := by decide +kernel
theorem dX11_openRead_20 : decode cX11_openRead 20 = .ok (.aload_n 0, 1) := by decide +kernel
theorem dX11_openRead_21 : decode cX11_openRead 21 = .ok (.iconst 0, 1) := by decide +kernel
theorem dX11_openRead_22 : decode cX11_openRead 22 = .ok (.putfield 84, 3) := by decide +kernel
theorem dX11_openRead_25 : decode cX11_openRead 25 = .ok (.aload_n 0, 1) := by decide +kernel
theorem dX11_openRead_26 : decode cX11_openRead 26 = .ok (.getfield 113, 3) := by decide +kernel
theorem dX11_openRead_29 : decode cX11_openRead 29 = .ok (.ifCond .eq 4, 3) := by decide +kernel
theorem dX11_openRead_32 : decode cX11_openRead 32 = .ok (.return_, 1) := by decide +kernel
theorem dX11_openRead_33 : decode cX11_openRead 33 = .ok (.aload_n 0, 1) := by decide +kernel
theorem dX11_openRead_34 : decode cX11_openRead 34 = .ok (.ldc 104, 2) := by decide +kernel
theorem dX11_openRead_36 : decode cX11_openRead 36 = .ok (.putfield 101, 3) := by decide +kernel
theorem dX11_openRead_39 : decode cX11_openRead 39 = .ok (.aload_n 0, 1) := by decide +kernel
theorem dX11_openRead_40 : decode cX11_openRead 40 = .ok (.aload_n 0, 1) := by decide +kernel
theorem dX11_openRead_41 : decode cX11_openRead 41 = .ok (.iconst 0, 1) := by decide +kernel
theorem dX11_openRead_42 : decode cX11_openRead 42 = .ok (.invokevirtual 138, 3) := by decide +kernel
theorem dX11_openRead_45 : decode cX11_openRead 45 = .ok (.putfield 135, 3) := by decide +kernel
theorem dX11_openRead_48 : decode cX11_openRead 48 = .ok (.aload_n 0, 1) := by decide +kernel
theorem dX11_openRead_49 : decode cX11_openRead 49 = .ok (.iconst 1, 1) := by decide +kernel
theorem dX11_openRead_50 : decode cX11_openRead 50 = .ok (.putfield 132, 3) := by decide +kernel
theorem dX11_openRead_53 : decode cX11_openRead 53 = .ok (.aload_n 0, 1) := by decide +kernel
theorem dX11_openRead_54 : decode cX11_openRead 54 = .ok (.getfield 135, 3) := by decide +kernel
theorem dX11_openRead_57 : decode cX11_openRead 57 = .ok (.i2l, 1) := by decide +kernel
theorem dX11_openRead_58 : decode cX11_openRead 58 = .ok (.bipush 16, 2) := by decide +kernel
theorem dX11_openRead_60 : decode cX11_openRead 60 = .ok (.lshl, 1) := by decide +kernel
theorem dX11_openRead_61 : decode cX11_openRead 61 = .ok (.lstore_n 3, 1) := by decide +kernel
theorem dX11_openRead_62 : decode cX11_openRead 62 = .ok (.lload_n 3, 1) := by decide +kernel
theorem dX11_openRead_63 : decode cX11_openRead 63 = .ok (.aload_n 0, 1) := by decide +kernel
theorem dX11_openRead_64 : decode cX11_openRead 64 = .ok (.invokevirtual 142, 3) := by decide +kernel
theorem dX11_openRead_67 : decode cX11_openRead 67 = .ok (.i2l, 1) := by decide +kernel
theorem dX11_openRead_68 : decode cX11_openRead 68 = .ok (.ladd, 1) := by decide +kernel
theorem dX11_openRead_69 : decode cX11_openRead 69 = .ok (.bipush 7, 2) := by decide +kernel
theorem dX11_openRead_71 : decode cX11_openRead 71 = .ok (.lshl, 1) := by decide +kernel
theorem dX11_openRead_72 : decode cX11_openRead 72 = .ok (.lstore_n 3, 1) := by decide +kernel
theorem dX11_openRead_73 : decode cX11_openRead 73 = .ok (.aload_n 0, 1) := by decide +kernel
theorem dX11_openRead_74 : decode cX11_openRead 74 = .ok (.ldc2_w 145, 3) := by decide +kernel
theorem dX11_openRead_77 : decode cX11_openRead 77 = .ok (.lload_n 3, 1) := by decide +kernel
theorem dX11_openRead_78 : decode cX11_openRead 78 = .ok (.lsub, 1) := by decide +kernel
theorem dX11_openRead_79 : decode cX11_openRead 79 = .ok (.putfield 147, 3) := by decide +kernel
theorem dX11_openRead_82 : decode cX11_openRead 82 = .ok (.aload_n 0, 1) := by decide +kernel
theorem dX11_openRead_83 : decode cX11_openRead 83 = .ok (.aload_n 0, 1) := by decide +kernel
theorem dX11_openRead_84 : decode cX11_openRead 84 = .ok (.getfield 84, 3) := by decide +kernel
theorem dX11_openRead_87 : decode cX11_openRead 87 = .ok (.bipush 7, 2) := by decide +kernel
theorem dX11_openRead_89 : decode cX11_openRead 89 = .ok (.isub, 1) := by decide +kernel
theorem dX11_openRead_90 : decode cX11_openRead 90 = .ok (.putfield 84, 3) := by decide +kernel
theorem dX11_openRead_93 : decode cX11_openRead 93 = .ok (.return_, 1) := by decide +kernel
set_option maxRecDepth 20000 in
theorem ggX11_comesIn_X11_byteAt : GoodIn wsX11_comesIn wsX11_byteAt := goodIn_r _ [9, 10, 11, 12, 13, 14, 15, 16, 17, 18, 19, 20, 21, 22, 23, 24, 25, 26, 27, 28, 29, 30, 31, 32, 33, 34, 35, 36, 37, 38, 39, 40, 41, 42, 43, 44, 45, 46, 47, 48, 49, 50, 51, 52, 53, 54] (by decide +kernel) (by decide +kernel)
set_option maxRecDepth 20000 in
theorem gX11_comesIn_X11_byteAt : GoodIn wsX11_comesIn (wsV RX11 138 RX11 yX11_byteAt wsX11_byteAt) := goodIn_app (goodIn_of _ (by decide +kernel)) ggX11_comesIn_X11_byteAt
theorem dX11_comesIn_0 : decode cX11_comesIn 0 = .ok (.aload_n 0, 1) := by decide +kernel
theorem dX11_comesIn_1 : decode cX11_comesIn 1 = .ok (.bipush 8, 2) := by decide +kernel
theorem dX11_comesIn_3 : decode cX11_comesIn 3 = .ok (.putfield 84, 3) := by decide +kernel
theorem dX11_comesIn_6 : decode cX11_comesIn 6 = .ok (.aload_n 0, 1) := by decide +kernel
theorem dX11_comesIn_7 : decode cX11_comesIn 7 = .ok (.getfield 135, 3) := by decide +kernel
theorem dX11_comesIn_10 : decode cX11_comesIn 10 = .ok (.sipush 255, 3) := by decide +kernel
theorem dX11_comesIn_13 : decode cX11_comesIn 13 = .ok (.if_icmp .ne 20, 3) := by decide +kernel
theorem dX11_comesIn_16 : decode cX11_comesIn 16 = .ok (.aload_n 0, 1) := by decide +kernel
theorem dX11_comesIn_17 : decode cX11_comesIn 17 = .ok (.aload_n 0, 1) := by decide +kernel
theorem dX11_comesIn_18 : decode cX11_comesIn 18 = .ok (.getfield 132, 3) := by decide +kernel
theorem dX11_comesIn_21 : decode cX11_comesIn 21 = .ok (.invokevirtual 138, 3) := by decide +kernel
theorem dX11_comesIn_24 : decode cX11_comesIn 24 = .ok (.sipush 143, 3) := by decide +kernel
theorem dX11_comesIn_27 : decode cX11_comesIn 27 = .ok (.if_icmp .le 6, 3) := by decide +kernel
theorem dX11_comesIn_30 : decode cX11_comesIn 30 = .ok (.ldc 151, 2) := by decide +kernel
theorem dX11_comesIn_32 : decode cX11_comesIn 32 = .ok (.ireturn, 1) := by decide +kernel
theorem dX11_comesIn_33 : decode cX11_comesIn 33 = .ok (.aload_n 0, 1) := by decide +kernel
theorem dX11_comesIn_34 : decode cX11_comesIn 34 = .ok (.aload_n 0, 1) := by decide +kernel
theorem dX11_comesIn_35 : decode cX11_comesIn 35 = .ok (.getfield 135, 3) := by decide +kernel
theorem dX11_comesIn_38 : decode cX11_comesIn 38 = .ok (.sipush 255, 3) := by decide +kernel
theorem dX11_comesIn_41 : decode cX11_comesIn 41 = .ok (.if_icmp .ne 8, 3) := by decide +kernel
theorem dX11_comesIn_44 : decode cX11_comesIn 44 = .ok (.bipush 7, 2) := by decide +kernel
theorem dX11_comesIn_46 : decode cX11_comesIn 46 = .ok (.goto 5, 3) := by decide +kernel
theorem dX11_comesIn_49 : decode cX11_comesIn 49 = .ok (.bipush 8, 2) := by decide +kernel
theorem dX11_comesIn_51 : decode cX11_comesIn 51 = .ok (.putfield 84, 3) := by decide +kernel
theorem dX11_comesIn_54 : decode cX11_comesIn 54 = .ok (.aload_n 0, 1) := by decide +kernel
theorem dX11_comesIn_55 : decode cX11_comesIn 55 = .ok (.aload_n 0, 1) := by decide +kernel
theorem dX11_comesIn_56 : decode cX11_comesIn 56 = .ok (.aload_n 0, 1) := by decide +kernel
theorem dX11_comesIn_57 : decode cX11_comesIn 57 = .ok (.getfield 132, 3) := by decide +kernel
theorem dX11_comesIn_60 : decode cX11_comesIn 60 = .ok (.invokevirtual 138, 3) := by decide +kernel
theorem dX11_comesIn_63 : decode cX11_comesIn 63 = .ok (.putfield 135, 3) := by decide +kernel
theorem dX11_comesIn_66 : decode cX11_comesIn 66 = .ok (.aload_n 0, 1) := by decide +kernel
theorem dX11_comesIn_67 : decode cX11_comesIn 67 = .ok (.dup, 1) := by decide +kernel
theorem dX11_comesIn_68 : decode cX11_comesIn 68 = .ok (.getfield 132, 3) := by decide +kernel
theorem dX11_comesIn_71 : decode cX11_comesIn 71 = .ok (.iconst 1, 1) := by decide +kernel
theorem dX11_comesIn_72 : decode cX11_comesIn 72 = .ok (.iadd, 1) := by decide +kernel
theorem dX11_comesIn_73 : decode cX11_comesIn 73 = .ok (.putfield 132, 3) := by decide +kernel
theorem dX11_comesIn_76 : decode cX11_comesIn 76 = .ok (.aload_n 0, 1) := by decide +kernel
theorem dX11_comesIn_77 : decode cX11_comesIn 77 = .ok (.getfield 135, 3) := by decide +kernel
theorem dX11_comesIn_80 : decode cX11_comesIn 80 = .ok (.bipush 16, 2) := by decide +kernel
theorem dX11_comesIn_82 : decode cX11_comesIn 82 = .ok (.aload_n 0, 1) := by decide +kernel
theorem dX11_comesIn_83 : decode cX11_comesIn 83 = .ok (.getfield 84, 3) := by decide +kernel
theorem dX11_comesIn_86 : decode cX11_comesIn 86 = .ok (.isub, 1) := by decide +kernel
theorem dX11_comesIn_87 : decode cX11_comesIn 87 = .ok (.ishl, 1) := by decide +kernel
theorem dX11_comesIn_88 : decode cX11_comesIn 88 = .ok (.ireturn, 1) := by decide +kernel
theorem dX11_round_0 : decode cX11_round 0 = .ok (.aload_n 0, 1) := by decide +kernel
theorem dX11_round_1 : decode cX11_round 1 = .ok (.getfield 101, 3) := by decide +kernel
theorem dX11_round_4 : decode cX11_round 4 = .ok (.i2l, 1) := by decide +kernel
theorem dX11_round_5 : decode cX11_round 5 = .ok (.bipush 16, 2) := by decide +kernel
theorem dX11_round_7 : decode cX11_round 7 = .ok (.lshl, 1) := by decide +kernel
theorem dX11_round_8 : decode cX11_round 8 = .ok (.lconst 1, 1) := by decide +kernel
theorem dX11_round_9 : decode cX11_round 9 = .ok (.lsub, 1) := by decide +kernel
theorem dX11_round_10 : decode cX11_round 10 = .ok (.aload_n 0, 1) := by decide +kernel
theorem dX11_round_11 : decode cX11_round 11 = .ok (.getfield 147, 3) := by decide +kernel
theorem dX11_round_14 : decode cX11_round 14 = .ok (.lsub, 1) := by decide +kernel
theorem dX11_round_15 : decode cX11_round 15 = .ok (.bipush 32, 2) := by decide +kernel
theorem dX11_round_17 : decode cX11_round 17 = .ok (.lshr, 1) := by decide +kernel
theorem dX11_round_18 : decode cX11_round 18 = .ok (.lconst 0, 1) := by decide +kernel
theorem dX11_round_19 : decode cX11_round 19 = .ok (.lcmp, 1) := by decide +kernel
theorem dX11_round_20 : decode cX11_round 20 = .ok (.ifCond .eq 15, 3) := by decide +kernel
theorem dX11_round_23 : decode cX11_round 23 = .ok (.aload_n 0, 1) := by decide +kernel
theorem dX11_round_24 : decode cX11_round 24 = .ok (.aload_n 0, 1) := by decide +kernel
theorem dX11_round_25 : decode cX11_round 25 = .ok (.getfield 147, 3) := by decide +kernel
theorem dX11_round_28 : decode cX11_round 28 = .ok (.ldc2_w 152, 3) := by decide +kernel
theorem dX11_round_31 : decode cX11_round 31 = .ok (.ladd, 1) := by decide +kernel
theorem dX11_round_32 : decode cX11_round 32 = .ok (.putfield 147, 3) := by decide +kernel
theorem dX11_round_35 : decode cX11_round 35 = .ok (.return_, 1) := by decide +kernel
set_option maxRecDepth 20000 in
theorem ggX11_readCoded_X11_changeContext : GoodIn wsX11_readCoded wsX11_changeContext := goodIn_r _ [13, 2, 3, 14, 34, 35, 36, 37, 38, 39, 40, 41, 42, 43, 44, 45, 46, 47, 48, 49, 50, 51, 52, 53, 54, 55, 56, 57, 58, 59, 60, 61, 62, 63, 64, 65, 66, 67, 68, 69, 70, 71, 72, 73, 74, 75] (by decide +kernel) (by decide +kernel)
set_option maxRecDepth 20000 in
theorem gX11_readCoded_X11_changeContext : GoodIn wsX11_readCoded (wsV RX11 109 RX11 yX11_changeContext wsX11_changeContext) := goodIn_app (goodIn_of _ (by decide +kernel)) ggX11_readCoded_X11_changeContext
set_option maxRecDepth 20000 in
theorem ggX11_readCoded_X11_comesIn : GoodIn wsX11_readCoded wsX11_comesIn := goodIn_r _ [18, 7, 19, 20, 21, 22, 23, 24, 12, 25, 26, 27, 28, 34, 35, 36, 37, 38, 39, 40, 41, 42, 43, 44, 45, 46, 47, 48, 49, 50, 51, 52, 53, 54, 55, 56, 57, 58, 59, 60, 61, 62, 63, 64, 65, 66, 67, 68, 69, 70, 71, 72, 73, 74, 75] (by decide +kernel) (by decide +kernel)
set_option maxRecDepth 20000 in
theorem gX11_readCoded_X11_comesIn : GoodIn wsX11_readCoded (wsV RX11 142 RX11 yX11_comesIn wsX11_comesIn) := goodIn_app (goodIn_of _ (by decide +kernel)) ggX11_readCoded_X11_comesIn
set_option maxRecDepth 20000 in
theorem ggX11_readCoded_X11_round : GoodIn wsX11_readCoded wsX11_round := goodIn_r _ [32, 4, 5, 33, 34, 35, 36, 37, 38, 39, 40, 41, 42, 43, 44, 45, 46, 47, 48, 49, 50, 51, 52, 53, 54, 55, 56, 57, 58, 59, 60, 61, 62, 63, 64, 65, 66, 67, 68, 69, 70, 71, 72, 73, 74, 75] (by decide +kernel) (by decide +kernel)
set_option maxRecDepth 20000 in
theorem gX11_readCoded_X11_round : GoodIn wsX11_readCoded (wsV RX11 154 RX11 yX11_round wsX11_round) := goodIn_app (goodIn_of _ (by decide +kernel)) ggX11_readCoded_X11_round
theorem dX11_readCoded_0 : decode cX11_readCoded 0 = .ok (.aload_n 0, 1) := by decide +kernel
theorem dX11_readCoded_1 : decode cX11_readCoded 1 = .ok (.getfield 7, 3) := by decide +kernel
theorem dX11_readCoded_4 : decode cX11_readCoded 4 = .ok (.aload_n 0, 1) := by decide +kernel
theorem dX11_readCoded_5 : decode cX11_readCoded 5 = .ok (.getfield 61, 3) := by decide +kernel
theorem dX11_readCoded_8 : decode cX11_readCoded 8 = .ok (.iload_n 1, 1) := by decide +kernel
theorem dX11_readCoded_9 : decode cX11_readCoded 9 = .ok (.iaload, 1) := by decide +kernel
theorem dX11_readCoded_10 : decode cX11_readCoded 10 = .ok (.iaload, 1) := by decide +kernel
theorem dX11_readCoded_11 : decode cX11_readCoded 11 = .ok (.istore_n 2, 1) := by decide +kernel
theorem dX11_readCoded_12 : decode cX11_readCoded 12 = .ok (.aload_n 0, 1) := by decide +kernel
theorem dX11_readCoded_13 : decode cX11_readCoded 13 = .ok (.getfield 64, 3) := by decide +kernel
theorem dX11_readCoded_16 : decode cX11_readCoded 16 = .ok (.iload_n 1, 1) := by decide +kernel
theorem dX11_readCoded_17 : decode cX11_readCoded 17 = .ok (.iaload, 1) := by decide +kernel
theorem dX11_readCoded_18 : decode cX11_readCoded 18 = .ok (.istore_n 3, 1) := by decide +kernel
theorem dX11_readCoded_19 : decode cX11_readCoded 19 = .ok (.aload_n 0, 1) := by decide +kernel
theorem dX11_readCoded_20 : decode cX11_readCoded 20 = .ok (.aload_n 0, 1) := by decide +kernel
theorem dX11_readCoded_21 : decode cX11_readCoded 21 = .ok (.getfield 101, 3) := by decide +kernel
theorem dX11_readCoded_24 : decode cX11_readCoded 24 = .ok (.iload_n 2, 1) := by decide +kernel
theorem dX11_readCoded_25 : decode cX11_readCoded 25 = .ok (.isub, 1) := by decide +kernel
theorem dX11_readCoded_26 : decode cX11_readCoded 26 = .ok (.putfield 101, 3) := by decide +kernel
theorem dX11_readCoded_29 : decode cX11_readCoded 29 = .ok (.aload_n 0, 1) := by decide +kernel
theorem dX11_readCoded_30 : decode cX11_readCoded 30 = .ok (.getfield 147, 3) := by decide +kernel
theorem dX11_readCoded_33 : decode cX11_readCoded 33 = .ok (.aload_n 0, 1) := by decide +kernel
theorem dX11_readCoded_34 : decode cX11_readCoded 34 = .ok (.getfield 101, 3) := by decide +kernel
theorem dX11_readCoded_37 : decode cX11_readCoded 37 = .ok (.i2l, 1) := by decide +kernel
theorem dX11_readCoded_38 : decode cX11_readCoded 38 = .ok (.bipush 16, 2) := by decide +kernel
theorem dX11_readCoded_40 : decode cX11_readCoded 40 = .ok (.lshl, 1) := by decide +kernel
theorem dX11_readCoded_41 : decode cX11_readCoded 41 = .ok (.lcmp, 1) := by decide +kernel
theorem dX11_readCoded_42 : decode cX11_readCoded 42 = .ok (.ifCond .lt 7, 3) := by decide +kernel
theorem dX11_readCoded_45 : decode cX11_readCoded 45 = .ok (.iconst 1, 1) := by decide +kernel
theorem dX11_readCoded_46 : decode cX11_readCoded 46 = .ok (.goto 4, 3) := by decide +kernel
theorem dX11_readCoded_49 : decode cX11_readCoded 49 = .ok (.iconst 0, 1) := by decide +kernel
theorem dX11_readCoded_50 : decode cX11_readCoded 50 = .ok (.istore 4, 2) := by decide +kernel
theorem dX11_readCoded_52 : decode cX11_readCoded 52 = .ok (.iload 4, 2) := by decide +kernel
theorem dX11_readCoded_54 : decode cX11_readCoded 54 = .ok (.ifCond .ne 14, 3) := by decide +kernel
theorem dX11_readCoded_57 : decode cX11_readCoded 57 = .ok (.aload_n 0, 1) := by decide +kernel
theorem dX11_readCoded_58 : decode cX11_readCoded 58 = .ok (.getfield 101, 3) := by decide +kernel
theorem dX11_readCoded_61 : decode cX11_readCoded 61 = .ok (.ldc 104, 2) := by decide +kernel
theorem dX11_readCoded_63 : decode cX11_readCoded 63 = .ok (.if_icmp .lt 5, 3) := by decide +kernel
theorem dX11_readCoded_66 : decode cX11_readCoded 66 = .ok (.iload_n 3, 1) := by decide +kernel
theorem dX11_readCoded_67 : decode cX11_readCoded 67 = .ok (.ireturn, 1) := by decide +kernel
theorem dX11_readCoded_68 : decode cX11_readCoded 68 = .ok (.iload 4, 2) := by decide +kernel
theorem dX11_readCoded_70 : decode cX11_readCoded 70 = .ok (.aload_n 0, 1) := by decide +kernel
theorem dX11_readCoded_71 : decode cX11_readCoded 71 = .ok (.getfield 101, 3) := by decide +kernel
theorem dX11_readCoded_74 : decode cX11_readCoded 74 = .ok (.iload_n 2, 1) := by decide +kernel
theorem dX11_readCoded_75 : decode cX11_readCoded 75 = .ok (.if_icmp .ge 7, 3) := by decide +kernel
theorem dX11_readCoded_78 : decode cX11_readCoded 78 = .ok (.iconst 1, 1) := by decide +kernel
theorem dX11_readCoded_79 : decode cX11_readCoded 79 = .ok (.goto 4, 3) := by decide +kernel
theorem dX11_readCoded_82 : decode cX11_readCoded 82 = .ok (.iconst 0, 1) := by decide +kernel
theorem dX11_readCoded_83 : decode cX11_readCoded 83 = .ok (.if_icmp .ne 7, 3) := by decide +kernel
theorem dX11_readCoded_86 : decode cX11_readCoded 86 = .ok (.iconst 1, 1) := by decide +kernel
theorem dX11_readCoded_87 : decode cX11_readCoded 87 = .ok (.goto 4, 3) := by decide +kernel
theorem dX11_readCoded_90 : decode cX11_readCoded 90 = .ok (.iconst 0, 1) := by decide +kernel
theorem dX11_readCoded_91 : decode cX11_readCoded 91 = .ok (.istore 5, 2) := by decide +kernel
theorem dX11_readCoded_93 : decode cX11_readCoded 93 = .ok (.iload 4, 2) := by decide +kernel
theorem dX11_readCoded_95 : decode cX11_readCoded 95 = .ok (.ifCond .eq 25, 3) := by decide +kernel
theorem dX11_readCoded_98 : decode cX11_readCoded 98 = .ok (.aload_n 0, 1) := by decide +kernel
theorem dX11_readCoded_99 : decode cX11_readCoded 99 = .ok (.aload_n 0, 1) := by decide +kernel
theorem dX11_readCoded_100 : decode cX11_readCoded 100 = .ok (.getfield 147, 3) := by decide +kernel
theorem dX11_readCoded_103 : decode cX11_readCoded 103 = .ok (.aload_n 0, 1) := by decide +kernel
theorem dX11_readCoded_104 : decode cX11_readCoded 104 = .ok (.getfield 101, 3) := by decide +kernel
theorem dX11_readCoded_107 : decode cX11_readCoded 107 = .ok (.i2l, 1) := by decide +kernel
theorem dX11_readCoded_108 : decode cX11_readCoded 108 = .ok (.bipush 16, 2) := by decide +kernel
theorem dX11_readCoded_110 : decode cX11_readCoded 110 = .ok (.lshl, 1) := by decide +kernel
theorem dX11_readCoded_111 : decode cX11_readCoded 111 = .ok (.lsub, 1) := by decide +kernel
theorem dX11_readCoded_112 : decode cX11_readCoded 112 = .ok (.putfield 147, 3) := by decide +kernel
theorem dX11_readCoded_115 : decode cX11_readCoded 115 = .ok (.aload_n 0, 1) := by decide +kernel
theorem dX11_readCoded_116 : decode cX11_readCoded 116 = .ok (.iload_n 2, 1) := by decide +kernel
theorem dX11_readCoded_117 : decode cX11_readCoded 117 = .ok (.putfield 101, 3) := by decide +kernel
theorem dX11_readCoded_120 : decode cX11_readCoded 120 = .ok (.aload_n 0, 1) := by decide +kernel
theorem dX11_readCoded_121 : decode cX11_readCoded 121 = .ok (.iload_n 1, 1) := by decide +kernel
theorem dX11_readCoded_122 : decode cX11_readCoded 122 = .ok (.iload 5, 2) := by decide +kernel
theorem dX11_readCoded_124 : decode cX11_readCoded 124 = .ok (.invokevirtual 109, 3) := by decide +kernel
theorem dX11_readCoded_127 : decode cX11_readCoded 127 = .ok (.aload_n 0, 1) := by decide +kernel
theorem dX11_readCoded_128 : decode cX11_readCoded 128 = .ok (.getfield 101, 3) := by decide +kernel
theorem dX11_readCoded_131 : decode cX11_readCoded 131 = .ok (.ldc 104, 2) := by decide +kernel
theorem dX11_readCoded_133 : decode cX11_readCoded 133 = .ok (.if_icmp .ge 72, 3) := by decide +kernel
theorem dX11_readCoded_136 : decode cX11_readCoded 136 = .ok (.aload_n 0, 1) := by decide +kernel
theorem dX11_readCoded_137 : decode cX11_readCoded 137 = .ok (.getfield 84, 3) := by decide +kernel
theorem dX11_readCoded_140 : decode cX11_readCoded 140 = .ok (.ifCond .ne 21, 3) := by decide +kernel
theorem dX11_readCoded_143 : decode cX11_readCoded 143 = .ok (.aload_n 0, 1) := by decide +kernel
theorem dX11_readCoded_144 : decode cX11_readCoded 144 = .ok (.aload_n 0, 1) := by decide +kernel
theorem dX11_readCoded_145 : decode cX11_readCoded 145 = .ok (.getfield 147, 3) := by decide +kernel
theorem dX11_readCoded_148 : decode cX11_readCoded 148 = .ok (.aload_n 0, 1) := by decide +kernel
theorem dX11_readCoded_149 : decode cX11_readCoded 149 = .ok (.invokevirtual 142, 3) := by decide +kernel
theorem dX11_readCoded_152 : decode cX11_readCoded 152 = .ok (.i2l, 1) := by decide +kernel
theorem dX11_readCoded_153 : decode cX11_readCoded 153 = .ok (.lsub, 1) := by decide +kernel
theorem dX11_readCoded_154 : decode cX11_readCoded 154 = .ok (.putfield 147, 3) := by decide +kernel
theorem dX11_readCoded_157 : decode cX11_readCoded 157 = .ok (.aload_n 0, 1) := by decide +kernel
theorem dX11_readCoded_158 : decode cX11_readCoded 158 = .ok (.invokevirtual 154, 3) := by decide +kernel
theorem dX11_readCoded_161 : decode cX11_readCoded 161 = .ok (.aload_n 0, 1) := by decide +kernel
theorem dX11_readCoded_162 : decode cX11_readCoded 162 = .ok (.aload_n 0, 1) := by decide +kernel
theorem dX11_readCoded_163 : decode cX11_readCoded 163 = .ok (.getfield 101, 3) := by decide +kernel
theorem dX11_readCoded_166 : decode cX11_readCoded 166 = .ok (.aload_n 0, 1) := by decide +kernel
theorem dX11_readCoded_167 : decode cX11_readCoded 167 = .ok (.getfield 101, 3) := by decide +kernel
theorem dX11_readCoded_170 : decode cX11_readCoded 170 = .ok (.iadd, 1) := by decide +kernel
theorem dX11_readCoded_171 : decode cX11_readCoded 171 = .ok (.putfield 101, 3) := by decide +kernel
theorem dX11_readCoded_174 : decode cX11_readCoded 174 = .ok (.aload_n 0, 1) := by decide +kernel
theorem dX11_readCoded_175 : decode cX11_readCoded 175 = .ok (.ldc2_w 157, 3) := by decide +kernel
theorem dX11_readCoded_178 : decode cX11_readCoded 178 = .ok (.aload_n 0, 1) := by decide +kernel
theorem dX11_readCoded_179 : decode cX11_readCoded 179 = .ok (.getfield 147, 3) := by decide +kernel
theorem dX11_readCoded_182 : decode cX11_readCoded 182 = .ok (.lmul, 1) := by decide +kernel
theorem dX11_readCoded_183 : decode cX11_readCoded 183 = .ok (.lconst 1, 1) := by decide +kernel
theorem dX11_readCoded_184 : decode cX11_readCoded 184 = .ok (.ladd, 1) := by decide +kernel
theorem dX11_readCoded_185 : decode cX11_readCoded 185 = .ok (.putfield 147, 3) := by decide +kernel
theorem dX11_readCoded_188 : decode cX11_readCoded 188 = .ok (.aload_n 0, 1) := by decide +kernel
theorem dX11_readCoded_189 : decode cX11_readCoded 189 = .ok (.invokevirtual 154, 3) := by decide +kernel
theorem dX11_readCoded_192 : decode cX11_readCoded 192 = .ok (.aload_n 0, 1) := by decide +kernel
theorem dX11_readCoded_193 : decode cX11_readCoded 193 = .ok (.dup, 1) := by decide +kernel
theorem dX11_readCoded_194 : decode cX11_readCoded 194 = .ok (.getfield 84, 3) := by decide +kernel
theorem dX11_readCoded_197 : decode cX11_readCoded 197 = .ok (.iconst 1, 1) := by decide +kernel
theorem dX11_readCoded_198 : decode cX11_readCoded 198 = .ok (.isub, 1) := by decide +kernel
theorem dX11_readCoded_199 : decode cX11_readCoded 199 = .ok (.putfield 84, 3) := by decide +kernel
theorem dX11_readCoded_202 : decode cX11_readCoded 202 = .ok (.goto (-75), 3) := by decide +kernel
theorem dX11_readCoded_205 : decode cX11_readCoded 205 = .ok (.iload 5, 2) := by decide +kernel
theorem dX11_readCoded_207 : decode cX11_readCoded 207 = .ok (.ifCond .eq 7, 3) := by decide +kernel
theorem dX11_readCoded_210 : decode cX11_readCoded 210 = .ok (.iload_n 3, 1) := by decide +kernel
theorem dX11_readCoded_211 : decode cX11_readCoded 211 = .ok (.goto 6, 3) := by decide +kernel
theorem dX11_readCoded_214 : decode cX11_readCoded 214 = .ok (.iconst 1, 1) := by decide +kernel
theorem dX11_readCoded_215 : decode cX11_readCoded 215 = .ok (.iload_n 3, 1) := by decide +kernel
theorem dX11_readCoded_216 : decode cX11_readCoded 216 = .ok (.isub, 1) := by decide +kernel
theorem dX11_readCoded_217 : decode cX11_readCoded 217 = .ok (.ireturn, 1) := by decide +kernel
set_option maxRecDepth 20000 in
theorem ggX11_readRaw_X11_byteAt : GoodIn wsX11_readRaw wsX11_byteAt := goodIn_r _ [8, 9, 10, 11, 12, 13, 14, 15, 16, 17, 18, 19, 20, 21, 22, 23, 24, 25, 26, 27, 28, 29, 30, 31, 32, 33, 34, 35, 36, 37, 38, 39, 40, 41, 42, 43, 44, 45, 46, 47, 48, 49, 50, 51, 52, 53] (by decide +kernel) (by decide +kernel)
set_option maxRecDepth 20000 in
theorem gX11_readRaw_X11_byteAt : GoodIn wsX11_readRaw (wsV RX11 138 RX11 yX11_byteAt wsX11_byteAt) := goodIn_app (goodIn_of _ (by decide +kernel)) ggX11_readRaw_X11_byteAt
theorem dX11_readRaw_0 : decode cX11_readRaw 0 = .ok (.aload_n 0, 1) := by decide +kernel
theorem dX11_readRaw_1 : decode cX11_readRaw 1 = .ok (.getfield 84, 3) := by decide +kernel
theorem dX11_readRaw_4 : decode cX11_readRaw 4 = .ok (.ifCond .ne 53, 3) := by decide +kernel
theorem dX11_readRaw_7 : decode cX11_readRaw 7 = .ok (.aload_n 0, 1) := by decide +kernel
theorem dX11_readRaw_8 : decode cX11_readRaw 8 = .ok (.aload_n 0, 1) := by decide +kernel
theorem dX11_readRaw_9 : decode cX11_readRaw 9 = .ok (.getfield 132, 3) := by decide +kernel
theorem dX11_readRaw_12 : decode cX11_readRaw 12 = .ok (.ifCond .le 18, 3) := by decide +kernel
theorem dX11_readRaw_15 : decode cX11_readRaw 15 = .ok (.aload_n 0, 1) := by decide +kernel
theorem dX11_readRaw_16 : decode cX11_readRaw 16 = .ok (.getfield 135, 3) := by decide +kernel
theorem dX11_readRaw_19 : decode cX11_readRaw 19 = .ok (.sipush 255, 3) := by decide +kernel
theorem dX11_readRaw_22 : decode cX11_readRaw 22 = .ok (.if_icmp .ne 8, 3) := by decide +kernel
theorem dX11_readRaw_25 : decode cX11_readRaw 25 = .ok (.bipush 7, 2) := by decide +kernel
theorem dX11_readRaw_27 : decode cX11_readRaw 27 = .ok (.goto 5, 3) := by decide +kernel
theorem dX11_readRaw_30 : decode cX11_readRaw 30 = .ok (.bipush 8, 2) := by decide +kernel
theorem dX11_readRaw_32 : decode cX11_readRaw 32 = .ok (.putfield 84, 3) := by decide +kernel
theorem dX11_readRaw_35 : decode cX11_readRaw 35 = .ok (.aload_n 0, 1) := by decide +kernel
theorem dX11_readRaw_36 : decode cX11_readRaw 36 = .ok (.aload_n 0, 1) := by decide +kernel
theorem dX11_readRaw_37 : decode cX11_readRaw 37 = .ok (.aload_n 0, 1) := by decide +kernel
theorem dX11_readRaw_38 : decode cX11_readRaw 38 = .ok (.getfield 132, 3) := by decide +kernel
theorem dX11_readRaw_41 : decode cX11_readRaw 41 = .ok (.invokevirtual 138, 3) := by decide +kernel
theorem dX11_readRaw_44 : decode cX11_readRaw 44 = .ok (.putfield 135, 3) := by decide +kernel
theorem dX11_readRaw_47 : decode cX11_readRaw 47 = .ok (.aload_n 0, 1) := by decide +kernel
theorem dX11_readRaw_48 : decode cX11_readRaw 48 = .ok (.dup, 1) := by decide +kernel
theorem dX11_readRaw_49 : decode cX11_readRaw 49 = .ok (.getfield 132, 3) := by decide +kernel
theorem dX11_readRaw_52 : decode cX11_readRaw 52 = .ok (.iconst 1, 1) := by decide +kernel
theorem dX11_readRaw_53 : decode cX11_readRaw 53 = .ok (.iadd, 1) := by decide +kernel
theorem dX11_readRaw_54 : decode cX11_readRaw 54 = .ok (.putfield 132, 3) := by decide +kernel
theorem dX11_readRaw_57 : decode cX11_readRaw 57 = .ok (.aload_n 0, 1) := by decide +kernel
theorem dX11_readRaw_58 : decode cX11_readRaw 58 = .ok (.dup, 1) := by decide +kernel
theorem dX11_readRaw_59 : decode cX11_readRaw 59 = .ok (.getfield 84, 3) := by decide +kernel
theorem dX11_readRaw_62 : decode cX11_readRaw 62 = .ok (.iconst 1, 1) := by decide +kernel
theorem dX11_readRaw_63 : decode cX11_readRaw 63 = .ok (.isub, 1) := by decide +kernel
theorem dX11_readRaw_64 : decode cX11_readRaw 64 = .ok (.putfield 84, 3) := by decide +kernel
theorem dX11_readRaw_67 : decode cX11_readRaw 67 = .ok (.aload_n 0, 1) := by decide +kernel
theorem dX11_readRaw_68 : decode cX11_readRaw 68 = .ok (.getfield 135, 3) := by decide +kernel
theorem dX11_readRaw_71 : decode cX11_readRaw 71 = .ok (.aload_n 0, 1) := by decide +kernel
theorem dX11_readRaw_72 : decode cX11_readRaw 72 = .ok (.getfield 84, 3) := by decide +kernel
theorem dX11_readRaw_75 : decode cX11_readRaw 75 = .ok (.ishr, 1) := by decide +kernel
theorem dX11_readRaw_76 : decode cX11_readRaw 76 = .ok (.iconst 1, 1) := by decide +kernel
theorem dX11_readRaw_77 : decode cX11_readRaw 77 = .ok (.iand, 1) := by decide +kernel
theorem dX11_readRaw_78 : decode cX11_readRaw 78 = .ok (.ireturn, 1) := by decide +kernel
set_option maxRecDepth 20000 in
theorem ggX11_code_X11_readRaw : GoodIn wsX11_code wsX11_readRaw := goodIn_r _ [7, 8, 9, 10, 11, 12, 13, 6, 14, 15, 16, 17, 72, 73, 74, 75, 76, 77, 78, 79, 80, 81, 82, 83, 84, 85, 86, 87, 88, 89, 90, 91, 92, 93, 94, 95, 96, 97, 98, 99, 100, 101, 102, 103, 104, 105, 106, 107, 108, 109, 110, 111, 112, 113] (by decide +kernel) (by decide +kernel)
set_option maxRecDepth 20000 in
theorem gX11_code_X11_readRaw : GoodIn wsX11_code (wsV RX11 162 RX11 yX11_readRaw wsX11_readRaw) := goodIn_app (goodIn_of _ (by decide +kernel)) ggX11_code_X11_readRaw
set_option maxRecDepth 20000 in
theorem ggX11_code_X11_readCoded : GoodIn wsX11_code wsX11_readCoded := goodIn_r _ [21, 22, 23, 24, 25, 26, 27, 8, 28, 29, 30, 31, 6, 32, 33, 34, 35, 36, 37, 10, 9, 38, 11, 12, 13, 14, 15, 16, 17, 39, 40, 41, 42, 43, 72, 73, 74, 75, 76, 77, 78, 79, 80, 81, 82, 83, 84, 85, 86, 87, 88, 89, 90, 91, 92, 93, 94, 95, 96, 97, 98, 99, 100, 101, 102, 103, 104, 105, 106, 107, 108, 109, 110, 111, 112, 113] (by decide +kernel) (by decide +kernel)
set_option maxRecDepth 20000 in
theorem gX11_code_X11_readCoded : GoodIn wsX11_code (wsV RX11 165 RX11 yX11_readCoded wsX11_readCoded) := goodIn_app (goodIn_of _ (by decide +kernel)) ggX11_code_X11_readCoded
set_option maxRecDepth 20000 in
theorem ggX11_code_X11_writeRaw : GoodIn wsX11_code wsX11_writeRaw := goodIn_r _ [47, 8, 16, 48, 49, 50, 51, 6, 52, 53, 72, 73, 74, 75, 76, 77, 78, 79, 80, 81, 82, 83, 84, 85, 86, 87, 88, 89, 90, 91, 92, 93, 94, 95, 96, 97, 98, 99, 100, 101, 102, 103, 104, 105, 106, 107, 108, 109, 110, 111, 112, 113] (by decide +kernel) (by decide +kernel)
set_option maxRecDepth 20000 in
theorem gX11_code_X11_writeRaw : GoodIn wsX11_code (wsV RX11 116 RX11 yX11_writeRaw wsX11_writeRaw) := goodIn_app (goodIn_of _ (by decide +kernel)) ggX11_code_X11_writeRaw
set_option maxRecDepth 20000 in
theorem ggX11_code_X11_writeCoded : GoodIn wsX11_code wsX11_writeCoded := goodIn_r _ [57, 22, 23, 24, 25, 27, 58, 8, 59, 60, 61, 6, 62, 63, 64, 65, 66, 67, 48, 53, 16, 29, 30, 31, 32, 33, 68, 69, 70, 71, 49, 50, 51, 52, 72, 73, 74, 75, 76, 77, 78, 79, 80, 81, 82, 83, 84, 85, 86, 87, 88, 89, 90, 91, 92, 93, 94, 95, 96, 97, 98, 99, 100, 101, 102, 103, 104, 105, 106, 107, 108, 109, 110, 111, 112, 113] (by decide +kernel) (by decide +kernel)
set_option maxRecDepth 20000 in
theorem gX11_code_X11_writeCoded : GoodIn wsX11_code (wsV RX11 168 RX11 yX11_writeCoded wsX11_writeCoded) := goodIn_app (goodIn_of _ (by decide +kernel)) ggX11_code_X11_writeCoded
theorem dX11_code_0 : decode cX11_code 0 = .ok (.aload_n 0, 1) := by decide +kernel
theorem dX11_code_1 : decode cX11_code 1 = .ok (.getfield 159, 3) := by decide +kernel
theorem dX11_code_4 : decode cX11_code 4 = .ok (.ifCond .ne 23, 3) := by decide +kernel
theorem dX11_code_7 : decode cX11_code 7 = .ok (.aload_n 0, 1) := by decide +kernel
theorem dX11_code_8 : decode cX11_code 8 = .ok (.getfield 113, 3) := by decide +kernel
theorem dX11_code_11 : decode cX11_code 11 = .ok (.ifCond .eq 10, 3) := by decide +kernel
theorem dX11_code_14 : decode cX11_code 14 = .ok (.aload_n 0, 1) := by decide +kernel
theorem dX11_code_15 : decode cX11_code 15 = .ok (.invokevirtual 162, 3) := by decide +kernel
theorem dX11_code_18 : decode cX11_code 18 = .ok (.goto 8, 3) := by decide +kernel
theorem dX11_code_21 : decode cX11_code 21 = .ok (.aload_n 0, 1) := by decide +kernel
theorem dX11_code_22 : decode cX11_code 22 = .ok (.iload_n 1, 1) := by decide +kernel
theorem dX11_code_23 : decode cX11_code 23 = .ok (.invokevirtual 165, 3) := by decide +kernel
theorem dX11_code_26 : decode cX11_code 26 = .ok (.ireturn, 1) := by decide +kernel
theorem dX11_code_27 : decode cX11_code 27 = .ok (.aload_n 0, 1) := by decide +kernel
theorem dX11_code_28 : decode cX11_code 28 = .ok (.getfield 113, 3) := by decide +kernel
theorem dX11_code_31 : decode cX11_code 31 = .ok (.ifCond .eq 11, 3) := by decide +kernel
theorem dX11_code_34 : decode cX11_code 34 = .ok (.aload_n 0, 1) := by decide +kernel
theorem dX11_code_35 : decode cX11_code 35 = .ok (.iload_n 2, 1) := by decide +kernel
theorem dX11_code_36 : decode cX11_code 36 = .ok (.invokevirtual 116, 3) := by decide +kernel
theorem dX11_code_39 : decode cX11_code 39 = .ok (.goto 9, 3) := by decide +kernel
theorem dX11_code_42 : decode cX11_code 42 = .ok (.aload_n 0, 1) := by decide +kernel
theorem dX11_code_43 : decode cX11_code 43 = .ok (.iload_n 1, 1) := by decide +kernel
theorem dX11_code_44 : decode cX11_code 44 = .ok (.iload_n 2, 1) := by decide +kernel
theorem dX11_code_45 : decode cX11_code 45 = .ok (.invokevirtual 168, 3) := by decide +kernel
theorem dX11_code_48 : decode cX11_code 48 = .ok (.iload_n 2, 1) := by decide +kernel
theorem dX11_code_49 : decode cX11_code 49 = .ok (.ireturn, 1) := by decide +kernel
theorem dX11_counts_0 : decode cX11_counts 0 = .ok (.iload_n 1, 1) := by decide +kernel
theorem dX11_counts_1 : decode cX11_counts 1 = .ok (.ifCond .lt 38, 3) := by decide +kernel
theorem dX11_counts_4 : decode cX11_counts 4 = .ok (.iload_n 1, 1) := by decide +kernel
theorem dX11_counts_5 : decode cX11_counts 5 = .ok (.aload_n 0, 1) := by decide +kernel
theorem dX11_counts_6 : decode cX11_counts 6 = .ok (.getfield 16, 3) := by decide +kernel
theorem dX11_counts_9 : decode cX11_counts 9 = .ok (.if_icmp .ge 30, 3) := by decide +kernel
theorem dX11_counts_12 : decode cX11_counts 12 = .ok (.iload_n 2, 1) := by decide +kernel
theorem dX11_counts_13 : decode cX11_counts 13 = .ok (.ifCond .lt 26, 3) := by decide +kernel
theorem dX11_counts_16 : decode cX11_counts 16 = .ok (.iload_n 2, 1) := by decide +kernel
theorem dX11_counts_17 : decode cX11_counts 17 = .ok (.aload_n 0, 1) := by decide +kernel
theorem dX11_counts_18 : decode cX11_counts 18 = .ok (.getfield 20, 3) := by decide +kernel
theorem dX11_counts_21 : decode cX11_counts 21 = .ok (.if_icmp .ge 18, 3) := by decide +kernel
theorem dX11_counts_24 : decode cX11_counts 24 = .ok (.aload_n 0, 1) := by decide +kernel
theorem dX11_counts_25 : decode cX11_counts 25 = .ok (.getfield 119, 3) := by decide +kernel
theorem dX11_counts_28 : decode cX11_counts 28 = .ok (.bipush 8, 2) := by decide +kernel
theorem dX11_counts_30 : decode cX11_counts 30 = .ok (.iand, 1) := by decide +kernel
theorem dX11_counts_31 : decode cX11_counts 31 = .ok (.ifCond .eq 10, 3) := by decide +kernel
theorem dX11_counts_34 : decode cX11_counts 34 = .ok (.iload_n 2, 1) := by decide +kernel
theorem dX11_counts_35 : decode cX11_counts 35 = .ok (.iload_n 3, 1) := by decide +kernel
theorem dX11_counts_36 : decode cX11_counts 36 = .ok (.if_icmp .lt 5, 3) := by decide +kernel
theorem dX11_counts_39 : decode cX11_counts 39 = .ok (.iconst 0, 1) := by decide +kernel
theorem dX11_counts_40 : decode cX11_counts 40 = .ok (.ireturn, 1) := by decide +kernel
theorem dX11_counts_41 : decode cX11_counts 41 = .ok (.iload_n 2, 1) := by decide +kernel
theorem dX11_counts_42 : decode cX11_counts 42 = .ok (.aload_n 0, 1) := by decide +kernel
theorem dX11_counts_43 : decode cX11_counts 43 = .ok (.getfield 16, 3) := by decide +kernel
theorem dX11_counts_46 : decode cX11_counts 46 = .ok (.imul, 1) := by decide +kernel
theorem dX11_counts_47 : decode cX11_counts 47 = .ok (.iload_n 1, 1) := by decide +kernel
theorem dX11_counts_48 : decode cX11_counts 48 = .ok (.iadd, 1) := by decide +kernel
theorem dX11_counts_49 : decode cX11_counts 49 = .ok (.istore 4, 2) := by decide +kernel
theorem dX11_counts_51 : decode cX11_counts 51 = .ok (.aload_n 0, 1) := by decide +kernel
theorem dX11_counts_52 : decode cX11_counts 52 = .ok (.getfield 46, 3) := by decide +kernel
theorem dX11_counts_55 : decode cX11_counts 55 = .ok (.iload 4, 2) := by decide +kernel
theorem dX11_counts_57 : decode cX11_counts 57 = .ok (.iaload, 1) := by decide +kernel
theorem dX11_counts_58 : decode cX11_counts 58 = .ok (.ifCond .ne 7, 3) := by decide +kernel
theorem dX11_counts_61 : decode cX11_counts 61 = .ok (.iconst 0, 1) := by decide +kernel
theorem dX11_counts_62 : decode cX11_counts 62 = .ok (.goto 18, 3) := by decide +kernel
theorem dX11_counts_65 : decode cX11_counts 65 = .ok (.aload_n 0, 1) := by decide +kernel
theorem dX11_counts_66 : decode cX11_counts 66 = .ok (.getfield 49, 3) := by decide +kernel
theorem dX11_counts_69 : decode cX11_counts 69 = .ok (.iload 4, 2) := by decide +kernel
theorem dX11_counts_71 : decode cX11_counts 71 = .ok (.baload, 1) := by decide +kernel
theorem dX11_counts_72 : decode cX11_counts 72 = .ok (.ifCond .eq 7, 3) := by decide +kernel
theorem dX11_counts_75 : decode cX11_counts 75 = .ok (.iconst (-1), 1) := by decide +kernel
theorem dX11_counts_76 : decode cX11_counts 76 = .ok (.goto 4, 3) := by decide +kernel
theorem dX11_counts_79 : decode cX11_counts 79 = .ok (.iconst 1, 1) := by decide +kernel
theorem dX11_counts_80 : decode cX11_counts 80 = .ok (.ireturn, 1) := by decide +kernel
set_option maxRecDepth 20000 in
theorem ggX11_many_X11_counts : GoodIn wsX11_many wsX11_counts := goodIn_r _ [5, 6, 7, 8, 9, 10, 11, 12, 13, 14, 15, 16, 17, 18, 19, 20, 21, 22, 23, 24, 25, 26, 27, 28, 29, 30, 31, 32, 33, 34, 35, 36, 37, 38, 39, 40, 41, 42, 43, 44, 45, 46, 47, 48, 49, 50, 51, 52] (by decide +kernel) (by decide +kernel)
set_option maxRecDepth 20000 in
theorem gX11_many_X11_counts : GoodIn wsX11_many (wsV RX11 172 RX11 yX11_counts wsX11_counts) := goodIn_app (goodIn_of _ (by decide +kernel)) ggX11_many_X11_counts
theorem dX11_many_0 : decode cX11_many 0 = .ok (.iload_n 2, 1) := by decide +kernel
theorem dX11_many_1 : decode cX11_many 1 = .ok (.iconst 4, 1) := by decide +kernel
theorem dX11_many_2 : decode cX11_many 2 = .ok (.idiv, 1) := by decide +kernel
theorem dX11_many_3 : decode cX11_many 3 = .ok (.iconst 4, 1) := by decide +kernel
theorem dX11_many_4 : decode cX11_many 4 = .ok (.imul, 1) := by decide +kernel
theorem dX11_many_5 : decode cX11_many 5 = .ok (.iconst 4, 1) := by decide +kernel
theorem dX11_many_6 : decode cX11_many 6 = .ok (.iadd, 1) := by decide +kernel
theorem dX11_many_7 : decode cX11_many 7 = .ok (.istore 5, 2) := by decide +kernel
theorem dX11_many_9 : decode cX11_many 9 = .ok (.aload_n 0, 1) := by decide +kernel
theorem dX11_many_10 : decode cX11_many 10 = .ok (.iload_n 1, 1) := by decide +kernel
theorem dX11_many_11 : decode cX11_many 11 = .ok (.iload_n 3, 1) := by decide +kernel
theorem dX11_many_12 : decode cX11_many 12 = .ok (.iadd, 1) := by decide +kernel
theorem dX11_many_13 : decode cX11_many 13 = .ok (.iload_n 2, 1) := by decide +kernel
theorem dX11_many_14 : decode cX11_many 14 = .ok (.iload 4, 2) := by decide +kernel
theorem dX11_many_16 : decode cX11_many 16 = .ok (.iadd, 1) := by decide +kernel
theorem dX11_many_17 : decode cX11_many 17 = .ok (.iload 5, 2) := by decide +kernel
theorem dX11_many_19 : decode cX11_many 19 = .ok (.invokevirtual 172, 3) := by decide +kernel
theorem dX11_many_22 : decode cX11_many 22 = .ok (.istore 6, 2) := by decide +kernel
theorem dX11_many_24 : decode cX11_many 24 = .ok (.aload_n 0, 1) := by decide +kernel
theorem dX11_many_25 : decode cX11_many 25 = .ok (.iload_n 1, 1) := by decide +kernel
theorem dX11_many_26 : decode cX11_many 26 = .ok (.iload_n 3, 1) := by decide +kernel
theorem dX11_many_27 : decode cX11_many 27 = .ok (.isub, 1) := by decide +kernel
theorem dX11_many_28 : decode cX11_many 28 = .ok (.iload_n 2, 1) := by decide +kernel
theorem dX11_many_29 : decode cX11_many 29 = .ok (.iload 4, 2) := by decide +kernel
theorem dX11_many_31 : decode cX11_many 31 = .ok (.isub, 1) := by decide +kernel
theorem dX11_many_32 : decode cX11_many 32 = .ok (.iload 5, 2) := by decide +kernel
theorem dX11_many_34 : decode cX11_many 34 = .ok (.invokevirtual 172, 3) := by decide +kernel
theorem dX11_many_37 : decode cX11_many 37 = .ok (.istore 7, 2) := by decide +kernel
theorem dX11_many_39 : decode cX11_many 39 = .ok (.iload 6, 2) := by decide +kernel
theorem dX11_many_41 : decode cX11_many 41 = .ok (.iload 6, 2) := by decide +kernel
theorem dX11_many_43 : decode cX11_many 43 = .ok (.imul, 1) := by decide +kernel
theorem dX11_many_44 : decode cX11_many 44 = .ok (.iload 7, 2) := by decide +kernel
theorem dX11_many_46 : decode cX11_many 46 = .ok (.iload 7, 2) := by decide +kernel
theorem dX11_many_48 : decode cX11_many 48 = .ok (.imul, 1) := by decide +kernel
theorem dX11_many_49 : decode cX11_many 49 = .ok (.iadd, 1) := by decide +kernel
theorem dX11_many_50 : decode cX11_many 50 = .ok (.ireturn, 1) := by decide +kernel
set_option maxRecDepth 20000 in
theorem ggX11_zeroContext_X11_many : GoodIn wsX11_zeroContext wsX11_many := goodIn_r _ [6, 7, 8, 9, 5, 10, 11, 12, 13, 14, 15, 16, 17, 18, 19, 20, 21, 22, 23, 24, 25, 26, 27, 28, 29, 30, 31, 32, 33, 34, 35, 36, 37, 38, 39, 40, 41, 42, 43, 44, 45, 46, 47, 48, 49, 50, 51, 52, 53, 54, 55, 56, 57] (by decide +kernel) (by decide +kernel)
set_option maxRecDepth 20000 in
theorem gX11_zeroContext_X11_many : GoodIn wsX11_zeroContext (wsV RX11 176 RX11 yX11_many wsX11_many) := goodIn_app (goodIn_of _ (by decide +kernel)) ggX11_zeroContext_X11_many
theorem dX11_zeroContext_0 : decode cX11_zeroContext 0 = .ok (.aload_n 0, 1) := by decide +kernel
theorem dX11_zeroContext_1 : decode cX11_zeroContext 1 = .ok (.iload_n 1, 1) := by decide +kernel
theorem dX11_zeroContext_2 : decode cX11_zeroContext 2 = .ok (.iload_n 2, 1) := by decide +kernel
theorem dX11_zeroContext_3 : decode cX11_zeroContext 3 = .ok (.iconst 1, 1) := by decide +kernel
theorem dX11_zeroContext_4 : decode cX11_zeroContext 4 = .ok (.iconst 0, 1) := by decide +kernel
theorem dX11_zeroContext_5 : decode cX11_zeroContext 5 = .ok (.invokevirtual 176, 3) := by decide +kernel
theorem dX11_zeroContext_8 : decode cX11_zeroContext 8 = .ok (.istore_n 3, 1) := by decide +kernel
theorem dX11_zeroContext_9 : decode cX11_zeroContext 9 = .ok (.aload_n 0, 1) := by decide +kernel
theorem dX11_zeroContext_10 : decode cX11_zeroContext 10 = .ok (.iload_n 1, 1) := by decide +kernel
theorem dX11_zeroContext_11 : decode cX11_zeroContext 11 = .ok (.iload_n 2, 1) := by decide +kernel
theorem dX11_zeroContext_12 : decode cX11_zeroContext 12 = .ok (.iconst 0, 1) := by decide +kernel
theorem dX11_zeroContext_13 : decode cX11_zeroContext 13 = .ok (.iconst 1, 1) := by decide +kernel
theorem dX11_zeroContext_14 : decode cX11_zeroContext 14 = .ok (.invokevirtual 176, 3) := by decide +kernel
theorem dX11_zeroContext_17 : decode cX11_zeroContext 17 = .ok (.istore 4, 2) := by decide +kernel
theorem dX11_zeroContext_19 : decode cX11_zeroContext 19 = .ok (.aload_n 0, 1) := by decide +kernel
theorem dX11_zeroContext_20 : decode cX11_zeroContext 20 = .ok (.iload_n 1, 1) := by decide +kernel
theorem dX11_zeroContext_21 : decode cX11_zeroContext 21 = .ok (.iload_n 2, 1) := by decide +kernel
theorem dX11_zeroContext_22 : decode cX11_zeroContext 22 = .ok (.iconst 1, 1) := by decide +kernel
theorem dX11_zeroContext_23 : decode cX11_zeroContext 23 = .ok (.iconst 1, 1) := by decide +kernel
theorem dX11_zeroContext_24 : decode cX11_zeroContext 24 = .ok (.invokevirtual 176, 3) := by decide +kernel
theorem dX11_zeroContext_27 : decode cX11_zeroContext 27 = .ok (.aload_n 0, 1) := by decide +kernel
theorem dX11_zeroContext_28 : decode cX11_zeroContext 28 = .ok (.iload_n 1, 1) := by decide +kernel
theorem dX11_zeroContext_29 : decode cX11_zeroContext 29 = .ok (.iload_n 2, 1) := by decide +kernel
theorem dX11_zeroContext_30 : decode cX11_zeroContext 30 = .ok (.iconst 1, 1) := by decide +kernel
theorem dX11_zeroContext_31 : decode cX11_zeroContext 31 = .ok (.iconst (-1), 1) := by decide +kernel
theorem dX11_zeroContext_32 : decode cX11_zeroContext 32 = .ok (.invokevirtual 176, 3) := by decide +kernel
theorem dX11_zeroContext_35 : decode cX11_zeroContext 35 = .ok (.iadd, 1) := by decide +kernel
theorem dX11_zeroContext_36 : decode cX11_zeroContext 36 = .ok (.istore 5, 2) := by decide +kernel
theorem dX11_zeroContext_38 : decode cX11_zeroContext 38 = .ok (.aload_n 0, 1) := by decide +kernel
theorem dX11_zeroContext_39 : decode cX11_zeroContext 39 = .ok (.getfield 180, 3) := by decide +kernel
theorem dX11_zeroContext_42 : decode cX11_zeroContext 42 = .ok (.iconst 3, 1) := by decide +kernel
theorem dX11_zeroContext_43 : decode cX11_zeroContext 43 = .ok (.if_icmp .ne 71, 3) := by decide +kernel
theorem dX11_zeroContext_46 : decode cX11_zeroContext 46 = .ok (.iload_n 3, 1) := by decide +kernel
theorem dX11_zeroContext_47 : decode cX11_zeroContext 47 = .ok (.iload 4, 2) := by decide +kernel
theorem dX11_zeroContext_49 : decode cX11_zeroContext 49 = .ok (.iadd, 1) := by decide +kernel
theorem dX11_zeroContext_50 : decode cX11_zeroContext 50 = .ok (.istore 6, 2) := by decide +kernel
theorem dX11_zeroContext_52 : decode cX11_zeroContext 52 = .ok (.iload 5, 2) := by decide +kernel
theorem dX11_zeroContext_54 : decode cX11_zeroContext 54 = .ok (.iconst 2, 1) := by decide +kernel
theorem dX11_zeroContext_55 : decode cX11_zeroContext 55 = .ok (.if_icmp .le 6, 3) := by decide +kernel
theorem dX11_zeroContext_58 : decode cX11_zeroContext 58 = .ok (.bipush 8, 2) := by decide +kernel
theorem dX11_zeroContext_60 : decode cX11_zeroContext 60 = .ok (.ireturn, 1) := by decide +kernel
theorem dX11_zeroContext_61 : decode cX11_zeroContext 61 = .ok (.iload 5, 2) := by decide +kernel
theorem dX11_zeroContext_63 : decode cX11_zeroContext 63 = .ok (.iconst 2, 1) := by decide +kernel
theorem dX11_zeroContext_64 : decode cX11_zeroContext 64 = .ok (.if_icmp .ne 16, 3) := by decide +kernel
theorem dX11_zeroContext_67 : decode cX11_zeroContext 67 = .ok (.iload 6, 2) := by decide +kernel
theorem dX11_zeroContext_69 : decode cX11_zeroContext 69 = .ok (.ifCond .le 8, 3) := by decide +kernel
theorem dX11_zeroContext_72 : decode cX11_zeroContext 72 = .ok (.bipush 7, 2) := by decide +kernel
theorem dX11_zeroContext_74 : decode cX11_zeroContext 74 = .ok (.goto 5, 3) := by decide +kernel
theorem dX11_zeroContext_77 : decode cX11_zeroContext 77 = .ok (.bipush 6, 2) := by decide +kernel
theorem dX11_zeroContext_79 : decode cX11_zeroContext 79 = .ok (.ireturn, 1) := by decide +kernel
theorem dX11_zeroContext_80 : decode cX11_zeroContext 80 = .ok (.iload 5, 2) := by decide +kernel
theorem dX11_zeroContext_82 : decode cX11_zeroContext 82 = .ok (.iconst 1, 1) := by decide +kernel
theorem dX11_zeroContext_83 : decode cX11_zeroContext 83 = .ok (.if_icmp .ne 18, 3) := by decide +kernel
theorem dX11_zeroContext_86 : decode cX11_zeroContext 86 = .ok (.iload 6, 2) := by decide +kernel
theorem dX11_zeroContext_88 : decode cX11_zeroContext 88 = .ok (.iconst 1, 1) := by decide +kernel
theorem dX11_zeroContext_89 : decode cX11_zeroContext 89 = .ok (.if_icmp .le 7, 3) := by decide +kernel
theorem dX11_zeroContext_92 : decode cX11_zeroContext 92 = .ok (.iconst 5, 1) := by decide +kernel
theorem dX11_zeroContext_93 : decode cX11_zeroContext 93 = .ok (.goto 7, 3) := by decide +kernel
theorem dX11_zeroContext_96 : decode cX11_zeroContext 96 = .ok (.iconst 3, 1) := by decide +kernel
theorem dX11_zeroContext_97 : decode cX11_zeroContext 97 = .ok (.iload 6, 2) := by decide +kernel
theorem dX11_zeroContext_99 : decode cX11_zeroContext 99 = .ok (.iadd, 1) := by decide +kernel
theorem dX11_zeroContext_100 : decode cX11_zeroContext 100 = .ok (.ireturn, 1) := by decide +kernel
theorem dX11_zeroContext_101 : decode cX11_zeroContext 101 = .ok (.iload 6, 2) := by decide +kernel
theorem dX11_zeroContext_103 : decode cX11_zeroContext 103 = .ok (.iconst 1, 1) := by decide +kernel
theorem dX11_zeroContext_104 : decode cX11_zeroContext 104 = .ok (.if_icmp .le 7, 3) := by decide +kernel
theorem dX11_zeroContext_107 : decode cX11_zeroContext 107 = .ok (.iconst 2, 1) := by decide +kernel
theorem dX11_zeroContext_108 : decode cX11_zeroContext 108 = .ok (.goto 5, 3) := by decide +kernel
theorem dX11_zeroContext_111 : decode cX11_zeroContext 111 = .ok (.iload 6, 2) := by decide +kernel
theorem dX11_zeroContext_113 : decode cX11_zeroContext 113 = .ok (.ireturn, 1) := by decide +kernel
theorem dX11_zeroContext_114 : decode cX11_zeroContext 114 = .ok (.aload_n 0, 1) := by decide +kernel
theorem dX11_zeroContext_115 : decode cX11_zeroContext 115 = .ok (.getfield 180, 3) := by decide +kernel
theorem dX11_zeroContext_118 : decode cX11_zeroContext 118 = .ok (.iconst 1, 1) := by decide +kernel
theorem dX11_zeroContext_119 : decode cX11_zeroContext 119 = .ok (.if_icmp .ne 8, 3) := by decide +kernel
theorem dX11_zeroContext_122 : decode cX11_zeroContext 122 = .ok (.iload 4, 2) := by decide +kernel
theorem dX11_zeroContext_124 : decode cX11_zeroContext 124 = .ok (.goto 4, 3) := by decide +kernel
theorem dX11_zeroContext_127 : decode cX11_zeroContext 127 = .ok (.iload_n 3, 1) := by decide +kernel
theorem dX11_zeroContext_128 : decode cX11_zeroContext 128 = .ok (.istore 6, 2) := by decide +kernel
theorem dX11_zeroContext_130 : decode cX11_zeroContext 130 = .ok (.aload_n 0, 1) := by decide +kernel
theorem dX11_zeroContext_131 : decode cX11_zeroContext 131 = .ok (.getfield 180, 3) := by decide +kernel
theorem dX11_zeroContext_134 : decode cX11_zeroContext 134 = .ok (.iconst 1, 1) := by decide +kernel
theorem dX11_zeroContext_135 : decode cX11_zeroContext 135 = .ok (.if_icmp .ne 7, 3) := by decide +kernel
theorem dX11_zeroContext_138 : decode cX11_zeroContext 138 = .ok (.iload_n 3, 1) := by decide +kernel
theorem dX11_zeroContext_139 : decode cX11_zeroContext 139 = .ok (.goto 5, 3) := by decide +kernel
theorem dX11_zeroContext_142 : decode cX11_zeroContext 142 = .ok (.iload 4, 2) := by decide +kernel
theorem dX11_zeroContext_144 : decode cX11_zeroContext 144 = .ok (.istore 7, 2) := by decide +kernel
theorem dX11_zeroContext_146 : decode cX11_zeroContext 146 = .ok (.iload 6, 2) := by decide +kernel
theorem dX11_zeroContext_148 : decode cX11_zeroContext 148 = .ok (.iconst 2, 1) := by decide +kernel
theorem dX11_zeroContext_149 : decode cX11_zeroContext 149 = .ok (.if_icmp .ne 6, 3) := by decide +kernel
theorem dX11_zeroContext_152 : decode cX11_zeroContext 152 = .ok (.bipush 8, 2) := by decide +kernel
theorem dX11_zeroContext_154 : decode cX11_zeroContext 154 = .ok (.ireturn, 1) := by decide +kernel
theorem dX11_zeroContext_155 : decode cX11_zeroContext 155 = .ok (.iload 6, 2) := by decide +kernel
theorem dX11_zeroContext_157 : decode cX11_zeroContext 157 = .ok (.iconst 1, 1) := by decide +kernel
theorem dX11_zeroContext_158 : decode cX11_zeroContext 158 = .ok (.if_icmp .ne 25, 3) := by decide +kernel
theorem dX11_zeroContext_161 : decode cX11_zeroContext 161 = .ok (.iload 7, 2) := by decide +kernel
theorem dX11_zeroContext_163 : decode cX11_zeroContext 163 = .ok (.ifCond .le 8, 3) := by decide +kernel
theorem dX11_zeroContext_166 : decode cX11_zeroContext 166 = .ok (.bipush 7, 2) := by decide +kernel
theorem dX11_zeroContext_168 : decode cX11_zeroContext 168 = .ok (.goto 14, 3) := by decide +kernel
theorem dX11_zeroContext_171 : decode cX11_zeroContext 171 = .ok (.iload 5, 2) := by decide +kernel
theorem dX11_zeroContext_173 : decode cX11_zeroContext 173 = .ok (.ifCond .le 8, 3) := by decide +kernel
theorem dX11_zeroContext_176 : decode cX11_zeroContext 176 = .ok (.bipush 6, 2) := by decide +kernel
theorem dX11_zeroContext_178 : decode cX11_zeroContext 178 = .ok (.goto 4, 3) := by decide +kernel
theorem dX11_zeroContext_181 : decode cX11_zeroContext 181 = .ok (.iconst 5, 1) := by decide +kernel
theorem dX11_zeroContext_182 : decode cX11_zeroContext 182 = .ok (.ireturn, 1) := by decide +kernel
theorem dX11_zeroContext_183 : decode cX11_zeroContext 183 = .ok (.iload 7, 2) := by decide +kernel
theorem dX11_zeroContext_185 : decode cX11_zeroContext 185 = .ok (.ifCond .le 10, 3) := by decide +kernel
theorem dX11_zeroContext_188 : decode cX11_zeroContext 188 = .ok (.iconst 2, 1) := by decide +kernel
theorem dX11_zeroContext_189 : decode cX11_zeroContext 189 = .ok (.iload 7, 2) := by decide +kernel
theorem dX11_zeroContext_191 : decode cX11_zeroContext 191 = .ok (.iadd, 1) := by decide +kernel
theorem dX11_zeroContext_192 : decode cX11_zeroContext 192 = .ok (.goto 15, 3) := by decide +kernel
theorem dX11_zeroContext_195 : decode cX11_zeroContext 195 = .ok (.iload 5, 2) := by decide +kernel
theorem dX11_zeroContext_197 : decode cX11_zeroContext 197 = .ok (.iconst 1, 1) := by decide +kernel
theorem dX11_zeroContext_198 : decode cX11_zeroContext 198 = .ok (.if_icmp .le 7, 3) := by decide +kernel
theorem dX11_zeroContext_201 : decode cX11_zeroContext 201 = .ok (.iconst 2, 1) := by decide +kernel
theorem dX11_zeroContext_202 : decode cX11_zeroContext 202 = .ok (.goto 5, 3) := by decide +kernel
theorem dX11_zeroContext_205 : decode cX11_zeroContext 205 = .ok (.iload 5, 2) := by decide +kernel
theorem dX11_zeroContext_207 : decode cX11_zeroContext 207 = .ok (.ireturn, 1) := by decide +kernel
set_option maxRecDepth 20000 in
theorem ggX11_sum_X11_counts : GoodIn wsX11_sum wsX11_counts := goodIn_r _ [5, 6, 7, 8, 9, 10, 11, 12, 13, 14, 15, 16, 17, 18, 19, 20, 21, 22, 23, 24, 25, 26, 27, 28, 29, 30, 31, 32, 33, 34, 35, 36, 37, 38, 39, 40, 41, 42, 43, 44, 45, 46, 47, 48, 49, 50, 51, 52] (by decide +kernel) (by decide +kernel)
set_option maxRecDepth 20000 in
theorem gX11_sum_X11_counts : GoodIn wsX11_sum (wsV RX11 172 RX11 yX11_counts wsX11_counts) := goodIn_app (goodIn_of _ (by decide +kernel)) ggX11_sum_X11_counts
theorem dX11_sum_0 : decode cX11_sum 0 = .ok (.iload_n 2, 1) := by decide +kernel
theorem dX11_sum_1 : decode cX11_sum 1 = .ok (.iconst 4, 1) := by decide +kernel
theorem dX11_sum_2 : decode cX11_sum 2 = .ok (.idiv, 1) := by decide +kernel
theorem dX11_sum_3 : decode cX11_sum 3 = .ok (.iconst 4, 1) := by decide +kernel
theorem dX11_sum_4 : decode cX11_sum 4 = .ok (.imul, 1) := by decide +kernel
theorem dX11_sum_5 : decode cX11_sum 5 = .ok (.iconst 4, 1) := by decide +kernel
theorem dX11_sum_6 : decode cX11_sum 6 = .ok (.iadd, 1) := by decide +kernel
theorem dX11_sum_7 : decode cX11_sum 7 = .ok (.istore 5, 2) := by decide +kernel
theorem dX11_sum_9 : decode cX11_sum 9 = .ok (.aload_n 0, 1) := by decide +kernel
theorem dX11_sum_10 : decode cX11_sum 10 = .ok (.iload_n 1, 1) := by decide +kernel
theorem dX11_sum_11 : decode cX11_sum 11 = .ok (.iload_n 3, 1) := by decide +kernel
theorem dX11_sum_12 : decode cX11_sum 12 = .ok (.iadd, 1) := by decide +kernel
theorem dX11_sum_13 : decode cX11_sum 13 = .ok (.iload_n 2, 1) := by decide +kernel
theorem dX11_sum_14 : decode cX11_sum 14 = .ok (.iload 4, 2) := by decide +kernel
theorem dX11_sum_16 : decode cX11_sum 16 = .ok (.iadd, 1) := by decide +kernel
theorem dX11_sum_17 : decode cX11_sum 17 = .ok (.iload 5, 2) := by decide +kernel
theorem dX11_sum_19 : decode cX11_sum 19 = .ok (.invokevirtual 172, 3) := by decide +kernel
theorem dX11_sum_22 : decode cX11_sum 22 = .ok (.aload_n 0, 1) := by decide +kernel
theorem dX11_sum_23 : decode cX11_sum 23 = .ok (.iload_n 1, 1) := by decide +kernel
theorem dX11_sum_24 : decode cX11_sum 24 = .ok (.iload_n 3, 1) := by decide +kernel
theorem dX11_sum_25 : decode cX11_sum 25 = .ok (.isub, 1) := by decide +kernel
theorem dX11_sum_26 : decode cX11_sum 26 = .ok (.iload_n 2, 1) := by decide +kernel
theorem dX11_sum_27 : decode cX11_sum 27 = .ok (.iload 4, 2) := by decide +kernel
theorem dX11_sum_29 : decode cX11_sum 29 = .ok (.isub, 1) := by decide +kernel
theorem dX11_sum_30 : decode cX11_sum 30 = .ok (.iload 5, 2) := by decide +kernel
theorem dX11_sum_32 : decode cX11_sum 32 = .ok (.invokevirtual 172, 3) := by decide +kernel
theorem dX11_sum_35 : decode cX11_sum 35 = .ok (.iadd, 1) := by decide +kernel
theorem dX11_sum_36 : decode cX11_sum 36 = .ok (.istore 6, 2) := by decide +kernel
theorem dX11_sum_38 : decode cX11_sum 38 = .ok (.iload 6, 2) := by decide +kernel
theorem dX11_sum_40 : decode cX11_sum 40 = .ok (.iconst 1, 1) := by decide +kernel
theorem dX11_sum_41 : decode cX11_sum 41 = .ok (.if_icmp .le 7, 3) := by decide +kernel
theorem dX11_sum_44 : decode cX11_sum 44 = .ok (.iconst 1, 1) := by decide +kernel
theorem dX11_sum_45 : decode cX11_sum 45 = .ok (.goto 15, 3) := by decide +kernel
theorem dX11_sum_48 : decode cX11_sum 48 = .ok (.iload 6, 2) := by decide +kernel
theorem dX11_sum_50 : decode cX11_sum 50 = .ok (.iconst (-1), 1) := by decide +kernel
theorem dX11_sum_51 : decode cX11_sum 51 = .ok (.if_icmp .ge 7, 3) := by decide +kernel
theorem dX11_sum_54 : decode cX11_sum 54 = .ok (.iconst (-1), 1) := by decide +kernel
theorem dX11_sum_55 : decode cX11_sum 55 = .ok (.goto 5, 3) := by decide +kernel
theorem dX11_sum_58 : decode cX11_sum 58 = .ok (.iload 6, 2) := by decide +kernel
theorem dX11_sum_60 : decode cX11_sum 60 = .ok (.ireturn, 1) := by decide +kernel
set_option maxRecDepth 20000 in
theorem ggX11_codeSign_X11_sum : GoodIn wsX11_codeSign wsX11_sum := goodIn_r _ [12, 13, 14, 15, 11, 16, 1, 17, 18, 5, 4, 92, 93, 94, 95, 96, 97, 98, 99, 100, 101, 102, 103, 104, 105, 106, 107, 108, 109, 110, 111, 112, 113, 114, 115, 116, 117, 118, 119, 120, 121, 122, 123, 124, 125, 126, 127, 128, 129, 130, 131, 132, 133] (by decide +kernel) (by decide +kernel)
set_option maxRecDepth 20000 in
theorem gX11_codeSign_X11_sum : GoodIn wsX11_codeSign (wsV RX11 183 RX11 yX11_sum wsX11_sum) := goodIn_app (goodIn_of _ (by decide +kernel)) ggX11_codeSign_X11_sum
set_option maxRecDepth 20000 in
theorem ggX11_codeSign_X11_code : GoodIn wsX11_codeSign wsX11_code := goodIn_r _ [22, 23, 2, 24, 25, 26, 11, 27, 28, 29, 30, 31, 32, 33, 34, 35, 36, 37, 38, 39, 40, 41, 42, 43, 44, 45, 46, 47, 48, 49, 50, 51, 52, 53, 54, 55, 56, 57, 58, 59, 60, 61, 62, 63, 64, 65, 66, 67, 68, 69, 70, 71, 72, 73, 74, 75, 76, 77, 78, 79, 80, 81, 82, 83, 84, 85, 86, 87, 88, 89, 90, 91, 92, 93, 94, 95, 96, 97, 98, 99, 100, 101, 102, 103, 104, 105, 106, 107, 108, 109, 110, 111, 112, 113, 114, 115, 116, 117, 118, 119, 120, 121, 122, 123, 124, 125, 126, 127, 128, 129, 130, 131, 132, 133] (by decide +kernel) (by decide +kernel)
set_option maxRecDepth 20000 in
theorem gX11_codeSign_X11_code : GoodIn wsX11_codeSign (wsV RX11 186 RX11 yX11_code wsX11_code) := goodIn_app (goodIn_of _ (by decide +kernel)) ggX11_codeSign_X11_code
theorem dX11_codeSign_0 : decode cX11_codeSign 0 = .ok (.iload_n 2, 1) := by decide +kernel
theorem dX11_codeSign_1 : decode cX11_codeSign 1 = .ok (.aload_n 0, 1) := by decide +kernel
theorem dX11_codeSign_2 : decode cX11_codeSign 2 = .ok (.getfield 16, 3) := by decide +kernel
theorem dX11_codeSign_5 : decode cX11_codeSign 5 = .ok (.imul, 1) := by decide +kernel
theorem dX11_codeSign_6 : decode cX11_codeSign 6 = .ok (.iload_n 1, 1) := by decide +kernel
theorem dX11_codeSign_7 : decode cX11_codeSign 7 = .ok (.iadd, 1) := by decide +kernel
theorem dX11_codeSign_8 : decode cX11_codeSign 8 = .ok (.istore_n 3, 1) := by decide +kernel
theorem dX11_codeSign_9 : decode cX11_codeSign 9 = .ok (.aload_n 0, 1) := by decide +kernel
theorem dX11_codeSign_10 : decode cX11_codeSign 10 = .ok (.iload_n 1, 1) := by decide +kernel
theorem dX11_codeSign_11 : decode cX11_codeSign 11 = .ok (.iload_n 2, 1) := by decide +kernel
theorem dX11_codeSign_12 : decode cX11_codeSign 12 = .ok (.iconst 1, 1) := by decide +kernel
theorem dX11_codeSign_13 : decode cX11_codeSign 13 = .ok (.iconst 0, 1) := by decide +kernel
theorem dX11_codeSign_14 : decode cX11_codeSign 14 = .ok (.invokevirtual 183, 3) := by decide +kernel
theorem dX11_codeSign_17 : decode cX11_codeSign 17 = .ok (.istore 4, 2) := by decide +kernel
theorem dX11_codeSign_19 : decode cX11_codeSign 19 = .ok (.aload_n 0, 1) := by decide +kernel
theorem dX11_codeSign_20 : decode cX11_codeSign 20 = .ok (.iload_n 1, 1) := by decide +kernel
theorem dX11_codeSign_21 : decode cX11_codeSign 21 = .ok (.iload_n 2, 1) := by decide +kernel
theorem dX11_codeSign_22 : decode cX11_codeSign 22 = .ok (.iconst 0, 1) := by decide +kernel
theorem dX11_codeSign_23 : decode cX11_codeSign 23 = .ok (.iconst 1, 1) := by decide +kernel
theorem dX11_codeSign_24 : decode cX11_codeSign 24 = .ok (.invokevirtual 183, 3) := by decide +kernel
theorem dX11_codeSign_27 : decode cX11_codeSign 27 = .ok (.istore 5, 2) := by decide +kernel
theorem dX11_codeSign_29 : decode cX11_codeSign 29 = .ok (.aload_n 0, 1) := by decide +kernel
theorem dX11_codeSign_30 : decode cX11_codeSign 30 = .ok (.getfield 113, 3) := by decide +kernel
theorem dX11_codeSign_33 : decode cX11_codeSign 33 = .ok (.ifCond .ne 22, 3) := by decide +kernel
theorem dX11_codeSign_36 : decode cX11_codeSign 36 = .ok (.iload 4, 2) := by decide +kernel
theorem dX11_codeSign_38 : decode cX11_codeSign 38 = .ok (.ifCond .lt 13, 3) := by decide +kernel
theorem dX11_codeSign_41 : decode cX11_codeSign 41 = .ok (.iload 4, 2) := by decide +kernel
theorem dX11_codeSign_43 : decode cX11_codeSign 43 = .ok (.ifCond .ne 12, 3) := by decide +kernel
