theorem dX5_valueOf_22 : decode cX5_valueOf 22 = .ok (.iaload, 1) := by decide +kernel
theorem dX5_valueOf_23 : decode cX5_valueOf 23 = .ok (.iconst 1, 1) := by decide +kernel
theorem dX5_valueOf_24 : decode cX5_valueOf 24 = .ok (.iload_n 2, 1) := by decide +kernel
theorem dX5_valueOf_25 : decode cX5_valueOf 25 = .ok (.ldc 63, 2) := by decide +kernel
theorem dX5_valueOf_27 : decode cX5_valueOf 27 = .ok (.iand, 1) := by decide +kernel
theorem dX5_valueOf_28 : decode cX5_valueOf 28 = .ok (.bipush 16, 2) := by decide +kernel
theorem dX5_valueOf_30 : decode cX5_valueOf 30 = .ok (.ishr, 1) := by decide +kernel
theorem dX5_valueOf_31 : decode cX5_valueOf 31 = .ok (.ishl, 1) := by decide +kernel
theorem dX5_valueOf_32 : decode cX5_valueOf 32 = .ok (.iconst 2, 1) := by decide +kernel
theorem dX5_valueOf_33 : decode cX5_valueOf 33 = .ok (.idiv, 1) := by decide +kernel
theorem dX5_valueOf_34 : decode cX5_valueOf 34 = .ok (.iadd, 1) := by decide +kernel
theorem dX5_valueOf_35 : decode cX5_valueOf 35 = .ok (.istore_n 3, 1) := by decide +kernel
theorem dX5_valueOf_36 : decode cX5_valueOf 36 = .ok (.iload_n 2, 1) := by decide +kernel
theorem dX5_valueOf_37 : decode cX5_valueOf 37 = .ok (.sipush 4096, 3) := by decide +kernel
theorem dX5_valueOf_40 : decode cX5_valueOf 40 = .ok (.iand, 1) := by decide +kernel
theorem dX5_valueOf_41 : decode cX5_valueOf 41 = .ok (.ifCond .eq 8, 3) := by decide +kernel
theorem dX5_valueOf_44 : decode cX5_valueOf 44 = .ok (.iload_n 3, 1) := by decide +kernel
theorem dX5_valueOf_45 : decode cX5_valueOf 45 = .ok (.ineg, 1) := by decide +kernel
theorem dX5_valueOf_46 : decode cX5_valueOf 46 = .ok (.goto 4, 3) := by decide +kernel
theorem dX5_valueOf_49 : decode cX5_valueOf 49 = .ok (.iload_n 3, 1) := by decide +kernel
theorem dX5_valueOf_50 : decode cX5_valueOf 50 = .ok (.ireturn, 1) := by decide +kernel
set_option maxRecDepth 20000 in
theorem ggX5_signify_X5_place : GoodIn wsX5_signify wsX5_place := goodIn_r _ [7, 8, 18, 19, 20, 21, 22, 23, 24] (by decide +kernel) (by decide +kernel)
set_option maxRecDepth 20000 in
theorem gX5_signify_X5_place : GoodIn wsX5_signify (wsV RX5 64 RX5 yX5_place wsX5_place) := goodIn_app (goodIn_of _ (by decide +kernel)) ggX5_signify_X5_place
set_option maxRecDepth 20000 in
theorem ggX5_signify_X5_tell : GoodIn wsX5_signify wsX5_tell := goodIn_r _ [12, 1, 13, 14, 15, 6, 16, 8, 17, 3, 4, 5, 7, 18, 19, 20, 21, 22, 23, 24] (by decide +kernel) (by decide +kernel)
set_option maxRecDepth 20000 in
theorem gX5_signify_X5_tell : GoodIn wsX5_signify (wsV RX5 67 RX5 yX5_tell wsX5_tell) := goodIn_app (goodIn_of _ (by decide +kernel)) ggX5_signify_X5_tell
theorem dX5_signify_0 : decode cX5_signify 0 = .ok (.aload_n 0, 1) := by decide +kernel
theorem dX5_signify_1 : decode cX5_signify 1 = .ok (.getfield 25, 3) := by decide +kernel
theorem dX5_signify_4 : decode cX5_signify 4 = .ok (.aload_n 0, 1) := by decide +kernel
theorem dX5_signify_5 : decode cX5_signify 5 = .ok (.iload_n 1, 1) := by decide +kernel
theorem dX5_signify_6 : decode cX5_signify 6 = .ok (.iload_n 2, 1) := by decide +kernel
theorem dX5_signify_7 : decode cX5_signify 7 = .ok (.invokevirtual 64, 3) := by decide +kernel
theorem dX5_signify_10 : decode cX5_signify 10 = .ok (.dup2, 1) := by decide +kernel
theorem dX5_signify_11 : decode cX5_signify 11 = .ok (.iaload, 1) := by decide +kernel
theorem dX5_signify_12 : decode cX5_signify 12 = .ok (.iload_n 3, 1) := by decide +kernel
theorem dX5_signify_13 : decode cX5_signify 13 = .ok (.iconst 1, 1) := by decide +kernel
theorem dX5_signify_14 : decode cX5_signify 14 = .ok (.if_icmp .ne 9, 3) := by decide +kernel
theorem dX5_signify_17 : decode cX5_signify 17 = .ok (.sipush 6144, 3) := by decide +kernel
theorem dX5_signify_20 : decode cX5_signify 20 = .ok (.goto 6, 3) := by decide +kernel
theorem dX5_signify_23 : decode cX5_signify 23 = .ok (.sipush 2048, 3) := by decide +kernel
theorem dX5_signify_26 : decode cX5_signify 26 = .ok (.ior, 1) := by decide +kernel
theorem dX5_signify_27 : decode cX5_signify 27 = .ok (.iastore, 1) := by decide +kernel
theorem dX5_signify_28 : decode cX5_signify 28 = .ok (.iconst 1, 1) := by decide +kernel
theorem dX5_signify_29 : decode cX5_signify 29 = .ok (.iload_n 3, 1) := by decide +kernel
theorem dX5_signify_30 : decode cX5_signify 30 = .ok (.bipush 7, 2) := by decide +kernel
theorem dX5_signify_32 : decode cX5_signify 32 = .ok (.ishl, 1) := by decide +kernel
theorem dX5_signify_33 : decode cX5_signify 33 = .ok (.iadd, 1) := by decide +kernel
theorem dX5_signify_34 : decode cX5_signify 34 = .ok (.istore 4, 2) := by decide +kernel
theorem dX5_signify_36 : decode cX5_signify 36 = .ok (.iconst 4, 1) := by decide +kernel
theorem dX5_signify_37 : decode cX5_signify 37 = .ok (.iload_n 3, 1) := by decide +kernel
theorem dX5_signify_38 : decode cX5_signify 38 = .ok (.bipush 9, 2) := by decide +kernel
theorem dX5_signify_40 : decode cX5_signify 40 = .ok (.ishl, 1) := by decide +kernel
theorem dX5_signify_41 : decode cX5_signify 41 = .ok (.iadd, 1) := by decide +kernel
theorem dX5_signify_42 : decode cX5_signify 42 = .ok (.istore 5, 2) := by decide +kernel
theorem dX5_signify_44 : decode cX5_signify 44 = .ok (.bipush 16, 2) := by decide +kernel
theorem dX5_signify_46 : decode cX5_signify 46 = .ok (.istore 6, 2) := by decide +kernel
theorem dX5_signify_48 : decode cX5_signify 48 = .ok (.aload_n 0, 1) := by decide +kernel
theorem dX5_signify_49 : decode cX5_signify 49 = .ok (.iload_n 1, 1) := by decide +kernel
theorem dX5_signify_50 : decode cX5_signify 50 = .ok (.iconst 1, 1) := by decide +kernel
theorem dX5_signify_51 : decode cX5_signify 51 = .ok (.isub, 1) := by decide +kernel
theorem dX5_signify_52 : decode cX5_signify 52 = .ok (.iload_n 2, 1) := by decide +kernel
theorem dX5_signify_53 : decode cX5_signify 53 = .ok (.iload 4, 2) := by decide +kernel
theorem dX5_signify_55 : decode cX5_signify 55 = .ok (.invokevirtual 67, 3) := by decide +kernel
theorem dX5_signify_58 : decode cX5_signify 58 = .ok (.aload_n 0, 1) := by decide +kernel
theorem dX5_signify_59 : decode cX5_signify 59 = .ok (.iload_n 1, 1) := by decide +kernel
theorem dX5_signify_60 : decode cX5_signify 60 = .ok (.iconst 1, 1) := by decide +kernel
theorem dX5_signify_61 : decode cX5_signify 61 = .ok (.iadd, 1) := by decide +kernel
theorem dX5_signify_62 : decode cX5_signify 62 = .ok (.iload_n 2, 1) := by decide +kernel
theorem dX5_signify_63 : decode cX5_signify 63 = .ok (.iload 4, 2) := by decide +kernel
theorem dX5_signify_65 : decode cX5_signify 65 = .ok (.invokevirtual 67, 3) := by decide +kernel
theorem dX5_signify_68 : decode cX5_signify 68 = .ok (.aload_n 0, 1) := by decide +kernel
theorem dX5_signify_69 : decode cX5_signify 69 = .ok (.iload_n 1, 1) := by decide +kernel
theorem dX5_signify_70 : decode cX5_signify 70 = .ok (.iconst 1, 1) := by decide +kernel
theorem dX5_signify_71 : decode cX5_signify 71 = .ok (.isub, 1) := by decide +kernel
theorem dX5_signify_72 : decode cX5_signify 72 = .ok (.iload_n 2, 1) := by decide +kernel
theorem dX5_signify_73 : decode cX5_signify 73 = .ok (.iconst 1, 1) := by decide +kernel
theorem dX5_signify_74 : decode cX5_signify 74 = .ok (.iadd, 1) := by decide +kernel
theorem dX5_signify_75 : decode cX5_signify 75 = .ok (.iload 6, 2) := by decide +kernel
theorem dX5_signify_77 : decode cX5_signify 77 = .ok (.invokevirtual 67, 3) := by decide +kernel
theorem dX5_signify_80 : decode cX5_signify 80 = .ok (.aload_n 0, 1) := by decide +kernel
theorem dX5_signify_81 : decode cX5_signify 81 = .ok (.iload_n 1, 1) := by decide +kernel
theorem dX5_signify_82 : decode cX5_signify 82 = .ok (.iload_n 2, 1) := by decide +kernel
theorem dX5_signify_83 : decode cX5_signify 83 = .ok (.iconst 1, 1) := by decide +kernel
theorem dX5_signify_84 : decode cX5_signify 84 = .ok (.iadd, 1) := by decide +kernel
theorem dX5_signify_85 : decode cX5_signify 85 = .ok (.iload 5, 2) := by decide +kernel
theorem dX5_signify_87 : decode cX5_signify 87 = .ok (.invokevirtual 67, 3) := by decide +kernel
theorem dX5_signify_90 : decode cX5_signify 90 = .ok (.aload_n 0, 1) := by decide +kernel
theorem dX5_signify_91 : decode cX5_signify 91 = .ok (.iload_n 1, 1) := by decide +kernel
theorem dX5_signify_92 : decode cX5_signify 92 = .ok (.iconst 1, 1) := by decide +kernel
theorem dX5_signify_93 : decode cX5_signify 93 = .ok (.iadd, 1) := by decide +kernel
theorem dX5_signify_94 : decode cX5_signify 94 = .ok (.iload_n 2, 1) := by decide +kernel
theorem dX5_signify_95 : decode cX5_signify 95 = .ok (.iconst 1, 1) := by decide +kernel
theorem dX5_signify_96 : decode cX5_signify 96 = .ok (.iadd, 1) := by decide +kernel
theorem dX5_signify_97 : decode cX5_signify 97 = .ok (.iload 6, 2) := by decide +kernel
theorem dX5_signify_99 : decode cX5_signify 99 = .ok (.invokevirtual 67, 3) := by decide +kernel
theorem dX5_signify_102 : decode cX5_signify 102 = .ok (.aload_n 0, 1) := by decide +kernel
theorem dX5_signify_103 : decode cX5_signify 103 = .ok (.getfield 31, 3) := by decide +kernel
theorem dX5_signify_106 : decode cX5_signify 106 = .ok (.ifCond .eq 9, 3) := by decide +kernel
theorem dX5_signify_109 : decode cX5_signify 109 = .ok (.iload_n 2, 1) := by decide +kernel
theorem dX5_signify_110 : decode cX5_signify 110 = .ok (.iconst 4, 1) := by decide +kernel
theorem dX5_signify_111 : decode cX5_signify 111 = .ok (.irem, 1) := by decide +kernel
theorem dX5_signify_112 : decode cX5_signify 112 = .ok (.ifCond .eq 37, 3) := by decide +kernel
theorem dX5_signify_115 : decode cX5_signify 115 = .ok (.aload_n 0, 1) := by decide +kernel
theorem dX5_signify_116 : decode cX5_signify 116 = .ok (.iload_n 1, 1) := by decide +kernel
theorem dX5_signify_117 : decode cX5_signify 117 = .ok (.iconst 1, 1) := by decide +kernel
theorem dX5_signify_118 : decode cX5_signify 118 = .ok (.isub, 1) := by decide +kernel
theorem dX5_signify_119 : decode cX5_signify 119 = .ok (.iload_n 2, 1) := by decide +kernel
theorem dX5_signify_120 : decode cX5_signify 120 = .ok (.iconst 1, 1) := by decide +kernel
theorem dX5_signify_121 : decode cX5_signify 121 = .ok (.isub, 1) := by decide +kernel
theorem dX5_signify_122 : decode cX5_signify 122 = .ok (.iload 6, 2) := by decide +kernel
theorem dX5_signify_124 : decode cX5_signify 124 = .ok (.invokevirtual 67, 3) := by decide +kernel
theorem dX5_signify_127 : decode cX5_signify 127 = .ok (.aload_n 0, 1) := by decide +kernel
theorem dX5_signify_128 : decode cX5_signify 128 = .ok (.iload_n 1, 1) := by decide +kernel
theorem dX5_signify_129 : decode cX5_signify 129 = .ok (.iload_n 2, 1) := by decide +kernel
theorem dX5_signify_130 : decode cX5_signify 130 = .ok (.iconst 1, 1) := by decide +kernel
theorem dX5_signify_131 : decode cX5_signify 131 = .ok (.isub, 1) := by decide +kernel
theorem dX5_signify_132 : decode cX5_signify 132 = .ok (.iload 5, 2) := by decide +kernel
theorem dX5_signify_134 : decode cX5_signify 134 = .ok (.invokevirtual 67, 3) := by decide +kernel
theorem dX5_signify_137 : decode cX5_signify 137 = .ok (.aload_n 0, 1) := by decide +kernel
theorem dX5_signify_138 : decode cX5_signify 138 = .ok (.iload_n 1, 1) := by decide +kernel
theorem dX5_signify_139 : decode cX5_signify 139 = .ok (.iconst 1, 1) := by decide +kernel
theorem dX5_signify_140 : decode cX5_signify 140 = .ok (.iadd, 1) := by decide +kernel
theorem dX5_signify_141 : decode cX5_signify 141 = .ok (.iload_n 2, 1) := by decide +kernel
theorem dX5_signify_142 : decode cX5_signify 142 = .ok (.iconst 1, 1) := by decide +kernel
theorem dX5_signify_143 : decode cX5_signify 143 = .ok (.isub, 1) := by decide +kernel
theorem dX5_signify_144 : decode cX5_signify 144 = .ok (.iload 6, 2) := by decide +kernel
theorem dX5_signify_146 : decode cX5_signify 146 = .ok (.invokevirtual 67, 3) := by decide +kernel
theorem dX5_signify_149 : decode cX5_signify 149 = .ok (.return_, 1) := by decide +kernel
set_option maxRecDepth 20000 in
theorem ggX5_tell_X5_holds : GoodIn wsX5_tell wsX5_holds := goodIn_r _ [6, 7, 8, 13, 14, 15, 16, 17, 18, 19] (by decide +kernel) (by decide +kernel)
set_option maxRecDepth 20000 in
theorem gX5_tell_X5_holds : GoodIn wsX5_tell (wsV RX5 71 RX5 yX5_holds wsX5_holds) := goodIn_app (goodIn_of _ (by decide +kernel)) ggX5_tell_X5_holds
set_option maxRecDepth 20000 in
theorem ggX5_tell_X5_place : GoodIn wsX5_tell wsX5_place := goodIn_r _ [12, 7, 13, 14, 15, 16, 17, 18, 19] (by decide +kernel) (by decide +kernel)
set_option maxRecDepth 20000 in
theorem gX5_tell_X5_place : GoodIn wsX5_tell (wsV RX5 64 RX5 yX5_place wsX5_place) := goodIn_app (goodIn_of _ (by decide +kernel)) ggX5_tell_X5_place
theorem dX5_tell_0 : decode cX5_tell 0 = .ok (.aload_n 0, 1) := by decide +kernel
theorem dX5_tell_1 : decode cX5_tell 1 = .ok (.iload_n 1, 1) := by decide +kernel
theorem dX5_tell_2 : decode cX5_tell 2 = .ok (.iload_n 2, 1) := by decide +kernel
theorem dX5_tell_3 : decode cX5_tell 3 = .ok (.invokevirtual 71, 3) := by decide +kernel
theorem dX5_tell_6 : decode cX5_tell 6 = .ok (.ifCond .eq 18, 3) := by decide +kernel
theorem dX5_tell_9 : decode cX5_tell 9 = .ok (.aload_n 0, 1) := by decide +kernel
theorem dX5_tell_10 : decode cX5_tell 10 = .ok (.getfield 25, 3) := by decide +kernel
theorem dX5_tell_13 : decode cX5_tell 13 = .ok (.aload_n 0, 1) := by decide +kernel
theorem dX5_tell_14 : decode cX5_tell 14 = .ok (.iload_n 1, 1) := by decide +kernel
theorem dX5_tell_15 : decode cX5_tell 15 = .ok (.iload_n 2, 1) := by decide +kernel
theorem dX5_tell_16 : decode cX5_tell 16 = .ok (.invokevirtual 64, 3) := by decide +kernel
theorem dX5_tell_19 : decode cX5_tell 19 = .ok (.dup2, 1) := by decide +kernel
theorem dX5_tell_20 : decode cX5_tell 20 = .ok (.iaload, 1) := by decide +kernel
theorem dX5_tell_21 : decode cX5_tell 21 = .ok (.iload_n 3, 1) := by decide +kernel
theorem dX5_tell_22 : decode cX5_tell 22 = .ok (.iadd, 1) := by decide +kernel
theorem dX5_tell_23 : decode cX5_tell 23 = .ok (.iastore, 1) := by decide +kernel
theorem dX5_tell_24 : decode cX5_tell 24 = .ok (.return_, 1) := by decide +kernel
set_option maxRecDepth 20000 in
theorem ggX5_zeroContext_X5_crossContext : GoodIn wsX5_zeroContext wsX5_crossContext := goodIn_r _ [6, 7, 8, 9, 10] (by decide +kernel) (by decide +kernel)
set_option maxRecDepth 20000 in
theorem gX5_zeroContext_X5_crossContext : GoodIn wsX5_zeroContext (va_wsS RX5 75 yX5_crossContext wsX5_crossContext) := goodIn_app (goodIn_of _ (by decide +kernel)) ggX5_zeroContext_X5_crossContext
set_option maxRecDepth 20000 in
theorem ggX5_zeroContext_X5_sideContext : GoodIn wsX5_zeroContext wsX5_sideContext := goodIn_r _ [13, 7, 8, 9, 10] (by decide +kernel) (by decide +kernel)
set_option maxRecDepth 20000 in
theorem gX5_zeroContext_X5_sideContext : GoodIn wsX5_zeroContext (va_wsS RX5 78 yX5_sideContext wsX5_sideContext) := goodIn_app (goodIn_of _ (by decide +kernel)) ggX5_zeroContext_X5_sideContext
theorem dX5_zeroContext_0 : decode cX5_zeroContext 0 = .ok (.aload_n 0, 1) := by decide +kernel
theorem dX5_zeroContext_1 : decode cX5_zeroContext 1 = .ok (.getfield 25, 3) := by decide +kernel
theorem dX5_zeroContext_4 : decode cX5_zeroContext 4 = .ok (.iload_n 1, 1) := by decide +kernel
theorem dX5_zeroContext_5 : decode cX5_zeroContext 5 = .ok (.iaload, 1) := by decide +kernel
theorem dX5_zeroContext_6 : decode cX5_zeroContext 6 = .ok (.iconst 0, 1) := by decide +kernel
theorem dX5_zeroContext_7 : decode cX5_zeroContext 7 = .ok (.ishr, 1) := by decide +kernel
theorem dX5_zeroContext_8 : decode cX5_zeroContext 8 = .ok (.iconst 3, 1) := by decide +kernel
theorem dX5_zeroContext_9 : decode cX5_zeroContext 9 = .ok (.iand, 1) := by decide +kernel
theorem dX5_zeroContext_10 : decode cX5_zeroContext 10 = .ok (.istore_n 2, 1) := by decide +kernel
theorem dX5_zeroContext_11 : decode cX5_zeroContext 11 = .ok (.aload_n 0, 1) := by decide +kernel
theorem dX5_zeroContext_12 : decode cX5_zeroContext 12 = .ok (.getfield 25, 3) := by decide +kernel
theorem dX5_zeroContext_15 : decode cX5_zeroContext 15 = .ok (.iload_n 1, 1) := by decide +kernel
theorem dX5_zeroContext_16 : decode cX5_zeroContext 16 = .ok (.iaload, 1) := by decide +kernel
theorem dX5_zeroContext_17 : decode cX5_zeroContext 17 = .ok (.iconst 2, 1) := by decide +kernel
theorem dX5_zeroContext_18 : decode cX5_zeroContext 18 = .ok (.ishr, 1) := by decide +kernel
theorem dX5_zeroContext_19 : decode cX5_zeroContext 19 = .ok (.iconst 3, 1) := by decide +kernel
theorem dX5_zeroContext_20 : decode cX5_zeroContext 20 = .ok (.iand, 1) := by decide +kernel
theorem dX5_zeroContext_21 : decode cX5_zeroContext 21 = .ok (.istore_n 3, 1) := by decide +kernel
theorem dX5_zeroContext_22 : decode cX5_zeroContext 22 = .ok (.aload_n 0, 1) := by decide +kernel
theorem dX5_zeroContext_23 : decode cX5_zeroContext 23 = .ok (.getfield 25, 3) := by decide +kernel
theorem dX5_zeroContext_26 : decode cX5_zeroContext 26 = .ok (.iload_n 1, 1) := by decide +kernel
theorem dX5_zeroContext_27 : decode cX5_zeroContext 27 = .ok (.iaload, 1) := by decide +kernel
theorem dX5_zeroContext_28 : decode cX5_zeroContext 28 = .ok (.iconst 4, 1) := by decide +kernel
theorem dX5_zeroContext_29 : decode cX5_zeroContext 29 = .ok (.ishr, 1) := by decide +kernel
theorem dX5_zeroContext_30 : decode cX5_zeroContext 30 = .ok (.bipush 7, 2) := by decide +kernel
theorem dX5_zeroContext_32 : decode cX5_zeroContext 32 = .ok (.iand, 1) := by decide +kernel
theorem dX5_zeroContext_33 : decode cX5_zeroContext 33 = .ok (.istore 4, 2) := by decide +kernel
theorem dX5_zeroContext_35 : decode cX5_zeroContext 35 = .ok (.aload_n 0, 1) := by decide +kernel
theorem dX5_zeroContext_36 : decode cX5_zeroContext 36 = .ok (.getfield 28, 3) := by decide +kernel
theorem dX5_zeroContext_39 : decode cX5_zeroContext 39 = .ok (.iconst 3, 1) := by decide +kernel
theorem dX5_zeroContext_40 : decode cX5_zeroContext 40 = .ok (.if_icmp .ne 12, 3) := by decide +kernel
theorem dX5_zeroContext_43 : decode cX5_zeroContext 43 = .ok (.iload_n 2, 1) := by decide +kernel
theorem dX5_zeroContext_44 : decode cX5_zeroContext 44 = .ok (.iload_n 3, 1) := by decide +kernel
theorem dX5_zeroContext_45 : decode cX5_zeroContext 45 = .ok (.iadd, 1) := by decide +kernel
theorem dX5_zeroContext_46 : decode cX5_zeroContext 46 = .ok (.iload 4, 2) := by decide +kernel
theorem dX5_zeroContext_48 : decode cX5_zeroContext 48 = .ok (.invokestatic 75, 3) := by decide +kernel
theorem dX5_zeroContext_51 : decode cX5_zeroContext 51 = .ok (.ireturn, 1) := by decide +kernel
theorem dX5_zeroContext_52 : decode cX5_zeroContext 52 = .ok (.aload_n 0, 1) := by decide +kernel
theorem dX5_zeroContext_53 : decode cX5_zeroContext 53 = .ok (.getfield 28, 3) := by decide +kernel
theorem dX5_zeroContext_56 : decode cX5_zeroContext 56 = .ok (.iconst 1, 1) := by decide +kernel
theorem dX5_zeroContext_57 : decode cX5_zeroContext 57 = .ok (.if_icmp .ne 13, 3) := by decide +kernel
theorem dX5_zeroContext_60 : decode cX5_zeroContext 60 = .ok (.iload_n 3, 1) := by decide +kernel
theorem dX5_zeroContext_61 : decode cX5_zeroContext 61 = .ok (.iload_n 2, 1) := by decide +kernel
theorem dX5_zeroContext_62 : decode cX5_zeroContext 62 = .ok (.iload 4, 2) := by decide +kernel
theorem dX5_zeroContext_64 : decode cX5_zeroContext 64 = .ok (.invokestatic 78, 3) := by decide +kernel
theorem dX5_zeroContext_67 : decode cX5_zeroContext 67 = .ok (.goto 10, 3) := by decide +kernel
theorem dX5_zeroContext_70 : decode cX5_zeroContext 70 = .ok (.iload_n 2, 1) := by decide +kernel
theorem dX5_zeroContext_71 : decode cX5_zeroContext 71 = .ok (.iload_n 3, 1) := by decide +kernel
theorem dX5_zeroContext_72 : decode cX5_zeroContext 72 = .ok (.iload 4, 2) := by decide +kernel
theorem dX5_zeroContext_74 : decode cX5_zeroContext 74 = .ok (.invokestatic 78, 3) := by decide +kernel
theorem dX5_zeroContext_77 : decode cX5_zeroContext 77 = .ok (.ireturn, 1) := by decide +kernel
theorem dX5_sideContext_0 : decode cX5_sideContext 0 = .ok (.iload_n 0, 1) := by decide +kernel
theorem dX5_sideContext_1 : decode cX5_sideContext 1 = .ok (.iconst 2, 1) := by decide +kernel
theorem dX5_sideContext_2 : decode cX5_sideContext 2 = .ok (.if_icmp .ne 6, 3) := by decide +kernel
theorem dX5_sideContext_5 : decode cX5_sideContext 5 = .ok (.bipush 8, 2) := by decide +kernel
theorem dX5_sideContext_7 : decode cX5_sideContext 7 = .ok (.ireturn, 1) := by decide +kernel
theorem dX5_sideContext_8 : decode cX5_sideContext 8 = .ok (.iload_n 0, 1) := by decide +kernel
theorem dX5_sideContext_9 : decode cX5_sideContext 9 = .ok (.iconst 1, 1) := by decide +kernel
theorem dX5_sideContext_10 : decode cX5_sideContext 10 = .ok (.if_icmp .ne 23, 3) := by decide +kernel
theorem dX5_sideContext_13 : decode cX5_sideContext 13 = .ok (.iload_n 1, 1) := by decide +kernel
theorem dX5_sideContext_14 : decode cX5_sideContext 14 = .ok (.ifCond .le 8, 3) := by decide +kernel
theorem dX5_sideContext_17 : decode cX5_sideContext 17 = .ok (.bipush 7, 2) := by decide +kernel
theorem dX5_sideContext_19 : decode cX5_sideContext 19 = .ok (.goto 13, 3) := by decide +kernel
theorem dX5_sideContext_22 : decode cX5_sideContext 22 = .ok (.iload_n 2, 1) := by decide +kernel
theorem dX5_sideContext_23 : decode cX5_sideContext 23 = .ok (.ifCond .le 8, 3) := by decide +kernel
theorem dX5_sideContext_26 : decode cX5_sideContext 26 = .ok (.bipush 6, 2) := by decide +kernel
theorem dX5_sideContext_28 : decode cX5_sideContext 28 = .ok (.goto 4, 3) := by decide +kernel
theorem dX5_sideContext_31 : decode cX5_sideContext 31 = .ok (.iconst 5, 1) := by decide +kernel
theorem dX5_sideContext_32 : decode cX5_sideContext 32 = .ok (.ireturn, 1) := by decide +kernel
theorem dX5_sideContext_33 : decode cX5_sideContext 33 = .ok (.iload_n 1, 1) := by decide +kernel
theorem dX5_sideContext_34 : decode cX5_sideContext 34 = .ok (.ifCond .le 9, 3) := by decide +kernel
theorem dX5_sideContext_37 : decode cX5_sideContext 37 = .ok (.iload_n 1, 1) := by decide +kernel
theorem dX5_sideContext_38 : decode cX5_sideContext 38 = .ok (.iconst 2, 1) := by decide +kernel
theorem dX5_sideContext_39 : decode cX5_sideContext 39 = .ok (.iadd, 1) := by decide +kernel
theorem dX5_sideContext_40 : decode cX5_sideContext 40 = .ok (.goto 8, 3) := by decide +kernel
theorem dX5_sideContext_43 : decode cX5_sideContext 43 = .ok (.iload_n 2, 1) := by decide +kernel
theorem dX5_sideContext_44 : decode cX5_sideContext 44 = .ok (.iconst 2, 1) := by decide +kernel
theorem dX5_sideContext_45 : decode cX5_sideContext 45 = .ok (.invokestatic 41, 3) := by decide +kernel
theorem dX5_sideContext_48 : decode cX5_sideContext 48 = .ok (.ireturn, 1) := by decide +kernel
theorem dX5_crossContext_0 : decode cX5_crossContext 0 = .ok (.iload_n 1, 1) := by decide +kernel
theorem dX5_crossContext_1 : decode cX5_crossContext 1 = .ok (.iconst 2, 1) := by decide +kernel
theorem dX5_crossContext_2 : decode cX5_crossContext 2 = .ok (.if_icmp .le 6, 3) := by decide +kernel
theorem dX5_crossContext_5 : decode cX5_crossContext 5 = .ok (.bipush 8, 2) := by decide +kernel
theorem dX5_crossContext_7 : decode cX5_crossContext 7 = .ok (.ireturn, 1) := by decide +kernel
theorem dX5_crossContext_8 : decode cX5_crossContext 8 = .ok (.iload_n 1, 1) := by decide +kernel
theorem dX5_crossContext_9 : decode cX5_crossContext 9 = .ok (.iconst 2, 1) := by decide +kernel
theorem dX5_crossContext_10 : decode cX5_crossContext 10 = .ok (.if_icmp .ne 15, 3) := by decide +kernel
theorem dX5_crossContext_13 : decode cX5_crossContext 13 = .ok (.iload_n 0, 1) := by decide +kernel
theorem dX5_crossContext_14 : decode cX5_crossContext 14 = .ok (.ifCond .le 8, 3) := by decide +kernel
theorem dX5_crossContext_17 : decode cX5_crossContext 17 = .ok (.bipush 7, 2) := by decide +kernel
theorem dX5_crossContext_19 : decode cX5_crossContext 19 = .ok (.goto 5, 3) := by decide +kernel
theorem dX5_crossContext_22 : decode cX5_crossContext 22 = .ok (.bipush 6, 2) := by decide +kernel
theorem dX5_crossContext_24 : decode cX5_crossContext 24 = .ok (.ireturn, 1) := by decide +kernel
theorem dX5_crossContext_25 : decode cX5_crossContext 25 = .ok (.iload_n 1, 1) := by decide +kernel
theorem dX5_crossContext_26 : decode cX5_crossContext 26 = .ok (.iconst 1, 1) := by decide +kernel
theorem dX5_crossContext_27 : decode cX5_crossContext 27 = .ok (.if_icmp .ne 13, 3) := by decide +kernel
theorem dX5_crossContext_30 : decode cX5_crossContext 30 = .ok (.iconst 3, 1) := by decide +kernel
theorem dX5_crossContext_31 : decode cX5_crossContext 31 = .ok (.iload_n 0, 1) := by decide +kernel
theorem dX5_crossContext_32 : decode cX5_crossContext 32 = .ok (.iconst 2, 1) := by decide +kernel
theorem dX5_crossContext_33 : decode cX5_crossContext 33 = .ok (.invokestatic 41, 3) := by decide +kernel
theorem dX5_crossContext_36 : decode cX5_crossContext 36 = .ok (.iadd, 1) := by decide +kernel
theorem dX5_crossContext_37 : decode cX5_crossContext 37 = .ok (.goto 8, 3) := by decide +kernel
theorem dX5_crossContext_40 : decode cX5_crossContext 40 = .ok (.iload_n 0, 1) := by decide +kernel
theorem dX5_crossContext_41 : decode cX5_crossContext 41 = .ok (.iconst 2, 1) := by decide +kernel
theorem dX5_crossContext_42 : decode cX5_crossContext 42 = .ok (.invokestatic 41, 3) := by decide +kernel
theorem dX5_crossContext_45 : decode cX5_crossContext 45 = .ok (.ireturn, 1) := by decide +kernel
set_option maxRecDepth 20000 in
theorem ggX5_signPull_J6_signum_0f7a4 : GoodIn wsX5_signPull wsJ6_signum_0f7a4 := goodIn_r _ [5] (by decide +kernel) (by decide +kernel)
set_option maxRecDepth 20000 in
theorem gX5_signPull_J6_signum_0f7a4 : GoodIn wsX5_signPull (va_wsS RX5 82 yJ6_signum_0f7a4 wsJ6_signum_0f7a4) := goodIn_app (goodIn_of _ (by decide +kernel)) ggX5_signPull_J6_signum_0f7a4
theorem dX5_signPull_0 : decode cX5_signPull 0 = .ok (.aload_n 0, 1) := by decide +kernel
theorem dX5_signPull_1 : decode cX5_signPull 1 = .ok (.getfield 25, 3) := by decide +kernel
theorem dX5_signPull_4 : decode cX5_signPull 4 = .ok (.iload_n 1, 1) := by decide +kernel
theorem dX5_signPull_5 : decode cX5_signPull 5 = .ok (.iaload, 1) := by decide +kernel
theorem dX5_signPull_6 : decode cX5_signPull 6 = .ok (.istore_n 2, 1) := by decide +kernel
theorem dX5_signPull_7 : decode cX5_signPull 7 = .ok (.iload_n 2, 1) := by decide +kernel
theorem dX5_signPull_8 : decode cX5_signPull 8 = .ok (.iconst 0, 1) := by decide +kernel
theorem dX5_signPull_9 : decode cX5_signPull 9 = .ok (.ishr, 1) := by decide +kernel
theorem dX5_signPull_10 : decode cX5_signPull 10 = .ok (.iconst 3, 1) := by decide +kernel
theorem dX5_signPull_11 : decode cX5_signPull 11 = .ok (.iand, 1) := by decide +kernel
theorem dX5_signPull_12 : decode cX5_signPull 12 = .ok (.iconst 2, 1) := by decide +kernel
theorem dX5_signPull_13 : decode cX5_signPull 13 = .ok (.iload_n 2, 1) := by decide +kernel
theorem dX5_signPull_14 : decode cX5_signPull 14 = .ok (.bipush 7, 2) := by decide +kernel
theorem dX5_signPull_16 : decode cX5_signPull 16 = .ok (.ishr, 1) := by decide +kernel
theorem dX5_signPull_17 : decode cX5_signPull 17 = .ok (.iconst 3, 1) := by decide +kernel
theorem dX5_signPull_18 : decode cX5_signPull 18 = .ok (.iand, 1) := by decide +kernel
theorem dX5_signPull_19 : decode cX5_signPull 19 = .ok (.imul, 1) := by decide +kernel
theorem dX5_signPull_20 : decode cX5_signPull 20 = .ok (.isub, 1) := by decide +kernel
theorem dX5_signPull_21 : decode cX5_signPull 21 = .ok (.istore_n 3, 1) := by decide +kernel
theorem dX5_signPull_22 : decode cX5_signPull 22 = .ok (.iload_n 2, 1) := by decide +kernel
theorem dX5_signPull_23 : decode cX5_signPull 23 = .ok (.iconst 2, 1) := by decide +kernel
theorem dX5_signPull_24 : decode cX5_signPull 24 = .ok (.ishr, 1) := by decide +kernel
theorem dX5_signPull_25 : decode cX5_signPull 25 = .ok (.iconst 3, 1) := by decide +kernel
theorem dX5_signPull_26 : decode cX5_signPull 26 = .ok (.iand, 1) := by decide +kernel
theorem dX5_signPull_27 : decode cX5_signPull 27 = .ok (.iconst 2, 1) := by decide +kernel
theorem dX5_signPull_28 : decode cX5_signPull 28 = .ok (.iload_n 2, 1) := by decide +kernel
theorem dX5_signPull_29 : decode cX5_signPull 29 = .ok (.bipush 9, 2) := by decide +kernel
theorem dX5_signPull_31 : decode cX5_signPull 31 = .ok (.ishr, 1) := by decide +kernel
theorem dX5_signPull_32 : decode cX5_signPull 32 = .ok (.iconst 3, 1) := by decide +kernel
theorem dX5_signPull_33 : decode cX5_signPull 33 = .ok (.iand, 1) := by decide +kernel
theorem dX5_signPull_34 : decode cX5_signPull 34 = .ok (.imul, 1) := by decide +kernel
theorem dX5_signPull_35 : decode cX5_signPull 35 = .ok (.isub, 1) := by decide +kernel
theorem dX5_signPull_36 : decode cX5_signPull 36 = .ok (.istore 4, 2) := by decide +kernel
theorem dX5_signPull_38 : decode cX5_signPull 38 = .ok (.iconst 3, 1) := by decide +kernel
theorem dX5_signPull_39 : decode cX5_signPull 39 = .ok (.iload_n 3, 1) := by decide +kernel
theorem dX5_signPull_40 : decode cX5_signPull 40 = .ok (.invokestatic 82, 3) := by decide +kernel
theorem dX5_signPull_43 : decode cX5_signPull 43 = .ok (.imul, 1) := by decide +kernel
theorem dX5_signPull_44 : decode cX5_signPull 44 = .ok (.iload 4, 2) := by decide +kernel
theorem dX5_signPull_46 : decode cX5_signPull 46 = .ok (.invokestatic 82, 3) := by decide +kernel
theorem dX5_signPull_49 : decode cX5_signPull 49 = .ok (.iadd, 1) := by decide +kernel
theorem dX5_signPull_50 : decode cX5_signPull 50 = .ok (.ireturn, 1) := by decide +kernel
theorem dX5_againContext_0 : decode cX5_againContext 0 = .ok (.aload_n 0, 1) := by decide +kernel
theorem dX5_againContext_1 : decode cX5_againContext 1 = .ok (.getfield 25, 3) := by decide +kernel
theorem dX5_againContext_4 : decode cX5_againContext 4 = .ok (.iload_n 1, 1) := by decide +kernel
theorem dX5_againContext_5 : decode cX5_againContext 5 = .ok (.iaload, 1) := by decide +kernel
theorem dX5_againContext_6 : decode cX5_againContext 6 = .ok (.sipush 16384, 3) := by decide +kernel
theorem dX5_againContext_9 : decode cX5_againContext 9 = .ok (.iand, 1) := by decide +kernel
theorem dX5_againContext_10 : decode cX5_againContext 10 = .ok (.ifCond .eq 6, 3) := by decide +kernel
theorem dX5_againContext_13 : decode cX5_againContext 13 = .ok (.bipush 16, 2) := by decide +kernel
theorem dX5_againContext_15 : decode cX5_againContext 15 = .ok (.ireturn, 1) := by decide +kernel
theorem dX5_againContext_16 : decode cX5_againContext 16 = .ok (.aload_n 0, 1) := by decide +kernel
theorem dX5_againContext_17 : decode cX5_againContext 17 = .ok (.getfield 25, 3) := by decide +kernel
theorem dX5_againContext_20 : decode cX5_againContext 20 = .ok (.iload_n 1, 1) := by decide +kernel
theorem dX5_againContext_21 : decode cX5_againContext 21 = .ok (.iaload, 1) := by decide +kernel
theorem dX5_againContext_22 : decode cX5_againContext 22 = .ok (.bipush 127, 2) := by decide +kernel
theorem dX5_againContext_24 : decode cX5_againContext 24 = .ok (.iand, 1) := by decide +kernel
theorem dX5_againContext_25 : decode cX5_againContext 25 = .ok (.ifCond .eq 8, 3) := by decide +kernel
theorem dX5_againContext_28 : decode cX5_againContext 28 = .ok (.bipush 15, 2) := by decide +kernel
theorem dX5_againContext_30 : decode cX5_againContext 30 = .ok (.goto 5, 3) := by decide +kernel
theorem dX5_againContext_33 : decode cX5_againContext 33 = .ok (.bipush 14, 2) := by decide +kernel
theorem dX5_againContext_35 : decode cX5_againContext 35 = .ok (.ireturn, 1) := by decide +kernel
theorem dX6_init_0 : decode cX6_init 0 = .ok (.aload_n 0, 1) := by decide +kernel
theorem dX6_init_1 : decode cX6_init 1 = .ok (.invokespecial 3, 3) := by decide +kernel
theorem dX6_init_4 : decode cX6_init 4 = .ok (.aload_n 0, 1) := by decide +kernel
theorem dX6_init_5 : decode cX6_init 5 = .ok (.bipush 91, 2) := by decide +kernel
theorem dX6_init_7 : decode cX6_init 7 = .ok (.newarray .int, 2) := by decide +kernel
theorem dX6_init_9 : decode cX6_init 9 = .ok (.putfield 9, 3) := by decide +kernel
theorem dX6_init_12 : decode cX6_init 12 = .ok (.aload_n 0, 1) := by decide +kernel
theorem dX6_init_13 : decode cX6_init 13 = .ok (.bipush 91, 2) := by decide +kernel
theorem dX6_init_15 : decode cX6_init 15 = .ok (.newarray .long, 2) := by decide +kernel
theorem dX6_init_17 : decode cX6_init 17 = .ok (.putfield 15, 3) := by decide +kernel
theorem dX6_init_20 : decode cX6_init 20 = .ok (.return_, 1) := by decide +kernel
theorem dX6_lay_0 : decode cX6_lay 0 = .ok (.aload_n 0, 1) := by decide +kernel
theorem dX6_lay_1 : decode cX6_lay 1 = .ok (.iload_n 1, 1) := by decide +kernel
theorem dX6_lay_2 : decode cX6_lay 2 = .ok (.putfield 19, 3) := by decide +kernel
theorem dX6_lay_5 : decode cX6_lay 5 = .ok (.aload_n 0, 1) := by decide +kernel
theorem dX6_lay_6 : decode cX6_lay 6 = .ok (.iload_n 2, 1) := by decide +kernel
theorem dX6_lay_7 : decode cX6_lay 7 = .ok (.putfield 23, 3) := by decide +kernel
theorem dX6_lay_10 : decode cX6_lay 10 = .ok (.aload_n 0, 1) := by decide +kernel
theorem dX6_lay_11 : decode cX6_lay 11 = .ok (.iload_n 2, 1) := by decide +kernel
theorem dX6_lay_12 : decode cX6_lay 12 = .ok (.ifCond .ne 7, 3) := by decide +kernel
theorem dX6_lay_15 : decode cX6_lay 15 = .ok (.iconst 0, 1) := by decide +kernel
theorem dX6_lay_16 : decode cX6_lay 16 = .ok (.goto 8, 3) := by decide +kernel
theorem dX6_lay_19 : decode cX6_lay 19 = .ok (.iconst 3, 1) := by decide +kernel
theorem dX6_lay_20 : decode cX6_lay 20 = .ok (.iload_n 2, 1) := by decide +kernel
theorem dX6_lay_21 : decode cX6_lay 21 = .ok (.imul, 1) := by decide +kernel
theorem dX6_lay_22 : decode cX6_lay 22 = .ok (.iconst 2, 1) := by decide +kernel
theorem dX6_lay_23 : decode cX6_lay 23 = .ok (.isub, 1) := by decide +kernel
theorem dX6_lay_24 : decode cX6_lay 24 = .ok (.putfield 26, 3) := by decide +kernel
theorem dX6_lay_27 : decode cX6_lay 27 = .ok (.aload_n 0, 1) := by decide +kernel
theorem dX6_lay_28 : decode cX6_lay 28 = .ok (.iconst 0, 1) := by decide +kernel
theorem dX6_lay_29 : decode cX6_lay 29 = .ok (.putfield 29, 3) := by decide +kernel
theorem dX6_lay_32 : decode cX6_lay 32 = .ok (.aload_n 0, 1) := by decide +kernel
theorem dX6_lay_33 : decode cX6_lay 33 = .ok (.iconst 0, 1) := by decide +kernel
theorem dX6_lay_34 : decode cX6_lay 34 = .ok (.putfield 32, 3) := by decide +kernel
theorem dX6_lay_37 : decode cX6_lay 37 = .ok (.return_, 1) := by decide +kernel
theorem dX6_kindOf_0 : decode cX6_kindOf 0 = .ok (.iload_n 1, 1) := by decide +kernel
theorem dX6_kindOf_1 : decode cX6_kindOf 1 = .ok (.iconst 2, 1) := by decide +kernel
theorem dX6_kindOf_2 : decode cX6_kindOf 2 = .ok (.iadd, 1) := by decide +kernel
theorem dX6_kindOf_3 : decode cX6_kindOf 3 = .ok (.iconst 3, 1) := by decide +kernel
theorem dX6_kindOf_4 : decode cX6_kindOf 4 = .ok (.irem, 1) := by decide +kernel
theorem dX6_kindOf_5 : decode cX6_kindOf 5 = .ok (.ireturn, 1) := by decide +kernel
theorem dX6_planeOf_0 : decode cX6_planeOf 0 = .ok (.aload_n 0, 1) := by decide +kernel
theorem dX6_planeOf_1 : decode cX6_planeOf 1 = .ok (.getfield 23, 3) := by decide +kernel
theorem dX6_planeOf_4 : decode cX6_planeOf 4 = .ok (.iconst 1, 1) := by decide +kernel
theorem dX6_planeOf_5 : decode cX6_planeOf 5 = .ok (.isub, 1) := by decide +kernel
theorem dX6_planeOf_6 : decode cX6_planeOf 6 = .ok (.iload_n 1, 1) := by decide +kernel
theorem dX6_planeOf_7 : decode cX6_planeOf 7 = .ok (.iconst 2, 1) := by decide +kernel
theorem dX6_planeOf_8 : decode cX6_planeOf 8 = .ok (.iadd, 1) := by decide +kernel
theorem dX6_planeOf_9 : decode cX6_planeOf 9 = .ok (.iconst 3, 1) := by decide +kernel
theorem dX6_planeOf_10 : decode cX6_planeOf 10 = .ok (.idiv, 1) := by decide +kernel
theorem dX6_planeOf_11 : decode cX6_planeOf 11 = .ok (.isub, 1) := by decide +kernel
theorem dX6_planeOf_12 : decode cX6_planeOf 12 = .ok (.ireturn, 1) := by decide +kernel
set_option maxRecDepth 20000 in
theorem ggX6_isRaw_X6_kindOf : GoodIn wsX6_isRaw wsX6_kindOf := goodIn_r _ [6] (by decide +kernel) (by decide +kernel)
set_option maxRecDepth 20000 in
theorem gX6_isRaw_X6_kindOf : GoodIn wsX6_isRaw (wsV RX6 35 RX6 yX6_kindOf wsX6_kindOf) := goodIn_app (goodIn_of _ (by decide +kernel)) ggX6_isRaw_X6_kindOf
theorem dX6_isRaw_0 : decode cX6_isRaw 0 = .ok (.aload_n 0, 1) := by decide +kernel
theorem dX6_isRaw_1 : decode cX6_isRaw 1 = .ok (.getfield 19, 3) := by decide +kernel
theorem dX6_isRaw_4 : decode cX6_isRaw 4 = .ok (.iconst 1, 1) := by decide +kernel
theorem dX6_isRaw_5 : decode cX6_isRaw 5 = .ok (.iand, 1) := by decide +kernel
theorem dX6_isRaw_6 : decode cX6_isRaw 6 = .ok (.ifCond .eq 22, 3) := by decide +kernel
theorem dX6_isRaw_9 : decode cX6_isRaw 9 = .ok (.iload_n 1, 1) := by decide +kernel
theorem dX6_isRaw_10 : decode cX6_isRaw 10 = .ok (.bipush 10, 2) := by decide +kernel
theorem dX6_isRaw_12 : decode cX6_isRaw 12 = .ok (.if_icmp .lt 16, 3) := by decide +kernel
theorem dX6_isRaw_15 : decode cX6_isRaw 15 = .ok (.aload_n 0, 1) := by decide +kernel
theorem dX6_isRaw_16 : decode cX6_isRaw 16 = .ok (.iload_n 1, 1) := by decide +kernel
theorem dX6_isRaw_17 : decode cX6_isRaw 17 = .ok (.invokevirtual 35, 3) := by decide +kernel
theorem dX6_isRaw_20 : decode cX6_isRaw 20 = .ok (.iconst 2, 1) := by decide +kernel
theorem dX6_isRaw_21 : decode cX6_isRaw 21 = .ok (.if_icmp .eq 7, 3) := by decide +kernel
theorem dX6_isRaw_24 : decode cX6_isRaw 24 = .ok (.iconst 1, 1) := by decide +kernel
theorem dX6_isRaw_25 : decode cX6_isRaw 25 = .ok (.goto 4, 3) := by decide +kernel
theorem dX6_isRaw_28 : decode cX6_isRaw 28 = .ok (.iconst 0, 1) := by decide +kernel
theorem dX6_isRaw_29 : decode cX6_isRaw 29 = .ok (.ireturn, 1) := by decide +kernel
set_option maxRecDepth 20000 in
theorem ggX6_startsSegment_X6_endsSegment : GoodIn wsX6_startsSegment wsX6_endsSegment := goodIn_r _ [5, 6, 7, 8, 9, 10, 4, 11, 12, 13, 14, 15, 16, 17, 18] (by decide +kernel) (by decide +kernel)
set_option maxRecDepth 20000 in
theorem gX6_startsSegment_X6_endsSegment : GoodIn wsX6_startsSegment (wsV RX6 39 RX6 yX6_endsSegment wsX6_endsSegment) := goodIn_app (goodIn_of _ (by decide +kernel)) ggX6_startsSegment_X6_endsSegment
theorem dX6_startsSegment_0 : decode cX6_startsSegment 0 = .ok (.iload_n 1, 1) := by decide +kernel
theorem dX6_startsSegment_1 : decode cX6_startsSegment 1 = .ok (.ifCond .eq 13, 3) := by decide +kernel
theorem dX6_startsSegment_4 : decode cX6_startsSegment 4 = .ok (.aload_n 0, 1) := by decide +kernel
theorem dX6_startsSegment_5 : decode cX6_startsSegment 5 = .ok (.iload_n 1, 1) := by decide +kernel
theorem dX6_startsSegment_6 : decode cX6_startsSegment 6 = .ok (.iconst 1, 1) := by decide +kernel
theorem dX6_startsSegment_7 : decode cX6_startsSegment 7 = .ok (.isub, 1) := by decide +kernel
theorem dX6_startsSegment_8 : decode cX6_startsSegment 8 = .ok (.invokevirtual 39, 3) := by decide +kernel
theorem dX6_startsSegment_11 : decode cX6_startsSegment 11 = .ok (.ifCond .eq 7, 3) := by decide +kernel
theorem dX6_startsSegment_14 : decode cX6_startsSegment 14 = .ok (.iconst 1, 1) := by decide +kernel
theorem dX6_startsSegment_15 : decode cX6_startsSegment 15 = .ok (.goto 4, 3) := by decide +kernel
theorem dX6_startsSegment_18 : decode cX6_startsSegment 18 = .ok (.iconst 0, 1) := by decide +kernel
theorem dX6_startsSegment_19 : decode cX6_startsSegment 19 = .ok (.ireturn, 1) := by decide +kernel
set_option maxRecDepth 20000 in
theorem ggX6_endsSegment_X6_kindOf : GoodIn wsX6_endsSegment wsX6_kindOf := goodIn_r _ [7] (by decide +kernel) (by decide +kernel)
set_option maxRecDepth 20000 in
theorem gX6_endsSegment_X6_kindOf : GoodIn wsX6_endsSegment (wsV RX6 35 RX6 yX6_kindOf wsX6_kindOf) := goodIn_app (goodIn_of _ (by decide +kernel)) ggX6_endsSegment_X6_kindOf
theorem dX6_endsSegment_0 : decode cX6_endsSegment 0 = .ok (.iload_n 1, 1) := by decide +kernel
theorem dX6_endsSegment_1 : decode cX6_endsSegment 1 = .ok (.aload_n 0, 1) := by decide +kernel
theorem dX6_endsSegment_2 : decode cX6_endsSegment 2 = .ok (.getfield 26, 3) := by decide +kernel
theorem dX6_endsSegment_5 : decode cX6_endsSegment 5 = .ok (.iconst 1, 1) := by decide +kernel
theorem dX6_endsSegment_6 : decode cX6_endsSegment 6 = .ok (.isub, 1) := by decide +kernel
theorem dX6_endsSegment_7 : decode cX6_endsSegment 7 = .ok (.if_icmp .eq 12, 3) := by decide +kernel
theorem dX6_endsSegment_10 : decode cX6_endsSegment 10 = .ok (.aload_n 0, 1) := by decide +kernel
theorem dX6_endsSegment_11 : decode cX6_endsSegment 11 = .ok (.getfield 19, 3) := by decide +kernel
theorem dX6_endsSegment_14 : decode cX6_endsSegment 14 = .ok (.iconst 4, 1) := by decide +kernel
theorem dX6_endsSegment_15 : decode cX6_endsSegment 15 = .ok (.iand, 1) := by decide +kernel
theorem dX6_endsSegment_16 : decode cX6_endsSegment 16 = .ok (.ifCond .eq 5, 3) := by decide +kernel
theorem dX6_endsSegment_19 : decode cX6_endsSegment 19 = .ok (.iconst 1, 1) := by decide +kernel
theorem dX6_endsSegment_20 : decode cX6_endsSegment 20 = .ok (.ireturn, 1) := by decide +kernel
theorem dX6_endsSegment_21 : decode cX6_endsSegment 21 = .ok (.aload_n 0, 1) := by decide +kernel
theorem dX6_endsSegment_22 : decode cX6_endsSegment 22 = .ok (.getfield 19, 3) := by decide +kernel
theorem dX6_endsSegment_25 : decode cX6_endsSegment 25 = .ok (.iconst 1, 1) := by decide +kernel
theorem dX6_endsSegment_26 : decode cX6_endsSegment 26 = .ok (.iand, 1) := by decide +kernel
theorem dX6_endsSegment_27 : decode cX6_endsSegment 27 = .ok (.ifCond .ne 5, 3) := by decide +kernel
theorem dX6_endsSegment_30 : decode cX6_endsSegment 30 = .ok (.iconst 0, 1) := by decide +kernel
theorem dX6_endsSegment_31 : decode cX6_endsSegment 31 = .ok (.ireturn, 1) := by decide +kernel
theorem dX6_endsSegment_32 : decode cX6_endsSegment 32 = .ok (.aload_n 0, 1) := by decide +kernel
theorem dX6_endsSegment_33 : decode cX6_endsSegment 33 = .ok (.iload_n 1, 1) := by decide +kernel
theorem dX6_endsSegment_34 : decode cX6_endsSegment 34 = .ok (.invokevirtual 35, 3) := by decide +kernel
theorem dX6_endsSegment_37 : decode cX6_endsSegment 37 = .ok (.iconst 2, 1) := by decide +kernel
theorem dX6_endsSegment_38 : decode cX6_endsSegment 38 = .ok (.if_icmp .ne 9, 3) := by decide +kernel
theorem dX6_endsSegment_41 : decode cX6_endsSegment 41 = .ok (.iload_n 1, 1) := by decide +kernel
theorem dX6_endsSegment_42 : decode cX6_endsSegment 42 = .ok (.bipush 9, 2) := by decide +kernel
theorem dX6_endsSegment_44 : decode cX6_endsSegment 44 = .ok (.if_icmp .ge 18, 3) := by decide +kernel
theorem dX6_endsSegment_47 : decode cX6_endsSegment 47 = .ok (.aload_n 0, 1) := by decide +kernel
theorem dX6_endsSegment_48 : decode cX6_endsSegment 48 = .ok (.iload_n 1, 1) := by decide +kernel
theorem dX6_endsSegment_49 : decode cX6_endsSegment 49 = .ok (.invokevirtual 35, 3) := by decide +kernel
theorem dX6_endsSegment_52 : decode cX6_endsSegment 52 = .ok (.iconst 1, 1) := by decide +kernel
theorem dX6_endsSegment_53 : decode cX6_endsSegment 53 = .ok (.if_icmp .ne 13, 3) := by decide +kernel
theorem dX6_endsSegment_56 : decode cX6_endsSegment 56 = .ok (.iload_n 1, 1) := by decide +kernel
theorem dX6_endsSegment_57 : decode cX6_endsSegment 57 = .ok (.bipush 10, 2) := by decide +kernel
theorem dX6_endsSegment_59 : decode cX6_endsSegment 59 = .ok (.if_icmp .lt 7, 3) := by decide +kernel
theorem dX6_endsSegment_62 : decode cX6_endsSegment 62 = .ok (.iconst 1, 1) := by decide +kernel
theorem dX6_endsSegment_63 : decode cX6_endsSegment 63 = .ok (.goto 4, 3) := by decide +kernel
theorem dX6_endsSegment_66 : decode cX6_endsSegment 66 = .ok (.iconst 0, 1) := by decide +kernel
theorem dX6_endsSegment_67 : decode cX6_endsSegment 67 = .ok (.ireturn, 1) := by decide +kernel
theorem dX6_closeSegment_0 : decode cX6_closeSegment 0 = .ok (.aload_n 0, 1) := by decide +kernel
theorem dX6_closeSegment_1 : decode cX6_closeSegment 1 = .ok (.getfield 32, 3) := by decide +kernel
theorem dX6_closeSegment_4 : decode cX6_closeSegment 4 = .ok (.istore_n 3, 1) := by decide +kernel
theorem dX6_closeSegment_5 : decode cX6_closeSegment 5 = .ok (.iload_n 3, 1) := by decide +kernel
theorem dX6_closeSegment_6 : decode cX6_closeSegment 6 = .ok (.iload_n 1, 1) := by decide +kernel
theorem dX6_closeSegment_7 : decode cX6_closeSegment 7 = .ok (.if_icmp .ge 25, 3) := by decide +kernel
theorem dX6_closeSegment_10 : decode cX6_closeSegment 10 = .ok (.aload_n 0, 1) := by decide +kernel
theorem dX6_closeSegment_11 : decode cX6_closeSegment 11 = .ok (.getfield 9, 3) := by decide +kernel
theorem dX6_closeSegment_14 : decode cX6_closeSegment 14 = .ok (.iload_n 3, 1) := by decide +kernel
theorem dX6_closeSegment_15 : decode cX6_closeSegment 15 = .ok (.aload_n 0, 1) := by decide +kernel
theorem dX6_closeSegment_16 : decode cX6_closeSegment 16 = .ok (.getfield 9, 3) := by decide +kernel
theorem dX6_closeSegment_19 : decode cX6_closeSegment 19 = .ok (.iload_n 3, 1) := by decide +kernel
theorem dX6_closeSegment_20 : decode cX6_closeSegment 20 = .ok (.iaload, 1) := by decide +kernel
theorem dX6_closeSegment_21 : decode cX6_closeSegment 21 = .ok (.iload_n 2, 1) := by decide +kernel
theorem dX6_closeSegment_22 : decode cX6_closeSegment 22 = .ok (.invokestatic 43, 3) := by decide +kernel
theorem dX6_closeSegment_25 : decode cX6_closeSegment 25 = .ok (.iastore, 1) := by decide +kernel
theorem dX6_closeSegment_26 : decode cX6_closeSegment 26 = .ok (.iinc 3 1, 3) := by decide +kernel
theorem dX6_closeSegment_29 : decode cX6_closeSegment 29 = .ok (.goto (-24), 3) := by decide +kernel
theorem dX6_closeSegment_32 : decode cX6_closeSegment 32 = .ok (.aload_n 0, 1) := by decide +kernel
theorem dX6_closeSegment_33 : decode cX6_closeSegment 33 = .ok (.getfield 9, 3) := by decide +kernel
theorem dX6_closeSegment_36 : decode cX6_closeSegment 36 = .ok (.iload_n 1, 1) := by decide +kernel
theorem dX6_closeSegment_37 : decode cX6_closeSegment 37 = .ok (.iload_n 2, 1) := by decide +kernel
theorem dX6_closeSegment_38 : decode cX6_closeSegment 38 = .ok (.iastore, 1) := by decide +kernel
theorem dX6_closeSegment_39 : decode cX6_closeSegment 39 = .ok (.aload_n 0, 1) := by decide +kernel
theorem dX6_closeSegment_40 : decode cX6_closeSegment 40 = .ok (.iload_n 1, 1) := by decide +kernel
theorem dX6_closeSegment_41 : decode cX6_closeSegment 41 = .ok (.iconst 1, 1) := by decide +kernel
theorem dX6_closeSegment_42 : decode cX6_closeSegment 42 = .ok (.iadd, 1) := by decide +kernel
theorem dX6_closeSegment_43 : decode cX6_closeSegment 43 = .ok (.putfield 32, 3) := by decide +kernel
theorem dX6_closeSegment_46 : decode cX6_closeSegment 46 = .ok (.aload_n 0, 1) := by decide +kernel
theorem dX6_closeSegment_47 : decode cX6_closeSegment 47 = .ok (.dup, 1) := by decide +kernel
theorem dX6_closeSegment_48 : decode cX6_closeSegment 48 = .ok (.getfield 29, 3) := by decide +kernel
theorem dX6_closeSegment_51 : decode cX6_closeSegment 51 = .ok (.iconst 1, 1) := by decide +kernel
theorem dX6_closeSegment_52 : decode cX6_closeSegment 52 = .ok (.iadd, 1) := by decide +kernel
theorem dX6_closeSegment_53 : decode cX6_closeSegment 53 = .ok (.putfield 29, 3) := by decide +kernel
theorem dX6_closeSegment_56 : decode cX6_closeSegment 56 = .ok (.return_, 1) := by decide +kernel
theorem dX6_startOf_0 : decode cX6_startOf 0 = .ok (.iload_n 1, 1) := by decide +kernel
theorem dX6_startOf_1 : decode cX6_startOf 1 = .ok (.ifCond .ne 7, 3) := by decide +kernel
theorem dX6_startOf_4 : decode cX6_startOf 4 = .ok (.iconst 0, 1) := by decide +kernel
theorem dX6_startOf_5 : decode cX6_startOf 5 = .ok (.goto 11, 3) := by decide +kernel
theorem dX6_startOf_8 : decode cX6_startOf 8 = .ok (.aload_n 0, 1) := by decide +kernel
theorem dX6_startOf_9 : decode cX6_startOf 9 = .ok (.getfield 9, 3) := by decide +kernel
theorem dX6_startOf_12 : decode cX6_startOf 12 = .ok (.iload_n 1, 1) := by decide +kernel
theorem dX6_startOf_13 : decode cX6_startOf 13 = .ok (.iconst 1, 1) := by decide +kernel
theorem dX6_startOf_14 : decode cX6_startOf 14 = .ok (.isub, 1) := by decide +kernel
theorem dX6_startOf_15 : decode cX6_startOf 15 = .ok (.iaload, 1) := by decide +kernel
theorem dX6_startOf_16 : decode cX6_startOf 16 = .ok (.ireturn, 1) := by decide +kernel
set_option maxRecDepth 20000 in
theorem ggX6_endOf_X6_endsSegment : GoodIn wsX6_endOf wsX6_endsSegment := goodIn_r _ [6, 7, 8, 9, 10, 11, 5, 12, 13, 14, 15, 16, 17, 18, 19] (by decide +kernel) (by decide +kernel)
set_option maxRecDepth 20000 in
theorem gX6_endOf_X6_endsSegment : GoodIn wsX6_endOf (wsV RX6 39 RX6 yX6_endsSegment wsX6_endsSegment) := goodIn_app (goodIn_of _ (by decide +kernel)) ggX6_endOf_X6_endsSegment
theorem dX6_endOf_0 : decode cX6_endOf 0 = .ok (.iload_n 1, 1) := by decide +kernel
theorem dX6_endOf_1 : decode cX6_endOf 1 = .ok (.istore_n 3, 1) := by decide +kernel
theorem dX6_endOf_2 : decode cX6_endOf 2 = .ok (.iload_n 3, 1) := by decide +kernel
theorem dX6_endOf_3 : decode cX6_endOf 3 = .ok (.iload_n 2, 1) := by decide +kernel
theorem dX6_endOf_4 : decode cX6_endOf 4 = .ok (.iconst 1, 1) := by decide +kernel
theorem dX6_endOf_5 : decode cX6_endOf 5 = .ok (.isub, 1) := by decide +kernel
theorem dX6_endOf_6 : decode cX6_endOf 6 = .ok (.if_icmp .ge 17, 3) := by decide +kernel
theorem dX6_endOf_9 : decode cX6_endOf 9 = .ok (.aload_n 0, 1) := by decide +kernel
theorem dX6_endOf_10 : decode cX6_endOf 10 = .ok (.iload_n 3, 1) := by decide +kernel
theorem dX6_endOf_11 : decode cX6_endOf 11 = .ok (.invokevirtual 39, 3) := by decide +kernel
theorem dX6_endOf_14 : decode cX6_endOf 14 = .ok (.ifCond .ne 9, 3) := by decide +kernel
theorem dX6_endOf_17 : decode cX6_endOf 17 = .ok (.iinc 3 1, 3) := by decide +kernel
theorem dX6_endOf_20 : decode cX6_endOf 20 = .ok (.goto (-18), 3) := by decide +kernel
theorem dX6_endOf_23 : decode cX6_endOf 23 = .ok (.aload_n 0, 1) := by decide +kernel
theorem dX6_endOf_24 : decode cX6_endOf 24 = .ok (.getfield 9, 3) := by decide +kernel
theorem dX6_endOf_27 : decode cX6_endOf 27 = .ok (.iload_n 3, 1) := by decide +kernel
theorem dX6_endOf_28 : decode cX6_endOf 28 = .ok (.iaload, 1) := by decide +kernel
theorem dX6_endOf_29 : decode cX6_endOf 29 = .ok (.ireturn, 1) := by decide +kernel
set_option maxRecDepth 20000 in
theorem ggX7_init_X0_init : GoodIn wsX7_init wsX0_init := goodIn_r _ [4, 5, 6, 7] (by decide +kernel) (by decide +kernel)
set_option maxRecDepth 20000 in
theorem gX7_init_X0_init_n3 : GoodIn wsX7_init (wsX0_init) := ggX7_init_X0_init
theorem dX7_init_0 : decode cX7_init 0 = .ok (.aload_n 0, 1) := by decide +kernel
theorem dX7_init_1 : decode cX7_init 1 = .ok (.invokespecial 3, 3) := by decide +kernel
theorem dX7_init_4 : decode cX7_init 4 = .ok (.aload_n 0, 1) := by decide +kernel
theorem dX7_init_5 : decode cX7_init 5 = .ok (.aload_n 1, 1) := by decide +kernel
theorem dX7_init_6 : decode cX7_init 6 = .ok (.putfield 9, 3) := by decide +kernel
theorem dX7_init_9 : decode cX7_init 9 = .ok (.return_, 1) := by decide +kernel
theorem dX7_open_0 : decode cX7_open 0 = .ok (.aload_n 0, 1) := by decide +kernel
theorem dX7_open_1 : decode cX7_open 1 = .ok (.iload_n 1, 1) := by decide +kernel
theorem dX7_open_2 : decode cX7_open 2 = .ok (.putfield 15, 3) := by decide +kernel
theorem dX7_open_5 : decode cX7_open 5 = .ok (.aload_n 0, 1) := by decide +kernel
theorem dX7_open_6 : decode cX7_open 6 = .ok (.iload_n 2, 1) := by decide +kernel
theorem dX7_open_7 : decode cX7_open 7 = .ok (.putfield 19, 3) := by decide +kernel
theorem dX7_open_10 : decode cX7_open 10 = .ok (.aload_n 0, 1) := by decide +kernel
theorem dX7_open_11 : decode cX7_open 11 = .ok (.iconst 0, 1) := by decide +kernel
theorem dX7_open_12 : decode cX7_open 12 = .ok (.putfield 22, 3) := by decide +kernel
theorem dX7_open_15 : decode cX7_open 15 = .ok (.aload_n 0, 1) := by decide +kernel
theorem dX7_open_16 : decode cX7_open 16 = .ok (.iconst 0, 1) := by decide +kernel
theorem dX7_open_17 : decode cX7_open 17 = .ok (.putfield 25, 3) := by decide +kernel
theorem dX7_open_20 : decode cX7_open 20 = .ok (.return_, 1) := by decide +kernel
set_option maxRecDepth 20000 in
theorem ggX7_next_X1_byteOf : GoodIn wsX7_next wsX1_byteOf := goodIn_r _ [10, 11, 12, 18, 19, 20] (by decide +kernel) (by decide +kernel)
set_option maxRecDepth 20000 in
theorem gX7_next_X1_byteOf : GoodIn wsX7_next (wsV RX7 28 RX1 yX1_byteOf wsX1_byteOf) := goodIn_app (goodIn_of _ (by decide +kernel)) ggX7_next_X1_byteOf
theorem dX7_next_0 : decode cX7_next 0 = .ok (.aload_n 0, 1) := by decide +kernel
theorem dX7_next_1 : decode cX7_next 1 = .ok (.getfield 25, 3) := by decide +kernel
theorem dX7_next_4 : decode cX7_next 4 = .ok (.ifCond .ne 53, 3) := by decide +kernel
theorem dX7_next_7 : decode cX7_next 7 = .ok (.aload_n 0, 1) := by decide +kernel
theorem dX7_next_8 : decode cX7_next 8 = .ok (.aload_n 0, 1) := by decide +kernel
theorem dX7_next_9 : decode cX7_next 9 = .ok (.getfield 22, 3) := by decide +kernel
theorem dX7_next_12 : decode cX7_next 12 = .ok (.sipush 255, 3) := by decide +kernel
theorem dX7_next_15 : decode cX7_next 15 = .ok (.if_icmp .ne 8, 3) := by decide +kernel
theorem dX7_next_18 : decode cX7_next 18 = .ok (.bipush 7, 2) := by decide +kernel
theorem dX7_next_20 : decode cX7_next 20 = .ok (.goto 5, 3) := by decide +kernel
theorem dX7_next_23 : decode cX7_next 23 = .ok (.bipush 8, 2) := by decide +kernel
theorem dX7_next_25 : decode cX7_next 25 = .ok (.putfield 25, 3) := by decide +kernel
theorem dX7_next_28 : decode cX7_next 28 = .ok (.aload_n 0, 1) := by decide +kernel
theorem dX7_next_29 : decode cX7_next 29 = .ok (.aload_n 0, 1) := by decide +kernel
theorem dX7_next_30 : decode cX7_next 30 = .ok (.getfield 9, 3) := by decide +kernel
theorem dX7_next_33 : decode cX7_next 33 = .ok (.aload_n 0, 1) := by decide +kernel
theorem dX7_next_34 : decode cX7_next 34 = .ok (.getfield 15, 3) := by decide +kernel
theorem dX7_next_37 : decode cX7_next 37 = .ok (.aload_n 0, 1) := by decide +kernel
theorem dX7_next_38 : decode cX7_next 38 = .ok (.getfield 19, 3) := by decide +kernel
theorem dX7_next_41 : decode cX7_next 41 = .ok (.invokevirtual 28, 3) := by decide +kernel
theorem dX7_next_44 : decode cX7_next 44 = .ok (.putfield 22, 3) := by decide +kernel
theorem dX7_next_47 : decode cX7_next 47 = .ok (.aload_n 0, 1) := by decide +kernel
theorem dX7_next_48 : decode cX7_next 48 = .ok (.dup, 1) := by decide +kernel
theorem dX7_next_49 : decode cX7_next 49 = .ok (.getfield 15, 3) := by decide +kernel
theorem dX7_next_52 : decode cX7_next 52 = .ok (.iconst 1, 1) := by decide +kernel
theorem dX7_next_53 : decode cX7_next 53 = .ok (.iadd, 1) := by decide +kernel
theorem dX7_next_54 : decode cX7_next 54 = .ok (.putfield 15, 3) := by decide +kernel
theorem dX7_next_57 : decode cX7_next 57 = .ok (.aload_n 0, 1) := by decide +kernel
theorem dX7_next_58 : decode cX7_next 58 = .ok (.dup, 1) := by decide +kernel
theorem dX7_next_59 : decode cX7_next 59 = .ok (.getfield 25, 3) := by decide +kernel
theorem dX7_next_62 : decode cX7_next 62 = .ok (.iconst 1, 1) := by decide +kernel
theorem dX7_next_63 : decode cX7_next 63 = .ok (.isub, 1) := by decide +kernel
theorem dX7_next_64 : decode cX7_next 64 = .ok (.putfield 25, 3) := by decide +kernel
theorem dX7_next_67 : decode cX7_next 67 = .ok (.aload_n 0, 1) := by decide +kernel
theorem dX7_next_68 : decode cX7_next 68 = .ok (.getfield 22, 3) := by decide +kernel
theorem dX7_next_71 : decode cX7_next 71 = .ok (.aload_n 0, 1) := by decide +kernel
theorem dX7_next_72 : decode cX7_next 72 = .ok (.getfield 25, 3) := by decide +kernel
theorem dX7_next_75 : decode cX7_next 75 = .ok (.ishr, 1) := by decide +kernel
theorem dX7_next_76 : decode cX7_next 76 = .ok (.iconst 1, 1) := by decide +kernel
theorem dX7_next_77 : decode cX7_next 77 = .ok (.iand, 1) := by decide +kernel
theorem dX7_next_78 : decode cX7_next 78 = .ok (.ireturn, 1) := by decide +kernel
set_option maxRecDepth 20000 in
theorem ggX8_init_X0_init : GoodIn wsX8_init wsX0_init := goodIn_r _ [4, 5, 6, 7] (by decide +kernel) (by decide +kernel)
set_option maxRecDepth 20000 in
theorem gX8_init_X0_init_n3 : GoodIn wsX8_init (wsX0_init) := ggX8_init_X0_init
theorem dX8_init_0 : decode cX8_init 0 = .ok (.aload_n 0, 1) := by decide +kernel
theorem dX8_init_1 : decode cX8_init 1 = .ok (.invokespecial 3, 3) := by decide +kernel
theorem dX8_init_4 : decode cX8_init 4 = .ok (.aload_n 0, 1) := by decide +kernel
theorem dX8_init_5 : decode cX8_init 5 = .ok (.aload_n 1, 1) := by decide +kernel
theorem dX8_init_6 : decode cX8_init 6 = .ok (.putfield 9, 3) := by decide +kernel
theorem dX8_init_9 : decode cX8_init 9 = .ok (.return_, 1) := by decide +kernel
theorem dX8_open_0 : decode cX8_open 0 = .ok (.aload_n 0, 1) := by decide +kernel
theorem dX8_open_1 : decode cX8_open 1 = .ok (.iconst 0, 1) := by decide +kernel
theorem dX8_open_2 : decode cX8_open 2 = .ok (.putfield 15, 3) := by decide +kernel
theorem dX8_open_5 : decode cX8_open 5 = .ok (.return_, 1) := by decide +kernel
theorem dX8_enough_0 : decode cX8_enough 0 = .ok (.aload_n 0, 1) := by decide +kernel
theorem dX8_enough_1 : decode cX8_enough 1 = .ok (.getfield 9, 3) := by decide +kernel
theorem dX8_enough_4 : decode cX8_enough 4 = .ok (.getfield 19, 3) := by decide +kernel
theorem dX8_enough_7 : decode cX8_enough 7 = .ok (.ireturn, 1) := by decide +kernel
set_option maxRecDepth 20000 in
theorem ggX8_next_X1_last : GoodIn wsX8_next wsX1_last := goodIn_r _ [7, 8, 9, 10, 40, 41, 42] (by decide +kernel) (by decide +kernel)
set_option maxRecDepth 20000 in
theorem gX8_next_X1_last : GoodIn wsX8_next (wsV RX8 24 RX1 yX1_last wsX1_last) := goodIn_app (goodIn_of _ (by decide +kernel)) ggX8_next_X1_last
set_option maxRecDepth 20000 in
theorem ggX8_next_X1_append : GoodIn wsX8_next wsX1_append := goodIn_r _ [14, 8, 10, 15, 16, 17, 18, 19, 20, 21, 22, 23, 24, 25, 26, 27, 28, 29, 30, 31, 32, 33, 40, 41, 42] (by decide +kernel) (by decide +kernel)
set_option maxRecDepth 20000 in
theorem gX8_next_X1_append : GoodIn wsX8_next (wsV RX8 28 RX1 yX1_append wsX1_append) := goodIn_app (goodIn_of _ (by decide +kernel)) ggX8_next_X1_append
set_option maxRecDepth 20000 in
theorem ggX8_next_X1_addToLast : GoodIn wsX8_next wsX1_addToLast := goodIn_r _ [37, 8, 9, 10, 40, 41, 42] (by decide +kernel) (by decide +kernel)
set_option maxRecDepth 20000 in
theorem gX8_next_X1_addToLast : GoodIn wsX8_next (wsV RX8 32 RX1 yX1_addToLast wsX1_addToLast) := goodIn_app (goodIn_of _ (by decide +kernel)) ggX8_next_X1_addToLast
