theorem dX11_clearKnown_14 : decode cX11_clearKnown 14 = .ok (.iconst 0, 1) := by decide +kernel
theorem dX11_clearKnown_15 : decode cX11_clearKnown 15 = .ok (.iastore, 1) := by decide +kernel
theorem dX11_clearKnown_16 : decode cX11_clearKnown 16 = .ok (.aload_n 0, 1) := by decide +kernel
theorem dX11_clearKnown_17 : decode cX11_clearKnown 17 = .ok (.getfield 49, 3) := by decide +kernel
theorem dX11_clearKnown_20 : decode cX11_clearKnown 20 = .ok (.iload_n 1, 1) := by decide +kernel
theorem dX11_clearKnown_21 : decode cX11_clearKnown 21 = .ok (.iconst 0, 1) := by decide +kernel
theorem dX11_clearKnown_22 : decode cX11_clearKnown 22 = .ok (.bastore, 1) := by decide +kernel
theorem dX11_clearKnown_23 : decode cX11_clearKnown 23 = .ok (.aload_n 0, 1) := by decide +kernel
theorem dX11_clearKnown_24 : decode cX11_clearKnown 24 = .ok (.getfield 52, 3) := by decide +kernel
theorem dX11_clearKnown_27 : decode cX11_clearKnown 27 = .ok (.iload_n 1, 1) := by decide +kernel
theorem dX11_clearKnown_28 : decode cX11_clearKnown 28 = .ok (.iconst 0, 1) := by decide +kernel
theorem dX11_clearKnown_29 : decode cX11_clearKnown 29 = .ok (.iastore, 1) := by decide +kernel
theorem dX11_clearKnown_30 : decode cX11_clearKnown 30 = .ok (.aload_n 0, 1) := by decide +kernel
theorem dX11_clearKnown_31 : decode cX11_clearKnown 31 = .ok (.getfield 55, 3) := by decide +kernel
theorem dX11_clearKnown_34 : decode cX11_clearKnown 34 = .ok (.iload_n 1, 1) := by decide +kernel
theorem dX11_clearKnown_35 : decode cX11_clearKnown 35 = .ok (.iconst (-1), 1) := by decide +kernel
theorem dX11_clearKnown_36 : decode cX11_clearKnown 36 = .ok (.iastore, 1) := by decide +kernel
theorem dX11_clearKnown_37 : decode cX11_clearKnown 37 = .ok (.aload_n 0, 1) := by decide +kernel
theorem dX11_clearKnown_38 : decode cX11_clearKnown 38 = .ok (.getfield 58, 3) := by decide +kernel
theorem dX11_clearKnown_41 : decode cX11_clearKnown 41 = .ok (.iload_n 1, 1) := by decide +kernel
theorem dX11_clearKnown_42 : decode cX11_clearKnown 42 = .ok (.iconst 0, 1) := by decide +kernel
theorem dX11_clearKnown_43 : decode cX11_clearKnown 43 = .ok (.bastore, 1) := by decide +kernel
theorem dX11_clearKnown_44 : decode cX11_clearKnown 44 = .ok (.iinc 1 1, 3) := by decide +kernel
theorem dX11_clearKnown_47 : decode cX11_clearKnown 47 = .ok (.goto (-45), 3) := by decide +kernel
theorem dX11_clearKnown_50 : decode cX11_clearKnown 50 = .ok (.return_, 1) := by decide +kernel
theorem dX11_worth_0 : decode cX11_worth 0 = .ok (.aload_n 0, 1) := by decide +kernel
theorem dX11_worth_1 : decode cX11_worth 1 = .ok (.getfield 46, 3) := by decide +kernel
theorem dX11_worth_4 : decode cX11_worth 4 = .ok (.iload_n 1, 1) := by decide +kernel
theorem dX11_worth_5 : decode cX11_worth 5 = .ok (.iaload, 1) := by decide +kernel
theorem dX11_worth_6 : decode cX11_worth 6 = .ok (.ifCond .ne 7, 3) := by decide +kernel
theorem dX11_worth_9 : decode cX11_worth 9 = .ok (.iconst 0, 1) := by decide +kernel
theorem dX11_worth_10 : decode cX11_worth 10 = .ok (.goto 20, 3) := by decide +kernel
theorem dX11_worth_13 : decode cX11_worth 13 = .ok (.aload_n 0, 1) := by decide +kernel
theorem dX11_worth_14 : decode cX11_worth 14 = .ok (.getfield 46, 3) := by decide +kernel
theorem dX11_worth_17 : decode cX11_worth 17 = .ok (.iload_n 1, 1) := by decide +kernel
theorem dX11_worth_18 : decode cX11_worth 18 = .ok (.iaload, 1) := by decide +kernel
theorem dX11_worth_19 : decode cX11_worth 19 = .ok (.iconst 1, 1) := by decide +kernel
theorem dX11_worth_20 : decode cX11_worth 20 = .ok (.aload_n 0, 1) := by decide +kernel
theorem dX11_worth_21 : decode cX11_worth 21 = .ok (.getfield 52, 3) := by decide +kernel
theorem dX11_worth_24 : decode cX11_worth 24 = .ok (.iload_n 1, 1) := by decide +kernel
theorem dX11_worth_25 : decode cX11_worth 25 = .ok (.iaload, 1) := by decide +kernel
theorem dX11_worth_26 : decode cX11_worth 26 = .ok (.ishl, 1) := by decide +kernel
theorem dX11_worth_27 : decode cX11_worth 27 = .ok (.iconst 2, 1) := by decide +kernel
theorem dX11_worth_28 : decode cX11_worth 28 = .ok (.idiv, 1) := by decide +kernel
theorem dX11_worth_29 : decode cX11_worth 29 = .ok (.iadd, 1) := by decide +kernel
theorem dX11_worth_30 : decode cX11_worth 30 = .ok (.ireturn, 1) := by decide +kernel
set_option maxRecDepth 20000 in
theorem ggX11_error_X11_worth : GoodIn wsX11_error wsX11_worth := goodIn_r _ [8, 9, 10, 11, 12, 13, 14, 15, 16, 17, 18, 19, 20, 21, 22, 23, 24, 25, 26, 27, 28, 29, 30, 31, 32, 33, 34, 35, 36, 37, 38, 39, 40, 41, 42, 43, 44, 45, 46, 47, 48, 49, 50, 51, 52] (by decide +kernel) (by decide +kernel)
set_option maxRecDepth 20000 in
theorem gX11_error_X11_worth : GoodIn wsX11_error (wsV RX11 240 RX11 yX11_worth wsX11_worth) := goodIn_app (goodIn_of _ (by decide +kernel)) ggX11_error_X11_worth
theorem dX11_error_0 : decode cX11_error 0 = .ok (.lconst 0, 1) := by decide +kernel
theorem dX11_error_1 : decode cX11_error 1 = .ok (.lstore_n 1, 1) := by decide +kernel
theorem dX11_error_2 : decode cX11_error 2 = .ok (.iconst 0, 1) := by decide +kernel
theorem dX11_error_3 : decode cX11_error 3 = .ok (.istore_n 3, 1) := by decide +kernel
theorem dX11_error_4 : decode cX11_error 4 = .ok (.iload_n 3, 1) := by decide +kernel
theorem dX11_error_5 : decode cX11_error 5 = .ok (.aload_n 0, 1) := by decide +kernel
theorem dX11_error_6 : decode cX11_error 6 = .ok (.getfield 16, 3) := by decide +kernel
theorem dX11_error_9 : decode cX11_error 9 = .ok (.aload_n 0, 1) := by decide +kernel
theorem dX11_error_10 : decode cX11_error 10 = .ok (.getfield 20, 3) := by decide +kernel
theorem dX11_error_13 : decode cX11_error 13 = .ok (.imul, 1) := by decide +kernel
theorem dX11_error_14 : decode cX11_error 14 = .ok (.if_icmp .ge 33, 3) := by decide +kernel
theorem dX11_error_17 : decode cX11_error 17 = .ok (.aload_n 0, 1) := by decide +kernel
theorem dX11_error_18 : decode cX11_error 18 = .ok (.getfield 23, 3) := by decide +kernel
theorem dX11_error_21 : decode cX11_error 21 = .ok (.iload_n 3, 1) := by decide +kernel
theorem dX11_error_22 : decode cX11_error 22 = .ok (.iaload, 1) := by decide +kernel
theorem dX11_error_23 : decode cX11_error 23 = .ok (.i2l, 1) := by decide +kernel
theorem dX11_error_24 : decode cX11_error 24 = .ok (.aload_n 0, 1) := by decide +kernel
theorem dX11_error_25 : decode cX11_error 25 = .ok (.iload_n 3, 1) := by decide +kernel
theorem dX11_error_26 : decode cX11_error 26 = .ok (.invokevirtual 240, 3) := by decide +kernel
theorem dX11_error_29 : decode cX11_error 29 = .ok (.i2l, 1) := by decide +kernel
theorem dX11_error_30 : decode cX11_error 30 = .ok (.lsub, 1) := by decide +kernel
theorem dX11_error_31 : decode cX11_error 31 = .ok (.lstore 4, 2) := by decide +kernel
theorem dX11_error_33 : decode cX11_error 33 = .ok (.lload_n 1, 1) := by decide +kernel
theorem dX11_error_34 : decode cX11_error 34 = .ok (.lload 4, 2) := by decide +kernel
theorem dX11_error_36 : decode cX11_error 36 = .ok (.lload 4, 2) := by decide +kernel
theorem dX11_error_38 : decode cX11_error 38 = .ok (.lmul, 1) := by decide +kernel
theorem dX11_error_39 : decode cX11_error 39 = .ok (.ladd, 1) := by decide +kernel
theorem dX11_error_40 : decode cX11_error 40 = .ok (.lstore_n 1, 1) := by decide +kernel
theorem dX11_error_41 : decode cX11_error 41 = .ok (.iinc 3 1, 3) := by decide +kernel
theorem dX11_error_44 : decode cX11_error 44 = .ok (.goto (-40), 3) := by decide +kernel
theorem dX11_error_47 : decode cX11_error 47 = .ok (.lload_n 1, 1) := by decide +kernel
theorem dX11_error_48 : decode cX11_error 48 = .ok (.lreturn, 1) := by decide +kernel
theorem dX11_count_0 : decode cX11_count 0 = .ok (.iconst 0, 1) := by decide +kernel
theorem dX11_count_1 : decode cX11_count 1 = .ok (.istore_n 1, 1) := by decide +kernel
theorem dX11_count_2 : decode cX11_count 2 = .ok (.iconst 0, 1) := by decide +kernel
theorem dX11_count_3 : decode cX11_count 3 = .ok (.istore_n 2, 1) := by decide +kernel
theorem dX11_count_4 : decode cX11_count 4 = .ok (.iload_n 2, 1) := by decide +kernel
theorem dX11_count_5 : decode cX11_count 5 = .ok (.aload_n 0, 1) := by decide +kernel
theorem dX11_count_6 : decode cX11_count 6 = .ok (.getfield 16, 3) := by decide +kernel
theorem dX11_count_9 : decode cX11_count 9 = .ok (.aload_n 0, 1) := by decide +kernel
theorem dX11_count_10 : decode cX11_count 10 = .ok (.getfield 20, 3) := by decide +kernel
theorem dX11_count_13 : decode cX11_count 13 = .ok (.imul, 1) := by decide +kernel
theorem dX11_count_14 : decode cX11_count 14 = .ok (.if_icmp .ge 18, 3) := by decide +kernel
theorem dX11_count_17 : decode cX11_count 17 = .ok (.iload_n 1, 1) := by decide +kernel
theorem dX11_count_18 : decode cX11_count 18 = .ok (.aload_n 0, 1) := by decide +kernel
theorem dX11_count_19 : decode cX11_count 19 = .ok (.getfield 23, 3) := by decide +kernel
theorem dX11_count_22 : decode cX11_count 22 = .ok (.iload_n 2, 1) := by decide +kernel
theorem dX11_count_23 : decode cX11_count 23 = .ok (.iaload, 1) := by decide +kernel
theorem dX11_count_24 : decode cX11_count 24 = .ok (.ior, 1) := by decide +kernel
theorem dX11_count_25 : decode cX11_count 25 = .ok (.istore_n 1, 1) := by decide +kernel
theorem dX11_count_26 : decode cX11_count 26 = .ok (.iinc 2 1, 3) := by decide +kernel
theorem dX11_count_29 : decode cX11_count 29 = .ok (.goto (-25), 3) := by decide +kernel
theorem dX11_count_32 : decode cX11_count 32 = .ok (.aload_n 0, 1) := by decide +kernel
theorem dX11_count_33 : decode cX11_count 33 = .ok (.iconst 0, 1) := by decide +kernel
theorem dX11_count_34 : decode cX11_count 34 = .ok (.putfield 234, 3) := by decide +kernel
theorem dX11_count_37 : decode cX11_count 37 = .ok (.iload_n 1, 1) := by decide +kernel
theorem dX11_count_38 : decode cX11_count 38 = .ok (.aload_n 0, 1) := by decide +kernel
theorem dX11_count_39 : decode cX11_count 39 = .ok (.getfield 234, 3) := by decide +kernel
theorem dX11_count_42 : decode cX11_count 42 = .ok (.ishr, 1) := by decide +kernel
theorem dX11_count_43 : decode cX11_count 43 = .ok (.ifCond .eq 16, 3) := by decide +kernel
theorem dX11_count_46 : decode cX11_count 46 = .ok (.aload_n 0, 1) := by decide +kernel
theorem dX11_count_47 : decode cX11_count 47 = .ok (.dup, 1) := by decide +kernel
theorem dX11_count_48 : decode cX11_count 48 = .ok (.getfield 234, 3) := by decide +kernel
theorem dX11_count_51 : decode cX11_count 51 = .ok (.iconst 1, 1) := by decide +kernel
theorem dX11_count_52 : decode cX11_count 52 = .ok (.iadd, 1) := by decide +kernel
theorem dX11_count_53 : decode cX11_count 53 = .ok (.putfield 234, 3) := by decide +kernel
theorem dX11_count_56 : decode cX11_count 56 = .ok (.goto (-19), 3) := by decide +kernel
theorem dX11_count_59 : decode cX11_count 59 = .ok (.aload_n 0, 1) := by decide +kernel
theorem dX11_count_60 : decode cX11_count 60 = .ok (.aload_n 0, 1) := by decide +kernel
theorem dX11_count_61 : decode cX11_count 61 = .ok (.getfield 234, 3) := by decide +kernel
theorem dX11_count_64 : decode cX11_count 64 = .ok (.ifCond .ne 7, 3) := by decide +kernel
theorem dX11_count_67 : decode cX11_count 67 = .ok (.iconst 0, 1) := by decide +kernel
theorem dX11_count_68 : decode cX11_count 68 = .ok (.goto 11, 3) := by decide +kernel
theorem dX11_count_71 : decode cX11_count 71 = .ok (.iconst 3, 1) := by decide +kernel
theorem dX11_count_72 : decode cX11_count 72 = .ok (.aload_n 0, 1) := by decide +kernel
theorem dX11_count_73 : decode cX11_count 73 = .ok (.getfield 234, 3) := by decide +kernel
theorem dX11_count_76 : decode cX11_count 76 = .ok (.imul, 1) := by decide +kernel
theorem dX11_count_77 : decode cX11_count 77 = .ok (.iconst 2, 1) := by decide +kernel
theorem dX11_count_78 : decode cX11_count 78 = .ok (.isub, 1) := by decide +kernel
theorem dX11_count_79 : decode cX11_count 79 = .ok (.putfield 237, 3) := by decide +kernel
theorem dX11_count_82 : decode cX11_count 82 = .ok (.return_, 1) := by decide +kernel
set_option maxRecDepth 20000 in
theorem ggX11_write_X11_count : GoodIn wsX11_write wsX11_count := goodIn_r _ [19, 20, 21, 22, 23, 7, 200, 201, 202, 203, 204, 205, 206, 207, 208, 209, 210, 211, 212, 213, 214, 215, 216, 217, 218, 219, 220, 221, 222, 223, 224, 225, 226, 227, 228, 229, 230, 231, 232, 233, 234, 235, 236, 237, 238, 239, 240, 241] (by decide +kernel) (by decide +kernel)
set_option maxRecDepth 20000 in
theorem gX11_write_X11_count : GoodIn wsX11_write (wsV RX11 243 RX11 yX11_count wsX11_count) := goodIn_app (goodIn_of _ (by decide +kernel)) ggX11_write_X11_count
set_option maxRecDepth 20000 in
theorem ggX11_write_X11_clearKnown : GoodIn wsX11_write wsX11_clearKnown := goodIn_r _ [27, 28, 29, 30, 31, 32, 200, 201, 202, 203, 204, 205, 206, 207, 208, 209, 210, 211, 212, 213, 214, 215, 216, 217, 218, 219, 220, 221, 222, 223, 224, 225, 226, 227, 228, 229, 230, 231, 232, 233, 234, 235, 236, 237, 238, 239, 240, 241] (by decide +kernel) (by decide +kernel)
set_option maxRecDepth 20000 in
theorem gX11_write_X11_clearKnown : GoodIn wsX11_write (wsV RX11 255 RX11 yX11_clearKnown wsX11_clearKnown) := goodIn_app (goodIn_of _ (by decide +kernel)) ggX11_write_X11_clearKnown
set_option maxRecDepth 20000 in
theorem ggX11_write_X11_resetContexts : GoodIn wsX11_write wsX11_resetContexts := goodIn_r _ [36, 37, 38, 200, 201, 202, 203, 204, 205, 206, 207, 208, 209, 210, 211, 212, 213, 214, 215, 216, 217, 218, 219, 220, 221, 222, 223, 224, 225, 226, 227, 228, 229, 230, 231, 232, 233, 234, 235, 236, 237, 238, 239, 240, 241] (by decide +kernel) (by decide +kernel)
set_option maxRecDepth 20000 in
theorem gX11_write_X11_resetContexts : GoodIn wsX11_write (wsV RX11 231 RX11 yX11_resetContexts wsX11_resetContexts) := goodIn_app (goodIn_of _ (by decide +kernel)) ggX11_write_X11_resetContexts
set_option maxRecDepth 20000 in
theorem ggX11_write_X11_error : GoodIn wsX11_write wsX11_error := goodIn_r _ [42, 20, 21, 22, 43, 44, 45, 18, 46, 28, 30, 200, 201, 202, 203, 204, 205, 206, 207, 208, 209, 210, 211, 212, 213, 214, 215, 216, 217, 218, 219, 220, 221, 222, 223, 224, 225, 226, 227, 228, 229, 230, 231, 232, 233, 234, 235, 236, 237, 238, 239, 240, 241] (by decide +kernel) (by decide +kernel)
set_option maxRecDepth 20000 in
theorem gX11_write_X11_error : GoodIn wsX11_write (wsV RX11 258 RX11 yX11_error wsX11_error) := goodIn_app (goodIn_of _ (by decide +kernel)) ggX11_write_X11_error
set_option maxRecDepth 20000 in
theorem ggX11_write_X11_isRaw : GoodIn wsX11_write wsX11_isRaw := goodIn_r _ [50, 51, 52, 53, 18, 54, 200, 201, 202, 203, 204, 205, 206, 207, 208, 209, 210, 211, 212, 213, 214, 215, 216, 217, 218, 219, 220, 221, 222, 223, 224, 225, 226, 227, 228, 229, 230, 231, 232, 233, 234, 235, 236, 237, 238, 239, 240, 241] (by decide +kernel) (by decide +kernel)
set_option maxRecDepth 20000 in
theorem gX11_write_X11_isRaw : GoodIn wsX11_write (wsV RX11 262 RX11 yX11_isRaw wsX11_isRaw) := goodIn_app (goodIn_of _ (by decide +kernel)) ggX11_write_X11_isRaw
set_option maxRecDepth 20000 in
theorem ggX11_write_X11_ends : GoodIn wsX11_write wsX11_ends := goodIn_r _ [58, 7, 51, 52, 53, 18, 54, 200, 201, 202, 203, 204, 205, 206, 207, 208, 209, 210, 211, 212, 213, 214, 215, 216, 217, 218, 219, 220, 221, 222, 223, 224, 225, 226, 227, 228, 229, 230, 231, 232, 233, 234, 235, 236, 237, 238, 239, 240, 241] (by decide +kernel) (by decide +kernel)
set_option maxRecDepth 20000 in
theorem gX11_write_X11_ends : GoodIn wsX11_write (wsV RX11 266 RX11 yX11_ends wsX11_ends) := goodIn_app (goodIn_of _ (by decide +kernel)) ggX11_write_X11_ends
set_option maxRecDepth 20000 in
theorem ggX11_write_X11_open : GoodIn wsX11_write wsX11_open := goodIn_r _ [62, 5, 14, 63, 64, 65, 66, 8, 67, 200, 201, 202, 203, 204, 205, 206, 207, 208, 209, 210, 211, 212, 213, 214, 215, 216, 217, 218, 219, 220, 221, 222, 223, 224, 225, 226, 227, 228, 229, 230, 231, 232, 233, 234, 235, 236, 237, 238, 239, 240, 241] (by decide +kernel) (by decide +kernel)
set_option maxRecDepth 20000 in
theorem gX11_write_X11_open : GoodIn wsX11_write (wsV RX11 269 RX11 yX11_open wsX11_open) := goodIn_app (goodIn_of _ (by decide +kernel)) ggX11_write_X11_open
set_option maxRecDepth 20000 in
theorem ggX11_write_X11_codePass : GoodIn wsX11_write wsX11_codePass := goodIn_r _ [71, 72, 21, 20, 51, 52, 53, 18, 54, 73, 74, 75, 76, 23, 77, 78, 79, 80, 28, 31, 81, 82, 83, 84, 85, 86, 87, 88, 89, 90, 91, 92, 93, 29, 94, 95, 96, 97, 4, 98, 99, 100, 101, 22, 102, 103, 104, 105, 8, 106, 107, 108, 109, 67, 110, 111, 112, 113, 114, 115, 116, 117, 118, 119, 120, 121, 122, 123, 37, 38, 66, 124, 65, 125, 126, 127, 128, 129, 130, 131, 132, 133, 134, 135, 136, 137, 138, 139, 140, 141, 142, 143, 144, 5, 145, 146, 147, 148, 14, 149, 150, 151, 152, 63, 153, 154, 155, 156, 64, 157, 158, 159, 160, 161, 162, 163, 164, 165, 166, 167, 168, 169, 30, 170, 171, 172, 173, 174, 175, 176, 177, 178, 179, 180, 181, 32, 182, 183, 184, 185, 186, 187, 188, 189, 190, 33, 34, 35, 36, 200, 201, 202, 203, 204, 205, 206, 207, 208, 209, 210, 211, 212, 213, 214, 215, 216, 217, 218, 219, 220, 221, 222, 223, 224, 225, 226, 227, 228, 229, 230, 231, 232, 233, 234, 235, 236, 237, 238, 239, 240, 241] (by decide +kernel) (by decide +kernel)
set_option maxRecDepth 20000 in
theorem gX11_write_X11_codePass : GoodIn wsX11_write (wsV RX11 272 RX11 yX11_codePass wsX11_codePass) := goodIn_app (goodIn_of _ (by decide +kernel)) ggX11_write_X11_codePass
set_option maxRecDepth 20000 in
theorem ggX11_write_X11_close : GoodIn wsX11_write wsX11_close := goodIn_r _ [194, 8, 67, 51, 63, 195, 66, 65, 5, 141, 142, 143, 18, 144, 117, 145, 146, 147, 148, 14, 153, 154, 155, 156, 64, 157, 158, 159, 160, 196, 197, 198, 199, 161, 162, 163, 164, 200, 201, 202, 203, 204, 205, 206, 207, 208, 209, 210, 211, 212, 213, 214, 215, 216, 217, 218, 219, 220, 221, 222, 223, 224, 225, 226, 227, 228, 229, 230, 231, 232, 233, 234, 235, 236, 237, 238, 239, 240, 241] (by decide +kernel) (by decide +kernel)
set_option maxRecDepth 20000 in
theorem gX11_write_X11_close : GoodIn wsX11_write (wsV RX11 275 RX11 yX11_close wsX11_close) := goodIn_app (goodIn_of _ (by decide +kernel)) ggX11_write_X11_close
theorem dX11_write_0 : decode cX11_write 0 = .ok (.aload_n 0, 1) := by decide +kernel
theorem dX11_write_1 : decode cX11_write 1 = .ok (.iconst 0, 1) := by decide +kernel
theorem dX11_write_2 : decode cX11_write 2 = .ok (.putfield 71, 3) := by decide +kernel
theorem dX11_write_5 : decode cX11_write 5 = .ok (.aload_n 0, 1) := by decide +kernel
theorem dX11_write_6 : decode cX11_write 6 = .ok (.invokevirtual 243, 3) := by decide +kernel
theorem dX11_write_9 : decode cX11_write 9 = .ok (.aload_n 0, 1) := by decide +kernel
theorem dX11_write_10 : decode cX11_write 10 = .ok (.iconst 0, 1) := by decide +kernel
theorem dX11_write_11 : decode cX11_write 11 = .ok (.putfield 246, 3) := by decide +kernel
theorem dX11_write_14 : decode cX11_write 14 = .ok (.aload_n 0, 1) := by decide +kernel
theorem dX11_write_15 : decode cX11_write 15 = .ok (.iconst 1, 1) := by decide +kernel
theorem dX11_write_16 : decode cX11_write 16 = .ok (.putfield 249, 3) := by decide +kernel
theorem dX11_write_19 : decode cX11_write 19 = .ok (.aload_n 0, 1) := by decide +kernel
theorem dX11_write_20 : decode cX11_write 20 = .ok (.iconst 1, 1) := by decide +kernel
theorem dX11_write_21 : decode cX11_write 21 = .ok (.putfield 159, 3) := by decide +kernel
theorem dX11_write_24 : decode cX11_write 24 = .ok (.aload_n 0, 1) := by decide +kernel
theorem dX11_write_25 : decode cX11_write 25 = .ok (.iconst 0, 1) := by decide +kernel
theorem dX11_write_26 : decode cX11_write 26 = .ok (.putfield 74, 3) := by decide +kernel
theorem dX11_write_29 : decode cX11_write 29 = .ok (.aload_n 0, 1) := by decide +kernel
theorem dX11_write_30 : decode cX11_write 30 = .ok (.iconst 0, 1) := by decide +kernel
theorem dX11_write_31 : decode cX11_write 31 = .ok (.putfield 252, 3) := by decide +kernel
theorem dX11_write_34 : decode cX11_write 34 = .ok (.aload_n 0, 1) := by decide +kernel
theorem dX11_write_35 : decode cX11_write 35 = .ok (.invokevirtual 255, 3) := by decide +kernel
theorem dX11_write_38 : decode cX11_write 38 = .ok (.aload_n 0, 1) := by decide +kernel
theorem dX11_write_39 : decode cX11_write 39 = .ok (.invokevirtual 231, 3) := by decide +kernel
theorem dX11_write_42 : decode cX11_write 42 = .ok (.aload_n 0, 1) := by decide +kernel
theorem dX11_write_43 : decode cX11_write 43 = .ok (.invokevirtual 258, 3) := by decide +kernel
theorem dX11_write_46 : decode cX11_write 46 = .ok (.lstore_n 1, 1) := by decide +kernel
theorem dX11_write_47 : decode cX11_write 47 = .ok (.iconst 0, 1) := by decide +kernel
theorem dX11_write_48 : decode cX11_write 48 = .ok (.istore_n 3, 1) := by decide +kernel
theorem dX11_write_49 : decode cX11_write 49 = .ok (.iload_n 3, 1) := by decide +kernel
theorem dX11_write_50 : decode cX11_write 50 = .ok (.aload_n 0, 1) := by decide +kernel
theorem dX11_write_51 : decode cX11_write 51 = .ok (.getfield 237, 3) := by decide +kernel
theorem dX11_write_54 : decode cX11_write 54 = .ok (.if_icmp .ge 198, 3) := by decide +kernel
theorem dX11_write_57 : decode cX11_write 57 = .ok (.aload_n 0, 1) := by decide +kernel
theorem dX11_write_58 : decode cX11_write 58 = .ok (.aload_n 0, 1) := by decide +kernel
theorem dX11_write_59 : decode cX11_write 59 = .ok (.iload_n 3, 1) := by decide +kernel
theorem dX11_write_60 : decode cX11_write 60 = .ok (.invokevirtual 262, 3) := by decide +kernel
theorem dX11_write_63 : decode cX11_write 63 = .ok (.putfield 113, 3) := by decide +kernel
theorem dX11_write_66 : decode cX11_write 66 = .ok (.iload_n 3, 1) := by decide +kernel
theorem dX11_write_67 : decode cX11_write 67 = .ok (.ifCond .eq 13, 3) := by decide +kernel
theorem dX11_write_70 : decode cX11_write 70 = .ok (.aload_n 0, 1) := by decide +kernel
theorem dX11_write_71 : decode cX11_write 71 = .ok (.iload_n 3, 1) := by decide +kernel
theorem dX11_write_72 : decode cX11_write 72 = .ok (.iconst 1, 1) := by decide +kernel
theorem dX11_write_73 : decode cX11_write 73 = .ok (.isub, 1) := by decide +kernel
theorem dX11_write_74 : decode cX11_write 74 = .ok (.invokevirtual 266, 3) := by decide +kernel
theorem dX11_write_77 : decode cX11_write 77 = .ok (.ifCond .eq 20, 3) := by decide +kernel
theorem dX11_write_80 : decode cX11_write 80 = .ok (.aload_n 0, 1) := by decide +kernel
theorem dX11_write_81 : decode cX11_write 81 = .ok (.invokevirtual 269, 3) := by decide +kernel
theorem dX11_write_84 : decode cX11_write 84 = .ok (.aload_n 0, 1) := by decide +kernel
theorem dX11_write_85 : decode cX11_write 85 = .ok (.getfield 40, 3) := by decide +kernel
theorem dX11_write_88 : decode cX11_write 88 = .ok (.aload_n 0, 1) := by decide +kernel
theorem dX11_write_89 : decode cX11_write 89 = .ok (.getfield 252, 3) := by decide +kernel
theorem dX11_write_92 : decode cX11_write 92 = .ok (.aload_n 0, 1) := by decide +kernel
theorem dX11_write_93 : decode cX11_write 93 = .ok (.getfield 74, 3) := by decide +kernel
theorem dX11_write_96 : decode cX11_write 96 = .ok (.iastore, 1) := by decide +kernel
theorem dX11_write_97 : decode cX11_write 97 = .ok (.aload_n 0, 1) := by decide +kernel
theorem dX11_write_98 : decode cX11_write 98 = .ok (.iload_n 3, 1) := by decide +kernel
theorem dX11_write_99 : decode cX11_write 99 = .ok (.invokevirtual 272, 3) := by decide +kernel
theorem dX11_write_102 : decode cX11_write 102 = .ok (.aload_n 0, 1) := by decide +kernel
theorem dX11_write_103 : decode cX11_write 103 = .ok (.invokevirtual 258, 3) := by decide +kernel
theorem dX11_write_106 : decode cX11_write 106 = .ok (.lstore 4, 2) := by decide +kernel
theorem dX11_write_108 : decode cX11_write 108 = .ok (.aload_n 0, 1) := by decide +kernel
theorem dX11_write_109 : decode cX11_write 109 = .ok (.getfield 33, 3) := by decide +kernel
theorem dX11_write_112 : decode cX11_write 112 = .ok (.iload_n 3, 1) := by decide +kernel
theorem dX11_write_113 : decode cX11_write 113 = .ok (.lload_n 1, 1) := by decide +kernel
theorem dX11_write_114 : decode cX11_write 114 = .ok (.lload 4, 2) := by decide +kernel
theorem dX11_write_116 : decode cX11_write 116 = .ok (.lsub, 1) := by decide +kernel
theorem dX11_write_117 : decode cX11_write 117 = .ok (.lastore, 1) := by decide +kernel
theorem dX11_write_118 : decode cX11_write 118 = .ok (.lload 4, 2) := by decide +kernel
theorem dX11_write_120 : decode cX11_write 120 = .ok (.lstore_n 1, 1) := by decide +kernel
theorem dX11_write_121 : decode cX11_write 121 = .ok (.aload_n 0, 1) := by decide +kernel
theorem dX11_write_122 : decode cX11_write 122 = .ok (.getfield 37, 3) := by decide +kernel
theorem dX11_write_125 : decode cX11_write 125 = .ok (.iload_n 3, 1) := by decide +kernel
theorem dX11_write_126 : decode cX11_write 126 = .ok (.aload_n 0, 1) := by decide +kernel
theorem dX11_write_127 : decode cX11_write 127 = .ok (.getfield 252, 3) := by decide +kernel
theorem dX11_write_130 : decode cX11_write 130 = .ok (.iastore, 1) := by decide +kernel
theorem dX11_write_131 : decode cX11_write 131 = .ok (.aload_n 0, 1) := by decide +kernel
theorem dX11_write_132 : decode cX11_write 132 = .ok (.getfield 30, 3) := by decide +kernel
theorem dX11_write_135 : decode cX11_write 135 = .ok (.iload_n 3, 1) := by decide +kernel
theorem dX11_write_136 : decode cX11_write 136 = .ok (.aload_n 0, 1) := by decide +kernel
theorem dX11_write_137 : decode cX11_write 137 = .ok (.getfield 113, 3) := by decide +kernel
theorem dX11_write_140 : decode cX11_write 140 = .ok (.ifCond .eq 10, 3) := by decide +kernel
theorem dX11_write_143 : decode cX11_write 143 = .ok (.aload_n 0, 1) := by decide +kernel
theorem dX11_write_144 : decode cX11_write 144 = .ok (.getfield 74, 3) := by decide +kernel
theorem dX11_write_147 : decode cX11_write 147 = .ok (.goto 9, 3) := by decide +kernel
theorem dX11_write_150 : decode cX11_write 150 = .ok (.aload_n 0, 1) := by decide +kernel
theorem dX11_write_151 : decode cX11_write 151 = .ok (.getfield 74, 3) := by decide +kernel
theorem dX11_write_154 : decode cX11_write 154 = .ok (.iconst 5, 1) := by decide +kernel
theorem dX11_write_155 : decode cX11_write 155 = .ok (.iadd, 1) := by decide +kernel
theorem dX11_write_156 : decode cX11_write 156 = .ok (.iastore, 1) := by decide +kernel
theorem dX11_write_157 : decode cX11_write 157 = .ok (.aload_n 0, 1) := by decide +kernel
theorem dX11_write_158 : decode cX11_write 158 = .ok (.iload_n 3, 1) := by decide +kernel
theorem dX11_write_159 : decode cX11_write 159 = .ok (.invokevirtual 266, 3) := by decide +kernel
theorem dX11_write_162 : decode cX11_write 162 = .ok (.ifCond .ne 6, 3) := by decide +kernel
theorem dX11_write_165 : decode cX11_write 165 = .ok (.goto 81, 3) := by decide +kernel
theorem dX11_write_168 : decode cX11_write 168 = .ok (.aload_n 0, 1) := by decide +kernel
theorem dX11_write_169 : decode cX11_write 169 = .ok (.invokevirtual 275, 3) := by decide +kernel
theorem dX11_write_172 : decode cX11_write 172 = .ok (.aload_n 0, 1) := by decide +kernel
theorem dX11_write_173 : decode cX11_write 173 = .ok (.getfield 43, 3) := by decide +kernel
theorem dX11_write_176 : decode cX11_write 176 = .ok (.aload_n 0, 1) := by decide +kernel
theorem dX11_write_177 : decode cX11_write 177 = .ok (.getfield 252, 3) := by decide +kernel
theorem dX11_write_180 : decode cX11_write 180 = .ok (.aload_n 0, 1) := by decide +kernel
theorem dX11_write_181 : decode cX11_write 181 = .ok (.getfield 74, 3) := by decide +kernel
theorem dX11_write_184 : decode cX11_write 184 = .ok (.aload_n 0, 1) := by decide +kernel
theorem dX11_write_185 : decode cX11_write 185 = .ok (.getfield 77, 3) := by decide +kernel
theorem dX11_write_188 : decode cX11_write 188 = .ok (.isub, 1) := by decide +kernel
theorem dX11_write_189 : decode cX11_write 189 = .ok (.iastore, 1) := by decide +kernel
theorem dX11_write_190 : decode cX11_write 190 = .ok (.iconst 0, 1) := by decide +kernel
theorem dX11_write_191 : decode cX11_write 191 = .ok (.istore 6, 2) := by decide +kernel
theorem dX11_write_193 : decode cX11_write 193 = .ok (.iload 6, 2) := by decide +kernel
theorem dX11_write_195 : decode cX11_write 195 = .ok (.iload_n 3, 1) := by decide +kernel
theorem dX11_write_196 : decode cX11_write 196 = .ok (.if_icmp .gt 40, 3) := by decide +kernel
theorem dX11_write_199 : decode cX11_write 199 = .ok (.aload_n 0, 1) := by decide +kernel
theorem dX11_write_200 : decode cX11_write 200 = .ok (.getfield 30, 3) := by decide +kernel
theorem dX11_write_203 : decode cX11_write 203 = .ok (.iload 6, 2) := by decide +kernel
theorem dX11_write_205 : decode cX11_write 205 = .ok (.iaload, 1) := by decide +kernel
theorem dX11_write_206 : decode cX11_write 206 = .ok (.aload_n 0, 1) := by decide +kernel
theorem dX11_write_207 : decode cX11_write 207 = .ok (.getfield 74, 3) := by decide +kernel
theorem dX11_write_210 : decode cX11_write 210 = .ok (.if_icmp .gt 9, 3) := by decide +kernel
theorem dX11_write_213 : decode cX11_write 213 = .ok (.iload 6, 2) := by decide +kernel
theorem dX11_write_215 : decode cX11_write 215 = .ok (.iload_n 3, 1) := by decide +kernel
theorem dX11_write_216 : decode cX11_write 216 = .ok (.if_icmp .ne 14, 3) := by decide +kernel
theorem dX11_write_219 : decode cX11_write 219 = .ok (.aload_n 0, 1) := by decide +kernel
theorem dX11_write_220 : decode cX11_write 220 = .ok (.getfield 30, 3) := by decide +kernel
theorem dX11_write_223 : decode cX11_write 223 = .ok (.iload 6, 2) := by decide +kernel
theorem dX11_write_225 : decode cX11_write 225 = .ok (.aload_n 0, 1) := by decide +kernel
theorem dX11_write_226 : decode cX11_write 226 = .ok (.getfield 74, 3) := by decide +kernel
theorem dX11_write_229 : decode cX11_write 229 = .ok (.iastore, 1) := by decide +kernel
theorem dX11_write_230 : decode cX11_write 230 = .ok (.iinc 6 1, 3) := by decide +kernel
theorem dX11_write_233 : decode cX11_write 233 = .ok (.goto (-40), 3) := by decide +kernel
theorem dX11_write_236 : decode cX11_write 236 = .ok (.aload_n 0, 1) := by decide +kernel
theorem dX11_write_237 : decode cX11_write 237 = .ok (.dup, 1) := by decide +kernel
theorem dX11_write_238 : decode cX11_write 238 = .ok (.getfield 252, 3) := by decide +kernel
theorem dX11_write_241 : decode cX11_write 241 = .ok (.iconst 1, 1) := by decide +kernel
theorem dX11_write_242 : decode cX11_write 242 = .ok (.iadd, 1) := by decide +kernel
theorem dX11_write_243 : decode cX11_write 243 = .ok (.putfield 252, 3) := by decide +kernel
theorem dX11_write_246 : decode cX11_write 246 = .ok (.iinc 3 1, 3) := by decide +kernel
theorem dX11_write_249 : decode cX11_write 249 = .ok (.goto (-200), 3) := by decide +kernel
theorem dX11_write_252 : decode cX11_write 252 = .ok (.aload_n 0, 1) := by decide +kernel
theorem dX11_write_253 : decode cX11_write 253 = .ok (.getfield 237, 3) := by decide +kernel
theorem dX11_write_256 : decode cX11_write 256 = .ok (.ireturn, 1) := by decide +kernel
set_option maxRecDepth 20000 in
theorem ggX11_read_X11_out : GoodIn wsX11_read wsX11_out := goodIn_r _ [14] (by decide +kernel) (by decide +kernel)
set_option maxRecDepth 20000 in
theorem gX11_read_X11_out : GoodIn wsX11_read (va_wsS RX11 278 yX11_out wsX11_out) := goodIn_app (goodIn_of _ (by decide +kernel)) ggX11_read_X11_out
set_option maxRecDepth 20000 in
theorem ggX11_read_X11_throwing : GoodIn wsX11_read wsX11_throwing := goodIn_r _ [18, 19, 185, 186, 187, 188, 189, 190, 191, 192, 193, 194, 195, 196, 197, 198, 199, 200, 201, 202, 203, 204, 205, 206, 207, 208, 209, 210, 211, 212, 213, 214, 215, 216, 217, 218, 219, 220, 221, 222, 223, 224, 225, 226] (by decide +kernel) (by decide +kernel)
set_option maxRecDepth 20000 in
theorem gX11_read_X11_throwing : GoodIn wsX11_read (wsV RX11 282 RX11 yX11_throwing wsX11_throwing) := goodIn_app (goodIn_of _ (by decide +kernel)) ggX11_read_X11_throwing
set_option maxRecDepth 20000 in
theorem ggX11_read_X11_clearKnown : GoodIn wsX11_read wsX11_clearKnown := goodIn_r _ [23, 24, 25, 26, 27, 28, 185, 186, 187, 188, 189, 190, 191, 192, 193, 194, 195, 196, 197, 198, 199, 200, 201, 202, 203, 204, 205, 206, 207, 208, 209, 210, 211, 212, 213, 214, 215, 216, 217, 218, 219, 220, 221, 222, 223, 224, 225, 226] (by decide +kernel) (by decide +kernel)
set_option maxRecDepth 20000 in
theorem gX11_read_X11_clearKnown : GoodIn wsX11_read (wsV RX11 255 RX11 yX11_clearKnown wsX11_clearKnown) := goodIn_app (goodIn_of _ (by decide +kernel)) ggX11_read_X11_clearKnown
set_option maxRecDepth 20000 in
theorem ggX11_read_X11_resetContexts : GoodIn wsX11_read wsX11_resetContexts := goodIn_r _ [32, 33, 34, 185, 186, 187, 188, 189, 190, 191, 192, 193, 194, 195, 196, 197, 198, 199, 200, 201, 202, 203, 204, 205, 206, 207, 208, 209, 210, 211, 212, 213, 214, 215, 216, 217, 218, 219, 220, 221, 222, 223, 224, 225, 226] (by decide +kernel) (by decide +kernel)
set_option maxRecDepth 20000 in
theorem gX11_read_X11_resetContexts : GoodIn wsX11_read (wsV RX11 231 RX11 yX11_resetContexts wsX11_resetContexts) := goodIn_app (goodIn_of _ (by decide +kernel)) ggX11_read_X11_resetContexts
set_option maxRecDepth 20000 in
theorem ggX11_read_X11_isRaw : GoodIn wsX11_read wsX11_isRaw := goodIn_r _ [38, 39, 40, 41, 13, 42, 185, 186, 187, 188, 189, 190, 191, 192, 193, 194, 195, 196, 197, 198, 199, 200, 201, 202, 203, 204, 205, 206, 207, 208, 209, 210, 211, 212, 213, 214, 215, 216, 217, 218, 219, 220, 221, 222, 223, 224, 225, 226] (by decide +kernel) (by decide +kernel)
set_option maxRecDepth 20000 in
theorem gX11_read_X11_isRaw : GoodIn wsX11_read (wsV RX11 262 RX11 yX11_isRaw wsX11_isRaw) := goodIn_app (goodIn_of _ (by decide +kernel)) ggX11_read_X11_isRaw
set_option maxRecDepth 20000 in
theorem ggX11_read_X11_ends : GoodIn wsX11_read wsX11_ends := goodIn_r _ [46, 2, 39, 40, 41, 13, 42, 185, 186, 187, 188, 189, 190, 191, 192, 193, 194, 195, 196, 197, 198, 199, 200, 201, 202, 203, 204, 205, 206, 207, 208, 209, 210, 211, 212, 213, 214, 215, 216, 217, 218, 219, 220, 221, 222, 223, 224, 225, 226] (by decide +kernel) (by decide +kernel)
set_option maxRecDepth 20000 in
theorem gX11_read_X11_ends : GoodIn wsX11_read (wsV RX11 266 RX11 yX11_ends wsX11_ends) := goodIn_app (goodIn_of _ (by decide +kernel)) ggX11_read_X11_ends
set_option maxRecDepth 20000 in
theorem ggX11_read_X11_openRead : GoodIn wsX11_read wsX11_openRead := goodIn_r _ [50, 51, 52, 53, 54, 55, 6, 56, 57, 58, 59, 60, 61, 62, 13, 63, 64, 65, 66, 67, 68, 69, 185, 186, 187, 188, 189, 190, 191, 192, 193, 194, 195, 196, 197, 198, 199, 200, 201, 202, 203, 204, 205, 206, 207, 208, 209, 210, 211, 212, 213, 214, 215, 216, 217, 218, 219, 220, 221, 222, 223, 224, 225, 226] (by decide +kernel) (by decide +kernel)
set_option maxRecDepth 20000 in
theorem gX11_read_X11_openRead : GoodIn wsX11_read (wsV RX11 286 RX11 yX11_openRead wsX11_openRead) := goodIn_app (goodIn_of _ (by decide +kernel)) ggX11_read_X11_openRead
set_option maxRecDepth 20000 in
theorem ggX11_read_X11_codePass : GoodIn wsX11_read wsX11_codePass := goodIn_r _ [73, 74, 75, 76, 39, 40, 41, 13, 42, 77, 78, 79, 80, 81, 82, 83, 84, 85, 24, 27, 86, 87, 88, 89, 90, 91, 92, 93, 94, 95, 96, 97, 98, 25, 99, 100, 101, 102, 4, 103, 104, 105, 106, 107, 108, 109, 110, 111, 6, 112, 113, 114, 115, 55, 53, 54, 60, 61, 62, 63, 52, 64, 51, 116, 117, 118, 119, 120, 33, 34, 57, 59, 56, 121, 122, 123, 124, 125, 126, 65, 66, 67, 68, 69, 127, 128, 129, 130, 131, 132, 133, 134, 135, 136, 137, 138, 139, 140, 141, 142, 143, 144, 145, 146, 147, 148, 149, 150, 151, 152, 153, 154, 155, 156, 157, 158, 159, 160, 161, 162, 163, 164, 26, 165, 166, 167, 168, 169, 170, 171, 172, 173, 174, 175, 176, 28, 177, 178, 179, 180, 181, 182, 183, 184, 5, 29, 30, 31, 32, 185, 186, 187, 188, 189, 190, 191, 192, 193, 194, 195, 196, 197, 198, 199, 200, 201, 202, 203, 204, 205, 206, 207, 208, 209, 210, 211, 212, 213, 214, 215, 216, 217, 218, 219, 220, 221, 222, 223, 224, 225, 226] (by decide +kernel) (by decide +kernel)
set_option maxRecDepth 20000 in
theorem gX11_read_X11_codePass : GoodIn wsX11_read (wsV RX11 272 RX11 yX11_codePass wsX11_codePass) := goodIn_app (goodIn_of _ (by decide +kernel)) ggX11_read_X11_codePass
theorem dX11_read_0 : decode cX11_read 0 = .ok (.aload_n 0, 1) := by decide +kernel
theorem dX11_read_1 : decode cX11_read 1 = .ok (.aload_n 0, 1) := by decide +kernel
theorem dX11_read_2 : decode cX11_read 2 = .ok (.getfield 249, 3) := by decide +kernel
theorem dX11_read_5 : decode cX11_read 5 = .ok (.ifCond .ne 7, 3) := by decide +kernel
theorem dX11_read_8 : decode cX11_read 8 = .ok (.iconst 1, 1) := by decide +kernel
theorem dX11_read_9 : decode cX11_read 9 = .ok (.goto 4, 3) := by decide +kernel
theorem dX11_read_12 : decode cX11_read 12 = .ok (.iconst 0, 1) := by decide +kernel
theorem dX11_read_13 : decode cX11_read 13 = .ok (.iload_n 1, 1) := by decide +kernel
theorem dX11_read_14 : decode cX11_read 14 = .ok (.iconst 0, 1) := by decide +kernel
theorem dX11_read_15 : decode cX11_read 15 = .ok (.aload_n 0, 1) := by decide +kernel
theorem dX11_read_16 : decode cX11_read 16 = .ok (.getfield 237, 3) := by decide +kernel
theorem dX11_read_19 : decode cX11_read 19 = .ok (.invokestatic 278, 3) := by decide +kernel
theorem dX11_read_22 : decode cX11_read 22 = .ok (.iconst 0, 1) := by decide +kernel
theorem dX11_read_23 : decode cX11_read 23 = .ok (.invokevirtual 282, 3) := by decide +kernel
theorem dX11_read_26 : decode cX11_read 26 = .ok (.ifCond .eq 5, 3) := by decide +kernel
theorem dX11_read_29 : decode cX11_read 29 = .ok (.iconst 0, 1) := by decide +kernel
theorem dX11_read_30 : decode cX11_read 30 = .ok (.ireturn, 1) := by decide +kernel
theorem dX11_read_31 : decode cX11_read 31 = .ok (.aload_n 0, 1) := by decide +kernel
theorem dX11_read_32 : decode cX11_read 32 = .ok (.iconst 1, 1) := by decide +kernel
theorem dX11_read_33 : decode cX11_read 33 = .ok (.putfield 246, 3) := by decide +kernel
theorem dX11_read_36 : decode cX11_read 36 = .ok (.aload_n 0, 1) := by decide +kernel
theorem dX11_read_37 : decode cX11_read 37 = .ok (.iconst 0, 1) := by decide +kernel
theorem dX11_read_38 : decode cX11_read 38 = .ok (.putfield 159, 3) := by decide +kernel
theorem dX11_read_41 : decode cX11_read 41 = .ok (.aload_n 0, 1) := by decide +kernel
theorem dX11_read_42 : decode cX11_read 42 = .ok (.iconst 0, 1) := by decide +kernel
theorem dX11_read_43 : decode cX11_read 43 = .ok (.putfield 209, 3) := by decide +kernel
theorem dX11_read_46 : decode cX11_read 46 = .ok (.aload_n 0, 1) := by decide +kernel
theorem dX11_read_47 : decode cX11_read 47 = .ok (.invokevirtual 255, 3) := by decide +kernel
theorem dX11_read_50 : decode cX11_read 50 = .ok (.aload_n 0, 1) := by decide +kernel
theorem dX11_read_51 : decode cX11_read 51 = .ok (.invokevirtual 231, 3) := by decide +kernel
theorem dX11_read_54 : decode cX11_read 54 = .ok (.iconst 0, 1) := by decide +kernel
theorem dX11_read_55 : decode cX11_read 55 = .ok (.istore_n 2, 1) := by decide +kernel
theorem dX11_read_56 : decode cX11_read 56 = .ok (.iload_n 2, 1) := by decide +kernel
theorem dX11_read_57 : decode cX11_read 57 = .ok (.iload_n 1, 1) := by decide +kernel
theorem dX11_read_58 : decode cX11_read 58 = .ok (.if_icmp .ge 104, 3) := by decide +kernel
theorem dX11_read_61 : decode cX11_read 61 = .ok (.aload_n 0, 1) := by decide +kernel
theorem dX11_read_62 : decode cX11_read 62 = .ok (.aload_n 0, 1) := by decide +kernel
theorem dX11_read_63 : decode cX11_read 63 = .ok (.iload_n 2, 1) := by decide +kernel
theorem dX11_read_64 : decode cX11_read 64 = .ok (.invokevirtual 262, 3) := by decide +kernel
theorem dX11_read_67 : decode cX11_read 67 = .ok (.putfield 113, 3) := by decide +kernel
theorem dX11_read_70 : decode cX11_read 70 = .ok (.iload_n 2, 1) := by decide +kernel
theorem dX11_read_71 : decode cX11_read 71 = .ok (.ifCond .eq 13, 3) := by decide +kernel
theorem dX11_read_74 : decode cX11_read 74 = .ok (.aload_n 0, 1) := by decide +kernel
theorem dX11_read_75 : decode cX11_read 75 = .ok (.iload_n 2, 1) := by decide +kernel
theorem dX11_read_76 : decode cX11_read 76 = .ok (.iconst 1, 1) := by decide +kernel
theorem dX11_read_77 : decode cX11_read 77 = .ok (.isub, 1) := by decide +kernel
theorem dX11_read_78 : decode cX11_read 78 = .ok (.invokevirtual 266, 3) := by decide +kernel
theorem dX11_read_81 : decode cX11_read 81 = .ok (.ifCond .eq 70, 3) := by decide +kernel
theorem dX11_read_84 : decode cX11_read 84 = .ok (.aload_n 0, 1) := by decide +kernel
theorem dX11_read_85 : decode cX11_read 85 = .ok (.getfield 37, 3) := by decide +kernel
theorem dX11_read_88 : decode cX11_read 88 = .ok (.iload_n 2, 1) := by decide +kernel
theorem dX11_read_89 : decode cX11_read 89 = .ok (.iaload, 1) := by decide +kernel
theorem dX11_read_90 : decode cX11_read 90 = .ok (.istore_n 3, 1) := by decide +kernel
theorem dX11_read_91 : decode cX11_read 91 = .ok (.aload_n 0, 1) := by decide +kernel
theorem dX11_read_92 : decode cX11_read 92 = .ok (.getfield 37, 3) := by decide +kernel
theorem dX11_read_95 : decode cX11_read 95 = .ok (.iload_n 1, 1) := by decide +kernel
theorem dX11_read_96 : decode cX11_read 96 = .ok (.iconst 1, 1) := by decide +kernel
theorem dX11_read_97 : decode cX11_read 97 = .ok (.isub, 1) := by decide +kernel
theorem dX11_read_98 : decode cX11_read 98 = .ok (.iaload, 1) := by decide +kernel
theorem dX11_read_99 : decode cX11_read 99 = .ok (.iload_n 3, 1) := by decide +kernel
theorem dX11_read_100 : decode cX11_read 100 = .ok (.if_icmp .ne 31, 3) := by decide +kernel
theorem dX11_read_103 : decode cX11_read 103 = .ok (.aload_n 0, 1) := by decide +kernel
theorem dX11_read_104 : decode cX11_read 104 = .ok (.iload_n 1, 1) := by decide +kernel
theorem dX11_read_105 : decode cX11_read 105 = .ok (.iconst 1, 1) := by decide +kernel
theorem dX11_read_106 : decode cX11_read 106 = .ok (.isub, 1) := by decide +kernel
theorem dX11_read_107 : decode cX11_read 107 = .ok (.invokevirtual 266, 3) := by decide +kernel
theorem dX11_read_110 : decode cX11_read 110 = .ok (.ifCond .ne 21, 3) := by decide +kernel
theorem dX11_read_113 : decode cX11_read 113 = .ok (.aload_n 0, 1) := by decide +kernel
theorem dX11_read_114 : decode cX11_read 114 = .ok (.getfield 30, 3) := by decide +kernel
theorem dX11_read_117 : decode cX11_read 117 = .ok (.iload_n 1, 1) := by decide +kernel
theorem dX11_read_118 : decode cX11_read 118 = .ok (.iconst 1, 1) := by decide +kernel
theorem dX11_read_119 : decode cX11_read 119 = .ok (.isub, 1) := by decide +kernel
theorem dX11_read_120 : decode cX11_read 120 = .ok (.iaload, 1) := by decide +kernel
theorem dX11_read_121 : decode cX11_read 121 = .ok (.aload_n 0, 1) := by decide +kernel
theorem dX11_read_122 : decode cX11_read 122 = .ok (.getfield 40, 3) := by decide +kernel
theorem dX11_read_125 : decode cX11_read 125 = .ok (.iload_n 3, 1) := by decide +kernel
theorem dX11_read_126 : decode cX11_read 126 = .ok (.iaload, 1) := by decide +kernel
theorem dX11_read_127 : decode cX11_read 127 = .ok (.isub, 1) := by decide +kernel
theorem dX11_read_128 : decode cX11_read 128 = .ok (.goto 9, 3) := by decide +kernel
theorem dX11_read_131 : decode cX11_read 131 = .ok (.aload_n 0, 1) := by decide +kernel
theorem dX11_read_132 : decode cX11_read 132 = .ok (.getfield 43, 3) := by decide +kernel
theorem dX11_read_135 : decode cX11_read 135 = .ok (.iload_n 3, 1) := by decide +kernel
theorem dX11_read_136 : decode cX11_read 136 = .ok (.iaload, 1) := by decide +kernel
theorem dX11_read_137 : decode cX11_read 137 = .ok (.istore 4, 2) := by decide +kernel
theorem dX11_read_139 : decode cX11_read 139 = .ok (.aload_n 0, 1) := by decide +kernel
theorem dX11_read_140 : decode cX11_read 140 = .ok (.aload_n 0, 1) := by decide +kernel
theorem dX11_read_141 : decode cX11_read 141 = .ok (.getfield 40, 3) := by decide +kernel
theorem dX11_read_144 : decode cX11_read 144 = .ok (.iload_n 3, 1) := by decide +kernel
theorem dX11_read_145 : decode cX11_read 145 = .ok (.iaload, 1) := by decide +kernel
theorem dX11_read_146 : decode cX11_read 146 = .ok (.iload 4, 2) := by decide +kernel
theorem dX11_read_148 : decode cX11_read 148 = .ok (.invokevirtual 286, 3) := by decide +kernel
theorem dX11_read_151 : decode cX11_read 151 = .ok (.aload_n 0, 1) := by decide +kernel
theorem dX11_read_152 : decode cX11_read 152 = .ok (.iload_n 2, 1) := by decide +kernel
theorem dX11_read_153 : decode cX11_read 153 = .ok (.invokevirtual 272, 3) := by decide +kernel
theorem dX11_read_156 : decode cX11_read 156 = .ok (.iinc 2 1, 3) := by decide +kernel
theorem dX11_read_159 : decode cX11_read 159 = .ok (.goto (-103), 3) := by decide +kernel
theorem dX11_read_162 : decode cX11_read 162 = .ok (.aload_n 0, 1) := by decide +kernel
theorem dX11_read_163 : decode cX11_read 163 = .ok (.getfield 209, 3) := by decide +kernel
theorem dX11_read_166 : decode cX11_read 166 = .ok (.ireturn, 1) := by decide +kernel
theorem dX11_gone_0 : decode cX11_gone 0 = .ok (.aload_n 0, 1) := by decide +kernel
theorem dX11_gone_1 : decode cX11_gone 1 = .ok (.iconst 0, 1) := by decide +kernel
theorem dX11_gone_2 : decode cX11_gone 2 = .ok (.putfield 249, 3) := by decide +kernel
theorem dX11_gone_5 : decode cX11_gone 5 = .ok (.aload_n 0, 1) := by decide +kernel
theorem dX11_gone_6 : decode cX11_gone 6 = .ok (.iconst 0, 1) := by decide +kernel
theorem dX11_gone_7 : decode cX11_gone 7 = .ok (.putfield 246, 3) := by decide +kernel
theorem dX11_gone_10 : decode cX11_gone 10 = .ok (.return_, 1) := by decide +kernel
theorem dX11_put_0 : decode cX11_put 0 = .ok (.aload_n 0, 1) := by decide +kernel
theorem dX11_put_1 : decode cX11_put 1 = .ok (.getfield 23, 3) := by decide +kernel
theorem dX11_put_4 : decode cX11_put 4 = .ok (.iload_n 1, 1) := by decide +kernel
theorem dX11_put_5 : decode cX11_put 5 = .ok (.iload_n 2, 1) := by decide +kernel
theorem dX11_put_6 : decode cX11_put 6 = .ok (.ifCond .ge 8, 3) := by decide +kernel
theorem dX11_put_9 : decode cX11_put 9 = .ok (.iload_n 2, 1) := by decide +kernel
theorem dX11_put_10 : decode cX11_put 10 = .ok (.ineg, 1) := by decide +kernel
theorem dX11_put_11 : decode cX11_put 11 = .ok (.goto 4, 3) := by decide +kernel
theorem dX11_put_14 : decode cX11_put 14 = .ok (.iload_n 2, 1) := by decide +kernel
theorem dX11_put_15 : decode cX11_put 15 = .ok (.iastore, 1) := by decide +kernel
theorem dX11_put_16 : decode cX11_put 16 = .ok (.aload_n 0, 1) := by decide +kernel
theorem dX11_put_17 : decode cX11_put 17 = .ok (.getfield 26, 3) := by decide +kernel
theorem dX11_put_20 : decode cX11_put 20 = .ok (.iload_n 1, 1) := by decide +kernel
theorem dX11_put_21 : decode cX11_put 21 = .ok (.iload_n 2, 1) := by decide +kernel
theorem dX11_put_22 : decode cX11_put 22 = .ok (.ifCond .ge 7, 3) := by decide +kernel
theorem dX11_put_25 : decode cX11_put 25 = .ok (.iconst 1, 1) := by decide +kernel
theorem dX11_put_26 : decode cX11_put 26 = .ok (.goto 4, 3) := by decide +kernel
theorem dX11_put_29 : decode cX11_put 29 = .ok (.iconst 0, 1) := by decide +kernel
theorem dX11_put_30 : decode cX11_put 30 = .ok (.bastore, 1) := by decide +kernel
theorem dX11_put_31 : decode cX11_put 31 = .ok (.return_, 1) := by decide +kernel
set_option maxRecDepth 20000 in
theorem ggX11_begin_X11_out : GoodIn wsX11_begin wsX11_out := goodIn_r _ [8] (by decide +kernel) (by decide +kernel)
set_option maxRecDepth 20000 in
theorem gX11_begin_X11_out : GoodIn wsX11_begin (va_wsS RX11 278 yX11_out wsX11_out) := goodIn_app (goodIn_of _ (by decide +kernel)) ggX11_begin_X11_out
set_option maxRecDepth 20000 in
theorem ggX11_begin_X11_throwing : GoodIn wsX11_begin wsX11_throwing := goodIn_r _ [12, 13, 26, 27, 28, 29, 30, 31, 32, 33, 34, 35, 36, 37, 38, 39, 40, 41, 42, 43, 44, 45, 46, 47, 48, 49, 50, 51, 52, 53, 54, 55, 56, 57, 58, 59, 60, 61, 62, 63, 64, 65, 66, 67] (by decide +kernel) (by decide +kernel)
set_option maxRecDepth 20000 in
theorem gX11_begin_X11_throwing : GoodIn wsX11_begin (wsV RX11 282 RX11 yX11_throwing wsX11_throwing) := goodIn_app (goodIn_of _ (by decide +kernel)) ggX11_begin_X11_throwing
set_option maxRecDepth 20000 in
theorem ggX11_begin_X11_put : GoodIn wsX11_begin wsX11_put := goodIn_r _ [17, 18, 19, 26, 27, 28, 29, 30, 31, 32, 33, 34, 35, 36, 37, 38, 39, 40, 41, 42, 43, 44, 45, 46, 47, 48, 49, 50, 51, 52, 53, 54, 55, 56, 57, 58, 59, 60, 61, 62, 63, 64, 65, 66, 67] (by decide +kernel) (by decide +kernel)
set_option maxRecDepth 20000 in
theorem gX11_begin_X11_put : GoodIn wsX11_begin (wsV RX11 289 RX11 yX11_put wsX11_put) := goodIn_app (goodIn_of _ (by decide +kernel)) ggX11_begin_X11_put
set_option maxRecDepth 20000 in
theorem ggX11_begin_X11_gone : GoodIn wsX11_begin wsX11_gone := goodIn_r _ [23, 24, 25, 26, 27, 28, 29, 30, 31, 32, 33, 34, 35, 36, 37, 38, 39, 40, 41, 42, 43, 44, 45, 46, 47, 48, 49, 50, 51, 52, 53, 54, 55, 56, 57, 58, 59, 60, 61, 62, 63, 64, 65, 66, 67] (by decide +kernel) (by decide +kernel)
set_option maxRecDepth 20000 in
theorem gX11_begin_X11_gone : GoodIn wsX11_begin (wsV RX11 292 RX11 yX11_gone wsX11_gone) := goodIn_app (goodIn_of _ (by decide +kernel)) ggX11_begin_X11_gone
theorem dX11_begin_0 : decode cX11_begin 0 = .ok (.aload_n 0, 1) := by decide +kernel
theorem dX11_begin_1 : decode cX11_begin 1 = .ok (.iload_n 1, 1) := by decide +kernel
theorem dX11_begin_2 : decode cX11_begin 2 = .ok (.iconst 1, 1) := by decide +kernel
theorem dX11_begin_3 : decode cX11_begin 3 = .ok (.bipush 64, 2) := by decide +kernel
theorem dX11_begin_5 : decode cX11_begin 5 = .ok (.invokestatic 278, 3) := by decide +kernel
theorem dX11_begin_8 : decode cX11_begin 8 = .ok (.ifCond .ne 33, 3) := by decide +kernel
theorem dX11_begin_11 : decode cX11_begin 11 = .ok (.iload_n 2, 1) := by decide +kernel
theorem dX11_begin_12 : decode cX11_begin 12 = .ok (.iconst 1, 1) := by decide +kernel
theorem dX11_begin_13 : decode cX11_begin 13 = .ok (.bipush 64, 2) := by decide +kernel
theorem dX11_begin_15 : decode cX11_begin 15 = .ok (.invokestatic 278, 3) := by decide +kernel
theorem dX11_begin_18 : decode cX11_begin 18 = .ok (.ifCond .ne 23, 3) := by decide +kernel
theorem dX11_begin_21 : decode cX11_begin 21 = .ok (.iload_n 3, 1) := by decide +kernel
theorem dX11_begin_22 : decode cX11_begin 22 = .ok (.iconst 0, 1) := by decide +kernel
theorem dX11_begin_23 : decode cX11_begin 23 = .ok (.iconst 3, 1) := by decide +kernel
theorem dX11_begin_24 : decode cX11_begin 24 = .ok (.invokestatic 278, 3) := by decide +kernel
theorem dX11_begin_27 : decode cX11_begin 27 = .ok (.ifCond .ne 14, 3) := by decide +kernel
theorem dX11_begin_30 : decode cX11_begin 30 = .ok (.iload 4, 2) := by decide +kernel
theorem dX11_begin_32 : decode cX11_begin 32 = .ok (.iconst 0, 1) := by decide +kernel
theorem dX11_begin_33 : decode cX11_begin 33 = .ok (.bipush 63, 2) := by decide +kernel
theorem dX11_begin_35 : decode cX11_begin 35 = .ok (.invokestatic 278, 3) := by decide +kernel
theorem dX11_begin_38 : decode cX11_begin 38 = .ok (.ifCond .eq 7, 3) := by decide +kernel
theorem dX11_begin_41 : decode cX11_begin 41 = .ok (.iconst 1, 1) := by decide +kernel
theorem dX11_begin_42 : decode cX11_begin 42 = .ok (.goto 4, 3) := by decide +kernel
theorem dX11_begin_45 : decode cX11_begin 45 = .ok (.iconst 0, 1) := by decide +kernel
theorem dX11_begin_46 : decode cX11_begin 46 = .ok (.iconst 0, 1) := by decide +kernel
theorem dX11_begin_47 : decode cX11_begin 47 = .ok (.iconst 0, 1) := by decide +kernel
theorem dX11_begin_48 : decode cX11_begin 48 = .ok (.invokevirtual 282, 3) := by decide +kernel
theorem dX11_begin_51 : decode cX11_begin 51 = .ok (.ifCond .eq 4, 3) := by decide +kernel
theorem dX11_begin_54 : decode cX11_begin 54 = .ok (.return_, 1) := by decide +kernel
theorem dX11_begin_55 : decode cX11_begin 55 = .ok (.aload_n 0, 1) := by decide +kernel
theorem dX11_begin_56 : decode cX11_begin 56 = .ok (.iload_n 1, 1) := by decide +kernel
theorem dX11_begin_57 : decode cX11_begin 57 = .ok (.putfield 16, 3) := by decide +kernel
theorem dX11_begin_60 : decode cX11_begin 60 = .ok (.aload_n 0, 1) := by decide +kernel
theorem dX11_begin_61 : decode cX11_begin 61 = .ok (.iload_n 2, 1) := by decide +kernel
theorem dX11_begin_62 : decode cX11_begin 62 = .ok (.putfield 20, 3) := by decide +kernel
theorem dX11_begin_65 : decode cX11_begin 65 = .ok (.aload_n 0, 1) := by decide +kernel
theorem dX11_begin_66 : decode cX11_begin 66 = .ok (.iload_n 3, 1) := by decide +kernel
theorem dX11_begin_67 : decode cX11_begin 67 = .ok (.putfield 180, 3) := by decide +kernel
theorem dX11_begin_70 : decode cX11_begin 70 = .ok (.aload_n 0, 1) := by decide +kernel
theorem dX11_begin_71 : decode cX11_begin 71 = .ok (.iload 4, 2) := by decide +kernel
theorem dX11_begin_73 : decode cX11_begin 73 = .ok (.putfield 119, 3) := by decide +kernel
theorem dX11_begin_76 : decode cX11_begin 76 = .ok (.iconst 0, 1) := by decide +kernel
theorem dX11_begin_77 : decode cX11_begin 77 = .ok (.istore 5, 2) := by decide +kernel
theorem dX11_begin_79 : decode cX11_begin 79 = .ok (.iload 5, 2) := by decide +kernel
theorem dX11_begin_81 : decode cX11_begin 81 = .ok (.sipush 4096, 3) := by decide +kernel
theorem dX11_begin_84 : decode cX11_begin 84 = .ok (.if_icmp .ge 16, 3) := by decide +kernel
theorem dX11_begin_87 : decode cX11_begin 87 = .ok (.aload_n 0, 1) := by decide +kernel
theorem dX11_begin_88 : decode cX11_begin 88 = .ok (.iload 5, 2) := by decide +kernel
theorem dX11_begin_90 : decode cX11_begin 90 = .ok (.iconst 0, 1) := by decide +kernel
theorem dX11_begin_91 : decode cX11_begin 91 = .ok (.invokevirtual 289, 3) := by decide +kernel
theorem dX11_begin_94 : decode cX11_begin 94 = .ok (.iinc 5 1, 3) := by decide +kernel
theorem dX11_begin_97 : decode cX11_begin 97 = .ok (.goto (-18), 3) := by decide +kernel
theorem dX11_begin_100 : decode cX11_begin 100 = .ok (.aload_n 0, 1) := by decide +kernel
theorem dX11_begin_101 : decode cX11_begin 101 = .ok (.invokevirtual 292, 3) := by decide +kernel
theorem dX11_begin_104 : decode cX11_begin 104 = .ok (.return_, 1) := by decide +kernel
set_option maxRecDepth 20000 in
theorem ggX11_isThere_X11_out : GoodIn wsX11_isThere wsX11_out := goodIn_r _ [6] (by decide +kernel) (by decide +kernel)
set_option maxRecDepth 20000 in
theorem gX11_isThere_X11_out : GoodIn wsX11_isThere (va_wsS RX11 278 yX11_out wsX11_out) := goodIn_app (goodIn_of _ (by decide +kernel)) ggX11_isThere_X11_out
theorem dX11_isThere_0 : decode cX11_isThere 0 = .ok (.iload_n 1, 1) := by decide +kernel
theorem dX11_isThere_1 : decode cX11_isThere 1 = .ok (.iconst 0, 1) := by decide +kernel
theorem dX11_isThere_2 : decode cX11_isThere 2 = .ok (.aload_n 0, 1) := by decide +kernel
theorem dX11_isThere_3 : decode cX11_isThere 3 = .ok (.getfield 16, 3) := by decide +kernel
theorem dX11_isThere_6 : decode cX11_isThere 6 = .ok (.iconst 1, 1) := by decide +kernel
theorem dX11_isThere_7 : decode cX11_isThere 7 = .ok (.isub, 1) := by decide +kernel
theorem dX11_isThere_8 : decode cX11_isThere 8 = .ok (.invokestatic 278, 3) := by decide +kernel
theorem dX11_isThere_11 : decode cX11_isThere 11 = .ok (.ifCond .ne 21, 3) := by decide +kernel
theorem dX11_isThere_14 : decode cX11_isThere 14 = .ok (.iload_n 2, 1) := by decide +kernel
theorem dX11_isThere_15 : decode cX11_isThere 15 = .ok (.iconst 0, 1) := by decide +kernel
theorem dX11_isThere_16 : decode cX11_isThere 16 = .ok (.aload_n 0, 1) := by decide +kernel
theorem dX11_isThere_17 : decode cX11_isThere 17 = .ok (.getfield 20, 3) := by decide +kernel
theorem dX11_isThere_20 : decode cX11_isThere 20 = .ok (.iconst 1, 1) := by decide +kernel
theorem dX11_isThere_21 : decode cX11_isThere 21 = .ok (.isub, 1) := by decide +kernel
theorem dX11_isThere_22 : decode cX11_isThere 22 = .ok (.invokestatic 278, 3) := by decide +kernel
theorem dX11_isThere_25 : decode cX11_isThere 25 = .ok (.ifCond .ne 7, 3) := by decide +kernel
theorem dX11_isThere_28 : decode cX11_isThere 28 = .ok (.iconst 1, 1) := by decide +kernel
theorem dX11_isThere_29 : decode cX11_isThere 29 = .ok (.goto 4, 3) := by decide +kernel
theorem dX11_isThere_32 : decode cX11_isThere 32 = .ok (.iconst 0, 1) := by decide +kernel
theorem dX11_isThere_33 : decode cX11_isThere 33 = .ok (.ireturn, 1) := by decide +kernel
set_option maxRecDepth 20000 in
theorem ggX11_set_X11_isThere : GoodIn wsX11_set wsX11_isThere := goodIn_r _ [7, 2, 8, 9, 10, 6, 11, 29, 30, 31, 32, 33, 34, 35, 36, 37, 38, 39, 40, 41, 42, 43, 44, 45, 46, 47, 48, 49, 50, 51, 52, 53, 54, 55, 56, 57, 58, 59, 60, 61, 62, 63, 64, 65, 66, 67, 68, 69, 70] (by decide +kernel) (by decide +kernel)
set_option maxRecDepth 20000 in
theorem gX11_set_X11_isThere : GoodIn wsX11_set (wsV RX11 295 RX11 yX11_isThere wsX11_isThere) := goodIn_app (goodIn_of _ (by decide +kernel)) ggX11_set_X11_isThere
set_option maxRecDepth 20000 in
theorem ggX11_set_X11_throwing : GoodIn wsX11_set wsX11_throwing := goodIn_r _ [15, 16, 29, 30, 31, 32, 33, 34, 35, 36, 37, 38, 39, 40, 41, 42, 43, 44, 45, 46, 47, 48, 49, 50, 51, 52, 53, 54, 55, 56, 57, 58, 59, 60, 61, 62, 63, 64, 65, 66, 67, 68, 69, 70] (by decide +kernel) (by decide +kernel)
set_option maxRecDepth 20000 in
theorem gX11_set_X11_throwing : GoodIn wsX11_set (wsV RX11 282 RX11 yX11_throwing wsX11_throwing) := goodIn_app (goodIn_of _ (by decide +kernel)) ggX11_set_X11_throwing
set_option maxRecDepth 20000 in
theorem ggX11_set_X11_put : GoodIn wsX11_set wsX11_put := goodIn_r _ [20, 21, 22, 29, 30, 31, 32, 33, 34, 35, 36, 37, 38, 39, 40, 41, 42, 43, 44, 45, 46, 47, 48, 49, 50, 51, 52, 53, 54, 55, 56, 57, 58, 59, 60, 61, 62, 63, 64, 65, 66, 67, 68, 69, 70] (by decide +kernel) (by decide +kernel)
set_option maxRecDepth 20000 in
theorem gX11_set_X11_put : GoodIn wsX11_set (wsV RX11 289 RX11 yX11_put wsX11_put) := goodIn_app (goodIn_of _ (by decide +kernel)) ggX11_set_X11_put
set_option maxRecDepth 20000 in
theorem ggX11_set_X11_gone : GoodIn wsX11_set wsX11_gone := goodIn_r _ [26, 27, 28, 29, 30, 31, 32, 33, 34, 35, 36, 37, 38, 39, 40, 41, 42, 43, 44, 45, 46, 47, 48, 49, 50, 51, 52, 53, 54, 55, 56, 57, 58, 59, 60, 61, 62, 63, 64, 65, 66, 67, 68, 69, 70] (by decide +kernel) (by decide +kernel)
set_option maxRecDepth 20000 in
theorem gX11_set_X11_gone : GoodIn wsX11_set (wsV RX11 292 RX11 yX11_gone wsX11_gone) := goodIn_app (goodIn_of _ (by decide +kernel)) ggX11_set_X11_gone
theorem dX11_set_0 : decode cX11_set 0 = .ok (.aload_n 0, 1) := by decide +kernel
theorem dX11_set_1 : decode cX11_set 1 = .ok (.aload_n 0, 1) := by decide +kernel
theorem dX11_set_2 : decode cX11_set 2 = .ok (.iload_n 1, 1) := by decide +kernel
theorem dX11_set_3 : decode cX11_set 3 = .ok (.iload_n 2, 1) := by decide +kernel
theorem dX11_set_4 : decode cX11_set 4 = .ok (.invokevirtual 295, 3) := by decide +kernel
theorem dX11_set_7 : decode cX11_set 7 = .ok (.ifCond .eq 10, 3) := by decide +kernel
theorem dX11_set_10 : decode cX11_set 10 = .ok (.iload_n 3, 1) := by decide +kernel
theorem dX11_set_11 : decode cX11_set 11 = .ok (.ldc_w 298, 3) := by decide +kernel
theorem dX11_set_14 : decode cX11_set 14 = .ok (.if_icmp .ne 7, 3) := by decide +kernel
theorem dX11_set_17 : decode cX11_set 17 = .ok (.iconst 1, 1) := by decide +kernel
theorem dX11_set_18 : decode cX11_set 18 = .ok (.goto 4, 3) := by decide +kernel
theorem dX11_set_21 : decode cX11_set 21 = .ok (.iconst 0, 1) := by decide +kernel
theorem dX11_set_22 : decode cX11_set 22 = .ok (.iconst 0, 1) := by decide +kernel
theorem dX11_set_23 : decode cX11_set 23 = .ok (.iconst 0, 1) := by decide +kernel
theorem dX11_set_24 : decode cX11_set 24 = .ok (.invokevirtual 282, 3) := by decide +kernel
theorem dX11_set_27 : decode cX11_set 27 = .ok (.ifCond .eq 4, 3) := by decide +kernel
theorem dX11_set_30 : decode cX11_set 30 = .ok (.return_, 1) := by decide +kernel
theorem dX11_set_31 : decode cX11_set 31 = .ok (.aload_n 0, 1) := by decide +kernel
theorem dX11_set_32 : decode cX11_set 32 = .ok (.iload_n 2, 1) := by decide +kernel
theorem dX11_set_33 : decode cX11_set 33 = .ok (.aload_n 0, 1) := by decide +kernel
theorem dX11_set_34 : decode cX11_set 34 = .ok (.getfield 16, 3) := by decide +kernel
theorem dX11_set_37 : decode cX11_set 37 = .ok (.imul, 1) := by decide +kernel
theorem dX11_set_38 : decode cX11_set 38 = .ok (.iload_n 1, 1) := by decide +kernel
theorem dX11_set_39 : decode cX11_set 39 = .ok (.iadd, 1) := by decide +kernel
theorem dX11_set_40 : decode cX11_set 40 = .ok (.iload_n 3, 1) := by decide +kernel
theorem dX11_set_41 : decode cX11_set 41 = .ok (.invokevirtual 289, 3) := by decide +kernel
theorem dX11_set_44 : decode cX11_set 44 = .ok (.aload_n 0, 1) := by decide +kernel
theorem dX11_set_45 : decode cX11_set 45 = .ok (.invokevirtual 292, 3) := by decide +kernel
theorem dX11_set_48 : decode cX11_set 48 = .ok (.return_, 1) := by decide +kernel
set_option maxRecDepth 20000 in
theorem ggX11_fill_X11_out : GoodIn wsX11_fill wsX11_out := goodIn_r _ [7] (by decide +kernel) (by decide +kernel)
set_option maxRecDepth 20000 in
theorem gX11_fill_X11_out : GoodIn wsX11_fill (va_wsS RX11 278 yX11_out wsX11_out) := goodIn_app (goodIn_of _ (by decide +kernel)) ggX11_fill_X11_out
set_option maxRecDepth 20000 in
theorem ggX11_fill_X11_throwing : GoodIn wsX11_fill wsX11_throwing := goodIn_r _ [11, 12, 25, 26, 27, 28, 29, 30, 31, 32, 33, 34, 35, 36, 37, 38, 39, 40, 41, 42, 43, 44, 45, 46, 47, 48, 49, 50, 51, 52, 53, 54, 55, 56, 57, 58, 59, 60, 61, 62, 63, 64, 65, 66] (by decide +kernel) (by decide +kernel)
set_option maxRecDepth 20000 in
theorem gX11_fill_X11_throwing : GoodIn wsX11_fill (wsV RX11 282 RX11 yX11_throwing wsX11_throwing) := goodIn_app (goodIn_of _ (by decide +kernel)) ggX11_fill_X11_throwing
set_option maxRecDepth 20000 in
theorem ggX11_fill_X11_put : GoodIn wsX11_fill wsX11_put := goodIn_r _ [16, 17, 18, 25, 26, 27, 28, 29, 30, 31, 32, 33, 34, 35, 36, 37, 38, 39, 40, 41, 42, 43, 44, 45, 46, 47, 48, 49, 50, 51, 52, 53, 54, 55, 56, 57, 58, 59, 60, 61, 62, 63, 64, 65, 66] (by decide +kernel) (by decide +kernel)
set_option maxRecDepth 20000 in
theorem gX11_fill_X11_put : GoodIn wsX11_fill (wsV RX11 289 RX11 yX11_put wsX11_put) := goodIn_app (goodIn_of _ (by decide +kernel)) ggX11_fill_X11_put
set_option maxRecDepth 20000 in
theorem ggX11_fill_X11_gone : GoodIn wsX11_fill wsX11_gone := goodIn_r _ [22, 23, 24, 25, 26, 27, 28, 29, 30, 31, 32, 33, 34, 35, 36, 37, 38, 39, 40, 41, 42, 43, 44, 45, 46, 47, 48, 49, 50, 51, 52, 53, 54, 55, 56, 57, 58, 59, 60, 61, 62, 63, 64, 65, 66] (by decide +kernel) (by decide +kernel)
set_option maxRecDepth 20000 in
theorem gX11_fill_X11_gone : GoodIn wsX11_fill (wsV RX11 292 RX11 yX11_gone wsX11_gone) := goodIn_app (goodIn_of _ (by decide +kernel)) ggX11_fill_X11_gone
theorem dX11_fill_0 : decode cX11_fill 0 = .ok (.aload_n 0, 1) := by decide +kernel
theorem dX11_fill_1 : decode cX11_fill 1 = .ok (.iload 4, 2) := by decide +kernel
theorem dX11_fill_3 : decode cX11_fill 3 = .ok (.iconst 0, 1) := by decide +kernel
theorem dX11_fill_4 : decode cX11_fill 4 = .ok (.bipush 31, 2) := by decide +kernel
theorem dX11_fill_6 : decode cX11_fill 6 = .ok (.invokestatic 278, 3) := by decide +kernel
theorem dX11_fill_9 : decode cX11_fill 9 = .ok (.iconst 0, 1) := by decide +kernel
theorem dX11_fill_10 : decode cX11_fill 10 = .ok (.iconst 0, 1) := by decide +kernel
theorem dX11_fill_11 : decode cX11_fill 11 = .ok (.invokevirtual 282, 3) := by decide +kernel
theorem dX11_fill_14 : decode cX11_fill 14 = .ok (.ifCond .eq 4, 3) := by decide +kernel
theorem dX11_fill_17 : decode cX11_fill 17 = .ok (.return_, 1) := by decide +kernel
theorem dX11_fill_18 : decode cX11_fill 18 = .ok (.iconst 0, 1) := by decide +kernel
theorem dX11_fill_19 : decode cX11_fill 19 = .ok (.istore 5, 2) := by decide +kernel
theorem dX11_fill_21 : decode cX11_fill 21 = .ok (.iload 5, 2) := by decide +kernel
theorem dX11_fill_23 : decode cX11_fill 23 = .ok (.aload_n 0, 1) := by decide +kernel
theorem dX11_fill_24 : decode cX11_fill 24 = .ok (.getfield 20, 3) := by decide +kernel
theorem dX11_fill_27 : decode cX11_fill 27 = .ok (.if_icmp .ge 80, 3) := by decide +kernel
theorem dX11_fill_30 : decode cX11_fill 30 = .ok (.iconst 0, 1) := by decide +kernel
theorem dX11_fill_31 : decode cX11_fill 31 = .ok (.istore 6, 2) := by decide +kernel
theorem dX11_fill_33 : decode cX11_fill 33 = .ok (.iload 6, 2) := by decide +kernel
theorem dX11_fill_35 : decode cX11_fill 35 = .ok (.aload_n 0, 1) := by decide +kernel
theorem dX11_fill_36 : decode cX11_fill 36 = .ok (.getfield 16, 3) := by decide +kernel
theorem dX11_fill_39 : decode cX11_fill 39 = .ok (.if_icmp .ge 62, 3) := by decide +kernel
theorem dX11_fill_42 : decode cX11_fill 42 = .ok (.iload_n 1, 1) := by decide +kernel
theorem dX11_fill_43 : decode cX11_fill 43 = .ok (.iload 6, 2) := by decide +kernel
theorem dX11_fill_45 : decode cX11_fill 45 = .ok (.imul, 1) := by decide +kernel
theorem dX11_fill_46 : decode cX11_fill 46 = .ok (.iload_n 2, 1) := by decide +kernel
theorem dX11_fill_47 : decode cX11_fill 47 = .ok (.iload 5, 2) := by decide +kernel
theorem dX11_fill_49 : decode cX11_fill 49 = .ok (.imul, 1) := by decide +kernel
theorem dX11_fill_50 : decode cX11_fill 50 = .ok (.iadd, 1) := by decide +kernel
theorem dX11_fill_51 : decode cX11_fill 51 = .ok (.iload_n 3, 1) := by decide +kernel
theorem dX11_fill_52 : decode cX11_fill 52 = .ok (.iload 6, 2) := by decide +kernel
theorem dX11_fill_54 : decode cX11_fill 54 = .ok (.imul, 1) := by decide +kernel
theorem dX11_fill_55 : decode cX11_fill 55 = .ok (.iload 5, 2) := by decide +kernel
theorem dX11_fill_57 : decode cX11_fill 57 = .ok (.imul, 1) := by decide +kernel
theorem dX11_fill_58 : decode cX11_fill 58 = .ok (.iadd, 1) := by decide +kernel
theorem dX11_fill_59 : decode cX11_fill 59 = .ok (.iload 4, 2) := by decide +kernel
theorem dX11_fill_61 : decode cX11_fill 61 = .ok (.ishr, 1) := by decide +kernel
theorem dX11_fill_62 : decode cX11_fill 62 = .ok (.istore 7, 2) := by decide +kernel
theorem dX11_fill_64 : decode cX11_fill 64 = .ok (.aload_n 0, 1) := by decide +kernel
theorem dX11_fill_65 : decode cX11_fill 65 = .ok (.iload 5, 2) := by decide +kernel
