def wsX10_begin : List Cond := .code yX10_begin cX10_begin 5 none :: ((wsX10_begin_r1 ++ wsX10_begin_r2) ++ wsX100 ++ wsX50 ++ (vx_atS RX10 82 "java/lang/IllegalArgumentException" ["java/lang/RuntimeException", "java/lang/Exception"]).filter goodWord)
def wsX10_set : List Cond := .code yX10_set cX10_set 4 none :: ([.classLink RX10 78 "java/lang/IllegalArgumentException", .initialized "java/lang/IllegalArgumentException", .fieldLink RX10 12 "PlaneBlocks" "field" "LPlaneBlocks$Field;", .constant RX10 110 (-2147483647), .fieldLink RX10 113 "PlaneBlocks$Field" "coefficients" "[I", .methodLink RX10 104 yX5_holds, .instanceMethod yX5_holds, .selects RX5 yX5_holds yX5_holds, .initialized RX5, .code yX5_holds cX5_holds 3 (some .boolean), .fieldLink RX5 11 "PlaneBlocks$Field" "wide" "I", .fieldLink RX5 15 "PlaneBlocks$Field" "high" "I", .methodLink RX10 117 yX5_place, .instanceMethod yX5_place, .selects RX5 yX5_place yX5_place, .code yX5_place cX5_place 3 (some .int), .methodLink RX10 101 yX10_forgetAll, .instanceMethod yX10_forgetAll, .selects RX10 yX10_forgetAll yX10_forgetAll, .initialized RX10, .code yX10_forgetAll cX10_forgetAll 1 none, .fieldLink RX10 209 "PlaneBlocks" "isWritten" "Z", .fieldLink RX10 213 "PlaneBlocks" "isRead" "Z"] ++ wsX100 ++ wsX50 ++ (vx_atS RX10 82 "java/lang/IllegalArgumentException" ["java/lang/RuntimeException", "java/lang/Exception"]).filter goodWord)
def wsX10_fill : List Cond := .code yX10_fill cX10_fill 8 none :: ([.classLink RX10 78 "java/lang/IllegalArgumentException", .initialized "java/lang/IllegalArgumentException", .fieldLink RX10 12 "PlaneBlocks" "field" "LPlaneBlocks$Field;", .fieldLink RX10 123 "PlaneBlocks$Field" "high" "I", .fieldLink RX10 126 "PlaneBlocks$Field" "wide" "I", .fieldLink RX10 113 "PlaneBlocks$Field" "coefficients" "[I", .constant RX10 110 (-2147483647), .methodLink RX10 129 Lib.Math.max.name, .static Lib.Math.max.name, .initialized "java/lang/Math", .code Lib.Math.max.name Lib.Math.max.code 2 (some .int), .methodLink RX10 117 yX5_place, .instanceMethod yX5_place, .selects RX5 yX5_place yX5_place, .initialized RX5, .code yX5_place cX5_place 3 (some .int), .fieldLink RX5 11 "PlaneBlocks$Field" "wide" "I", .methodLink RX10 101 yX10_forgetAll, .instanceMethod yX10_forgetAll, .selects RX10 yX10_forgetAll yX10_forgetAll, .initialized RX10, .code yX10_forgetAll cX10_forgetAll 1 none, .fieldLink RX10 209 "PlaneBlocks" "isWritten" "Z", .fieldLink RX10 213 "PlaneBlocks" "isRead" "Z"] ++ wsX100 ++ wsX50 ++ (vx_atS RX10 82 "java/lang/IllegalArgumentException" ["java/lang/RuntimeException", "java/lang/Exception"]).filter goodWord)
def wsX10_needWritten : List Cond := .code yX10_needWritten cX10_needWritten 1 none :: ([.classLink RX10 289 "java/lang/IllegalStateException", .initialized "java/lang/IllegalStateException", .fieldLink RX10 209 "PlaneBlocks" "isWritten" "Z"] ++ wsX100 ++ (vx_atS RX10 293 "java/lang/IllegalStateException" ["java/lang/RuntimeException", "java/lang/Exception"]).filter goodWord)
def wsX10_written : List Cond := .code yX10_written cX10_written 2 (some .int) :: ([.classLink RX10 78 "java/lang/IllegalArgumentException", .initialized "java/lang/IllegalArgumentException", .fieldLink RX10 19 "PlaneBlocks" "plan" "LPlaneBlocks$Plan;", .fieldLink RX10 145 "PlaneBlocks$Plan" "planes" "I", .fieldLink RX10 147 "PlaneBlocks$Plan" "passes" "I", .fieldLink RX10 26 "PlaneBlocks" "row" "LPlaneBlocks$ByteRow;", .fieldLink RX10 200 "PlaneBlocks$ByteRow" "count" "I", .fieldLink RX10 219 "PlaneBlocks$Plan" "segments" "I", .methodLink RX10 216 yX10_needWritten, .instanceMethod yX10_needWritten, .selects RX10 yX10_needWritten yX10_needWritten, .initialized RX10, .code yX10_needWritten cX10_needWritten 1 none, .classLink RX10 289 "java/lang/IllegalStateException", .initialized "java/lang/IllegalStateException", .fieldLink RX10 209 "PlaneBlocks" "isWritten" "Z"] ++ wsX100 ++ wsX60 ++ wsX10 ++ (vx_atS RX10 82 "java/lang/IllegalArgumentException" ["java/lang/RuntimeException", "java/lang/Exception"]).filter goodWord ++ (vx_atS RX10 293 "java/lang/IllegalStateException" ["java/lang/RuntimeException", "java/lang/Exception"]).filter goodWord)
def wsX10_needPass : List Cond := .code yX10_needPass cX10_needPass 2 none :: ([.classLink RX10 294 "java/lang/IndexOutOfBoundsException", .initialized "java/lang/IndexOutOfBoundsException", .fieldLink RX10 19 "PlaneBlocks" "plan" "LPlaneBlocks$Plan;", .fieldLink RX10 147 "PlaneBlocks$Plan" "passes" "I", .methodLink RX10 216 yX10_needWritten, .instanceMethod yX10_needWritten, .selects RX10 yX10_needWritten yX10_needWritten, .initialized RX10, .code yX10_needWritten cX10_needWritten 1 none, .classLink RX10 289 "java/lang/IllegalStateException", .initialized "java/lang/IllegalStateException", .fieldLink RX10 209 "PlaneBlocks" "isWritten" "Z"] ++ wsX100 ++ wsX60 ++ (vx_atS RX10 298 "java/lang/IndexOutOfBoundsException" ["java/lang/RuntimeException", "java/lang/Exception"]).filter goodWord ++ (vx_atS RX10 293 "java/lang/IllegalStateException" ["java/lang/RuntimeException", "java/lang/Exception"]).filter goodWord)
def wsX10_pass : List Cond := .code yX10_pass cX10_pass 3 (some .int) :: ((wsX10_pass_r1 ++ wsX10_pass_r2) ++ wsX100 ++ wsX60 ++ (vx_atS RX10 82 "java/lang/IllegalArgumentException" ["java/lang/RuntimeException", "java/lang/Exception"]).filter goodWord ++ (vx_atS RX10 298 "java/lang/IndexOutOfBoundsException" ["java/lang/RuntimeException", "java/lang/Exception"]).filter goodWord ++ (vx_atS RX10 293 "java/lang/IllegalStateException" ["java/lang/RuntimeException", "java/lang/Exception"]).filter goodWord)
def wsX10_gain : List Cond := .code yX10_gain cX10_gain 2 (some .long) :: ([.fieldLink RX10 19 "PlaneBlocks" "plan" "LPlaneBlocks$Plan;", .fieldLink RX10 179 "PlaneBlocks$Plan" "gains" "[J", .methodLink RX10 224 yX10_needPass, .instanceMethod yX10_needPass, .selects RX10 yX10_needPass yX10_needPass, .initialized RX10, .code yX10_needPass cX10_needPass 2 none, .classLink RX10 294 "java/lang/IndexOutOfBoundsException", .initialized "java/lang/IndexOutOfBoundsException", .fieldLink RX10 147 "PlaneBlocks$Plan" "passes" "I", .methodLink RX10 216 yX10_needWritten, .instanceMethod yX10_needWritten, .selects RX10 yX10_needWritten yX10_needWritten, .code yX10_needWritten cX10_needWritten 1 none, .classLink RX10 289 "java/lang/IllegalStateException", .initialized "java/lang/IllegalStateException", .fieldLink RX10 209 "PlaneBlocks" "isWritten" "Z"] ++ wsX100 ++ wsX60 ++ (vx_atS RX10 298 "java/lang/IndexOutOfBoundsException" ["java/lang/RuntimeException", "java/lang/Exception"]).filter goodWord ++ (vx_atS RX10 293 "java/lang/IllegalStateException" ["java/lang/RuntimeException", "java/lang/Exception"]).filter goodWord)
def wsX10_needByte : List Cond := .code yX10_needByte cX10_needByte 2 none :: ([.classLink RX10 294 "java/lang/IndexOutOfBoundsException", .initialized "java/lang/IndexOutOfBoundsException", .fieldLink RX10 26 "PlaneBlocks" "row" "LPlaneBlocks$ByteRow;", .fieldLink RX10 200 "PlaneBlocks$ByteRow" "count" "I", .methodLink RX10 216 yX10_needWritten, .instanceMethod yX10_needWritten, .selects RX10 yX10_needWritten yX10_needWritten, .initialized RX10, .code yX10_needWritten cX10_needWritten 1 none, .classLink RX10 289 "java/lang/IllegalStateException", .initialized "java/lang/IllegalStateException", .fieldLink RX10 209 "PlaneBlocks" "isWritten" "Z"] ++ wsX100 ++ wsX10 ++ (vx_atS RX10 298 "java/lang/IndexOutOfBoundsException" ["java/lang/RuntimeException", "java/lang/Exception"]).filter goodWord ++ (vx_atS RX10 293 "java/lang/IllegalStateException" ["java/lang/RuntimeException", "java/lang/Exception"]).filter goodWord)
def wsX10_at : List Cond := .code yX10_at cX10_at 2 (some .int) :: ([.fieldLink RX10 26 "PlaneBlocks" "row" "LPlaneBlocks$ByteRow;", .fieldLink RX10 233 "PlaneBlocks$ByteRow" "bytes" "[I", .methodLink RX10 230 yX10_needByte, .instanceMethod yX10_needByte, .selects RX10 yX10_needByte yX10_needByte, .initialized RX10, .code yX10_needByte cX10_needByte 2 none, .classLink RX10 294 "java/lang/IndexOutOfBoundsException", .initialized "java/lang/IndexOutOfBoundsException", .fieldLink RX10 200 "PlaneBlocks$ByteRow" "count" "I", .methodLink RX10 216 yX10_needWritten, .instanceMethod yX10_needWritten, .selects RX10 yX10_needWritten yX10_needWritten, .code yX10_needWritten cX10_needWritten 1 none, .classLink RX10 289 "java/lang/IllegalStateException", .initialized "java/lang/IllegalStateException", .fieldLink RX10 209 "PlaneBlocks" "isWritten" "Z"] ++ wsX100 ++ wsX10 ++ (vx_atS RX10 298 "java/lang/IndexOutOfBoundsException" ["java/lang/RuntimeException", "java/lang/Exception"]).filter goodWord ++ (vx_atS RX10 293 "java/lang/IllegalStateException" ["java/lang/RuntimeException", "java/lang/Exception"]).filter goodWord)
def wsX10_change : List Cond := .code yX10_change cX10_change 4 (some .int) :: ([.fieldLink RX10 26 "PlaneBlocks" "row" "LPlaneBlocks$ByteRow;", .fieldLink RX10 233 "PlaneBlocks$ByteRow" "bytes" "[I", .fieldLink RX10 213 "PlaneBlocks" "isRead" "Z", .methodLink RX10 230 yX10_needByte, .instanceMethod yX10_needByte, .selects RX10 yX10_needByte yX10_needByte, .initialized RX10, .code yX10_needByte cX10_needByte 2 none, .classLink RX10 294 "java/lang/IndexOutOfBoundsException", .initialized "java/lang/IndexOutOfBoundsException", .fieldLink RX10 200 "PlaneBlocks$ByteRow" "count" "I", .methodLink RX10 216 yX10_needWritten, .instanceMethod yX10_needWritten, .selects RX10 yX10_needWritten yX10_needWritten, .code yX10_needWritten cX10_needWritten 1 none, .classLink RX10 289 "java/lang/IllegalStateException", .initialized "java/lang/IllegalStateException", .fieldLink RX10 209 "PlaneBlocks" "isWritten" "Z"] ++ wsX100 ++ wsX10 ++ (vx_atS RX10 298 "java/lang/IndexOutOfBoundsException" ["java/lang/RuntimeException", "java/lang/Exception"]).filter goodWord ++ (vx_atS RX10 293 "java/lang/IllegalStateException" ["java/lang/RuntimeException", "java/lang/Exception"]).filter goodWord)
def wsX10_read : List Cond := .code yX10_read cX10_read 4 (some .int) :: ((wsX10_read_r1 ++ (wsX10_read_r2 ++ (wsX10_read_r3 ++ (wsX10_read_r4 ++ (wsX10_read_r5 ++ (wsX10_read_r6 ++ (wsX10_read_r7 ++ (wsX10_read_r8 ++ (wsX10_read_r9 ++ (wsX10_read_r10 ++ (wsX10_read_r11 ++ (wsX10_read_r12 ++ (wsX10_read_r13 ++ (wsX10_read_r14 ++ wsX10_read_r15)))))))))))))) ++ wsX100 ++ wsX60 ++ wsX90 ++ wsX50 ++ wsX40 ++ wsX70 ++ wsX20 ++ wsX10 ++ wsX30 ++ wsX80 ++ (vx_atS RX10 82 "java/lang/IllegalArgumentException" ["java/lang/RuntimeException", "java/lang/Exception"]).filter goodWord ++ (vx_atS RX10 293 "java/lang/IllegalStateException" ["java/lang/RuntimeException", "java/lang/Exception"]).filter goodWord)
def wsX10_needRead : List Cond := .code yX10_needRead cX10_needRead 1 none :: ([.classLink RX10 289 "java/lang/IllegalStateException", .initialized "java/lang/IllegalStateException", .fieldLink RX10 213 "PlaneBlocks" "isRead" "Z"] ++ wsX100 ++ (vx_atS RX10 293 "java/lang/IllegalStateException" ["java/lang/RuntimeException", "java/lang/Exception"]).filter goodWord)
def wsX10_needReadAt : List Cond := .code yX10_needReadAt cX10_needReadAt 3 none :: ([.classLink RX10 78 "java/lang/IllegalArgumentException", .initialized "java/lang/IllegalArgumentException", .fieldLink RX10 12 "PlaneBlocks" "field" "LPlaneBlocks$Field;", .methodLink RX10 104 yX5_holds, .instanceMethod yX5_holds, .selects RX5 yX5_holds yX5_holds, .initialized RX5, .code yX5_holds cX5_holds 3 (some .boolean), .fieldLink RX5 11 "PlaneBlocks$Field" "wide" "I", .fieldLink RX5 15 "PlaneBlocks$Field" "high" "I", .methodLink RX10 260 yX10_needRead, .instanceMethod yX10_needRead, .selects RX10 yX10_needRead yX10_needRead, .initialized RX10, .code yX10_needRead cX10_needRead 1 none, .classLink RX10 289 "java/lang/IllegalStateException", .initialized "java/lang/IllegalStateException", .fieldLink RX10 213 "PlaneBlocks" "isRead" "Z"] ++ wsX100 ++ wsX50 ++ (vx_atS RX10 82 "java/lang/IllegalArgumentException" ["java/lang/RuntimeException", "java/lang/Exception"]).filter goodWord ++ (vx_atS RX10 293 "java/lang/IllegalStateException" ["java/lang/RuntimeException", "java/lang/Exception"]).filter goodWord)
def wsX10_value : List Cond := .code yX10_value cX10_value 3 (some .int) :: ((wsX10_value_r1 ++ wsX10_value_r2) ++ wsX100 ++ wsX50 ++ (vx_atS RX10 82 "java/lang/IllegalArgumentException" ["java/lang/RuntimeException", "java/lang/Exception"]).filter goodWord ++ (vx_atS RX10 293 "java/lang/IllegalStateException" ["java/lang/RuntimeException", "java/lang/Exception"]).filter goodWord)
def wsX10_known : List Cond := .code yX10_known cX10_known 3 (some .int) :: ((wsX10_known_r1 ++ wsX10_known_r2) ++ wsX100 ++ wsX50 ++ (vx_atS RX10 82 "java/lang/IllegalArgumentException" ["java/lang/RuntimeException", "java/lang/Exception"]).filter goodWord ++ (vx_atS RX10 293 "java/lang/IllegalStateException" ["java/lang/RuntimeException", "java/lang/Exception"]).filter goodWord)
def wsX10_sum : List Cond := .code yX10_sum cX10_sum 3 (some .int) :: ([.fieldLink RX10 12 "PlaneBlocks" "field" "LPlaneBlocks$Field;", .fieldLink RX10 126 "PlaneBlocks$Field" "wide" "I", .fieldLink RX10 123 "PlaneBlocks$Field" "high" "I", .methodLink RX10 260 yX10_needRead, .instanceMethod yX10_needRead, .selects RX10 yX10_needRead yX10_needRead, .initialized RX10, .code yX10_needRead cX10_needRead 1 none, .classLink RX10 289 "java/lang/IllegalStateException", .initialized "java/lang/IllegalStateException", .fieldLink RX10 213 "PlaneBlocks" "isRead" "Z", .methodLink RX10 254 yX5_valueOf, .instanceMethod yX5_valueOf, .selects RX5 yX5_valueOf yX5_valueOf, .initialized RX5, .code yX5_valueOf cX5_valueOf 4 (some .int), .fieldLink RX5 25 "PlaneBlocks$Field" "marks" "[I", .fieldLink RX5 22 "PlaneBlocks$Field" "magnitudes" "[I", .constant RX5 63 (2031616)] ++ wsX100 ++ wsX50 ++ (vx_atS RX10 293 "java/lang/IllegalStateException" ["java/lang/RuntimeException", "java/lang/Exception"]).filter goodWord)
set_option maxRecDepth 20000 in
theorem ggX10_begin_X10_has : GoodIn wsX10_begin wsX10_has := goodIn_r _ [9, 3, 40, 41, 42, 43, 44, 45, 46, 47, 48, 49, 50, 51] (by decide +kernel) (by decide +kernel)
set_option maxRecDepth 20000 in
theorem gX10_begin_X10_has : GoodIn wsX10_begin (wsV RX10 93 RX10 yX10_has wsX10_has) := goodIn_app (goodIn_of _ (by decide +kernel)) ggX10_begin_X10_has
set_option maxRecDepth 20000 in
theorem ggX10_begin_X5_resize : GoodIn wsX10_begin wsX5_resize := goodIn_r _ [14, 15, 16, 17, 18, 19, 20, 21, 22, 23, 24, 25, 26, 27, 28, 29, 30, 31, 32, 33, 52, 53, 54, 55, 56, 57, 58] (by decide +kernel) (by decide +kernel)
set_option maxRecDepth 20000 in
theorem gX10_begin_X5_resize : GoodIn wsX10_begin (wsV RX10 97 RX5 yX5_resize wsX5_resize) := goodIn_app (goodIn_of _ (by decide +kernel)) ggX10_begin_X5_resize
set_option maxRecDepth 20000 in
theorem ggX10_begin_X10_forgetAll : GoodIn wsX10_begin wsX10_forgetAll := goodIn_r _ [37, 38, 39, 40, 41, 42, 43, 44, 45, 46, 47, 48, 49, 50, 51] (by decide +kernel) (by decide +kernel)
set_option maxRecDepth 20000 in
theorem gX10_begin_X10_forgetAll : GoodIn wsX10_begin (wsV RX10 101 RX10 yX10_forgetAll wsX10_forgetAll) := goodIn_app (goodIn_of _ (by decide +kernel)) ggX10_begin_X10_forgetAll
set_option maxRecDepth 20000 in
theorem ggX10_set_X5_holds : GoodIn wsX10_set wsX5_holds := goodIn_r _ [10, 11, 12, 36, 37, 38, 39, 40, 41, 42] (by decide +kernel) (by decide +kernel)
set_option maxRecDepth 20000 in
theorem gX10_set_X5_holds : GoodIn wsX10_set (wsV RX10 104 RX5 yX5_holds wsX5_holds) := goodIn_app (goodIn_of _ (by decide +kernel)) ggX10_set_X5_holds
set_option maxRecDepth 20000 in
theorem ggX10_set_X5_place : GoodIn wsX10_set wsX5_place := goodIn_r _ [16, 11, 36, 37, 38, 39, 40, 41, 42] (by decide +kernel) (by decide +kernel)
set_option maxRecDepth 20000 in
theorem gX10_set_X5_place : GoodIn wsX10_set (wsV RX10 117 RX5 yX5_place wsX5_place) := goodIn_app (goodIn_of _ (by decide +kernel)) ggX10_set_X5_place
set_option maxRecDepth 20000 in
theorem ggX10_set_X10_forgetAll : GoodIn wsX10_set wsX10_forgetAll := goodIn_r _ [21, 22, 23, 24, 25, 26, 27, 28, 29, 30, 31, 32, 33, 34, 35] (by decide +kernel) (by decide +kernel)
set_option maxRecDepth 20000 in
theorem gX10_set_X10_forgetAll : GoodIn wsX10_set (wsV RX10 101 RX10 yX10_forgetAll wsX10_forgetAll) := goodIn_app (goodIn_of _ (by decide +kernel)) ggX10_set_X10_forgetAll
set_option maxRecDepth 20000 in
theorem ggX10_fill_X5_place : GoodIn wsX10_fill wsX5_place := goodIn_r _ [16, 17, 37, 38, 39, 40, 41, 42, 43] (by decide +kernel) (by decide +kernel)
set_option maxRecDepth 20000 in
theorem gX10_fill_X5_place : GoodIn wsX10_fill (wsV RX10 117 RX5 yX5_place wsX5_place) := goodIn_app (goodIn_of _ (by decide +kernel)) ggX10_fill_X5_place
set_option maxRecDepth 20000 in
theorem ggX10_fill_X10_forgetAll : GoodIn wsX10_fill wsX10_forgetAll := goodIn_r _ [22, 23, 24, 25, 26, 27, 28, 29, 30, 31, 32, 33, 34, 35, 36] (by decide +kernel) (by decide +kernel)
set_option maxRecDepth 20000 in
theorem gX10_fill_X10_forgetAll : GoodIn wsX10_fill (wsV RX10 101 RX10 yX10_forgetAll wsX10_forgetAll) := goodIn_app (goodIn_of _ (by decide +kernel)) ggX10_fill_X10_forgetAll
set_option maxRecDepth 20000 in
theorem ggX10_written_X10_needWritten : GoodIn wsX10_written wsX10_needWritten := goodIn_ca (goodIn_r _ [13, 14, 15, 16, 17, 18, 19, 20, 21, 22, 23, 24, 25, 26, 27, 28] (by decide +kernel) (by decide +kernel)) (goodIn_sub (fun _ h => List.mem_cons_of_mem _ (List.mem_append_right _ h)) (by decide +kernel))
set_option maxRecDepth 20000 in
theorem gX10_written_X10_needWritten : GoodIn wsX10_written (wsV RX10 216 RX10 yX10_needWritten wsX10_needWritten) := goodIn_app (goodIn_of _ (by decide +kernel)) ggX10_written_X10_needWritten
set_option maxRecDepth 20000 in
theorem ggX10_pass_X10_needPass : GoodIn wsX10_pass wsX10_needPass := goodIn_ca (goodIn_ca (goodIn_r _ [9, 10, 11, 3, 12, 13, 14, 15, 8, 16, 17, 18, 19, 41, 42, 43, 44, 45, 46, 47, 48, 49, 50, 51, 52, 53, 54, 55, 56, 57, 58, 59] (by decide +kernel) (by decide +kernel)) (goodIn_sub (fun _ h => List.mem_cons_of_mem _ (List.mem_append_left _ (List.mem_append_right _ h))) (by decide +kernel))) (goodIn_sub (fun _ h => List.mem_cons_of_mem _ (List.mem_append_right _ h)) (by decide +kernel))
set_option maxRecDepth 20000 in
theorem gX10_pass_X10_needPass : GoodIn wsX10_pass (wsV RX10 224 RX10 yX10_needPass wsX10_needPass) := goodIn_app (goodIn_of _ (by decide +kernel)) ggX10_pass_X10_needPass
set_option maxRecDepth 20000 in
theorem ggX10_pass_X6_kindOf : GoodIn wsX10_pass wsX6_kindOf := goodIn_r _ [24] (by decide +kernel) (by decide +kernel)
set_option maxRecDepth 20000 in
theorem gX10_pass_X6_kindOf : GoodIn wsX10_pass (wsV RX10 172 RX6 yX6_kindOf wsX6_kindOf) := goodIn_app (goodIn_of _ (by decide +kernel)) ggX10_pass_X6_kindOf
set_option maxRecDepth 20000 in
theorem ggX10_pass_X6_planeOf : GoodIn wsX10_pass wsX6_planeOf := goodIn_r _ [28, 29, 53, 54, 55, 56, 57, 58, 59] (by decide +kernel) (by decide +kernel)
set_option maxRecDepth 20000 in
theorem gX10_pass_X6_planeOf : GoodIn wsX10_pass (wsV RX10 164 RX6 yX6_planeOf wsX6_planeOf) := goodIn_app (goodIn_of _ (by decide +kernel)) ggX10_pass_X6_planeOf
set_option maxRecDepth 20000 in
theorem ggX10_pass_X6_isRaw : GoodIn wsX10_pass wsX6_isRaw := goodIn_r _ [33, 34, 35, 21, 22, 23, 24, 53, 54, 55, 56, 57, 58, 59] (by decide +kernel) (by decide +kernel)
set_option maxRecDepth 20000 in
theorem gX10_pass_X6_isRaw : GoodIn wsX10_pass (wsV RX10 154 RX6 yX6_isRaw wsX6_isRaw) := goodIn_app (goodIn_of _ (by decide +kernel)) ggX10_pass_X6_isRaw
set_option maxRecDepth 20000 in
theorem ggX10_pass_X6_endsSegment : GoodIn wsX10_pass wsX6_endsSegment := goodIn_r _ [39, 40, 34, 35, 21, 22, 23, 24, 53, 54, 55, 56, 57, 58, 59] (by decide +kernel) (by decide +kernel)
set_option maxRecDepth 20000 in
theorem gX10_pass_X6_endsSegment : GoodIn wsX10_pass (wsV RX10 194 RX6 yX6_endsSegment wsX6_endsSegment) := goodIn_app (goodIn_of _ (by decide +kernel)) ggX10_pass_X6_endsSegment
set_option maxRecDepth 20000 in
theorem ggX10_gain_X10_needPass : GoodIn wsX10_gain wsX10_needPass := goodIn_ca (goodIn_ca (goodIn_r _ [7, 8, 9, 1, 10, 11, 12, 13, 6, 14, 15, 16, 17, 18, 19, 20, 21, 22, 23, 24, 25, 26, 27, 28, 29, 30, 31, 32, 33, 34, 35, 36] (by decide +kernel) (by decide +kernel)) (goodIn_sub (fun _ h => List.mem_cons_of_mem _ (List.mem_append_left _ (List.mem_append_right _ h))) (by decide +kernel))) (goodIn_sub (fun _ h => List.mem_cons_of_mem _ (List.mem_append_right _ h)) (by decide +kernel))
set_option maxRecDepth 20000 in
theorem gX10_gain_X10_needPass : GoodIn wsX10_gain (wsV RX10 224 RX10 yX10_needPass wsX10_needPass) := goodIn_app (goodIn_of _ (by decide +kernel)) ggX10_gain_X10_needPass
set_option maxRecDepth 20000 in
theorem ggX10_at_X10_needByte : GoodIn wsX10_at wsX10_needByte := goodIn_ca (goodIn_ca (goodIn_r _ [7, 8, 9, 1, 10, 11, 12, 13, 6, 14, 15, 16, 17, 18, 19, 20, 21, 22, 23, 24, 25, 26, 27, 28, 29, 30, 31, 32] (by decide +kernel) (by decide +kernel)) (goodIn_sub (fun _ h => List.mem_cons_of_mem _ (List.mem_append_left _ (List.mem_append_right _ h))) (by decide +kernel))) (goodIn_sub (fun _ h => List.mem_cons_of_mem _ (List.mem_append_right _ h)) (by decide +kernel))
set_option maxRecDepth 20000 in
theorem gX10_at_X10_needByte : GoodIn wsX10_at (wsV RX10 230 RX10 yX10_needByte wsX10_needByte) := goodIn_app (goodIn_of _ (by decide +kernel)) ggX10_at_X10_needByte
set_option maxRecDepth 20000 in
theorem ggX10_change_X10_needByte : GoodIn wsX10_change wsX10_needByte := goodIn_ca (goodIn_ca (goodIn_r _ [8, 9, 10, 1, 11, 12, 13, 14, 7, 15, 16, 17, 18, 19, 20, 21, 22, 23, 24, 25, 26, 27, 28, 29, 30, 31, 32, 33] (by decide +kernel) (by decide +kernel)) (goodIn_sub (fun _ h => List.mem_cons_of_mem _ (List.mem_append_left _ (List.mem_append_right _ h))) (by decide +kernel))) (goodIn_sub (fun _ h => List.mem_cons_of_mem _ (List.mem_append_right _ h)) (by decide +kernel))
set_option maxRecDepth 20000 in
theorem gX10_change_X10_needByte : GoodIn wsX10_change (wsV RX10 230 RX10 yX10_needByte wsX10_needByte) := goodIn_app (goodIn_of _ (by decide +kernel)) ggX10_change_X10_needByte
set_option maxRecDepth 20000 in
theorem ggX10_read_X10_needWritten : GoodIn wsX10_read wsX10_needWritten := goodIn_ca (goodIn_r _ [14, 15, 16, 17, 342, 343, 344, 345, 346, 347, 348, 349, 350, 351, 352, 353] (by decide +kernel) (by decide +kernel)) (goodIn_sub (fun _ h => List.mem_cons_of_mem _ (List.mem_append_right _ h)) (by decide +kernel))
set_option maxRecDepth 20000 in
theorem gX10_read_X10_needWritten : GoodIn wsX10_read (wsV RX10 216 RX10 yX10_needWritten wsX10_needWritten) := goodIn_app (goodIn_of _ (by decide +kernel)) ggX10_read_X10_needWritten
set_option maxRecDepth 20000 in
theorem ggX10_read_X10_startOver : GoodIn wsX10_read wsX10_startOver := goodIn_r _ [21, 22, 23, 5, 9, 24, 25, 26, 27, 28, 29, 30, 31, 32, 33, 34, 35, 36, 37, 38, 39, 40, 41, 42, 342, 343, 344, 345, 346, 347, 348, 349, 350, 351, 352, 353, 361, 362, 363, 364, 365, 366, 367, 368, 369, 370, 371, 372, 373, 374, 375] (by decide +kernel) (by decide +kernel)
set_option maxRecDepth 20000 in
theorem gX10_read_X10_startOver : GoodIn wsX10_read (wsV RX10 134 RX10 yX10_startOver wsX10_startOver) := goodIn_app (goodIn_of _ (by decide +kernel)) ggX10_read_X10_startOver
set_option maxRecDepth 20000 in
theorem ggX10_read_X6_isRaw : GoodIn wsX10_read wsX6_isRaw := goodIn_r _ [47, 48, 49, 50, 51, 46, 52, 354, 355, 356, 357, 358, 359, 360] (by decide +kernel) (by decide +kernel)
set_option maxRecDepth 20000 in
theorem gX10_read_X6_isRaw : GoodIn wsX10_read (wsV RX10 154 RX6 yX6_isRaw wsX6_isRaw) := goodIn_app (goodIn_of _ (by decide +kernel)) ggX10_read_X6_isRaw
set_option maxRecDepth 20000 in
theorem ggX10_read_X6_startsSegment : GoodIn wsX10_read wsX6_startsSegment := goodIn_r _ [56, 57, 58, 59, 46, 60, 61, 48, 49, 50, 51, 52, 354, 355, 356, 357, 358, 359, 360] (by decide +kernel) (by decide +kernel)
set_option maxRecDepth 20000 in
theorem gX10_read_X6_startsSegment : GoodIn wsX10_read (wsV RX10 157 RX6 yX6_startsSegment wsX6_startsSegment) := goodIn_app (goodIn_of _ (by decide +kernel)) ggX10_read_X6_startsSegment
set_option maxRecDepth 20000 in
theorem ggX10_read_X6_startOf : GoodIn wsX10_read wsX6_startOf := goodIn_r _ [65, 66, 354, 355, 356, 357, 358, 359, 360] (by decide +kernel) (by decide +kernel)
set_option maxRecDepth 20000 in
theorem gX10_read_X6_startOf : GoodIn wsX10_read (wsV RX10 238 RX6 yX6_startOf wsX6_startOf) := goodIn_app (goodIn_of _ (by decide +kernel)) ggX10_read_X6_startOf
set_option maxRecDepth 20000 in
theorem ggX10_read_X6_endOf : GoodIn wsX10_read wsX6_endOf := goodIn_r _ [70, 66, 57, 58, 59, 46, 60, 61, 48, 49, 50, 51, 52, 354, 355, 356, 357, 358, 359, 360] (by decide +kernel) (by decide +kernel)
set_option maxRecDepth 20000 in
theorem gX10_read_X6_endOf : GoodIn wsX10_read (wsV RX10 241 RX6 yX6_endOf wsX6_endOf) := goodIn_app (goodIn_of _ (by decide +kernel)) ggX10_read_X6_endOf
set_option maxRecDepth 20000 in
theorem ggX10_read_X10_openForReading : GoodIn wsX10_read wsX10_openForReading := goodIn_r _ [74, 6, 7, 75, 76, 77, 78, 79, 80, 81, 82, 83, 84, 85, 86, 87, 88, 89, 90, 91, 92, 93, 94, 95, 96, 97, 98, 99, 100, 101, 102, 103, 104, 105, 106, 107, 342, 343, 344, 345, 346, 347, 348, 349, 350, 351, 352, 353, 376, 377, 378, 379, 380, 381, 382, 383, 384, 385, 386, 387, 388, 389, 390] (by decide +kernel) (by decide +kernel)
set_option maxRecDepth 20000 in
theorem gX10_read_X10_openForReading : GoodIn wsX10_read (wsV RX10 244 RX10 yX10_openForReading wsX10_openForReading) := goodIn_app (goodIn_of _ (by decide +kernel)) ggX10_read_X10_openForReading
set_option maxRecDepth 20000 in
theorem ggX10_read_X6_planeOf : GoodIn wsX10_read wsX6_planeOf := goodIn_r _ [111, 112, 354, 355, 356, 357, 358, 359, 360] (by decide +kernel) (by decide +kernel)
set_option maxRecDepth 20000 in
theorem gX10_read_X6_planeOf : GoodIn wsX10_read (wsV RX10 164 RX6 yX6_planeOf wsX6_planeOf) := goodIn_app (goodIn_of _ (by decide +kernel)) ggX10_read_X6_planeOf
set_option maxRecDepth 20000 in
theorem ggX10_read_X9_aim : GoodIn wsX10_read wsX9_aim := goodIn_r _ [117, 118, 119, 120, 361, 362, 363, 364, 365, 366] (by decide +kernel) (by decide +kernel)
set_option maxRecDepth 20000 in
theorem gX10_read_X9_aim : GoodIn wsX10_read (wsV RX10 168 RX9 yX9_aim wsX9_aim) := goodIn_app (goodIn_of _ (by decide +kernel)) ggX10_read_X9_aim
set_option maxRecDepth 20000 in
theorem ggX10_read_X6_kindOf : GoodIn wsX10_read wsX6_kindOf := goodIn_r _ [52] (by decide +kernel) (by decide +kernel)
set_option maxRecDepth 20000 in
theorem gX10_read_X6_kindOf : GoodIn wsX10_read (wsV RX10 172 RX6 yX6_kindOf wsX6_kindOf) := goodIn_app (goodIn_of _ (by decide +kernel)) ggX10_read_X6_kindOf
set_option maxRecDepth 20000 in
theorem ggX10_read_X10_has : GoodIn wsX10_read wsX10_has := goodIn_r _ [125, 126, 342, 343, 344, 345, 346, 347, 348, 349, 350, 351, 352, 353] (by decide +kernel) (by decide +kernel)
set_option maxRecDepth 20000 in
theorem gX10_read_X10_has : GoodIn wsX10_read (wsV RX10 93 RX10 yX10_has wsX10_has) := goodIn_app (goodIn_of _ (by decide +kernel)) ggX10_read_X10_has
set_option maxRecDepth 20000 in
theorem ggX10_read_X9_go : GoodIn wsX10_read wsX9_go := goodIn_r _ [130, 131, 132, 133, 134, 135, 136, 137, 138, 139, 140, 141, 27, 142, 143, 144, 30, 145, 146, 147, 116, 148, 149, 150, 151, 152, 153, 154, 155, 156, 157, 118, 120, 158, 159, 160, 161, 162, 163, 164, 165, 166, 167, 168, 169, 170, 171, 172, 173, 174, 175, 176, 177, 178, 179, 180, 181, 87, 182, 183, 94, 92, 93, 95, 184, 185, 186, 38, 187, 188, 40, 189, 190, 191, 192, 41, 193, 194, 195, 196, 197, 198, 199, 200, 201, 202, 103, 104, 105, 106, 91, 89, 90, 107, 96, 97, 98, 99, 100, 101, 102, 203, 204, 205, 206, 207, 208, 209, 210, 211, 212, 213, 214, 215, 216, 217, 218, 219, 220, 221, 222, 223, 224, 225, 226, 227, 228, 229, 230, 231, 232, 233, 234, 235, 236, 237, 238, 239, 240, 33, 241, 242, 243, 244, 245, 246, 247, 248, 249, 250, 251, 252, 253, 254, 255, 78, 256, 83, 82, 257, 80, 81, 258, 259, 260, 261, 262, 263, 264, 265, 266, 267, 268, 269, 270, 271, 119, 272, 273, 274, 275, 276, 277, 278, 279, 280, 281, 282, 283, 284, 285, 286, 287, 288, 289, 290, 291, 292, 29, 293, 294, 295, 296, 297, 298, 299, 300, 301, 302, 303, 304, 305, 306, 307, 308, 309, 310, 311, 312, 313, 314, 315, 316, 317, 318, 319, 320, 321, 322, 323, 324, 325, 326, 327, 328, 329, 330, 331, 332, 333, 334, 335, 336, 337, 361, 362, 363, 364, 365, 366, 367, 368, 369, 370, 371, 372, 373, 381, 382, 383, 384, 385, 386, 387, 374, 375, 388, 389, 390, 391, 392, 393, 394, 395, 376, 377, 378, 379, 380, 396, 397] (by decide +kernel) (by decide +kernel)
set_option maxRecDepth 20000 in
theorem gX10_read_X9_go : GoodIn wsX10_read (wsV RX10 175 RX9 yX9_go wsX9_go) := goodIn_app (goodIn_of _ (by decide +kernel)) ggX10_read_X9_go
set_option maxRecDepth 20000 in
theorem ggX10_read_X10_resetIfAsked : GoodIn wsX10_read wsX10_resetIfAsked := goodIn_r _ [341, 23, 122, 123, 124, 13, 125, 126, 35, 36, 37, 38, 39, 40, 41, 42, 32, 33, 34, 342, 343, 344, 345, 346, 347, 348, 349, 350, 351, 352, 353, 374, 375] (by decide +kernel) (by decide +kernel)
set_option maxRecDepth 20000 in
theorem gX10_read_X10_resetIfAsked : GoodIn wsX10_read (wsV RX10 206 RX10 yX10_resetIfAsked wsX10_resetIfAsked) := goodIn_app (goodIn_of _ (by decide +kernel)) ggX10_read_X10_resetIfAsked
set_option maxRecDepth 20000 in
theorem ggX10_value_X10_needReadAt : GoodIn wsX10_value wsX10_needReadAt := goodIn_ca (goodIn_ca (goodIn_r _ [6, 7, 8, 1, 9, 10, 11, 12, 13, 14, 15, 16, 17, 18, 5, 19, 20, 21, 22, 34, 35, 36, 37, 38, 39, 40, 41, 42, 43, 44, 45, 46, 47, 48, 49, 50, 51, 52] (by decide +kernel) (by decide +kernel)) (goodIn_sub (fun _ h => List.mem_cons_of_mem _ (List.mem_append_left _ (List.mem_append_right _ h))) (by decide +kernel))) (goodIn_sub (fun _ h => List.mem_cons_of_mem _ (List.mem_append_right _ h)) (by decide +kernel))
set_option maxRecDepth 20000 in
theorem gX10_value_X10_needReadAt : GoodIn wsX10_value (wsV RX10 251 RX10 yX10_needReadAt wsX10_needReadAt) := goodIn_app (goodIn_of _ (by decide +kernel)) ggX10_value_X10_needReadAt
set_option maxRecDepth 20000 in
theorem ggX10_value_X5_place : GoodIn wsX10_value wsX5_place := goodIn_r _ [26, 14, 46, 47, 48, 49, 50, 51, 52] (by decide +kernel) (by decide +kernel)
set_option maxRecDepth 20000 in
theorem gX10_value_X5_place : GoodIn wsX10_value (wsV RX10 117 RX5 yX5_place wsX5_place) := goodIn_app (goodIn_of _ (by decide +kernel)) ggX10_value_X5_place
set_option maxRecDepth 20000 in
theorem ggX10_value_X5_valueOf : GoodIn wsX10_value wsX5_valueOf := goodIn_r _ [30, 31, 32, 33, 46, 47, 48, 49, 50, 51, 52] (by decide +kernel) (by decide +kernel)
set_option maxRecDepth 20000 in
theorem gX10_value_X5_valueOf : GoodIn wsX10_value (wsV RX10 254 RX5 yX5_valueOf wsX5_valueOf) := goodIn_app (goodIn_of _ (by decide +kernel)) ggX10_value_X5_valueOf
set_option maxRecDepth 20000 in
theorem ggX10_known_X10_needReadAt : GoodIn wsX10_known wsX10_needReadAt := goodIn_ca (goodIn_ca (goodIn_r _ [7, 8, 9, 1, 10, 11, 12, 13, 14, 15, 16, 17, 18, 19, 6, 20, 21, 22, 23, 28, 29, 30, 31, 32, 33, 34, 35, 36, 37, 38, 39, 40, 41, 42, 43, 44, 45, 46] (by decide +kernel) (by decide +kernel)) (goodIn_sub (fun _ h => List.mem_cons_of_mem _ (List.mem_append_left _ (List.mem_append_right _ h))) (by decide +kernel))) (goodIn_sub (fun _ h => List.mem_cons_of_mem _ (List.mem_append_right _ h)) (by decide +kernel))
set_option maxRecDepth 20000 in
theorem gX10_known_X10_needReadAt : GoodIn wsX10_known (wsV RX10 251 RX10 yX10_needReadAt wsX10_needReadAt) := goodIn_app (goodIn_of _ (by decide +kernel)) ggX10_known_X10_needReadAt
set_option maxRecDepth 20000 in
theorem ggX10_known_X5_place : GoodIn wsX10_known wsX5_place := goodIn_r _ [27, 15, 40, 41, 42, 43, 44, 45, 46] (by decide +kernel) (by decide +kernel)
set_option maxRecDepth 20000 in
theorem gX10_known_X5_place : GoodIn wsX10_known (wsV RX10 117 RX5 yX5_place wsX5_place) := goodIn_app (goodIn_of _ (by decide +kernel)) ggX10_known_X5_place
set_option maxRecDepth 20000 in
theorem ggX10_sum_X10_needRead : GoodIn wsX10_sum wsX10_needRead := goodIn_ca (goodIn_r _ [8, 9, 10, 11, 20, 21, 22, 23, 24, 25, 26, 27, 28, 29, 30, 31] (by decide +kernel) (by decide +kernel)) (goodIn_sub (fun _ h => List.mem_cons_of_mem _ (List.mem_append_right _ h)) (by decide +kernel))
set_option maxRecDepth 20000 in
theorem gX10_sum_X10_needRead : GoodIn wsX10_sum (wsV RX10 260 RX10 yX10_needRead wsX10_needRead) := goodIn_app (goodIn_of _ (by decide +kernel)) ggX10_sum_X10_needRead
set_option maxRecDepth 20000 in
theorem ggX10_sum_X5_valueOf : GoodIn wsX10_sum wsX5_valueOf := goodIn_r _ [16, 17, 18, 19, 32, 33, 34, 35, 36, 37, 38] (by decide +kernel) (by decide +kernel)
set_option maxRecDepth 20000 in
theorem gX10_sum_X5_valueOf : GoodIn wsX10_sum (wsV RX10 254 RX5 yX5_valueOf wsX5_valueOf) := goodIn_app (goodIn_of _ (by decide +kernel)) ggX10_sum_X5_valueOf
set_option maxRecDepth 20000 in
theorem ggX10_needPass_X10_needWritten : GoodIn wsX10_needPass wsX10_needWritten := goodIn_ca (goodIn_r _ [9, 10, 11, 12, 13, 14, 15, 16, 17, 18, 19, 20, 21, 22, 23, 24] (by decide +kernel) (by decide +kernel)) (goodIn_sub (fun _ h => List.mem_cons_of_mem _ (List.mem_append_right _ h)) (by decide +kernel))
set_option maxRecDepth 20000 in
theorem gX10_needPass_X10_needWritten : GoodIn wsX10_needPass (wsV RX10 216 RX10 yX10_needWritten wsX10_needWritten) := goodIn_app (goodIn_of _ (by decide +kernel)) ggX10_needPass_X10_needWritten
set_option maxRecDepth 20000 in
theorem ggX10_needByte_X10_needWritten : GoodIn wsX10_needByte wsX10_needWritten := goodIn_ca (goodIn_r _ [9, 10, 11, 12, 13, 14, 15, 16, 17, 18, 19, 20, 21, 22, 23, 24] (by decide +kernel) (by decide +kernel)) (goodIn_sub (fun _ h => List.mem_cons_of_mem _ (List.mem_append_right _ h)) (by decide +kernel))
set_option maxRecDepth 20000 in
theorem gX10_needByte_X10_needWritten : GoodIn wsX10_needByte (wsV RX10 216 RX10 yX10_needWritten wsX10_needWritten) := goodIn_app (goodIn_of _ (by decide +kernel)) ggX10_needByte_X10_needWritten
set_option maxRecDepth 20000 in
theorem ggX10_needReadAt_X5_holds : GoodIn wsX10_needReadAt wsX5_holds := goodIn_r _ [8, 9, 10, 31, 32, 33, 34, 35, 36, 37] (by decide +kernel) (by decide +kernel)
set_option maxRecDepth 20000 in
theorem gX10_needReadAt_X5_holds : GoodIn wsX10_needReadAt (wsV RX10 104 RX5 yX5_holds wsX5_holds) := goodIn_app (goodIn_of _ (by decide +kernel)) ggX10_needReadAt_X5_holds
set_option maxRecDepth 20000 in
theorem ggX10_needReadAt_X10_needRead : GoodIn wsX10_needReadAt wsX10_needRead := goodIn_ca (goodIn_r _ [15, 16, 17, 18, 19, 20, 21, 22, 23, 24, 25, 26, 27, 28, 29, 30] (by decide +kernel) (by decide +kernel)) (goodIn_sub (fun _ h => List.mem_cons_of_mem _ (List.mem_append_right _ h)) (by decide +kernel))
set_option maxRecDepth 20000 in
theorem gX10_needReadAt_X10_needRead : GoodIn wsX10_needReadAt (wsV RX10 260 RX10 yX10_needRead wsX10_needRead) := goodIn_app (goodIn_of _ (by decide +kernel)) ggX10_needReadAt_X10_needRead
