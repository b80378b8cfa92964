def wsX6_put : List Cond := .code yX6_put cX6_put 3 (some .int) :: ([.classLink RX6 59 "java/lang/IllegalArgumentException", .initialized "java/lang/IllegalArgumentException", .classLink RX6 68 "java/lang/IllegalStateException", .initialized "java/lang/IllegalStateException", .classLink RX6 52 RJx00060, .instantiable RJx00060 6, .initialized RJx00060, .fieldLink RX6 24 "ReshuffleSearch" "height" "[I", .fieldLink RX6 17 "ReshuffleSearch" "tiers" "I", .fieldLink RX6 20 "ReshuffleSearch" "place" "[I", .methodLink RX6 48 yX6_isStack, .instanceMethod yX6_isStack, .selects RX6 yX6_isStack yX6_isStack, .initialized RX6, .code yX6_isStack cX6_isStack 2 (some .boolean), .fieldLink RX6 13 "ReshuffleSearch" "stacks" "I", .methodLink RX6 64 yX6_boxes, .instanceMethod yX6_boxes, .selects RX6 yX6_boxes yX6_boxes, .code yX6_boxes cX6_boxes 3 (some .int)] ++ wsJx000600 ++ wsX60 ++ (vx_atS RX6 63 "java/lang/IllegalArgumentException" ["java/lang/RuntimeException", "java/lang/Exception"]).filter goodWord ++ (vx_atS RX6 72 "java/lang/IllegalStateException" ["java/lang/RuntimeException", "java/lang/Exception"]).filter goodWord)
def wsX6_off : List Cond := .code yX6_off cX6_off 4 (some .int) :: ([.classLink RX6 73 "java/util/NoSuchElementException", .initialized "java/util/NoSuchElementException", .classLink RX6 52 RJx00060, .instantiable RJx00060 6, .initialized RJx00060, .fieldLink RX6 24 "ReshuffleSearch" "height" "[I", .fieldLink RX6 17 "ReshuffleSearch" "tiers" "I", .fieldLink RX6 20 "ReshuffleSearch" "place" "[I", .methodLink RX6 48 yX6_isStack, .instanceMethod yX6_isStack, .selects RX6 yX6_isStack yX6_isStack, .initialized RX6, .code yX6_isStack cX6_isStack 2 (some .boolean), .fieldLink RX6 13 "ReshuffleSearch" "stacks" "I"] ++ wsJx000600 ++ wsX60 ++ (vx_atS RX6 77 "java/util/NoSuchElementException" ["java/lang/RuntimeException", "java/lang/Exception"]).filter goodWord)
def wsX6_solve : List Cond := .code yX6_solve cX6_solve 4 (some .int) :: ((wsX6_solve_r1 ++ (wsX6_solve_r2 ++ (wsX6_solve_r3 ++ (wsX6_solve_r4 ++ (wsX6_solve_r5 ++ (wsX6_solve_r6 ++ wsX6_solve_r7)))))) ++ wsX60 ++ wsX40 ++ wsX10 ++ wsX30 ++ wsX00 ++ (vx_atS RX6 63 "java/lang/IllegalArgumentException" ["java/lang/RuntimeException", "java/lang/Exception"]).filter goodWord)
def wsX6_move : List Cond := .code yX6_move cX6_move 3 (some .int) :: ([.classLink RX6 102 "java/lang/IndexOutOfBoundsException", .initialized "java/lang/IndexOutOfBoundsException", .fieldLink RX6 47 "ReshuffleSearch" "way" "LReshuffleSearch$Way;", .methodLink RX6 99 yX4_has, .instanceMethod yX4_has, .selects RX4 yX4_has yX4_has, .initialized RX4, .code yX4_has cX4_has 2 (some .boolean), .fieldLink RX4 24 "ReshuffleSearch$Way" "length" "I"] ++ wsX60 ++ wsX40 ++ (vx_atS RX6 106 "java/lang/IndexOutOfBoundsException" ["java/lang/RuntimeException", "java/lang/Exception"]).filter goodWord)
def wsX6_follow : List Cond := .code yX6_follow cX6_follow 6 (some .int) :: ((wsX6_follow_r1 ++ (wsX6_follow_r2 ++ (wsX6_follow_r3 ++ wsX6_follow_r4))) ++ wsX60 ++ wsX40 ++ wsX10 ++ (vx_atS RX6 72 "java/lang/IllegalStateException" ["java/lang/RuntimeException", "java/lang/Exception"]).filter goodWord)
def wsL_put : List Cond := .codeWith yL_put cL_put 5 (some .int) [(0, 10, 13, 13), (0, 10, 17, 15), (0, 10, 21, 17)] :: ((wsL_put_r1 ++ wsL_put_r2) ++ wsJx000600 ++ wsX60 ++ (vx_atS RX6 63 "java/lang/IllegalArgumentException" ["java/lang/RuntimeException", "java/lang/Exception"]).filter goodWord ++ (vx_atS RX6 72 "java/lang/IllegalStateException" ["java/lang/RuntimeException", "java/lang/Exception"]).filter goodWord)
def wsL_off : List Cond := .codeWith yL_off cL_off 4 (some .int) [(0, 9, 12, 13), (0, 9, 15, 23)] :: ([.classLink RL 13 "java/lang/ArrayIndexOutOfBoundsException", .classLink RL 23 "java/util/NoSuchElementException", .methodLink RL 19 yX6_off, .instanceMethod yX6_off, .selects RX6 yX6_off yX6_off, .initialized RX6, .code yX6_off cX6_off 4 (some .int), .classLink RX6 73 "java/util/NoSuchElementException", .initialized "java/util/NoSuchElementException", .classLink RX6 52 RJx00060, .instantiable RJx00060 6, .initialized RJx00060, .fieldLink RX6 24 "ReshuffleSearch" "height" "[I", .fieldLink RX6 17 "ReshuffleSearch" "tiers" "I", .fieldLink RX6 20 "ReshuffleSearch" "place" "[I", .methodLink RX6 48 yX6_isStack, .instanceMethod yX6_isStack, .selects RX6 yX6_isStack yX6_isStack, .code yX6_isStack cX6_isStack 2 (some .boolean), .fieldLink RX6 13 "ReshuffleSearch" "stacks" "I"] ++ wsJx000600 ++ wsX60 ++ (vx_atS RX6 77 "java/util/NoSuchElementException" ["java/lang/RuntimeException", "java/lang/Exception"]).filter goodWord)
def wsL_solve : List Cond := .codeWith yL_solve cL_solve 5 (some .int) [(0, 10, 13, 15)] :: ((wsL_solve_r1 ++ (wsL_solve_r2 ++ (wsL_solve_r3 ++ (wsL_solve_r4 ++ (wsL_solve_r5 ++ (wsL_solve_r6 ++ wsL_solve_r7)))))) ++ wsX60 ++ wsX40 ++ wsX10 ++ wsX30 ++ wsX00 ++ (vx_atS RX6 63 "java/lang/IllegalArgumentException" ["java/lang/RuntimeException", "java/lang/Exception"]).filter goodWord)
def wsL_move : List Cond := .codeWith yL_move cL_move 5 (some .int) [(0, 10, 13, 31)] :: ([.classLink RL 31 "java/lang/IndexOutOfBoundsException", .methodLink RL 28 yX6_move, .instanceMethod yX6_move, .selects RX6 yX6_move yX6_move, .initialized RX6, .code yX6_move cX6_move 3 (some .int), .classLink RX6 102 "java/lang/IndexOutOfBoundsException", .initialized "java/lang/IndexOutOfBoundsException", .fieldLink RX6 47 "ReshuffleSearch" "way" "LReshuffleSearch$Way;", .methodLink RX6 99 yX4_has, .instanceMethod yX4_has, .selects RX4 yX4_has yX4_has, .initialized RX4, .code yX4_has cX4_has 2 (some .boolean), .fieldLink RX4 24 "ReshuffleSearch$Way" "length" "I"] ++ wsX60 ++ wsX40 ++ (vx_atS RX6 106 "java/lang/IndexOutOfBoundsException" ["java/lang/RuntimeException", "java/lang/Exception"]).filter goodWord)
def wsL_follow : List Cond := .codeWith yL_follow cL_follow 3 (some .int) [(0, 8, 11, 17)] :: ((wsL_follow_r1 ++ (wsL_follow_r2 ++ (wsL_follow_r3 ++ wsL_follow_r4))) ++ wsX60 ++ wsX40 ++ wsX10 ++ (vx_atS RX6 72 "java/lang/IllegalStateException" ["java/lang/RuntimeException", "java/lang/Exception"]).filter goodWord)
set_option maxRecDepth 20000 in
theorem ggX6_put_X6_isStack : GoodIn wsX6_put wsX6_isStack := goodIn_r _ [15, 16, 27, 28, 29, 30, 31, 32, 33] (by decide +kernel) (by decide +kernel)
set_option maxRecDepth 20000 in
theorem gX6_put_X6_isStack : GoodIn wsX6_put (wsV RX6 48 RX6 yX6_isStack wsX6_isStack) := goodIn_app (goodIn_of _ (by decide +kernel)) ggX6_put_X6_isStack
set_option maxRecDepth 20000 in
theorem ggX6_put_X6_boxes : GoodIn wsX6_put wsX6_boxes := goodIn_r _ [20, 16, 8, 27, 28, 29, 30, 31, 32, 33] (by decide +kernel) (by decide +kernel)
set_option maxRecDepth 20000 in
theorem gX6_put_X6_boxes : GoodIn wsX6_put (wsV RX6 64 RX6 yX6_boxes wsX6_boxes) := goodIn_app (goodIn_of _ (by decide +kernel)) ggX6_put_X6_boxes
set_option maxRecDepth 20000 in
theorem ggX6_off_X6_isStack : GoodIn wsX6_off wsX6_isStack := goodIn_r _ [13, 14, 21, 22, 23, 24, 25, 26, 27] (by decide +kernel) (by decide +kernel)
set_option maxRecDepth 20000 in
theorem gX6_off_X6_isStack : GoodIn wsX6_off (wsV RX6 48 RX6 yX6_isStack wsX6_isStack) := goodIn_app (goodIn_of _ (by decide +kernel)) ggX6_off_X6_isStack
set_option maxRecDepth 20000 in
theorem ggX6_solve_X4_drop : GoodIn wsX6_solve wsX4_drop := goodIn_r _ [11, 12, 13, 165, 166, 167, 168, 169, 170] (by decide +kernel) (by decide +kernel)
set_option maxRecDepth 20000 in
theorem gX6_solve_X4_drop : GoodIn wsX6_solve (wsV RX6 82 RX4 yX4_drop wsX4_drop) := goodIn_app (goodIn_of _ (by decide +kernel)) ggX6_solve_X4_drop
set_option maxRecDepth 20000 in
theorem ggX6_solve_X6_packed : GoodIn wsX6_solve wsX6_packed := goodIn_r _ [18, 6, 5, 19, 20, 21, 22, 23, 24, 25, 26, 27, 28, 29, 30, 31, 32, 33, 34, 35, 36, 37, 38, 39, 40, 41, 42, 43, 44, 45, 46, 47, 48, 158, 159, 160, 161, 162, 163, 164, 171, 172] (by decide +kernel) (by decide +kernel)
set_option maxRecDepth 20000 in
theorem gX6_solve_X6_packed : GoodIn wsX6_solve (wsV RX6 87 RX6 yX6_packed wsX6_packed) := goodIn_app (goodIn_of _ (by decide +kernel)) ggX6_solve_X6_packed
set_option maxRecDepth 20000 in
theorem ggX6_solve_X3_fewest : GoodIn wsX6_solve wsX3_fewest := goodIn_r _ [53, 54, 55, 56, 57, 58, 59, 60, 61, 62, 63, 31, 64, 65, 66, 67, 52, 68, 69, 70, 39, 71, 72, 73, 74, 75, 76, 77, 41, 42, 43, 44, 78, 79, 80, 81, 82, 83, 45, 46, 47, 48, 84, 85, 86, 87, 88, 89, 90, 91, 92, 93, 94, 95, 96, 97, 98, 99, 100, 101, 102, 103, 104, 105, 106, 107, 108, 109, 110, 111, 112, 113, 114, 115, 116, 117, 118, 119, 120, 121, 122, 123, 124, 125, 126, 127, 128, 129, 130, 131, 132, 133, 134, 135, 136, 137, 138, 139, 140, 38, 40, 141, 142, 143, 144, 10, 145, 146, 147, 148, 173, 174, 175, 176, 177, 178, 165, 166, 167, 168, 169, 170] (by decide +kernel) (by decide +kernel)
set_option maxRecDepth 20000 in
theorem gX6_solve_X3_fewest : GoodIn wsX6_solve (wsV RX6 91 RX3 yX3_fewest wsX3_fewest) := goodIn_app (goodIn_of _ (by decide +kernel)) ggX6_solve_X3_fewest
set_option maxRecDepth 20000 in
theorem ggX6_solve_X4_keep : GoodIn wsX6_solve wsX4_keep := goodIn_r _ [152, 12, 13, 148, 153, 154, 155, 156, 25, 157, 28, 165, 166, 167, 168, 169, 170, 171, 172] (by decide +kernel) (by decide +kernel)
set_option maxRecDepth 20000 in
theorem gX6_solve_X4_keep : GoodIn wsX6_solve (wsV RX6 95 RX4 yX4_keep wsX4_keep) := goodIn_app (goodIn_of _ (by decide +kernel)) ggX6_solve_X4_keep
set_option maxRecDepth 20000 in
theorem ggX6_move_X4_has : GoodIn wsX6_move wsX4_has := goodIn_r _ [8, 9, 17, 18, 19, 20, 21, 22] (by decide +kernel) (by decide +kernel)
set_option maxRecDepth 20000 in
theorem gX6_move_X4_has : GoodIn wsX6_move (wsV RX6 99 RX4 yX4_has wsX4_has) := goodIn_app (goodIn_of _ (by decide +kernel)) ggX6_move_X4_has
set_option maxRecDepth 20000 in
theorem ggX6_follow_X4_isKept : GoodIn wsX6_follow wsX4_isKept := goodIn_r _ [9, 10, 95, 96, 97, 98, 99, 100] (by decide +kernel) (by decide +kernel)
set_option maxRecDepth 20000 in
theorem gX6_follow_X4_isKept : GoodIn wsX6_follow (wsV RX6 116 RX4 yX4_isKept wsX4_isKept) := goodIn_app (goodIn_of _ (by decide +kernel)) ggX6_follow_X4_isKept
set_option maxRecDepth 20000 in
theorem ggX6_follow_X4_startsAt : GoodIn wsX6_follow wsX4_startsAt := goodIn_r _ [14, 15, 95, 96, 97, 98, 99, 100] (by decide +kernel) (by decide +kernel)
set_option maxRecDepth 20000 in
theorem gX6_follow_X4_startsAt : GoodIn wsX6_follow (wsV RX6 120 RX4 yX4_startsAt wsX4_startsAt) := goodIn_app (goodIn_of _ (by decide +kernel)) ggX6_follow_X4_startsAt
set_option maxRecDepth 20000 in
theorem ggX6_follow_X6_boxes : GoodIn wsX6_follow wsX6_boxes := goodIn_r _ [20, 21, 22, 88, 89, 90, 91, 92, 93, 94] (by decide +kernel) (by decide +kernel)
set_option maxRecDepth 20000 in
theorem gX6_follow_X6_boxes : GoodIn wsX6_follow (wsV RX6 64 RX6 yX6_boxes wsX6_boxes) := goodIn_app (goodIn_of _ (by decide +kernel)) ggX6_follow_X6_boxes
set_option maxRecDepth 20000 in
theorem ggX6_follow_X6_packed : GoodIn wsX6_follow wsX6_packed := goodIn_r _ [26, 27, 4, 21, 22, 28, 29, 30, 31, 32, 33, 34, 35, 36, 37, 38, 39, 40, 41, 42, 43, 44, 45, 46, 47, 48, 49, 50, 51, 52, 53, 54, 55, 88, 89, 90, 91, 92, 93, 94, 101, 102] (by decide +kernel) (by decide +kernel)
set_option maxRecDepth 20000 in
theorem gX6_follow_X6_packed : GoodIn wsX6_follow (wsV RX6 87 RX6 yX6_packed wsX6_packed) := goodIn_app (goodIn_of _ (by decide +kernel)) ggX6_follow_X6_packed
set_option maxRecDepth 20000 in
theorem ggX6_follow_X5_afterLeaving : GoodIn wsX6_follow wsX5_afterLeaving := goodIn_r _ [58, 59, 60, 46, 61, 62, 63, 64, 48, 49, 50, 51, 65, 66, 67, 68, 69, 70, 52, 53, 54, 55] (by decide +kernel) (by decide +kernel)
set_option maxRecDepth 20000 in
theorem gX6_follow_X5_afterLeaving : GoodIn wsX6_follow (va_wsS RX6 129 yX5_afterLeaving wsX5_afterLeaving) := goodIn_app (goodIn_of _ (by decide +kernel)) ggX6_follow_X5_afterLeaving
set_option maxRecDepth 20000 in
theorem ggX6_follow_X5_shifted : GoodIn wsX6_follow wsX5_shifted := goodIn_r _ [73, 68, 69, 46, 70, 48, 49, 50, 51, 52, 53, 54, 55, 65, 66, 67, 74, 45, 47] (by decide +kernel) (by decide +kernel)
set_option maxRecDepth 20000 in
theorem gX6_follow_X5_shifted : GoodIn wsX6_follow (va_wsS RX6 138 yX5_shifted wsX5_shifted) := goodIn_app (goodIn_of _ (by decide +kernel)) ggX6_follow_X5_shifted
set_option maxRecDepth 20000 in
theorem ggX6_follow_X6_unpack : GoodIn wsX6_follow wsX6_unpack := goodIn_r _ [78, 21, 22, 28, 4, 27, 79, 49, 46, 50, 51, 80, 81, 82, 65, 66, 67, 83, 84, 85, 86, 32, 87, 35, 88, 89, 90, 91, 92, 93, 94, 101, 102] (by decide +kernel) (by decide +kernel)
set_option maxRecDepth 20000 in
theorem gX6_follow_X6_unpack : GoodIn wsX6_follow (wsV RX6 142 RX6 yX6_unpack wsX6_unpack) := goodIn_app (goodIn_of _ (by decide +kernel)) ggX6_follow_X6_unpack
set_option maxRecDepth 20000 in
theorem ggL_put_X6_put : GoodIn wsL_put wsX6_put := goodIn_ca (goodIn_ca (goodIn_r _ [8, 9, 10, 11, 12, 13, 14, 15, 16, 17, 18, 19, 20, 21, 7, 22, 23, 24, 25, 26, 27, 28, 29, 30, 31, 32, 33, 34, 35, 36, 37, 38, 39, 40] (by decide +kernel) (by decide +kernel)) (goodIn_sub (fun _ h => List.mem_cons_of_mem _ (List.mem_append_left _ (List.mem_append_right _ h))) (by decide +kernel))) (goodIn_sub (fun _ h => List.mem_cons_of_mem _ (List.mem_append_right _ h)) (by decide +kernel))
set_option maxRecDepth 20000 in
theorem gL_put_X6_put : GoodIn wsL_put (wsV RL 7 RX6 yX6_put wsX6_put) := goodIn_app (goodIn_of _ (by decide +kernel)) ggL_put_X6_put
set_option maxRecDepth 20000 in
theorem ggL_off_X6_off : GoodIn wsL_off wsX6_off := goodIn_ca (goodIn_r _ [7, 8, 9, 10, 11, 12, 13, 14, 15, 16, 17, 18, 6, 19, 20, 21, 22, 23, 24, 25, 26, 27, 28, 29, 30, 31, 32, 33] (by decide +kernel) (by decide +kernel)) (goodIn_sub (fun _ h => List.mem_cons_of_mem _ (List.mem_append_right _ h)) (by decide +kernel))
set_option maxRecDepth 20000 in
theorem gL_off_X6_off : GoodIn wsL_off (wsV RL 19 RX6 yX6_off wsX6_off) := goodIn_app (goodIn_of _ (by decide +kernel)) ggL_off_X6_off
set_option maxRecDepth 20000 in
theorem ggL_solve_X6_solve : GoodIn wsL_solve wsX6_solve := goodIn_ca (goodIn_r _ [6, 7, 8, 9, 10, 11, 12, 13, 14, 15, 16, 17, 18, 19, 20, 21, 22, 5, 23, 24, 25, 26, 27, 28, 29, 30, 31, 32, 33, 34, 35, 36, 37, 38, 39, 40, 41, 42, 43, 44, 45, 46, 47, 48, 49, 50, 51, 52, 53, 54, 55, 56, 57, 58, 59, 60, 61, 62, 63, 64, 65, 66, 67, 68, 69, 70, 71, 72, 73, 74, 75, 76, 77, 78, 79, 80, 81, 82, 83, 84, 85, 86, 87, 88, 89, 90, 91, 92, 93, 94, 95, 96, 97, 98, 99, 100, 101, 102, 103, 104, 105, 106, 107, 108, 109, 110, 111, 112, 113, 114, 115, 116, 117, 118, 119, 120, 121, 122, 123, 124, 125, 126, 127, 128, 129, 130, 131, 132, 133, 134, 135, 136, 137, 138, 139, 140, 141, 142, 143, 144, 145, 146, 147, 148, 149, 150, 151, 152, 153, 154, 155, 156, 157, 158, 159, 160, 161, 162, 163, 164, 165, 166, 167, 168, 169, 170, 171, 172, 173, 174, 175, 176, 177, 178, 179, 180, 181, 182, 183] (by decide +kernel) (by decide +kernel)) (goodIn_sub (fun _ h => List.mem_cons_of_mem _ (List.mem_append_right _ h)) (by decide +kernel))
set_option maxRecDepth 20000 in
theorem gL_solve_X6_solve : GoodIn wsL_solve (wsV RL 25 RX6 yX6_solve wsX6_solve) := goodIn_app (goodIn_of _ (by decide +kernel)) ggL_solve_X6_solve
set_option maxRecDepth 20000 in
theorem ggL_move_X6_move : GoodIn wsL_move wsX6_move := goodIn_ca (goodIn_r _ [6, 7, 8, 9, 10, 11, 12, 13, 14, 15, 16, 17, 18, 19, 20, 21, 22, 23, 24, 25, 26, 27, 28] (by decide +kernel) (by decide +kernel)) (goodIn_sub (fun _ h => List.mem_cons_of_mem _ (List.mem_append_right _ h)) (by decide +kernel))
set_option maxRecDepth 20000 in
theorem gL_move_X6_move : GoodIn wsL_move (wsV RL 28 RX6 yX6_move wsX6_move) := goodIn_app (goodIn_of _ (by decide +kernel)) ggL_move_X6_move
set_option maxRecDepth 20000 in
theorem ggL_follow_X6_follow : GoodIn wsL_follow wsX6_follow := goodIn_ca (goodIn_r _ [6, 7, 8, 9, 10, 11, 12, 13, 14, 15, 16, 17, 18, 19, 20, 21, 22, 23, 24, 5, 25, 26, 27, 28, 29, 30, 31, 32, 33, 34, 35, 36, 37, 38, 39, 40, 41, 42, 43, 44, 45, 46, 47, 48, 49, 50, 51, 52, 53, 54, 55, 56, 57, 58, 59, 60, 61, 62, 63, 64, 65, 66, 67, 68, 69, 70, 71, 72, 73, 74, 75, 76, 77, 78, 79, 80, 81, 82, 83, 84, 85, 86, 87, 88, 89, 90, 91, 92, 93, 94, 95, 96, 97, 98, 99, 100, 101, 102, 103, 104, 105, 106, 107] (by decide +kernel) (by decide +kernel)) (goodIn_sub (fun _ h => List.mem_cons_of_mem _ (List.mem_append_right _ h)) (by decide +kernel))
set_option maxRecDepth 20000 in
theorem gL_follow_X6_follow : GoodIn wsL_follow (wsV RL 33 RX6 yX6_follow wsX6_follow) := goodIn_app (goodIn_of _ (by decide +kernel)) ggL_follow_X6_follow
