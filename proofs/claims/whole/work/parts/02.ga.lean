set_option maxRecDepth 20000 in
theorem ggX0_gather_X0_findParts : GoodIn wsX0_gather wsX0_findParts := goodIn_r _ [8, 9, 10, 11, 12, 13, 14, 15, 16, 17, 18, 19, 20, 21, 22, 23, 24, 25, 26, 27, 28, 29, 30, 31, 32, 33, 7, 34, 35, 54, 55, 56, 57, 58, 59, 60, 61, 62, 63, 64, 65, 66, 67, 68, 69, 70, 71, 72, 73, 74] (by decide +kernel) (by decide +kernel)
set_option maxRecDepth 20000 in
theorem gX0_gather_X0_findParts : GoodIn wsX0_gather (wsV RX0 39 RX0 yX0_findParts wsX0_findParts) := goodIn_app (goodIn_of _ (by decide +kernel)) ggX0_gather_X0_findParts
set_option maxRecDepth 20000 in
theorem ggX0_gather_X0_join : GoodIn wsX0_gather wsX0_join := goodIn_r _ [39, 9, 14, 1, 13, 12, 40, 41, 42, 7, 43, 2, 3, 44, 36, 37, 38, 54, 55, 56, 57, 58, 59, 60, 61] (by decide +kernel) (by decide +kernel)
set_option maxRecDepth 20000 in
theorem gX0_gather_X0_join : GoodIn wsX0_gather (wsV RX0 43 RX0 yX0_join wsX0_join) := goodIn_app (goodIn_of _ (by decide +kernel)) ggX0_gather_X0_join
set_option maxRecDepth 20000 in
theorem ggX0_gather_X0_sort : GoodIn wsX0_gather wsX0_sort := goodIn_r _ [48, 49, 3, 44, 54, 55, 56, 57, 58, 59, 60, 61] (by decide +kernel) (by decide +kernel)
set_option maxRecDepth 20000 in
theorem gX0_gather_X0_sort : GoodIn wsX0_gather (wsV RX0 47 RX0 yX0_sort wsX0_sort) := goodIn_app (goodIn_of _ (by decide +kernel)) ggX0_gather_X0_sort
set_option maxRecDepth 20000 in
theorem ggX0_gather_X0_dropLike : GoodIn wsX0_gather wsX0_dropLike := goodIn_r _ [53, 3, 44, 54, 55, 56, 57, 58, 59, 60, 61] (by decide +kernel) (by decide +kernel)
set_option maxRecDepth 20000 in
theorem gX0_gather_X0_dropLike : GoodIn wsX0_gather (wsV RX0 50 RX0 yX0_dropLike wsX0_dropLike) := goodIn_app (goodIn_of _ (by decide +kernel)) ggX0_gather_X0_dropLike
set_option maxRecDepth 20000 in
theorem ggX0_findParts_X5_sumInNames : GoodIn wsX0_findParts wsX5_sumInNames := goodIn_r _ [11, 12, 13, 14, 15, 16, 17, 18, 19, 20, 21, 22, 10, 23, 37, 38, 39, 40, 41, 42, 43, 44, 45, 46, 47, 48, 49] (by decide +kernel) (by decide +kernel)
set_option maxRecDepth 20000 in
theorem gX0_findParts_X5_sumInNames : GoodIn wsX0_findParts (wsV RX0 61 RX5 yX5_sumInNames wsX5_sumInNames) := goodIn_app (goodIn_of _ (by decide +kernel)) ggX0_findParts_X5_sumInNames
set_option maxRecDepth 20000 in
theorem ggX0_findParts_X0_shiftOf : GoodIn wsX0_findParts wsX0_shiftOf := goodIn_r _ [27, 28] (by decide +kernel) (by decide +kernel)
set_option maxRecDepth 20000 in
theorem gX0_findParts_X0_shiftOf : GoodIn wsX0_findParts (va_wsS RX0 65 yX0_shiftOf wsX0_shiftOf) := goodIn_app (goodIn_of _ (by decide +kernel)) ggX0_findParts_X0_shiftOf
set_option maxRecDepth 20000 in
theorem ggX0_join_X0_addIfWanted : GoodIn wsX0_join wsX0_addIfWanted := goodIn_r _ [10, 3, 11, 12, 13, 17, 18, 19, 20, 21, 22, 23, 24] (by decide +kernel) (by decide +kernel)
set_option maxRecDepth 20000 in
theorem gX0_join_X0_addIfWanted : GoodIn wsX0_join (wsV RX0 71 RX0 yX0_addIfWanted wsX0_addIfWanted) := goodIn_app (goodIn_of _ (by decide +kernel)) ggX0_join_X0_addIfWanted
set_option maxRecDepth 20000 in
theorem ggX0_join_X0_join : GoodIn wsX0_join wsX0_join := goodIn_r _ [0, 1, 2, 3, 4, 5, 6, 7, 8, 9, 10, 11, 12, 13, 14, 15, 16, 17, 18, 19, 20, 21, 22, 23, 24] (by decide +kernel) (by decide +kernel)
set_option maxRecDepth 20000 in
theorem gX0_join_X0_join : GoodIn wsX0_join (wsV RX0 43 RX0 yX0_join wsX0_join) := goodIn_app (goodIn_of _ (by decide +kernel)) ggX0_join_X0_join
set_option maxRecDepth 20000 in
theorem ggX0_dropCalled_X5_leastCalled : GoodIn wsX0_dropCalled wsX5_leastCalled := goodIn_r _ [7, 8, 9, 18, 19, 20, 21, 22, 23, 24, 25, 26, 27, 28, 29, 30] (by decide +kernel) (by decide +kernel)
set_option maxRecDepth 20000 in
theorem gX0_dropCalled_X5_leastCalled : GoodIn wsX0_dropCalled (wsV RX0 78 RX5 yX5_leastCalled wsX5_leastCalled) := goodIn_app (goodIn_of _ (by decide +kernel)) ggX0_dropCalled_X5_leastCalled
set_option maxRecDepth 20000 in
theorem ggX0_dropNoNicknames_X6_isLeftOf : GoodIn wsX0_dropNoNicknames wsX6_isLeftOf := goodIn_r _ [5, 6, 7, 8, 4, 9] (by decide +kernel) (by decide +kernel)
set_option maxRecDepth 20000 in
theorem gX0_dropNoNicknames_X6_isLeftOf_n82 : GoodIn wsX0_dropNoNicknames (wsX6_isLeftOf) := ggX0_dropNoNicknames_X6_isLeftOf
set_option maxRecDepth 20000 in
theorem ggX1_solve_X1_findLetters : GoodIn wsX1_solve wsX1_findLetters := goodIn_r _ [11, 12, 13, 14, 15, 10, 16, 4, 5, 17, 18, 19, 20, 21, 22, 23, 68, 69, 70, 71, 72, 73, 74, 75, 76, 77, 78, 79, 80, 81, 82, 83, 84, 85, 86, 87, 88, 89, 90] (by decide +kernel) (by decide +kernel)
set_option maxRecDepth 20000 in
theorem gX1_solve_X1_findLetters : GoodIn wsX1_solve (wsV RX1 45 RX1 yX1_findLetters wsX1_findLetters) := goodIn_app (goodIn_of _ (by decide +kernel)) ggX1_solve_X1_findLetters
set_option maxRecDepth 20000 in
theorem ggX1_solve_X1_addWord : GoodIn wsX1_solve wsX1_addWord := goodIn_r _ [27, 12, 28, 3, 29, 13, 30, 17, 18, 19, 20, 21, 22, 23, 68, 69, 70, 71, 72, 73, 74, 75, 76, 77] (by decide +kernel) (by decide +kernel)
set_option maxRecDepth 20000 in
theorem gX1_solve_X1_addWord : GoodIn wsX1_solve (wsV RX1 61 RX1 yX1_addWord wsX1_addWord) := goodIn_app (goodIn_of _ (by decide +kernel)) ggX1_solve_X1_addWord
set_option maxRecDepth 20000 in
theorem ggX1_solve_X1_give : GoodIn wsX1_solve wsX1_give := goodIn_r _ [34, 12, 35, 36, 37, 38, 10, 39, 1, 40, 41, 42, 43, 44, 45, 46, 47, 48, 2, 3, 29, 30, 28, 49, 50, 51, 52, 53, 54, 55, 56, 57, 58, 59, 60, 61, 62, 63, 64, 65, 66, 67, 31, 32, 33, 68, 69, 70, 71, 72, 73, 74, 75, 76, 77] (by decide +kernel) (by decide +kernel)
set_option maxRecDepth 20000 in
theorem gX1_solve_X1_give : GoodIn wsX1_solve (wsV RX1 65 RX1 yX1_give wsX1_give) := goodIn_app (goodIn_of _ (by decide +kernel)) ggX1_solve_X1_give
set_option maxRecDepth 20000 in
theorem ggX1_findLetters_X1_isInAny : GoodIn wsX1_findLetters wsX1_isInAny := goodIn_r _ [6, 7, 8, 9, 10, 11, 12, 13, 14, 15, 26, 27, 28, 29, 30, 31, 32, 33, 34, 35, 36, 37, 38] (by decide +kernel) (by decide +kernel)
set_option maxRecDepth 20000 in
theorem gX1_findLetters_X1_isInAny : GoodIn wsX1_findLetters (va_wsS RX1 69 yX1_isInAny wsX1_isInAny) := goodIn_app (goodIn_of _ (by decide +kernel)) ggX1_findLetters_X1_isInAny
set_option maxRecDepth 20000 in
theorem ggX1_isInAny_X6_timesIn : GoodIn wsX1_isInAny wsX6_timesIn := goodIn_r _ [5, 6, 7, 8, 4, 9] (by decide +kernel) (by decide +kernel)
set_option maxRecDepth 20000 in
theorem gX1_isInAny_X6_timesIn_n73 : GoodIn wsX1_isInAny (wsX6_timesIn) := ggX1_isInAny_X6_timesIn
set_option maxRecDepth 20000 in
theorem ggX1_addWord_X6_timesIn : GoodIn wsX1_addWord wsX6_timesIn := goodIn_r _ [9, 10, 11, 12, 8, 13] (by decide +kernel) (by decide +kernel)
set_option maxRecDepth 20000 in
theorem gX1_addWord_X6_timesIn_n73 : GoodIn wsX1_addWord (wsX6_timesIn) := ggX1_addWord_X6_timesIn
set_option maxRecDepth 20000 in
theorem ggX1_give_X1_addWay : GoodIn wsX1_give wsX1_addWay := goodIn_r _ [7, 8, 2, 9, 1, 10, 11, 12, 13, 45, 46, 47, 48, 49, 50, 51, 52, 53, 54] (by decide +kernel) (by decide +kernel)
set_option maxRecDepth 20000 in
theorem gX1_give_X1_addWay : GoodIn wsX1_give (wsV RX1 77 RX1 yX1_addWay wsX1_addWay) := goodIn_app (goodIn_of _ (by decide +kernel)) ggX1_give_X1_addWay
set_option maxRecDepth 20000 in
theorem ggX1_give_X1_greatestFor : GoodIn wsX1_give wsX1_greatestFor := goodIn_r _ [17, 18, 19, 20, 21, 22, 23, 24, 25, 26, 27, 28, 29, 30, 45, 46, 47, 48, 49, 50, 51, 52, 53, 54] (by decide +kernel) (by decide +kernel)
set_option maxRecDepth 20000 in
theorem gX1_give_X1_greatestFor : GoodIn wsX1_give (wsV RX1 80 RX1 yX1_greatestFor wsX1_greatestFor) := goodIn_app (goodIn_of _ (by decide +kernel)) ggX1_give_X1_greatestFor
set_option maxRecDepth 20000 in
theorem ggX1_give_X1_leastFor : GoodIn wsX1_give wsX1_leastFor := goodIn_r _ [34, 19, 20, 21, 22, 18, 35, 36, 25, 37, 27, 28, 29, 30, 45, 46, 47, 48, 49, 50, 51, 52, 53, 54] (by decide +kernel) (by decide +kernel)
set_option maxRecDepth 20000 in
theorem gX1_give_X1_leastFor : GoodIn wsX1_give (wsV RX1 84 RX1 yX1_leastFor wsX1_leastFor) := goodIn_app (goodIn_of _ (by decide +kernel)) ggX1_give_X1_leastFor
set_option maxRecDepth 20000 in
theorem ggX1_give_X1_take : GoodIn wsX1_give wsX1_take := goodIn_r _ [41, 19, 21, 20, 45, 46, 47, 48, 49, 50, 51, 52, 53, 54] (by decide +kernel) (by decide +kernel)
set_option maxRecDepth 20000 in
theorem gX1_give_X1_take : GoodIn wsX1_give (wsV RX1 87 RX1 yX1_take wsX1_take) := goodIn_app (goodIn_of _ (by decide +kernel)) ggX1_give_X1_take
set_option maxRecDepth 20000 in
theorem ggX1_give_X1_give : GoodIn wsX1_give wsX1_give := goodIn_r _ [0, 1, 2, 3, 4, 5, 6, 7, 8, 9, 10, 11, 12, 13, 14, 15, 16, 17, 18, 19, 20, 21, 22, 23, 24, 25, 26, 27, 28, 29, 30, 31, 32, 33, 34, 35, 36, 37, 38, 39, 40, 41, 42, 43, 44, 45, 46, 47, 48, 49, 50, 51, 52, 53, 54] (by decide +kernel) (by decide +kernel)
set_option maxRecDepth 20000 in
theorem gX1_give_X1_give : GoodIn wsX1_give (wsV RX1 65 RX1 yX1_give wsX1_give) := goodIn_app (goodIn_of _ (by decide +kernel)) ggX1_give_X1_give
set_option maxRecDepth 20000 in
theorem ggX1_leastFor_J9_floorDiv_7cf53 : GoodIn wsX1_leastFor wsJ9_floorDiv_7cf53 := goodIn_r _ [13] (by decide +kernel) (by decide +kernel)
set_option maxRecDepth 20000 in
theorem gX1_leastFor_J9_floorDiv_7cf53 : GoodIn wsX1_leastFor (va_wsS RX1 97 yJ9_floorDiv_7cf53 wsJ9_floorDiv_7cf53) := goodIn_app (goodIn_of _ (by decide +kernel)) ggX1_leastFor_J9_floorDiv_7cf53
set_option maxRecDepth 20000 in
theorem ggX1_greatestFor_J9_floorDiv_7cf53 : GoodIn wsX1_greatestFor wsJ9_floorDiv_7cf53 := goodIn_r _ [13] (by decide +kernel) (by decide +kernel)
set_option maxRecDepth 20000 in
theorem gX1_greatestFor_J9_floorDiv_7cf53 : GoodIn wsX1_greatestFor (va_wsS RX1 97 yJ9_floorDiv_7cf53 wsJ9_floorDiv_7cf53) := goodIn_app (goodIn_of _ (by decide +kernel)) ggX1_greatestFor_J9_floorDiv_7cf53
set_option maxRecDepth 20000 in
theorem ggX2_measure_X5_sumInNames : GoodIn wsX2_measure wsX5_sumInNames := goodIn_r _ [8, 9, 10, 11, 12, 13, 14, 15, 16, 17, 18, 19, 7, 20, 32, 33, 34, 35, 36, 37, 38, 39, 40, 41, 42, 43, 44] (by decide +kernel) (by decide +kernel)
set_option maxRecDepth 20000 in
theorem gX2_measure_X5_sumInNames : GoodIn wsX2_measure (wsV RX2 29 RX5 yX5_sumInNames wsX5_sumInNames) := goodIn_app (goodIn_of _ (by decide +kernel)) ggX2_measure_X5_sumInNames
set_option maxRecDepth 20000 in
theorem ggX2_measure_X2_addPart : GoodIn wsX2_measure wsX2_addPart := goodIn_r _ [25, 1, 26, 27, 28, 29, 30, 31] (by decide +kernel) (by decide +kernel)
set_option maxRecDepth 20000 in
theorem gX2_measure_X2_addPart : GoodIn wsX2_measure (wsV RX2 33 RX2 yX2_addPart wsX2_addPart) := goodIn_app (goodIn_of _ (by decide +kernel)) ggX2_measure_X2_addPart
set_option maxRecDepth 20000 in
theorem ggX2_mendingSyllable_X5_sumInNames : GoodIn wsX2_mendingSyllable wsX5_sumInNames := goodIn_r _ [8, 9, 10, 11, 12, 13, 14, 15, 16, 17, 18, 19, 7, 20, 33, 34, 35, 36, 37, 38, 39, 40, 41, 42, 43, 44, 45] (by decide +kernel) (by decide +kernel)
set_option maxRecDepth 20000 in
theorem gX2_mendingSyllable_X5_sumInNames : GoodIn wsX2_mendingSyllable (wsV RX2 29 RX5 yX5_sumInNames wsX5_sumInNames) := goodIn_app (goodIn_of _ (by decide +kernel)) ggX2_mendingSyllable_X5_sumInNames
set_option maxRecDepth 20000 in
theorem ggX2_mendingSyllable_X2_mendsAll : GoodIn wsX2_mendingSyllable wsX2_mendsAll := goodIn_r _ [25, 26, 27, 28, 24, 29, 30, 31, 32] (by decide +kernel) (by decide +kernel)
set_option maxRecDepth 20000 in
theorem gX2_mendingSyllable_X2_mendsAll : GoodIn wsX2_mendingSyllable (wsV RX2 45 RX2 yX2_mendsAll wsX2_mendsAll) := goodIn_app (goodIn_of _ (by decide +kernel)) ggX2_mendingSyllable_X2_mendsAll
set_option maxRecDepth 20000 in
theorem ggX2_mendsAll_X2_hasNameWith : GoodIn wsX2_mendsAll wsX2_hasNameWith := goodIn_r _ [5, 6, 7, 8] (by decide +kernel) (by decide +kernel)
set_option maxRecDepth 20000 in
theorem gX2_mendsAll_X2_hasNameWith : GoodIn wsX2_mendsAll (wsV RX2 51 RX2 yX2_hasNameWith wsX2_hasNameWith) := goodIn_app (goodIn_of _ (by decide +kernel)) ggX2_mendsAll_X2_hasNameWith
set_option maxRecDepth 20000 in
theorem ggX3_init_X5_init : GoodIn wsX3_init wsX5_init := goodIn_r _ [21, 22, 2, 3, 4, 23, 24, 25, 26, 27, 28, 29, 30, 31, 32, 33, 34, 35, 36, 48, 49, 50, 51, 52, 53, 54, 55, 56, 57, 58, 59, 60] (by decide +kernel) (by decide +kernel)
set_option maxRecDepth 20000 in
theorem gX3_init_X5_init : GoodIn wsX3_init (wsX5_init) := ggX3_init_X5_init
set_option maxRecDepth 20000 in
theorem ggX3_read_X5_takeFrom : GoodIn wsX3_read wsX5_takeFrom := goodIn_r _ [12, 13, 14, 15, 16, 17, 18, 19, 20, 21, 22, 23, 24, 25, 26, 27, 28, 29, 204, 205, 206, 207, 208, 209, 210, 211, 212, 213, 214, 215, 216] (by decide +kernel) (by decide +kernel)
set_option maxRecDepth 20000 in
theorem gX3_read_X5_takeFrom : GoodIn wsX3_read (wsV RX3 53 RX5 yX5_takeFrom wsX5_takeFrom) := goodIn_app (goodIn_of _ (by decide +kernel)) ggX3_read_X5_takeFrom
set_option maxRecDepth 20000 in
theorem ggX3_read_X3_readLine : GoodIn wsX3_read wsX3_readLine := goodIn_r _ [34, 5, 1, 6, 35, 36, 37, 38, 33, 39, 2, 40, 41, 3, 42, 43, 44, 45, 46, 47, 48, 49, 50, 51, 52, 53, 54, 55, 56, 57, 58, 59, 60, 61, 62, 63, 64, 65, 66, 67, 68, 69, 70, 71, 72, 73, 74, 75, 76, 77, 78, 79, 80, 81, 82, 83, 84, 85, 86, 87, 88, 89, 90, 91, 92, 93, 94, 95, 96, 97, 98, 99, 100, 101, 102, 103, 104, 105, 106, 107, 108, 109, 110, 111, 112, 113, 114, 115, 116, 117, 118, 119, 120, 121, 122, 123, 124, 125, 126, 127, 128, 129, 11, 130, 19, 18, 131, 132, 133, 134, 135, 136, 137, 138, 139, 140, 141, 142, 143, 144, 145, 146, 147, 148, 149, 150, 151, 152, 153, 25, 24, 22, 23, 20, 21, 154, 155, 156, 157, 158, 159, 160, 161, 162, 163, 164, 165, 166, 167, 168, 169, 170, 171, 172, 173, 174, 175, 176, 177, 178, 179, 28, 26, 27, 180, 181, 182, 183, 184, 185, 186, 187, 188, 189, 190, 191, 192, 193, 194, 195, 196, 197, 198, 199, 200, 201, 202, 203, 204, 205, 206, 207, 208, 209, 210, 211, 212, 213, 214, 215, 216] (by decide +kernel) (by decide +kernel)
set_option maxRecDepth 20000 in
theorem gX3_read_X3_readLine : GoodIn wsX3_read (wsV RX3 57 RX3 yX3_readLine wsX3_readLine) := goodIn_app (goodIn_of _ (by decide +kernel)) ggX3_read_X3_readLine
set_option maxRecDepth 20000 in
theorem ggX3_read_X3_readToken : GoodIn wsX3_read wsX3_readToken := goodIn_r _ [39, 2, 40, 41, 3, 6, 5, 42, 43, 44, 45, 33, 46, 47, 48, 49, 50, 51, 52, 53, 54, 193, 194, 195, 196, 197, 198, 199, 200, 201, 202, 203] (by decide +kernel) (by decide +kernel)
set_option maxRecDepth 20000 in
theorem gX3_read_X3_readToken : GoodIn wsX3_read (wsV RX3 61 RX3 yX3_readToken wsX3_readToken) := goodIn_app (goodIn_of _ (by decide +kernel)) ggX3_read_X3_readToken
set_option maxRecDepth 20000 in
theorem ggX3_readLine_X3_readToken : GoodIn wsX3_readLine wsX3_readToken := goodIn_r _ [9, 10, 11, 12, 13, 3, 1, 14, 15, 16, 17, 8, 18, 19, 20, 21, 22, 23, 24, 25, 26, 177, 178, 179, 180, 181, 182, 183, 184, 185, 186, 187] (by decide +kernel) (by decide +kernel)
set_option maxRecDepth 20000 in
theorem gX3_readLine_X3_readToken : GoodIn wsX3_readLine (wsV RX3 61 RX3 yX3_readToken wsX3_readToken) := goodIn_app (goodIn_of _ (by decide +kernel)) ggX3_readLine_X3_readToken
set_option maxRecDepth 20000 in
theorem ggX3_readLine_X3_says : GoodIn wsX3_readLine wsX3_says := goodIn_r _ [30, 14, 12, 13, 31, 32, 33, 34, 35, 36, 37, 38, 39, 40, 41, 42, 43, 44, 45, 46, 47, 48, 49, 50, 51, 52, 53, 54, 55, 56, 57, 58, 59, 60, 61, 62, 63, 64, 65, 66, 67, 68, 69, 70, 71, 72, 73, 74, 75, 76, 77, 78, 79, 177, 178, 179, 180, 181, 182, 183, 184, 185, 186, 187] (by decide +kernel) (by decide +kernel)
set_option maxRecDepth 20000 in
theorem gX3_readLine_X3_says : GoodIn wsX3_readLine (wsV RX3 68 RX3 yX3_says wsX3_says) := goodIn_app (goodIn_of _ (by decide +kernel)) ggX3_readLine_X3_says
set_option maxRecDepth 20000 in
theorem ggX3_readLine_X3_readLetter : GoodIn wsX3_readLine wsX3_readLetter := goodIn_r _ [83, 3, 2, 84, 85, 86, 87, 8, 88, 1, 14, 5, 6, 7, 9, 10, 11, 12, 13, 15, 16, 17, 18, 19, 20, 21, 22, 23, 24, 25, 26, 89, 90, 91, 92, 93, 94, 95, 96, 97, 98, 177, 178, 179, 180, 181, 182, 183, 184, 185, 186, 187, 188, 189, 190, 191, 192, 193, 194, 195, 196, 197, 198, 199, 200] (by decide +kernel) (by decide +kernel)
set_option maxRecDepth 20000 in
theorem gX3_readLine_X3_readLetter : GoodIn wsX3_readLine (wsV RX3 72 RX3 yX3_readLetter wsX3_readLetter) := goodIn_app (goodIn_of _ (by decide +kernel)) ggX3_readLine_X3_readLetter
set_option maxRecDepth 20000 in
theorem ggX3_readLine_X3_readWord : GoodIn wsX3_readLine wsX3_readWord := goodIn_r _ [88, 1, 14, 5, 6, 7, 8, 9, 10, 11, 12, 13, 3, 15, 16, 17, 18, 19, 20, 21, 22, 23, 24, 25, 26, 177, 178, 179, 180, 181, 182, 183, 184, 185, 186, 187] (by decide +kernel) (by decide +kernel)
set_option maxRecDepth 20000 in
theorem gX3_readLine_X3_readWord : GoodIn wsX3_readLine (wsV RX3 77 RX3 yX3_readWord wsX3_readWord) := goodIn_app (goodIn_of _ (by decide +kernel)) ggX3_readLine_X3_readWord
set_option maxRecDepth 20000 in
theorem ggX3_readLine_X5_addSyllable : GoodIn wsX3_readLine wsX5_addSyllable := goodIn_r _ [103, 104, 105, 106, 107, 108, 102, 109, 188, 189, 190, 191, 192, 193, 194, 195, 196, 197, 198, 199, 200] (by decide +kernel) (by decide +kernel)
set_option maxRecDepth 20000 in
theorem gX3_readLine_X5_addSyllable : GoodIn wsX3_readLine (wsV RX3 81 RX5 yX5_addSyllable wsX5_addSyllable) := goodIn_app (goodIn_of _ (by decide +kernel)) ggX3_readLine_X5_addSyllable
set_option maxRecDepth 20000 in
theorem ggX3_readLine_X3_readNoParents : GoodIn wsX3_readLine wsX3_readNoParents := goodIn_r _ [113, 114, 115, 177, 178, 179, 180, 181, 182, 183, 184, 185, 186, 187] (by decide +kernel) (by decide +kernel)
set_option maxRecDepth 20000 in
theorem gX3_readLine_X3_readNoParents : GoodIn wsX3_readLine (wsV RX3 90 RX3 yX3_readNoParents wsX3_readNoParents) := goodIn_app (goodIn_of _ (by decide +kernel)) ggX3_readLine_X3_readNoParents
set_option maxRecDepth 20000 in
theorem ggX3_readLine_X3_readBirth : GoodIn wsX3_readLine wsX3_readBirth := goodIn_r _ [119, 3, 2, 114, 115, 95, 96, 97, 8, 98, 1, 14, 5, 6, 7, 9, 10, 11, 12, 13, 15, 16, 17, 18, 19, 20, 21, 22, 23, 24, 25, 26, 120, 121, 122, 123, 124, 125, 126, 127, 102, 128, 129, 130, 131, 132, 133, 134, 135, 136, 137, 138, 177, 178, 179, 180, 181, 182, 183, 184, 185, 186, 187, 188, 189, 190, 191, 192, 193, 194, 195, 196, 197, 198, 199, 200] (by decide +kernel) (by decide +kernel)
set_option maxRecDepth 20000 in
theorem gX3_readLine_X3_readBirth : GoodIn wsX3_readLine (wsV RX3 93 RX3 yX3_readBirth wsX3_readBirth) := goodIn_app (goodIn_of _ (by decide +kernel)) ggX3_readLine_X3_readBirth
set_option maxRecDepth 20000 in
theorem ggX3_readLine_X3_readParents : GoodIn wsX3_readLine wsX3_readParents := goodIn_r _ [142, 3, 114, 115, 143, 144, 145, 8, 146, 2, 4, 95, 96, 97, 98, 1, 14, 5, 6, 7, 9, 10, 11, 12, 13, 15, 16, 17, 18, 19, 20, 21, 22, 23, 24, 25, 26, 177, 178, 179, 180, 181, 182, 183, 184, 185, 186, 187, 188, 189, 190, 191, 192, 193, 194, 195, 196, 197, 198, 199, 200] (by decide +kernel) (by decide +kernel)
set_option maxRecDepth 20000 in
theorem gX3_readLine_X3_readParents : GoodIn wsX3_readLine (wsV RX3 98 RX3 yX3_readParents wsX3_readParents) := goodIn_app (goodIn_of _ (by decide +kernel)) ggX3_readLine_X3_readParents
set_option maxRecDepth 20000 in
theorem ggX3_readLine_X3_readCall : GoodIn wsX3_readLine wsX3_readCall := goodIn_r _ [150, 3, 2, 151, 143, 144, 145, 8, 146, 4, 95, 96, 97, 98, 1, 14, 5, 6, 7, 9, 10, 11, 12, 13, 15, 16, 17, 18, 19, 20, 21, 22, 23, 24, 25, 26, 120, 121, 122, 123, 124, 177, 178, 179, 180, 181, 182, 183, 184, 185, 186, 187, 188, 189, 190, 191, 192, 193, 194, 195, 196, 197, 198, 199, 200] (by decide +kernel) (by decide +kernel)
set_option maxRecDepth 20000 in
theorem gX3_readLine_X3_readCall : GoodIn wsX3_readLine (wsV RX3 103 RX3 yX3_readCall wsX3_readCall) := goodIn_app (goodIn_of _ (by decide +kernel)) ggX3_readLine_X3_readCall
set_option maxRecDepth 20000 in
theorem ggX3_readLine_X3_readHope : GoodIn wsX3_readLine wsX3_readHope := goodIn_r _ [155, 2, 156, 3, 95, 96, 97, 8, 98, 1, 14, 5, 6, 7, 9, 10, 11, 12, 13, 15, 16, 17, 18, 19, 20, 21, 22, 23, 24, 25, 26, 157, 158, 159, 102, 160, 161, 162, 163, 177, 178, 179, 180, 181, 182, 183, 184, 185, 186, 187, 188, 189, 190, 191, 192, 193, 194, 195, 196, 197, 198, 199, 200] (by decide +kernel) (by decide +kernel)
set_option maxRecDepth 20000 in
theorem gX3_readLine_X3_readHope : GoodIn wsX3_readLine (wsV RX3 108 RX3 yX3_readHope wsX3_readHope) := goodIn_app (goodIn_of _ (by decide +kernel)) ggX3_readLine_X3_readHope
set_option maxRecDepth 20000 in
theorem ggX3_readLine_X3_readDegrees : GoodIn wsX3_readLine wsX3_readDegrees := goodIn_r _ [167, 2, 3, 168, 95, 96, 97, 8, 98, 1, 14, 5, 6, 7, 9, 10, 11, 12, 13, 15, 16, 17, 18, 19, 20, 21, 22, 23, 24, 25, 26, 177, 178, 179, 180, 181, 182, 183, 184, 185, 186, 187, 188, 189, 190, 191, 192, 193, 194, 195, 196, 197, 198, 199, 200] (by decide +kernel) (by decide +kernel)
set_option maxRecDepth 20000 in
theorem gX3_readLine_X3_readDegrees : GoodIn wsX3_readLine (wsV RX3 113 RX3 yX3_readDegrees wsX3_readDegrees) := goodIn_app (goodIn_of _ (by decide +kernel)) ggX3_readLine_X3_readDegrees
set_option maxRecDepth 20000 in
theorem ggX3_readLine_X3_readForget : GoodIn wsX3_readLine wsX3_readForget := goodIn_r _ [172, 2, 173, 174, 175, 102, 176, 104, 129, 161, 177, 178, 179, 180, 181, 182, 183, 184, 185, 186, 187, 188, 189, 190, 191, 192, 193, 194, 195, 196, 197, 198, 199, 200] (by decide +kernel) (by decide +kernel)
set_option maxRecDepth 20000 in
theorem gX3_readLine_X3_readForget : GoodIn wsX3_readLine (wsV RX3 118 RX3 yX3_readForget wsX3_readForget) := goodIn_app (goodIn_of _ (by decide +kernel)) ggX3_readLine_X3_readForget
set_option maxRecDepth 20000 in
theorem ggX3_readLetter_X3_readWord : GoodIn wsX3_readLetter wsX3_readWord := goodIn_r _ [8, 9, 10, 11, 12, 13, 7, 14, 15, 16, 17, 18, 1, 19, 20, 21, 22, 23, 24, 25, 26, 27, 28, 29, 30, 41, 42, 43, 44, 45, 46, 47, 48, 49, 50, 51] (by decide +kernel) (by decide +kernel)
set_option maxRecDepth 20000 in
theorem gX3_readLetter_X3_readWord : GoodIn wsX3_readLetter (wsV RX3 77 RX3 yX3_readWord wsX3_readWord) := goodIn_app (goodIn_of _ (by decide +kernel)) ggX3_readLetter_X3_readWord
set_option maxRecDepth 20000 in
theorem ggX3_readLetter_X6_lastLetter : GoodIn wsX3_readLetter wsX6_lastLetter := goodIn_r _ [33, 34] (by decide +kernel) (by decide +kernel)
set_option maxRecDepth 20000 in
theorem gX3_readLetter_X6_lastLetter_n121 : GoodIn wsX3_readLetter (wsX6_lastLetter) := ggX3_readLetter_X6_lastLetter
set_option maxRecDepth 20000 in
theorem ggX3_readLetter_X6_isLetter : GoodIn wsX3_readLetter wsX6_isLetter := goodIn_r _ [36] (by decide +kernel) (by decide +kernel)
set_option maxRecDepth 20000 in
theorem gX3_readLetter_X6_isLetter_n125 : GoodIn wsX3_readLetter (wsX6_isLetter) := ggX3_readLetter_X6_isLetter
set_option maxRecDepth 20000 in
theorem ggX3_readLetter_X3_readNumber : GoodIn wsX3_readLetter wsX3_readNumber := goodIn_r _ [40, 9, 10, 1, 11, 12, 13, 7, 14, 15, 16, 17, 18, 19, 20, 21, 22, 23, 24, 25, 26, 27, 28, 29, 30, 41, 42, 43, 44, 45, 46, 47, 48, 49, 50, 51] (by decide +kernel) (by decide +kernel)
set_option maxRecDepth 20000 in
theorem gX3_readLetter_X3_readNumber : GoodIn wsX3_readLetter (wsV RX3 128 RX3 yX3_readNumber wsX3_readNumber) := goodIn_app (goodIn_of _ (by decide +kernel)) ggX3_readLetter_X3_readNumber
set_option maxRecDepth 20000 in
theorem ggX3_readParents_X3_readPerson : GoodIn wsX3_readParents wsX3_readPerson := goodIn_r _ [8, 9, 10, 11, 12, 13, 7, 14, 15, 16, 1, 17, 18, 19, 20, 21, 22, 23, 24, 25, 26, 27, 28, 29, 30, 31, 32, 33, 34, 35, 36, 37, 38, 39, 40, 41, 42, 43, 44, 45, 46, 47, 48, 49, 50, 51, 52, 53, 54, 55, 56, 57, 58, 59, 60] (by decide +kernel) (by decide +kernel)
set_option maxRecDepth 20000 in
theorem gX3_readParents_X3_readPerson : GoodIn wsX3_readParents (wsV RX3 135 RX3 yX3_readPerson wsX3_readPerson) := goodIn_app (goodIn_of _ (by decide +kernel)) ggX3_readParents_X3_readPerson
set_option maxRecDepth 20000 in
theorem ggX3_readBirth_X3_readNumber : GoodIn wsX3_readBirth wsX3_readNumber := goodIn_r _ [9, 10, 11, 1, 12, 13, 14, 8, 15, 16, 17, 18, 19, 20, 21, 22, 23, 24, 25, 26, 27, 28, 29, 30, 31, 52, 53, 54, 55, 56, 57, 58, 59, 60, 61, 62] (by decide +kernel) (by decide +kernel)
set_option maxRecDepth 20000 in
theorem gX3_readBirth_X3_readNumber : GoodIn wsX3_readBirth (wsV RX3 128 RX3 yX3_readNumber wsX3_readNumber) := goodIn_app (goodIn_of _ (by decide +kernel)) ggX3_readBirth_X3_readNumber
set_option maxRecDepth 20000 in
theorem ggX3_readBirth_X3_readWordOrNothing : GoodIn wsX3_readBirth wsX3_readWordOrNothing := goodIn_r _ [35, 10, 1, 36, 11, 12, 13, 14, 8, 15, 16, 17, 18, 19, 20, 21, 22, 23, 24, 25, 26, 27, 28, 29, 30, 31, 52, 53, 54, 55, 56, 57, 58, 59, 60, 61, 62] (by decide +kernel) (by decide +kernel)
set_option maxRecDepth 20000 in
theorem gX3_readBirth_X3_readWordOrNothing : GoodIn wsX3_readBirth (wsV RX3 138 RX3 yX3_readWordOrNothing wsX3_readWordOrNothing) := goodIn_app (goodIn_of _ (by decide +kernel)) ggX3_readBirth_X3_readWordOrNothing
set_option maxRecDepth 20000 in
theorem ggX3_readBirth_X5_addPerson : GoodIn wsX3_readBirth wsX5_addPerson := goodIn_r _ [41, 42, 43, 44, 45, 46, 47, 48, 49, 50, 40, 51, 63, 64, 65, 66, 67, 68, 69, 70, 71, 72, 73, 74, 75] (by decide +kernel) (by decide +kernel)
set_option maxRecDepth 20000 in
theorem gX3_readBirth_X5_addPerson : GoodIn wsX3_readBirth (wsV RX3 141 RX5 yX5_addPerson wsX5_addPerson) := goodIn_app (goodIn_of _ (by decide +kernel)) ggX3_readBirth_X5_addPerson
set_option maxRecDepth 20000 in
theorem ggX3_readCall_X3_readPerson : GoodIn wsX3_readCall wsX3_readPerson := goodIn_r _ [8, 2, 9, 10, 11, 12, 7, 13, 14, 15, 1, 16, 17, 18, 19, 20, 21, 22, 23, 24, 25, 26, 27, 28, 29, 30, 31, 32, 33, 34, 35, 41, 42, 43, 44, 45, 46, 47, 48, 49, 50, 51, 52, 53, 54, 55, 56, 57, 58, 59, 60, 61, 62, 63, 64] (by decide +kernel) (by decide +kernel)
set_option maxRecDepth 20000 in
theorem gX3_readCall_X3_readPerson : GoodIn wsX3_readCall (wsV RX3 135 RX3 yX3_readPerson wsX3_readPerson) := goodIn_app (goodIn_of _ (by decide +kernel)) ggX3_readCall_X3_readPerson
set_option maxRecDepth 20000 in
theorem ggX3_readCall_X3_readWordOrNothing : GoodIn wsX3_readCall wsX3_readWordOrNothing := goodIn_r _ [39, 14, 1, 40, 15, 16, 17, 18, 7, 19, 20, 21, 22, 23, 24, 25, 26, 27, 28, 29, 30, 31, 32, 33, 34, 35, 41, 42, 43, 44, 45, 46, 47, 48, 49, 50, 51] (by decide +kernel) (by decide +kernel)
set_option maxRecDepth 20000 in
theorem gX3_readCall_X3_readWordOrNothing : GoodIn wsX3_readCall (wsV RX3 138 RX3 yX3_readWordOrNothing wsX3_readWordOrNothing) := goodIn_app (goodIn_of _ (by decide +kernel)) ggX3_readCall_X3_readWordOrNothing
set_option maxRecDepth 20000 in
theorem ggX3_readHope_X3_readNumber : GoodIn wsX3_readHope wsX3_readNumber := goodIn_r _ [8, 9, 10, 3, 11, 12, 13, 7, 14, 15, 16, 17, 18, 19, 20, 21, 22, 23, 24, 25, 26, 27, 28, 29, 30, 39, 40, 41, 42, 43, 44, 45, 46, 47, 48, 49] (by decide +kernel) (by decide +kernel)
set_option maxRecDepth 20000 in
theorem gX3_readHope_X3_readNumber : GoodIn wsX3_readHope (wsV RX3 128 RX3 yX3_readNumber wsX3_readNumber) := goodIn_app (goodIn_of _ (by decide +kernel)) ggX3_readHope_X3_readNumber
set_option maxRecDepth 20000 in
theorem ggX3_readHope_X5_addHope : GoodIn wsX3_readHope wsX5_addHope := goodIn_r _ [35, 36, 37, 38, 50, 51, 52, 53, 54, 55, 56, 57, 58, 59, 60, 61, 62] (by decide +kernel) (by decide +kernel)
set_option maxRecDepth 20000 in
theorem gX3_readHope_X5_addHope : GoodIn wsX3_readHope (wsV RX3 152 RX5 yX5_addHope wsX5_addHope) := goodIn_app (goodIn_of _ (by decide +kernel)) ggX3_readHope_X5_addHope
set_option maxRecDepth 20000 in
theorem ggX3_readDegrees_X3_readNumber : GoodIn wsX3_readDegrees wsX3_readNumber := goodIn_r _ [8, 9, 10, 2, 11, 12, 13, 7, 14, 15, 16, 17, 18, 19, 20, 21, 22, 23, 24, 25, 26, 27, 28, 29, 30, 31, 32, 33, 34, 35, 36, 37, 38, 39, 40, 41] (by decide +kernel) (by decide +kernel)
set_option maxRecDepth 20000 in
theorem gX3_readDegrees_X3_readNumber : GoodIn wsX3_readDegrees (wsV RX3 128 RX3 yX3_readNumber wsX3_readNumber) := goodIn_app (goodIn_of _ (by decide +kernel)) ggX3_readDegrees_X3_readNumber
set_option maxRecDepth 20000 in
theorem ggX3_readForget_X5_forgetAll : GoodIn wsX3_readForget wsX5_forgetAll := goodIn_r _ [6, 7, 8, 9, 21, 22, 23, 24, 25, 26, 27, 28, 29, 30, 31, 32, 33] (by decide +kernel) (by decide +kernel)
set_option maxRecDepth 20000 in
theorem gX3_readForget_X5_forgetAll : GoodIn wsX3_readForget (wsV RX3 159 RX5 yX5_forgetAll wsX5_forgetAll) := goodIn_app (goodIn_of _ (by decide +kernel)) ggX3_readForget_X5_forgetAll
set_option maxRecDepth 20000 in
theorem ggX3_readPerson_X3_readNumber : GoodIn wsX3_readPerson wsX3_readNumber := goodIn_r _ [7, 8, 9, 10, 11, 12, 13, 6, 14, 15, 16, 17, 18, 19, 20, 21, 22, 23, 24, 25, 26, 27, 28, 29, 30, 31, 32, 33, 34, 35, 36, 37, 38, 39, 40, 41] (by decide +kernel) (by decide +kernel)
set_option maxRecDepth 20000 in
theorem gX3_readPerson_X3_readNumber : GoodIn wsX3_readPerson (wsV RX3 128 RX3 yX3_readNumber wsX3_readNumber) := goodIn_app (goodIn_of _ (by decide +kernel)) ggX3_readPerson_X3_readNumber
set_option maxRecDepth 20000 in
theorem ggX3_readNumber_X3_readToken : GoodIn wsX3_readNumber wsX3_readToken := goodIn_r _ [8, 9, 10, 11, 12, 3, 1, 2, 13, 14, 15, 7, 16, 17, 18, 19, 20, 21, 22, 23, 24, 25, 26, 27, 28, 29, 30, 31, 32, 33, 34, 35] (by decide +kernel) (by decide +kernel)
set_option maxRecDepth 20000 in
theorem gX3_readNumber_X3_readToken : GoodIn wsX3_readNumber (wsV RX3 61 RX3 yX3_readToken wsX3_readToken) := goodIn_app (goodIn_of _ (by decide +kernel)) ggX3_readNumber_X3_readToken
set_option maxRecDepth 20000 in
theorem ggX3_readWord_X3_readToken : GoodIn wsX3_readWord wsX3_readToken := goodIn_r _ [7, 8, 9, 10, 11, 12, 1, 2, 13, 14, 15, 6, 16, 17, 18, 19, 20, 21, 22, 23, 24, 25, 26, 27, 28, 29, 30, 31, 32, 33, 34, 35] (by decide +kernel) (by decide +kernel)
set_option maxRecDepth 20000 in
theorem gX3_readWord_X3_readToken : GoodIn wsX3_readWord (wsV RX3 61 RX3 yX3_readToken wsX3_readToken) := goodIn_app (goodIn_of _ (by decide +kernel)) ggX3_readWord_X3_readToken
set_option maxRecDepth 20000 in
theorem ggX3_readWordOrNothing_X3_readToken : GoodIn wsX3_readWordOrNothing wsX3_readToken := goodIn_r _ [9, 10, 11, 12, 13, 2, 1, 4, 14, 15, 16, 8, 17, 18, 19, 20, 21, 22, 23, 24, 25, 26, 27, 28, 29, 30, 31, 32, 33, 34, 35, 36] (by decide +kernel) (by decide +kernel)
set_option maxRecDepth 20000 in
theorem gX3_readWordOrNothing_X3_readToken : GoodIn wsX3_readWordOrNothing (wsV RX3 61 RX3 yX3_readToken wsX3_readToken) := goodIn_app (goodIn_of _ (by decide +kernel)) ggX3_readWordOrNothing_X3_readToken
set_option maxRecDepth 20000 in
theorem ggX3_says_J0_length_8abf5 : GoodIn wsX3_says wsJ0_length_8abf5 := goodIn_r _ [8, 9, 10, 11, 12, 7, 13, 14, 15] (by decide +kernel) (by decide +kernel)
set_option maxRecDepth 20000 in
theorem gX3_says_J0_length_8abf5 : GoodIn wsX3_says (wsV RX3 164 RJ0 yJ0_length_8abf5 wsJ0_length_8abf5) := goodIn_app (goodIn_of _ (by decide +kernel)) ggX3_says_J0_length_8abf5
set_option maxRecDepth 20000 in
theorem ggX3_says_J0_charAt_5068e : GoodIn wsX3_says wsJ0_charAt_5068e := goodIn_r _ [19, 9, 20, 21, 22, 7, 23, 14, 15, 24, 25, 26, 27, 28, 29, 30, 31, 32, 33, 34, 35, 36, 37, 38, 39, 40, 41, 42, 43, 44, 45, 46, 47, 48, 49, 50, 51, 52] (by decide +kernel) (by decide +kernel)
set_option maxRecDepth 20000 in
theorem gX3_says_J0_charAt_5068e : GoodIn wsX3_says (wsV RX3 169 RJ0 yJ0_charAt_5068e wsJ0_charAt_5068e) := goodIn_app (goodIn_of _ (by decide +kernel)) ggX3_says_J0_charAt_5068e
set_option maxRecDepth 20000 in
theorem ggX3_readToken_X3_kindAt : GoodIn wsX3_readToken wsX3_kindAt := goodIn_r _ [12, 2, 3, 21, 22, 23, 24, 25, 26, 27, 28, 29, 30, 31] (by decide +kernel) (by decide +kernel)
set_option maxRecDepth 20000 in
theorem gX3_readToken_X3_kindAt : GoodIn wsX3_readToken (wsV RX3 173 RX3 yX3_kindAt wsX3_kindAt) := goodIn_app (goodIn_of _ (by decide +kernel)) ggX3_readToken_X3_kindAt
set_option maxRecDepth 20000 in
theorem ggX3_readToken_X3_valueWith : GoodIn wsX3_readToken wsX3_valueWith := goodIn_r _ [16, 6, 5, 17, 18, 19, 20, 21, 22, 23, 24, 25, 26, 27, 28, 29, 30, 31] (by decide +kernel) (by decide +kernel)
set_option maxRecDepth 20000 in
theorem gX3_readToken_X3_valueWith : GoodIn wsX3_readToken (wsV RX3 177 RX3 yX3_valueWith wsX3_valueWith) := goodIn_app (goodIn_of _ (by decide +kernel)) ggX3_readToken_X3_valueWith
set_option maxRecDepth 20000 in
theorem ggX4_hasOnlyDays_X6_isDay : GoodIn wsX4_hasOnlyDays wsX6_isDay := goodIn_r _ [4] (by decide +kernel) (by decide +kernel)
set_option maxRecDepth 20000 in
theorem gX4_hasOnlyDays_X6_isDay_n22 : GoodIn wsX4_hasOnlyDays (wsX6_isDay) := ggX4_hasOnlyDays_X6_isDay
set_option maxRecDepth 20000 in
theorem ggX5_addSyllable_X5_isSyllable : GoodIn wsX5_addSyllable wsX5_isSyllable := goodIn_r _ [7, 1, 2, 8, 9, 10, 11, 12, 13, 14, 15, 16, 17, 18, 19, 20] (by decide +kernel) (by decide +kernel)
set_option maxRecDepth 20000 in
theorem gX5_addSyllable_X5_isSyllable : GoodIn wsX5_addSyllable (wsV RX5 59 RX5 yX5_isSyllable wsX5_isSyllable) := goodIn_app (goodIn_of _ (by decide +kernel)) ggX5_addSyllable_X5_isSyllable
set_option maxRecDepth 20000 in
theorem ggX5_addPerson_X5_kindOf : GoodIn wsX5_addPerson wsX5_kindOf := goodIn_r _ [11, 1, 3, 4, 5, 12, 13, 14, 15, 16, 17, 18, 19, 20, 21, 22, 23, 24] (by decide +kernel) (by decide +kernel)
set_option maxRecDepth 20000 in
theorem gX5_addPerson_X5_kindOf : GoodIn wsX5_addPerson (wsV RX5 63 RX5 yX5_kindOf wsX5_kindOf) := goodIn_app (goodIn_of _ (by decide +kernel)) ggX5_addPerson_X5_kindOf
set_option maxRecDepth 20000 in
theorem ggX5_sumOf_X6_lastLetter : GoodIn wsX5_sumOf wsX6_lastLetter := goodIn_r _ [5, 6] (by decide +kernel) (by decide +kernel)
set_option maxRecDepth 20000 in
theorem gX5_sumOf_X6_lastLetter_n67 : GoodIn wsX5_sumOf (wsX6_lastLetter) := ggX5_sumOf_X6_lastLetter
set_option maxRecDepth 20000 in
theorem ggX5_sumOf_X6_isLetter : GoodIn wsX5_sumOf wsX6_isLetter := goodIn_r _ [8] (by decide +kernel) (by decide +kernel)
set_option maxRecDepth 20000 in
theorem gX5_sumOf_X6_isLetter_n71 : GoodIn wsX5_sumOf (wsX6_isLetter) := ggX5_sumOf_X6_isLetter
set_option maxRecDepth 20000 in
theorem ggX5_sumInNames_X6_lastLetter : GoodIn wsX5_sumInNames wsX6_lastLetter := goodIn_r _ [5, 6] (by decide +kernel) (by decide +kernel)
set_option maxRecDepth 20000 in
theorem gX5_sumInNames_X6_lastLetter_n67 : GoodIn wsX5_sumInNames (wsX6_lastLetter) := ggX5_sumInNames_X6_lastLetter
set_option maxRecDepth 20000 in
theorem ggX5_sumInNames_X6_isLetter : GoodIn wsX5_sumInNames wsX6_isLetter := goodIn_r _ [8] (by decide +kernel) (by decide +kernel)
set_option maxRecDepth 20000 in
theorem gX5_sumInNames_X6_isLetter_n71 : GoodIn wsX5_sumInNames (wsX6_isLetter) := ggX5_sumInNames_X6_isLetter
set_option maxRecDepth 20000 in
theorem ggX5_sumInNames_X5_sumOf : GoodIn wsX5_sumInNames wsX5_sumOf := goodIn_r _ [13, 1, 2, 3, 4, 5, 6, 7, 8, 14, 15, 16, 17, 18, 19, 20, 21, 22, 23, 24, 25, 26] (by decide +kernel) (by decide +kernel)
set_option maxRecDepth 20000 in
theorem gX5_sumInNames_X5_sumOf : GoodIn wsX5_sumInNames (wsV RX5 77 RX5 yX5_sumOf wsX5_sumOf) := goodIn_app (goodIn_of _ (by decide +kernel)) ggX5_sumInNames_X5_sumOf
set_option maxRecDepth 20000 in
theorem ggX5_isName_X5_sumInNames : GoodIn wsX5_isName wsX5_sumInNames := goodIn_r _ [5, 6, 7, 8, 9, 10, 11, 12, 13, 14, 15, 16, 4, 17, 28, 29, 30, 31, 32, 33, 34, 35, 36, 37, 38, 39, 40] (by decide +kernel) (by decide +kernel)
set_option maxRecDepth 20000 in
theorem gX5_isName_X5_sumInNames : GoodIn wsX5_isName (wsV RX5 80 RX5 yX5_sumInNames wsX5_sumInNames) := goodIn_app (goodIn_of _ (by decide +kernel)) ggX5_isName_X5_sumInNames
set_option maxRecDepth 20000 in
theorem ggX5_isName_X5_isParted : GoodIn wsX5_isName wsX5_isParted := goodIn_r _ [21, 7, 22, 23, 24, 4, 25, 26, 27, 18, 19, 20, 28, 29, 30, 31, 32, 33, 34, 35, 36, 37, 38, 39, 40] (by decide +kernel) (by decide +kernel)
set_option maxRecDepth 20000 in
theorem gX5_isName_X5_isParted : GoodIn wsX5_isName (wsV RX5 83 RX5 yX5_isParted wsX5_isParted) := goodIn_app (goodIn_of _ (by decide +kernel)) ggX5_isName_X5_isParted
set_option maxRecDepth 20000 in
theorem ggX5_isParted_X5_isSyllable : GoodIn wsX5_isParted wsX5_isSyllable := goodIn_r _ [6, 7, 8, 12, 13, 14, 15, 16, 17, 18, 19, 20, 21, 22, 23, 24] (by decide +kernel) (by decide +kernel)
set_option maxRecDepth 20000 in
theorem gX5_isParted_X5_isSyllable : GoodIn wsX5_isParted (wsV RX5 59 RX5 yX5_isSyllable wsX5_isSyllable) := goodIn_app (goodIn_of _ (by decide +kernel)) ggX5_isParted_X5_isSyllable
set_option maxRecDepth 20000 in
theorem ggX5_isParted_X5_isParted : GoodIn wsX5_isParted wsX5_isParted := goodIn_r _ [0, 1, 2, 3, 4, 5, 6, 7, 8, 9, 10, 11, 12, 13, 14, 15, 16, 17, 18, 19, 20, 21, 22, 23, 24] (by decide +kernel) (by decide +kernel)
set_option maxRecDepth 20000 in
theorem gX5_isParted_X5_isParted : GoodIn wsX5_isParted (wsV RX5 83 RX5 yX5_isParted wsX5_isParted) := goodIn_app (goodIn_of _ (by decide +kernel)) ggX5_isParted_X5_isParted
set_option maxRecDepth 20000 in
theorem ggX5_addsUp_X5_sumOf : GoodIn wsX5_addsUp wsX5_sumOf := goodIn_r _ [7, 8, 9, 10, 11, 12, 13, 14, 15, 16, 17, 18, 19, 20, 21, 22, 23, 24, 25, 26, 27, 28] (by decide +kernel) (by decide +kernel)
set_option maxRecDepth 20000 in
theorem gX5_addsUp_X5_sumOf : GoodIn wsX5_addsUp (wsV RX5 77 RX5 yX5_sumOf wsX5_sumOf) := goodIn_app (goodIn_of _ (by decide +kernel)) ggX5_addsUp_X5_sumOf
set_option maxRecDepth 20000 in
theorem ggX5_faultOfName_X5_isName : GoodIn wsX5_faultOfName wsX5_isName := goodIn_r _ [6, 7, 8, 9, 5, 10, 11, 12, 13, 14, 15, 16, 17, 18, 19, 20, 21, 22, 23, 24, 25, 26, 27, 28, 29, 30, 31, 32, 59, 60, 61, 62, 63, 64, 65, 66, 67, 68, 69, 70, 71] (by decide +kernel) (by decide +kernel)
set_option maxRecDepth 20000 in
theorem gX5_faultOfName_X5_isName : GoodIn wsX5_faultOfName (wsV RX5 87 RX5 yX5_isName wsX5_isName) := goodIn_app (goodIn_of _ (by decide +kernel)) ggX5_faultOfName_X5_isName
set_option maxRecDepth 20000 in
theorem ggX5_faultOfName_X5_addsUp : GoodIn wsX5_faultOfName wsX5_addsUp := goodIn_r _ [36, 1, 37, 19, 20, 21, 5, 22, 11, 12, 13, 14, 15, 16, 17, 18, 59, 60, 61, 62, 63, 64, 65, 66, 67, 68, 69, 70, 71] (by decide +kernel) (by decide +kernel)
set_option maxRecDepth 20000 in
theorem gX5_faultOfName_X5_addsUp : GoodIn wsX5_faultOfName (wsV RX5 90 RX5 yX5_addsUp wsX5_addsUp) := goodIn_app (goodIn_of _ (by decide +kernel)) ggX5_faultOfName_X5_addsUp
set_option maxRecDepth 20000 in
theorem ggX5_faultOfName_X5_nearOf : GoodIn wsX5_faultOfName wsX5_nearOf := goodIn_r _ [41, 42, 43, 44, 45, 5, 46, 47, 48, 49, 50, 51, 52, 53, 54, 59, 60, 61, 62, 63, 64, 65, 66, 67, 68, 69, 70, 71] (by decide +kernel) (by decide +kernel)
set_option maxRecDepth 20000 in
theorem gX5_faultOfName_X5_nearOf : GoodIn wsX5_faultOfName (wsV RX5 93 RX5 yX5_nearOf wsX5_nearOf) := goodIn_app (goodIn_of _ (by decide +kernel)) ggX5_faultOfName_X5_nearOf
set_option maxRecDepth 20000 in
theorem ggX5_faultOfName_X5_leastCalled : GoodIn wsX5_faultOfName wsX5_leastCalled := goodIn_r _ [58, 51, 1, 59, 60, 61, 62, 63, 64, 65, 66, 67, 68, 69, 70, 71] (by decide +kernel) (by decide +kernel)
set_option maxRecDepth 20000 in
theorem gX5_faultOfName_X5_leastCalled : GoodIn wsX5_faultOfName (wsV RX5 97 RX5 yX5_leastCalled wsX5_leastCalled) := goodIn_app (goodIn_of _ (by decide +kernel)) ggX5_faultOfName_X5_leastCalled
set_option maxRecDepth 20000 in
theorem ggX5_nearOf_X5_within : GoodIn wsX5_nearOf wsX5_within := goodIn_r _ [6, 7, 8, 9, 5, 10, 11, 12, 13, 14, 15, 16, 17, 18, 19, 20, 21, 22, 23, 24, 25, 26, 27] (by decide +kernel) (by decide +kernel)
set_option maxRecDepth 20000 in
theorem gX5_nearOf_X5_within : GoodIn wsX5_nearOf (wsV RX5 101 RX5 yX5_within wsX5_within) := goodIn_app (goodIn_of _ (by decide +kernel)) ggX5_nearOf_X5_within
set_option maxRecDepth 20000 in
theorem ggX5_nearChildOf_X5_within : GoodIn wsX5_nearChildOf wsX5_within := goodIn_r _ [6, 7, 8, 9, 5, 10, 11, 12, 13, 14, 15, 16, 17, 18, 19, 20, 21, 22, 23, 24, 25, 26, 27] (by decide +kernel) (by decide +kernel)
set_option maxRecDepth 20000 in
theorem gX5_nearChildOf_X5_within : GoodIn wsX5_nearChildOf (wsV RX5 101 RX5 yX5_within wsX5_within) := goodIn_app (goodIn_of _ (by decide +kernel)) ggX5_nearChildOf_X5_within
set_option maxRecDepth 20000 in
theorem ggX5_within_X5_oneStepMore : GoodIn wsX5_within wsX5_oneStepMore := goodIn_r _ [5, 6, 7, 8, 9, 10, 11, 12, 13, 14, 15, 16, 17, 18, 19, 20, 21, 22] (by decide +kernel) (by decide +kernel)
set_option maxRecDepth 20000 in
theorem gX5_within_X5_oneStepMore : GoodIn wsX5_within (wsV RX5 105 RX5 yX5_oneStepMore wsX5_oneStepMore) := goodIn_app (goodIn_of _ (by decide +kernel)) ggX5_within_X5_oneStepMore
set_option maxRecDepth 20000 in
theorem ggX5_stepsBetween_X5_oneStepMore : GoodIn wsX5_stepsBetween wsX5_oneStepMore := goodIn_r _ [5, 6, 7, 8, 9, 10, 11, 12, 13, 14, 15, 16, 17, 18, 19, 20, 21, 22] (by decide +kernel) (by decide +kernel)
set_option maxRecDepth 20000 in
theorem gX5_stepsBetween_X5_oneStepMore : GoodIn wsX5_stepsBetween (wsV RX5 105 RX5 yX5_oneStepMore wsX5_oneStepMore) := goodIn_app (goodIn_of _ (by decide +kernel)) ggX5_stepsBetween_X5_oneStepMore
set_option maxRecDepth 20000 in
theorem ggX5_sumOfAll_X5_sumOf : GoodIn wsX5_sumOfAll wsX5_sumOf := goodIn_r _ [7, 8, 9, 10, 11, 12, 13, 14, 15, 16, 17, 18, 19, 20, 21, 22, 23, 24, 25, 26, 27, 28] (by decide +kernel) (by decide +kernel)
set_option maxRecDepth 20000 in
theorem gX5_sumOfAll_X5_sumOf : GoodIn wsX5_sumOfAll (wsV RX5 77 RX5 yX5_sumOf wsX5_sumOf) := goodIn_app (goodIn_of _ (by decide +kernel)) ggX5_sumOfAll_X5_sumOf
set_option maxRecDepth 20000 in
theorem ggX5_changesBy_X6_lastLetter : GoodIn wsX5_changesBy wsX6_lastLetter := goodIn_r _ [5, 6] (by decide +kernel) (by decide +kernel)
set_option maxRecDepth 20000 in
theorem gX5_changesBy_X6_lastLetter_n67 : GoodIn wsX5_changesBy (wsX6_lastLetter) := ggX5_changesBy_X6_lastLetter
set_option maxRecDepth 20000 in
theorem ggX5_changesBy_X6_isLetter : GoodIn wsX5_changesBy wsX6_isLetter := goodIn_r _ [8] (by decide +kernel) (by decide +kernel)
set_option maxRecDepth 20000 in
theorem gX5_changesBy_X6_isLetter_n71 : GoodIn wsX5_changesBy (wsX6_isLetter) := ggX5_changesBy_X6_isLetter
set_option maxRecDepth 20000 in
theorem ggX5_changesBy_X5_othersOfNumber : GoodIn wsX5_changesBy wsX5_othersOfNumber := goodIn_r _ [13, 1, 14, 15, 16, 17, 18, 19, 20, 21, 22, 23, 24, 25, 26] (by decide +kernel) (by decide +kernel)
set_option maxRecDepth 20000 in
theorem gX5_changesBy_X5_othersOfNumber : GoodIn wsX5_changesBy (wsV RX5 108 RX5 yX5_othersOfNumber wsX5_othersOfNumber) := goodIn_app (goodIn_of _ (by decide +kernel)) ggX5_changesBy_X5_othersOfNumber
set_option maxRecDepth 20000 in
theorem ggJ0_length_8abf5_J0_coder_7d493 : GoodIn wsJ0_length_8abf5 wsJ0_coder_7d493 := goodIn_r _ [6, 7, 8] (by decide +kernel) (by decide +kernel)
set_option maxRecDepth 20000 in
theorem gJ0_length_8abf5_J0_coder_7d493 : GoodIn wsJ0_length_8abf5 (wsV RJ0 335 RJ0 yJ0_coder_7d493 wsJ0_coder_7d493) := goodIn_app (goodIn_of _ (by decide +kernel)) ggJ0_length_8abf5_J0_coder_7d493
set_option maxRecDepth 20000 in
theorem ggJ0_charAt_5068e_J0_isLatin1_aae02 : GoodIn wsJ0_charAt_5068e wsJ0_isLatin1_aae02 := goodIn_r _ [6, 7, 8] (by decide +kernel) (by decide +kernel)
set_option maxRecDepth 20000 in
theorem gJ0_charAt_5068e_J0_isLatin1_aae02 : GoodIn wsJ0_charAt_5068e (wsV RJ0 492 RJ0 yJ0_isLatin1_aae02 wsJ0_isLatin1_aae02) := goodIn_app (goodIn_of _ (by decide +kernel)) ggJ0_charAt_5068e_J0_isLatin1_aae02
set_option maxRecDepth 20000 in
theorem ggJ0_charAt_5068e_J1_charAt_3b067 : GoodIn wsJ0_charAt_5068e wsJ1_charAt_3b067 := goodIn_r _ [12, 13, 14, 5, 15, 16, 17, 18, 19, 20] (by decide +kernel) (by decide +kernel)
set_option maxRecDepth 20000 in
theorem gJ0_charAt_5068e_J1_charAt_3b067 : GoodIn wsJ0_charAt_5068e (va_wsS RJ0 495 yJ1_charAt_3b067 wsJ1_charAt_3b067) := goodIn_app (goodIn_of _ (by decide +kernel)) ggJ0_charAt_5068e_J1_charAt_3b067
set_option maxRecDepth 20000 in
theorem ggJ0_charAt_5068e_J2_charAt_3b067 : GoodIn wsJ0_charAt_5068e wsJ2_charAt_3b067 := goodIn_r _ [24, 25, 26, 23, 27, 28, 29, 30, 31, 14, 5, 15, 16, 17, 18, 19, 20, 32, 33, 34, 35, 36, 37] (by decide +kernel) (by decide +kernel)
set_option maxRecDepth 20000 in
theorem gJ0_charAt_5068e_J2_charAt_3b067 : GoodIn wsJ0_charAt_5068e (va_wsS RJ0 498 yJ2_charAt_3b067 wsJ2_charAt_3b067) := goodIn_app (goodIn_of _ (by decide +kernel)) ggJ0_charAt_5068e_J2_charAt_3b067
set_option maxRecDepth 20000 in
theorem ggJ0_checkIndex_df160_J3_checkIndex_8e157 : GoodIn wsJ0_checkIndex_df160 wsJ3_checkIndex_8e157 := goodIn_r _ [5] (by decide +kernel) (by decide +kernel)
set_option maxRecDepth 20000 in
theorem gJ0_checkIndex_df160_J3_checkIndex_8e157 : GoodIn wsJ0_checkIndex_df160 (va_wsS RJ0 1059 yJ3_checkIndex_8e157 wsJ3_checkIndex_8e157) := goodIn_app (goodIn_of _ (by decide +kernel)) ggJ0_checkIndex_df160_J3_checkIndex_8e157
set_option maxRecDepth 20000 in
theorem ggJ1_charAt_3b067_J0_checkIndex_df160 : GoodIn wsJ1_charAt_3b067 wsJ0_checkIndex_df160 := goodIn_r _ [4, 5, 6, 7, 8, 9] (by decide +kernel) (by decide +kernel)
set_option maxRecDepth 20000 in
theorem gJ1_charAt_3b067_J0_checkIndex_df160 : GoodIn wsJ1_charAt_3b067 (va_wsS RJ1 9 yJ0_checkIndex_df160 wsJ0_checkIndex_df160) := goodIn_app (goodIn_of _ (by decide +kernel)) ggJ1_charAt_3b067_J0_checkIndex_df160
set_option maxRecDepth 20000 in
theorem ggJ2_getChar_3b067_J2_length_9d52b : GoodIn wsJ2_getChar_3b067 wsJ2_length_9d52b := goodIn_r _ [7] (by decide +kernel) (by decide +kernel)
set_option maxRecDepth 20000 in
theorem gJ2_getChar_3b067_J2_length_9d52b : GoodIn wsJ2_getChar_3b067 (va_wsS RJ2 48 yJ2_length_9d52b wsJ2_length_9d52b) := goodIn_app (goodIn_of _ (by decide +kernel)) ggJ2_getChar_3b067_J2_length_9d52b
set_option maxRecDepth 20000 in
theorem ggJ2_charAt_3b067_J2_checkIndex_2214a : GoodIn wsJ2_charAt_3b067 wsJ2_checkIndex_2214a := goodIn_r _ [4, 5, 6, 3, 7, 8, 9, 10, 11, 12, 13, 14, 15, 16] (by decide +kernel) (by decide +kernel)
set_option maxRecDepth 20000 in
theorem gJ2_charAt_3b067_J2_checkIndex_2214a : GoodIn wsJ2_charAt_3b067 (va_wsS RJ2 67 yJ2_checkIndex_2214a wsJ2_checkIndex_2214a) := goodIn_app (goodIn_of _ (by decide +kernel)) ggJ2_charAt_3b067_J2_checkIndex_2214a
set_option maxRecDepth 20000 in
theorem ggJ2_charAt_3b067_J2_getChar_3b067 : GoodIn wsJ2_charAt_3b067 wsJ2_getChar_3b067 := goodIn_r _ [19, 20, 21, 22, 5, 6, 3, 7] (by decide +kernel) (by decide +kernel)
set_option maxRecDepth 20000 in
theorem gJ2_charAt_3b067_J2_getChar_3b067 : GoodIn wsJ2_charAt_3b067 (va_wsS RJ2 71 yJ2_getChar_3b067 wsJ2_getChar_3b067) := goodIn_app (goodIn_of _ (by decide +kernel)) ggJ2_charAt_3b067_J2_getChar_3b067
set_option maxRecDepth 20000 in
theorem ggJ2_checkIndex_2214a_J2_length_9d52b : GoodIn wsJ2_checkIndex_2214a wsJ2_length_9d52b := goodIn_r _ [4] (by decide +kernel) (by decide +kernel)
set_option maxRecDepth 20000 in
theorem gJ2_checkIndex_2214a_J2_length_9d52b : GoodIn wsJ2_checkIndex_2214a (va_wsS RJ2 48 yJ2_length_9d52b wsJ2_length_9d52b) := goodIn_app (goodIn_of _ (by decide +kernel)) ggJ2_checkIndex_2214a_J2_length_9d52b
set_option maxRecDepth 20000 in
theorem ggJ2_checkIndex_2214a_J0_checkIndex_df160 : GoodIn wsJ2_checkIndex_2214a wsJ0_checkIndex_df160 := goodIn_r _ [8, 9, 10, 11, 12, 13] (by decide +kernel) (by decide +kernel)
set_option maxRecDepth 20000 in
theorem gJ2_checkIndex_2214a_J0_checkIndex_df160 : GoodIn wsJ2_checkIndex_2214a (va_wsS RJ2 414 yJ0_checkIndex_df160 wsJ0_checkIndex_df160) := goodIn_app (goodIn_of _ (by decide +kernel)) ggJ2_checkIndex_2214a_J0_checkIndex_df160
