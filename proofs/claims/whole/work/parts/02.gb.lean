set_option maxRecDepth 20000 in
theorem ggX6_init_X5_init : GoodIn wsX6_init wsX5_init := goodIn_r _ [33, 34, 2, 3, 27, 35, 36, 37, 38, 39, 40, 41, 42, 43, 44, 45, 46, 47, 48, 102, 103, 104, 105, 106, 107, 108, 109, 110, 111, 112, 113, 114] (by decide +kernel) (by decide +kernel)
set_option maxRecDepth 20000 in
theorem gX6_init_X5_init : GoodIn wsX6_init (wsX5_init) := ggX6_init_X5_init
set_option maxRecDepth 20000 in
theorem ggX6_init_X3_init : GoodIn wsX6_init wsX3_init := goodIn_r _ [50, 51, 2, 3, 27, 52, 53, 54, 5, 6, 55, 56, 57, 58, 59, 60, 61, 62, 63, 64, 32, 33, 34, 35, 36, 37, 38, 39, 40, 41, 42, 43, 44, 45, 46, 47, 48, 123, 124, 125, 126, 127, 128, 129, 130, 131, 132, 133, 102, 103, 104, 105, 106, 107, 108, 109, 110, 111, 112, 113, 114] (by decide +kernel) (by decide +kernel)
set_option maxRecDepth 20000 in
theorem gX6_init_X3_init_n22 : GoodIn wsX6_init (wsX3_init) := ggX6_init_X3_init
set_option maxRecDepth 20000 in
theorem ggX6_init_X0_init : GoodIn wsX6_init wsX0_init := goodIn_r _ [66, 67, 2, 3, 36, 68, 69, 70, 71, 27, 72, 73, 74, 75, 134, 135, 136, 137, 138, 139, 140, 141] (by decide +kernel) (by decide +kernel)
set_option maxRecDepth 20000 in
theorem gX6_init_X0_init_n29 : GoodIn wsX6_init (wsX0_init) := ggX6_init_X0_init
set_option maxRecDepth 20000 in
theorem ggX6_init_X2_init : GoodIn wsX6_init wsX2_init := goodIn_r _ [77, 78, 2, 3, 27, 79, 80, 81, 142, 143] (by decide +kernel) (by decide +kernel)
set_option maxRecDepth 20000 in
theorem gX6_init_X2_init_n36 : GoodIn wsX6_init (wsX2_init) := ggX6_init_X2_init
set_option maxRecDepth 20000 in
theorem ggX6_init_X1_init : GoodIn wsX6_init wsX1_init := goodIn_r _ [83, 84, 2, 3, 85, 27, 86, 87, 88, 89, 90, 91, 92, 93, 94, 95, 144, 145, 146, 147, 148, 149, 150, 151, 152, 153] (by decide +kernel) (by decide +kernel)
set_option maxRecDepth 20000 in
theorem gX6_init_X1_init_n43 : GoodIn wsX6_init (wsX1_init) := ggX6_init_X1_init
set_option maxRecDepth 20000 in
theorem ggX6_init_X4_init : GoodIn wsX6_init wsX4_init := goodIn_r _ [97, 98, 2, 3, 27, 99, 100, 101, 154, 155, 156] (by decide +kernel) (by decide +kernel)
set_option maxRecDepth 20000 in
theorem gX6_init_X4_init_n58 : GoodIn wsX6_init (wsX4_init) := ggX6_init_X4_init
set_option maxRecDepth 20000 in
theorem ggX6_write_X3_append : GoodIn wsX6_write wsX3_append := goodIn_r _ [7, 8, 9, 10, 19, 20, 21, 22, 23, 24, 25, 26, 27, 28, 29] (by decide +kernel) (by decide +kernel)
set_option maxRecDepth 20000 in
theorem gX6_write_X3_append : GoodIn wsX6_write (wsV RX6 59 RX3 yX3_append wsX3_append) := goodIn_app (goodIn_of _ (by decide +kernel)) ggX6_write_X3_append
set_option maxRecDepth 20000 in
theorem ggX6_fault_X3_read : GoodIn wsX6_fault wsX3_read := goodIn_r _ [7, 8, 9, 10, 11, 12, 13, 14, 15, 16, 17, 18, 19, 20, 21, 22, 23, 24, 25, 26, 27, 28, 29, 30, 31, 32, 33, 34, 35, 36, 37, 38, 39, 6, 40, 41, 42, 43, 44, 45, 46, 47, 48, 49, 50, 51, 52, 53, 54, 55, 56, 57, 58, 59, 60, 61, 62, 63, 64, 65, 66, 67, 68, 69, 70, 71, 72, 73, 74, 75, 76, 77, 78, 79, 80, 81, 82, 83, 84, 85, 86, 87, 88, 89, 90, 91, 92, 93, 94, 95, 96, 97, 98, 99, 100, 101, 102, 103, 104, 105, 106, 107, 108, 109, 110, 111, 112, 113, 114, 115, 116, 117, 118, 119, 120, 121, 122, 123, 124, 125, 126, 127, 128, 129, 130, 131, 132, 133, 134, 135, 136, 137, 138, 139, 140, 141, 142, 143, 144, 145, 146, 147, 148, 149, 150, 151, 152, 153, 154, 155, 156, 157, 158, 159, 160, 161, 162, 163, 164, 165, 166, 167, 168, 169, 170, 171, 172, 173, 174, 175, 176, 177, 178, 179, 180, 181, 182, 183, 184, 185, 186, 187, 188, 189, 190, 191, 192, 193, 194, 195, 196, 197, 198, 207, 208, 209, 210, 211, 212, 213, 214, 215, 216, 217, 218, 219, 220, 221, 222, 223, 224, 225, 226, 227, 228, 229, 230] (by decide +kernel) (by decide +kernel)
set_option maxRecDepth 20000 in
theorem gX6_fault_X3_read : GoodIn wsX6_fault (wsV RX6 67 RX3 yX3_read wsX3_read) := goodIn_app (goodIn_of _ (by decide +kernel)) ggX6_fault_X3_read
set_option maxRecDepth 20000 in
theorem ggX6_told_X3_read : GoodIn wsX6_told wsX3_read := goodIn_r _ [10, 11, 12, 13, 14, 15, 16, 17, 18, 19, 20, 21, 22, 23, 24, 25, 26, 27, 28, 29, 30, 31, 32, 33, 34, 35, 36, 37, 38, 39, 40, 41, 42, 9, 43, 44, 45, 46, 47, 48, 49, 50, 51, 52, 53, 54, 55, 56, 57, 58, 59, 60, 61, 62, 63, 64, 65, 66, 67, 68, 69, 70, 71, 72, 73, 74, 75, 76, 77, 78, 79, 80, 81, 82, 83, 84, 85, 86, 87, 88, 89, 90, 91, 92, 93, 94, 95, 96, 97, 98, 99, 100, 101, 102, 103, 104, 105, 106, 107, 108, 109, 110, 111, 112, 113, 114, 115, 116, 117, 118, 119, 120, 121, 122, 123, 124, 125, 126, 127, 128, 129, 130, 131, 132, 133, 134, 135, 136, 137, 138, 139, 140, 141, 142, 143, 144, 145, 146, 147, 148, 149, 150, 151, 152, 153, 154, 155, 156, 157, 158, 159, 160, 161, 162, 163, 164, 165, 166, 167, 168, 169, 170, 171, 172, 173, 174, 175, 176, 177, 178, 179, 180, 181, 182, 183, 184, 185, 186, 187, 188, 189, 190, 191, 192, 193, 194, 195, 196, 197, 198, 199, 200, 201, 211, 212, 213, 214, 215, 216, 217, 218, 219, 220, 221, 222, 223, 224, 225, 226, 227, 228, 229, 230, 231, 232, 233, 234] (by decide +kernel) (by decide +kernel)
set_option maxRecDepth 20000 in
theorem gX6_told_X3_read : GoodIn wsX6_told (wsV RX6 67 RX3 yX3_read wsX3_read) := goodIn_app (goodIn_of _ (by decide +kernel)) ggX6_told_X3_read
set_option maxRecDepth 20000 in
theorem ggX6_told_X5_takeFrom : GoodIn wsX6_told wsX5_takeFrom := goodIn_r _ [22, 23, 24, 25, 26, 27, 28, 29, 30, 31, 32, 33, 34, 35, 36, 37, 38, 39, 222, 223, 224, 225, 226, 227, 228, 229, 230, 231, 232, 233, 234] (by decide +kernel) (by decide +kernel)
set_option maxRecDepth 20000 in
theorem gX6_told_X5_takeFrom : GoodIn wsX6_told (wsV RX6 74 RX5 yX5_takeFrom wsX5_takeFrom) := goodIn_app (goodIn_of _ (by decide +kernel)) ggX6_told_X5_takeFrom
set_option maxRecDepth 20000 in
theorem ggX6_letter_X6_isLetter : GoodIn wsX6_letter wsX6_isLetter := goodIn_r _ [6] (by decide +kernel) (by decide +kernel)
set_option maxRecDepth 20000 in
theorem gX6_letter_X6_isLetter : GoodIn wsX6_letter (va_wsS RX6 81 yX6_isLetter wsX6_isLetter) := goodIn_app (goodIn_of _ (by decide +kernel)) ggX6_letter_X6_isLetter
set_option maxRecDepth 20000 in
theorem ggX6_person_X5_isPerson : GoodIn wsX6_person wsX5_isPerson := goodIn_r _ [10, 11, 36, 37, 38, 39, 40, 41, 42, 43, 44, 45, 46, 47, 48] (by decide +kernel) (by decide +kernel)
set_option maxRecDepth 20000 in
theorem gX6_person_X5_isPerson : GoodIn wsX6_person (wsV RX6 88 RX5 yX5_isPerson wsX5_isPerson) := goodIn_app (goodIn_of _ (by decide +kernel)) ggX6_person_X5_isPerson
set_option maxRecDepth 20000 in
theorem ggX6_person_X5_nearOf : GoodIn wsX6_person wsX5_nearOf := goodIn_r _ [15, 16, 17, 18, 19, 9, 20, 21, 22, 23, 24, 11, 25, 26, 27, 36, 37, 38, 39, 40, 41, 42, 43, 44, 45, 46, 47, 48] (by decide +kernel) (by decide +kernel)
set_option maxRecDepth 20000 in
theorem gX6_person_X5_nearOf : GoodIn wsX6_person (wsV RX6 103 RX5 yX5_nearOf wsX5_nearOf) := goodIn_app (goodIn_of _ (by decide +kernel)) ggX6_person_X5_nearOf
set_option maxRecDepth 20000 in
theorem ggX6_called_X5_isPerson : GoodIn wsX6_called wsX5_isPerson := goodIn_r _ [8, 9, 18, 19, 20, 21, 22, 23, 24, 25, 26, 27, 28, 29, 30] (by decide +kernel) (by decide +kernel)
set_option maxRecDepth 20000 in
theorem gX6_called_X5_isPerson : GoodIn wsX6_called (wsV RX6 88 RX5 yX5_isPerson wsX5_isPerson) := goodIn_app (goodIn_of _ (by decide +kernel)) ggX6_called_X5_isPerson
set_option maxRecDepth 20000 in
theorem ggX6_degrees_X5_isPerson : GoodIn wsX6_degrees wsX5_isPerson := goodIn_r _ [6, 7, 27, 28, 29, 30, 31, 32, 33, 34, 35, 36, 37, 38, 39] (by decide +kernel) (by decide +kernel)
set_option maxRecDepth 20000 in
theorem gX6_degrees_X5_isPerson : GoodIn wsX6_degrees (wsV RX6 88 RX5 yX5_isPerson wsX5_isPerson) := goodIn_app (goodIn_of _ (by decide +kernel)) ggX6_degrees_X5_isPerson
set_option maxRecDepth 20000 in
theorem ggX6_degrees_X5_stepsBetween : GoodIn wsX6_degrees wsX5_stepsBetween := goodIn_r _ [11, 12, 13, 14, 5, 15, 7, 16, 17, 18, 27, 28, 29, 30, 31, 32, 33, 34, 35, 36, 37, 38, 39] (by decide +kernel) (by decide +kernel)
set_option maxRecDepth 20000 in
theorem gX6_degrees_X5_stepsBetween : GoodIn wsX6_degrees (wsV RX6 113 RX5 yX5_stepsBetween wsX5_stepsBetween) := goodIn_app (goodIn_of _ (by decide +kernel)) ggX6_degrees_X5_stepsBetween
set_option maxRecDepth 20000 in
theorem ggX6_as_X5_isPerson : GoodIn wsX6_as wsX5_isPerson := goodIn_r _ [7, 8, 44, 45, 46, 47, 48, 49, 50, 51, 52, 53, 54, 55, 56] (by decide +kernel) (by decide +kernel)
set_option maxRecDepth 20000 in
theorem gX6_as_X5_isPerson : GoodIn wsX6_as (wsV RX6 88 RX5 yX5_isPerson wsX5_isPerson) := goodIn_app (goodIn_of _ (by decide +kernel)) ggX6_as_X5_isPerson
set_option maxRecDepth 20000 in
theorem ggX6_as_X6_isOfKind : GoodIn wsX6_as wsX6_isOfKind := goodIn_r _ [12] (by decide +kernel) (by decide +kernel)
set_option maxRecDepth 20000 in
theorem gX6_as_X6_isOfKind : GoodIn wsX6_as (va_wsS RX6 117 yX6_isOfKind wsX6_isOfKind) := goodIn_app (goodIn_of _ (by decide +kernel)) ggX6_as_X6_isOfKind
set_option maxRecDepth 20000 in
theorem ggX6_as_X5_nearOf : GoodIn wsX6_as wsX5_nearOf := goodIn_r _ [16, 17, 18, 19, 20, 6, 21, 22, 23, 24, 25, 8, 26, 27, 28, 44, 45, 46, 47, 48, 49, 50, 51, 52, 53, 54, 55, 56] (by decide +kernel) (by decide +kernel)
set_option maxRecDepth 20000 in
theorem gX6_as_X5_nearOf : GoodIn wsX6_as (wsV RX6 103 RX5 yX5_nearOf wsX5_nearOf) := goodIn_app (goodIn_of _ (by decide +kernel)) ggX6_as_X5_nearOf
set_option maxRecDepth 20000 in
theorem ggX6_as_J6_bitCount_0f7a4 : GoodIn wsX6_as wsJ6_bitCount_0f7a4 := goodIn_r _ [32, 33, 34, 35] (by decide +kernel) (by decide +kernel)
set_option maxRecDepth 20000 in
theorem gX6_as_J6_bitCount_0f7a4 : GoodIn wsX6_as (va_wsS RX6 121 yJ6_bitCount_0f7a4 wsJ6_bitCount_0f7a4) := goodIn_app (goodIn_of _ (by decide +kernel)) ggX6_as_J6_bitCount_0f7a4
set_option maxRecDepth 20000 in
theorem ggX6_sum_X6_lettersOf : GoodIn wsX6_sum wsX6_lettersOf := goodIn_r _ [5, 6, 7] (by decide +kernel) (by decide +kernel)
set_option maxRecDepth 20000 in
theorem gX6_sum_X6_lettersOf : GoodIn wsX6_sum (va_wsS RX6 126 yX6_lettersOf wsX6_lettersOf) := goodIn_app (goodIn_of _ (by decide +kernel)) ggX6_sum_X6_lettersOf
set_option maxRecDepth 20000 in
theorem ggX6_sum_X5_sumOf : GoodIn wsX6_sum wsX5_sumOf := goodIn_r _ [12, 13, 14, 15, 4, 16, 7, 17, 18, 27, 28, 29, 30, 31, 32, 33, 34, 35, 36, 37, 38, 39] (by decide +kernel) (by decide +kernel)
set_option maxRecDepth 20000 in
theorem gX6_sum_X5_sumOf : GoodIn wsX6_sum (wsV RX6 130 RX5 yX5_sumOf wsX5_sumOf) := goodIn_app (goodIn_of _ (by decide +kernel)) ggX6_sum_X5_sumOf
set_option maxRecDepth 20000 in
theorem ggX6_name_X6_lettersOf : GoodIn wsX6_name wsX6_lettersOf := goodIn_r _ [5, 6, 7] (by decide +kernel) (by decide +kernel)
set_option maxRecDepth 20000 in
theorem gX6_name_X6_lettersOf : GoodIn wsX6_name (va_wsS RX6 126 yX6_lettersOf wsX6_lettersOf) := goodIn_app (goodIn_of _ (by decide +kernel)) ggX6_name_X6_lettersOf
set_option maxRecDepth 20000 in
theorem ggX6_name_X5_isName : GoodIn wsX6_name wsX5_isName := goodIn_r _ [12, 13, 14, 15, 11, 16, 17, 18, 19, 4, 20, 7, 21, 22, 23, 24, 25, 26, 27, 28, 29, 30, 31, 32, 33, 34, 35, 36, 45, 46, 47, 48, 49, 50, 51, 52, 53, 54, 55, 56, 57] (by decide +kernel) (by decide +kernel)
set_option maxRecDepth 20000 in
theorem gX6_name_X5_isName : GoodIn wsX6_name (wsV RX6 133 RX5 yX5_isName wsX5_isName) := goodIn_app (goodIn_of _ (by decide +kernel)) ggX6_name_X5_isName
set_option maxRecDepth 20000 in
theorem ggX6_judge_X5_isPerson : GoodIn wsX6_judge wsX5_isPerson := goodIn_r _ [6, 7, 76, 77, 78, 79, 80, 81, 82, 83, 84, 85, 86, 87, 88] (by decide +kernel) (by decide +kernel)
set_option maxRecDepth 20000 in
theorem gX6_judge_X5_isPerson : GoodIn wsX6_judge (wsV RX6 88 RX5 yX5_isPerson wsX5_isPerson) := goodIn_app (goodIn_of _ (by decide +kernel)) ggX6_judge_X5_isPerson
set_option maxRecDepth 20000 in
theorem ggX6_judge_X5_faultOfName : GoodIn wsX6_judge wsX5_faultOfName := goodIn_r _ [11, 12, 13, 14, 15, 5, 16, 17, 18, 19, 20, 21, 22, 23, 24, 25, 26, 27, 28, 29, 30, 31, 32, 33, 34, 35, 36, 37, 38, 39, 40, 41, 42, 43, 44, 45, 46, 47, 48, 49, 50, 51, 52, 53, 54, 55, 56, 57, 58, 59, 60, 7, 61, 62, 63, 64, 65, 66, 67, 76, 77, 78, 79, 80, 81, 82, 83, 84, 85, 86, 87, 88] (by decide +kernel) (by decide +kernel)
set_option maxRecDepth 20000 in
theorem gX6_judge_X5_faultOfName : GoodIn wsX6_judge (wsV RX6 137 RX5 yX5_faultOfName wsX5_faultOfName) := goodIn_app (goodIn_of _ (by decide +kernel)) ggX6_judge_X5_faultOfName
set_option maxRecDepth 20000 in
theorem ggX6_taker_X5_isPerson : GoodIn wsX6_taker wsX5_isPerson := goodIn_r _ [7, 8, 79, 80, 81, 82, 83, 84, 85, 86, 87, 88, 89, 90, 91] (by decide +kernel) (by decide +kernel)
set_option maxRecDepth 20000 in
theorem gX6_taker_X5_isPerson : GoodIn wsX6_taker (wsV RX6 88 RX5 yX5_isPerson wsX5_isPerson) := goodIn_app (goodIn_of _ (by decide +kernel)) ggX6_taker_X5_isPerson
set_option maxRecDepth 20000 in
theorem ggX6_taker_X5_faultOfName : GoodIn wsX6_taker wsX5_faultOfName := goodIn_r _ [12, 13, 14, 15, 16, 6, 17, 18, 19, 20, 21, 22, 23, 24, 25, 26, 27, 28, 29, 30, 31, 32, 33, 34, 35, 36, 37, 38, 39, 40, 41, 42, 43, 44, 45, 46, 47, 48, 49, 50, 51, 52, 53, 54, 55, 56, 57, 58, 59, 60, 61, 8, 62, 63, 64, 65, 66, 67, 68, 79, 80, 81, 82, 83, 84, 85, 86, 87, 88, 89, 90, 91] (by decide +kernel) (by decide +kernel)
set_option maxRecDepth 20000 in
theorem gX6_taker_X5_faultOfName : GoodIn wsX6_taker (wsV RX6 137 RX5 yX5_faultOfName wsX5_faultOfName) := goodIn_app (goodIn_of _ (by decide +kernel)) ggX6_taker_X5_faultOfName
set_option maxRecDepth 20000 in
theorem ggX6_taker_X5_nearOf : GoodIn wsX6_taker wsX5_nearOf := goodIn_r _ [52, 53, 54, 55, 56, 6, 57, 58, 59, 60, 61, 8, 62, 63, 64, 79, 80, 81, 82, 83, 84, 85, 86, 87, 88, 89, 90, 91] (by decide +kernel) (by decide +kernel)
set_option maxRecDepth 20000 in
theorem gX6_taker_X5_nearOf : GoodIn wsX6_taker (wsV RX6 103 RX5 yX5_nearOf wsX5_nearOf) := goodIn_app (goodIn_of _ (by decide +kernel)) ggX6_taker_X5_nearOf
set_option maxRecDepth 20000 in
theorem ggX6_taker_X5_leastCalled : GoodIn wsX6_taker wsX5_leastCalled := goodIn_r _ [68, 8, 13, 79, 80, 81, 82, 83, 84, 85, 86, 87, 88, 89, 90, 91] (by decide +kernel) (by decide +kernel)
set_option maxRecDepth 20000 in
theorem gX6_taker_X5_leastCalled : GoodIn wsX6_taker (wsV RX6 140 RX5 yX5_leastCalled wsX5_leastCalled) := goodIn_app (goodIn_of _ (by decide +kernel)) ggX6_taker_X5_leastCalled
set_option maxRecDepth 20000 in
theorem ggX6_names_X6_isDay : GoodIn wsX6_names wsX6_isDay := goodIn_r _ [8] (by decide +kernel) (by decide +kernel)
set_option maxRecDepth 20000 in
theorem gX6_names_X6_isDay : GoodIn wsX6_names (va_wsS RX6 144 yX6_isDay wsX6_isDay) := goodIn_app (goodIn_of _ (by decide +kernel)) ggX6_names_X6_isDay
set_option maxRecDepth 20000 in
theorem ggX6_names_X0_gather : GoodIn wsX6_names wsX0_gather := goodIn_r _ [13, 14, 15, 16, 17, 18, 19, 12, 20, 21, 22, 23, 24, 25, 26, 27, 28, 29, 30, 31, 32, 33, 34, 7, 35, 36, 37, 38, 39, 40, 41, 42, 43, 44, 45, 46, 47, 48, 49, 50, 51, 52, 53, 54, 55, 56, 57, 58, 59, 60, 61, 62, 63, 64, 77, 78, 79, 80, 81, 82, 83, 84, 85, 86, 87, 88, 89, 90, 91, 92, 93, 94, 95, 96, 97] (by decide +kernel) (by decide +kernel)
set_option maxRecDepth 20000 in
theorem gX6_names_X0_gather : GoodIn wsX6_names (wsV RX6 147 RX0 yX0_gather wsX0_gather) := goodIn_app (goodIn_of _ (by decide +kernel)) ggX6_names_X0_gather
set_option maxRecDepth 20000 in
theorem ggX6_names_X6_lettersOf : GoodIn wsX6_names wsX6_lettersOf := goodIn_r _ [67, 68, 36] (by decide +kernel) (by decide +kernel)
set_option maxRecDepth 20000 in
theorem gX6_names_X6_lettersOf : GoodIn wsX6_names (va_wsS RX6 126 yX6_lettersOf wsX6_lettersOf) := goodIn_app (goodIn_of _ (by decide +kernel)) ggX6_names_X6_lettersOf
set_option maxRecDepth 20000 in
theorem ggX6_which_X6_isDay : GoodIn wsX6_which wsX6_isDay := goodIn_r _ [10] (by decide +kernel) (by decide +kernel)
set_option maxRecDepth 20000 in
theorem gX6_which_X6_isDay : GoodIn wsX6_which (va_wsS RX6 144 yX6_isDay wsX6_isDay) := goodIn_app (goodIn_of _ (by decide +kernel)) ggX6_which_X6_isDay
set_option maxRecDepth 20000 in
theorem ggX6_which_X0_gather : GoodIn wsX6_which wsX0_gather := goodIn_r _ [15, 16, 17, 18, 19, 20, 21, 14, 22, 23, 24, 25, 26, 27, 28, 29, 30, 31, 32, 33, 34, 35, 36, 9, 37, 38, 39, 40, 41, 42, 43, 44, 45, 46, 47, 48, 49, 50, 51, 52, 53, 54, 55, 56, 57, 58, 59, 60, 61, 62, 63, 64, 65, 66, 75, 76, 77, 78, 79, 80, 81, 82, 83, 84, 85, 86, 87, 88, 89, 90, 91, 92, 93, 94, 95] (by decide +kernel) (by decide +kernel)
set_option maxRecDepth 20000 in
theorem gX6_which_X0_gather : GoodIn wsX6_which (wsV RX6 147 RX0 yX0_gather wsX0_gather) := goodIn_app (goodIn_of _ (by decide +kernel)) ggX6_which_X0_gather
set_option maxRecDepth 20000 in
theorem ggX6_free_X5_isPerson : GoodIn wsX6_free wsX5_isPerson := goodIn_r _ [13, 14, 104, 105, 106, 107, 108, 109, 110, 111, 112, 113, 114, 115, 116] (by decide +kernel) (by decide +kernel)
set_option maxRecDepth 20000 in
theorem gX6_free_X5_isPerson : GoodIn wsX6_free (wsV RX6 88 RX5 yX5_isPerson wsX5_isPerson) := goodIn_app (goodIn_of _ (by decide +kernel)) ggX6_free_X5_isPerson
set_option maxRecDepth 20000 in
theorem ggX6_free_X0_gather : GoodIn wsX6_free wsX0_gather := goodIn_r _ [19, 20, 21, 22, 23, 24, 25, 18, 26, 27, 28, 29, 30, 31, 32, 33, 34, 35, 12, 36, 37, 38, 39, 40, 41, 42, 43, 44, 45, 46, 47, 48, 49, 50, 51, 52, 53, 54, 55, 56, 57, 58, 59, 60, 61, 62, 63, 64, 65, 66, 67, 68, 69, 70, 117, 118, 119, 120, 121, 122, 123, 124, 104, 105, 106, 107, 108, 109, 110, 111, 112, 113, 114, 115, 116] (by decide +kernel) (by decide +kernel)
set_option maxRecDepth 20000 in
theorem gX6_free_X0_gather : GoodIn wsX6_free (wsV RX6 147 RX0 yX0_gather wsX0_gather) := goodIn_app (goodIn_of _ (by decide +kernel)) ggX6_free_X0_gather
set_option maxRecDepth 20000 in
theorem ggX6_free_X5_nearOf : GoodIn wsX6_free wsX5_nearOf := goodIn_r _ [74, 75, 76, 77, 78, 12, 79, 80, 81, 82, 83, 14, 84, 85, 86, 104, 105, 106, 107, 108, 109, 110, 111, 112, 113, 114, 115, 116] (by decide +kernel) (by decide +kernel)
set_option maxRecDepth 20000 in
theorem gX6_free_X5_nearOf : GoodIn wsX6_free (wsV RX6 103 RX5 yX5_nearOf wsX5_nearOf) := goodIn_app (goodIn_of _ (by decide +kernel)) ggX6_free_X5_nearOf
set_option maxRecDepth 20000 in
theorem ggX6_free_X0_dropCalled : GoodIn wsX6_free wsX0_dropCalled := goodIn_r _ [90, 22, 61, 91, 92, 93, 12, 94, 14, 95, 117, 118, 119, 120, 121, 122, 123, 124, 104, 105, 106, 107, 108, 109, 110, 111, 112, 113, 114, 115, 116] (by decide +kernel) (by decide +kernel)
set_option maxRecDepth 20000 in
theorem gX6_free_X0_dropCalled : GoodIn wsX6_free (wsV RX6 161 RX0 yX0_dropCalled wsX0_dropCalled) := goodIn_app (goodIn_of _ (by decide +kernel)) ggX6_free_X0_dropCalled
set_option maxRecDepth 20000 in
theorem ggX6_hopes_X5_isPerson : GoodIn wsX6_hopes wsX5_isPerson := goodIn_r _ [10, 11, 136, 137, 138, 139, 140, 141, 142, 143, 144, 145, 146, 147, 148] (by decide +kernel) (by decide +kernel)
set_option maxRecDepth 20000 in
theorem gX6_hopes_X5_isPerson : GoodIn wsX6_hopes (wsV RX6 88 RX5 yX5_isPerson wsX5_isPerson) := goodIn_app (goodIn_of _ (by decide +kernel)) ggX6_hopes_X5_isPerson
set_option maxRecDepth 20000 in
theorem ggX6_hopes_X6_isZeroOrOne : GoodIn wsX6_hopes wsX6_isZeroOrOne := goodIn_r _ [15] (by decide +kernel) (by decide +kernel)
set_option maxRecDepth 20000 in
theorem gX6_hopes_X6_isZeroOrOne : GoodIn wsX6_hopes (va_wsS RX6 165 yX6_isZeroOrOne wsX6_isZeroOrOne) := goodIn_app (goodIn_of _ (by decide +kernel)) ggX6_hopes_X6_isZeroOrOne
set_option maxRecDepth 20000 in
theorem ggX6_hopes_X5_nearChildOf : GoodIn wsX6_hopes wsX5_nearChildOf := goodIn_r _ [19, 20, 21, 22, 23, 9, 24, 25, 26, 27, 28, 11, 29, 30, 31, 136, 137, 138, 139, 140, 141, 142, 143, 144, 145, 146, 147, 148] (by decide +kernel) (by decide +kernel)
set_option maxRecDepth 20000 in
theorem gX6_hopes_X5_nearChildOf : GoodIn wsX6_hopes (wsV RX6 168 RX5 yX5_nearChildOf wsX5_nearChildOf) := goodIn_app (goodIn_of _ (by decide +kernel)) ggX6_hopes_X5_nearChildOf
set_option maxRecDepth 20000 in
theorem ggX6_hopes_X6_findRooms : GoodIn wsX6_hopes wsX6_findRooms := goodIn_r _ [35, 1, 4, 36, 37, 38, 39, 40, 41, 42, 43, 44, 45, 46, 47, 48, 49, 50, 51, 52, 53, 54, 55, 56, 57, 58, 59, 60, 9, 61, 62, 63, 64, 14, 65, 66, 67, 68, 69, 70, 71, 72, 73, 74, 75, 76, 77, 78, 79, 80, 81, 82, 83, 84, 85, 86, 87, 88, 89, 90, 91, 92, 93, 94, 95, 96, 97, 98, 99, 100, 101, 102, 11, 103, 128, 129, 130, 131, 132, 133, 134, 135, 136, 137, 138, 139, 140, 141, 142, 143, 144, 145, 146, 147, 148, 149, 150, 151, 152, 153, 154, 155, 156] (by decide +kernel) (by decide +kernel)
set_option maxRecDepth 20000 in
theorem gX6_hopes_X6_findRooms : GoodIn wsX6_hopes (wsV RX6 171 RX6 yX6_findRooms wsX6_findRooms) := goodIn_app (goodIn_of _ (by decide +kernel)) ggX6_hopes_X6_findRooms
set_option maxRecDepth 20000 in
theorem ggX6_hopes_X6_waysWithNames : GoodIn wsX6_hopes wsX6_waysWithNames := goodIn_r _ [107, 1, 4, 108, 109, 110, 14, 111, 38, 112, 113, 114, 115, 37, 116, 117, 118, 119, 120, 128, 129, 130, 131, 132, 133, 134, 135, 136, 137, 138, 139, 140, 141, 142, 143, 144, 145, 146, 147, 148] (by decide +kernel) (by decide +kernel)
set_option maxRecDepth 20000 in
theorem gX6_hopes_X6_waysWithNames : GoodIn wsX6_hopes (wsV RX6 175 RX6 yX6_waysWithNames wsX6_waysWithNames) := goodIn_app (goodIn_of _ (by decide +kernel)) ggX6_hopes_X6_waysWithNames
set_option maxRecDepth 20000 in
theorem ggX6_hopes_X6_commonDivisor : GoodIn wsX6_hopes wsX6_commonDivisor := goodIn_r _ [123, 124, 125, 126, 127] (by decide +kernel) (by decide +kernel)
set_option maxRecDepth 20000 in
theorem gX6_hopes_X6_commonDivisor : GoodIn wsX6_hopes (va_wsS RX6 184 yX6_commonDivisor wsX6_commonDivisor) := goodIn_app (goodIn_of _ (by decide +kernel)) ggX6_hopes_X6_commonDivisor
set_option maxRecDepth 20000 in
theorem ggX6_findRooms_X0_gather : GoodIn wsX6_findRooms wsX0_gather := goodIn_r _ [11, 12, 13, 14, 15, 16, 17, 10, 18, 19, 20, 21, 22, 23, 24, 25, 26, 27, 28, 29, 30, 31, 32, 33, 34, 35, 36, 37, 38, 39, 40, 41, 42, 43, 44, 45, 46, 47, 48, 49, 50, 51, 52, 53, 54, 55, 56, 57, 58, 59, 60, 61, 62, 63, 95, 96, 97, 98, 99, 100, 101, 102, 82, 83, 84, 85, 86, 87, 88, 89, 90, 91, 92, 93, 94] (by decide +kernel) (by decide +kernel)
set_option maxRecDepth 20000 in
theorem gX6_findRooms_X0_gather : GoodIn wsX6_findRooms (wsV RX6 147 RX0 yX0_gather wsX0_gather) := goodIn_app (goodIn_of _ (by decide +kernel)) ggX6_findRooms_X0_gather
set_option maxRecDepth 20000 in
theorem ggX6_findRooms_X0_dropCalled : GoodIn wsX6_findRooms wsX0_dropCalled := goodIn_r _ [67, 14, 54, 68, 69, 70, 28, 71, 72, 73, 95, 96, 97, 98, 99, 100, 101, 102, 82, 83, 84, 85, 86, 87, 88, 89, 90, 91, 92, 93, 94] (by decide +kernel) (by decide +kernel)
set_option maxRecDepth 20000 in
theorem gX6_findRooms_X0_dropCalled : GoodIn wsX6_findRooms (wsV RX6 161 RX0 yX0_dropCalled wsX0_dropCalled) := goodIn_app (goodIn_of _ (by decide +kernel)) ggX6_findRooms_X0_dropCalled
set_option maxRecDepth 20000 in
theorem ggX6_waysWithNames_X6_allHaveNames : GoodIn wsX6_waysWithNames wsX6_allHaveNames := goodIn_r _ [7, 1, 2, 8, 9, 10, 11, 6, 12, 13, 19, 20, 21, 22, 23, 24, 25, 26, 27, 28, 29, 30, 31, 32, 33, 34, 35, 36, 37, 38, 39] (by decide +kernel) (by decide +kernel)
set_option maxRecDepth 20000 in
theorem gX6_waysWithNames_X6_allHaveNames : GoodIn wsX6_waysWithNames (wsV RX6 191 RX6 yX6_allHaveNames wsX6_allHaveNames) := goodIn_app (goodIn_of _ (by decide +kernel)) ggX6_waysWithNames_X6_allHaveNames
set_option maxRecDepth 20000 in
theorem ggX6_waysWithNames_X6_waysOfComing : GoodIn wsX6_waysWithNames wsX6_waysOfComing := goodIn_r _ [17, 1, 2, 18, 19, 20, 21, 22, 23, 24, 25, 26, 27, 28, 29, 30, 31, 32, 33, 34, 35, 36, 37, 38, 39] (by decide +kernel) (by decide +kernel)
set_option maxRecDepth 20000 in
theorem gX6_waysWithNames_X6_waysOfComing : GoodIn wsX6_waysWithNames (wsV RX6 194 RX6 yX6_waysOfComing wsX6_waysOfComing) := goodIn_app (goodIn_of _ (by decide +kernel)) ggX6_waysWithNames_X6_waysOfComing
set_option maxRecDepth 20000 in
theorem ggX6_allHaveNames_X6_comingWith : GoodIn wsX6_allHaveNames wsX6_comingWith := goodIn_r _ [8, 1, 2, 9, 10, 11, 12, 13, 14, 15, 16, 17, 18, 19, 20, 21, 22, 23, 24, 25, 26, 27, 28, 29, 30] (by decide +kernel) (by decide +kernel)
set_option maxRecDepth 20000 in
theorem gX6_allHaveNames_X6_comingWith : GoodIn wsX6_allHaveNames (wsV RX6 198 RX6 yX6_comingWith wsX6_comingWith) := goodIn_app (goodIn_of _ (by decide +kernel)) ggX6_allHaveNames_X6_comingWith
set_option maxRecDepth 20000 in
theorem ggX6_without_X6_areDays : GoodIn wsX6_without wsX6_areDays := goodIn_r _ [6, 7, 8, 5, 9] (by decide +kernel) (by decide +kernel)
set_option maxRecDepth 20000 in
theorem gX6_without_X6_areDays : GoodIn wsX6_without (va_wsS RX6 204 yX6_areDays wsX6_areDays) := goodIn_app (goodIn_of _ (by decide +kernel)) ggX6_without_X6_areDays
set_option maxRecDepth 20000 in
theorem ggX6_without_X6_isZeroOrOne : GoodIn wsX6_without wsX6_isZeroOrOne := goodIn_r _ [12] (by decide +kernel) (by decide +kernel)
set_option maxRecDepth 20000 in
theorem gX6_without_X6_isZeroOrOne : GoodIn wsX6_without (va_wsS RX6 165 yX6_isZeroOrOne wsX6_isZeroOrOne) := goodIn_app (goodIn_of _ (by decide +kernel)) ggX6_without_X6_isZeroOrOne
set_option maxRecDepth 20000 in
theorem ggX6_without_X2_measure : GoodIn wsX6_without wsX2_measure := goodIn_r _ [17, 18, 19, 20, 21, 22, 23, 24, 25, 26, 27, 28, 5, 29, 30, 31, 32, 33, 34, 35, 36, 37, 38, 39, 16, 40, 41, 42, 43, 44, 61, 62, 63, 64, 65, 66, 67, 68, 69, 70, 71, 72, 73, 74, 75] (by decide +kernel) (by decide +kernel)
set_option maxRecDepth 20000 in
theorem gX6_without_X2_measure : GoodIn wsX6_without (wsV RX6 207 RX2 yX2_measure wsX2_measure) := goodIn_app (goodIn_of _ (by decide +kernel)) ggX6_without_X2_measure
set_option maxRecDepth 20000 in
theorem ggX6_without_X2_daysWithout : GoodIn wsX6_without wsX2_daysWithout := goodIn_r _ [48, 18, 61, 62] (by decide +kernel) (by decide +kernel)
set_option maxRecDepth 20000 in
theorem gX6_without_X2_daysWithout : GoodIn wsX6_without (wsV RX6 210 RX2 yX2_daysWithout wsX2_daysWithout) := goodIn_app (goodIn_of _ (by decide +kernel)) ggX6_without_X2_daysWithout
set_option maxRecDepth 20000 in
theorem ggX6_without_X2_firstWithout : GoodIn wsX6_without wsX2_firstWithout := goodIn_r _ [52, 18, 61, 62] (by decide +kernel) (by decide +kernel)
set_option maxRecDepth 20000 in
theorem gX6_without_X2_firstWithout : GoodIn wsX6_without (wsV RX6 213 RX2 yX2_firstWithout wsX2_firstWithout) := goodIn_app (goodIn_of _ (by decide +kernel)) ggX6_without_X2_firstWithout
set_option maxRecDepth 20000 in
theorem ggX6_mend_X6_areDays : GoodIn wsX6_mend wsX6_areDays := goodIn_r _ [9, 10, 11, 8, 12] (by decide +kernel) (by decide +kernel)
set_option maxRecDepth 20000 in
theorem gX6_mend_X6_areDays : GoodIn wsX6_mend (va_wsS RX6 204 yX6_areDays wsX6_areDays) := goodIn_app (goodIn_of _ (by decide +kernel)) ggX6_mend_X6_areDays
set_option maxRecDepth 20000 in
theorem ggX6_mend_X2_measure : GoodIn wsX6_mend wsX2_measure := goodIn_r _ [17, 18, 19, 20, 21, 22, 23, 24, 25, 26, 27, 28, 8, 29, 30, 31, 32, 33, 34, 35, 36, 37, 38, 39, 16, 40, 41, 42, 43, 44, 85, 86, 72, 73, 74, 75, 76, 77, 78, 79, 80, 81, 82, 83, 84] (by decide +kernel) (by decide +kernel)
set_option maxRecDepth 20000 in
theorem gX6_mend_X2_measure : GoodIn wsX6_mend (wsV RX6 207 RX2 yX2_measure wsX2_measure) := goodIn_app (goodIn_of _ (by decide +kernel)) ggX6_mend_X2_measure
set_option maxRecDepth 20000 in
theorem ggX6_mend_X2_firstWithout : GoodIn wsX6_mend wsX2_firstWithout := goodIn_r _ [48, 18, 85, 86] (by decide +kernel) (by decide +kernel)
set_option maxRecDepth 20000 in
theorem gX6_mend_X2_firstWithout : GoodIn wsX6_mend (wsV RX6 213 RX2 yX2_firstWithout wsX2_firstWithout) := goodIn_app (goodIn_of _ (by decide +kernel)) ggX6_mend_X2_firstWithout
set_option maxRecDepth 20000 in
theorem ggX6_mend_X2_mendingSyllable : GoodIn wsX6_mend wsX2_mendingSyllable := goodIn_r _ [52, 53, 54, 55, 21, 22, 23, 24, 25, 26, 27, 28, 8, 29, 30, 31, 32, 33, 34, 35, 36, 56, 57, 58, 16, 59, 60, 61, 62, 63, 18, 85, 86, 72, 73, 74, 75, 76, 77, 78, 79, 80, 81, 82, 83, 84] (by decide +kernel) (by decide +kernel)
set_option maxRecDepth 20000 in
theorem gX6_mend_X2_mendingSyllable : GoodIn wsX6_mend (wsV RX6 221 RX2 yX2_mendingSyllable wsX2_mendingSyllable) := goodIn_app (goodIn_of _ (by decide +kernel)) ggX6_mend_X2_mendingSyllable
set_option maxRecDepth 20000 in
theorem ggX6_old_X6_isLetter : GoodIn wsX6_old wsX6_isLetter := goodIn_r _ [7] (by decide +kernel) (by decide +kernel)
set_option maxRecDepth 20000 in
theorem gX6_old_X6_isLetter : GoodIn wsX6_old (va_wsS RX6 81 yX6_isLetter wsX6_isLetter) := goodIn_app (goodIn_of _ (by decide +kernel)) ggX6_old_X6_isLetter
set_option maxRecDepth 20000 in
theorem ggX6_old_X1_solve : GoodIn wsX6_old wsX1_solve := goodIn_r _ [12, 13, 14, 15, 16, 17, 18, 19, 20, 21, 11, 22, 23, 24, 25, 26, 27, 28, 6, 29, 30, 31, 32, 33, 34, 35, 36, 37, 38, 39, 40, 41, 42, 43, 44, 45, 46, 47, 48, 49, 50, 51, 52, 53, 54, 55, 56, 57, 58, 59, 60, 61, 62, 63, 64, 65, 66, 67, 68, 69, 70, 71, 72, 73, 74, 75, 76, 77, 90, 91, 92, 93, 94, 95, 96, 97, 98, 99, 100, 101, 102, 103, 104, 105, 106, 107, 108, 109, 110, 111, 112] (by decide +kernel) (by decide +kernel)
set_option maxRecDepth 20000 in
theorem gX6_old_X1_solve : GoodIn wsX6_old (wsV RX6 225 RX1 yX1_solve wsX1_solve) := goodIn_app (goodIn_of _ (by decide +kernel)) ggX6_old_X1_solve
set_option maxRecDepth 20000 in
theorem ggX6_old_X1_firstNumberOf : GoodIn wsX6_old wsX1_firstNumberOf := goodIn_r _ [81, 13, 23, 24, 50, 90, 91, 92, 93, 94, 95, 96, 97, 98, 99] (by decide +kernel) (by decide +kernel)
set_option maxRecDepth 20000 in
theorem gX6_old_X1_firstNumberOf : GoodIn wsX6_old (wsV RX6 232 RX1 yX1_firstNumberOf wsX1_firstNumberOf) := goodIn_app (goodIn_of _ (by decide +kernel)) ggX6_old_X1_firstNumberOf
set_option maxRecDepth 20000 in
theorem ggX6_reform_X5_isPerson : GoodIn wsX6_reform wsX5_isPerson := goodIn_r _ [7, 8, 55, 56, 57, 58, 59, 60, 61, 62, 63, 64, 65, 66, 67] (by decide +kernel) (by decide +kernel)
set_option maxRecDepth 20000 in
theorem gX6_reform_X5_isPerson : GoodIn wsX6_reform (wsV RX6 88 RX5 yX5_isPerson wsX5_isPerson) := goodIn_app (goodIn_of _ (by decide +kernel)) ggX6_reform_X5_isPerson
set_option maxRecDepth 20000 in
theorem ggX6_reform_X6_bestReformedLetter : GoodIn wsX6_reform wsX6_bestReformedLetter := goodIn_r _ [13, 14, 15, 16, 12, 17, 1, 18, 2, 19, 20, 21, 22, 23, 24, 25, 26, 27, 28, 29, 6, 30, 31, 32, 33, 34, 35, 36, 37, 38, 39, 40, 41, 42, 43, 44, 45, 46, 47, 48, 49, 50, 51, 52, 53, 54, 55, 56, 57, 58, 59, 60, 61, 62, 63, 64, 65, 66, 67] (by decide +kernel) (by decide +kernel)
set_option maxRecDepth 20000 in
theorem gX6_reform_X6_bestReformedLetter : GoodIn wsX6_reform (wsV RX6 235 RX6 yX6_bestReformedLetter wsX6_bestReformedLetter) := goodIn_app (goodIn_of _ (by decide +kernel)) ggX6_reform_X6_bestReformedLetter
set_option maxRecDepth 20000 in
theorem ggX6_reform_X6_reformedNumber : GoodIn wsX6_reform wsX6_reformedNumber := goodIn_r _ [17, 1, 18, 2, 19, 20, 21, 12, 22, 23, 24, 25, 26, 27, 28, 29, 6, 30, 31, 32, 33, 34, 47, 48, 49, 50, 51, 52, 53, 54, 55, 56, 57, 58, 59, 60, 61, 62, 63, 64, 65, 66, 67] (by decide +kernel) (by decide +kernel)
set_option maxRecDepth 20000 in
theorem gX6_reform_X6_reformedNumber : GoodIn wsX6_reform (wsV RX6 238 RX6 yX6_reformedNumber wsX6_reformedNumber) := goodIn_app (goodIn_of _ (by decide +kernel)) ggX6_reform_X6_reformedNumber
set_option maxRecDepth 20000 in
theorem ggX6_reform_X6_calledAnew : GoodIn wsX6_reform wsX6_calledAnew := goodIn_r _ [38, 1, 39, 2, 40, 41, 42, 6, 43, 44, 45, 46, 28, 29, 30, 31, 32, 25, 12, 26, 23, 33, 34, 20, 21, 22, 24, 47, 48, 49, 50, 51, 52, 53, 54, 55, 56, 57, 58, 59, 60, 61, 62, 63, 64, 65, 66, 67] (by decide +kernel) (by decide +kernel)
set_option maxRecDepth 20000 in
theorem gX6_reform_X6_calledAnew : GoodIn wsX6_reform (wsV RX6 241 RX6 yX6_calledAnew wsX6_calledAnew) := goodIn_app (goodIn_of _ (by decide +kernel)) ggX6_reform_X6_calledAnew
set_option maxRecDepth 20000 in
theorem ggX6_bestReformedLetter_X6_reformedNumber : GoodIn wsX6_bestReformedLetter wsX6_reformedNumber := goodIn_r _ [5, 6, 7, 8, 9, 10, 11, 4, 12, 13, 14, 15, 16, 17, 18, 19, 20, 21, 22, 23, 24, 25, 38, 39, 40, 41, 42, 43, 44, 45, 46, 47, 48, 49, 50, 51, 52, 53, 54, 55, 56, 57, 58] (by decide +kernel) (by decide +kernel)
set_option maxRecDepth 20000 in
theorem gX6_bestReformedLetter_X6_reformedNumber : GoodIn wsX6_bestReformedLetter (wsV RX6 238 RX6 yX6_reformedNumber wsX6_reformedNumber) := goodIn_app (goodIn_of _ (by decide +kernel)) ggX6_bestReformedLetter_X6_reformedNumber
set_option maxRecDepth 20000 in
theorem ggX6_bestReformedLetter_X6_calledAnew : GoodIn wsX6_bestReformedLetter wsX6_calledAnew := goodIn_r _ [29, 6, 30, 8, 31, 32, 33, 20, 34, 35, 36, 37, 18, 19, 21, 22, 23, 15, 4, 16, 13, 24, 25, 10, 11, 12, 14, 38, 39, 40, 41, 42, 43, 44, 45, 46, 47, 48, 49, 50, 51, 52, 53, 54, 55, 56, 57, 58] (by decide +kernel) (by decide +kernel)
set_option maxRecDepth 20000 in
theorem gX6_bestReformedLetter_X6_calledAnew : GoodIn wsX6_bestReformedLetter (wsV RX6 241 RX6 yX6_calledAnew wsX6_calledAnew) := goodIn_app (goodIn_of _ (by decide +kernel)) ggX6_bestReformedLetter_X6_calledAnew
set_option maxRecDepth 20000 in
theorem ggX6_reformedNumber_X6_timesIn : GoodIn wsX6_reformedNumber wsX6_timesIn := goodIn_r _ [8, 9, 10, 11, 7, 12] (by decide +kernel) (by decide +kernel)
set_option maxRecDepth 20000 in
theorem gX6_reformedNumber_X6_timesIn : GoodIn wsX6_reformedNumber (va_wsS RX6 244 yX6_timesIn wsX6_timesIn) := goodIn_app (goodIn_of _ (by decide +kernel)) ggX6_reformedNumber_X6_timesIn
set_option maxRecDepth 20000 in
theorem ggX6_reformedNumber_X5_sumOf : GoodIn wsX6_reformedNumber wsX5_sumOf := goodIn_r _ [17, 18, 19, 11, 7, 12, 9, 20, 21, 30, 31, 32, 33, 34, 35, 36, 37, 38, 39, 40, 41, 42] (by decide +kernel) (by decide +kernel)
set_option maxRecDepth 20000 in
theorem gX6_reformedNumber_X5_sumOf : GoodIn wsX6_reformedNumber (wsV RX6 130 RX5 yX5_sumOf wsX5_sumOf) := goodIn_app (goodIn_of _ (by decide +kernel)) ggX6_reformedNumber_X5_sumOf
set_option maxRecDepth 20000 in
theorem ggX6_calledAnew_X5_addsUp : GoodIn wsX6_calledAnew wsX5_addsUp := goodIn_r _ [8, 9, 10, 11, 12, 13, 7, 14, 15, 16, 17, 18, 19, 20, 21, 22, 35, 36, 37, 38, 39, 40, 41, 42, 43, 44, 45, 46, 47] (by decide +kernel) (by decide +kernel)
set_option maxRecDepth 20000 in
theorem gX6_calledAnew_X5_addsUp : GoodIn wsX6_calledAnew (wsV RX6 250 RX5 yX5_addsUp wsX5_addsUp) := goodIn_app (goodIn_of _ (by decide +kernel)) ggX6_calledAnew_X5_addsUp
set_option maxRecDepth 20000 in
theorem ggX6_calledAnew_X6_timesIn : GoodIn wsX6_calledAnew wsX6_timesIn := goodIn_r _ [25, 20, 26, 17, 18, 19] (by decide +kernel) (by decide +kernel)
set_option maxRecDepth 20000 in
theorem gX6_calledAnew_X6_timesIn : GoodIn wsX6_calledAnew (va_wsS RX6 244 yX6_timesIn wsX6_timesIn) := goodIn_app (goodIn_of _ (by decide +kernel)) ggX6_calledAnew_X6_timesIn
set_option maxRecDepth 20000 in
theorem ggX6_nicknames_X5_isPerson : GoodIn wsX6_nicknames wsX5_isPerson := goodIn_r _ [15, 16, 91, 92, 93, 94, 95, 96, 97, 98, 99, 100, 101, 102, 103] (by decide +kernel) (by decide +kernel)
set_option maxRecDepth 20000 in
theorem gX6_nicknames_X5_isPerson : GoodIn wsX6_nicknames (wsV RX6 88 RX5 yX5_isPerson wsX5_isPerson) := goodIn_app (goodIn_of _ (by decide +kernel)) ggX6_nicknames_X5_isPerson
set_option maxRecDepth 20000 in
theorem ggX6_nicknames_X6_isZeroOrOne : GoodIn wsX6_nicknames wsX6_isZeroOrOne := goodIn_r _ [20] (by decide +kernel) (by decide +kernel)
set_option maxRecDepth 20000 in
theorem gX6_nicknames_X6_isZeroOrOne : GoodIn wsX6_nicknames (va_wsS RX6 165 yX6_isZeroOrOne wsX6_isZeroOrOne) := goodIn_app (goodIn_of _ (by decide +kernel)) ggX6_nicknames_X6_isZeroOrOne
set_option maxRecDepth 20000 in
theorem ggX6_nicknames_X0_gather : GoodIn wsX6_nicknames wsX0_gather := goodIn_r _ [25, 26, 27, 28, 29, 30, 31, 24, 32, 33, 34, 35, 36, 37, 38, 39, 40, 41, 14, 42, 43, 44, 45, 19, 46, 47, 48, 49, 50, 51, 52, 53, 54, 55, 56, 57, 58, 59, 60, 61, 62, 63, 64, 65, 66, 67, 68, 69, 70, 71, 72, 73, 74, 75, 104, 105, 106, 107, 108, 109, 110, 111, 91, 92, 93, 94, 95, 96, 97, 98, 99, 100, 101, 102, 103] (by decide +kernel) (by decide +kernel)
set_option maxRecDepth 20000 in
theorem gX6_nicknames_X0_gather : GoodIn wsX6_nicknames (wsV RX6 147 RX0 yX0_gather wsX0_gather) := goodIn_app (goodIn_of _ (by decide +kernel)) ggX6_nicknames_X0_gather
set_option maxRecDepth 20000 in
theorem ggX6_nicknames_X0_dropNoNicknames : GoodIn wsX6_nicknames wsX0_dropNoNicknames := goodIn_r _ [79, 28, 66, 80, 19, 81, 47, 82, 45, 46, 104, 105, 106, 107, 108, 109, 110, 111] (by decide +kernel) (by decide +kernel)
set_option maxRecDepth 20000 in
theorem gX6_nicknames_X0_dropNoNicknames : GoodIn wsX6_nicknames (wsV RX6 253 RX0 yX0_dropNoNicknames wsX0_dropNoNicknames) := goodIn_app (goodIn_of _ (by decide +kernel)) ggX6_nicknames_X0_dropNoNicknames
set_option maxRecDepth 20000 in
theorem ggX6_page_X6_isZeroOrOne : GoodIn wsX6_page wsX6_isZeroOrOne := goodIn_r _ [7] (by decide +kernel) (by decide +kernel)
set_option maxRecDepth 20000 in
theorem gX6_page_X6_isZeroOrOne : GoodIn wsX6_page (va_wsS RX6 165 yX6_isZeroOrOne wsX6_isZeroOrOne) := goodIn_app (goodIn_of _ (by decide +kernel)) ggX6_page_X6_isZeroOrOne
set_option maxRecDepth 20000 in
theorem ggX6_page_X5_leastCalled : GoodIn wsX6_page wsX5_leastCalled := goodIn_r _ [12, 13, 14, 46, 47, 48, 49, 50, 51, 52, 53, 54, 55, 56, 57, 58] (by decide +kernel) (by decide +kernel)
set_option maxRecDepth 20000 in
theorem gX6_page_X5_leastCalled : GoodIn wsX6_page (wsV RX6 140 RX5 yX5_leastCalled wsX5_leastCalled) := goodIn_app (goodIn_of _ (by decide +kernel)) ggX6_page_X5_leastCalled
set_option maxRecDepth 20000 in
theorem ggX6_page_X5_sumOfAll : GoodIn wsX6_page wsX5_sumOfAll := goodIn_r _ [18, 13, 14, 19, 20, 21, 11, 22, 23, 24, 25, 6, 26, 27, 28, 29, 46, 47, 48, 49, 50, 51, 52, 53, 54, 55, 56, 57, 58] (by decide +kernel) (by decide +kernel)
set_option maxRecDepth 20000 in
theorem gX6_page_X5_sumOfAll : GoodIn wsX6_page (wsV RX6 257 RX5 yX5_sumOfAll wsX5_sumOfAll) := goodIn_app (goodIn_of _ (by decide +kernel)) ggX6_page_X5_sumOfAll
set_option maxRecDepth 20000 in
theorem ggX6_page_X5_changesBy : GoodIn wsX6_page wsX5_changesBy := goodIn_r _ [33, 23, 24, 25, 6, 26, 27, 28, 29, 34, 35, 36, 11, 37, 46, 47, 48, 49, 50, 51, 52, 53, 54, 55, 56, 57, 58] (by decide +kernel) (by decide +kernel)
set_option maxRecDepth 20000 in
theorem gX6_page_X5_changesBy : GoodIn wsX6_page (wsV RX6 260 RX5 yX5_changesBy wsX5_changesBy) := goodIn_app (goodIn_of _ (by decide +kernel)) ggX6_page_X5_changesBy
set_option maxRecDepth 20000 in
theorem ggX6_sheet_X6_isSheet : GoodIn wsX6_sheet wsX6_isSheet := goodIn_r _ [5] (by decide +kernel) (by decide +kernel)
set_option maxRecDepth 20000 in
theorem gX6_sheet_X6_isSheet : GoodIn wsX6_sheet (va_wsS RX6 263 yX6_isSheet wsX6_isSheet) := goodIn_app (goodIn_of _ (by decide +kernel)) ggX6_sheet_X6_isSheet
set_option maxRecDepth 20000 in
theorem ggX6_sheet_X6_isLane : GoodIn wsX6_sheet wsX6_isLane := goodIn_r _ [8] (by decide +kernel) (by decide +kernel)
set_option maxRecDepth 20000 in
theorem gX6_sheet_X6_isLane : GoodIn wsX6_sheet (va_wsS RX6 266 yX6_isLane wsX6_isLane) := goodIn_app (goodIn_of _ (by decide +kernel)) ggX6_sheet_X6_isLane
set_option maxRecDepth 20000 in
theorem ggX6_sheet_X4_begin : GoodIn wsX6_sheet wsX4_begin := goodIn_r _ [13, 14, 15, 16, 25, 26, 27] (by decide +kernel) (by decide +kernel)
set_option maxRecDepth 20000 in
theorem gX6_sheet_X4_begin : GoodIn wsX6_sheet (wsV RX6 269 RX4 yX4_begin wsX4_begin) := goodIn_app (goodIn_of _ (by decide +kernel)) ggX6_sheet_X4_begin
set_option maxRecDepth 20000 in
theorem ggX6_tear_X6_isSheet : GoodIn wsX6_tear wsX6_isSheet := goodIn_r _ [6] (by decide +kernel) (by decide +kernel)
set_option maxRecDepth 20000 in
theorem gX6_tear_X6_isSheet : GoodIn wsX6_tear (va_wsS RX6 263 yX6_isSheet wsX6_isSheet) := goodIn_app (goodIn_of _ (by decide +kernel)) ggX6_tear_X6_isSheet
set_option maxRecDepth 20000 in
theorem ggX6_lay_X6_isSheet : GoodIn wsX6_lay wsX6_isSheet := goodIn_r _ [5] (by decide +kernel) (by decide +kernel)
set_option maxRecDepth 20000 in
theorem gX6_lay_X6_isSheet : GoodIn wsX6_lay (va_wsS RX6 263 yX6_isSheet wsX6_isSheet) := goodIn_app (goodIn_of _ (by decide +kernel)) ggX6_lay_X6_isSheet
set_option maxRecDepth 20000 in
theorem ggX6_lay_X4_isMissing : GoodIn wsX6_lay wsX4_isMissing := goodIn_r _ [10, 11, 30, 31, 32] (by decide +kernel) (by decide +kernel)
set_option maxRecDepth 20000 in
theorem gX6_lay_X4_isMissing : GoodIn wsX6_lay (wsV RX6 274 RX4 yX4_isMissing wsX4_isMissing) := goodIn_app (goodIn_of _ (by decide +kernel)) ggX6_lay_X4_isMissing
set_option maxRecDepth 20000 in
theorem ggX6_lay_X4_hasPlaces : GoodIn wsX6_lay wsX4_hasPlaces := goodIn_r _ [15, 11, 30, 31, 32] (by decide +kernel) (by decide +kernel)
set_option maxRecDepth 20000 in
theorem gX6_lay_X4_hasPlaces : GoodIn wsX6_lay (wsV RX6 278 RX4 yX4_hasPlaces wsX4_hasPlaces) := goodIn_app (goodIn_of _ (by decide +kernel)) ggX6_lay_X4_hasPlaces
set_option maxRecDepth 20000 in
theorem ggX6_lay_X4_put : GoodIn wsX6_lay wsX4_put := goodIn_r _ [19, 20, 21, 30, 31, 32] (by decide +kernel) (by decide +kernel)
set_option maxRecDepth 20000 in
theorem gX6_lay_X4_put : GoodIn wsX6_lay (wsV RX6 281 RX4 yX4_put wsX4_put) := goodIn_app (goodIn_of _ (by decide +kernel)) ggX6_lay_X4_put
set_option maxRecDepth 20000 in
theorem ggX6_copy_X6_isSheet : GoodIn wsX6_copy wsX6_isSheet := goodIn_r _ [11] (by decide +kernel) (by decide +kernel)
set_option maxRecDepth 20000 in
theorem gX6_copy_X6_isSheet : GoodIn wsX6_copy (va_wsS RX6 263 yX6_isSheet wsX6_isSheet) := goodIn_app (goodIn_of _ (by decide +kernel)) ggX6_copy_X6_isSheet
set_option maxRecDepth 20000 in
theorem ggX6_copy_X4_isMissing : GoodIn wsX6_copy wsX4_isMissing := goodIn_r _ [16, 17, 30, 31, 32] (by decide +kernel) (by decide +kernel)
set_option maxRecDepth 20000 in
theorem gX6_copy_X4_isMissing : GoodIn wsX6_copy (wsV RX6 274 RX4 yX4_isMissing wsX4_isMissing) := goodIn_app (goodIn_of _ (by decide +kernel)) ggX6_copy_X4_isMissing
set_option maxRecDepth 20000 in
theorem ggX6_copy_X4_hasPlaces : GoodIn wsX6_copy wsX4_hasPlaces := goodIn_r _ [21, 17, 30, 31, 32] (by decide +kernel) (by decide +kernel)
set_option maxRecDepth 20000 in
theorem gX6_copy_X4_hasPlaces : GoodIn wsX6_copy (wsV RX6 278 RX4 yX4_hasPlaces wsX4_hasPlaces) := goodIn_app (goodIn_of _ (by decide +kernel)) ggX6_copy_X4_hasPlaces
set_option maxRecDepth 20000 in
theorem ggX6_hope_X6_isSheet : GoodIn wsX6_hope wsX6_isSheet := goodIn_r _ [9] (by decide +kernel) (by decide +kernel)
set_option maxRecDepth 20000 in
theorem gX6_hope_X6_isSheet : GoodIn wsX6_hope (va_wsS RX6 263 yX6_isSheet wsX6_isSheet) := goodIn_app (goodIn_of _ (by decide +kernel)) ggX6_hope_X6_isSheet
set_option maxRecDepth 20000 in
theorem ggX6_hope_X6_isLane : GoodIn wsX6_hope wsX6_isLane := goodIn_r _ [12] (by decide +kernel) (by decide +kernel)
set_option maxRecDepth 20000 in
theorem gX6_hope_X6_isLane : GoodIn wsX6_hope (va_wsS RX6 266 yX6_isLane wsX6_isLane) := goodIn_app (goodIn_of _ (by decide +kernel)) ggX6_hope_X6_isLane
set_option maxRecDepth 20000 in
theorem ggX6_hope_X4_isMissing : GoodIn wsX6_hope wsX4_isMissing := goodIn_r _ [17, 18, 46, 47, 48] (by decide +kernel) (by decide +kernel)
set_option maxRecDepth 20000 in
theorem gX6_hope_X4_isMissing : GoodIn wsX6_hope (wsV RX6 274 RX4 yX4_isMissing wsX4_isMissing) := goodIn_app (goodIn_of _ (by decide +kernel)) ggX6_hope_X4_isMissing
set_option maxRecDepth 20000 in
theorem ggX6_hope_X4_hasPlaces : GoodIn wsX6_hope wsX4_hasPlaces := goodIn_r _ [22, 18, 46, 47, 48] (by decide +kernel) (by decide +kernel)
set_option maxRecDepth 20000 in
theorem gX6_hope_X4_hasPlaces : GoodIn wsX6_hope (wsV RX6 278 RX4 yX4_hasPlaces wsX4_hasPlaces) := goodIn_app (goodIn_of _ (by decide +kernel)) ggX6_hope_X4_hasPlaces
set_option maxRecDepth 20000 in
theorem ggX6_hope_X4_hasOnlyDays : GoodIn wsX6_hope wsX4_hasOnlyDays := goodIn_r _ [26, 27, 28, 8, 29, 46, 47, 48] (by decide +kernel) (by decide +kernel)
set_option maxRecDepth 20000 in
theorem gX6_hope_X4_hasOnlyDays : GoodIn wsX6_hope (wsV RX6 296 RX4 yX4_hasOnlyDays wsX4_hasOnlyDays) := goodIn_app (goodIn_of _ (by decide +kernel)) ggX6_hope_X4_hasOnlyDays
set_option maxRecDepth 20000 in
theorem ggX6_hope_X5_addHope : GoodIn wsX6_hope wsX5_addHope := goodIn_r _ [34, 35, 36, 37, 49, 50, 51, 52, 53, 54, 55, 56, 57, 58, 59, 60, 61] (by decide +kernel) (by decide +kernel)
set_option maxRecDepth 20000 in
theorem gX6_hope_X5_addHope : GoodIn wsX6_hope (wsV RX6 299 RX5 yX5_addHope wsX5_addHope) := goodIn_app (goodIn_of _ (by decide +kernel)) ggX6_hope_X5_addHope
set_option maxRecDepth 20000 in
theorem ggX6_keep_X6_isImage : GoodIn wsX6_keep wsX6_isImage := goodIn_r _ [10] (by decide +kernel) (by decide +kernel)
set_option maxRecDepth 20000 in
theorem gX6_keep_X6_isImage : GoodIn wsX6_keep (va_wsS RX6 302 yX6_isImage wsX6_isImage) := goodIn_app (goodIn_of _ (by decide +kernel)) ggX6_keep_X6_isImage
set_option maxRecDepth 20000 in
theorem ggX6_keep_X5_init : GoodIn wsX6_keep wsX5_init := goodIn_r _ [13, 14, 15, 16, 17, 18, 19, 20, 21, 22, 23, 24, 25, 26, 27, 28, 29, 30, 31, 48, 49, 50, 51, 52, 53, 54, 55, 56, 57, 58, 59, 60] (by decide +kernel) (by decide +kernel)
set_option maxRecDepth 20000 in
theorem gX6_keep_X5_init : GoodIn wsX6_keep (wsX5_init) := ggX6_keep_X5_init
set_option maxRecDepth 20000 in
theorem ggX6_keep_X5_takeFrom : GoodIn wsX6_keep wsX5_takeFrom := goodIn_r _ [35, 18, 36, 37, 38, 39, 20, 21, 22, 23, 24, 25, 26, 27, 28, 29, 30, 31, 48, 49, 50, 51, 52, 53, 54, 55, 56, 57, 58, 59, 60] (by decide +kernel) (by decide +kernel)
set_option maxRecDepth 20000 in
theorem gX6_keep_X5_takeFrom : GoodIn wsX6_keep (wsV RX6 74 RX5 yX5_takeFrom wsX5_takeFrom) := goodIn_app (goodIn_of _ (by decide +kernel)) ggX6_keep_X5_takeFrom
set_option maxRecDepth 20000 in
theorem ggX6_back_X6_isImage : GoodIn wsX6_back wsX6_isImage := goodIn_r _ [7] (by decide +kernel) (by decide +kernel)
set_option maxRecDepth 20000 in
theorem gX6_back_X6_isImage : GoodIn wsX6_back (va_wsS RX6 302 yX6_isImage wsX6_isImage) := goodIn_app (goodIn_of _ (by decide +kernel)) ggX6_back_X6_isImage
set_option maxRecDepth 20000 in
theorem ggX6_back_X5_takeFrom : GoodIn wsX6_back wsX5_takeFrom := goodIn_r _ [12, 13, 14, 15, 16, 17, 18, 19, 20, 21, 22, 23, 24, 25, 26, 27, 28, 29, 38, 39, 40, 41, 42, 43, 44, 45, 46, 47, 48, 49, 50] (by decide +kernel) (by decide +kernel)
set_option maxRecDepth 20000 in
theorem gX6_back_X5_takeFrom : GoodIn wsX6_back (wsV RX6 74 RX5 yX5_takeFrom wsX5_takeFrom) := goodIn_app (goodIn_of _ (by decide +kernel)) ggX6_back_X5_takeFrom
set_option maxRecDepth 20000 in
theorem ggX6_areDays_X6_isDay : GoodIn wsX6_areDays wsX6_isDay := goodIn_r _ [4] (by decide +kernel) (by decide +kernel)
set_option maxRecDepth 20000 in
theorem gX6_areDays_X6_isDay : GoodIn wsX6_areDays (va_wsS RX6 144 yX6_isDay wsX6_isDay) := goodIn_app (goodIn_of _ (by decide +kernel)) ggX6_areDays_X6_isDay
set_option maxRecDepth 20000 in
theorem ggX6_timesIn_X6_lastLetter : GoodIn wsX6_timesIn wsX6_lastLetter := goodIn_r _ [5, 1] (by decide +kernel) (by decide +kernel)
set_option maxRecDepth 20000 in
theorem gX6_timesIn_X6_lastLetter : GoodIn wsX6_timesIn (va_wsS RX6 312 yX6_lastLetter wsX6_lastLetter) := goodIn_app (goodIn_of _ (by decide +kernel)) ggX6_timesIn_X6_lastLetter
set_option maxRecDepth 20000 in
theorem ggX6_isLeftOf_X6_lastLetter : GoodIn wsX6_isLeftOf wsX6_lastLetter := goodIn_r _ [5, 1] (by decide +kernel) (by decide +kernel)
set_option maxRecDepth 20000 in
theorem gX6_isLeftOf_X6_lastLetter : GoodIn wsX6_isLeftOf (va_wsS RX6 312 yX6_lastLetter wsX6_lastLetter) := goodIn_app (goodIn_of _ (by decide +kernel)) ggX6_isLeftOf_X6_lastLetter
