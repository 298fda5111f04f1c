set_option maxRecDepth 20000 in
theorem ggX7_write_X7_in : GoodIn wsX7_write wsX7_in := goodIn_r _ [8] (by decide +kernel) (by decide +kernel)
set_option maxRecDepth 20000 in
theorem gX7_write_X7_in : GoodIn wsX7_write (va_wsS RX7 68 yX7_in wsX7_in) := goodIn_app (goodIn_of _ (by decide +kernel)) ggX7_write_X7_in
set_option maxRecDepth 20000 in
theorem ggX7_token_X7_sort : GoodIn wsX7_token wsX7_sort := goodIn_r _ [9] (by decide +kernel) (by decide +kernel)
set_option maxRecDepth 20000 in
theorem gX7_token_X7_sort : GoodIn wsX7_token (va_wsS RX7 84 yX7_sort wsX7_sort) := goodIn_app (goodIn_of _ (by decide +kernel)) ggX7_token_X7_sort
set_option maxRecDepth 20000 in
theorem ggX7_wordOf_X7_isWord : GoodIn wsX7_wordOf wsX7_isWord := goodIn_r _ [13, 14, 15, 16, 17, 18, 19, 20, 21, 22, 23, 24, 25, 26, 27, 28, 29, 30, 31, 32, 33, 34, 35, 36, 37, 38, 39, 40, 41, 42, 43, 44, 45, 46] (by decide +kernel) (by decide +kernel)
set_option maxRecDepth 20000 in
theorem gX7_wordOf_X7_isWord : GoodIn wsX7_wordOf (wsV RX7 95 RX7 yX7_isWord wsX7_isWord) := goodIn_app (goodIn_of _ (by decide +kernel)) ggX7_wordOf_X7_isWord
set_option maxRecDepth 20000 in
theorem ggX7_reads_X7_sort : GoodIn wsX7_reads wsX7_sort := goodIn_r _ [10] (by decide +kernel) (by decide +kernel)
set_option maxRecDepth 20000 in
theorem gX7_reads_X7_sort : GoodIn wsX7_reads (va_wsS RX7 84 yX7_sort wsX7_sort) := goodIn_app (goodIn_of _ (by decide +kernel)) ggX7_reads_X7_sort
set_option maxRecDepth 20000 in
theorem ggX7_reads_X7_in : GoodIn wsX7_reads wsX7_in := goodIn_r _ [13] (by decide +kernel) (by decide +kernel)
set_option maxRecDepth 20000 in
theorem gX7_reads_X7_in : GoodIn wsX7_reads (va_wsS RX7 68 yX7_in wsX7_in) := goodIn_app (goodIn_of _ (by decide +kernel)) ggX7_reads_X7_in
set_option maxRecDepth 20000 in
theorem ggX7_reads_X7_token : GoodIn wsX7_reads wsX7_token := goodIn_r _ [17, 18, 2, 3, 1, 4, 7, 8, 9, 10, 19, 20, 21, 22, 23, 24, 25, 26, 27, 28, 29, 30, 31, 32, 33, 34, 35, 36, 37, 38, 39, 40, 41, 42, 43, 44, 45, 46, 47] (by decide +kernel) (by decide +kernel)
set_option maxRecDepth 20000 in
theorem gX7_reads_X7_token : GoodIn wsX7_reads (wsV RX7 116 RX7 yX7_token wsX7_token) := goodIn_app (goodIn_of _ (by decide +kernel)) ggX7_reads_X7_token
set_option maxRecDepth 20000 in
theorem ggX7_codeHere_X7_sort : GoodIn wsX7_codeHere wsX7_sort := goodIn_r _ [11] (by decide +kernel) (by decide +kernel)
set_option maxRecDepth 20000 in
theorem gX7_codeHere_X7_sort : GoodIn wsX7_codeHere (va_wsS RX7 84 yX7_sort wsX7_sort) := goodIn_app (goodIn_of _ (by decide +kernel)) ggX7_codeHere_X7_sort
set_option maxRecDepth 20000 in
theorem ggX7_readsLetter_X7_codeHere : GoodIn wsX7_readsLetter wsX7_codeHere := goodIn_r _ [8, 9, 10, 11, 12, 1, 13, 14, 15, 16, 7, 17, 23, 24, 25, 26, 27, 28, 29, 30, 31, 32, 33, 34, 35, 36, 37, 38, 39, 40, 41, 42, 43, 44, 45, 46, 47, 48, 49, 50, 51] (by decide +kernel) (by decide +kernel)
set_option maxRecDepth 20000 in
theorem gX7_readsLetter_X7_codeHere : GoodIn wsX7_readsLetter (wsV RX7 125 RX7 yX7_codeHere wsX7_codeHere) := goodIn_app (goodIn_of _ (by decide +kernel)) ggX7_readsLetter_X7_codeHere
set_option maxRecDepth 20000 in
theorem ggX7_readsLetter_X7_token : GoodIn wsX7_readsLetter wsX7_token := goodIn_r _ [21, 22, 10, 11, 9, 12, 15, 16, 7, 17, 23, 24, 25, 26, 27, 28, 29, 30, 31, 32, 33, 34, 35, 36, 37, 38, 39, 40, 41, 42, 43, 44, 45, 46, 47, 48, 49, 50, 51] (by decide +kernel) (by decide +kernel)
set_option maxRecDepth 20000 in
theorem gX7_readsLetter_X7_token : GoodIn wsX7_readsLetter (wsV RX7 116 RX7 yX7_token wsX7_token) := goodIn_app (goodIn_of _ (by decide +kernel)) ggX7_readsLetter_X7_token
set_option maxRecDepth 20000 in
theorem ggX7_readsSyl_X7_codeHere : GoodIn wsX7_readsSyl wsX7_codeHere := goodIn_r _ [10, 11, 12, 13, 14, 1, 15, 16, 17, 18, 9, 19, 25, 26, 27, 28, 29, 30, 31, 32, 33, 34, 35, 36, 37, 38, 39, 40, 41, 42, 43, 44, 45, 46, 47, 48, 49, 50, 51, 52, 53] (by decide +kernel) (by decide +kernel)
set_option maxRecDepth 20000 in
theorem gX7_readsSyl_X7_codeHere : GoodIn wsX7_readsSyl (wsV RX7 125 RX7 yX7_codeHere wsX7_codeHere) := goodIn_app (goodIn_of _ (by decide +kernel)) ggX7_readsSyl_X7_codeHere
set_option maxRecDepth 20000 in
theorem ggX7_readsSyl_X7_token : GoodIn wsX7_readsSyl wsX7_token := goodIn_r _ [23, 24, 12, 13, 11, 14, 17, 18, 9, 19, 25, 26, 27, 28, 29, 30, 31, 32, 33, 34, 35, 36, 37, 38, 39, 40, 41, 42, 43, 44, 45, 46, 47, 48, 49, 50, 51, 52, 53] (by decide +kernel) (by decide +kernel)
set_option maxRecDepth 20000 in
theorem gX7_readsSyl_X7_token : GoodIn wsX7_readsSyl (wsV RX7 116 RX7 yX7_token wsX7_token) := goodIn_app (goodIn_of _ (by decide +kernel)) ggX7_readsSyl_X7_token
set_option maxRecDepth 20000 in
theorem ggX7_readsWord_X7_codeHere : GoodIn wsX7_readsWord wsX7_codeHere := goodIn_r _ [11, 1, 2, 3, 12, 4, 13, 14, 15, 16, 10, 17, 23, 24, 25, 26, 27, 28, 29, 30, 31, 32, 33, 34, 35, 36, 37, 38, 39, 40, 41, 42, 43, 44, 45, 46, 47, 48, 49, 50, 51] (by decide +kernel) (by decide +kernel)
set_option maxRecDepth 20000 in
theorem gX7_readsWord_X7_codeHere : GoodIn wsX7_readsWord (wsV RX7 125 RX7 yX7_codeHere wsX7_codeHere) := goodIn_app (goodIn_of _ (by decide +kernel)) ggX7_readsWord_X7_codeHere
set_option maxRecDepth 20000 in
theorem ggX7_readsWord_X7_token : GoodIn wsX7_readsWord wsX7_token := goodIn_r _ [21, 22, 2, 3, 1, 12, 15, 16, 10, 17, 23, 24, 25, 26, 27, 28, 29, 30, 31, 32, 33, 34, 35, 36, 37, 38, 39, 40, 41, 42, 43, 44, 45, 46, 47, 48, 49, 50, 51] (by decide +kernel) (by decide +kernel)
set_option maxRecDepth 20000 in
theorem gX7_readsWord_X7_token : GoodIn wsX7_readsWord (wsV RX7 116 RX7 yX7_token wsX7_token) := goodIn_app (goodIn_of _ (by decide +kernel)) ggX7_readsWord_X7_token
set_option maxRecDepth 20000 in
theorem ggX7_readsRest_X7_readsLetter : GoodIn wsX7_readsRest wsX7_readsLetter := goodIn_r _ [8, 9, 3, 1, 10, 11, 12, 7, 13, 14, 15, 16, 17, 18, 19, 20, 21, 22, 23, 24, 25, 26, 27, 46, 47, 48, 49, 50, 51, 52, 53, 54, 55, 56, 57, 58, 59, 60, 61, 62, 63, 64, 65, 66, 67, 68, 69, 70, 71, 72, 73, 74] (by decide +kernel) (by decide +kernel)
set_option maxRecDepth 20000 in
theorem gX7_readsRest_X7_readsLetter : GoodIn wsX7_readsRest (wsV RX7 135 RX7 yX7_readsLetter wsX7_readsLetter) := goodIn_app (goodIn_of _ (by decide +kernel)) ggX7_readsRest_X7_readsLetter
set_option maxRecDepth 20000 in
theorem ggX7_readsRest_X7_reads : GoodIn wsX7_readsRest wsX7_reads := goodIn_r _ [31, 14, 15, 16, 17, 3, 1, 20, 21, 7, 22, 32, 33, 34, 23, 24, 25, 26, 27, 46, 47, 48, 49, 50, 51, 52, 53, 54, 55, 56, 57, 58, 59, 60, 61, 62, 63, 64, 65, 66, 67, 68, 69, 70, 71, 72, 73, 74] (by decide +kernel) (by decide +kernel)
set_option maxRecDepth 20000 in
theorem gX7_readsRest_X7_reads : GoodIn wsX7_readsRest (wsV RX7 139 RX7 yX7_reads wsX7_reads) := goodIn_app (goodIn_of _ (by decide +kernel)) ggX7_readsRest_X7_reads
set_option maxRecDepth 20000 in
theorem ggX7_readsRest_X7_readsSyl : GoodIn wsX7_readsRest wsX7_readsSyl := goodIn_r _ [38, 9, 39, 40, 3, 1, 10, 11, 12, 7, 13, 14, 15, 16, 17, 18, 19, 20, 21, 22, 23, 24, 25, 26, 27, 46, 47, 48, 49, 50, 51, 52, 53, 54, 55, 56, 57, 58, 59, 60, 61, 62, 63, 64, 65, 66, 67, 68, 69, 70, 71, 72, 73, 74] (by decide +kernel) (by decide +kernel)
set_option maxRecDepth 20000 in
theorem gX7_readsRest_X7_readsSyl : GoodIn wsX7_readsRest (wsV RX7 143 RX7 yX7_readsSyl wsX7_readsSyl) := goodIn_app (goodIn_of _ (by decide +kernel)) ggX7_readsRest_X7_readsSyl
set_option maxRecDepth 20000 in
theorem ggX7_readsRest_X7_readsWord : GoodIn wsX7_readsRest wsX7_readsWord := goodIn_r _ [44, 14, 15, 16, 9, 45, 1, 10, 11, 12, 7, 13, 17, 18, 19, 20, 21, 22, 23, 24, 25, 26, 27, 46, 47, 48, 49, 50, 51, 52, 53, 54, 55, 56, 57, 58, 59, 60, 61, 62, 63, 64, 65, 66, 67, 68, 69, 70, 71, 72, 73, 74] (by decide +kernel) (by decide +kernel)
set_option maxRecDepth 20000 in
theorem gX7_readsRest_X7_readsWord : GoodIn wsX7_readsRest (wsV RX7 146 RX7 yX7_readsWord wsX7_readsWord) := goodIn_app (goodIn_of _ (by decide +kernel)) ggX7_readsRest_X7_readsWord
set_option maxRecDepth 20000 in
theorem ggX7_readsLine_X7_wordOf : GoodIn wsX7_readsLine wsX7_wordOf := goodIn_r _ [10, 11, 12, 13, 14, 15, 16, 17, 18, 19, 20, 21, 9, 22, 23, 24, 25, 26, 68, 69, 70, 71, 72, 73, 74, 75, 76, 77, 78, 79, 80, 81, 82, 83, 84, 85, 86, 87, 88, 89, 90, 91, 92, 93, 94, 95, 96] (by decide +kernel) (by decide +kernel)
set_option maxRecDepth 20000 in
theorem gX7_readsLine_X7_wordOf : GoodIn wsX7_readsLine (wsV RX7 149 RX7 yX7_wordOf wsX7_wordOf) := goodIn_app (goodIn_of _ (by decide +kernel)) ggX7_readsLine_X7_wordOf
set_option maxRecDepth 20000 in
theorem ggX7_readsLine_X7_token : GoodIn wsX7_readsLine wsX7_token := goodIn_r _ [30, 31, 32, 25, 24, 23, 33, 34, 9, 35, 68, 69, 70, 71, 72, 73, 74, 75, 76, 77, 78, 79, 80, 81, 82, 83, 84, 85, 86, 87, 88, 89, 90, 91, 92, 93, 94, 95, 96] (by decide +kernel) (by decide +kernel)
set_option maxRecDepth 20000 in
theorem gX7_readsLine_X7_token : GoodIn wsX7_readsLine (wsV RX7 116 RX7 yX7_token wsX7_token) := goodIn_app (goodIn_of _ (by decide +kernel)) ggX7_readsLine_X7_token
set_option maxRecDepth 20000 in
theorem ggX7_readsLine_X7_readsRest : GoodIn wsX7_readsLine wsX7_readsRest := goodIn_r _ [39, 4, 1, 3, 40, 41, 42, 9, 43, 44, 45, 46, 47, 48, 24, 32, 25, 23, 49, 50, 33, 34, 35, 27, 28, 29, 30, 31, 51, 52, 53, 54, 55, 56, 57, 58, 59, 60, 61, 5, 62, 63, 64, 65, 66, 67, 68, 69, 70, 71, 72, 73, 74, 75, 76, 77, 78, 79, 80, 81, 82, 83, 84, 85, 86, 87, 88, 89, 90, 91, 92, 93, 94, 95, 96] (by decide +kernel) (by decide +kernel)
set_option maxRecDepth 20000 in
theorem gX7_readsLine_X7_readsRest : GoodIn wsX7_readsLine (wsV RX7 156 RX7 yX7_readsRest wsX7_readsRest) := goodIn_app (goodIn_of _ (by decide +kernel)) ggX7_readsLine_X7_readsRest
set_option maxRecDepth 20000 in
theorem ggX7_fault_X7_token : GoodIn wsX7_fault wsX7_token := goodIn_r _ [16, 1, 9, 11, 8, 10, 17, 18, 15, 19, 73, 74, 75, 76, 77, 78, 79, 80, 81, 82, 83, 84, 85, 86, 87, 88, 89, 90, 91, 92, 93, 94, 95, 96, 97, 98, 99, 100, 101] (by decide +kernel) (by decide +kernel)
set_option maxRecDepth 20000 in
theorem gX7_fault_X7_token : GoodIn wsX7_fault (wsV RX7 116 RX7 yX7_token wsX7_token) := goodIn_app (goodIn_of _ (by decide +kernel)) ggX7_fault_X7_token
set_option maxRecDepth 20000 in
theorem ggX7_fault_X7_readsLine : GoodIn wsX7_fault wsX7_readsLine := goodIn_r _ [23, 4, 5, 24, 2, 6, 25, 26, 27, 15, 28, 29, 30, 31, 32, 33, 34, 35, 36, 37, 38, 39, 40, 10, 8, 11, 41, 12, 13, 14, 16, 1, 9, 17, 18, 19, 42, 43, 44, 45, 46, 47, 48, 49, 50, 51, 52, 53, 54, 55, 56, 57, 58, 59, 60, 61, 62, 63, 64, 65, 66, 67, 7, 68, 69, 70, 71, 72, 73, 74, 75, 76, 77, 78, 79, 80, 81, 82, 83, 84, 85, 86, 87, 88, 89, 90, 91, 92, 93, 94, 95, 96, 97, 98, 99, 100, 101] (by decide +kernel) (by decide +kernel)
set_option maxRecDepth 20000 in
theorem gX7_fault_X7_readsLine : GoodIn wsX7_fault (wsV RX7 160 RX7 yX7_readsLine wsX7_readsLine) := goodIn_app (goodIn_of _ (by decide +kernel)) ggX7_fault_X7_readsLine
set_option maxRecDepth 20000 in
theorem ggX7_tell_X7_bear : GoodIn wsX7_tell wsX7_bear := goodIn_r _ [9, 2, 4, 14, 15, 16, 17, 18, 19, 20, 21, 22, 23, 24, 25, 26, 27, 28, 29, 30, 31, 32, 33, 34, 35, 36, 37, 38, 39, 40, 41, 42] (by decide +kernel) (by decide +kernel)
set_option maxRecDepth 20000 in
theorem gX7_tell_X7_bear : GoodIn wsX7_tell (wsV RX7 163 RX7 yX7_bear wsX7_bear) := goodIn_app (goodIn_of _ (by decide +kernel)) ggX7_tell_X7_bear
set_option maxRecDepth 20000 in
theorem ggX7_tell_X7_hopeFor : GoodIn wsX7_tell wsX7_hopeFor := goodIn_r _ [13, 2, 14, 15, 16, 17, 18, 19, 20, 21, 22, 23, 24, 25, 26, 27, 28, 29, 30, 31, 32, 33, 34, 35, 36, 37, 38, 39, 40, 41, 42] (by decide +kernel) (by decide +kernel)
set_option maxRecDepth 20000 in
theorem gX7_tell_X7_hopeFor : GoodIn wsX7_tell (wsV RX7 167 RX7 yX7_hopeFor wsX7_hopeFor) := goodIn_app (goodIn_of _ (by decide +kernel)) ggX7_tell_X7_hopeFor
set_option maxRecDepth 20000 in
theorem ggX7_told_X7_fault : GoodIn wsX7_told wsX7_fault := goodIn_r _ [7, 8, 1, 9, 10, 11, 12, 13, 14, 2, 15, 16, 17, 18, 19, 6, 20, 21, 22, 23, 24, 25, 26, 27, 28, 29, 30, 31, 32, 33, 34, 35, 36, 37, 38, 39, 40, 41, 42, 43, 44, 45, 46, 47, 48, 49, 50, 51, 52, 53, 54, 55, 56, 57, 58, 59, 60, 61, 62, 63, 64, 65, 66, 67, 68, 69, 70, 71, 72, 73, 74, 75, 76, 90, 91, 92, 93, 94, 95, 96, 97, 98, 99, 100, 101, 102, 103, 104, 105, 106, 107, 108, 109, 110, 111, 112, 113, 114, 115, 116, 117, 118] (by decide +kernel) (by decide +kernel)
set_option maxRecDepth 20000 in
theorem gX7_told_X7_fault : GoodIn wsX7_told (wsV RX7 171 RX7 yX7_fault wsX7_fault) := goodIn_app (goodIn_of _ (by decide +kernel)) ggX7_told_X7_fault
set_option maxRecDepth 20000 in
theorem ggX7_told_X7_tell : GoodIn wsX7_told wsX7_tell := goodIn_r _ [80, 28, 9, 76, 81, 82, 83, 84, 6, 85, 86, 87, 88, 89, 90, 91, 92, 93, 94, 95, 96, 97, 98, 99, 100, 101, 102, 103, 104, 105, 106, 107, 108, 109, 110, 111, 112, 113, 114, 115, 116, 117, 118] (by decide +kernel) (by decide +kernel)
set_option maxRecDepth 20000 in
theorem gX7_told_X7_tell : GoodIn wsX7_told (wsV RX7 174 RX7 yX7_tell wsX7_tell) := goodIn_app (goodIn_of _ (by decide +kernel)) ggX7_told_X7_tell
set_option maxRecDepth 20000 in
theorem ggX7_letter_X7_in : GoodIn wsX7_letter wsX7_in := goodIn_r _ [6] (by decide +kernel) (by decide +kernel)
set_option maxRecDepth 20000 in
theorem gX7_letter_X7_in : GoodIn wsX7_letter (va_wsS RX7 68 yX7_in wsX7_in) := goodIn_app (goodIn_of _ (by decide +kernel)) ggX7_letter_X7_in
set_option maxRecDepth 20000 in
theorem ggX7_isPerson_X7_in : GoodIn wsX7_isPerson wsX7_in := goodIn_r _ [5] (by decide +kernel) (by decide +kernel)
set_option maxRecDepth 20000 in
theorem gX7_isPerson_X7_in : GoodIn wsX7_isPerson (va_wsS RX7 68 yX7_in wsX7_in) := goodIn_app (goodIn_of _ (by decide +kernel)) ggX7_isPerson_X7_in
set_option maxRecDepth 20000 in
theorem ggX7_layFar_X7_areNext : GoodIn wsX7_layFar wsX7_areNext := goodIn_r _ [7, 2, 8, 9, 10, 11, 12, 13, 14, 15, 16, 17, 18, 19, 20, 21, 22, 23, 24, 25, 26, 27, 28, 29, 30, 31, 32, 33, 34, 35, 36] (by decide +kernel) (by decide +kernel)
set_option maxRecDepth 20000 in
theorem gX7_layFar_X7_areNext : GoodIn wsX7_layFar (wsV RX7 180 RX7 yX7_areNext wsX7_areNext) := goodIn_app (goodIn_of _ (by decide +kernel)) ggX7_layFar_X7_areNext
set_option maxRecDepth 20000 in
theorem ggX7_within_X7_layFar : GoodIn wsX7_within wsX7_layFar := goodIn_r _ [7, 2, 1, 8, 9, 10, 6, 11, 12, 13, 14, 15, 16, 17, 18, 19, 20, 21, 22, 23, 24, 25, 26, 27, 28, 29, 30, 31, 32, 33, 34, 35, 36, 37, 38, 39, 40] (by decide +kernel) (by decide +kernel)
set_option maxRecDepth 20000 in
theorem gX7_within_X7_layFar : GoodIn wsX7_within (wsV RX7 184 RX7 yX7_layFar wsX7_layFar) := goodIn_app (goodIn_of _ (by decide +kernel)) ggX7_within_X7_layFar
set_option maxRecDepth 20000 in
theorem ggX7_near_X7_within : GoodIn wsX7_near wsX7_within := goodIn_r _ [6, 1, 7, 8, 9, 10, 5, 11, 12, 13, 14, 15, 16, 17, 18, 19, 20, 21, 22, 23, 24, 25, 26, 27, 28, 29, 30, 31, 32, 33, 34, 35, 36, 37, 38, 39, 40, 41, 42, 43, 44] (by decide +kernel) (by decide +kernel)
set_option maxRecDepth 20000 in
theorem gX7_near_X7_within : GoodIn wsX7_near (wsV RX7 187 RX7 yX7_within wsX7_within) := goodIn_app (goodIn_of _ (by decide +kernel)) ggX7_near_X7_within
set_option maxRecDepth 20000 in
theorem ggX7_person_X7_isPerson : GoodIn wsX7_person wsX7_isPerson := goodIn_r _ [6, 1, 7, 8, 5, 9, 31, 32, 33, 34, 35, 36, 37, 38, 39, 40, 41, 42, 43, 44, 45, 46, 47, 48, 49, 50, 51, 52, 53, 54, 55, 56, 57, 58, 59] (by decide +kernel) (by decide +kernel)
set_option maxRecDepth 20000 in
theorem gX7_person_X7_isPerson : GoodIn wsX7_person (wsV RX7 191 RX7 yX7_isPerson wsX7_isPerson) := goodIn_app (goodIn_of _ (by decide +kernel)) ggX7_person_X7_isPerson
set_option maxRecDepth 20000 in
theorem ggX7_person_X7_kindOf : GoodIn wsX7_person wsX7_kindOf := goodIn_r _ [13, 1, 31, 32, 33, 34, 35, 36, 37, 38, 39, 40, 41, 42, 43, 44, 45, 46, 47, 48, 49, 50, 51, 52, 53, 54, 55, 56, 57, 58, 59] (by decide +kernel) (by decide +kernel)
set_option maxRecDepth 20000 in
theorem gX7_person_X7_kindOf : GoodIn wsX7_person (wsV RX7 194 RX7 yX7_kindOf wsX7_kindOf) := goodIn_app (goodIn_of _ (by decide +kernel)) ggX7_person_X7_kindOf
set_option maxRecDepth 20000 in
theorem ggX7_person_X7_near : GoodIn wsX7_person wsX7_near := goodIn_r _ [17, 1, 18, 19, 20, 5, 21, 22, 23, 24, 25, 26, 27, 28, 29, 30, 31, 32, 33, 34, 35, 36, 37, 38, 39, 40, 41, 42, 43, 44, 45, 46, 47, 48, 49, 50, 51, 52, 53, 54, 55, 56, 57, 58, 59] (by decide +kernel) (by decide +kernel)
set_option maxRecDepth 20000 in
theorem gX7_person_X7_near : GoodIn wsX7_person (wsV RX7 197 RX7 yX7_near wsX7_near) := goodIn_app (goodIn_of _ (by decide +kernel)) ggX7_person_X7_near
set_option maxRecDepth 20000 in
theorem ggX7_called_X7_isPerson : GoodIn wsX7_called wsX7_isPerson := goodIn_r _ [7, 8, 9, 10, 6, 11, 12, 13, 14, 15, 16, 17, 18, 19, 20, 21, 22, 23, 24, 25, 26, 27, 28, 29, 30, 31, 32, 33, 34, 35, 36, 37, 38, 39, 40] (by decide +kernel) (by decide +kernel)
set_option maxRecDepth 20000 in
theorem gX7_called_X7_isPerson : GoodIn wsX7_called (wsV RX7 191 RX7 yX7_isPerson wsX7_isPerson) := goodIn_app (goodIn_of _ (by decide +kernel)) ggX7_called_X7_isPerson
set_option maxRecDepth 20000 in
theorem ggX7_degrees_X7_isPerson : GoodIn wsX7_degrees wsX7_isPerson := goodIn_r _ [6, 7, 8, 9, 5, 10, 19, 20, 21, 22, 23, 24, 25, 26, 27, 28, 29, 30, 31, 32, 33, 34, 35, 36, 37, 38, 39, 40, 41, 42, 43, 44, 45, 46, 47] (by decide +kernel) (by decide +kernel)
set_option maxRecDepth 20000 in
theorem gX7_degrees_X7_isPerson : GoodIn wsX7_degrees (wsV RX7 191 RX7 yX7_isPerson wsX7_isPerson) := goodIn_app (goodIn_of _ (by decide +kernel)) ggX7_degrees_X7_isPerson
set_option maxRecDepth 20000 in
theorem ggX7_degrees_X7_layFar : GoodIn wsX7_degrees wsX7_layFar := goodIn_r _ [14, 1, 7, 15, 16, 17, 5, 18, 19, 20, 21, 22, 23, 24, 25, 26, 27, 28, 29, 30, 31, 32, 33, 34, 35, 36, 37, 38, 39, 40, 41, 42, 43, 44, 45, 46, 47] (by decide +kernel) (by decide +kernel)
set_option maxRecDepth 20000 in
theorem gX7_degrees_X7_layFar : GoodIn wsX7_degrees (wsV RX7 184 RX7 yX7_layFar wsX7_layFar) := goodIn_app (goodIn_of _ (by decide +kernel)) ggX7_degrees_X7_layFar
set_option maxRecDepth 20000 in
theorem ggX7_as_X7_isPerson : GoodIn wsX7_as wsX7_isPerson := goodIn_r _ [6, 7, 8, 9, 5, 10, 35, 36, 37, 38, 39, 40, 41, 42, 43, 44, 45, 46, 47, 48, 49, 50, 51, 52, 53, 54, 55, 56, 57, 58, 59, 60, 61, 62, 63] (by decide +kernel) (by decide +kernel)
set_option maxRecDepth 20000 in
theorem gX7_as_X7_isPerson : GoodIn wsX7_as (wsV RX7 191 RX7 yX7_isPerson wsX7_isPerson) := goodIn_app (goodIn_of _ (by decide +kernel)) ggX7_as_X7_isPerson
set_option maxRecDepth 20000 in
theorem ggX7_as_X7_in : GoodIn wsX7_as wsX7_in := goodIn_r _ [10] (by decide +kernel) (by decide +kernel)
set_option maxRecDepth 20000 in
theorem gX7_as_X7_in : GoodIn wsX7_as (va_wsS RX7 68 yX7_in wsX7_in) := goodIn_app (goodIn_of _ (by decide +kernel)) ggX7_as_X7_in
set_option maxRecDepth 20000 in
theorem ggX7_as_X7_kindOf : GoodIn wsX7_as wsX7_kindOf := goodIn_r _ [14, 7, 35, 36, 37, 38, 39, 40, 41, 42, 43, 44, 45, 46, 47, 48, 49, 50, 51, 52, 53, 54, 55, 56, 57, 58, 59, 60, 61, 62, 63] (by decide +kernel) (by decide +kernel)
set_option maxRecDepth 20000 in
theorem gX7_as_X7_kindOf : GoodIn wsX7_as (wsV RX7 194 RX7 yX7_kindOf wsX7_kindOf) := goodIn_app (goodIn_of _ (by decide +kernel)) ggX7_as_X7_kindOf
set_option maxRecDepth 20000 in
theorem ggX7_as_X7_near : GoodIn wsX7_as wsX7_near := goodIn_r _ [18, 7, 19, 20, 21, 5, 22, 23, 24, 25, 26, 27, 28, 29, 30, 31, 35, 36, 37, 38, 39, 40, 41, 42, 43, 44, 45, 46, 47, 48, 49, 50, 51, 52, 53, 54, 55, 56, 57, 58, 59, 60, 61, 62, 63] (by decide +kernel) (by decide +kernel)
set_option maxRecDepth 20000 in
theorem gX7_as_X7_near : GoodIn wsX7_as (wsV RX7 197 RX7 yX7_near wsX7_near) := goodIn_app (goodIn_of _ (by decide +kernel)) ggX7_as_X7_near
set_option maxRecDepth 20000 in
theorem ggX7_as_X7_bits : GoodIn wsX7_as wsX7_bits := goodIn_r _ [34] (by decide +kernel) (by decide +kernel)
set_option maxRecDepth 20000 in
theorem gX7_as_X7_bits : GoodIn wsX7_as (va_wsS RX7 204 yX7_bits wsX7_bits) := goodIn_app (goodIn_of _ (by decide +kernel)) ggX7_as_X7_bits
set_option maxRecDepth 20000 in
theorem ggX7_isCode_X7_lettersOf : GoodIn wsX7_isCode wsX7_lettersOf := goodIn_r _ [5, 1] (by decide +kernel) (by decide +kernel)
set_option maxRecDepth 20000 in
theorem gX7_isCode_X7_lettersOf : GoodIn wsX7_isCode (va_wsS RX7 207 yX7_lettersOf wsX7_lettersOf) := goodIn_app (goodIn_of _ (by decide +kernel)) ggX7_isCode_X7_lettersOf
set_option maxRecDepth 20000 in
theorem ggX7_joined_X7_lettersOf : GoodIn wsX7_joined wsX7_lettersOf := goodIn_r _ [5, 1] (by decide +kernel) (by decide +kernel)
set_option maxRecDepth 20000 in
theorem gX7_joined_X7_lettersOf : GoodIn wsX7_joined (va_wsS RX7 207 yX7_lettersOf wsX7_lettersOf) := goodIn_app (goodIn_of _ (by decide +kernel)) ggX7_joined_X7_lettersOf
set_option maxRecDepth 20000 in
theorem ggX7_layNames_X7_isBare : GoodIn wsX7_layNames wsX7_isBare := goodIn_r _ [7, 2, 8, 20, 21, 22, 23, 24, 25, 26, 27, 28, 29, 30, 31, 32, 33, 34, 35, 36, 37, 38, 39, 40, 41, 42, 43, 44, 45, 46, 47, 48] (by decide +kernel) (by decide +kernel)
set_option maxRecDepth 20000 in
theorem gX7_layNames_X7_isBare : GoodIn wsX7_layNames (wsV RX7 214 RX7 yX7_isBare wsX7_isBare) := goodIn_app (goodIn_of _ (by decide +kernel)) ggX7_layNames_X7_isBare
set_option maxRecDepth 20000 in
theorem ggX7_layNames_X7_addName : GoodIn wsX7_layNames wsX7_addName := goodIn_r _ [12, 1, 13, 20, 21, 22, 23, 24, 25, 26, 27, 28, 29, 30, 31, 32, 33, 34, 35, 36, 37, 38, 39, 40, 41, 42, 43, 44, 45, 46, 47, 48] (by decide +kernel) (by decide +kernel)
set_option maxRecDepth 20000 in
theorem gX7_layNames_X7_addName : GoodIn wsX7_layNames (wsV RX7 218 RX7 yX7_addName wsX7_addName) := goodIn_app (goodIn_of _ (by decide +kernel)) ggX7_layNames_X7_addName
set_option maxRecDepth 20000 in
theorem ggX7_layNames_X7_joined : GoodIn wsX7_layNames wsX7_joined := goodIn_r _ [16, 8, 17, 18, 6, 19] (by decide +kernel) (by decide +kernel)
set_option maxRecDepth 20000 in
theorem gX7_layNames_X7_joined : GoodIn wsX7_layNames (va_wsS RX7 222 yX7_joined wsX7_joined) := goodIn_app (goodIn_of _ (by decide +kernel)) ggX7_layNames_X7_joined
set_option maxRecDepth 20000 in
theorem ggX7_isName_X7_isBare : GoodIn wsX7_isName wsX7_isBare := goodIn_r _ [6, 1, 7, 14, 15, 16, 17, 18, 19, 20, 21, 22, 23, 24, 25, 26, 27, 28, 29, 30, 31, 32, 33, 34, 35, 36, 37, 38, 39, 40, 41, 42] (by decide +kernel) (by decide +kernel)
set_option maxRecDepth 20000 in
theorem gX7_isName_X7_isBare : GoodIn wsX7_isName (wsV RX7 214 RX7 yX7_isBare wsX7_isBare) := goodIn_app (goodIn_of _ (by decide +kernel)) ggX7_isName_X7_isBare
set_option maxRecDepth 20000 in
theorem ggX7_isName_X7_joined : GoodIn wsX7_isName wsX7_joined := goodIn_r _ [10, 7, 11, 12, 5, 13] (by decide +kernel) (by decide +kernel)
set_option maxRecDepth 20000 in
theorem gX7_isName_X7_joined : GoodIn wsX7_isName (va_wsS RX7 222 yX7_joined wsX7_joined) := goodIn_app (goodIn_of _ (by decide +kernel)) ggX7_isName_X7_joined
set_option maxRecDepth 20000 in
theorem ggX7_sum_X7_isCode : GoodIn wsX7_sum wsX7_isCode := goodIn_r _ [4, 5, 6, 7, 3, 8] (by decide +kernel) (by decide +kernel)
set_option maxRecDepth 20000 in
theorem gX7_sum_X7_isCode : GoodIn wsX7_sum (va_wsS RX7 226 yX7_isCode wsX7_isCode) := goodIn_app (goodIn_of _ (by decide +kernel)) ggX7_sum_X7_isCode
set_option maxRecDepth 20000 in
theorem ggX7_sum_X7_sumOf : GoodIn wsX7_sum wsX7_sumOf := goodIn_r _ [12, 13, 5, 14, 15, 16, 17, 18, 19, 20, 21, 22, 23, 24, 25, 26, 27, 28, 29, 30, 31, 32, 33, 34, 35, 36, 37, 38, 39, 40, 41, 42] (by decide +kernel) (by decide +kernel)
set_option maxRecDepth 20000 in
theorem gX7_sum_X7_sumOf : GoodIn wsX7_sum (wsV RX7 229 RX7 yX7_sumOf wsX7_sumOf) := goodIn_app (goodIn_of _ (by decide +kernel)) ggX7_sum_X7_sumOf
set_option maxRecDepth 20000 in
theorem ggX7_name_X7_isCode : GoodIn wsX7_name wsX7_isCode := goodIn_r _ [4, 5, 6, 7, 3, 8] (by decide +kernel) (by decide +kernel)
set_option maxRecDepth 20000 in
theorem gX7_name_X7_isCode : GoodIn wsX7_name (va_wsS RX7 226 yX7_isCode wsX7_isCode) := goodIn_app (goodIn_of _ (by decide +kernel)) ggX7_name_X7_isCode
set_option maxRecDepth 20000 in
theorem ggX7_name_X7_isName : GoodIn wsX7_name wsX7_isName := goodIn_r _ [12, 13, 14, 15, 16, 3, 17, 5, 18, 19, 20, 6, 7, 8, 21, 22, 23, 24, 25, 26, 27, 28, 29, 30, 31, 32, 33, 34, 35, 36, 37, 38, 39, 40, 41, 42, 43, 44, 45, 46, 47, 48, 49] (by decide +kernel) (by decide +kernel)
set_option maxRecDepth 20000 in
theorem gX7_name_X7_isName : GoodIn wsX7_name (wsV RX7 232 RX7 yX7_isName wsX7_isName) := goodIn_app (goodIn_of _ (by decide +kernel)) ggX7_name_X7_isName
set_option maxRecDepth 20000 in
theorem ggX7_takerOf_X7_near : GoodIn wsX7_takerOf wsX7_near := goodIn_r _ [7, 1, 8, 9, 10, 6, 11, 12, 13, 14, 15, 16, 17, 18, 19, 20, 24, 25, 26, 27, 28, 29, 30, 31, 32, 33, 34, 35, 36, 37, 38, 39, 40, 41, 42, 43, 44, 45, 46, 47, 48, 49, 50, 51, 52] (by decide +kernel) (by decide +kernel)
set_option maxRecDepth 20000 in
theorem gX7_takerOf_X7_near : GoodIn wsX7_takerOf (wsV RX7 197 RX7 yX7_near wsX7_near) := goodIn_app (goodIn_of _ (by decide +kernel)) ggX7_takerOf_X7_near
set_option maxRecDepth 20000 in
theorem ggX7_takerOf_X7_has : GoodIn wsX7_takerOf wsX7_has := goodIn_r _ [23] (by decide +kernel) (by decide +kernel)
set_option maxRecDepth 20000 in
theorem gX7_takerOf_X7_has : GoodIn wsX7_takerOf (va_wsS RX7 235 yX7_has wsX7_has) := goodIn_app (goodIn_of _ (by decide +kernel)) ggX7_takerOf_X7_has
set_option maxRecDepth 20000 in
theorem ggX7_judge_X7_isPerson : GoodIn wsX7_judge wsX7_isPerson := goodIn_r _ [7, 2, 8, 9, 6, 10, 54, 55, 56, 57, 58, 59, 60, 61, 62, 63, 64, 65, 66, 67, 68, 69, 70, 71, 72, 73, 74, 75, 76, 77, 78, 79, 80, 81, 82] (by decide +kernel) (by decide +kernel)
set_option maxRecDepth 20000 in
theorem gX7_judge_X7_isPerson : GoodIn wsX7_judge (wsV RX7 191 RX7 yX7_isPerson wsX7_isPerson) := goodIn_app (goodIn_of _ (by decide +kernel)) ggX7_judge_X7_isPerson
set_option maxRecDepth 20000 in
theorem ggX7_judge_X7_isName : GoodIn wsX7_judge wsX7_isName := goodIn_r _ [14, 2, 15, 16, 17, 6, 18, 19, 20, 21, 22, 23, 24, 25, 54, 55, 56, 57, 58, 59, 60, 61, 62, 63, 64, 65, 66, 67, 68, 69, 70, 71, 72, 73, 74, 75, 76, 77, 78, 79, 80, 81, 82] (by decide +kernel) (by decide +kernel)
set_option maxRecDepth 20000 in
theorem gX7_judge_X7_isName : GoodIn wsX7_judge (wsV RX7 232 RX7 yX7_isName wsX7_isName) := goodIn_app (goodIn_of _ (by decide +kernel)) ggX7_judge_X7_isName
set_option maxRecDepth 20000 in
theorem ggX7_judge_X7_sumOf : GoodIn wsX7_judge wsX7_sumOf := goodIn_r _ [29, 2, 19, 54, 55, 56, 57, 58, 59, 60, 61, 62, 63, 64, 65, 66, 67, 68, 69, 70, 71, 72, 73, 74, 75, 76, 77, 78, 79, 80, 81, 82] (by decide +kernel) (by decide +kernel)
set_option maxRecDepth 20000 in
theorem gX7_judge_X7_sumOf : GoodIn wsX7_judge (wsV RX7 229 RX7 yX7_sumOf wsX7_sumOf) := goodIn_app (goodIn_of _ (by decide +kernel)) ggX7_judge_X7_sumOf
set_option maxRecDepth 20000 in
theorem ggX7_judge_X7_takerOf : GoodIn wsX7_judge wsX7_takerOf := goodIn_r _ [33, 2, 1, 34, 35, 36, 6, 37, 38, 39, 40, 41, 42, 43, 44, 45, 46, 47, 48, 49, 50, 51, 52, 53, 54, 55, 56, 57, 58, 59, 60, 61, 62, 63, 64, 65, 66, 67, 68, 69, 70, 71, 72, 73, 74, 75, 76, 77, 78, 79, 80, 81, 82] (by decide +kernel) (by decide +kernel)
set_option maxRecDepth 20000 in
theorem gX7_judge_X7_takerOf : GoodIn wsX7_judge (wsV RX7 238 RX7 yX7_takerOf wsX7_takerOf) := goodIn_app (goodIn_of _ (by decide +kernel)) ggX7_judge_X7_takerOf
set_option maxRecDepth 20000 in
theorem ggX7_taker_X7_isPerson : GoodIn wsX7_taker wsX7_isPerson := goodIn_r _ [5, 6, 7, 8, 4, 9, 58, 59, 60, 61, 62, 63, 64, 65, 66, 67, 68, 69, 70, 71, 72, 73, 74, 75, 76, 77, 78, 79, 80, 81, 82, 83, 84, 85, 86] (by decide +kernel) (by decide +kernel)
set_option maxRecDepth 20000 in
theorem gX7_taker_X7_isPerson : GoodIn wsX7_taker (wsV RX7 191 RX7 yX7_isPerson wsX7_isPerson) := goodIn_app (goodIn_of _ (by decide +kernel)) ggX7_taker_X7_isPerson
set_option maxRecDepth 20000 in
theorem ggX7_taker_X7_judge : GoodIn wsX7_taker wsX7_judge := goodIn_r _ [13, 14, 6, 1, 2, 3, 4, 5, 7, 8, 9, 15, 16, 17, 18, 19, 20, 21, 22, 23, 24, 25, 26, 27, 28, 29, 30, 31, 32, 33, 34, 35, 36, 37, 38, 39, 40, 41, 42, 43, 44, 45, 46, 47, 48, 49, 50, 51, 52, 53, 54, 55, 56, 57, 58, 59, 60, 61, 62, 63, 64, 65, 66, 67, 68, 69, 70, 71, 72, 73, 74, 75, 76, 77, 78, 79, 80, 81, 82, 83, 84, 85, 86] (by decide +kernel) (by decide +kernel)
set_option maxRecDepth 20000 in
theorem gX7_taker_X7_judge : GoodIn wsX7_taker (wsV RX7 241 RX7 yX7_judge wsX7_judge) := goodIn_app (goodIn_of _ (by decide +kernel)) ggX7_taker_X7_judge
set_option maxRecDepth 20000 in
theorem ggX7_taker_X7_takerOf : GoodIn wsX7_taker wsX7_takerOf := goodIn_r _ [37, 6, 14, 38, 39, 40, 4, 41, 42, 43, 44, 45, 46, 47, 48, 49, 50, 51, 52, 53, 54, 55, 56, 57, 58, 59, 60, 61, 62, 63, 64, 65, 66, 67, 68, 69, 70, 71, 72, 73, 74, 75, 76, 77, 78, 79, 80, 81, 82, 83, 84, 85, 86] (by decide +kernel) (by decide +kernel)
set_option maxRecDepth 20000 in
theorem gX7_taker_X7_takerOf : GoodIn wsX7_taker (wsV RX7 238 RX7 yX7_takerOf wsX7_takerOf) := goodIn_app (goodIn_of _ (by decide +kernel)) ggX7_taker_X7_takerOf
set_option maxRecDepth 20000 in
theorem ggX7_isDay_X7_in : GoodIn wsX7_isDay wsX7_in := goodIn_r _ [5] (by decide +kernel) (by decide +kernel)
set_option maxRecDepth 20000 in
theorem gX7_isDay_X7_in : GoodIn wsX7_isDay (va_wsS RX7 68 yX7_in wsX7_in) := goodIn_app (goodIn_of _ (by decide +kernel)) ggX7_isDay_X7_in
set_option maxRecDepth 20000 in
theorem ggX7_names_X7_isDay : GoodIn wsX7_names wsX7_isDay := goodIn_r _ [7, 8, 9, 10, 6, 11] (by decide +kernel) (by decide +kernel)
set_option maxRecDepth 20000 in
theorem gX7_names_X7_isDay : GoodIn wsX7_names (va_wsS RX7 246 yX7_isDay wsX7_isDay) := goodIn_app (goodIn_of _ (by decide +kernel)) ggX7_names_X7_isDay
set_option maxRecDepth 20000 in
theorem ggX7_names_X7_in : GoodIn wsX7_names wsX7_in := goodIn_r _ [11] (by decide +kernel) (by decide +kernel)
set_option maxRecDepth 20000 in
theorem gX7_names_X7_in : GoodIn wsX7_names (va_wsS RX7 68 yX7_in wsX7_in) := goodIn_app (goodIn_of _ (by decide +kernel)) ggX7_names_X7_in
set_option maxRecDepth 20000 in
theorem ggX7_names_X7_layNames : GoodIn wsX7_names wsX7_layNames := goodIn_r _ [15, 2, 16, 17, 18, 19, 6, 20, 21, 22, 23, 24, 25, 3, 26, 27, 28, 29, 30, 31, 36, 37, 38, 39, 40, 41, 42, 43, 44, 45, 46, 47, 48, 49, 50, 51, 52, 53, 54, 55, 56, 57, 58, 59, 60, 61, 62, 63, 64] (by decide +kernel) (by decide +kernel)
set_option maxRecDepth 20000 in
theorem gX7_names_X7_layNames : GoodIn wsX7_names (wsV RX7 251 RX7 yX7_layNames wsX7_layNames) := goodIn_app (goodIn_of _ (by decide +kernel)) ggX7_names_X7_layNames
set_option maxRecDepth 20000 in
theorem ggX7_names_X7_sumOf : GoodIn wsX7_names wsX7_sumOf := goodIn_r _ [35, 16, 21, 36, 37, 38, 39, 40, 41, 42, 43, 44, 45, 46, 47, 48, 49, 50, 51, 52, 53, 54, 55, 56, 57, 58, 59, 60, 61, 62, 63, 64] (by decide +kernel) (by decide +kernel)
set_option maxRecDepth 20000 in
theorem gX7_names_X7_sumOf : GoodIn wsX7_names (wsV RX7 229 RX7 yX7_sumOf wsX7_sumOf) := goodIn_app (goodIn_of _ (by decide +kernel)) ggX7_names_X7_sumOf
set_option maxRecDepth 20000 in
theorem ggX7_names_X7_lettersOf : GoodIn wsX7_names wsX7_lettersOf := goodIn_r _ [31, 21] (by decide +kernel) (by decide +kernel)
set_option maxRecDepth 20000 in
theorem gX7_names_X7_lettersOf : GoodIn wsX7_names (va_wsS RX7 207 yX7_lettersOf wsX7_lettersOf) := goodIn_app (goodIn_of _ (by decide +kernel)) ggX7_names_X7_lettersOf
set_option maxRecDepth 20000 in
theorem ggX7_which_X7_isDay : GoodIn wsX7_which wsX7_isDay := goodIn_r _ [8, 9, 10, 11, 7, 12] (by decide +kernel) (by decide +kernel)
set_option maxRecDepth 20000 in
theorem gX7_which_X7_isDay : GoodIn wsX7_which (va_wsS RX7 246 yX7_isDay wsX7_isDay) := goodIn_app (goodIn_of _ (by decide +kernel)) ggX7_which_X7_isDay
set_option maxRecDepth 20000 in
theorem ggX7_which_X7_layNames : GoodIn wsX7_which wsX7_layNames := goodIn_r _ [16, 2, 17, 18, 19, 20, 7, 21, 22, 23, 24, 25, 26, 3, 27, 28, 29, 30, 31, 32, 37, 38, 39, 40, 41, 42, 43, 44, 45, 46, 47, 48, 49, 50, 51, 52, 53, 54, 55, 56, 57, 58, 59, 60, 61, 62, 63, 64, 65] (by decide +kernel) (by decide +kernel)
set_option maxRecDepth 20000 in
theorem gX7_which_X7_layNames : GoodIn wsX7_which (wsV RX7 251 RX7 yX7_layNames wsX7_layNames) := goodIn_app (goodIn_of _ (by decide +kernel)) ggX7_which_X7_layNames
set_option maxRecDepth 20000 in
theorem ggX7_which_X7_sumOf : GoodIn wsX7_which wsX7_sumOf := goodIn_r _ [36, 17, 22, 37, 38, 39, 40, 41, 42, 43, 44, 45, 46, 47, 48, 49, 50, 51, 52, 53, 54, 55, 56, 57, 58, 59, 60, 61, 62, 63, 64, 65] (by decide +kernel) (by decide +kernel)
set_option maxRecDepth 20000 in
theorem gX7_which_X7_sumOf : GoodIn wsX7_which (wsV RX7 229 RX7 yX7_sumOf wsX7_sumOf) := goodIn_app (goodIn_of _ (by decide +kernel)) ggX7_which_X7_sumOf
set_option maxRecDepth 20000 in
theorem ggX7_isFree_X7_has : GoodIn wsX7_isFree wsX7_has := goodIn_r _ [6] (by decide +kernel) (by decide +kernel)
set_option maxRecDepth 20000 in
theorem gX7_isFree_X7_has : GoodIn wsX7_isFree (va_wsS RX7 235 yX7_has wsX7_has) := goodIn_app (goodIn_of _ (by decide +kernel)) ggX7_isFree_X7_has
set_option maxRecDepth 20000 in
theorem ggX7_free_X7_isPerson : GoodIn wsX7_free wsX7_isPerson := goodIn_r _ [11, 5, 12, 13, 10, 14, 63, 64, 65, 66, 67, 68, 69, 70, 71, 72, 73, 74, 75, 76, 77, 78, 79, 80, 81, 82, 83, 84, 85, 86, 87, 88, 89, 90, 91] (by decide +kernel) (by decide +kernel)
set_option maxRecDepth 20000 in
theorem gX7_free_X7_isPerson : GoodIn wsX7_free (wsV RX7 191 RX7 yX7_isPerson wsX7_isPerson) := goodIn_app (goodIn_of _ (by decide +kernel)) ggX7_free_X7_isPerson
set_option maxRecDepth 20000 in
theorem ggX7_free_X7_layNames : GoodIn wsX7_free wsX7_layNames := goodIn_r _ [18, 3, 5, 19, 20, 21, 10, 22, 23, 24, 25, 26, 27, 4, 28, 29, 30, 31, 32, 33, 63, 64, 65, 66, 67, 68, 69, 70, 71, 72, 73, 74, 75, 76, 77, 78, 79, 80, 81, 82, 83, 84, 85, 86, 87, 88, 89, 90, 91] (by decide +kernel) (by decide +kernel)
set_option maxRecDepth 20000 in
theorem gX7_free_X7_layNames : GoodIn wsX7_free (wsV RX7 251 RX7 yX7_layNames wsX7_layNames) := goodIn_app (goodIn_of _ (by decide +kernel)) ggX7_free_X7_layNames
set_option maxRecDepth 20000 in
theorem ggX7_free_X7_near : GoodIn wsX7_free wsX7_near := goodIn_r _ [37, 5, 38, 39, 40, 10, 41, 42, 43, 44, 45, 46, 47, 48, 49, 50, 63, 64, 65, 66, 67, 68, 69, 70, 71, 72, 73, 74, 75, 76, 77, 78, 79, 80, 81, 82, 83, 84, 85, 86, 87, 88, 89, 90, 91] (by decide +kernel) (by decide +kernel)
set_option maxRecDepth 20000 in
theorem gX7_free_X7_near : GoodIn wsX7_free (wsV RX7 197 RX7 yX7_near wsX7_near) := goodIn_app (goodIn_of _ (by decide +kernel)) ggX7_free_X7_near
set_option maxRecDepth 20000 in
theorem ggX7_free_X7_sumOf : GoodIn wsX7_free wsX7_sumOf := goodIn_r _ [54, 5, 23, 63, 64, 65, 66, 67, 68, 69, 70, 71, 72, 73, 74, 75, 76, 77, 78, 79, 80, 81, 82, 83, 84, 85, 86, 87, 88, 89, 90, 91] (by decide +kernel) (by decide +kernel)
set_option maxRecDepth 20000 in
theorem gX7_free_X7_sumOf : GoodIn wsX7_free (wsV RX7 229 RX7 yX7_sumOf wsX7_sumOf) := goodIn_app (goodIn_of _ (by decide +kernel)) ggX7_free_X7_sumOf
set_option maxRecDepth 20000 in
theorem ggX7_free_X7_isFree : GoodIn wsX7_free wsX7_isFree := goodIn_r _ [58, 5, 59, 60, 61, 10, 62, 63, 64, 65, 66, 67, 68, 69, 70, 71, 72, 73, 74, 75, 76, 77, 78, 79, 80, 81, 82, 83, 84, 85, 86, 87, 88, 89, 90, 91] (by decide +kernel) (by decide +kernel)
set_option maxRecDepth 20000 in
theorem gX7_free_X7_isFree : GoodIn wsX7_free (wsV RX7 256 RX7 yX7_isFree wsX7_isFree) := goodIn_app (goodIn_of _ (by decide +kernel)) ggX7_free_X7_isFree
set_option maxRecDepth 20000 in
theorem ggX7_allNamed_X7_has : GoodIn wsX7_allNamed wsX7_has := goodIn_r _ [6] (by decide +kernel) (by decide +kernel)
set_option maxRecDepth 20000 in
theorem gX7_allNamed_X7_has : GoodIn wsX7_allNamed (va_wsS RX7 235 yX7_has wsX7_has) := goodIn_app (goodIn_of _ (by decide +kernel)) ggX7_allNamed_X7_has
set_option maxRecDepth 20000 in
theorem ggX7_hopes_X7_isPerson : GoodIn wsX7_hopes wsX7_isPerson := goodIn_r _ [12, 3, 13, 14, 11, 15, 67, 68, 69, 70, 71, 72, 73, 74, 75, 76, 77, 78, 79, 80, 81, 82, 83, 84, 85, 86, 87, 88, 89, 90, 91, 92, 93, 94, 95] (by decide +kernel) (by decide +kernel)
set_option maxRecDepth 20000 in
theorem gX7_hopes_X7_isPerson : GoodIn wsX7_hopes (wsV RX7 191 RX7 yX7_isPerson wsX7_isPerson) := goodIn_app (goodIn_of _ (by decide +kernel)) ggX7_hopes_X7_isPerson
set_option maxRecDepth 20000 in
theorem ggX7_hopes_X7_in : GoodIn wsX7_hopes wsX7_in := goodIn_r _ [15] (by decide +kernel) (by decide +kernel)
set_option maxRecDepth 20000 in
theorem gX7_hopes_X7_in : GoodIn wsX7_hopes (va_wsS RX7 68 yX7_in wsX7_in) := goodIn_app (goodIn_of _ (by decide +kernel)) ggX7_hopes_X7_in
set_option maxRecDepth 20000 in
theorem ggX7_hopes_X7_within : GoodIn wsX7_hopes wsX7_within := goodIn_r _ [19, 3, 20, 21, 22, 23, 11, 24, 25, 26, 27, 28, 67, 68, 69, 70, 71, 72, 73, 74, 75, 76, 77, 78, 79, 80, 81, 82, 83, 84, 85, 86, 87, 88, 89, 90, 91, 92, 93, 94, 95] (by decide +kernel) (by decide +kernel)
set_option maxRecDepth 20000 in
theorem gX7_hopes_X7_within : GoodIn wsX7_hopes (wsV RX7 187 RX7 yX7_within wsX7_within) := goodIn_app (goodIn_of _ (by decide +kernel)) ggX7_hopes_X7_within
set_option maxRecDepth 20000 in
theorem ggX7_hopes_X7_layNames : GoodIn wsX7_hopes wsX7_layNames := goodIn_r _ [32, 5, 3, 33, 34, 35, 11, 36, 37, 38, 39, 40, 41, 6, 42, 43, 44, 45, 46, 47, 67, 68, 69, 70, 71, 72, 73, 74, 75, 76, 77, 78, 79, 80, 81, 82, 83, 84, 85, 86, 87, 88, 89, 90, 91, 92, 93, 94, 95] (by decide +kernel) (by decide +kernel)
set_option maxRecDepth 20000 in
theorem gX7_hopes_X7_layNames : GoodIn wsX7_hopes (wsV RX7 251 RX7 yX7_layNames wsX7_layNames) := goodIn_app (goodIn_of _ (by decide +kernel)) ggX7_hopes_X7_layNames
set_option maxRecDepth 20000 in
theorem ggX7_hopes_X7_sumOf : GoodIn wsX7_hopes wsX7_sumOf := goodIn_r _ [51, 3, 37, 67, 68, 69, 70, 71, 72, 73, 74, 75, 76, 77, 78, 79, 80, 81, 82, 83, 84, 85, 86, 87, 88, 89, 90, 91, 92, 93, 94, 95] (by decide +kernel) (by decide +kernel)
set_option maxRecDepth 20000 in
theorem gX7_hopes_X7_sumOf : GoodIn wsX7_hopes (wsV RX7 229 RX7 yX7_sumOf wsX7_sumOf) := goodIn_app (goodIn_of _ (by decide +kernel)) ggX7_hopes_X7_sumOf
set_option maxRecDepth 20000 in
theorem ggX7_hopes_X7_isFree : GoodIn wsX7_hopes wsX7_isFree := goodIn_r _ [55, 3, 56, 57, 58, 11, 59, 67, 68, 69, 70, 71, 72, 73, 74, 75, 76, 77, 78, 79, 80, 81, 82, 83, 84, 85, 86, 87, 88, 89, 90, 91, 92, 93, 94, 95] (by decide +kernel) (by decide +kernel)
set_option maxRecDepth 20000 in
theorem gX7_hopes_X7_isFree : GoodIn wsX7_hopes (wsV RX7 256 RX7 yX7_isFree wsX7_isFree) := goodIn_app (goodIn_of _ (by decide +kernel)) ggX7_hopes_X7_isFree
set_option maxRecDepth 20000 in
theorem ggX7_hopes_X7_has : GoodIn wsX7_hopes wsX7_has := goodIn_r _ [59] (by decide +kernel) (by decide +kernel)
set_option maxRecDepth 20000 in
theorem gX7_hopes_X7_has : GoodIn wsX7_hopes (va_wsS RX7 235 yX7_has wsX7_has) := goodIn_app (goodIn_of _ (by decide +kernel)) ggX7_hopes_X7_has
set_option maxRecDepth 20000 in
theorem ggX7_hopes_X7_allNamed : GoodIn wsX7_hopes wsX7_allNamed := goodIn_r _ [63, 3, 4, 57, 58, 11, 59, 67, 68, 69, 70, 71, 72, 73, 74, 75, 76, 77, 78, 79, 80, 81, 82, 83, 84, 85, 86, 87, 88, 89, 90, 91, 92, 93, 94, 95] (by decide +kernel) (by decide +kernel)
set_option maxRecDepth 20000 in
theorem gX7_hopes_X7_allNamed : GoodIn wsX7_hopes (wsV RX7 261 RX7 yX7_allNamed wsX7_allNamed) := goodIn_app (goodIn_of _ (by decide +kernel)) ggX7_hopes_X7_allNamed
set_option maxRecDepth 20000 in
theorem ggX7_hopes_X7_divisor : GoodIn wsX7_hopes wsX7_divisor := goodIn_r _ [66] (by decide +kernel) (by decide +kernel)
set_option maxRecDepth 20000 in
theorem gX7_hopes_X7_divisor : GoodIn wsX7_hopes (va_wsS RX7 264 yX7_divisor wsX7_divisor) := goodIn_app (goodIn_of _ (by decide +kernel)) ggX7_hopes_X7_divisor
set_option maxRecDepth 20000 in
theorem ggX7_layNamed_X7_mark : GoodIn wsX7_layNamed wsX7_mark := goodIn_r _ [8, 1, 9, 10, 11, 12, 13, 14, 15, 16, 17, 18, 19, 20, 21, 22, 23, 24, 25, 26, 27, 28, 29, 30, 31, 32, 33, 34, 35, 36, 37] (by decide +kernel) (by decide +kernel)
set_option maxRecDepth 20000 in
theorem gX7_layNamed_X7_mark : GoodIn wsX7_layNamed (wsV RX7 270 RX7 yX7_mark wsX7_mark) := goodIn_app (goodIn_of _ (by decide +kernel)) ggX7_layNamed_X7_mark
set_option maxRecDepth 20000 in
theorem ggX7_laySums_X7_isBare : GoodIn wsX7_laySums wsX7_isBare := goodIn_r _ [8, 2, 9, 23, 24, 25, 26, 27, 28, 29, 30, 31, 32, 33, 34, 35, 36, 37, 38, 39, 40, 41, 42, 43, 44, 45, 46, 47, 48, 49, 50, 51] (by decide +kernel) (by decide +kernel)
set_option maxRecDepth 20000 in
theorem gX7_laySums_X7_isBare : GoodIn wsX7_laySums (wsV RX7 214 RX7 yX7_isBare wsX7_isBare) := goodIn_app (goodIn_of _ (by decide +kernel)) ggX7_laySums_X7_isBare
set_option maxRecDepth 20000 in
theorem ggX7_laySums_X7_sumOf : GoodIn wsX7_laySums wsX7_sumOf := goodIn_r _ [13, 2, 9, 23, 24, 25, 26, 27, 28, 29, 30, 31, 32, 33, 34, 35, 36, 37, 38, 39, 40, 41, 42, 43, 44, 45, 46, 47, 48, 49, 50, 51] (by decide +kernel) (by decide +kernel)
set_option maxRecDepth 20000 in
theorem gX7_laySums_X7_sumOf : GoodIn wsX7_laySums (wsV RX7 229 RX7 yX7_sumOf wsX7_sumOf) := goodIn_app (goodIn_of _ (by decide +kernel)) ggX7_laySums_X7_sumOf
set_option maxRecDepth 20000 in
theorem ggX7_laySums_X7_layNamed : GoodIn wsX7_laySums wsX7_layNamed := goodIn_r _ [17, 18, 1, 3, 19, 20, 21, 7, 22, 23, 24, 25, 26, 27, 28, 29, 30, 31, 32, 33, 34, 35, 36, 37, 38, 39, 40, 41, 42, 43, 44, 45, 46, 47, 48, 49, 50, 51] (by decide +kernel) (by decide +kernel)
set_option maxRecDepth 20000 in
theorem gX7_laySums_X7_layNamed : GoodIn wsX7_laySums (wsV RX7 273 RX7 yX7_layNamed wsX7_layNamed) := goodIn_app (goodIn_of _ (by decide +kernel)) ggX7_laySums_X7_layNamed
set_option maxRecDepth 20000 in
theorem ggX7_areDays_X7_isDay : GoodIn wsX7_areDays wsX7_isDay := goodIn_r _ [4, 5, 6, 7, 3, 8] (by decide +kernel) (by decide +kernel)
set_option maxRecDepth 20000 in
theorem gX7_areDays_X7_isDay : GoodIn wsX7_areDays (va_wsS RX7 246 yX7_isDay wsX7_isDay) := goodIn_app (goodIn_of _ (by decide +kernel)) ggX7_areDays_X7_isDay
set_option maxRecDepth 20000 in
theorem ggX7_without_X7_areDays : GoodIn wsX7_without wsX7_areDays := goodIn_r _ [4, 5, 6, 3, 7, 8, 9, 10, 11] (by decide +kernel) (by decide +kernel)
set_option maxRecDepth 20000 in
theorem gX7_without_X7_areDays : GoodIn wsX7_without (va_wsS RX7 276 yX7_areDays wsX7_areDays) := goodIn_app (goodIn_of _ (by decide +kernel)) ggX7_without_X7_areDays
set_option maxRecDepth 20000 in
theorem ggX7_without_X7_in : GoodIn wsX7_without wsX7_in := goodIn_r _ [11] (by decide +kernel) (by decide +kernel)
set_option maxRecDepth 20000 in
theorem gX7_without_X7_in : GoodIn wsX7_without (va_wsS RX7 68 yX7_in wsX7_in) := goodIn_app (goodIn_of _ (by decide +kernel)) ggX7_without_X7_in
set_option maxRecDepth 20000 in
theorem ggX7_without_X7_laySums : GoodIn wsX7_without wsX7_laySums := goodIn_r _ [15, 16, 17, 18, 19, 20, 21, 3, 22, 23, 24, 25, 26, 27, 28, 29, 30, 31, 32, 33, 34, 35, 36, 41, 42, 43, 44, 45, 46, 47, 48, 49, 50, 51, 52, 53, 54, 55, 56, 57, 58, 59, 60, 61, 62, 63, 64, 65, 66, 67, 68, 69] (by decide +kernel) (by decide +kernel)
set_option maxRecDepth 20000 in
theorem gX7_without_X7_laySums : GoodIn wsX7_without (wsV RX7 279 RX7 yX7_laySums wsX7_laySums) := goodIn_app (goodIn_of _ (by decide +kernel)) ggX7_without_X7_laySums
set_option maxRecDepth 20000 in
theorem ggX7_without_X7_bare : GoodIn wsX7_without wsX7_bare := goodIn_r _ [40, 32, 41, 42, 43, 44, 45, 46, 47, 48, 49, 50, 51, 52, 53, 54, 55, 56, 57, 58, 59, 60, 61, 62, 63, 64, 65, 66, 67, 68, 69] (by decide +kernel) (by decide +kernel)
set_option maxRecDepth 20000 in
theorem gX7_without_X7_bare : GoodIn wsX7_without (wsV RX7 282 RX7 yX7_bare wsX7_bare) := goodIn_app (goodIn_of _ (by decide +kernel)) ggX7_without_X7_bare
set_option maxRecDepth 20000 in
theorem ggX7_mend_X7_areDays : GoodIn wsX7_mend wsX7_areDays := goodIn_r _ [11, 12, 13, 10, 14, 15, 16, 17, 18] (by decide +kernel) (by decide +kernel)
set_option maxRecDepth 20000 in
theorem gX7_mend_X7_areDays : GoodIn wsX7_mend (va_wsS RX7 276 yX7_areDays wsX7_areDays) := goodIn_app (goodIn_of _ (by decide +kernel)) ggX7_mend_X7_areDays
set_option maxRecDepth 20000 in
theorem ggX7_mend_X7_laySums : GoodIn wsX7_mend wsX7_laySums := goodIn_r _ [22, 4, 2, 6, 23, 24, 25, 10, 26, 27, 28, 29, 30, 31, 32, 33, 34, 35, 36, 37, 38, 39, 40, 55, 56, 57, 58, 59, 60, 61, 62, 63, 64, 65, 66, 67, 68, 69, 70, 71, 72, 73, 74, 75, 76, 77, 78, 79, 80, 81, 82, 83] (by decide +kernel) (by decide +kernel)
set_option maxRecDepth 20000 in
theorem gX7_mend_X7_laySums : GoodIn wsX7_mend (wsV RX7 279 RX7 yX7_laySums wsX7_laySums) := goodIn_app (goodIn_of _ (by decide +kernel)) ggX7_mend_X7_laySums
set_option maxRecDepth 20000 in
theorem ggX7_mend_X7_bare : GoodIn wsX7_mend wsX7_bare := goodIn_r _ [44, 36, 55, 56, 57, 58, 59, 60, 61, 62, 63, 64, 65, 66, 67, 68, 69, 70, 71, 72, 73, 74, 75, 76, 77, 78, 79, 80, 81, 82, 83] (by decide +kernel) (by decide +kernel)
set_option maxRecDepth 20000 in
theorem gX7_mend_X7_bare : GoodIn wsX7_mend (wsV RX7 282 RX7 yX7_bare wsX7_bare) := goodIn_app (goodIn_of _ (by decide +kernel)) ggX7_mend_X7_bare
set_option maxRecDepth 20000 in
theorem ggX7_mend_X7_isCode : GoodIn wsX7_mend wsX7_isCode := goodIn_r _ [47, 27, 48, 49, 10, 50] (by decide +kernel) (by decide +kernel)
set_option maxRecDepth 20000 in
theorem gX7_mend_X7_isCode : GoodIn wsX7_mend (va_wsS RX7 226 yX7_isCode wsX7_isCode) := goodIn_app (goodIn_of _ (by decide +kernel)) ggX7_mend_X7_isCode
set_option maxRecDepth 20000 in
theorem ggX7_mend_X7_isBare : GoodIn wsX7_mend wsX7_isBare := goodIn_r _ [26, 2, 27, 55, 56, 57, 58, 59, 60, 61, 62, 63, 64, 65, 66, 67, 68, 69, 70, 71, 72, 73, 74, 75, 76, 77, 78, 79, 80, 81, 82, 83] (by decide +kernel) (by decide +kernel)
set_option maxRecDepth 20000 in
theorem gX7_mend_X7_isBare : GoodIn wsX7_mend (wsV RX7 214 RX7 yX7_isBare wsX7_isBare) := goodIn_app (goodIn_of _ (by decide +kernel)) ggX7_mend_X7_isBare
set_option maxRecDepth 20000 in
theorem ggX7_mend_X7_isSyl : GoodIn wsX7_mend wsX7_isSyl := goodIn_r _ [54, 2, 55, 56, 57, 58, 59, 60, 61, 62, 63, 64, 65, 66, 67, 68, 69, 70, 71, 72, 73, 74, 75, 76, 77, 78, 79, 80, 81, 82, 83] (by decide +kernel) (by decide +kernel)
set_option maxRecDepth 20000 in
theorem gX7_mend_X7_isSyl : GoodIn wsX7_mend (wsV RX7 290 RX7 yX7_isSyl wsX7_isSyl) := goodIn_app (goodIn_of _ (by decide +kernel)) ggX7_mend_X7_isSyl
set_option maxRecDepth 20000 in
theorem ggX7_mend_X7_sumOf : GoodIn wsX7_mend wsX7_sumOf := goodIn_r _ [31, 2, 27, 55, 56, 57, 58, 59, 60, 61, 62, 63, 64, 65, 66, 67, 68, 69, 70, 71, 72, 73, 74, 75, 76, 77, 78, 79, 80, 81, 82, 83] (by decide +kernel) (by decide +kernel)
set_option maxRecDepth 20000 in
theorem gX7_mend_X7_sumOf : GoodIn wsX7_mend (wsV RX7 229 RX7 yX7_sumOf wsX7_sumOf) := goodIn_app (goodIn_of _ (by decide +kernel)) ggX7_mend_X7_sumOf
set_option maxRecDepth 20000 in
theorem ggX7_mend_X7_layNamed : GoodIn wsX7_mend wsX7_layNamed := goodIn_r _ [35, 36, 4, 6, 37, 38, 39, 10, 40, 55, 56, 57, 58, 59, 60, 61, 62, 63, 64, 65, 66, 67, 68, 69, 70, 71, 72, 73, 74, 75, 76, 77, 78, 79, 80, 81, 82, 83] (by decide +kernel) (by decide +kernel)
set_option maxRecDepth 20000 in
theorem gX7_mend_X7_layNamed : GoodIn wsX7_mend (wsV RX7 273 RX7 yX7_layNamed wsX7_layNamed) := goodIn_app (goodIn_of _ (by decide +kernel)) ggX7_mend_X7_layNamed
set_option maxRecDepth 20000 in
theorem ggX7_layUsed_X7_has : GoodIn wsX7_layUsed wsX7_has := goodIn_r _ [9] (by decide +kernel) (by decide +kernel)
set_option maxRecDepth 20000 in
theorem gX7_layUsed_X7_has : GoodIn wsX7_layUsed (va_wsS RX7 235 yX7_has wsX7_has) := goodIn_app (goodIn_of _ (by decide +kernel)) ggX7_layUsed_X7_has
set_option maxRecDepth 20000 in
theorem ggX7_old_X7_in : GoodIn wsX7_old wsX7_in := goodIn_r _ [9] (by decide +kernel) (by decide +kernel)
set_option maxRecDepth 20000 in
theorem gX7_old_X7_in : GoodIn wsX7_old (va_wsS RX7 68 yX7_in wsX7_in) := goodIn_app (goodIn_of _ (by decide +kernel)) ggX7_old_X7_in
set_option maxRecDepth 20000 in
theorem ggX7_old_X7_layUsed : GoodIn wsX7_old wsX7_layUsed := goodIn_r _ [13, 14, 15, 16, 3, 4, 17, 18, 8, 19, 28, 29, 30, 31, 32, 33, 34, 35, 36, 37, 38, 39, 40, 41, 42, 43, 44, 45, 46, 47, 48, 49, 50, 51, 52, 53, 54, 55, 56] (by decide +kernel) (by decide +kernel)
set_option maxRecDepth 20000 in
theorem gX7_old_X7_layUsed : GoodIn wsX7_old (wsV RX7 296 RX7 yX7_layUsed wsX7_layUsed) := goodIn_app (goodIn_of _ (by decide +kernel)) ggX7_old_X7_layUsed
set_option maxRecDepth 20000 in
theorem ggX7_old_X7_figure : GoodIn wsX7_old wsX7_figure := goodIn_r _ [23, 3, 28, 29, 30, 31, 32, 33, 34, 35, 36, 37, 38, 39, 40, 41, 42, 43, 44, 45, 46, 47, 48, 49, 50, 51, 52, 53, 54, 55, 56] (by decide +kernel) (by decide +kernel)
set_option maxRecDepth 20000 in
theorem gX7_old_X7_figure : GoodIn wsX7_old (wsV RX7 299 RX7 yX7_figure wsX7_figure) := goodIn_app (goodIn_of _ (by decide +kernel)) ggX7_old_X7_figure
set_option maxRecDepth 20000 in
theorem ggX7_old_X7_allAdd : GoodIn wsX7_old wsX7_allAdd := goodIn_r _ [27, 14, 15, 5, 16, 28, 29, 30, 31, 32, 33, 34, 35, 36, 37, 38, 39, 40, 41, 42, 43, 44, 45, 46, 47, 48, 49, 50, 51, 52, 53, 54, 55, 56] (by decide +kernel) (by decide +kernel)
set_option maxRecDepth 20000 in
theorem gX7_old_X7_allAdd : GoodIn wsX7_old (wsV RX7 303 RX7 yX7_allAdd wsX7_allAdd) := goodIn_app (goodIn_of _ (by decide +kernel)) ggX7_old_X7_allAdd
set_option maxRecDepth 20000 in
theorem ggX7_anew_X7_sumOf : GoodIn wsX7_anew wsX7_sumOf := goodIn_r _ [7, 1, 8, 12, 13, 14, 15, 16, 17, 18, 19, 20, 21, 22, 23, 24, 25, 26, 27, 28, 29, 30, 31, 32, 33, 34, 35, 36, 37, 38, 39, 40] (by decide +kernel) (by decide +kernel)
set_option maxRecDepth 20000 in
theorem gX7_anew_X7_sumOf : GoodIn wsX7_anew (wsV RX7 229 RX7 yX7_sumOf wsX7_sumOf) := goodIn_app (goodIn_of _ (by decide +kernel)) ggX7_anew_X7_sumOf
set_option maxRecDepth 20000 in
theorem ggX7_anew_X7_timesIn : GoodIn wsX7_anew wsX7_timesIn := goodIn_r _ [11, 8] (by decide +kernel) (by decide +kernel)
set_option maxRecDepth 20000 in
theorem gX7_anew_X7_timesIn : GoodIn wsX7_anew (va_wsS RX7 306 yX7_timesIn wsX7_timesIn) := goodIn_app (goodIn_of _ (by decide +kernel)) ggX7_anew_X7_timesIn
set_option maxRecDepth 20000 in
theorem ggX7_reform_X7_isPerson : GoodIn wsX7_reform wsX7_isPerson := goodIn_r _ [8, 3, 9, 10, 7, 11, 24, 25, 26, 27, 28, 29, 30, 31, 32, 33, 34, 35, 36, 37, 38, 39, 40, 41, 42, 43, 44, 45, 46, 47, 48, 49, 50, 51, 52] (by decide +kernel) (by decide +kernel)
set_option maxRecDepth 20000 in
theorem gX7_reform_X7_isPerson : GoodIn wsX7_reform (wsV RX7 191 RX7 yX7_isPerson wsX7_isPerson) := goodIn_app (goodIn_of _ (by decide +kernel)) ggX7_reform_X7_isPerson
set_option maxRecDepth 20000 in
theorem ggX7_reform_X7_in : GoodIn wsX7_reform wsX7_in := goodIn_r _ [11] (by decide +kernel) (by decide +kernel)
set_option maxRecDepth 20000 in
theorem gX7_reform_X7_in : GoodIn wsX7_reform (va_wsS RX7 68 yX7_in wsX7_in) := goodIn_app (goodIn_of _ (by decide +kernel)) ggX7_reform_X7_in
set_option maxRecDepth 20000 in
theorem ggX7_reform_X7_sumOf : GoodIn wsX7_reform wsX7_sumOf := goodIn_r _ [15, 3, 16, 24, 25, 26, 27, 28, 29, 30, 31, 32, 33, 34, 35, 36, 37, 38, 39, 40, 41, 42, 43, 44, 45, 46, 47, 48, 49, 50, 51, 52] (by decide +kernel) (by decide +kernel)
set_option maxRecDepth 20000 in
theorem gX7_reform_X7_sumOf : GoodIn wsX7_reform (wsV RX7 229 RX7 yX7_sumOf wsX7_sumOf) := goodIn_app (goodIn_of _ (by decide +kernel)) ggX7_reform_X7_sumOf
set_option maxRecDepth 20000 in
theorem ggX7_reform_X7_timesIn : GoodIn wsX7_reform wsX7_timesIn := goodIn_r _ [19, 16] (by decide +kernel) (by decide +kernel)
set_option maxRecDepth 20000 in
theorem gX7_reform_X7_timesIn : GoodIn wsX7_reform (va_wsS RX7 306 yX7_timesIn wsX7_timesIn) := goodIn_app (goodIn_of _ (by decide +kernel)) ggX7_reform_X7_timesIn
set_option maxRecDepth 20000 in
theorem ggX7_reform_X7_anew : GoodIn wsX7_reform wsX7_anew := goodIn_r _ [23, 3, 2, 12, 13, 14, 7, 15, 16, 17, 18, 19, 24, 25, 26, 27, 28, 29, 30, 31, 32, 33, 34, 35, 36, 37, 38, 39, 40, 41, 42, 43, 44, 45, 46, 47, 48, 49, 50, 51, 52] (by decide +kernel) (by decide +kernel)
set_option maxRecDepth 20000 in
theorem gX7_reform_X7_anew : GoodIn wsX7_reform (wsV RX7 312 RX7 yX7_anew wsX7_anew) := goodIn_app (goodIn_of _ (by decide +kernel)) ggX7_reform_X7_anew
set_option maxRecDepth 20000 in
theorem ggX7_nicknames_X7_isPerson : GoodIn wsX7_nicknames wsX7_isPerson := goodIn_r _ [13, 8, 14, 15, 12, 16, 38, 39, 40, 41, 42, 43, 44, 45, 46, 47, 48, 49, 50, 51, 52, 53, 54, 55, 56, 57, 58, 59, 60, 61, 62, 63, 64, 65, 66] (by decide +kernel) (by decide +kernel)
set_option maxRecDepth 20000 in
theorem gX7_nicknames_X7_isPerson : GoodIn wsX7_nicknames (wsV RX7 191 RX7 yX7_isPerson wsX7_isPerson) := goodIn_app (goodIn_of _ (by decide +kernel)) ggX7_nicknames_X7_isPerson
set_option maxRecDepth 20000 in
theorem ggX7_nicknames_X7_in : GoodIn wsX7_nicknames wsX7_in := goodIn_r _ [16] (by decide +kernel) (by decide +kernel)
set_option maxRecDepth 20000 in
theorem gX7_nicknames_X7_in : GoodIn wsX7_nicknames (va_wsS RX7 68 yX7_in wsX7_in) := goodIn_app (goodIn_of _ (by decide +kernel)) ggX7_nicknames_X7_in
set_option maxRecDepth 20000 in
theorem ggX7_nicknames_X7_lettersOf : GoodIn wsX7_nicknames wsX7_lettersOf := goodIn_r _ [19, 6] (by decide +kernel) (by decide +kernel)
set_option maxRecDepth 20000 in
theorem gX7_nicknames_X7_lettersOf : GoodIn wsX7_nicknames (va_wsS RX7 207 yX7_lettersOf wsX7_lettersOf) := goodIn_app (goodIn_of _ (by decide +kernel)) ggX7_nicknames_X7_lettersOf
set_option maxRecDepth 20000 in
theorem ggX7_nicknames_X7_has : GoodIn wsX7_nicknames wsX7_has := goodIn_r _ [22] (by decide +kernel) (by decide +kernel)
set_option maxRecDepth 20000 in
theorem gX7_nicknames_X7_has : GoodIn wsX7_nicknames (va_wsS RX7 235 yX7_has wsX7_has) := goodIn_app (goodIn_of _ (by decide +kernel)) ggX7_nicknames_X7_has
set_option maxRecDepth 20000 in
theorem ggX7_nicknames_X7_isName : GoodIn wsX7_nicknames wsX7_isName := goodIn_r _ [26, 8, 27, 28, 29, 12, 30, 6, 31, 32, 33, 17, 18, 19, 38, 39, 40, 41, 42, 43, 44, 45, 46, 47, 48, 49, 50, 51, 52, 53, 54, 55, 56, 57, 58, 59, 60, 61, 62, 63, 64, 65, 66] (by decide +kernel) (by decide +kernel)
set_option maxRecDepth 20000 in
theorem gX7_nicknames_X7_isName : GoodIn wsX7_nicknames (wsV RX7 232 RX7 yX7_isName wsX7_isName) := goodIn_app (goodIn_of _ (by decide +kernel)) ggX7_nicknames_X7_isName
set_option maxRecDepth 20000 in
theorem ggX7_nicknames_X7_sumOf : GoodIn wsX7_nicknames wsX7_sumOf := goodIn_r _ [37, 8, 6, 38, 39, 40, 41, 42, 43, 44, 45, 46, 47, 48, 49, 50, 51, 52, 53, 54, 55, 56, 57, 58, 59, 60, 61, 62, 63, 64, 65, 66] (by decide +kernel) (by decide +kernel)
set_option maxRecDepth 20000 in
theorem gX7_nicknames_X7_sumOf : GoodIn wsX7_nicknames (wsV RX7 229 RX7 yX7_sumOf wsX7_sumOf) := goodIn_app (goodIn_of _ (by decide +kernel)) ggX7_nicknames_X7_sumOf
set_option maxRecDepth 20000 in
theorem ggX7_page_X7_in : GoodIn wsX7_page wsX7_in := goodIn_r _ [8] (by decide +kernel) (by decide +kernel)
set_option maxRecDepth 20000 in
theorem gX7_page_X7_in : GoodIn wsX7_page (va_wsS RX7 68 yX7_in wsX7_in) := goodIn_app (goodIn_of _ (by decide +kernel)) ggX7_page_X7_in
set_option maxRecDepth 20000 in
theorem ggX7_page_X7_has : GoodIn wsX7_page wsX7_has := goodIn_r _ [11] (by decide +kernel) (by decide +kernel)
set_option maxRecDepth 20000 in
theorem gX7_page_X7_has : GoodIn wsX7_page (va_wsS RX7 235 yX7_has wsX7_has) := goodIn_app (goodIn_of _ (by decide +kernel)) ggX7_page_X7_has
set_option maxRecDepth 20000 in
theorem ggX7_page_X7_sumOf : GoodIn wsX7_page wsX7_sumOf := goodIn_r _ [15, 1, 4, 16, 17, 18, 19, 20, 21, 22, 23, 24, 25, 26, 27, 28, 29, 30, 31, 32, 33, 34, 35, 36, 37, 38, 39, 40, 41, 42, 43, 44] (by decide +kernel) (by decide +kernel)
set_option maxRecDepth 20000 in
theorem gX7_page_X7_sumOf : GoodIn wsX7_page (wsV RX7 229 RX7 yX7_sumOf wsX7_sumOf) := goodIn_app (goodIn_of _ (by decide +kernel)) ggX7_page_X7_sumOf
set_option maxRecDepth 20000 in
theorem ggX7_isSheet_X7_in : GoodIn wsX7_isSheet wsX7_in := goodIn_r _ [5] (by decide +kernel) (by decide +kernel)
set_option maxRecDepth 20000 in
theorem gX7_isSheet_X7_in : GoodIn wsX7_isSheet (va_wsS RX7 68 yX7_in wsX7_in) := goodIn_app (goodIn_of _ (by decide +kernel)) ggX7_isSheet_X7_in
set_option maxRecDepth 20000 in
theorem ggX7_sheet_X7_isSheet : GoodIn wsX7_sheet wsX7_isSheet := goodIn_r _ [8, 1, 9, 10, 7, 11] (by decide +kernel) (by decide +kernel)
set_option maxRecDepth 20000 in
theorem gX7_sheet_X7_isSheet : GoodIn wsX7_sheet (va_wsS RX7 317 yX7_isSheet wsX7_isSheet) := goodIn_app (goodIn_of _ (by decide +kernel)) ggX7_sheet_X7_isSheet
set_option maxRecDepth 20000 in
theorem ggX7_sheet_X7_in : GoodIn wsX7_sheet wsX7_in := goodIn_r _ [11] (by decide +kernel) (by decide +kernel)
set_option maxRecDepth 20000 in
theorem gX7_sheet_X7_in : GoodIn wsX7_sheet (va_wsS RX7 68 yX7_in wsX7_in) := goodIn_app (goodIn_of _ (by decide +kernel)) ggX7_sheet_X7_in
set_option maxRecDepth 20000 in
theorem ggX7_tear_X7_isSheet : GoodIn wsX7_tear wsX7_isSheet := goodIn_r _ [5, 6, 7, 8, 4, 9] (by decide +kernel) (by decide +kernel)
set_option maxRecDepth 20000 in
theorem gX7_tear_X7_isSheet : GoodIn wsX7_tear (va_wsS RX7 317 yX7_isSheet wsX7_isSheet) := goodIn_app (goodIn_of _ (by decide +kernel)) ggX7_tear_X7_isSheet
set_option maxRecDepth 20000 in
theorem ggX7_lay_X7_isSheet : GoodIn wsX7_lay wsX7_isSheet := goodIn_r _ [7, 8, 9, 10, 6, 11] (by decide +kernel) (by decide +kernel)
set_option maxRecDepth 20000 in
theorem gX7_lay_X7_isSheet : GoodIn wsX7_lay (va_wsS RX7 317 yX7_isSheet wsX7_isSheet) := goodIn_app (goodIn_of _ (by decide +kernel)) ggX7_lay_X7_isSheet
set_option maxRecDepth 20000 in
theorem ggX7_lay_X7_in : GoodIn wsX7_lay wsX7_in := goodIn_r _ [11] (by decide +kernel) (by decide +kernel)
set_option maxRecDepth 20000 in
theorem gX7_lay_X7_in : GoodIn wsX7_lay (va_wsS RX7 68 yX7_in wsX7_in) := goodIn_app (goodIn_of _ (by decide +kernel)) ggX7_lay_X7_in
set_option maxRecDepth 20000 in
theorem ggX7_copy_X7_isSheet : GoodIn wsX7_copy wsX7_isSheet := goodIn_r _ [7, 8, 9, 10, 6, 11] (by decide +kernel) (by decide +kernel)
set_option maxRecDepth 20000 in
theorem gX7_copy_X7_isSheet : GoodIn wsX7_copy (va_wsS RX7 317 yX7_isSheet wsX7_isSheet) := goodIn_app (goodIn_of _ (by decide +kernel)) ggX7_copy_X7_isSheet
set_option maxRecDepth 20000 in
theorem ggX7_hope_X7_isSheet : GoodIn wsX7_hope wsX7_isSheet := goodIn_r _ [11, 1, 12, 13, 10, 14] (by decide +kernel) (by decide +kernel)
set_option maxRecDepth 20000 in
theorem gX7_hope_X7_isSheet : GoodIn wsX7_hope (va_wsS RX7 317 yX7_isSheet wsX7_isSheet) := goodIn_app (goodIn_of _ (by decide +kernel)) ggX7_hope_X7_isSheet
set_option maxRecDepth 20000 in
theorem ggX7_hope_X7_in : GoodIn wsX7_hope wsX7_in := goodIn_r _ [14] (by decide +kernel) (by decide +kernel)
set_option maxRecDepth 20000 in
theorem gX7_hope_X7_in : GoodIn wsX7_hope (va_wsS RX7 68 yX7_in wsX7_in) := goodIn_app (goodIn_of _ (by decide +kernel)) ggX7_hope_X7_in
set_option maxRecDepth 20000 in
theorem ggX7_hope_X7_isDay : GoodIn wsX7_hope wsX7_isDay := goodIn_r _ [17, 18, 12, 13, 10, 14] (by decide +kernel) (by decide +kernel)
set_option maxRecDepth 20000 in
theorem gX7_hope_X7_isDay : GoodIn wsX7_hope (va_wsS RX7 246 yX7_isDay wsX7_isDay) := goodIn_app (goodIn_of _ (by decide +kernel)) ggX7_hope_X7_isDay
set_option maxRecDepth 20000 in
theorem ggX7_hope_X7_hopeFor : GoodIn wsX7_hope wsX7_hopeFor := goodIn_r _ [22, 7, 23, 24, 25, 26, 27, 28, 29, 30, 31, 32, 33, 34, 35, 36, 37, 38, 39, 40, 41, 42, 43, 44, 45, 46, 47, 48, 49, 50, 51] (by decide +kernel) (by decide +kernel)
set_option maxRecDepth 20000 in
theorem gX7_hope_X7_hopeFor : GoodIn wsX7_hope (wsV RX7 167 RX7 yX7_hopeFor wsX7_hopeFor) := goodIn_app (goodIn_of _ (by decide +kernel)) ggX7_hope_X7_hopeFor
set_option maxRecDepth 20000 in
theorem ggX7_keep_X7_in : GoodIn wsX7_keep wsX7_in := goodIn_r _ [6] (by decide +kernel) (by decide +kernel)
set_option maxRecDepth 20000 in
theorem gX7_keep_X7_in : GoodIn wsX7_keep (va_wsS RX7 68 yX7_in wsX7_in) := goodIn_app (goodIn_of _ (by decide +kernel)) ggX7_keep_X7_in
set_option maxRecDepth 20000 in
theorem ggX7_keep_X7_move : GoodIn wsX7_keep wsX7_move := goodIn_r _ [10, 2, 11, 12, 13, 14, 15, 16, 17, 18, 19, 20, 21, 22, 23, 24, 25, 26, 27, 28, 29, 30, 31, 32, 33, 34, 35, 36, 37, 38, 39, 40] (by decide +kernel) (by decide +kernel)
set_option maxRecDepth 20000 in
theorem gX7_keep_X7_move : GoodIn wsX7_keep (wsV RX7 322 RX7 yX7_move wsX7_move) := goodIn_app (goodIn_of _ (by decide +kernel)) ggX7_keep_X7_move
set_option maxRecDepth 20000 in
theorem ggX7_back_X7_in : GoodIn wsX7_back wsX7_in := goodIn_r _ [6] (by decide +kernel) (by decide +kernel)
set_option maxRecDepth 20000 in
theorem gX7_back_X7_in : GoodIn wsX7_back (va_wsS RX7 68 yX7_in wsX7_in) := goodIn_app (goodIn_of _ (by decide +kernel)) ggX7_back_X7_in
set_option maxRecDepth 20000 in
theorem ggX7_back_X7_move : GoodIn wsX7_back wsX7_move := goodIn_r _ [10, 2, 11, 12, 13, 14, 15, 16, 17, 18, 19, 20, 21, 22, 23, 24, 25, 26, 27, 28, 29, 30, 31, 32, 33, 34, 35, 36, 37, 38, 39, 40] (by decide +kernel) (by decide +kernel)
set_option maxRecDepth 20000 in
theorem gX7_back_X7_move : GoodIn wsX7_back (wsV RX7 322 RX7 yX7_move wsX7_move) := goodIn_app (goodIn_of _ (by decide +kernel)) ggX7_back_X7_move
