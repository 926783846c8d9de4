set_option maxRecDepth 20000 in
theorem ggX10_begin_X10_kindOf : GoodIn wsX10_begin wsX10_kindOf := goodIn_r _ [13] (by decide +kernel) (by decide +kernel)
set_option maxRecDepth 20000 in
theorem gX10_begin_X10_kindOf : GoodIn wsX10_begin (va_wsS RX10 43 yX10_kindOf wsX10_kindOf) := goodIn_app (goodIn_of _ (by decide +kernel)) ggX10_begin_X10_kindOf
set_option maxRecDepth 20000 in
theorem ggX10_begin_X10_lengthenToken : GoodIn wsX10_begin wsX10_lengthenToken := goodIn_r _ [17, 2, 18, 19, 32, 33, 34, 35, 36, 37, 38, 39, 40, 41, 42] (by decide +kernel) (by decide +kernel)
set_option maxRecDepth 20000 in
theorem gX10_begin_X10_lengthenToken : GoodIn wsX10_begin (wsV RX10 46 RX10 yX10_lengthenToken wsX10_lengthenToken) := goodIn_app (goodIn_of _ (by decide +kernel)) ggX10_begin_X10_lengthenToken
set_option maxRecDepth 20000 in
theorem ggX10_begin_X10_addToken : GoodIn wsX10_begin wsX10_addToken := goodIn_r _ [23, 2, 18, 24, 19, 32, 33, 34, 35, 36, 37, 38, 39, 40, 41, 42] (by decide +kernel) (by decide +kernel)
set_option maxRecDepth 20000 in
theorem gX10_begin_X10_addToken : GoodIn wsX10_begin (wsV RX10 49 RX10 yX10_addToken wsX10_addToken) := goodIn_app (goodIn_of _ (by decide +kernel)) ggX10_begin_X10_addToken
set_option maxRecDepth 20000 in
theorem ggX10_begin_X10_advance : GoodIn wsX10_begin wsX10_advance := goodIn_r _ [28, 4, 2, 18, 3, 29, 30, 31, 24, 19, 32, 33, 34, 35, 36, 37, 38, 39, 40, 41, 42] (by decide +kernel) (by decide +kernel)
set_option maxRecDepth 20000 in
theorem gX10_begin_X10_advance : GoodIn wsX10_begin (wsV RX10 56 RX10 yX10_advance wsX10_advance) := goodIn_app (goodIn_of _ (by decide +kernel)) ggX10_begin_X10_advance
set_option maxRecDepth 20000 in
theorem ggX10_isWord_J0_length_8abf5 : GoodIn wsX10_isWord wsJ0_length_8abf5 := goodIn_r _ [8, 9, 10, 11, 12, 7, 13, 14, 15, 71, 72, 73, 74] (by decide +kernel) (by decide +kernel)
set_option maxRecDepth 20000 in
theorem gX10_isWord_J0_length_8abf5 : GoodIn wsX10_isWord (wsV RX10 68 RJ0 yJ0_length_8abf5 wsJ0_length_8abf5) := goodIn_app (goodIn_of _ (by decide +kernel)) ggX10_isWord_J0_length_8abf5
set_option maxRecDepth 20000 in
theorem ggX10_isWord_X10_byteAt : GoodIn wsX10_isWord wsX10_byteAt := goodIn_r _ [20, 21, 22, 60, 61, 62, 63, 64, 65, 66, 67, 68, 69, 70] (by decide +kernel) (by decide +kernel)
set_option maxRecDepth 20000 in
theorem gX10_isWord_X10_byteAt : GoodIn wsX10_isWord (wsV RX10 39 RX10 yX10_byteAt wsX10_byteAt) := goodIn_app (goodIn_of _ (by decide +kernel)) ggX10_isWord_X10_byteAt
set_option maxRecDepth 20000 in
theorem ggX10_isWord_J0_charAt_5068e : GoodIn wsX10_isWord wsJ0_charAt_5068e := goodIn_r _ [26, 9, 27, 28, 29, 7, 30, 14, 15, 31, 32, 33, 34, 35, 36, 37, 38, 39, 40, 41, 42, 43, 44, 45, 46, 47, 48, 49, 50, 51, 52, 53, 54, 55, 56, 57, 58, 59, 71, 72, 73, 74] (by decide +kernel) (by decide +kernel)
set_option maxRecDepth 20000 in
theorem gX10_isWord_J0_charAt_5068e : GoodIn wsX10_isWord (wsV RX10 73 RJ0 yJ0_charAt_5068e wsJ0_charAt_5068e) := goodIn_app (goodIn_of _ (by decide +kernel)) ggX10_isWord_J0_charAt_5068e
set_option maxRecDepth 20000 in
theorem ggX10_isSign_X10_byteAt : GoodIn wsX10_isSign wsX10_byteAt := goodIn_r _ [7, 8, 9, 10, 11, 12, 13, 14, 15, 16, 17, 18, 19, 20] (by decide +kernel) (by decide +kernel)
set_option maxRecDepth 20000 in
theorem gX10_isSign_X10_byteAt : GoodIn wsX10_isSign (wsV RX10 39 RX10 yX10_byteAt wsX10_byteAt) := goodIn_app (goodIn_of _ (by decide +kernel)) ggX10_isSign_X10_byteAt
set_option maxRecDepth 20000 in
theorem ggX10_takeWord_X10_isWord : GoodIn wsX10_takeWord wsX10_isWord := goodIn_r _ [5, 6, 7, 8, 9, 10, 11, 12, 13, 14, 15, 16, 17, 18, 19, 20, 21, 22, 23, 4, 24, 25, 26, 27, 28, 29, 30, 31, 32, 33, 34, 35, 36, 37, 38, 39, 40, 41, 42, 43, 44, 45, 46, 47, 48, 49, 50, 51, 52, 53, 54, 55, 56, 57, 58, 59, 60, 61, 62, 63, 78, 79, 80, 81, 82, 83, 84, 85, 86, 87, 88, 89, 90, 91, 92] (by decide +kernel) (by decide +kernel)
set_option maxRecDepth 20000 in
theorem gX10_takeWord_X10_isWord : GoodIn wsX10_takeWord (wsV RX10 77 RX10 yX10_isWord wsX10_isWord) := goodIn_app (goodIn_of _ (by decide +kernel)) ggX10_takeWord_X10_isWord
set_option maxRecDepth 20000 in
theorem ggX10_takeWord_X10_fail : GoodIn wsX10_takeWord wsX10_fail := goodIn_r _ [67, 68, 78, 79, 80, 81, 82, 83, 84, 85, 86, 87, 88] (by decide +kernel) (by decide +kernel)
set_option maxRecDepth 20000 in
theorem gX10_takeWord_X10_fail : GoodIn wsX10_takeWord (wsV RX10 81 RX10 yX10_fail wsX10_fail) := goodIn_app (goodIn_of _ (by decide +kernel)) ggX10_takeWord_X10_fail
set_option maxRecDepth 20000 in
theorem ggX10_takeWord_X10_advance : GoodIn wsX10_takeWord wsX10_advance := goodIn_r _ [72, 73, 74, 75, 25, 8, 7, 6, 76, 77, 78, 79, 80, 81, 82, 83, 84, 85, 86, 87, 88] (by decide +kernel) (by decide +kernel)
set_option maxRecDepth 20000 in
theorem gX10_takeWord_X10_advance : GoodIn wsX10_takeWord (wsV RX10 56 RX10 yX10_advance wsX10_advance) := goodIn_app (goodIn_of _ (by decide +kernel)) ggX10_takeWord_X10_advance
set_option maxRecDepth 20000 in
theorem ggX10_takeSign_X10_isSign : GoodIn wsX10_takeSign wsX10_isSign := goodIn_r _ [5, 6, 7, 8, 9, 10, 4, 11, 12, 13, 29, 30, 31, 32, 33, 34, 35, 36, 37, 38, 39] (by decide +kernel) (by decide +kernel)
set_option maxRecDepth 20000 in
theorem gX10_takeSign_X10_isSign : GoodIn wsX10_takeSign (wsV RX10 85 RX10 yX10_isSign wsX10_isSign) := goodIn_app (goodIn_of _ (by decide +kernel)) ggX10_takeSign_X10_isSign
set_option maxRecDepth 20000 in
theorem ggX10_takeSign_X10_fail : GoodIn wsX10_takeSign wsX10_fail := goodIn_r _ [17, 18, 29, 30, 31, 32, 33, 34, 35, 36, 37, 38, 39] (by decide +kernel) (by decide +kernel)
set_option maxRecDepth 20000 in
theorem gX10_takeSign_X10_fail : GoodIn wsX10_takeSign (wsV RX10 81 RX10 yX10_fail wsX10_fail) := goodIn_app (goodIn_of _ (by decide +kernel)) ggX10_takeSign_X10_fail
set_option maxRecDepth 20000 in
theorem ggX10_takeSign_X10_advance : GoodIn wsX10_takeSign wsX10_advance := goodIn_r _ [22, 23, 24, 25, 12, 7, 26, 6, 27, 28, 29, 30, 31, 32, 33, 34, 35, 36, 37, 38, 39] (by decide +kernel) (by decide +kernel)
set_option maxRecDepth 20000 in
theorem gX10_takeSign_X10_advance : GoodIn wsX10_takeSign (wsV RX10 56 RX10 yX10_advance wsX10_advance) := goodIn_app (goodIn_of _ (by decide +kernel)) ggX10_takeSign_X10_advance
set_option maxRecDepth 20000 in
theorem ggX10_takeNumber_X10_byteAt : GoodIn wsX10_takeNumber wsX10_byteAt := goodIn_r _ [9, 10, 11, 21, 22, 23, 24, 25, 26, 27, 28, 29, 30, 31] (by decide +kernel) (by decide +kernel)
set_option maxRecDepth 20000 in
theorem gX10_takeNumber_X10_byteAt : GoodIn wsX10_takeNumber (wsV RX10 39 RX10 yX10_byteAt wsX10_byteAt) := goodIn_app (goodIn_of _ (by decide +kernel)) ggX10_takeNumber_X10_byteAt
set_option maxRecDepth 20000 in
theorem ggX10_takeNumber_X10_advance : GoodIn wsX10_takeNumber wsX10_advance := goodIn_r _ [15, 16, 17, 18, 10, 4, 3, 1, 19, 20, 21, 22, 23, 24, 25, 26, 27, 28, 29, 30, 31] (by decide +kernel) (by decide +kernel)
set_option maxRecDepth 20000 in
theorem gX10_takeNumber_X10_advance : GoodIn wsX10_takeNumber (wsV RX10 56 RX10 yX10_advance wsX10_advance) := goodIn_app (goodIn_of _ (by decide +kernel)) ggX10_takeNumber_X10_advance
set_option maxRecDepth 20000 in
theorem ggX11_isNarrow_X5_heightAt : GoodIn wsX11_isNarrow wsX5_heightAt := goodIn_r _ [7, 8, 9, 10, 19, 20, 21, 22, 23, 24, 25, 26, 27, 28] (by decide +kernel) (by decide +kernel)
set_option maxRecDepth 20000 in
theorem gX11_isNarrow_X5_heightAt : GoodIn wsX11_isNarrow (wsV RX11 15 RX5 yX5_heightAt wsX5_heightAt) := goodIn_app (goodIn_of _ (by decide +kernel)) ggX11_isNarrow_X5_heightAt
set_option maxRecDepth 20000 in
theorem ggX11_isNarrow_X11_runThrough : GoodIn wsX11_isNarrow wsX11_runThrough := goodIn_r _ [14, 2, 3, 4, 5, 6, 7, 8, 9, 10, 15, 16, 17, 18, 19, 20, 21, 22, 23, 24, 25, 26, 27, 28] (by decide +kernel) (by decide +kernel)
set_option maxRecDepth 20000 in
theorem gX11_isNarrow_X11_runThrough : GoodIn wsX11_isNarrow (va_wsS RX11 25 yX11_runThrough wsX11_runThrough) := goodIn_app (goodIn_of _ (by decide +kernel)) ggX11_isNarrow_X11_runThrough
set_option maxRecDepth 20000 in
theorem ggX11_runThrough_X5_heightAt : GoodIn wsX11_runThrough wsX5_heightAt := goodIn_r _ [6, 7, 8, 9, 14, 15, 16, 17, 18, 19, 20, 21, 22, 23] (by decide +kernel) (by decide +kernel)
set_option maxRecDepth 20000 in
theorem gX11_runThrough_X5_heightAt : GoodIn wsX11_runThrough (wsV RX11 15 RX5 yX5_heightAt wsX5_heightAt) := goodIn_app (goodIn_of _ (by decide +kernel)) ggX11_runThrough_X5_heightAt
set_option maxRecDepth 20000 in
theorem ggX11_runThrough_X5_reaches : GoodIn wsX11_runThrough wsX5_reaches := goodIn_r _ [13, 7, 8, 9, 14, 15, 16, 17, 18, 19, 20, 21, 22, 23] (by decide +kernel) (by decide +kernel)
set_option maxRecDepth 20000 in
theorem gX11_runThrough_X5_reaches : GoodIn wsX11_runThrough (wsV RX11 32 RX5 yX5_reaches wsX5_reaches) := goodIn_app (goodIn_of _ (by decide +kernel)) ggX11_runThrough_X5_reaches
set_option maxRecDepth 20000 in
theorem ggX11_mark_X11_isNarrow : GoodIn wsX11_mark wsX11_isNarrow := goodIn_r _ [6, 7, 8, 9, 10, 11, 12, 13, 14, 15, 16, 17, 18, 5, 19, 20, 21, 22, 23, 29, 30, 31, 32, 33, 34, 35, 36, 37, 38] (by decide +kernel) (by decide +kernel)
set_option maxRecDepth 20000 in
theorem gX11_mark_X11_isNarrow : GoodIn wsX11_mark (va_wsS RX11 42 yX11_isNarrow wsX11_isNarrow) := goodIn_app (goodIn_of _ (by decide +kernel)) ggX11_mark_X11_isNarrow
set_option maxRecDepth 20000 in
theorem ggX11_mark_X11_setMark : GoodIn wsX11_mark wsX11_setMark := goodIn_r _ [27, 28, 39] (by decide +kernel) (by decide +kernel)
set_option maxRecDepth 20000 in
theorem gX11_mark_X11_setMark : GoodIn wsX11_mark (wsV RX11 46 RX11 yX11_setMark wsX11_setMark) := goodIn_app (goodIn_of _ (by decide +kernel)) ggX11_mark_X11_setMark
set_option maxRecDepth 20000 in
theorem ggX11_lowerMarked_X11_hasMark : GoodIn wsX11_lowerMarked wsX11_hasMark := goodIn_r _ [7, 8, 35] (by decide +kernel) (by decide +kernel)
set_option maxRecDepth 20000 in
theorem gX11_lowerMarked_X11_hasMark : GoodIn wsX11_lowerMarked (wsV RX11 50 RX11 yX11_hasMark wsX11_hasMark) := goodIn_app (goodIn_of _ (by decide +kernel)) ggX11_lowerMarked_X11_hasMark
set_option maxRecDepth 20000 in
theorem ggX11_lowerMarked_X5_heightAt : GoodIn wsX11_lowerMarked wsX5_heightAt := goodIn_r _ [13, 14, 15, 16, 25, 26, 27, 28, 29, 30, 31, 32, 33, 34] (by decide +kernel) (by decide +kernel)
set_option maxRecDepth 20000 in
theorem gX11_lowerMarked_X5_heightAt : GoodIn wsX11_lowerMarked (wsV RX11 15 RX5 yX5_heightAt wsX5_heightAt) := goodIn_app (goodIn_of _ (by decide +kernel)) ggX11_lowerMarked_X5_heightAt
set_option maxRecDepth 20000 in
theorem ggX11_lowerMarked_X5_build : GoodIn wsX11_lowerMarked wsX5_build := goodIn_r _ [20, 16, 21, 22, 23, 12, 24, 14, 15, 25, 26, 27, 28, 29, 30, 31, 32, 33, 34] (by decide +kernel) (by decide +kernel)
set_option maxRecDepth 20000 in
theorem gX11_lowerMarked_X5_build : GoodIn wsX11_lowerMarked (wsV RX11 54 RX5 yX5_build wsX5_build) := goodIn_app (goodIn_of _ (by decide +kernel)) ggX11_lowerMarked_X5_build
set_option maxRecDepth 20000 in
theorem ggX11_takeDown_X11_mark : GoodIn wsX11_takeDown wsX11_mark := goodIn_r _ [5, 6, 7, 8, 9, 4, 10, 11, 12, 13, 14, 15, 16, 17, 18, 19, 20, 21, 22, 23, 24, 25, 26, 27, 28, 29, 30, 31, 32, 49, 50, 51, 52, 53, 54, 55, 56, 57, 58, 59] (by decide +kernel) (by decide +kernel)
set_option maxRecDepth 20000 in
theorem gX11_takeDown_X11_mark : GoodIn wsX11_takeDown (wsV RX11 58 RX11 yX11_mark wsX11_mark) := goodIn_app (goodIn_of _ (by decide +kernel)) ggX11_takeDown_X11_mark
set_option maxRecDepth 20000 in
theorem ggX11_takeDown_X11_lowerMarked : GoodIn wsX11_takeDown wsX11_lowerMarked := goodIn_r _ [36, 6, 7, 37, 38, 39, 4, 40, 32, 13, 14, 15, 16, 17, 18, 19, 20, 41, 42, 43, 44, 45, 46, 47, 48, 49, 50, 51, 52, 53, 54, 55, 56, 57, 58, 59] (by decide +kernel) (by decide +kernel)
set_option maxRecDepth 20000 in
theorem gX11_takeDown_X11_lowerMarked : GoodIn wsX11_takeDown (wsV RX11 62 RX11 yX11_lowerMarked wsX11_lowerMarked) := goodIn_app (goodIn_of _ (by decide +kernel)) ggX11_takeDown_X11_lowerMarked
set_option maxRecDepth 20000 in
theorem ggX11_flatten_X5_copyFrom : GoodIn wsX11_flatten wsX5_copyFrom := goodIn_r _ [7, 8, 9, 10, 11, 12, 13, 14, 15, 16, 17, 18, 19, 20, 21, 22, 23, 6, 24, 25, 52, 53, 54, 55, 56, 57, 58, 59, 60, 61] (by decide +kernel) (by decide +kernel)
set_option maxRecDepth 20000 in
theorem gX11_flatten_X5_copyFrom : GoodIn wsX11_flatten (wsV RX11 66 RX5 yX5_copyFrom wsX5_copyFrom) := goodIn_app (goodIn_of _ (by decide +kernel)) ggX11_flatten_X5_copyFrom
set_option maxRecDepth 20000 in
theorem ggX11_flatten_X11_raiseBeside : GoodIn wsX11_flatten wsX11_raiseBeside := goodIn_r _ [29, 30, 31, 32, 33, 34, 35, 36, 6, 37, 8, 9, 38, 39, 40, 41, 25, 42, 43, 44, 45, 46, 52, 53, 54, 55, 56, 57, 58, 59, 60, 61] (by decide +kernel) (by decide +kernel)
set_option maxRecDepth 20000 in
theorem gX11_flatten_X11_raiseBeside : GoodIn wsX11_flatten (va_wsS RX11 69 yX11_raiseBeside wsX11_raiseBeside) := goodIn_app (goodIn_of _ (by decide +kernel)) ggX11_flatten_X11_raiseBeside
set_option maxRecDepth 20000 in
theorem ggX11_flatten_X5_differencesTo : GoodIn wsX11_flatten wsX5_differencesTo := goodIn_r _ [50, 9, 8, 51, 39, 40, 6, 41, 25, 52, 53, 54, 55, 56, 57, 58, 59, 60, 61] (by decide +kernel) (by decide +kernel)
set_option maxRecDepth 20000 in
theorem gX11_flatten_X5_differencesTo : GoodIn wsX11_flatten (wsV RX11 73 RX5 yX5_differencesTo wsX5_differencesTo) := goodIn_app (goodIn_of _ (by decide +kernel)) ggX11_flatten_X5_differencesTo
set_option maxRecDepth 20000 in
theorem ggX11_raiseBeside_X5_has : GoodIn wsX11_raiseBeside wsX5_has := goodIn_r _ [9, 10, 11, 22, 23, 24, 25, 26, 27, 28, 29, 30, 31] (by decide +kernel) (by decide +kernel)
set_option maxRecDepth 20000 in
theorem gX11_raiseBeside_X5_has : GoodIn wsX11_raiseBeside (wsV RX11 76 RX5 yX5_has wsX5_has) := goodIn_app (goodIn_of _ (by decide +kernel)) ggX11_raiseBeside_X5_has
set_option maxRecDepth 20000 in
theorem ggX11_raiseBeside_X5_heightAt : GoodIn wsX11_raiseBeside wsX5_heightAt := goodIn_r _ [15, 10, 11, 16, 22, 23, 24, 25, 26, 27, 28, 29, 30, 31] (by decide +kernel) (by decide +kernel)
set_option maxRecDepth 20000 in
theorem gX11_raiseBeside_X5_heightAt : GoodIn wsX11_raiseBeside (wsV RX11 15 RX5 yX5_heightAt wsX5_heightAt) := goodIn_app (goodIn_of _ (by decide +kernel)) ggX11_raiseBeside_X5_heightAt
set_option maxRecDepth 20000 in
theorem ggX11_raiseBeside_X5_build : GoodIn wsX11_raiseBeside wsX5_build := goodIn_r _ [20, 16, 21, 6, 7, 8, 9, 10, 11, 22, 23, 24, 25, 26, 27, 28, 29, 30, 31] (by decide +kernel) (by decide +kernel)
set_option maxRecDepth 20000 in
theorem gX11_raiseBeside_X5_build : GoodIn wsX11_raiseBeside (wsV RX11 54 RX5 yX5_build wsX5_build) := goodIn_app (goodIn_of _ (by decide +kernel)) ggX11_raiseBeside_X5_build
set_option maxRecDepth 20000 in
theorem ggX12_init_X5_init : GoodIn wsX12_init wsX5_init := goodIn_r _ [45, 46, 2, 3, 47, 48, 49, 50, 51, 52, 53, 54, 6, 55, 56, 57, 58, 59, 60, 61, 62, 63, 64, 65, 66, 67, 68, 69, 70, 71, 72, 73, 74, 75, 76, 77, 78, 79, 80, 81, 82, 83, 84, 85, 86, 87, 88, 89, 90, 91, 92, 93, 94, 95, 96, 97, 98, 99, 100, 101, 102, 103, 104, 105, 106, 154, 155, 156, 157, 158, 159, 160, 161, 162, 163] (by decide +kernel) (by decide +kernel)
set_option maxRecDepth 20000 in
theorem gX12_init_X5_init : GoodIn wsX12_init (wsX5_init) := ggX12_init_X5_init
set_option maxRecDepth 20000 in
theorem ggX12_init_X3_init : GoodIn wsX12_init wsX3_init := goodIn_r _ [109, 110, 2, 3, 111, 112, 5, 6, 113, 44, 45, 46, 47, 48, 49, 50, 51, 52, 53, 54, 55, 56, 57, 58, 59, 60, 61, 62, 63, 64, 65, 66, 67, 68, 69, 70, 71, 72, 73, 74, 75, 76, 77, 78, 79, 80, 81, 82, 83, 84, 85, 86, 87, 88, 89, 90, 91, 92, 93, 94, 95, 96, 97, 98, 99, 100, 101, 102, 103, 104, 105, 106, 179, 180, 181, 154, 155, 156, 157, 158, 159, 160, 161, 162, 163] (by decide +kernel) (by decide +kernel)
set_option maxRecDepth 20000 in
theorem gX12_init_X3_init : GoodIn wsX12_init (wsX3_init) := ggX12_init_X3_init
set_option maxRecDepth 20000 in
theorem ggX12_init_X11_init : GoodIn wsX12_init wsX11_init := goodIn_r _ [115, 116, 2, 3, 10, 117, 182] (by decide +kernel) (by decide +kernel)
set_option maxRecDepth 20000 in
theorem gX12_init_X11_init_n36 : GoodIn wsX12_init (wsX11_init) := ggX12_init_X11_init
set_option maxRecDepth 20000 in
theorem ggX12_init_X4_init : GoodIn wsX12_init wsX4_init := goodIn_r _ [120, 121, 2, 3, 47, 122, 10, 123, 124, 183, 184, 185, 186] (by decide +kernel) (by decide +kernel)
set_option maxRecDepth 20000 in
theorem gX12_init_X4_init : GoodIn wsX12_init (wsX4_init) := ggX12_init_X4_init
set_option maxRecDepth 20000 in
theorem ggX12_init_X6_init : GoodIn wsX12_init wsX6_init := goodIn_r _ [127, 128, 2, 3, 47, 129, 130, 64, 65, 66, 187] (by decide +kernel) (by decide +kernel)
set_option maxRecDepth 20000 in
theorem gX12_init_X6_init : GoodIn wsX12_init (wsX6_init) := ggX12_init_X6_init
set_option maxRecDepth 20000 in
theorem ggX12_init_X10_init : GoodIn wsX12_init wsX10_init := goodIn_r _ [132, 133, 2, 3, 40, 134, 47, 135, 136, 137, 188, 189, 190, 191, 192, 193, 194, 195, 196, 197, 198] (by decide +kernel) (by decide +kernel)
set_option maxRecDepth 20000 in
theorem gX12_init_X10_init_n59 : GoodIn wsX12_init (wsX10_init) := ggX12_init_X10_init
set_option maxRecDepth 20000 in
theorem ggX12_init_X7_init : GoodIn wsX12_init wsX7_init := goodIn_r _ [140, 141, 2, 3, 142, 143, 199, 200, 201, 202, 203, 204, 205, 206] (by decide +kernel) (by decide +kernel)
set_option maxRecDepth 20000 in
theorem gX12_init_X7_init : GoodIn wsX12_init (wsX7_init) := ggX12_init_X7_init
set_option maxRecDepth 20000 in
theorem ggX12_init_X8_init : GoodIn wsX12_init wsX8_init := goodIn_r _ [146, 147, 2, 3, 148, 149, 47, 150, 151, 152, 153, 207, 208, 209, 210, 211, 212, 213] (by decide +kernel) (by decide +kernel)
set_option maxRecDepth 20000 in
theorem gX12_init_X8_init : GoodIn wsX12_init (wsX8_init) := ggX12_init_X8_init
set_option maxRecDepth 20000 in
theorem ggX12_feed_X10_hasRoomFor : GoodIn wsX12_feed wsX10_hasRoomFor := goodIn_r _ [9, 10, 35, 36, 37, 38, 39, 40, 41, 42, 43, 44, 45] (by decide +kernel) (by decide +kernel)
set_option maxRecDepth 20000 in
theorem gX12_feed_X10_hasRoomFor : GoodIn wsX12_feed (wsV RX12 90 RX10 yX10_hasRoomFor wsX10_hasRoomFor) := goodIn_app (goodIn_of _ (by decide +kernel)) ggX12_feed_X10_hasRoomFor
set_option maxRecDepth 20000 in
theorem ggX12_feed_X10_append : GoodIn wsX12_feed wsX10_append := goodIn_r _ [14, 15, 16, 17, 8, 18, 10, 19, 35, 36, 37, 38, 39, 40, 41, 42, 43, 44, 45] (by decide +kernel) (by decide +kernel)
set_option maxRecDepth 20000 in
theorem gX12_feed_X10_append : GoodIn wsX12_feed (wsV RX12 97 RX10 yX10_append wsX10_append) := goodIn_app (goodIn_of _ (by decide +kernel)) ggX12_feed_X10_append
set_option maxRecDepth 20000 in
theorem ggX12_readText_X7_readDraft : GoodIn wsX12_readText wsX7_readDraft := goodIn_r _ [12, 13, 14, 15, 16, 17, 18, 19, 20, 21, 22, 23, 24, 25, 26, 27, 28, 29, 30, 31, 32, 33, 34, 35, 36, 37, 38, 39, 40, 41, 42, 43, 44, 45, 46, 47, 48, 49, 50, 51, 52, 53, 54, 55, 56, 57, 58, 59, 60, 61, 62, 63, 64, 65, 66, 67, 68, 69, 70, 71, 72, 73, 74, 75, 76, 77, 78, 79, 11, 80, 81, 82, 83, 84, 85, 86, 87, 88, 89, 90, 91, 92, 93, 94, 95, 96, 97, 98, 99, 100, 101, 102, 103, 104, 105, 106, 107, 108, 109, 110, 111, 112, 113, 114, 115, 116, 117, 118, 119, 120, 121, 122, 123, 124, 125, 126, 127, 128, 129, 130, 131, 132, 133, 134, 135, 136, 137, 138, 139, 140, 141, 142, 143, 144, 145, 146, 147, 148, 149, 150, 151, 152, 153, 154, 155, 156, 157, 158, 159, 160, 161, 162, 163, 164, 165, 166, 167, 168, 169, 170, 171, 172, 173, 174, 175, 176, 177, 178, 179, 180, 181, 182, 183, 184, 185, 186, 187, 188, 189, 190, 191, 192, 193, 194, 195, 196, 197, 198, 199, 200, 201, 202, 203, 204, 205, 206, 207, 208, 209, 210, 211, 212, 213, 214, 215, 216, 217, 218, 219, 220, 221, 222, 223, 224, 225, 226, 227, 228, 229, 274, 275, 276, 277, 278, 279, 280, 281, 282, 283, 284, 285, 286, 287, 288, 289, 290, 291, 292, 293, 294, 295, 296, 297, 298, 299, 300, 301, 302, 303, 304, 305, 306] (by decide +kernel) (by decide +kernel)
set_option maxRecDepth 20000 in
theorem gX12_readText_X7_readDraft : GoodIn wsX12_readText (wsV RX12 107 RX7 yX7_readDraft wsX7_readDraft) := goodIn_app (goodIn_of _ (by decide +kernel)) ggX12_readText_X7_readDraft
set_option maxRecDepth 20000 in
theorem ggX12_readText_X12_endText : GoodIn wsX12_readText wsX12_endText := goodIn_r _ [234, 235, 236, 237, 238, 239, 240, 259, 260, 261, 262, 263, 264, 265, 266, 267, 268, 269, 270, 271, 272, 273, 292, 293, 294, 295, 296, 297, 298, 299, 300, 301, 302] (by decide +kernel) (by decide +kernel)
set_option maxRecDepth 20000 in
theorem gX12_readText_X12_endText : GoodIn wsX12_readText (wsV RX12 111 RX12 yX12_endText wsX12_endText) := goodIn_app (goodIn_of _ (by decide +kernel)) ggX12_readText_X12_endText
set_option maxRecDepth 20000 in
theorem ggX12_readText_X5_copyFrom : GoodIn wsX12_readText wsX5_copyFrom := goodIn_r _ [244, 26, 27, 28, 29, 30, 31, 32, 33, 245, 246, 247, 248, 197, 249, 250, 251, 24, 252, 229, 282, 283, 284, 285, 286, 287, 288, 289, 290, 291] (by decide +kernel) (by decide +kernel)
set_option maxRecDepth 20000 in
theorem gX12_readText_X5_copyFrom : GoodIn wsX12_readText (wsV RX12 114 RX5 yX5_copyFrom wsX5_copyFrom) := goodIn_app (goodIn_of _ (by decide +kernel)) ggX12_readText_X5_copyFrom
set_option maxRecDepth 20000 in
theorem ggX12_readText_X3_forget : GoodIn wsX12_readText wsX3_forget := goodIn_r _ [257, 258, 307, 308, 309] (by decide +kernel) (by decide +kernel)
set_option maxRecDepth 20000 in
theorem gX12_readText_X3_forget : GoodIn wsX12_readText (wsV RX12 117 RX3 yX3_forget wsX3_forget) := goodIn_app (goodIn_of _ (by decide +kernel)) ggX12_readText_X3_forget
set_option maxRecDepth 20000 in
theorem ggX12_tone_X12_checkCell : GoodIn wsX12_tone wsX12_checkCell := goodIn_ca (goodIn_r _ [6, 7, 8, 1, 9, 10, 11, 12, 13, 14, 15, 21, 22, 23, 24, 25, 26, 27, 28, 29, 30, 31, 32, 33, 34, 35, 36, 37, 38, 39, 40, 41, 42, 43, 44, 45] (by decide +kernel) (by decide +kernel)) (goodIn_sub (fun _ h => List.mem_cons_of_mem _ (List.mem_append_right _ h)) (by decide +kernel))
set_option maxRecDepth 20000 in
theorem gX12_tone_X12_checkCell : GoodIn wsX12_tone (wsV RX12 268 RX12 yX12_checkCell wsX12_checkCell) := goodIn_app (goodIn_of _ (by decide +kernel)) ggX12_tone_X12_checkCell
set_option maxRecDepth 20000 in
theorem ggX12_tone_X5_toneAt : GoodIn wsX12_tone wsX5_toneAt := goodIn_r _ [19, 14, 15, 20, 36, 37, 38, 39, 40, 41, 42, 43, 44, 45] (by decide +kernel) (by decide +kernel)
set_option maxRecDepth 20000 in
theorem gX12_tone_X5_toneAt : GoodIn wsX12_tone (wsV RX12 272 RX5 yX5_toneAt wsX5_toneAt) := goodIn_app (goodIn_of _ (by decide +kernel)) ggX12_tone_X5_toneAt
set_option maxRecDepth 20000 in
theorem ggX12_height_X12_checkCell : GoodIn wsX12_height wsX12_checkCell := goodIn_ca (goodIn_r _ [6, 7, 8, 1, 9, 10, 11, 12, 13, 14, 15, 21, 22, 23, 24, 25, 26, 27, 28, 29, 30, 31, 32, 33, 34, 35, 36, 37, 38, 39, 40, 41, 42, 43, 44, 45] (by decide +kernel) (by decide +kernel)) (goodIn_sub (fun _ h => List.mem_cons_of_mem _ (List.mem_append_right _ h)) (by decide +kernel))
set_option maxRecDepth 20000 in
theorem gX12_height_X12_checkCell : GoodIn wsX12_height (wsV RX12 268 RX12 yX12_checkCell wsX12_checkCell) := goodIn_app (goodIn_of _ (by decide +kernel)) ggX12_height_X12_checkCell
set_option maxRecDepth 20000 in
theorem ggX12_height_X5_heightAt : GoodIn wsX12_height wsX5_heightAt := goodIn_r _ [19, 14, 15, 20, 36, 37, 38, 39, 40, 41, 42, 43, 44, 45] (by decide +kernel) (by decide +kernel)
set_option maxRecDepth 20000 in
theorem gX12_height_X5_heightAt : GoodIn wsX12_height (wsV RX12 275 RX5 yX5_heightAt wsX5_heightAt) := goodIn_app (goodIn_of _ (by decide +kernel)) ggX12_height_X5_heightAt
set_option maxRecDepth 20000 in
theorem ggX12_volume_X5_sumOfHeights : GoodIn wsX12_volume wsX5_sumOfHeights := goodIn_r _ [6, 7, 8, 9, 10, 11, 5, 12, 13, 29, 30, 31, 32, 33, 34, 35, 36, 37, 38] (by decide +kernel) (by decide +kernel)
set_option maxRecDepth 20000 in
theorem gX12_volume_X5_sumOfHeights : GoodIn wsX12_volume (wsV RX12 278 RX5 yX5_sumOfHeights wsX5_sumOfHeights) := goodIn_app (goodIn_of _ (by decide +kernel)) ggX12_volume_X5_sumOfHeights
set_option maxRecDepth 20000 in
theorem ggX12_cellsOf_X12_checkStep : GoodIn wsX12_cellsOf wsX12_checkStep := goodIn_ca (goodIn_r _ [6, 7, 8, 1, 9, 22, 23, 24, 25, 26, 27, 28, 29, 30, 31, 32, 33, 34, 35, 36, 37, 38, 39, 40, 41, 42, 43, 44, 45, 46] (by decide +kernel) (by decide +kernel)) (goodIn_sub (fun _ h => List.mem_cons_of_mem _ (List.mem_append_right _ h)) (by decide +kernel))
set_option maxRecDepth 20000 in
theorem gX12_cellsOf_X12_checkStep : GoodIn wsX12_cellsOf (wsV RX12 281 RX12 yX12_checkStep wsX12_checkStep) := goodIn_app (goodIn_of _ (by decide +kernel)) ggX12_cellsOf_X12_checkStep
set_option maxRecDepth 20000 in
theorem ggX12_cellsOf_X5_countOf : GoodIn wsX12_cellsOf wsX5_countOf := goodIn_r _ [14, 15, 16, 17, 18, 19, 13, 20, 21, 37, 38, 39, 40, 41, 42, 43, 44, 45, 46] (by decide +kernel) (by decide +kernel)
set_option maxRecDepth 20000 in
theorem gX12_cellsOf_X5_countOf : GoodIn wsX12_cellsOf (wsV RX12 284 RX5 yX5_countOf wsX5_countOf) := goodIn_app (goodIn_of _ (by decide +kernel)) ggX12_cellsOf_X5_countOf
set_option maxRecDepth 20000 in
theorem ggX12_steepest_X5_greatestStep : GoodIn wsX12_steepest wsX5_greatestStep := goodIn_r _ [6, 7, 8, 9, 10, 11, 12, 13, 14, 15, 16, 17, 18, 5, 19, 20, 21, 22, 23, 24, 40, 41, 42, 43, 44, 45, 46, 47, 48, 49] (by decide +kernel) (by decide +kernel)
set_option maxRecDepth 20000 in
theorem gX12_steepest_X5_greatestStep : GoodIn wsX12_steepest (wsV RX12 287 RX5 yX5_greatestStep wsX5_greatestStep) := goodIn_app (goodIn_of _ (by decide +kernel)) ggX12_steepest_X5_greatestStep
set_option maxRecDepth 20000 in
theorem ggX12_checkCell_X5_has : GoodIn wsX12_checkCell wsX5_has := goodIn_r _ [8, 9, 10, 26, 27, 28, 29, 30, 31, 32, 33, 34, 35] (by decide +kernel) (by decide +kernel)
set_option maxRecDepth 20000 in
theorem gX12_checkCell_X5_has : GoodIn wsX12_checkCell (wsV RX12 209 RX5 yX5_has wsX5_has) := goodIn_app (goodIn_of _ (by decide +kernel)) ggX12_checkCell_X5_has
set_option maxRecDepth 20000 in
theorem ggX12_checkTone_X5_isTone : GoodIn wsX12_checkTone wsX5_isTone := goodIn_r _ [6] (by decide +kernel) (by decide +kernel)
set_option maxRecDepth 20000 in
theorem gX12_checkTone_X5_isTone : GoodIn wsX12_checkTone (va_wsS RX12 213 yX5_isTone wsX5_isTone) := goodIn_app (goodIn_of _ (by decide +kernel)) ggX12_checkTone_X5_isTone
set_option maxRecDepth 20000 in
theorem ggX12_heightFor_X12_checkTone : GoodIn wsX12_heightFor wsX12_checkTone := goodIn_ca (goodIn_r _ [6, 7, 8, 9, 10, 11, 12] (by decide +kernel) (by decide +kernel)) (goodIn_sub (fun _ h => List.mem_cons_of_mem _ (List.mem_append_right _ h)) (by decide +kernel))
set_option maxRecDepth 20000 in
theorem gX12_heightFor_X12_checkTone : GoodIn wsX12_heightFor (wsV RX12 297 RX12 yX12_checkTone wsX12_checkTone) := goodIn_app (goodIn_of _ (by decide +kernel)) ggX12_heightFor_X12_checkTone
set_option maxRecDepth 20000 in
theorem ggX12_heightFor_X5_wish : GoodIn wsX12_heightFor wsX5_wish := goodIn_r _ [15, 16] (by decide +kernel) (by decide +kernel)
set_option maxRecDepth 20000 in
theorem gX12_heightFor_X5_wish : GoodIn wsX12_heightFor (va_wsS RX12 300 yX5_wish wsX5_wish) := goodIn_app (goodIn_of _ (by decide +kernel)) ggX12_heightFor_X5_wish
set_option maxRecDepth 20000 in
theorem ggX12_heightFor_X5_stepFor : GoodIn wsX12_heightFor wsX5_stepFor := goodIn_r _ [20, 21, 22, 23, 24, 25, 11, 26, 27, 28, 29, 30, 46, 47, 48, 49, 50, 51, 52, 53, 54, 55] (by decide +kernel) (by decide +kernel)
set_option maxRecDepth 20000 in
theorem gX12_heightFor_X5_stepFor : GoodIn wsX12_heightFor (wsV RX12 303 RX5 yX5_stepFor wsX5_stepFor) := goodIn_app (goodIn_of _ (by decide +kernel)) ggX12_heightFor_X5_stepFor
set_option maxRecDepth 20000 in
theorem ggX12_fingerprint_X2_hash : GoodIn wsX12_fingerprint wsX2_hash := goodIn_r _ [5, 6, 7, 8, 9, 4, 10, 11, 12, 13, 14, 15, 16, 17, 18, 19, 20, 21, 22, 23, 24, 25, 41, 42, 43, 44, 45, 46, 47, 48, 49, 50] (by decide +kernel) (by decide +kernel)
set_option maxRecDepth 20000 in
theorem gX12_fingerprint_X2_hash : GoodIn wsX12_fingerprint (va_wsS RX12 325 yX2_hash wsX2_hash) := goodIn_app (goodIn_of _ (by decide +kernel)) ggX12_fingerprint_X2_hash
set_option maxRecDepth 20000 in
theorem ggX12_thinCells_X11_mark : GoodIn wsX12_thinCells wsX11_mark := goodIn_r _ [7, 8, 9, 10, 11, 6, 12, 13, 14, 15, 16, 17, 18, 19, 20, 21, 22, 23, 24, 25, 26, 27, 28, 29, 30, 31, 32, 33, 34, 50, 51, 52, 53, 54, 55, 56, 57, 58, 59, 60] (by decide +kernel) (by decide +kernel)
set_option maxRecDepth 20000 in
theorem gX12_thinCells_X11_mark : GoodIn wsX12_thinCells (wsV RX12 341 RX11 yX11_mark wsX11_mark) := goodIn_app (goodIn_of _ (by decide +kernel)) ggX12_thinCells_X11_mark
set_option maxRecDepth 20000 in
theorem ggX12_repair_X3_open : GoodIn wsX12_repair wsX3_open := goodIn_r _ [8, 9, 10, 11, 12, 13, 14, 15, 16, 17, 18, 19, 20, 21, 22, 23, 24, 25, 26, 27, 28, 29, 30, 31, 32, 33, 115, 116, 117, 118, 119, 120, 121, 122, 123, 124, 125, 126, 127] (by decide +kernel) (by decide +kernel)
set_option maxRecDepth 20000 in
theorem gX12_repair_X3_open : GoodIn wsX12_repair (wsV RX12 126 RX3 yX3_open wsX3_open) := goodIn_app (goodIn_of _ (by decide +kernel)) ggX12_repair_X3_open
set_option maxRecDepth 20000 in
theorem ggX12_repair_X11_takeDown : GoodIn wsX12_repair wsX11_takeDown := goodIn_r _ [38, 39, 40, 41, 37, 42, 43, 44, 45, 46, 47, 48, 49, 50, 51, 52, 14, 53, 16, 17, 33, 54, 55, 56, 57, 58, 59, 60, 61, 62, 63, 64, 65, 66, 67, 68, 69, 70, 71, 72, 73, 74, 75, 76, 77, 78, 79, 80, 81, 118, 119, 120, 121, 122, 123, 124, 125, 126, 127, 128] (by decide +kernel) (by decide +kernel)
set_option maxRecDepth 20000 in
theorem gX12_repair_X11_takeDown : GoodIn wsX12_repair (wsV RX12 186 RX11 yX11_takeDown wsX11_takeDown) := goodIn_app (goodIn_of _ (by decide +kernel)) ggX12_repair_X11_takeDown
set_option maxRecDepth 20000 in
theorem ggX12_repair_X3_close : GoodIn wsX12_repair wsX3_close := goodIn_r _ [85, 9, 10, 86, 87, 88, 89, 90, 91, 92, 93, 14, 94, 17, 16, 95, 51, 52, 53, 33, 96, 97, 98, 99, 23, 115, 116, 117, 118, 119, 120, 121, 122, 123, 124, 125, 126, 127] (by decide +kernel) (by decide +kernel)
set_option maxRecDepth 20000 in
theorem gX12_repair_X3_close : GoodIn wsX12_repair (wsV RX12 139 RX3 yX3_close wsX3_close) := goodIn_app (goodIn_of _ (by decide +kernel)) ggX12_repair_X3_close
set_option maxRecDepth 20000 in
theorem ggX12_smooth_X11_isLimit : GoodIn wsX12_smooth wsX11_isLimit := goodIn_r _ [9] (by decide +kernel) (by decide +kernel)
set_option maxRecDepth 20000 in
theorem gX12_smooth_X11_isLimit : GoodIn wsX12_smooth (va_wsS RX12 240 yX11_isLimit wsX11_isLimit) := goodIn_app (goodIn_of _ (by decide +kernel)) ggX12_smooth_X11_isLimit
set_option maxRecDepth 20000 in
theorem ggX12_smooth_X3_open : GoodIn wsX12_smooth wsX3_open := goodIn_r _ [14, 15, 16, 17, 18, 19, 20, 21, 22, 23, 24, 25, 26, 27, 28, 29, 30, 31, 32, 33, 34, 35, 36, 37, 38, 39, 102, 103, 104, 105, 106, 107, 108, 109, 110, 111, 112, 113, 114] (by decide +kernel) (by decide +kernel)
set_option maxRecDepth 20000 in
theorem gX12_smooth_X3_open : GoodIn wsX12_smooth (wsV RX12 126 RX3 yX3_open wsX3_open) := goodIn_app (goodIn_of _ (by decide +kernel)) ggX12_smooth_X3_open
set_option maxRecDepth 20000 in
theorem ggX12_smooth_X11_flatten : GoodIn wsX12_smooth wsX11_flatten := goodIn_r _ [42, 43, 44, 45, 18, 19, 20, 21, 22, 23, 24, 25, 26, 27, 28, 29, 30, 31, 32, 33, 34, 35, 36, 37, 38, 39, 46, 47, 8, 48, 49, 50, 51, 52, 53, 54, 55, 56, 57, 58, 59, 60, 61, 62, 63, 64, 65, 66, 67, 68, 69, 70, 105, 106, 107, 108, 109, 110, 111, 112, 113, 114] (by decide +kernel) (by decide +kernel)
set_option maxRecDepth 20000 in
theorem gX12_smooth_X11_flatten : GoodIn wsX12_smooth (va_wsS RX12 243 yX11_flatten wsX11_flatten) := goodIn_app (goodIn_of _ (by decide +kernel)) ggX12_smooth_X11_flatten
set_option maxRecDepth 20000 in
theorem ggX12_smooth_X3_close : GoodIn wsX12_smooth wsX3_close := goodIn_r _ [74, 15, 16, 75, 76, 77, 51, 78, 79, 80, 81, 20, 82, 23, 22, 70, 58, 59, 60, 39, 83, 84, 85, 86, 29, 102, 103, 104, 105, 106, 107, 108, 109, 110, 111, 112, 113, 114] (by decide +kernel) (by decide +kernel)
set_option maxRecDepth 20000 in
theorem gX12_smooth_X3_close : GoodIn wsX12_smooth (wsV RX12 139 RX3 yX3_close wsX3_close) := goodIn_app (goodIn_of _ (by decide +kernel)) ggX12_smooth_X3_close
set_option maxRecDepth 20000 in
theorem ggX12_repairLoss_X5_copyFrom : GoodIn wsX12_repairLoss wsX5_copyFrom := goodIn_r _ [8, 9, 10, 11, 12, 13, 14, 15, 16, 17, 18, 19, 20, 21, 22, 23, 24, 7, 25, 26, 95, 96, 97, 98, 99, 100, 101, 102, 103, 104] (by decide +kernel) (by decide +kernel)
set_option maxRecDepth 20000 in
theorem gX12_repairLoss_X5_copyFrom : GoodIn wsX12_repairLoss (wsV RX12 114 RX5 yX5_copyFrom wsX5_copyFrom) := goodIn_app (goodIn_of _ (by decide +kernel)) ggX12_repairLoss_X5_copyFrom
set_option maxRecDepth 20000 in
theorem ggX12_repairLoss_X11_takeDown : GoodIn wsX12_repairLoss wsX11_takeDown := goodIn_r _ [31, 32, 33, 34, 30, 35, 36, 37, 38, 39, 40, 41, 42, 43, 44, 45, 7, 46, 9, 10, 26, 47, 48, 49, 50, 51, 52, 53, 54, 55, 56, 57, 58, 59, 60, 61, 62, 63, 64, 65, 66, 67, 68, 69, 70, 71, 72, 73, 74, 95, 96, 97, 98, 99, 100, 101, 102, 103, 104, 105] (by decide +kernel) (by decide +kernel)
set_option maxRecDepth 20000 in
theorem gX12_repairLoss_X11_takeDown : GoodIn wsX12_repairLoss (wsV RX12 186 RX11 yX11_takeDown wsX11_takeDown) := goodIn_app (goodIn_of _ (by decide +kernel)) ggX12_repairLoss_X11_takeDown
set_option maxRecDepth 20000 in
theorem ggX12_repairLoss_X5_sumOfHeights : GoodIn wsX12_repairLoss wsX5_sumOfHeights := goodIn_r _ [78, 10, 9, 79, 44, 45, 7, 46, 26, 95, 96, 97, 98, 99, 100, 101, 102, 103, 104] (by decide +kernel) (by decide +kernel)
set_option maxRecDepth 20000 in
theorem gX12_repairLoss_X5_sumOfHeights : GoodIn wsX12_repairLoss (wsV RX12 278 RX5 yX5_sumOfHeights wsX5_sumOfHeights) := goodIn_app (goodIn_of _ (by decide +kernel)) ggX12_repairLoss_X5_sumOfHeights
set_option maxRecDepth 20000 in
theorem ggX12_supportedCells_X9_countOfCells : GoodIn wsX12_supportedCells wsX9_countOfCells := goodIn_r _ [5, 6, 7, 8, 9, 4, 10, 11, 12, 13, 14, 15, 16, 17, 18, 19, 20, 21, 22, 23, 39, 40, 41, 42, 43, 44, 45, 46, 47, 48] (by decide +kernel) (by decide +kernel)
set_option maxRecDepth 20000 in
theorem gX12_supportedCells_X9_countOfCells : GoodIn wsX12_supportedCells (va_wsS RX12 351 yX9_countOfCells wsX9_countOfCells) := goodIn_app (goodIn_of _ (by decide +kernel)) ggX12_supportedCells_X9_countOfCells
set_option maxRecDepth 20000 in
theorem ggX12_supportVolume_X9_sumOfLengths : GoodIn wsX12_supportVolume wsX9_sumOfLengths := goodIn_r _ [5, 6, 7, 8, 9, 4, 10, 11, 12, 13, 14, 15, 16, 17, 18, 19, 20, 21, 22, 23, 24, 25, 26, 27, 28, 29, 45, 46, 47, 48, 49, 50, 51, 52, 53, 54] (by decide +kernel) (by decide +kernel)
set_option maxRecDepth 20000 in
theorem gX12_supportVolume_X9_sumOfLengths : GoodIn wsX12_supportVolume (va_wsS RX12 354 yX9_sumOfLengths wsX9_sumOfLengths) := goodIn_app (goodIn_of _ (by decide +kernel)) ggX12_supportVolume_X9_sumOfLengths
set_option maxRecDepth 20000 in
theorem ggX12_ease_X3_open : GoodIn wsX12_ease wsX3_open := goodIn_r _ [7, 8, 9, 10, 11, 12, 13, 14, 15, 16, 17, 18, 19, 20, 21, 22, 23, 24, 25, 26, 27, 28, 29, 30, 31, 32, 91, 92, 93, 94, 95, 96, 97, 98, 99, 100, 101, 102, 103] (by decide +kernel) (by decide +kernel)
set_option maxRecDepth 20000 in
theorem gX12_ease_X3_open : GoodIn wsX12_ease (wsV RX12 126 RX3 yX3_open wsX3_open) := goodIn_app (goodIn_of _ (by decide +kernel)) ggX12_ease_X3_open
set_option maxRecDepth 20000 in
theorem ggX12_ease_X9_settle : GoodIn wsX12_ease wsX9_settle := goodIn_r _ [36, 37, 38, 39, 40, 41, 13, 42, 15, 16, 32, 43, 44, 35, 45, 46, 47, 48, 49, 50, 51, 52, 53, 54, 55, 56, 57, 58, 94, 95, 96, 97, 98, 99, 100, 101, 102, 103] (by decide +kernel) (by decide +kernel)
set_option maxRecDepth 20000 in
theorem gX12_ease_X9_settle : GoodIn wsX12_ease (va_wsS RX12 190 yX9_settle wsX9_settle) := goodIn_app (goodIn_of _ (by decide +kernel)) ggX12_ease_X9_settle
set_option maxRecDepth 20000 in
theorem ggX12_ease_X3_close : GoodIn wsX12_ease wsX3_close := goodIn_r _ [62, 8, 9, 63, 64, 65, 49, 66, 67, 68, 69, 13, 70, 16, 15, 71, 40, 41, 42, 32, 72, 73, 74, 75, 22, 91, 92, 93, 94, 95, 96, 97, 98, 99, 100, 101, 102, 103] (by decide +kernel) (by decide +kernel)
set_option maxRecDepth 20000 in
theorem gX12_ease_X3_close : GoodIn wsX12_ease (wsV RX12 139 RX3 yX3_close wsX3_close) := goodIn_app (goodIn_of _ (by decide +kernel)) ggX12_ease_X3_close
set_option maxRecDepth 20000 in
theorem ggX12_safeSlope_X9_leastSlope : GoodIn wsX12_safeSlope wsX9_leastSlope := goodIn_r _ [5, 6, 7, 8, 9, 10, 11, 12, 13, 14, 15, 16, 17, 18, 19, 35, 36, 37, 38, 39, 40, 41, 42, 43, 44] (by decide +kernel) (by decide +kernel)
set_option maxRecDepth 20000 in
theorem gX12_safeSlope_X9_leastSlope : GoodIn wsX12_safeSlope (va_wsS RX12 357 yX9_leastSlope wsX9_leastSlope) := goodIn_app (goodIn_of _ (by decide +kernel)) ggX12_safeSlope_X9_leastSlope
set_option maxRecDepth 20000 in
theorem ggX12_layerCells_X12_checkLayer : GoodIn wsX12_layerCells wsX12_checkLayer := goodIn_ca (goodIn_r _ [6, 7, 8, 9, 10, 27, 28, 29, 30, 31, 32, 33, 34, 35, 36, 37, 38, 39, 40, 41, 42, 43, 44, 45, 46, 47, 48, 49, 50, 51] (by decide +kernel) (by decide +kernel)) (goodIn_sub (fun _ h => List.mem_cons_of_mem _ (List.mem_append_right _ h)) (by decide +kernel))
set_option maxRecDepth 20000 in
theorem gX12_layerCells_X12_checkLayer : GoodIn wsX12_layerCells (wsV RX12 360 RX12 yX12_checkLayer wsX12_checkLayer) := goodIn_app (goodIn_of _ (by decide +kernel)) ggX12_layerCells_X12_checkLayer
set_option maxRecDepth 20000 in
theorem ggX12_layerCells_X4_countOfCells : GoodIn wsX12_layerCells wsX4_countOfCells := goodIn_r _ [15, 16, 17, 18, 19, 20, 21, 22, 23, 24, 25, 26, 52, 53, 54, 55, 42, 43, 44, 45, 46, 47, 48, 49, 50, 51] (by decide +kernel) (by decide +kernel)
set_option maxRecDepth 20000 in
theorem gX12_layerCells_X4_countOfCells : GoodIn wsX12_layerCells (wsV RX12 363 RX4 yX4_countOfCells wsX4_countOfCells) := goodIn_app (goodIn_of _ (by decide +kernel)) ggX12_layerCells_X4_countOfCells
set_option maxRecDepth 20000 in
theorem ggX12_runs_X12_checkLayer : GoodIn wsX12_runs wsX12_checkLayer := goodIn_ca (goodIn_r _ [6, 7, 8, 9, 10, 31, 32, 33, 34, 35, 36, 37, 38, 39, 40, 41, 42, 43, 44, 45, 46, 47, 48, 49, 50, 51, 52, 53, 54, 55] (by decide +kernel) (by decide +kernel)) (goodIn_sub (fun _ h => List.mem_cons_of_mem _ (List.mem_append_right _ h)) (by decide +kernel))
set_option maxRecDepth 20000 in
theorem gX12_runs_X12_checkLayer : GoodIn wsX12_runs (wsV RX12 360 RX12 yX12_checkLayer wsX12_checkLayer) := goodIn_app (goodIn_of _ (by decide +kernel)) ggX12_runs_X12_checkLayer
set_option maxRecDepth 20000 in
theorem ggX12_runs_X4_countOfRuns : GoodIn wsX12_runs wsX4_countOfRuns := goodIn_r _ [15, 16, 17, 18, 19, 20, 21, 14, 22, 23, 24, 25, 26, 27, 28, 29, 30, 56, 57, 58, 59, 46, 47, 48, 49, 50, 51, 52, 53, 54, 55] (by decide +kernel) (by decide +kernel)
set_option maxRecDepth 20000 in
theorem gX12_runs_X4_countOfRuns : GoodIn wsX12_runs (wsV RX12 365 RX4 yX4_countOfRuns wsX4_countOfRuns) := goodIn_app (goodIn_of _ (by decide +kernel)) ggX12_runs_X4_countOfRuns
set_option maxRecDepth 20000 in
theorem ggX12_rectangles_X12_checkLayer : GoodIn wsX12_rectangles wsX12_checkLayer := goodIn_ca (goodIn_r _ [6, 7, 8, 9, 10, 47, 48, 49, 50, 51, 52, 53, 54, 55, 56, 57, 58, 59, 60, 61, 62, 63, 64, 65, 66, 67, 68, 69, 70, 71] (by decide +kernel) (by decide +kernel)) (goodIn_sub (fun _ h => List.mem_cons_of_mem _ (List.mem_append_right _ h)) (by decide +kernel))
set_option maxRecDepth 20000 in
theorem gX12_rectangles_X12_checkLayer : GoodIn wsX12_rectangles (wsV RX12 360 RX12 yX12_checkLayer wsX12_checkLayer) := goodIn_app (goodIn_of _ (by decide +kernel)) ggX12_rectangles_X12_checkLayer
set_option maxRecDepth 20000 in
theorem ggX12_rectangles_X4_countOfBlocks : GoodIn wsX12_rectangles wsX4_countOfBlocks := goodIn_r _ [15, 16, 17, 18, 19, 20, 21, 14, 22, 23, 24, 25, 26, 27, 28, 29, 30, 31, 32, 33, 34, 35, 36, 37, 38, 39, 40, 41, 42, 43, 44, 45, 46, 72, 73, 74, 75, 62, 63, 64, 65, 66, 67, 68, 69, 70, 71] (by decide +kernel) (by decide +kernel)
set_option maxRecDepth 20000 in
theorem gX12_rectangles_X4_countOfBlocks : GoodIn wsX12_rectangles (wsV RX12 368 RX4 yX4_countOfBlocks wsX4_countOfBlocks) := goodIn_app (goodIn_of _ (by decide +kernel)) ggX12_rectangles_X4_countOfBlocks
set_option maxRecDepth 20000 in
theorem ggX12_parts_X12_checkLayer : GoodIn wsX12_parts wsX12_checkLayer := goodIn_ca (goodIn_r _ [6, 7, 8, 9, 10, 54, 55, 56, 57, 58, 59, 60, 61, 62, 63, 64, 65, 66, 67, 68, 69, 70, 71, 72, 73, 74, 75, 76, 77, 78] (by decide +kernel) (by decide +kernel)) (goodIn_sub (fun _ h => List.mem_cons_of_mem _ (List.mem_append_right _ h)) (by decide +kernel))
set_option maxRecDepth 20000 in
theorem gX12_parts_X12_checkLayer : GoodIn wsX12_parts (wsV RX12 360 RX12 yX12_checkLayer wsX12_checkLayer) := goodIn_app (goodIn_of _ (by decide +kernel)) ggX12_parts_X12_checkLayer
set_option maxRecDepth 20000 in
theorem ggX12_parts_X4_countOfParts : GoodIn wsX12_parts wsX4_countOfParts := goodIn_r _ [15, 16, 17, 18, 14, 19, 20, 21, 22, 23, 24, 25, 26, 27, 28, 29, 30, 31, 32, 33, 34, 35, 36, 37, 38, 39, 40, 41, 42, 43, 44, 45, 46, 47, 48, 49, 50, 51, 52, 53, 79, 80, 81, 82, 69, 70, 71, 72, 73, 74, 75, 76, 77, 78] (by decide +kernel) (by decide +kernel)
set_option maxRecDepth 20000 in
theorem gX12_parts_X4_countOfParts : GoodIn wsX12_parts (wsV RX12 387 RX4 yX4_countOfParts wsX4_countOfParts) := goodIn_app (goodIn_of _ (by decide +kernel)) ggX12_parts_X4_countOfParts
set_option maxRecDepth 20000 in
theorem ggX12_outline_X12_checkLayer : GoodIn wsX12_outline wsX12_checkLayer := goodIn_ca (goodIn_r _ [6, 7, 8, 9, 10, 31, 32, 33, 34, 35, 36, 37, 38, 39, 40, 41, 42, 43, 44, 45, 46, 47, 48, 49, 50, 51, 52, 53, 54, 55] (by decide +kernel) (by decide +kernel)) (goodIn_sub (fun _ h => List.mem_cons_of_mem _ (List.mem_append_right _ h)) (by decide +kernel))
set_option maxRecDepth 20000 in
theorem gX12_outline_X12_checkLayer : GoodIn wsX12_outline (wsV RX12 360 RX12 yX12_checkLayer wsX12_checkLayer) := goodIn_app (goodIn_of _ (by decide +kernel)) ggX12_outline_X12_checkLayer
set_option maxRecDepth 20000 in
theorem ggX12_outline_X4_countOfSides : GoodIn wsX12_outline wsX4_countOfSides := goodIn_r _ [15, 16, 17, 18, 19, 20, 21, 22, 23, 24, 25, 26, 27, 28, 29, 14, 30, 56, 57, 58, 59, 46, 47, 48, 49, 50, 51, 52, 53, 54, 55] (by decide +kernel) (by decide +kernel)
set_option maxRecDepth 20000 in
theorem gX12_outline_X4_countOfSides : GoodIn wsX12_outline (wsV RX12 390 RX4 yX4_countOfSides wsX4_countOfSides) := goodIn_app (goodIn_of _ (by decide +kernel)) ggX12_outline_X4_countOfSides
set_option maxRecDepth 20000 in
theorem ggX12_setTone_X12_checkCell : GoodIn wsX12_setTone wsX12_checkCell := goodIn_ca (goodIn_r _ [7, 8, 9, 2, 10, 11, 12, 13, 14, 15, 16, 103, 104, 105, 106, 107, 108, 109, 110, 111, 112, 113, 114, 115, 116, 117, 118, 119, 120, 121, 122, 123, 124, 125, 126, 127] (by decide +kernel) (by decide +kernel)) (goodIn_sub (fun _ h => List.mem_cons_of_mem _ (List.mem_append_left _ (List.mem_append_right _ h))) (by decide +kernel))
set_option maxRecDepth 20000 in
theorem gX12_setTone_X12_checkCell : GoodIn wsX12_setTone (wsV RX12 268 RX12 yX12_checkCell wsX12_checkCell) := goodIn_app (goodIn_of _ (by decide +kernel)) ggX12_setTone_X12_checkCell
set_option maxRecDepth 20000 in
theorem ggX12_setTone_X12_checkTone : GoodIn wsX12_setTone wsX12_checkTone := goodIn_ca (goodIn_r _ [20, 21, 22, 23, 24, 13, 25] (by decide +kernel) (by decide +kernel)) (goodIn_sub (fun _ h => List.mem_cons_of_mem _ (List.mem_append_right _ h)) (by decide +kernel))
set_option maxRecDepth 20000 in
theorem gX12_setTone_X12_checkTone : GoodIn wsX12_setTone (wsV RX12 297 RX12 yX12_checkTone wsX12_checkTone) := goodIn_app (goodIn_of _ (by decide +kernel)) ggX12_setTone_X12_checkTone
set_option maxRecDepth 20000 in
theorem ggX12_setTone_X3_open : GoodIn wsX12_setTone wsX3_open := goodIn_r _ [30, 31, 32, 33, 34, 35, 13, 36, 15, 16, 37, 38, 39, 40, 41, 42, 43, 44, 45, 46, 47, 48, 49, 50, 51, 52, 128, 129, 130, 118, 119, 120, 121, 122, 123, 124, 125, 126, 127] (by decide +kernel) (by decide +kernel)
set_option maxRecDepth 20000 in
theorem gX12_setTone_X3_open : GoodIn wsX12_setTone (wsV RX12 126 RX3 yX3_open wsX3_open) := goodIn_app (goodIn_of _ (by decide +kernel)) ggX12_setTone_X3_open
set_option maxRecDepth 20000 in
theorem ggX12_setTone_X5_paint : GoodIn wsX12_setTone wsX5_paint := goodIn_r _ [56, 57, 58, 59, 13, 60, 42, 61, 11, 12, 14, 15, 16, 62, 63, 64, 65, 66, 67, 68, 69, 39, 37, 70, 71, 72, 73, 47, 74, 75, 76, 77, 78, 79, 80, 52, 118, 119, 120, 121, 122, 123, 124, 125, 126, 127] (by decide +kernel) (by decide +kernel)
set_option maxRecDepth 20000 in
theorem gX12_setTone_X5_paint : GoodIn wsX12_setTone (wsV RX12 216 RX5 yX5_paint wsX5_paint) := goodIn_app (goodIn_of _ (by decide +kernel)) ggX12_setTone_X5_paint
set_option maxRecDepth 20000 in
theorem ggX12_setTone_X3_close : GoodIn wsX12_setTone wsX3_close := goodIn_r _ [84, 31, 32, 85, 86, 87, 88, 89, 90, 91, 92, 13, 93, 16, 15, 94, 95, 96, 97, 52, 98, 99, 100, 101, 42, 128, 129, 130, 118, 119, 120, 121, 122, 123, 124, 125, 126, 127] (by decide +kernel) (by decide +kernel)
set_option maxRecDepth 20000 in
theorem gX12_setTone_X3_close : GoodIn wsX12_setTone (wsV RX12 139 RX3 yX3_close wsX3_close) := goodIn_app (goodIn_of _ (by decide +kernel)) ggX12_setTone_X3_close
set_option maxRecDepth 20000 in
theorem ggX12_setTone_X5_heightAt : GoodIn wsX12_setTone wsX5_heightAt := goodIn_r _ [97, 15, 16, 52, 118, 119, 120, 121, 122, 123, 124, 125, 126, 127] (by decide +kernel) (by decide +kernel)
set_option maxRecDepth 20000 in
theorem gX12_setTone_X5_heightAt : GoodIn wsX12_setTone (wsV RX12 275 RX5 yX5_heightAt wsX5_heightAt) := goodIn_app (goodIn_of _ (by decide +kernel)) ggX12_setTone_X5_heightAt
set_option maxRecDepth 20000 in
theorem ggX12_setHeight_X12_checkCell : GoodIn wsX12_setHeight wsX12_checkCell := goodIn_ca (goodIn_r _ [7, 8, 9, 1, 10, 11, 12, 13, 14, 15, 16, 81, 82, 83, 84, 85, 86, 87, 88, 89, 90, 91, 92, 93, 94, 95, 96, 97, 98, 99, 100, 101, 102, 103, 104, 105] (by decide +kernel) (by decide +kernel)) (goodIn_sub (fun _ h => List.mem_cons_of_mem _ (List.mem_append_left _ (List.mem_append_right _ h))) (by decide +kernel))
set_option maxRecDepth 20000 in
theorem gX12_setHeight_X12_checkCell : GoodIn wsX12_setHeight (wsV RX12 268 RX12 yX12_checkCell wsX12_checkCell) := goodIn_app (goodIn_of _ (by decide +kernel)) ggX12_setHeight_X12_checkCell
set_option maxRecDepth 20000 in
theorem ggX12_setHeight_X12_checkAllowed : GoodIn wsX12_setHeight wsX12_checkAllowed := goodIn_ca (goodIn_r _ [20, 21, 22, 1, 23, 24, 25, 13, 26, 27, 28, 81, 82, 83, 84, 85, 86, 87, 88, 89, 90, 91, 92, 93, 94, 95, 96, 97, 98, 99, 100, 101, 102, 103, 104, 105] (by decide +kernel) (by decide +kernel)) (goodIn_sub (fun _ h => List.mem_cons_of_mem _ (List.mem_append_right _ h)) (by decide +kernel))
set_option maxRecDepth 20000 in
theorem gX12_setHeight_X12_checkAllowed : GoodIn wsX12_setHeight (wsV RX12 396 RX12 yX12_checkAllowed wsX12_checkAllowed) := goodIn_app (goodIn_of _ (by decide +kernel)) ggX12_setHeight_X12_checkAllowed
set_option maxRecDepth 20000 in
theorem ggX12_setHeight_X5_heightAt : GoodIn wsX12_setHeight wsX5_heightAt := goodIn_r _ [32, 15, 16, 33, 96, 97, 98, 99, 100, 101, 102, 103, 104, 105] (by decide +kernel) (by decide +kernel)
set_option maxRecDepth 20000 in
theorem gX12_setHeight_X5_heightAt : GoodIn wsX12_setHeight (wsV RX12 275 RX5 yX5_heightAt wsX5_heightAt) := goodIn_app (goodIn_of _ (by decide +kernel)) ggX12_setHeight_X5_heightAt
set_option maxRecDepth 20000 in
theorem ggX12_setHeight_X3_open : GoodIn wsX12_setHeight wsX3_open := goodIn_r _ [38, 39, 40, 41, 42, 43, 13, 44, 15, 16, 28, 45, 27, 46, 47, 48, 49, 50, 51, 52, 53, 54, 55, 56, 57, 33, 106, 107, 108, 96, 97, 98, 99, 100, 101, 102, 103, 104, 105] (by decide +kernel) (by decide +kernel)
set_option maxRecDepth 20000 in
theorem gX12_setHeight_X3_open : GoodIn wsX12_setHeight (wsV RX12 126 RX3 yX3_open wsX3_open) := goodIn_app (goodIn_of _ (by decide +kernel)) ggX12_setHeight_X3_open
set_option maxRecDepth 20000 in
theorem ggX12_setHeight_X5_build : GoodIn wsX12_setHeight wsX5_build := goodIn_r _ [61, 33, 62, 11, 12, 13, 14, 15, 16, 96, 97, 98, 99, 100, 101, 102, 103, 104, 105] (by decide +kernel) (by decide +kernel)
set_option maxRecDepth 20000 in
theorem gX12_setHeight_X5_build : GoodIn wsX12_setHeight (wsV RX12 399 RX5 yX5_build wsX5_build) := goodIn_app (goodIn_of _ (by decide +kernel)) ggX12_setHeight_X5_build
set_option maxRecDepth 20000 in
theorem ggX12_setHeight_X3_close : GoodIn wsX12_setHeight wsX3_close := goodIn_r _ [66, 39, 40, 67, 68, 69, 70, 71, 72, 73, 74, 13, 75, 16, 15, 76, 30, 31, 32, 33, 77, 78, 79, 80, 48, 106, 107, 108, 96, 97, 98, 99, 100, 101, 102, 103, 104, 105] (by decide +kernel) (by decide +kernel)
set_option maxRecDepth 20000 in
theorem gX12_setHeight_X3_close : GoodIn wsX12_setHeight (wsV RX12 139 RX3 yX3_close wsX3_close) := goodIn_app (goodIn_of _ (by decide +kernel)) ggX12_setHeight_X3_close
set_option maxRecDepth 20000 in
theorem ggX12_fill_X12_checkCell : GoodIn wsX12_fill wsX12_checkCell := goodIn_ca (goodIn_r _ [9, 10, 11, 3, 12, 13, 14, 15, 16, 17, 18, 88, 89, 90, 91, 92, 93, 94, 95, 96, 97, 98, 99, 100, 101, 102, 103, 104, 105, 106, 107, 108, 109, 110, 111, 112] (by decide +kernel) (by decide +kernel)) (goodIn_sub (fun _ h => List.mem_cons_of_mem _ (List.mem_append_right _ h)) (by decide +kernel))
set_option maxRecDepth 20000 in
theorem gX12_fill_X12_checkCell : GoodIn wsX12_fill (wsV RX12 268 RX12 yX12_checkCell wsX12_checkCell) := goodIn_app (goodIn_of _ (by decide +kernel)) ggX12_fill_X12_checkCell
set_option maxRecDepth 20000 in
theorem ggX12_fill_X5_fits : GoodIn wsX12_fill wsX5_fits := goodIn_r _ [22, 17, 18, 103, 104, 105, 106, 107, 108, 109, 110, 111, 112] (by decide +kernel) (by decide +kernel)
set_option maxRecDepth 20000 in
theorem gX12_fill_X5_fits : GoodIn wsX12_fill (wsV RX12 220 RX5 yX5_fits wsX5_fits) := goodIn_app (goodIn_of _ (by decide +kernel)) ggX12_fill_X5_fits
set_option maxRecDepth 20000 in
theorem ggX12_fill_X12_checkAllowed : GoodIn wsX12_fill wsX12_checkAllowed := goodIn_ca (goodIn_r _ [26, 1, 2, 3, 27, 28, 29, 15, 30, 31, 32, 88, 89, 90, 91, 92, 93, 94, 95, 96, 97, 98, 99, 100, 101, 102, 103, 104, 105, 106, 107, 108, 109, 110, 111, 112] (by decide +kernel) (by decide +kernel)) (goodIn_sub (fun _ h => List.mem_cons_of_mem _ (List.mem_append_left _ (List.mem_append_right _ h))) (by decide +kernel))
set_option maxRecDepth 20000 in
theorem gX12_fill_X12_checkAllowed : GoodIn wsX12_fill (wsV RX12 396 RX12 yX12_checkAllowed wsX12_checkAllowed) := goodIn_app (goodIn_of _ (by decide +kernel)) ggX12_fill_X12_checkAllowed
set_option maxRecDepth 20000 in
theorem ggX12_fill_X3_open : GoodIn wsX12_fill wsX3_open := goodIn_r _ [37, 38, 39, 40, 41, 42, 15, 43, 17, 18, 32, 44, 31, 45, 46, 47, 48, 49, 50, 51, 52, 53, 54, 55, 56, 57, 113, 114, 115, 103, 104, 105, 106, 107, 108, 109, 110, 111, 112] (by decide +kernel) (by decide +kernel)
set_option maxRecDepth 20000 in
theorem gX12_fill_X3_open : GoodIn wsX12_fill (wsV RX12 126 RX3 yX3_open wsX3_open) := goodIn_app (goodIn_of _ (by decide +kernel)) ggX12_fill_X3_open
set_option maxRecDepth 20000 in
theorem ggX12_fill_X5_cover : GoodIn wsX12_fill wsX5_cover := goodIn_r _ [61, 62, 63, 64, 15, 65, 57, 66, 13, 14, 16, 17, 18, 103, 104, 105, 106, 107, 108, 109, 110, 111, 112] (by decide +kernel) (by decide +kernel)
set_option maxRecDepth 20000 in
theorem gX12_fill_X5_cover : GoodIn wsX12_fill (wsV RX12 226 RX5 yX5_cover wsX5_cover) := goodIn_app (goodIn_of _ (by decide +kernel)) ggX12_fill_X5_cover
set_option maxRecDepth 20000 in
theorem ggX12_fill_X3_close : GoodIn wsX12_fill wsX3_close := goodIn_r _ [70, 38, 39, 71, 72, 73, 74, 75, 76, 77, 78, 15, 79, 18, 17, 80, 81, 82, 83, 57, 84, 85, 86, 87, 47, 113, 114, 115, 103, 104, 105, 106, 107, 108, 109, 110, 111, 112] (by decide +kernel) (by decide +kernel)
set_option maxRecDepth 20000 in
theorem gX12_fill_X3_close : GoodIn wsX12_fill (wsV RX12 139 RX3 yX3_close wsX3_close) := goodIn_app (goodIn_of _ (by decide +kernel)) ggX12_fill_X3_close
set_option maxRecDepth 20000 in
theorem ggX12_checkAllowed_X5_allows : GoodIn wsX12_checkAllowed wsX5_allows := goodIn_r _ [8, 9, 10, 26, 27, 28, 29, 30, 31, 32, 33, 34, 35] (by decide +kernel) (by decide +kernel)
set_option maxRecDepth 20000 in
theorem gX12_checkAllowed_X5_allows : GoodIn wsX12_checkAllowed (wsV RX12 223 RX5 yX5_allows wsX5_allows) := goodIn_app (goodIn_of _ (by decide +kernel)) ggX12_checkAllowed_X5_allows
set_option maxRecDepth 20000 in
theorem ggX12_dither_X3_open : GoodIn wsX12_dither wsX3_open := goodIn_r _ [7, 8, 9, 10, 11, 12, 13, 14, 15, 16, 17, 18, 19, 20, 21, 22, 23, 24, 25, 26, 27, 28, 29, 30, 31, 32, 103, 104, 105, 106, 107, 108, 109, 110, 111, 112, 113, 114, 115] (by decide +kernel) (by decide +kernel)
set_option maxRecDepth 20000 in
theorem gX12_dither_X3_open : GoodIn wsX12_dither (wsV RX12 126 RX3 yX3_open wsX3_open) := goodIn_app (goodIn_of _ (by decide +kernel)) ggX12_dither_X3_open
set_option maxRecDepth 20000 in
theorem ggX12_dither_X2_spread : GoodIn wsX12_dither wsX2_spread := goodIn_r _ [36, 37, 38, 39, 40, 41, 13, 42, 43, 44, 45, 46, 15, 16, 22, 47, 48, 49, 50, 51, 52, 53, 54, 19, 17, 55, 56, 57, 58, 27, 59, 60, 61, 62, 63, 64, 65, 32, 66, 67, 68, 69, 70, 106, 107, 108, 109, 110, 111, 112, 113, 114, 115] (by decide +kernel) (by decide +kernel)
set_option maxRecDepth 20000 in
theorem gX12_dither_X2_spread : GoodIn wsX12_dither (va_wsS RX12 195 yX2_spread wsX2_spread) := goodIn_app (goodIn_of _ (by decide +kernel)) ggX12_dither_X2_spread
set_option maxRecDepth 20000 in
theorem ggX12_dither_X3_close : GoodIn wsX12_dither wsX3_close := goodIn_r _ [74, 8, 9, 75, 76, 77, 78, 79, 80, 81, 82, 13, 83, 16, 15, 84, 85, 86, 87, 32, 43, 44, 45, 46, 22, 103, 104, 105, 106, 107, 108, 109, 110, 111, 112, 113, 114, 115] (by decide +kernel) (by decide +kernel)
set_option maxRecDepth 20000 in
theorem gX12_dither_X3_close : GoodIn wsX12_dither (wsV RX12 139 RX3 yX3_close wsX3_close) := goodIn_app (goodIn_of _ (by decide +kernel)) ggX12_dither_X3_close
set_option maxRecDepth 20000 in
theorem ggX12_polish_X3_open : GoodIn wsX12_polish wsX3_open := goodIn_r _ [7, 8, 9, 10, 11, 12, 13, 14, 15, 16, 17, 18, 19, 20, 21, 22, 23, 24, 25, 26, 27, 28, 29, 30, 31, 32, 114, 115, 116, 117, 118, 119, 120, 121, 122, 123, 124, 125, 126] (by decide +kernel) (by decide +kernel)
set_option maxRecDepth 20000 in
theorem gX12_polish_X3_open : GoodIn wsX12_polish (wsV RX12 126 RX3 yX3_open wsX3_open) := goodIn_app (goodIn_of _ (by decide +kernel)) ggX12_polish_X3_open
set_option maxRecDepth 20000 in
theorem ggX12_polish_X2_refine : GoodIn wsX12_polish wsX2_refine := goodIn_r _ [36, 37, 38, 39, 40, 35, 41, 42, 43, 44, 45, 46, 47, 48, 49, 50, 51, 52, 53, 13, 54, 15, 16, 32, 55, 56, 57, 58, 59, 60, 61, 62, 63, 64, 65, 66, 67, 68, 69, 70, 71, 72, 73, 74, 75, 27, 76, 77, 78, 79, 80, 81, 82, 83, 22, 84, 85, 86, 87, 117, 118, 119, 120, 121, 122, 123, 124, 125, 126] (by decide +kernel) (by decide +kernel)
set_option maxRecDepth 20000 in
theorem gX12_polish_X2_refine : GoodIn wsX12_polish (va_wsS RX12 200 yX2_refine wsX2_refine) := goodIn_app (goodIn_of _ (by decide +kernel)) ggX12_polish_X2_refine
set_option maxRecDepth 20000 in
theorem ggX12_polish_X3_close : GoodIn wsX12_polish wsX3_close := goodIn_r _ [91, 8, 9, 92, 93, 49, 45, 50, 94, 95, 96, 13, 97, 16, 15, 98, 52, 53, 54, 32, 80, 81, 82, 83, 22, 114, 115, 116, 117, 118, 119, 120, 121, 122, 123, 124, 125, 126] (by decide +kernel) (by decide +kernel)
set_option maxRecDepth 20000 in
theorem gX12_polish_X3_close : GoodIn wsX12_polish (wsV RX12 139 RX3 yX3_close wsX3_close) := goodIn_app (goodIn_of _ (by decide +kernel)) ggX12_polish_X3_close
set_option maxRecDepth 20000 in
theorem ggX12_invert_X3_open : GoodIn wsX12_invert wsX3_open := goodIn_r _ [7, 8, 9, 10, 11, 12, 13, 14, 15, 16, 17, 18, 19, 20, 21, 22, 23, 24, 25, 26, 27, 28, 29, 30, 31, 32, 108, 109, 110, 111, 112, 113, 114, 115, 116, 117, 118, 119, 120] (by decide +kernel) (by decide +kernel)
set_option maxRecDepth 20000 in
theorem gX12_invert_X3_open : GoodIn wsX12_invert (wsV RX12 126 RX3 yX3_open wsX3_open) := goodIn_app (goodIn_of _ (by decide +kernel)) ggX12_invert_X3_open
set_option maxRecDepth 20000 in
theorem ggX12_invert_X5_negate : GoodIn wsX12_invert wsX5_negate := goodIn_r _ [36, 16, 15, 37, 38, 39, 13, 40, 22, 41, 42, 43, 44, 45, 46, 47, 48, 49, 50, 51, 52, 53, 54, 55, 56, 57, 58, 59, 60, 61, 62, 63, 64, 19, 17, 65, 66, 67, 68, 27, 69, 70, 71, 72, 73, 74, 75, 32, 111, 112, 113, 114, 115, 116, 117, 118, 119, 120] (by decide +kernel) (by decide +kernel)
set_option maxRecDepth 20000 in
theorem gX12_invert_X5_negate : GoodIn wsX12_invert (wsV RX12 203 RX5 yX5_negate wsX5_negate) := goodIn_app (goodIn_of _ (by decide +kernel)) ggX12_invert_X5_negate
set_option maxRecDepth 20000 in
theorem ggX12_invert_X3_close : GoodIn wsX12_invert wsX3_close := goodIn_r _ [79, 8, 9, 80, 81, 82, 83, 84, 85, 86, 87, 13, 88, 16, 15, 89, 90, 91, 92, 32, 37, 38, 39, 40, 22, 108, 109, 110, 111, 112, 113, 114, 115, 116, 117, 118, 119, 120] (by decide +kernel) (by decide +kernel)
set_option maxRecDepth 20000 in
theorem gX12_invert_X3_close : GoodIn wsX12_invert (wsV RX12 139 RX3 yX3_close wsX3_close) := goodIn_app (goodIn_of _ (by decide +kernel)) ggX12_invert_X3_close
set_option maxRecDepth 20000 in
theorem ggX12_lighten_X3_open : GoodIn wsX12_lighten wsX3_open := goodIn_r _ [9, 10, 11, 12, 13, 14, 15, 16, 17, 18, 19, 20, 21, 22, 23, 24, 25, 26, 27, 28, 29, 30, 31, 32, 33, 34, 114, 115, 116, 117, 118, 119, 120, 121, 122, 123, 124, 125, 126] (by decide +kernel) (by decide +kernel)
set_option maxRecDepth 20000 in
theorem gX12_lighten_X3_open : GoodIn wsX12_lighten (wsV RX12 126 RX3 yX3_open wsX3_open) := goodIn_app (goodIn_of _ (by decide +kernel)) ggX12_lighten_X3_open
set_option maxRecDepth 20000 in
theorem ggX12_lighten_X5_brighten : GoodIn wsX12_lighten wsX5_brighten := goodIn_r _ [38, 18, 17, 39, 40, 41, 42, 43, 44, 45, 46, 47, 48, 15, 49, 24, 50, 51, 52, 53, 54, 55, 56, 57, 58, 59, 60, 61, 62, 63, 64, 65, 66, 67, 68, 69, 70, 71, 72, 73, 21, 19, 74, 75, 76, 77, 29, 78, 79, 80, 81, 82, 83, 84, 34, 117, 118, 119, 120, 121, 122, 123, 124, 125, 126] (by decide +kernel) (by decide +kernel)
set_option maxRecDepth 20000 in
theorem gX12_lighten_X5_brighten : GoodIn wsX12_lighten (wsV RX12 402 RX5 yX5_brighten wsX5_brighten) := goodIn_app (goodIn_of _ (by decide +kernel)) ggX12_lighten_X5_brighten
set_option maxRecDepth 20000 in
theorem ggX12_lighten_X3_close : GoodIn wsX12_lighten wsX3_close := goodIn_r _ [88, 10, 11, 89, 90, 40, 41, 42, 91, 92, 93, 15, 94, 18, 17, 95, 96, 97, 98, 34, 46, 47, 48, 49, 24, 114, 115, 116, 117, 118, 119, 120, 121, 122, 123, 124, 125, 126] (by decide +kernel) (by decide +kernel)
set_option maxRecDepth 20000 in
theorem gX12_lighten_X3_close : GoodIn wsX12_lighten (wsV RX12 139 RX3 yX3_close wsX3_close) := goodIn_app (goodIn_of _ (by decide +kernel)) ggX12_lighten_X3_close
set_option maxRecDepth 20000 in
theorem ggX12_mirror_X3_open : GoodIn wsX12_mirror wsX3_open := goodIn_r _ [7, 8, 9, 10, 11, 12, 13, 14, 15, 16, 17, 18, 19, 20, 21, 22, 23, 24, 25, 26, 27, 28, 29, 30, 31, 32, 89, 90, 91, 92, 93, 94, 95, 96, 97, 98, 99, 100, 101] (by decide +kernel) (by decide +kernel)
set_option maxRecDepth 20000 in
theorem gX12_mirror_X3_open : GoodIn wsX12_mirror (wsV RX12 126 RX3 yX3_open wsX3_open) := goodIn_app (goodIn_of _ (by decide +kernel)) ggX12_mirror_X3_open
set_option maxRecDepth 20000 in
theorem ggX12_mirror_X5_turn : GoodIn wsX12_mirror wsX5_turn := goodIn_r _ [36, 16, 15, 37, 38, 39, 13, 40, 41, 42, 43, 44, 22, 45, 46, 47, 48, 32, 49, 50, 51, 52, 53, 54, 55, 56, 57, 58, 59, 60, 92, 93, 94, 95, 96, 97, 98, 99, 100, 101] (by decide +kernel) (by decide +kernel)
set_option maxRecDepth 20000 in
theorem gX12_mirror_X5_turn : GoodIn wsX12_mirror (wsV RX12 206 RX5 yX5_turn wsX5_turn) := goodIn_app (goodIn_of _ (by decide +kernel)) ggX12_mirror_X5_turn
set_option maxRecDepth 20000 in
theorem ggX12_mirror_X3_close : GoodIn wsX12_mirror wsX3_close := goodIn_r _ [64, 8, 9, 65, 66, 67, 68, 69, 70, 71, 72, 13, 73, 16, 15, 45, 46, 47, 48, 32, 41, 42, 43, 44, 22, 89, 90, 91, 92, 93, 94, 95, 96, 97, 98, 99, 100, 101] (by decide +kernel) (by decide +kernel)
set_option maxRecDepth 20000 in
theorem gX12_mirror_X3_close : GoodIn wsX12_mirror (wsV RX12 139 RX3 yX3_close wsX3_close) := goodIn_app (goodIn_of _ (by decide +kernel)) ggX12_mirror_X3_close
