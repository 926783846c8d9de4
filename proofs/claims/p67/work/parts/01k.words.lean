set_option maxRecDepth 20000 in
theorem ggL_pick_L_cell : GoodIn wsL_pick wsL_cell := goodIn_r _ [5, 6] (by decide +kernel) (by decide +kernel)
set_option maxRecDepth 20000 in
theorem gL_pick_L_cell : GoodIn wsL_pick (va_wsS RL 8 yL_cell wsL_cell) := goodIn_app (goodIn_of _ (by decide +kernel)) ggL_pick_L_cell
set_option maxRecDepth 20000 in
theorem ggL_feeds_J0_length_8abf5 : GoodIn wsL_feeds wsJ0_length_8abf5 := goodIn_r _ [6, 7, 8, 9, 10, 5, 11, 12, 13, 85, 86, 87, 88] (by decide +kernel) (by decide +kernel)
set_option maxRecDepth 20000 in
theorem gL_feeds_J0_length_8abf5 : GoodIn wsL_feeds (wsV RL 15 RJ0 yJ0_length_8abf5 wsJ0_length_8abf5) := goodIn_app (goodIn_of _ (by decide +kernel)) ggL_feeds_J0_length_8abf5
set_option maxRecDepth 20000 in
theorem ggL_feeds_J0_charAt_5068e : GoodIn wsL_feeds wsJ0_charAt_5068e := goodIn_r _ [17, 7, 18, 19, 20, 5, 21, 12, 13, 22, 23, 24, 25, 26, 27, 28, 29, 30, 31, 32, 33, 34, 35, 36, 37, 38, 39, 40, 41, 42, 43, 44, 45, 46, 47, 48, 49, 50, 85, 86, 87, 88] (by decide +kernel) (by decide +kernel)
set_option maxRecDepth 20000 in
theorem gL_feeds_J0_charAt_5068e : GoodIn wsL_feeds (wsV RL 21 RJ0 yJ0_charAt_5068e wsJ0_charAt_5068e) := goodIn_app (goodIn_of _ (by decide +kernel)) ggL_feeds_J0_charAt_5068e
set_option maxRecDepth 20000 in
theorem ggL_feeds_X12_feed : GoodIn wsL_feeds wsX12_feed := goodIn_ca (goodIn_r _ [55, 56, 57, 58, 59, 60, 61, 62, 63, 64, 65, 66, 67, 68, 69, 70, 71, 72, 73, 74, 89, 90, 91, 92, 93, 94, 95, 96, 97, 98, 99, 100, 101, 102, 103, 104, 105, 106, 107, 108, 109, 110, 111, 112, 113, 114] (by decide +kernel) (by decide +kernel)) (goodIn_sub (fun _ h => List.mem_cons_of_mem _ (List.mem_append_left _ (List.mem_append_right _ h))) (by decide +kernel))
set_option maxRecDepth 20000 in
theorem gL_feeds_X12_feed : GoodIn wsL_feeds (wsV RL 25 RX12 yX12_feed wsX12_feed) := goodIn_app (goodIn_of _ (by decide +kernel)) ggL_feeds_X12_feed
set_option maxRecDepth 20000 in
theorem ggL_feeds_J0_isEmpty_aae02 : GoodIn wsL_feeds wsJ0_isEmpty_aae02 := goodIn_r _ [78, 7, 85, 86, 87, 88] (by decide +kernel) (by decide +kernel)
set_option maxRecDepth 20000 in
theorem gL_feeds_J0_isEmpty_aae02 : GoodIn wsL_feeds (wsV RL 31 RJ0 yJ0_isEmpty_aae02 wsJ0_isEmpty_aae02) := goodIn_app (goodIn_of _ (by decide +kernel)) ggL_feeds_J0_isEmpty_aae02
set_option maxRecDepth 20000 in
theorem ggL_feeds_X12_truncate : GoodIn wsL_feeds wsX12_truncate := goodIn_ca (goodIn_r _ [82, 83, 84, 58, 59, 89, 90, 91, 92, 93, 94, 95, 96, 97, 98, 99, 100, 101, 102, 103, 104, 105, 106, 107, 108, 109, 110, 111, 112, 113, 114] (by decide +kernel) (by decide +kernel)) (goodIn_sub (fun _ h => List.mem_cons_of_mem _ (List.mem_append_right _ h)) (by decide +kernel))
set_option maxRecDepth 20000 in
theorem gL_feeds_X12_truncate : GoodIn wsL_feeds (wsV RL 35 RX12 yX12_truncate wsX12_truncate) := goodIn_app (goodIn_of _ (by decide +kernel)) ggL_feeds_X12_truncate
set_option maxRecDepth 20000 in
theorem ggL_acts_L_pick : GoodIn wsL_acts wsL_pick := goodIn_r _ [11, 12, 13, 14, 10, 15, 16] (by decide +kernel) (by decide +kernel)
set_option maxRecDepth 20000 in
theorem gL_acts_L_pick : GoodIn wsL_acts (va_wsS RL 66 yL_pick wsL_pick) := goodIn_app (goodIn_of _ (by decide +kernel)) ggL_acts_L_pick
set_option maxRecDepth 20000 in
theorem ggL_acts_X13_copy : GoodIn wsL_acts wsX13_copy := goodIn_r _ [21, 22, 23, 20, 24, 25, 26, 27, 28, 29, 30, 31, 32, 33, 34, 35, 36, 37, 38, 39, 40, 41, 42, 43, 44, 45, 46, 47, 439, 440, 441, 442, 443, 444, 445, 446, 447, 448, 449, 450, 451] (by decide +kernel) (by decide +kernel)
set_option maxRecDepth 20000 in
theorem gL_acts_X13_copy : GoodIn wsL_acts (wsV RL 76 RX13 yX13_copy wsX13_copy) := goodIn_app (goodIn_of _ (by decide +kernel)) ggL_acts_X13_copy
set_option maxRecDepth 20000 in
theorem ggL_acts_X13_heightFor : GoodIn wsL_acts wsX13_heightFor := goodIn_r _ [51, 28, 26, 52, 53, 54, 20, 55, 27, 56, 57, 58, 59, 60, 61, 62, 63, 64, 65, 66, 67, 68, 439, 440, 441, 442, 443, 444, 445, 446, 447, 448, 449, 450, 451] (by decide +kernel) (by decide +kernel)
set_option maxRecDepth 20000 in
theorem gL_acts_X13_heightFor : GoodIn wsL_acts (wsV RL 81 RX13 yX13_heightFor wsX13_heightFor) := goodIn_app (goodIn_of _ (by decide +kernel)) ggL_acts_X13_heightFor
set_option maxRecDepth 20000 in
theorem ggL_acts_X12_setTone : GoodIn wsL_acts wsX12_setTone := goodIn_ca (goodIn_ca (goodIn_r _ [73, 74, 75, 76, 77, 78, 72, 79, 80, 81, 82, 83, 84, 85, 86, 87, 88, 89, 90, 91, 92, 93, 94, 95, 96, 97, 98, 99, 100, 101, 102, 103, 104, 105, 106, 107, 108, 109, 110, 111, 112, 113, 114, 115, 116, 117, 118, 119, 120, 121, 122, 123, 124, 125, 126, 127, 128, 129, 130, 131, 132, 133, 134, 135, 136, 137, 138, 139, 140, 141, 142, 143, 144, 145, 146, 147, 148, 149, 150, 151, 152, 153, 154, 155, 156, 157, 158, 159, 160, 161, 162, 163, 164, 165, 166, 167, 168, 169, 170, 171, 172, 173, 174, 452, 453, 454, 455, 456, 457, 458, 459, 460, 461, 462, 463, 464, 465, 466, 467, 468, 469, 470, 471, 472, 473, 474, 475, 476, 477, 478, 479] (by decide +kernel) (by decide +kernel)) (goodIn_sub (fun _ h => List.mem_cons_of_mem _ (List.mem_append_left _ (List.mem_append_right _ h))) (by decide +kernel))) (goodIn_sub (fun _ h => List.mem_cons_of_mem _ (List.mem_append_right _ h)) (by decide +kernel))
set_option maxRecDepth 20000 in
theorem gL_acts_X12_setTone : GoodIn wsL_acts (wsV RL 85 RX12 yX12_setTone wsX12_setTone) := goodIn_app (goodIn_of _ (by decide +kernel)) ggL_acts_X12_setTone
set_option maxRecDepth 20000 in
theorem ggL_acts_X12_setHeight : GoodIn wsL_acts wsX12_setHeight := goodIn_ca (goodIn_ca (goodIn_r _ [178, 75, 74, 76, 77, 78, 72, 79, 80, 81, 82, 83, 84, 85, 86, 87, 88, 179, 180, 181, 182, 93, 94, 183, 184, 185, 186, 111, 109, 174, 167, 168, 169, 124, 98, 99, 100, 101, 102, 103, 104, 105, 106, 107, 108, 110, 112, 113, 114, 115, 116, 117, 118, 119, 120, 121, 122, 123, 187, 150, 151, 152, 133, 153, 154, 155, 156, 157, 158, 159, 160, 161, 162, 163, 164, 165, 166, 170, 171, 172, 173, 452, 453, 454, 455, 456, 457, 458, 459, 460, 461, 462, 463, 464, 465, 466, 467, 468, 469, 470, 471, 472, 473, 474, 475, 476, 477, 478, 479] (by decide +kernel) (by decide +kernel)) (goodIn_sub (fun _ h => List.mem_cons_of_mem _ (List.mem_append_left _ (List.mem_append_right _ h))) (by decide +kernel))) (goodIn_sub (fun _ h => List.mem_cons_of_mem _ (List.mem_append_right _ h)) (by decide +kernel))
set_option maxRecDepth 20000 in
theorem gL_acts_X12_setHeight : GoodIn wsL_acts (wsV RL 89 RX12 yX12_setHeight wsX12_setHeight) := goodIn_app (goodIn_of _ (by decide +kernel)) ggL_acts_X12_setHeight
set_option maxRecDepth 20000 in
theorem ggL_acts_X12_fill : GoodIn wsL_acts wsX12_fill := goodIn_ca (goodIn_ca (goodIn_r _ [191, 93, 94, 75, 74, 76, 77, 78, 72, 79, 80, 81, 82, 83, 84, 85, 86, 87, 88, 192, 193, 194, 195, 179, 180, 181, 182, 183, 184, 185, 186, 111, 109, 98, 99, 100, 101, 102, 103, 104, 105, 106, 107, 108, 110, 112, 113, 114, 115, 116, 117, 118, 119, 120, 121, 122, 123, 124, 196, 197, 198, 199, 149, 150, 151, 152, 133, 153, 154, 155, 156, 157, 158, 159, 160, 161, 162, 163, 164, 165, 166, 167, 168, 169, 170, 171, 172, 173, 452, 453, 454, 455, 456, 457, 458, 459, 460, 461, 462, 463, 464, 465, 466, 467, 468, 469, 470, 471, 472, 473, 474, 475, 476, 477, 478, 479] (by decide +kernel) (by decide +kernel)) (goodIn_sub (fun _ h => List.mem_cons_of_mem _ (List.mem_append_right _ h)) (by decide +kernel))) (goodIn_sub (fun _ h => List.mem_cons_of_mem _ (List.mem_append_left _ (List.mem_append_right _ h))) (by decide +kernel))
set_option maxRecDepth 20000 in
theorem gL_acts_X12_fill : GoodIn wsL_acts (wsV RL 92 RX12 yX12_fill wsX12_fill) := goodIn_app (goodIn_of _ (by decide +kernel)) ggL_acts_X12_fill
set_option maxRecDepth 20000 in
theorem ggL_acts_X13_others : GoodIn wsL_acts wsX13_others := goodIn_r _ [203, 25, 24, 33, 439, 440, 441, 442, 443, 444, 445, 446, 447, 448, 449, 450, 451] (by decide +kernel) (by decide +kernel)
set_option maxRecDepth 20000 in
theorem gL_acts_X13_others : GoodIn wsL_acts (wsV RL 95 RX13 yX13_others wsX13_others) := goodIn_app (goodIn_of _ (by decide +kernel)) ggL_acts_X13_others
set_option maxRecDepth 20000 in
theorem ggL_acts_X12_repair : GoodIn wsL_acts wsX12_repair := goodIn_r _ [207, 74, 75, 208, 98, 99, 100, 101, 102, 103, 104, 105, 106, 107, 85, 108, 87, 88, 109, 110, 111, 112, 113, 114, 115, 116, 117, 118, 119, 120, 121, 122, 123, 124, 209, 210, 211, 212, 213, 214, 215, 216, 217, 218, 219, 220, 221, 222, 223, 224, 225, 167, 168, 169, 226, 227, 228, 229, 230, 231, 232, 233, 234, 235, 236, 237, 238, 239, 240, 241, 242, 243, 244, 245, 246, 150, 151, 152, 133, 83, 84, 86, 153, 154, 155, 156, 157, 158, 159, 160, 161, 162, 163, 164, 165, 166, 170, 171, 172, 173, 452, 453, 454, 455, 456, 457, 458, 459, 460, 461, 462, 463, 464, 465, 466, 477, 478, 479, 467, 468, 469, 470, 471, 472, 473, 474, 475, 476, 480] (by decide +kernel) (by decide +kernel)
set_option maxRecDepth 20000 in
theorem gL_acts_X12_repair : GoodIn wsL_acts (wsV RL 99 RX12 yX12_repair wsX12_repair) := goodIn_app (goodIn_of _ (by decide +kernel)) ggL_acts_X12_repair
set_option maxRecDepth 20000 in
theorem ggL_acts_X13_repair : GoodIn wsL_acts wsX13_repair := goodIn_r _ [250, 25, 24, 251, 46, 33, 252, 253, 254, 20, 255, 28, 29, 256, 257, 258, 259, 439, 440, 441, 442, 443, 444, 445, 446, 447, 448, 449, 450, 451] (by decide +kernel) (by decide +kernel)
set_option maxRecDepth 20000 in
theorem gL_acts_X13_repair : GoodIn wsL_acts (wsV RL 102 RX13 yX13_repair wsX13_repair) := goodIn_app (goodIn_of _ (by decide +kernel)) ggL_acts_X13_repair
set_option maxRecDepth 20000 in
theorem ggL_acts_X12_dither : GoodIn wsL_acts wsX12_dither := goodIn_r _ [263, 74, 75, 98, 99, 100, 101, 102, 103, 104, 105, 106, 107, 85, 108, 87, 88, 109, 110, 111, 112, 113, 114, 115, 116, 117, 118, 119, 120, 121, 122, 123, 124, 264, 265, 266, 267, 268, 269, 270, 271, 272, 273, 170, 171, 172, 173, 134, 135, 136, 137, 274, 139, 140, 141, 142, 143, 144, 145, 146, 147, 148, 275, 150, 151, 152, 133, 83, 84, 86, 276, 153, 154, 155, 156, 157, 158, 159, 160, 161, 162, 163, 164, 165, 166, 167, 168, 169, 452, 453, 454, 455, 456, 457, 458, 459, 460, 461, 462, 463, 464, 465, 466, 477, 478, 479, 467, 468, 469, 470, 471, 472, 473, 474, 475, 476] (by decide +kernel) (by decide +kernel)
set_option maxRecDepth 20000 in
theorem gL_acts_X12_dither : GoodIn wsL_acts (wsV RL 103 RX12 yX12_dither wsX12_dither) := goodIn_app (goodIn_of _ (by decide +kernel)) ggL_acts_X12_dither
set_option maxRecDepth 20000 in
theorem ggL_acts_X13_dither : GoodIn wsL_acts wsX13_dither := goodIn_r _ [280, 25, 24, 32, 281, 33, 282, 18, 19, 20, 21, 22, 23, 26, 27, 28, 29, 30, 31, 34, 35, 36, 37, 38, 39, 40, 41, 42, 43, 44, 45, 46, 47, 283, 49, 50, 51, 52, 53, 54, 55, 56, 57, 58, 59, 60, 61, 62, 63, 64, 65, 66, 67, 68, 284, 201, 202, 203, 439, 440, 441, 442, 443, 444, 445, 446, 447, 448, 449, 450, 451] (by decide +kernel) (by decide +kernel)
set_option maxRecDepth 20000 in
theorem gL_acts_X13_dither : GoodIn wsL_acts (wsV RL 106 RX13 yX13_dither wsX13_dither) := goodIn_app (goodIn_of _ (by decide +kernel)) ggL_acts_X13_dither
set_option maxRecDepth 20000 in
theorem ggL_acts_X12_polish : GoodIn wsL_acts wsX12_polish := goodIn_r _ [288, 74, 75, 98, 99, 100, 101, 102, 103, 104, 105, 106, 107, 85, 108, 87, 88, 109, 110, 111, 112, 113, 114, 115, 116, 117, 118, 119, 120, 121, 122, 123, 124, 289, 290, 266, 291, 268, 269, 292, 293, 294, 295, 296, 297, 160, 298, 299, 300, 159, 161, 301, 167, 168, 169, 275, 150, 151, 152, 133, 83, 84, 86, 302, 303, 304, 305, 306, 307, 308, 309, 310, 311, 312, 313, 314, 270, 271, 272, 273, 170, 171, 172, 173, 134, 135, 136, 137, 153, 154, 155, 156, 157, 158, 162, 163, 164, 165, 166, 452, 453, 454, 455, 456, 457, 458, 459, 460, 461, 462, 463, 464, 465, 466, 477, 478, 479, 467, 468, 469, 470, 471, 472, 473, 474, 475, 476] (by decide +kernel) (by decide +kernel)
set_option maxRecDepth 20000 in
theorem gL_acts_X12_polish : GoodIn wsL_acts (wsV RL 107 RX12 yX12_polish wsX12_polish) := goodIn_app (goodIn_of _ (by decide +kernel)) ggL_acts_X12_polish
set_option maxRecDepth 20000 in
theorem ggL_acts_X13_polish : GoodIn wsL_acts wsX13_polish := goodIn_r _ [318, 25, 24, 33, 28, 26, 31, 46, 282, 18, 19, 20, 21, 22, 23, 27, 29, 30, 32, 34, 35, 36, 37, 38, 39, 40, 41, 42, 43, 44, 45, 47, 319, 320, 321, 322, 323, 324, 325, 326, 281, 327, 328, 329, 330, 331, 332, 52, 53, 54, 55, 56, 333, 334, 335, 336, 57, 58, 59, 60, 61, 62, 63, 64, 65, 66, 67, 68, 284, 201, 202, 203, 439, 440, 441, 442, 443, 444, 445, 446, 447, 448, 449, 450, 451] (by decide +kernel) (by decide +kernel)
set_option maxRecDepth 20000 in
theorem gL_acts_X13_polish : GoodIn wsL_acts (wsV RL 110 RX13 yX13_polish wsX13_polish) := goodIn_app (goodIn_of _ (by decide +kernel)) ggL_acts_X13_polish
set_option maxRecDepth 20000 in
theorem ggL_acts_X12_invert : GoodIn wsL_acts wsX12_invert := goodIn_r _ [340, 74, 75, 98, 99, 100, 101, 102, 103, 104, 105, 106, 107, 85, 108, 87, 88, 109, 110, 111, 112, 113, 114, 115, 116, 117, 118, 119, 120, 121, 122, 123, 124, 341, 342, 343, 344, 170, 171, 172, 173, 129, 130, 131, 132, 133, 83, 84, 86, 345, 346, 347, 348, 349, 271, 272, 273, 134, 135, 136, 137, 138, 139, 140, 141, 142, 143, 144, 145, 146, 147, 148, 149, 150, 151, 152, 153, 154, 155, 156, 157, 158, 159, 160, 161, 162, 163, 164, 165, 166, 167, 168, 169, 452, 453, 454, 455, 456, 457, 458, 459, 460, 461, 462, 463, 464, 465, 466, 477, 478, 479, 467, 468, 469, 470, 471, 472, 473, 474, 475, 476] (by decide +kernel) (by decide +kernel)
set_option maxRecDepth 20000 in
theorem gL_acts_X12_invert : GoodIn wsL_acts (wsV RL 111 RX12 yX12_invert wsX12_invert) := goodIn_app (goodIn_of _ (by decide +kernel)) ggL_acts_X12_invert
set_option maxRecDepth 20000 in
theorem ggL_acts_X13_retone : GoodIn wsL_acts wsX13_retone := goodIn_r _ [353, 25, 24, 32, 354, 159, 160, 161, 355, 297, 298, 282, 18, 19, 20, 21, 22, 23, 26, 27, 28, 29, 30, 31, 33, 34, 35, 36, 37, 38, 39, 40, 41, 42, 43, 44, 45, 46, 47, 356, 357, 358, 359, 281, 283, 49, 50, 51, 52, 53, 54, 55, 56, 57, 58, 59, 60, 61, 62, 63, 64, 65, 66, 67, 68, 284, 201, 202, 203, 439, 440, 441, 442, 443, 444, 445, 446, 447, 448, 449, 450, 451] (by decide +kernel) (by decide +kernel)
set_option maxRecDepth 20000 in
theorem gL_acts_X13_retone : GoodIn wsL_acts (wsV RL 114 RX13 yX13_retone wsX13_retone) := goodIn_app (goodIn_of _ (by decide +kernel)) ggL_acts_X13_retone
set_option maxRecDepth 20000 in
theorem ggL_acts_X12_lighten : GoodIn wsL_acts wsX12_lighten := goodIn_ca (goodIn_r _ [363, 93, 94, 74, 75, 98, 99, 100, 101, 102, 103, 104, 105, 106, 107, 85, 108, 87, 88, 109, 110, 111, 112, 113, 114, 115, 116, 117, 118, 119, 120, 121, 122, 123, 124, 364, 365, 366, 367, 368, 159, 160, 161, 369, 297, 298, 170, 171, 172, 173, 129, 130, 131, 132, 133, 83, 84, 86, 345, 346, 347, 348, 349, 271, 272, 273, 134, 135, 136, 137, 138, 139, 140, 141, 142, 143, 144, 145, 146, 147, 148, 149, 150, 151, 152, 153, 154, 155, 156, 157, 158, 162, 163, 164, 165, 166, 167, 168, 169, 452, 453, 454, 455, 456, 457, 458, 459, 460, 461, 462, 463, 464, 465, 466, 477, 478, 479, 467, 468, 469, 470, 471, 472, 473, 474, 475, 476] (by decide +kernel) (by decide +kernel)) (goodIn_sub (fun _ h => List.mem_cons_of_mem _ (List.mem_append_right _ h)) (by decide +kernel))
set_option maxRecDepth 20000 in
theorem gL_acts_X12_lighten : GoodIn wsL_acts (wsV RL 117 RX12 yX12_lighten wsX12_lighten) := goodIn_app (goodIn_of _ (by decide +kernel)) ggL_acts_X12_lighten
set_option maxRecDepth 20000 in
theorem ggL_acts_X12_mirror : GoodIn wsL_acts wsX12_mirror := goodIn_r _ [373, 74, 75, 98, 99, 100, 101, 102, 103, 104, 105, 106, 107, 85, 108, 87, 88, 109, 110, 111, 112, 113, 114, 115, 116, 117, 118, 119, 120, 121, 122, 123, 124, 374, 375, 376, 377, 378, 379, 380, 381, 170, 171, 172, 173, 166, 167, 168, 169, 129, 130, 131, 132, 133, 83, 84, 86, 149, 150, 151, 152, 153, 154, 155, 156, 157, 158, 159, 160, 161, 162, 163, 164, 165, 452, 453, 454, 455, 456, 457, 458, 459, 460, 461, 462, 463, 464, 465, 466, 477, 478, 479, 467, 468, 469, 470, 471, 472, 473, 474, 475, 476] (by decide +kernel) (by decide +kernel)
set_option maxRecDepth 20000 in
theorem gL_acts_X12_mirror : GoodIn wsL_acts (wsV RL 120 RX12 yX12_mirror wsX12_mirror) := goodIn_app (goodIn_of _ (by decide +kernel)) ggL_acts_X12_mirror
set_option maxRecDepth 20000 in
theorem ggL_acts_X13_mirror : GoodIn wsL_acts wsX13_mirror := goodIn_r _ [385, 25, 24, 33, 32, 282, 18, 19, 20, 21, 22, 23, 26, 27, 28, 29, 30, 31, 34, 35, 36, 37, 38, 39, 40, 41, 42, 43, 44, 45, 46, 47, 284, 201, 202, 203, 439, 440, 441, 442, 443, 444, 445, 446, 447, 448, 449, 450, 451] (by decide +kernel) (by decide +kernel)
set_option maxRecDepth 20000 in
theorem gL_acts_X13_mirror : GoodIn wsL_acts (wsV RL 123 RX13 yX13_mirror wsX13_mirror) := goodIn_app (goodIn_of _ (by decide +kernel)) ggL_acts_X13_mirror
set_option maxRecDepth 20000 in
theorem ggL_acts_X12_ease : GoodIn wsL_acts wsX12_ease := goodIn_r _ [389, 74, 75, 98, 99, 100, 101, 102, 103, 104, 105, 106, 107, 85, 108, 87, 88, 109, 110, 111, 112, 113, 114, 115, 116, 117, 118, 119, 120, 121, 122, 123, 124, 390, 391, 392, 393, 394, 395, 396, 167, 168, 169, 397, 398, 399, 400, 401, 297, 160, 298, 402, 150, 151, 152, 133, 83, 84, 86, 153, 154, 155, 156, 157, 158, 159, 161, 162, 163, 164, 165, 166, 170, 171, 172, 173, 452, 453, 454, 455, 456, 457, 458, 459, 460, 461, 462, 463, 464, 465, 466, 477, 478, 479, 467, 468, 469, 470, 471, 472, 473, 474, 475, 476] (by decide +kernel) (by decide +kernel)
set_option maxRecDepth 20000 in
theorem gL_acts_X12_ease : GoodIn wsL_acts (wsV RL 124 RX12 yX12_ease wsX12_ease) := goodIn_app (goodIn_of _ (by decide +kernel)) ggL_acts_X12_ease
set_option maxRecDepth 20000 in
theorem ggL_acts_X13_ease : GoodIn wsL_acts wsX13_ease := goodIn_r _ [406, 25, 24, 33, 30, 282, 18, 19, 20, 21, 22, 23, 26, 27, 28, 29, 31, 32, 34, 35, 36, 37, 38, 39, 40, 41, 42, 43, 44, 45, 46, 47, 407, 408, 409, 410, 355, 297, 160, 298, 284, 201, 202, 203, 439, 440, 441, 442, 443, 444, 445, 446, 447, 448, 449, 450, 451] (by decide +kernel) (by decide +kernel)
set_option maxRecDepth 20000 in
theorem gL_acts_X13_ease : GoodIn wsL_acts (wsV RL 127 RX13 yX13_ease wsX13_ease) := goodIn_app (goodIn_of _ (by decide +kernel)) ggL_acts_X13_ease
set_option maxRecDepth 20000 in
theorem ggL_acts_X12_smooth : GoodIn wsL_acts wsX12_smooth := goodIn_ca (goodIn_r _ [414, 93, 94, 74, 75, 415, 416, 417, 212, 418, 98, 99, 100, 101, 102, 103, 104, 105, 106, 107, 85, 108, 87, 88, 109, 110, 111, 112, 113, 114, 115, 116, 117, 118, 119, 120, 121, 122, 123, 124, 419, 420, 421, 218, 219, 422, 423, 424, 425, 426, 297, 160, 298, 427, 83, 84, 86, 225, 167, 168, 169, 246, 150, 151, 152, 133, 428, 429, 430, 431, 166, 153, 154, 155, 156, 157, 158, 159, 161, 162, 163, 164, 165, 170, 171, 172, 173, 452, 453, 454, 455, 456, 457, 458, 459, 460, 461, 462, 463, 464, 465, 466, 477, 478, 479, 467, 468, 469, 470, 471, 472, 473, 474, 475, 476] (by decide +kernel) (by decide +kernel)) (goodIn_sub (fun _ h => List.mem_cons_of_mem _ (List.mem_append_right _ h)) (by decide +kernel))
set_option maxRecDepth 20000 in
theorem gL_acts_X12_smooth : GoodIn wsL_acts (wsV RL 128 RX12 yX12_smooth wsX12_smooth) := goodIn_app (goodIn_of _ (by decide +kernel)) ggL_acts_X12_smooth
set_option maxRecDepth 20000 in
theorem ggL_acts_X13_smooth : GoodIn wsL_acts wsX13_smooth := goodIn_r _ [435, 25, 24, 33, 436, 437, 160, 438, 355, 297, 298, 282, 18, 19, 20, 21, 22, 23, 26, 27, 28, 29, 30, 31, 32, 34, 35, 36, 37, 38, 39, 40, 41, 42, 43, 44, 45, 46, 47, 284, 201, 202, 203, 439, 440, 441, 442, 443, 444, 445, 446, 447, 448, 449, 450, 451] (by decide +kernel) (by decide +kernel)
set_option maxRecDepth 20000 in
theorem gL_acts_X13_smooth : GoodIn wsL_acts (wsV RL 131 RX13 yX13_smooth wsX13_smooth) := goodIn_app (goodIn_of _ (by decide +kernel)) ggL_acts_X13_smooth
set_option maxRecDepth 20000 in
theorem ggL_volumes_X12_layerCells : GoodIn wsL_volumes wsX12_layerCells := goodIn_ca (goodIn_r _ [8, 9, 10, 11, 12, 7, 13, 14, 15, 16, 17, 18, 19, 20, 21, 22, 23, 24, 25, 26, 27, 28, 29, 30, 31, 32, 33, 154, 155, 156, 157, 158, 159, 160, 161, 162, 163, 164, 165, 166, 167, 168, 169, 170, 171, 172, 173, 174, 175, 176, 177, 178, 179, 180, 181, 182] (by decide +kernel) (by decide +kernel)) (goodIn_sub (fun _ h => List.mem_cons_of_mem _ (List.mem_append_right _ h)) (by decide +kernel))
set_option maxRecDepth 20000 in
theorem gL_volumes_X12_layerCells : GoodIn wsL_volumes (wsV RL 185 RX12 yX12_layerCells wsX12_layerCells) := goodIn_app (goodIn_of _ (by decide +kernel)) ggL_volumes_X12_layerCells
set_option maxRecDepth 20000 in
theorem ggL_volumes_X12_rectangles : GoodIn wsL_volumes wsX12_rectangles := goodIn_ca (goodIn_r _ [37, 9, 10, 11, 12, 7, 13, 14, 15, 16, 17, 38, 39, 40, 21, 41, 23, 25, 24, 42, 43, 44, 45, 46, 47, 48, 49, 50, 51, 52, 53, 26, 27, 28, 29, 30, 31, 32, 33, 54, 55, 56, 57, 58, 59, 60, 61, 154, 155, 156, 157, 158, 159, 160, 161, 162, 163, 164, 165, 166, 167, 168, 169, 170, 171, 172, 173, 174, 175, 176, 177, 178, 179, 180, 181, 182] (by decide +kernel) (by decide +kernel)) (goodIn_sub (fun _ h => List.mem_cons_of_mem _ (List.mem_append_right _ h)) (by decide +kernel))
set_option maxRecDepth 20000 in
theorem gL_volumes_X12_rectangles : GoodIn wsL_volumes (wsV RL 188 RX12 yX12_rectangles wsX12_rectangles) := goodIn_app (goodIn_of _ (by decide +kernel)) ggL_volumes_X12_rectangles
set_option maxRecDepth 20000 in
theorem ggL_volumes_X12_runs : GoodIn wsL_volumes wsX12_runs := goodIn_ca (goodIn_r _ [65, 9, 10, 11, 12, 7, 13, 14, 15, 16, 17, 66, 67, 68, 21, 69, 23, 24, 25, 50, 51, 52, 53, 26, 27, 28, 29, 30, 31, 32, 33, 154, 155, 156, 157, 158, 159, 160, 161, 162, 163, 164, 165, 166, 167, 168, 169, 170, 171, 172, 173, 174, 175, 176, 177, 178, 179, 180, 181, 182] (by decide +kernel) (by decide +kernel)) (goodIn_sub (fun _ h => List.mem_cons_of_mem _ (List.mem_append_right _ h)) (by decide +kernel))
set_option maxRecDepth 20000 in
theorem gL_volumes_X12_runs : GoodIn wsL_volumes (wsV RL 191 RX12 yX12_runs wsX12_runs) := goodIn_app (goodIn_of _ (by decide +kernel)) ggL_volumes_X12_runs
set_option maxRecDepth 20000 in
theorem ggL_volumes_X12_parts : GoodIn wsL_volumes wsX12_parts := goodIn_ca (goodIn_r _ [73, 9, 10, 11, 12, 7, 13, 14, 15, 16, 17, 74, 75, 76, 21, 77, 78, 79, 80, 81, 82, 23, 24, 25, 26, 27, 28, 29, 30, 31, 32, 33, 83, 84, 85, 86, 87, 88, 89, 90, 91, 92, 93, 94, 95, 96, 97, 98, 99, 100, 101, 102, 103, 104, 154, 155, 156, 157, 158, 159, 160, 161, 162, 163, 164, 165, 166, 167, 168, 169, 170, 171, 172, 173, 174, 175, 176, 177, 178, 179, 180, 181, 182] (by decide +kernel) (by decide +kernel)) (goodIn_sub (fun _ h => List.mem_cons_of_mem _ (List.mem_append_right _ h)) (by decide +kernel))
set_option maxRecDepth 20000 in
theorem gL_volumes_X12_parts : GoodIn wsL_volumes (wsV RL 194 RX12 yX12_parts wsX12_parts) := goodIn_app (goodIn_of _ (by decide +kernel)) ggL_volumes_X12_parts
set_option maxRecDepth 20000 in
theorem ggL_volumes_X12_outline : GoodIn wsL_volumes wsX12_outline := goodIn_ca (goodIn_r _ [108, 9, 10, 11, 12, 7, 13, 14, 15, 16, 17, 109, 110, 111, 21, 112, 23, 24, 25, 26, 27, 28, 29, 30, 31, 32, 33, 113, 114, 115, 116, 154, 155, 156, 157, 158, 159, 160, 161, 162, 163, 164, 165, 166, 167, 168, 169, 170, 171, 172, 173, 174, 175, 176, 177, 178, 179, 180, 181, 182] (by decide +kernel) (by decide +kernel)) (goodIn_sub (fun _ h => List.mem_cons_of_mem _ (List.mem_append_right _ h)) (by decide +kernel))
set_option maxRecDepth 20000 in
theorem gL_volumes_X12_outline : GoodIn wsL_volumes (wsV RL 197 RX12 yX12_outline wsX12_outline) := goodIn_app (goodIn_of _ (by decide +kernel)) ggL_volumes_X12_outline
set_option maxRecDepth 20000 in
theorem ggL_volumes_X12_cellsOf : GoodIn wsL_volumes wsX12_cellsOf := goodIn_ca (goodIn_r _ [120, 16, 121, 122, 123, 7, 124, 14, 15, 17, 125, 126, 127, 29, 128, 32, 31, 129, 130, 131, 132, 33, 154, 155, 156, 157, 158, 159, 160, 161, 162, 163, 164, 165, 166, 167, 168, 169, 170, 171, 172, 173, 174, 175, 176, 177, 178] (by decide +kernel) (by decide +kernel)) (goodIn_sub (fun _ h => List.mem_cons_of_mem _ (List.mem_append_right _ h)) (by decide +kernel))
set_option maxRecDepth 20000 in
theorem gL_volumes_X12_cellsOf : GoodIn wsL_volumes (wsV RL 200 RX12 yX12_cellsOf wsX12_cellsOf) := goodIn_app (goodIn_of _ (by decide +kernel)) ggL_volumes_X12_cellsOf
set_option maxRecDepth 20000 in
theorem ggL_volumes_X12_volume : GoodIn wsL_volumes wsX12_volume := goodIn_r _ [136, 16, 137, 138, 139, 29, 140, 32, 31, 129, 130, 131, 132, 33, 154, 155, 156, 157, 158, 159, 160, 161, 162, 163, 164, 165, 166, 167, 168, 169, 170, 171, 172, 173, 174, 175, 176, 177, 178] (by decide +kernel) (by decide +kernel)
set_option maxRecDepth 20000 in
theorem gL_volumes_X12_volume : GoodIn wsL_volumes (wsV RL 62 RX12 yX12_volume wsX12_volume) := goodIn_app (goodIn_of _ (by decide +kernel)) ggL_volumes_X12_volume
set_option maxRecDepth 20000 in
theorem ggL_tones_X12_invert : GoodIn wsL_tones wsX12_invert := goodIn_r _ [8, 9, 10, 11, 12, 13, 14, 15, 16, 17, 18, 19, 20, 21, 22, 23, 24, 25, 26, 27, 28, 29, 30, 31, 32, 33, 34, 35, 36, 37, 38, 39, 40, 41, 42, 43, 44, 45, 46, 47, 48, 49, 50, 51, 52, 53, 54, 55, 56, 57, 58, 59, 60, 61, 62, 63, 64, 65, 66, 67, 68, 69, 70, 71, 72, 73, 74, 75, 76, 77, 78, 79, 80, 81, 82, 83, 84, 85, 86, 87, 88, 89, 90, 91, 92, 93, 94, 95, 96, 97, 98, 99, 100, 146, 147, 148, 149, 150, 151, 152, 153, 154, 155, 156, 157, 158, 159, 160, 161, 162, 163, 164, 165, 166, 167, 168, 169, 170, 171, 172, 173] (by decide +kernel) (by decide +kernel)
set_option maxRecDepth 20000 in
theorem gL_tones_X12_invert : GoodIn wsL_tones (wsV RL 111 RX12 yX12_invert wsX12_invert) := goodIn_app (goodIn_of _ (by decide +kernel)) ggL_tones_X12_invert
set_option maxRecDepth 20000 in
theorem ggL_tones_X12_height : GoodIn wsL_tones wsX12_height := goodIn_ca (goodIn_r _ [104, 10, 105, 106, 107, 7, 108, 109, 110, 111, 54, 55, 21, 56, 23, 24, 112, 98, 99, 100, 40, 146, 147, 148, 149, 150, 151, 152, 153, 154, 155, 156, 157, 158, 159, 160, 164, 165, 166, 167, 168, 169, 170, 171, 172, 173] (by decide +kernel) (by decide +kernel)) (goodIn_sub (fun _ h => List.mem_cons_of_mem _ (List.mem_append_left _ (List.mem_append_right _ h))) (by decide +kernel))
set_option maxRecDepth 20000 in
theorem gL_tones_X12_height : GoodIn wsL_tones (wsV RL 56 RX12 yX12_height wsX12_height) := goodIn_app (goodIn_of _ (by decide +kernel)) ggL_tones_X12_height
set_option maxRecDepth 20000 in
theorem ggL_tones_X12_tone : GoodIn wsL_tones wsX12_tone := goodIn_ca (goodIn_r _ [116, 10, 105, 106, 107, 7, 108, 109, 110, 111, 54, 55, 21, 56, 23, 24, 117, 46, 47, 48, 30, 146, 147, 148, 149, 150, 151, 152, 153, 154, 155, 156, 157, 158, 159, 160, 164, 165, 166, 167, 168, 169, 170, 171, 172, 173] (by decide +kernel) (by decide +kernel)) (goodIn_sub (fun _ h => List.mem_cons_of_mem _ (List.mem_append_left _ (List.mem_append_right _ h))) (by decide +kernel))
set_option maxRecDepth 20000 in
theorem gL_tones_X12_tone : GoodIn wsL_tones (wsV RL 48 RX12 yX12_tone wsX12_tone) := goodIn_app (goodIn_of _ (by decide +kernel)) ggL_tones_X12_tone
set_option maxRecDepth 20000 in
theorem ggL_tones_X12_heightFor : GoodIn wsL_tones wsX12_heightFor := goodIn_ca (goodIn_r _ [121, 10, 122, 123, 124, 7, 125, 126, 127, 128, 129, 21, 130, 131, 66, 67, 68, 132, 70, 71, 72, 27, 25, 73, 74, 75, 76, 35, 77, 78, 79, 146, 147, 148, 149, 150, 151, 152, 153, 154, 155, 156, 157, 158, 159, 160, 164, 165, 166, 167, 168, 169, 170, 171, 172, 173] (by decide +kernel) (by decide +kernel)) (goodIn_sub (fun _ h => List.mem_cons_of_mem _ (List.mem_append_right _ h)) (by decide +kernel))
set_option maxRecDepth 20000 in
theorem gL_tones_X12_heightFor : GoodIn wsL_tones (wsV RL 203 RX12 yX12_heightFor wsX12_heightFor) := goodIn_app (goodIn_of _ (by decide +kernel)) ggL_tones_X12_heightFor
