set_option maxRecDepth 20000 in
theorem ggX13_next_L_pick : GoodIn wsX13_next wsL_pick := goodIn_r _ [5, 6, 7, 8, 4, 9, 10] (by decide +kernel) (by decide +kernel)
set_option maxRecDepth 20000 in
theorem gX13_next_L_pick_n52 : GoodIn wsX13_next (wsL_pick) := ggX13_next_L_pick
set_option maxRecDepth 20000 in
theorem ggX13_end_J4_append_15ec4 : GoodIn wsX13_end wsJ4_append_15ec4 := goodIn_r _ [6, 7, 8, 9, 10, 11, 12, 13, 14, 15, 16, 17, 18, 19, 20, 21, 22, 23, 24, 25, 26, 27, 28, 29, 30, 31, 32, 33, 34, 35, 36, 37, 38, 39, 40, 41, 42, 43, 44, 45, 46, 47, 48, 49, 50, 51, 52, 53, 54, 55, 56, 57, 58, 59, 60, 61, 62, 63, 64, 65, 66, 67, 68, 69, 70, 71, 72, 73, 74, 75, 76, 77, 78, 79, 80, 81, 82, 83, 84, 85, 86, 87, 88, 89, 90, 91, 92, 93, 94, 95, 96, 97, 98, 99, 100, 101, 102, 103, 104, 105, 106, 107, 108, 109, 110, 111, 112, 113, 114, 115, 116, 117, 118, 119, 120, 121, 122, 123, 124, 125, 126, 127, 128, 129, 130, 131, 132, 133, 134, 135, 136, 137, 138, 139, 140, 141, 142, 143, 144, 145, 146, 147, 148, 162, 163, 164, 165, 166, 167, 168, 169] (by decide +kernel) (by decide +kernel)
set_option maxRecDepth 20000 in
theorem gX13_end_J4_append_15ec4 : GoodIn wsX13_end (wsV RX13 65 RJ4 yJ4_append_15ec4 wsJ4_append_15ec4) := goodIn_app (goodIn_of _ (by decide +kernel)) ggX13_end_J4_append_15ec4
set_option maxRecDepth 20000 in
theorem ggX13_grown_X13_init : GoodIn wsX13_grown wsX13_init := goodIn_r _ [26, 27, 28, 29, 8, 9, 15, 16, 21, 10, 22, 30, 13, 14, 23, 12, 4, 324, 325, 326, 327, 328, 329, 330, 331, 332, 333, 334, 335, 336] (by decide +kernel) (by decide +kernel)
set_option maxRecDepth 20000 in
theorem gX13_grown_X13_init : GoodIn wsX13_grown (wsX13_init) := ggX13_grown_X13_init
set_option maxRecDepth 20000 in
theorem ggX13_grown_J4_init_da8c8 : GoodIn wsX13_grown wsJ4_init_da8c8 := goodIn_r _ [33, 34, 35, 36, 37, 38, 28, 29, 39, 40, 41, 42, 43, 44, 45, 46, 47, 48, 49, 50, 337, 338, 339, 340] (by decide +kernel) (by decide +kernel)
set_option maxRecDepth 20000 in
theorem gX13_grown_J4_init_da8c8 : GoodIn wsX13_grown (wsJ4_init_da8c8) := ggX13_grown_J4_init_da8c8
set_option maxRecDepth 20000 in
theorem ggX13_grown_X13_next : GoodIn wsX13_grown wsX13_next := goodIn_r _ [54, 55, 4, 56, 57, 58, 59, 60, 61, 62, 63, 324, 325, 326, 327, 328, 329, 330, 331, 332, 333, 334, 335, 336] (by decide +kernel) (by decide +kernel)
set_option maxRecDepth 20000 in
theorem gX13_grown_X13_next : GoodIn wsX13_grown (wsV RX13 73 RX13 yX13_next wsX13_next) := goodIn_app (goodIn_of _ (by decide +kernel)) ggX13_grown_X13_next
set_option maxRecDepth 20000 in
theorem ggX13_grown_J4_append_15ec4 : GoodIn wsX13_grown wsJ4_append_15ec4 := goodIn_r _ [67, 68, 69, 70, 71, 36, 72, 73, 74, 75, 76, 77, 78, 41, 79, 80, 81, 82, 83, 42, 84, 85, 86, 87, 88, 89, 90, 91, 92, 93, 94, 95, 19, 96, 97, 98, 99, 100, 101, 102, 103, 104, 105, 106, 107, 108, 109, 110, 40, 111, 18, 20, 112, 113, 114, 115, 116, 117, 118, 119, 120, 39, 121, 122, 45, 123, 124, 125, 126, 127, 128, 129, 130, 131, 132, 133, 134, 135, 136, 137, 138, 139, 140, 141, 142, 143, 144, 145, 146, 147, 148, 149, 150, 151, 152, 153, 154, 155, 156, 157, 158, 159, 160, 161, 162, 163, 164, 165, 166, 167, 168, 169, 170, 171, 43, 44, 46, 47, 48, 49, 50, 172, 173, 174, 175, 176, 177, 178, 179, 180, 181, 182, 183, 184, 185, 186, 187, 188, 189, 190, 191, 192, 193, 337, 338, 339, 340, 341, 342, 343, 344] (by decide +kernel) (by decide +kernel)
set_option maxRecDepth 20000 in
theorem gX13_grown_J4_append_15ec4 : GoodIn wsX13_grown (wsV RX13 65 RJ4 yJ4_append_15ec4 wsJ4_append_15ec4) := goodIn_app (goodIn_of _ (by decide +kernel)) ggX13_grown_J4_append_15ec4
set_option maxRecDepth 20000 in
theorem ggX13_grown_J4_append_bf812 : GoodIn wsX13_grown wsJ4_append_bf812 := goodIn_r _ [197, 198, 199, 70, 200, 36, 201, 73, 41, 202, 203, 204, 205, 79, 80, 81, 82, 83, 42, 84, 85, 86, 87, 88, 89, 90, 91, 92, 93, 94, 95, 19, 96, 97, 98, 99, 100, 101, 102, 103, 104, 105, 106, 107, 108, 109, 110, 40, 111, 18, 20, 112, 113, 114, 115, 116, 117, 118, 119, 120, 39, 206, 207, 208, 209, 210, 211, 212, 45, 213, 124, 125, 126, 127, 128, 129, 130, 131, 132, 133, 134, 135, 136, 137, 138, 139, 214, 215, 216, 217, 218, 140, 141, 142, 143, 144, 337, 338, 339, 340] (by decide +kernel) (by decide +kernel)
set_option maxRecDepth 20000 in
theorem gX13_grown_J4_append_bf812 : GoodIn wsX13_grown (wsV RX13 79 RJ4 yJ4_append_bf812 wsJ4_append_bf812) := goodIn_app (goodIn_of _ (by decide +kernel)) ggX13_grown_J4_append_bf812
set_option maxRecDepth 20000 in
theorem ggX13_grown_X13_end : GoodIn wsX13_grown wsX13_end := goodIn_r _ [222, 223, 64, 65, 66, 7, 67, 68, 69, 70, 71, 36, 72, 73, 74, 75, 76, 77, 78, 41, 79, 80, 81, 82, 83, 42, 84, 85, 86, 87, 88, 89, 90, 91, 92, 93, 94, 95, 19, 96, 97, 98, 99, 100, 101, 102, 103, 104, 105, 106, 107, 108, 109, 110, 40, 111, 18, 20, 112, 113, 114, 115, 116, 117, 118, 119, 120, 39, 121, 122, 45, 123, 124, 125, 126, 127, 128, 129, 130, 131, 132, 133, 134, 135, 136, 137, 138, 139, 140, 141, 142, 143, 144, 145, 146, 147, 148, 149, 150, 151, 152, 153, 154, 155, 156, 157, 158, 159, 160, 161, 162, 163, 164, 165, 166, 167, 168, 169, 170, 171, 43, 44, 46, 47, 48, 49, 50, 172, 173, 174, 175, 176, 177, 178, 179, 180, 181, 182, 183, 184, 185, 186, 187, 188, 189, 190, 191, 192, 193, 324, 325, 326, 327, 328, 329, 330, 331, 332, 333, 334, 335, 336, 337, 338, 339, 340, 341, 342, 343, 344] (by decide +kernel) (by decide +kernel)
set_option maxRecDepth 20000 in
theorem gX13_grown_X13_end : GoodIn wsX13_grown (wsV RX13 84 RX13 yX13_end wsX13_end) := goodIn_app (goodIn_of _ (by decide +kernel)) ggX13_grown_X13_end
set_option maxRecDepth 20000 in
theorem ggX13_grown_J4_append_cf468 : GoodIn wsX13_grown wsJ4_append_cf468 := goodIn_r _ [227, 228, 229, 70, 230, 36, 231, 73, 41, 79, 80, 81, 82, 83, 42, 84, 85, 86, 87, 88, 89, 90, 91, 92, 93, 94, 95, 19, 96, 97, 98, 99, 100, 101, 102, 103, 104, 105, 106, 107, 108, 109, 110, 40, 111, 18, 20, 112, 113, 114, 115, 116, 117, 118, 119, 120, 39, 232, 233, 174, 234, 167, 168, 169, 170, 171, 43, 44, 45, 46, 47, 48, 49, 50, 172, 173, 175, 176, 177, 178, 179, 180, 181, 128, 129, 130, 182, 183, 133, 184, 135, 185, 186, 138, 187, 140, 141, 142, 124, 143, 144, 235, 236, 237, 238, 239, 240, 241, 242, 243, 244, 245, 246, 337, 338, 339, 340] (by decide +kernel) (by decide +kernel)
set_option maxRecDepth 20000 in
theorem gX13_grown_J4_append_cf468 : GoodIn wsX13_grown (wsV RX13 93 RJ4 yJ4_append_cf468 wsJ4_append_cf468) := goodIn_app (goodIn_of _ (by decide +kernel)) ggX13_grown_J4_append_cf468
set_option maxRecDepth 20000 in
theorem ggX13_grown_J4_toString_0e30d : GoodIn wsX13_grown wsJ4_toString_0e30d := goodIn_r _ [250, 251, 252, 133, 253, 254, 255, 256, 257, 258, 259, 28, 29, 155, 149, 154, 260, 261, 262, 263, 264, 36, 265, 41, 266, 267, 268, 269, 270, 7, 271, 272, 70, 273, 274, 73, 275, 117, 118, 119, 120, 39, 42, 276, 277, 103, 278, 105, 106, 107, 108, 109, 110, 279, 280, 281, 40, 111, 18, 19, 20, 112, 113, 114, 115, 282, 283, 284, 285, 286, 45, 287, 288, 289, 290, 179, 180, 181, 128, 129, 130, 182, 183, 184, 135, 185, 186, 138, 187, 291, 292, 293, 124, 143, 144, 47, 48, 49, 50, 294, 295, 296, 297, 341, 342, 343, 344, 337, 338, 339, 340] (by decide +kernel) (by decide +kernel)
set_option maxRecDepth 20000 in
theorem gX13_grown_J4_toString_0e30d : GoodIn wsX13_grown (wsV RX13 110 RJ4 yJ4_toString_0e30d wsJ4_toString_0e30d) := goodIn_app (goodIn_of _ (by decide +kernel)) ggX13_grown_J4_toString_0e30d
set_option maxRecDepth 20000 in
theorem ggX13_grown_X13_relights : GoodIn wsX13_grown wsX13_relights := goodIn_r _ [301, 9, 8, 14, 13, 302, 303, 304, 305, 3, 306, 21, 15, 307, 308, 309, 310, 16, 311, 312, 313, 314, 315, 316, 317, 318, 319, 320, 321, 322, 323, 324, 325, 326, 327, 328, 329, 330, 331, 332, 333, 334, 335, 336] (by decide +kernel) (by decide +kernel)
set_option maxRecDepth 20000 in
theorem gX13_grown_X13_relights : GoodIn wsX13_grown (wsV RX13 114 RX13 yX13_relights wsX13_relights) := goodIn_app (goodIn_of _ (by decide +kernel)) ggX13_grown_X13_relights
set_option maxRecDepth 20000 in
theorem ggX13_copy_X13_init : GoodIn wsX13_copy wsX13_init := goodIn_r _ [21, 22, 23, 24, 4, 5, 6, 7, 8, 9, 10, 11, 12, 13, 25, 26, 27, 28, 29, 30, 31, 32, 33, 34, 35, 36, 37, 38, 39, 40] (by decide +kernel) (by decide +kernel)
set_option maxRecDepth 20000 in
theorem gX13_copy_X13_init : GoodIn wsX13_copy (wsX13_init) := ggX13_copy_X13_init
set_option maxRecDepth 20000 in
theorem ggX13_relights_X13_heightFor : GoodIn wsX13_relights wsX13_heightFor := goodIn_r _ [10, 11, 12, 13, 14, 15, 9, 16, 17, 18, 19, 20, 21, 22, 23, 24, 25, 26, 27, 28, 29, 30, 31, 32, 33, 34, 35, 36, 37, 38, 39, 40, 41, 42, 43] (by decide +kernel) (by decide +kernel)
set_option maxRecDepth 20000 in
theorem gX13_relights_X13_heightFor : GoodIn wsX13_relights (wsV RX13 122 RX13 yX13_heightFor wsX13_heightFor) := goodIn_app (goodIn_of _ (by decide +kernel)) ggX13_relights_X13_heightFor
set_option maxRecDepth 20000 in
theorem ggX13_light_X13_light : GoodIn wsX13_light wsX13_light := goodIn_r _ [0, 1, 2, 3, 4, 5, 6, 7, 8, 9, 10, 11, 12, 13, 14, 15, 16, 17, 18, 19] (by decide +kernel) (by decide +kernel)
set_option maxRecDepth 20000 in
theorem gX13_light_X13_light : GoodIn wsX13_light (wsV RX13 126 RX13 yX13_light wsX13_light) := goodIn_app (goodIn_of _ (by decide +kernel)) ggX13_light_X13_light
set_option maxRecDepth 20000 in
theorem ggX13_heightFor_X13_light : GoodIn wsX13_heightFor wsX13_light := goodIn_r _ [7, 8, 9, 3, 4, 5, 6, 22, 23, 24, 25, 26, 27, 28, 29, 30, 31, 32, 33, 34] (by decide +kernel) (by decide +kernel)
set_option maxRecDepth 20000 in
theorem gX13_heightFor_X13_light : GoodIn wsX13_heightFor (wsV RX13 126 RX13 yX13_light wsX13_light) := goodIn_app (goodIn_of _ (by decide +kernel)) ggX13_heightFor_X13_light
set_option maxRecDepth 20000 in
theorem ggX13_heightFor_J9_abs_f6c48 : GoodIn wsX13_heightFor wsJ9_abs_f6c48 := goodIn_r _ [13, 14, 15, 16, 17, 18, 19, 20, 21] (by decide +kernel) (by decide +kernel)
set_option maxRecDepth 20000 in
theorem gX13_heightFor_J9_abs_f6c48 : GoodIn wsX13_heightFor (va_wsS RX13 131 yJ9_abs_f6c48 wsJ9_abs_f6c48) := goodIn_app (goodIn_of _ (by decide +kernel)) ggX13_heightFor_J9_abs_f6c48
set_option maxRecDepth 20000 in
theorem ggX13_lightAt_X13_has : GoodIn wsX13_lightAt wsX13_has := goodIn_r _ [6, 7, 8, 15, 16, 17, 18, 19, 20, 21, 22, 23, 24, 25, 26, 27] (by decide +kernel) (by decide +kernel)
set_option maxRecDepth 20000 in
theorem gX13_lightAt_X13_has : GoodIn wsX13_lightAt (wsV RX13 135 RX13 yX13_has wsX13_has) := goodIn_app (goodIn_of _ (by decide +kernel)) ggX13_lightAt_X13_has
set_option maxRecDepth 20000 in
theorem ggX13_lightAt_X13_light : GoodIn wsX13_lightAt wsX13_light := goodIn_r _ [12, 13, 14, 9, 10, 11, 5, 15, 16, 17, 18, 19, 20, 21, 22, 23, 24, 25, 26, 27] (by decide +kernel) (by decide +kernel)
set_option maxRecDepth 20000 in
theorem gX13_lightAt_X13_light : GoodIn wsX13_lightAt (wsV RX13 126 RX13 yX13_light wsX13_light) := goodIn_app (goodIn_of _ (by decide +kernel)) ggX13_lightAt_X13_light
set_option maxRecDepth 20000 in
theorem ggX13_estimate_X13_light : GoodIn wsX13_estimate wsX13_light := goodIn_r _ [8, 9, 10, 4, 5, 6, 7, 21, 22, 23, 24, 25, 26, 27, 28, 29, 30, 31, 32, 33] (by decide +kernel) (by decide +kernel)
set_option maxRecDepth 20000 in
theorem gX13_estimate_X13_light : GoodIn wsX13_estimate (wsV RX13 126 RX13 yX13_light wsX13_light) := goodIn_app (goodIn_of _ (by decide +kernel)) ggX13_estimate_X13_light
set_option maxRecDepth 20000 in
theorem ggX13_estimate_X13_lightAt : GoodIn wsX13_estimate wsX13_lightAt := goodIn_r _ [14, 1, 15, 16, 17, 7, 18, 19, 20, 4, 5, 6, 8, 9, 10, 21, 22, 23, 24, 25, 26, 27, 28, 29, 30, 31, 32, 33] (by decide +kernel) (by decide +kernel)
set_option maxRecDepth 20000 in
theorem gX13_estimate_X13_lightAt : GoodIn wsX13_estimate (wsV RX13 140 RX13 yX13_lightAt wsX13_lightAt) := goodIn_app (goodIn_of _ (by decide +kernel)) ggX13_estimate_X13_lightAt
set_option maxRecDepth 20000 in
theorem ggX13_error_X13_estimate : GoodIn wsX13_error wsX13_estimate := goodIn_r _ [7, 8, 9, 10, 11, 12, 13, 6, 14, 15, 16, 17, 18, 19, 20, 21, 22, 23, 24, 25, 26, 27, 28, 29, 30, 31, 32, 33, 34, 35, 36, 37, 38, 39] (by decide +kernel) (by decide +kernel)
set_option maxRecDepth 20000 in
theorem gX13_error_X13_estimate : GoodIn wsX13_error (wsV RX13 145 RX13 yX13_estimate wsX13_estimate) := goodIn_app (goodIn_of _ (by decide +kernel)) ggX13_error_X13_estimate
set_option maxRecDepth 20000 in
theorem ggX13_isThin_X13_run : GoodIn wsX13_isThin wsX13_run := goodIn_r _ [8, 1, 9, 10, 11, 12, 13, 14, 15, 16, 17, 18, 19, 20, 21, 22, 23] (by decide +kernel) (by decide +kernel)
set_option maxRecDepth 20000 in
theorem gX13_isThin_X13_run : GoodIn wsX13_isThin (wsV RX13 149 RX13 yX13_run wsX13_run) := goodIn_app (goodIn_of _ (by decide +kernel)) ggX13_isThin_X13_run
set_option maxRecDepth 20000 in
theorem ggX13_repair_X13_isThin : GoodIn wsX13_repair wsX13_isThin := goodIn_r _ [10, 5, 11, 12, 13, 14, 15, 9, 16, 2, 1, 17, 18, 19, 20, 21, 22, 23, 24, 25, 26, 27, 28, 29] (by decide +kernel) (by decide +kernel)
set_option maxRecDepth 20000 in
theorem gX13_repair_X13_isThin : GoodIn wsX13_repair (wsV RX13 153 RX13 yX13_isThin wsX13_isThin) := goodIn_app (goodIn_of _ (by decide +kernel)) ggX13_repair_X13_isThin
set_option maxRecDepth 20000 in
theorem ggX13_dither_X13_copy : GoodIn wsX13_dither wsX13_copy := goodIn_r _ [10, 11, 12, 9, 2, 1, 13, 14, 15, 16, 17, 18, 3, 5, 19, 20, 21, 22, 23, 24, 25, 26, 27, 28, 29, 30, 31, 32, 58, 59, 60, 61, 62, 63, 64, 65, 66, 67, 68, 69, 70] (by decide +kernel) (by decide +kernel)
set_option maxRecDepth 20000 in
theorem gX13_dither_X13_copy : GoodIn wsX13_dither (wsV RX13 162 RX13 yX13_copy wsX13_copy) := goodIn_app (goodIn_of _ (by decide +kernel)) ggX13_dither_X13_copy
set_option maxRecDepth 20000 in
theorem ggX13_dither_X13_heightFor : GoodIn wsX13_dither wsX13_heightFor := goodIn_r _ [36, 15, 13, 37, 38, 39, 9, 40, 14, 41, 42, 43, 44, 45, 46, 47, 48, 49, 50, 51, 52, 53, 58, 59, 60, 61, 62, 63, 64, 65, 66, 67, 68, 69, 70] (by decide +kernel) (by decide +kernel)
set_option maxRecDepth 20000 in
theorem gX13_dither_X13_heightFor : GoodIn wsX13_dither (wsV RX13 122 RX13 yX13_heightFor wsX13_heightFor) := goodIn_app (goodIn_of _ (by decide +kernel)) ggX13_dither_X13_heightFor
set_option maxRecDepth 20000 in
theorem ggX13_dither_X13_light : GoodIn wsX13_dither wsX13_light := goodIn_r _ [40, 14, 41, 37, 38, 39, 9, 58, 59, 60, 61, 62, 63, 64, 65, 66, 67, 68, 69, 70] (by decide +kernel) (by decide +kernel)
set_option maxRecDepth 20000 in
theorem gX13_dither_X13_light : GoodIn wsX13_dither (wsV RX13 126 RX13 yX13_light wsX13_light) := goodIn_app (goodIn_of _ (by decide +kernel)) ggX13_dither_X13_light
set_option maxRecDepth 20000 in
theorem ggX13_dither_X13_others : GoodIn wsX13_dither wsX13_others := goodIn_r _ [57, 1, 2, 5, 58, 59, 60, 61, 62, 63, 64, 65, 66, 67, 68, 69, 70] (by decide +kernel) (by decide +kernel)
set_option maxRecDepth 20000 in
theorem gX13_dither_X13_others : GoodIn wsX13_dither (wsV RX13 166 RX13 yX13_others wsX13_others) := goodIn_app (goodIn_of _ (by decide +kernel)) ggX13_dither_X13_others
set_option maxRecDepth 20000 in
theorem ggX13_polish_X13_copy : GoodIn wsX13_polish wsX13_copy := goodIn_r _ [12, 13, 14, 11, 2, 1, 5, 15, 4, 16, 17, 6, 18, 3, 19, 20, 21, 22, 23, 24, 25, 26, 27, 28, 29, 30, 7, 31, 72, 73, 74, 75, 76, 77, 78, 79, 80, 81, 82, 83, 84] (by decide +kernel) (by decide +kernel)
set_option maxRecDepth 20000 in
theorem gX13_polish_X13_copy : GoodIn wsX13_polish (wsV RX13 162 RX13 yX13_copy wsX13_copy) := goodIn_app (goodIn_of _ (by decide +kernel)) ggX13_polish_X13_copy
set_option maxRecDepth 20000 in
theorem ggX13_polish_X13_has : GoodIn wsX13_polish wsX13_has := goodIn_r _ [35, 2, 1, 72, 73, 74, 75, 76, 77, 78, 79, 80, 81, 82, 83, 84] (by decide +kernel) (by decide +kernel)
set_option maxRecDepth 20000 in
theorem gX13_polish_X13_has : GoodIn wsX13_polish (wsV RX13 135 RX13 yX13_has wsX13_has) := goodIn_app (goodIn_of _ (by decide +kernel)) ggX13_polish_X13_has
set_option maxRecDepth 20000 in
theorem ggX13_polish_X13_error : GoodIn wsX13_polish wsX13_error := goodIn_r _ [39, 18, 40, 41, 42, 43, 11, 44, 3, 45, 46, 47, 48, 49, 50, 15, 51, 52, 53, 54, 55, 32, 33, 34, 35, 2, 1, 72, 73, 74, 75, 76, 77, 78, 79, 80, 81, 82, 83, 84] (by decide +kernel) (by decide +kernel)
set_option maxRecDepth 20000 in
theorem gX13_polish_X13_error : GoodIn wsX13_polish (wsV RX13 170 RX13 yX13_error wsX13_error) := goodIn_app (goodIn_of _ (by decide +kernel)) ggX13_polish_X13_error
set_option maxRecDepth 20000 in
theorem ggX13_polish_J9_abs_f6c48 : GoodIn wsX13_polish wsJ9_abs_f6c48 := goodIn_r _ [59, 60, 61, 62, 63, 64, 65, 66, 67] (by decide +kernel) (by decide +kernel)
set_option maxRecDepth 20000 in
theorem gX13_polish_J9_abs_f6c48 : GoodIn wsX13_polish (va_wsS RX13 131 yJ9_abs_f6c48 wsJ9_abs_f6c48) := goodIn_app (goodIn_of _ (by decide +kernel)) ggX13_polish_J9_abs_f6c48
set_option maxRecDepth 20000 in
theorem ggX13_polish_X13_others : GoodIn wsX13_polish wsX13_others := goodIn_r _ [71, 1, 2, 3, 72, 73, 74, 75, 76, 77, 78, 79, 80, 81, 82, 83, 84] (by decide +kernel) (by decide +kernel)
set_option maxRecDepth 20000 in
theorem gX13_polish_X13_others : GoodIn wsX13_polish (wsV RX13 166 RX13 yX13_others wsX13_others) := goodIn_app (goodIn_of _ (by decide +kernel)) ggX13_polish_X13_others
set_option maxRecDepth 20000 in
theorem ggX13_retone_X13_copy : GoodIn wsX13_retone wsX13_copy := goodIn_r _ [15, 16, 17, 14, 2, 1, 18, 19, 20, 21, 22, 23, 3, 24, 25, 26, 27, 28, 29, 30, 31, 32, 33, 34, 35, 36, 37, 38, 69, 70, 71, 72, 73, 74, 75, 76, 77, 78, 79, 80, 81] (by decide +kernel) (by decide +kernel)
set_option maxRecDepth 20000 in
theorem gX13_retone_X13_copy : GoodIn wsX13_retone (wsV RX13 162 RX13 yX13_copy wsX13_copy) := goodIn_app (goodIn_of _ (by decide +kernel)) ggX13_retone_X13_copy
set_option maxRecDepth 20000 in
theorem ggX13_retone_X13_relights : GoodIn wsX13_retone wsX13_relights := goodIn_r _ [42, 1, 2, 24, 3, 43, 44, 45, 46, 14, 47, 20, 18, 48, 49, 50, 51, 19, 52, 53, 54, 55, 56, 57, 58, 59, 60, 61, 62, 63, 64, 69, 70, 71, 72, 73, 74, 75, 76, 77, 78, 79, 80, 81] (by decide +kernel) (by decide +kernel)
set_option maxRecDepth 20000 in
theorem gX13_retone_X13_relights : GoodIn wsX13_retone (wsV RX13 114 RX13 yX13_relights wsX13_relights) := goodIn_app (goodIn_of _ (by decide +kernel)) ggX13_retone_X13_relights
set_option maxRecDepth 20000 in
theorem ggX13_retone_X13_others : GoodIn wsX13_retone wsX13_others := goodIn_r _ [68, 1, 2, 24, 69, 70, 71, 72, 73, 74, 75, 76, 77, 78, 79, 80, 81] (by decide +kernel) (by decide +kernel)
set_option maxRecDepth 20000 in
theorem gX13_retone_X13_others : GoodIn wsX13_retone (wsV RX13 166 RX13 yX13_others wsX13_others) := goodIn_app (goodIn_of _ (by decide +kernel)) ggX13_retone_X13_others
set_option maxRecDepth 20000 in
theorem ggX13_mirror_X13_copy : GoodIn wsX13_mirror wsX13_copy := goodIn_r _ [9, 10, 11, 8, 2, 1, 12, 13, 14, 15, 16, 17, 4, 3, 18, 19, 20, 21, 22, 23, 24, 25, 26, 27, 28, 29, 30, 31, 36, 37, 38, 39, 40, 41, 42, 43, 44, 45, 46, 47, 48] (by decide +kernel) (by decide +kernel)
set_option maxRecDepth 20000 in
theorem gX13_mirror_X13_copy : GoodIn wsX13_mirror (wsV RX13 162 RX13 yX13_copy wsX13_copy) := goodIn_app (goodIn_of _ (by decide +kernel)) ggX13_mirror_X13_copy
set_option maxRecDepth 20000 in
theorem ggX13_mirror_X13_others : GoodIn wsX13_mirror wsX13_others := goodIn_r _ [35, 1, 2, 3, 36, 37, 38, 39, 40, 41, 42, 43, 44, 45, 46, 47, 48] (by decide +kernel) (by decide +kernel)
set_option maxRecDepth 20000 in
theorem gX13_mirror_X13_others : GoodIn wsX13_mirror (wsV RX13 166 RX13 yX13_others wsX13_others) := goodIn_app (goodIn_of _ (by decide +kernel)) ggX13_mirror_X13_others
set_option maxRecDepth 20000 in
theorem ggX13_ease_X13_copy : GoodIn wsX13_ease wsX13_copy := goodIn_r _ [9, 10, 11, 8, 2, 1, 12, 13, 14, 15, 4, 16, 17, 3, 18, 19, 20, 21, 22, 23, 24, 25, 26, 27, 28, 29, 30, 31, 44, 45, 46, 47, 48, 49, 50, 51, 52, 53, 54, 55, 56] (by decide +kernel) (by decide +kernel)
set_option maxRecDepth 20000 in
theorem gX13_ease_X13_copy : GoodIn wsX13_ease (wsV RX13 162 RX13 yX13_copy wsX13_copy) := goodIn_app (goodIn_of _ (by decide +kernel)) ggX13_ease_X13_copy
set_option maxRecDepth 20000 in
theorem ggX13_ease_X13_overhang : GoodIn wsX13_ease wsX13_overhang := goodIn_r _ [35, 3, 4, 36, 37, 38, 39, 44, 45, 46, 47, 48, 49, 50, 51, 52, 53, 54, 55, 56] (by decide +kernel) (by decide +kernel)
set_option maxRecDepth 20000 in
theorem gX13_ease_X13_overhang : GoodIn wsX13_ease (wsV RX13 159 RX13 yX13_overhang wsX13_overhang) := goodIn_app (goodIn_of _ (by decide +kernel)) ggX13_ease_X13_overhang
set_option maxRecDepth 20000 in
theorem ggX13_ease_X13_others : GoodIn wsX13_ease wsX13_others := goodIn_r _ [43, 1, 2, 3, 44, 45, 46, 47, 48, 49, 50, 51, 52, 53, 54, 55, 56] (by decide +kernel) (by decide +kernel)
set_option maxRecDepth 20000 in
theorem gX13_ease_X13_others : GoodIn wsX13_ease (wsV RX13 166 RX13 yX13_others wsX13_others) := goodIn_app (goodIn_of _ (by decide +kernel)) ggX13_ease_X13_others
set_option maxRecDepth 20000 in
theorem ggX13_smooth_X13_copy : GoodIn wsX13_smooth wsX13_copy := goodIn_r _ [15, 16, 17, 14, 2, 1, 18, 19, 20, 21, 22, 23, 24, 3, 25, 26, 27, 28, 29, 30, 31, 32, 33, 34, 35, 36, 37, 38, 43, 44, 45, 46, 47, 48, 49, 50, 51, 52, 53, 54, 55] (by decide +kernel) (by decide +kernel)
set_option maxRecDepth 20000 in
theorem gX13_smooth_X13_copy : GoodIn wsX13_smooth (wsV RX13 162 RX13 yX13_copy wsX13_copy) := goodIn_app (goodIn_of _ (by decide +kernel)) ggX13_smooth_X13_copy
set_option maxRecDepth 20000 in
theorem ggX13_smooth_X13_others : GoodIn wsX13_smooth wsX13_others := goodIn_r _ [42, 1, 2, 3, 43, 44, 45, 46, 47, 48, 49, 50, 51, 52, 53, 54, 55] (by decide +kernel) (by decide +kernel)
set_option maxRecDepth 20000 in
theorem gX13_smooth_X13_others : GoodIn wsX13_smooth (wsV RX13 166 RX13 yX13_others wsX13_others) := goodIn_app (goodIn_of _ (by decide +kernel)) ggX13_smooth_X13_others
