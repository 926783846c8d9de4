set_option maxRecDepth 20000 in
theorem ggX2_glowAt_X5_lightAt : GoodIn wsX2_glowAt wsX5_lightAt := goodIn_r _ [7, 8, 9, 10, 11, 12, 13, 14, 15, 16, 17, 18, 19, 20, 21] (by decide +kernel) (by decide +kernel)
set_option maxRecDepth 20000 in
theorem gX2_glowAt_X5_lightAt : GoodIn wsX2_glowAt (wsV RX2 9 RX5 yX5_lightAt wsX5_lightAt) := goodIn_app (goodIn_of _ (by decide +kernel)) ggX2_glowAt_X5_lightAt
set_option maxRecDepth 20000 in
theorem ggX2_sizeOfMiss_X5_has : GoodIn wsX2_sizeOfMiss wsX5_has := goodIn_r _ [5, 6, 7, 33, 34, 35, 36, 37, 38, 39, 40, 41, 42] (by decide +kernel) (by decide +kernel)
set_option maxRecDepth 20000 in
theorem gX2_sizeOfMiss_X5_has : GoodIn wsX2_sizeOfMiss (wsV RX2 27 RX5 yX5_has wsX5_has) := goodIn_app (goodIn_of _ (by decide +kernel)) ggX2_sizeOfMiss_X5_has
set_option maxRecDepth 20000 in
theorem ggX2_sizeOfMiss_X2_glowAt : GoodIn wsX2_sizeOfMiss wsX2_glowAt := goodIn_r _ [11, 12, 13, 14, 15, 16, 4, 17, 6, 7, 18, 19, 33, 34, 35, 36, 37, 38, 39, 40, 41, 42] (by decide +kernel) (by decide +kernel)
set_option maxRecDepth 20000 in
theorem gX2_sizeOfMiss_X2_glowAt : GoodIn wsX2_sizeOfMiss (va_wsS RX2 17 yX2_glowAt wsX2_glowAt) := goodIn_app (goodIn_of _ (by decide +kernel)) ggX2_sizeOfMiss_X2_glowAt
set_option maxRecDepth 20000 in
theorem ggX2_sizeOfMiss_X5_wishAt : GoodIn wsX2_sizeOfMiss wsX5_wishAt := goodIn_r _ [23, 24, 25, 26, 4, 27, 6, 7, 28, 29, 30, 31, 32, 33, 34, 35, 36, 37, 38, 39, 40, 41, 42] (by decide +kernel) (by decide +kernel)
set_option maxRecDepth 20000 in
theorem gX2_sizeOfMiss_X5_wishAt : GoodIn wsX2_sizeOfMiss (wsV RX2 23 RX5 yX5_wishAt wsX5_wishAt) := goodIn_app (goodIn_of _ (by decide +kernel)) ggX2_sizeOfMiss_X5_wishAt
set_option maxRecDepth 20000 in
theorem ggX2_hash_X2_glowAt : GoodIn wsX2_hash wsX2_glowAt := goodIn_r _ [6, 7, 8, 9, 10, 11, 12, 13, 14, 15, 16, 17, 22, 23, 24, 25, 26, 27, 28, 29, 30, 31] (by decide +kernel) (by decide +kernel)
set_option maxRecDepth 20000 in
theorem gX2_hash_X2_glowAt : GoodIn wsX2_hash (va_wsS RX2 17 yX2_glowAt wsX2_glowAt) := goodIn_app (goodIn_of _ (by decide +kernel)) ggX2_hash_X2_glowAt
set_option maxRecDepth 20000 in
theorem ggX2_hash_X2_bitsOf : GoodIn wsX2_hash wsX2_bitsOf := goodIn_r _ [20, 21] (by decide +kernel) (by decide +kernel)
set_option maxRecDepth 20000 in
theorem gX2_hash_X2_bitsOf : GoodIn wsX2_hash (va_wsS RX2 41 yX2_bitsOf wsX2_bitsOf) := goodIn_app (goodIn_of _ (by decide +kernel)) ggX2_hash_X2_bitsOf
set_option maxRecDepth 20000 in
theorem ggX2_spread_X5_wishAt : GoodIn wsX2_spread wsX5_wishAt := goodIn_r _ [7, 8, 9, 10, 6, 11, 12, 13, 14, 15, 16, 17, 18, 43, 44, 45, 46, 47, 48, 49, 50, 51, 52] (by decide +kernel) (by decide +kernel)
set_option maxRecDepth 20000 in
theorem gX2_spread_X5_wishAt : GoodIn wsX2_spread (wsV RX2 23 RX5 yX5_wishAt wsX5_wishAt) := goodIn_app (goodIn_of _ (by decide +kernel)) ggX2_spread_X5_wishAt
set_option maxRecDepth 20000 in
theorem ggX2_spread_X5_stepFor : GoodIn wsX2_spread wsX5_stepFor := goodIn_r _ [22, 23, 24, 25, 26, 27, 6, 28, 29, 30, 31, 32, 43, 44, 45, 46, 47, 48, 49, 50, 51, 52] (by decide +kernel) (by decide +kernel)
set_option maxRecDepth 20000 in
theorem gX2_spread_X5_stepFor : GoodIn wsX2_spread (wsV RX2 50 RX5 yX5_stepFor wsX5_stepFor) := goodIn_app (goodIn_of _ (by decide +kernel)) ggX2_spread_X5_stepFor
set_option maxRecDepth 20000 in
theorem ggX2_spread_X5_build : GoodIn wsX2_spread wsX5_build := goodIn_r _ [36, 37, 38, 39, 40, 6, 41, 12, 13, 43, 44, 45, 46, 47, 48, 49, 50, 51, 52] (by decide +kernel) (by decide +kernel)
set_option maxRecDepth 20000 in
theorem gX2_spread_X5_build : GoodIn wsX2_spread (wsV RX2 53 RX5 yX5_build wsX5_build) := goodIn_app (goodIn_of _ (by decide +kernel)) ggX2_spread_X5_build
set_option maxRecDepth 20000 in
theorem ggX2_spread_X5_lightOf : GoodIn wsX2_spread wsX5_lightOf := goodIn_r _ [28, 29, 43, 44, 45, 46, 47, 48, 49, 50, 51, 52] (by decide +kernel) (by decide +kernel)
set_option maxRecDepth 20000 in
theorem gX2_spread_X5_lightOf : GoodIn wsX2_spread (wsV RX2 57 RX5 yX5_lightOf wsX5_lightOf) := goodIn_app (goodIn_of _ (by decide +kernel)) ggX2_spread_X5_lightOf
set_option maxRecDepth 20000 in
theorem ggX2_refine_X2_refineCell : GoodIn wsX2_refine wsX2_refineCell := goodIn_r _ [6, 7, 8, 9, 10, 11, 12, 13, 14, 15, 16, 17, 18, 19, 20, 21, 22, 23, 24, 25, 26, 27, 28, 29, 30, 31, 32, 33, 5, 34, 35, 36, 37, 38, 39, 40, 41, 42, 43, 44, 45, 46, 47, 48, 49, 50, 51, 52, 53, 54, 55, 56, 57, 58, 59, 60, 61, 62, 63, 64, 65, 66, 67, 68] (by decide +kernel) (by decide +kernel)
set_option maxRecDepth 20000 in
theorem gX2_refine_X2_refineCell : GoodIn wsX2_refine (va_wsS RX2 61 yX2_refineCell wsX2_refineCell) := goodIn_app (goodIn_of _ (by decide +kernel)) ggX2_refine_X2_refineCell
set_option maxRecDepth 20000 in
theorem ggX2_refineCell_X5_heightAt : GoodIn wsX2_refineCell wsX5_heightAt := goodIn_r _ [14, 15, 16, 17, 54, 55, 56, 57, 58, 59, 60, 61, 62, 63] (by decide +kernel) (by decide +kernel)
set_option maxRecDepth 20000 in
theorem gX2_refineCell_X5_heightAt : GoodIn wsX2_refineCell (wsV RX2 65 RX5 yX5_heightAt wsX5_heightAt) := goodIn_app (goodIn_of _ (by decide +kernel)) ggX2_refineCell_X5_heightAt
set_option maxRecDepth 20000 in
theorem ggX2_refineCell_X5_build : GoodIn wsX2_refineCell wsX5_build := goodIn_r _ [21, 17, 22, 23, 24, 13, 25, 15, 16, 54, 55, 56, 57, 58, 59, 60, 61, 62, 63] (by decide +kernel) (by decide +kernel)
set_option maxRecDepth 20000 in
theorem gX2_refineCell_X5_build : GoodIn wsX2_refineCell (wsV RX2 53 RX5 yX5_build wsX5_build) := goodIn_app (goodIn_of _ (by decide +kernel)) ggX2_refineCell_X5_build
set_option maxRecDepth 20000 in
theorem ggX2_refineCell_X2_sizeOfMiss : GoodIn wsX2_refineCell wsX2_sizeOfMiss := goodIn_r _ [29, 30, 23, 24, 13, 25, 15, 16, 31, 32, 28, 33, 34, 35, 36, 37, 38, 39, 17, 40, 41, 42, 43, 44, 45, 46, 47, 48, 49, 50, 51, 52, 53, 54, 55, 56, 57, 58, 59, 60, 61, 62, 63] (by decide +kernel) (by decide +kernel)
set_option maxRecDepth 20000 in
theorem gX2_refineCell_X2_sizeOfMiss : GoodIn wsX2_refineCell (va_wsS RX2 38 yX2_sizeOfMiss wsX2_sizeOfMiss) := goodIn_app (goodIn_of _ (by decide +kernel)) ggX2_refineCell_X2_sizeOfMiss
set_option maxRecDepth 20000 in
theorem ggX3_init_X5_init : GoodIn wsX3_init wsX5_init := goodIn_r _ [10, 11, 2, 3, 12, 13, 14, 15, 16, 17, 18, 19, 7, 20, 21, 22, 23, 24, 25, 26, 27, 28, 29, 30, 31, 32, 33, 34, 35, 36, 37, 38, 39, 40, 41, 42, 43, 44, 45, 46, 47, 48, 49, 50, 51, 52, 53, 54, 55, 56, 57, 58, 59, 60, 61, 62, 63, 64, 65, 66, 67, 68, 69, 70, 71, 75, 76, 77, 78, 79, 80, 81, 82, 83, 84] (by decide +kernel) (by decide +kernel)
set_option maxRecDepth 20000 in
theorem gX3_init_X5_init : GoodIn wsX3_init (wsX5_init) := ggX3_init_X5_init
set_option maxRecDepth 20000 in
theorem ggX3_open_X5_copyFrom : GoodIn wsX3_open wsX5_copyFrom := goodIn_r _ [7, 8, 9, 10, 11, 12, 13, 14, 15, 16, 17, 18, 19, 20, 21, 22, 23, 6, 24, 25, 29, 30, 31, 32, 33, 34, 35, 36, 37, 38] (by decide +kernel) (by decide +kernel)
set_option maxRecDepth 20000 in
theorem gX3_open_X5_copyFrom : GoodIn wsX3_open (wsV RX3 20 RX5 yX5_copyFrom wsX5_copyFrom) := goodIn_app (goodIn_of _ (by decide +kernel)) ggX3_open_X5_copyFrom
set_option maxRecDepth 20000 in
theorem ggX3_close_X5_looksLike : GoodIn wsX3_close wsX5_looksLike := goodIn_r _ [12, 13, 14, 15, 16, 17, 11, 18, 19, 20, 21, 22, 23, 24, 28, 29, 30, 31, 32, 33, 34, 35, 36, 37] (by decide +kernel) (by decide +kernel)
set_option maxRecDepth 20000 in
theorem gX3_close_X5_looksLike : GoodIn wsX3_close (wsV RX3 24 RX5 yX5_looksLike wsX5_looksLike) := goodIn_app (goodIn_of _ (by decide +kernel)) ggX3_close_X5_looksLike
set_option maxRecDepth 20000 in
theorem ggX4_countOfCells_X5_reaches : GoodIn wsX4_countOfCells wsX5_reaches := goodIn_r _ [8, 9, 10, 11, 16, 17, 18, 19, 20, 21, 22, 23, 24, 25] (by decide +kernel) (by decide +kernel)
set_option maxRecDepth 20000 in
theorem gX4_countOfCells_X5_reaches : GoodIn wsX4_countOfCells (wsV RX4 32 RX5 yX5_reaches wsX5_reaches) := goodIn_app (goodIn_of _ (by decide +kernel)) ggX4_countOfCells_X5_reaches
set_option maxRecDepth 20000 in
theorem ggX4_beginsRun_X5_reaches : GoodIn wsX4_beginsRun wsX5_reaches := goodIn_r _ [6, 7, 8, 9, 14, 15, 16, 17, 18, 19, 20, 21, 22, 23] (by decide +kernel) (by decide +kernel)
set_option maxRecDepth 20000 in
theorem gX4_beginsRun_X5_reaches : GoodIn wsX4_beginsRun (wsV RX4 32 RX5 yX5_reaches wsX5_reaches) := goodIn_app (goodIn_of _ (by decide +kernel)) ggX4_beginsRun_X5_reaches
set_option maxRecDepth 20000 in
theorem ggX4_runFrom_X5_reaches : GoodIn wsX4_runFrom wsX5_reaches := goodIn_r _ [6, 7, 8, 9, 14, 15, 16, 17, 18, 19, 20, 21, 22, 23] (by decide +kernel) (by decide +kernel)
set_option maxRecDepth 20000 in
theorem gX4_runFrom_X5_reaches : GoodIn wsX4_runFrom (wsV RX4 32 RX5 yX5_reaches wsX5_reaches) := goodIn_app (goodIn_of _ (by decide +kernel)) ggX4_runFrom_X5_reaches
set_option maxRecDepth 20000 in
theorem ggX4_countOfRuns_X4_beginsRun : GoodIn wsX4_countOfRuns wsX4_beginsRun := goodIn_r _ [8, 1, 9, 10, 11, 12, 13, 14, 15, 16, 17, 18, 19, 20, 21, 22, 23, 24, 25, 26, 27, 28, 29, 30] (by decide +kernel) (by decide +kernel)
set_option maxRecDepth 20000 in
theorem gX4_countOfRuns_X4_beginsRun : GoodIn wsX4_countOfRuns (wsV RX4 36 RX4 yX4_beginsRun wsX4_beginsRun) := goodIn_app (goodIn_of _ (by decide +kernel)) ggX4_countOfRuns_X4_beginsRun
set_option maxRecDepth 20000 in
theorem ggX4_isRun_X4_beginsRun : GoodIn wsX4_isRun wsX4_beginsRun := goodIn_r _ [5, 6, 7, 8, 9, 10, 11, 12, 13, 14, 19, 20, 21, 22, 23, 24, 25, 26, 27, 28, 29, 30, 31, 32] (by decide +kernel) (by decide +kernel)
set_option maxRecDepth 20000 in
theorem gX4_isRun_X4_beginsRun : GoodIn wsX4_isRun (wsV RX4 36 RX4 yX4_beginsRun wsX4_beginsRun) := goodIn_app (goodIn_of _ (by decide +kernel)) ggX4_isRun_X4_beginsRun
set_option maxRecDepth 20000 in
theorem ggX4_isRun_X4_runFrom : GoodIn wsX4_isRun wsX4_runFrom := goodIn_r _ [18, 6, 7, 8, 9, 10, 11, 12, 13, 14, 19, 20, 21, 22, 23, 24, 25, 26, 27, 28, 29, 30, 31, 32] (by decide +kernel) (by decide +kernel)
set_option maxRecDepth 20000 in
theorem gX4_isRun_X4_runFrom : GoodIn wsX4_isRun (wsV RX4 39 RX4 yX4_runFrom wsX4_runFrom) := goodIn_app (goodIn_of _ (by decide +kernel)) ggX4_isRun_X4_runFrom
set_option maxRecDepth 20000 in
theorem ggX4_beginsBlock_X4_beginsRun : GoodIn wsX4_beginsBlock wsX4_beginsRun := goodIn_r _ [5, 6, 7, 8, 9, 10, 11, 12, 13, 14, 23, 24, 25, 26, 27, 28, 29, 30, 31, 32, 33, 34, 35, 36] (by decide +kernel) (by decide +kernel)
set_option maxRecDepth 20000 in
theorem gX4_beginsBlock_X4_beginsRun : GoodIn wsX4_beginsBlock (wsV RX4 36 RX4 yX4_beginsRun wsX4_beginsRun) := goodIn_app (goodIn_of _ (by decide +kernel)) ggX4_beginsBlock_X4_beginsRun
set_option maxRecDepth 20000 in
theorem ggX4_beginsBlock_X4_runFrom : GoodIn wsX4_beginsBlock wsX4_runFrom := goodIn_r _ [18, 6, 7, 8, 9, 10, 11, 12, 13, 14, 23, 24, 25, 26, 27, 28, 29, 30, 31, 32, 33, 34, 35, 36] (by decide +kernel) (by decide +kernel)
set_option maxRecDepth 20000 in
theorem gX4_beginsBlock_X4_runFrom : GoodIn wsX4_beginsBlock (wsV RX4 39 RX4 yX4_runFrom wsX4_runFrom) := goodIn_app (goodIn_of _ (by decide +kernel)) ggX4_beginsBlock_X4_runFrom
set_option maxRecDepth 20000 in
theorem ggX4_beginsBlock_X4_isRun : GoodIn wsX4_beginsBlock wsX4_isRun := goodIn_r _ [22, 1, 2, 3, 4, 5, 6, 7, 8, 9, 10, 11, 12, 13, 14, 15, 16, 17, 18, 23, 24, 25, 26, 27, 28, 29, 30, 31, 32, 33, 34, 35, 36] (by decide +kernel) (by decide +kernel)
set_option maxRecDepth 20000 in
theorem gX4_beginsBlock_X4_isRun : GoodIn wsX4_beginsBlock (wsV RX4 49 RX4 yX4_isRun wsX4_isRun) := goodIn_app (goodIn_of _ (by decide +kernel)) ggX4_beginsBlock_X4_isRun
set_option maxRecDepth 20000 in
theorem ggX4_countOfBlocks_X4_blocksAhead : GoodIn wsX4_countOfBlocks wsX4_blocksAhead := goodIn_r _ [8, 1, 2, 9, 10, 11, 7, 12, 13, 14, 15, 16, 17, 18, 19, 20, 21, 22, 23, 24, 25, 26, 27, 28, 29, 30, 31, 32, 33, 34, 35, 36, 37, 38, 39, 40, 41, 42, 43, 44, 45, 46] (by decide +kernel) (by decide +kernel)
set_option maxRecDepth 20000 in
theorem gX4_countOfBlocks_X4_blocksAhead : GoodIn wsX4_countOfBlocks (wsV RX4 53 RX4 yX4_blocksAhead wsX4_blocksAhead) := goodIn_app (goodIn_of _ (by decide +kernel)) ggX4_countOfBlocks_X4_blocksAhead
set_option maxRecDepth 20000 in
theorem ggX4_blocksAhead_X4_beginsBlock : GoodIn wsX4_blocksAhead wsX4_beginsBlock := goodIn_r _ [7, 8, 9, 10, 6, 11, 1, 12, 13, 14, 15, 16, 17, 18, 19, 20, 21, 22, 23, 24, 25, 26, 27, 28, 29, 30, 31, 32, 33, 34, 35, 36, 37, 38, 39, 40, 41] (by decide +kernel) (by decide +kernel)
set_option maxRecDepth 20000 in
theorem gX4_blocksAhead_X4_beginsBlock : GoodIn wsX4_blocksAhead (wsV RX4 56 RX4 yX4_beginsBlock wsX4_beginsBlock) := goodIn_app (goodIn_of _ (by decide +kernel)) ggX4_blocksAhead_X4_beginsBlock
set_option maxRecDepth 20000 in
theorem ggX4_countOfSides_X5_reaches : GoodIn wsX4_countOfSides wsX5_reaches := goodIn_r _ [8, 9, 10, 11, 21, 22, 23, 24, 25, 26, 27, 28, 29, 30] (by decide +kernel) (by decide +kernel)
set_option maxRecDepth 20000 in
theorem gX4_countOfSides_X5_reaches : GoodIn wsX4_countOfSides (wsV RX4 32 RX5 yX5_reaches wsX5_reaches) := goodIn_app (goodIn_of _ (by decide +kernel)) ggX4_countOfSides_X5_reaches
set_option maxRecDepth 20000 in
theorem ggX4_countOfSides_X4_freeSides : GoodIn wsX4_countOfSides wsX4_freeSides := goodIn_r _ [16, 1, 4, 5, 6, 7, 8, 9, 10, 11, 17, 18, 19, 20, 21, 22, 23, 24, 25, 26, 27, 28, 29, 30] (by decide +kernel) (by decide +kernel)
set_option maxRecDepth 20000 in
theorem gX4_countOfSides_X4_freeSides : GoodIn wsX4_countOfSides (wsV RX4 62 RX4 yX4_freeSides wsX4_freeSides) := goodIn_app (goodIn_of _ (by decide +kernel)) ggX4_countOfSides_X4_freeSides
set_option maxRecDepth 20000 in
theorem ggX4_freeSides_X5_reaches : GoodIn wsX4_freeSides wsX5_reaches := goodIn_r _ [6, 7, 8, 9, 14, 15, 16, 17, 18, 19, 20, 21, 22, 23] (by decide +kernel) (by decide +kernel)
set_option maxRecDepth 20000 in
theorem gX4_freeSides_X5_reaches : GoodIn wsX4_freeSides (wsV RX4 32 RX5 yX5_reaches wsX5_reaches) := goodIn_app (goodIn_of _ (by decide +kernel)) ggX4_freeSides_X5_reaches
set_option maxRecDepth 20000 in
theorem ggX4_countOfParts_X4_countOfGroups : GoodIn wsX4_countOfParts wsX4_countOfGroups := goodIn_r _ [5, 6, 7, 8, 9, 10, 11, 12, 13, 14, 15, 16, 17, 18, 19, 20, 4, 21, 22, 23, 24, 25, 26, 27, 28, 29, 30, 31, 32, 33, 34, 35, 36, 37, 38, 39, 40, 41, 42, 43, 44, 45, 46, 47, 48, 49, 50, 51, 52, 53] (by decide +kernel) (by decide +kernel)
set_option maxRecDepth 20000 in
theorem gX4_countOfParts_X4_countOfGroups : GoodIn wsX4_countOfParts (wsV RX4 65 RX4 yX4_countOfGroups wsX4_countOfGroups) := goodIn_app (goodIn_of _ (by decide +kernel)) ggX4_countOfParts_X4_countOfGroups
set_option maxRecDepth 20000 in
theorem ggX4_countOfGroups_X5_reaches : GoodIn wsX4_countOfGroups wsX5_reaches := goodIn_r _ [9, 10, 11, 12, 40, 41, 42, 43, 44, 45, 46, 47, 48, 49] (by decide +kernel) (by decide +kernel)
set_option maxRecDepth 20000 in
theorem gX4_countOfGroups_X5_reaches : GoodIn wsX4_countOfGroups (wsV RX4 32 RX5 yX5_reaches wsX5_reaches) := goodIn_app (goodIn_of _ (by decide +kernel)) ggX4_countOfGroups_X5_reaches
set_option maxRecDepth 20000 in
theorem ggX4_countOfGroups_X4_wasQueued : GoodIn wsX4_countOfGroups wsX4_wasQueued := goodIn_r _ [17, 1, 36, 37, 38, 39] (by decide +kernel) (by decide +kernel)
set_option maxRecDepth 20000 in
theorem gX4_countOfGroups_X4_wasQueued : GoodIn wsX4_countOfGroups (wsV RX4 69 RX4 yX4_wasQueued wsX4_wasQueued) := goodIn_app (goodIn_of _ (by decide +kernel)) ggX4_countOfGroups_X4_wasQueued
set_option maxRecDepth 20000 in
theorem ggX4_countOfGroups_X4_visitGroup : GoodIn wsX4_countOfGroups wsX4_visitGroup := goodIn_r _ [21, 22, 23, 24, 25, 26, 16, 27, 2, 1, 28, 29, 30, 8, 31, 10, 11, 5, 6, 7, 9, 12, 13, 14, 15, 17, 32, 33, 34, 35, 4, 3, 36, 37, 38, 39, 40, 41, 42, 43, 44, 45, 46, 47, 48, 49] (by decide +kernel) (by decide +kernel)
set_option maxRecDepth 20000 in
theorem gX4_countOfGroups_X4_visitGroup : GoodIn wsX4_countOfGroups (wsV RX4 73 RX4 yX4_visitGroup wsX4_visitGroup) := goodIn_app (goodIn_of _ (by decide +kernel)) ggX4_countOfGroups_X4_visitGroup
set_option maxRecDepth 20000 in
theorem ggX4_visitGroup_X4_visit : GoodIn wsX4_visitGroup wsX4_visit := goodIn_r _ [7, 8, 1, 2, 9, 10, 11, 12, 13, 14, 15, 16, 17, 18, 19, 20, 21, 22, 23, 24, 6, 25, 32, 33, 34, 35, 36, 37, 38, 39, 40, 41, 42, 43, 44, 45] (by decide +kernel) (by decide +kernel)
set_option maxRecDepth 20000 in
theorem gX4_visitGroup_X4_visit : GoodIn wsX4_visitGroup (wsV RX4 80 RX4 yX4_visit wsX4_visit) := goodIn_app (goodIn_of _ (by decide +kernel)) ggX4_visitGroup_X4_visit
set_option maxRecDepth 20000 in
theorem ggX4_visitGroup_X4_isAtEdge : GoodIn wsX4_visitGroup wsX4_isAtEdge := goodIn_r _ [29, 8, 30, 31, 32, 33, 34, 35, 36, 37, 38, 39, 40, 41, 42, 43, 44, 45] (by decide +kernel) (by decide +kernel)
set_option maxRecDepth 20000 in
theorem gX4_visitGroup_X4_isAtEdge : GoodIn wsX4_visitGroup (wsV RX4 84 RX4 yX4_isAtEdge wsX4_isAtEdge) := goodIn_app (goodIn_of _ (by decide +kernel)) ggX4_visitGroup_X4_isAtEdge
set_option maxRecDepth 20000 in
theorem ggX4_visit_X5_has : GoodIn wsX4_visit wsX5_has := goodIn_r _ [9, 10, 11, 26, 27, 28, 29, 30, 31, 32, 33, 34, 35] (by decide +kernel) (by decide +kernel)
set_option maxRecDepth 20000 in
theorem gX4_visit_X5_has : GoodIn wsX4_visit (wsV RX4 87 RX5 yX5_has wsX5_has) := goodIn_app (goodIn_of _ (by decide +kernel)) ggX4_visit_X5_has
set_option maxRecDepth 20000 in
theorem ggX4_visit_X5_reaches : GoodIn wsX4_visit wsX5_reaches := goodIn_r _ [15, 10, 11, 16, 26, 27, 28, 29, 30, 31, 32, 33, 34, 35] (by decide +kernel) (by decide +kernel)
set_option maxRecDepth 20000 in
theorem gX4_visit_X5_reaches : GoodIn wsX4_visit (wsV RX4 32 RX5 yX5_reaches wsX5_reaches) := goodIn_app (goodIn_of _ (by decide +kernel)) ggX4_visit_X5_reaches
set_option maxRecDepth 20000 in
theorem ggX4_visit_X4_wasQueued : GoodIn wsX4_visit wsX4_wasQueued := goodIn_r _ [21, 4, 22, 23, 24, 25] (by decide +kernel) (by decide +kernel)
set_option maxRecDepth 20000 in
theorem gX4_visit_X4_wasQueued : GoodIn wsX4_visit (wsV RX4 69 RX4 yX4_wasQueued wsX4_wasQueued) := goodIn_app (goodIn_of _ (by decide +kernel)) ggX4_visit_X4_wasQueued
set_option maxRecDepth 20000 in
theorem ggX5_init_X5_clear : GoodIn wsX5_init wsX5_clear := goodIn_r _ [13, 14, 15, 16, 17, 18, 19, 20, 5, 21, 22, 23, 24, 65, 66, 67, 68, 69, 70, 71, 72, 73, 74] (by decide +kernel) (by decide +kernel)
set_option maxRecDepth 20000 in
theorem gX5_init_X5_clear : GoodIn wsX5_init (wsV RX5 22 RX5 yX5_clear wsX5_clear) := goodIn_app (goodIn_of _ (by decide +kernel)) ggX5_init_X5_clear
set_option maxRecDepth 20000 in
theorem ggX5_init_X5_develop : GoodIn wsX5_init wsX5_develop := goodIn_r _ [28, 17, 29, 8, 30, 31, 32, 12, 33, 15, 14, 34, 35, 36, 37, 38, 39, 40, 41, 5, 42, 43, 44, 45, 46, 47, 48, 49, 18, 16, 50, 51, 52, 53, 54, 55, 56, 57, 58, 59, 60, 6, 61, 62, 63, 64, 65, 66, 67, 68, 69, 70, 71, 72, 73, 74] (by decide +kernel) (by decide +kernel)
set_option maxRecDepth 20000 in
theorem gX5_init_X5_develop : GoodIn wsX5_init (wsV RX5 25 RX5 yX5_develop wsX5_develop) := goodIn_app (goodIn_of _ (by decide +kernel)) ggX5_init_X5_develop
set_option maxRecDepth 20000 in
theorem ggX5_clear_J7_fill_53178 : GoodIn wsX5_clear wsJ7_fill_53178 := goodIn_r _ [12] (by decide +kernel) (by decide +kernel)
set_option maxRecDepth 20000 in
theorem gX5_clear_J7_fill_53178 : GoodIn wsX5_clear (va_wsS RX5 50 yJ7_fill_53178 wsJ7_fill_53178) := goodIn_app (goodIn_of _ (by decide +kernel)) ggX5_clear_J7_fill_53178
set_option maxRecDepth 20000 in
theorem ggX5_develop_X5_followTones : GoodIn wsX5_develop wsX5_followTones := goodIn_r _ [8, 9, 10, 11, 12, 13, 7, 14, 15, 16, 17, 18, 19, 20, 21, 22, 23, 24, 25, 26, 27, 28, 29, 30, 31, 32, 33, 3, 34, 35, 36, 37, 38, 39, 40, 41, 42, 43, 44, 45, 46, 47, 48, 49, 50, 51, 52, 53, 54, 55] (by decide +kernel) (by decide +kernel)
set_option maxRecDepth 20000 in
theorem gX5_develop_X5_followTones : GoodIn wsX5_develop (wsV RX5 57 RX5 yX5_followTones wsX5_followTones) := goodIn_app (goodIn_of _ (by decide +kernel)) ggX5_develop_X5_followTones
set_option maxRecDepth 20000 in
theorem ggX5_copyFrom_X5_copyHeightsFrom : GoodIn wsX5_copyFrom wsX5_copyHeightsFrom := goodIn_r _ [18, 19, 9, 10, 11, 12, 20, 21, 22, 23, 24, 25, 26, 27, 28, 29] (by decide +kernel) (by decide +kernel)
set_option maxRecDepth 20000 in
theorem gX5_copyFrom_X5_copyHeightsFrom : GoodIn wsX5_copyFrom (wsV RX5 67 RX5 yX5_copyHeightsFrom wsX5_copyHeightsFrom) := goodIn_app (goodIn_of _ (by decide +kernel)) ggX5_copyFrom_X5_copyHeightsFrom
set_option maxRecDepth 20000 in
theorem ggX5_dye_X5_has : GoodIn wsX5_dye wsX5_has := goodIn_r _ [6, 7, 8, 9, 10, 11, 12, 13, 14, 15, 16, 17, 18] (by decide +kernel) (by decide +kernel)
set_option maxRecDepth 20000 in
theorem gX5_dye_X5_has : GoodIn wsX5_dye (wsV RX5 71 RX5 yX5_has wsX5_has) := goodIn_app (goodIn_of _ (by decide +kernel)) ggX5_dye_X5_has
set_option maxRecDepth 20000 in
theorem ggX5_build_X5_has : GoodIn wsX5_build wsX5_has := goodIn_r _ [6, 7, 8, 9, 10, 11, 12, 13, 14, 15, 16, 17, 18] (by decide +kernel) (by decide +kernel)
set_option maxRecDepth 20000 in
theorem gX5_build_X5_has : GoodIn wsX5_build (wsV RX5 71 RX5 yX5_has wsX5_has) := goodIn_app (goodIn_of _ (by decide +kernel)) ggX5_build_X5_has
set_option maxRecDepth 20000 in
theorem ggX5_wishAt_X5_toneAt : GoodIn wsX5_wishAt wsX5_toneAt := goodIn_r _ [5, 6, 7, 8, 13, 14, 15, 16, 17, 18, 19, 20, 21, 22] (by decide +kernel) (by decide +kernel)
set_option maxRecDepth 20000 in
theorem gX5_wishAt_X5_toneAt : GoodIn wsX5_wishAt (wsV RX5 76 RX5 yX5_toneAt wsX5_toneAt) := goodIn_app (goodIn_of _ (by decide +kernel)) ggX5_wishAt_X5_toneAt
set_option maxRecDepth 20000 in
theorem ggX5_wishAt_X5_wish : GoodIn wsX5_wishAt wsX5_wish := goodIn_r _ [11, 12] (by decide +kernel) (by decide +kernel)
set_option maxRecDepth 20000 in
theorem gX5_wishAt_X5_wish : GoodIn wsX5_wishAt (va_wsS RX5 80 yX5_wish wsX5_wish) := goodIn_app (goodIn_of _ (by decide +kernel)) ggX5_wishAt_X5_wish
set_option maxRecDepth 20000 in
theorem ggX5_stepFor_X5_lightOf : GoodIn wsX5_stepFor wsX5_lightOf := goodIn_r _ [7, 8, 12, 13, 14, 15, 16, 17, 18, 19, 20, 21] (by decide +kernel) (by decide +kernel)
set_option maxRecDepth 20000 in
theorem gX5_stepFor_X5_lightOf : GoodIn wsX5_stepFor (wsV RX5 84 RX5 yX5_lightOf wsX5_lightOf) := goodIn_app (goodIn_of _ (by decide +kernel)) ggX5_stepFor_X5_lightOf
set_option maxRecDepth 20000 in
theorem ggX5_stepFor_X5_distance : GoodIn wsX5_stepFor wsX5_distance := goodIn_r _ [11] (by decide +kernel) (by decide +kernel)
set_option maxRecDepth 20000 in
theorem gX5_stepFor_X5_distance : GoodIn wsX5_stepFor (va_wsS RX5 87 yX5_distance wsX5_distance) := goodIn_app (goodIn_of _ (by decide +kernel)) ggX5_stepFor_X5_distance
set_option maxRecDepth 20000 in
theorem ggX5_paint_X5_dye : GoodIn wsX5_paint wsX5_dye := goodIn_r _ [5, 6, 7, 8, 9, 4, 10, 11, 12, 36, 37, 38, 39, 40, 41, 42, 43, 44, 45] (by decide +kernel) (by decide +kernel)
set_option maxRecDepth 20000 in
theorem gX5_paint_X5_dye : GoodIn wsX5_paint (wsV RX5 91 RX5 yX5_dye wsX5_dye) := goodIn_app (goodIn_of _ (by decide +kernel)) ggX5_paint_X5_dye
set_option maxRecDepth 20000 in
theorem ggX5_paint_X5_wish : GoodIn wsX5_paint wsX5_wish := goodIn_r _ [15, 16] (by decide +kernel) (by decide +kernel)
set_option maxRecDepth 20000 in
theorem gX5_paint_X5_wish : GoodIn wsX5_paint (va_wsS RX5 80 yX5_wish wsX5_wish) := goodIn_app (goodIn_of _ (by decide +kernel)) ggX5_paint_X5_wish
set_option maxRecDepth 20000 in
theorem ggX5_paint_X5_stepFor : GoodIn wsX5_paint wsX5_stepFor := goodIn_r _ [20, 21, 22, 23, 24, 25, 4, 26, 27, 28, 29, 30, 36, 37, 38, 39, 40, 41, 42, 43, 44, 45] (by decide +kernel) (by decide +kernel)
set_option maxRecDepth 20000 in
theorem gX5_paint_X5_stepFor : GoodIn wsX5_paint (wsV RX5 95 RX5 yX5_stepFor wsX5_stepFor) := goodIn_app (goodIn_of _ (by decide +kernel)) ggX5_paint_X5_stepFor
set_option maxRecDepth 20000 in
theorem ggX5_paint_X5_build : GoodIn wsX5_paint wsX5_build := goodIn_r _ [34, 35, 7, 8, 9, 4, 10, 11, 12, 36, 37, 38, 39, 40, 41, 42, 43, 44, 45] (by decide +kernel) (by decide +kernel)
set_option maxRecDepth 20000 in
theorem gX5_paint_X5_build : GoodIn wsX5_paint (wsV RX5 99 RX5 yX5_build wsX5_build) := goodIn_app (goodIn_of _ (by decide +kernel)) ggX5_paint_X5_build
set_option maxRecDepth 20000 in
theorem ggX5_followTones_X5_wishAt : GoodIn wsX5_followTones wsX5_wishAt := goodIn_r _ [7, 8, 9, 10, 6, 11, 2, 1, 12, 13, 14, 15, 16, 40, 41, 42, 43, 44, 45, 46, 47, 48, 49] (by decide +kernel) (by decide +kernel)
set_option maxRecDepth 20000 in
theorem gX5_followTones_X5_wishAt : GoodIn wsX5_followTones (wsV RX5 103 RX5 yX5_wishAt wsX5_wishAt) := goodIn_app (goodIn_of _ (by decide +kernel)) ggX5_followTones_X5_wishAt
set_option maxRecDepth 20000 in
theorem ggX5_followTones_X5_stepFor : GoodIn wsX5_followTones wsX5_stepFor := goodIn_r _ [20, 21, 22, 23, 24, 25, 6, 26, 27, 28, 29, 30, 40, 41, 42, 43, 44, 45, 46, 47, 48, 49] (by decide +kernel) (by decide +kernel)
set_option maxRecDepth 20000 in
theorem gX5_followTones_X5_stepFor : GoodIn wsX5_followTones (wsV RX5 95 RX5 yX5_stepFor wsX5_stepFor) := goodIn_app (goodIn_of _ (by decide +kernel)) ggX5_followTones_X5_stepFor
set_option maxRecDepth 20000 in
theorem ggX5_followTones_X5_build : GoodIn wsX5_followTones wsX5_build := goodIn_r _ [34, 35, 36, 37, 38, 6, 39, 2, 1, 40, 41, 42, 43, 44, 45, 46, 47, 48, 49] (by decide +kernel) (by decide +kernel)
set_option maxRecDepth 20000 in
theorem gX5_followTones_X5_build : GoodIn wsX5_followTones (wsV RX5 99 RX5 yX5_build wsX5_build) := goodIn_app (goodIn_of _ (by decide +kernel)) ggX5_followTones_X5_build
set_option maxRecDepth 20000 in
theorem ggX5_cover_X5_build : GoodIn wsX5_cover wsX5_build := goodIn_r _ [5, 6, 7, 8, 9, 4, 10, 11, 12, 13, 14, 15, 16, 17, 18, 19, 20, 21, 22] (by decide +kernel) (by decide +kernel)
set_option maxRecDepth 20000 in
theorem gX5_cover_X5_build : GoodIn wsX5_cover (wsV RX5 99 RX5 yX5_build wsX5_build) := goodIn_app (goodIn_of _ (by decide +kernel)) ggX5_cover_X5_build
set_option maxRecDepth 20000 in
theorem ggX5_negate_X5_toneAt : GoodIn wsX5_negate wsX5_toneAt := goodIn_r _ [7, 2, 1, 8, 48, 49, 50, 51, 52, 53, 54, 55, 56, 57] (by decide +kernel) (by decide +kernel)
set_option maxRecDepth 20000 in
theorem gX5_negate_X5_toneAt : GoodIn wsX5_negate (wsV RX5 76 RX5 yX5_toneAt wsX5_toneAt) := goodIn_app (goodIn_of _ (by decide +kernel)) ggX5_negate_X5_toneAt
set_option maxRecDepth 20000 in
theorem ggX5_negate_X5_dye : GoodIn wsX5_negate wsX5_dye := goodIn_r _ [12, 8, 13, 14, 15, 6, 16, 2, 1, 48, 49, 50, 51, 52, 53, 54, 55, 56, 57] (by decide +kernel) (by decide +kernel)
set_option maxRecDepth 20000 in
theorem gX5_negate_X5_dye : GoodIn wsX5_negate (wsV RX5 91 RX5 yX5_dye wsX5_dye) := goodIn_app (goodIn_of _ (by decide +kernel)) ggX5_negate_X5_dye
set_option maxRecDepth 20000 in
theorem ggX5_negate_X5_followTones : GoodIn wsX5_negate wsX5_followTones := goodIn_r _ [20, 1, 2, 21, 22, 23, 6, 24, 3, 4, 5, 7, 8, 25, 26, 27, 28, 29, 30, 31, 32, 33, 34, 35, 36, 37, 38, 39, 40, 41, 42, 43, 44, 45, 46, 47, 13, 14, 15, 16, 48, 49, 50, 51, 52, 53, 54, 55, 56, 57] (by decide +kernel) (by decide +kernel)
set_option maxRecDepth 20000 in
theorem gX5_negate_X5_followTones : GoodIn wsX5_negate (wsV RX5 57 RX5 yX5_followTones wsX5_followTones) := goodIn_app (goodIn_of _ (by decide +kernel)) ggX5_negate_X5_followTones
set_option maxRecDepth 20000 in
theorem ggX5_brighten_X5_toneAt : GoodIn wsX5_brighten wsX5_toneAt := goodIn_r _ [14, 2, 1, 15, 55, 56, 57, 58, 59, 60, 61, 62, 63, 64] (by decide +kernel) (by decide +kernel)
set_option maxRecDepth 20000 in
theorem gX5_brighten_X5_toneAt : GoodIn wsX5_brighten (wsV RX5 76 RX5 yX5_toneAt wsX5_toneAt) := goodIn_app (goodIn_of _ (by decide +kernel)) ggX5_brighten_X5_toneAt
set_option maxRecDepth 20000 in
theorem ggX5_brighten_X5_dye : GoodIn wsX5_brighten wsX5_dye := goodIn_r _ [19, 15, 20, 21, 22, 13, 23, 2, 1, 55, 56, 57, 58, 59, 60, 61, 62, 63, 64] (by decide +kernel) (by decide +kernel)
set_option maxRecDepth 20000 in
theorem gX5_brighten_X5_dye : GoodIn wsX5_brighten (wsV RX5 91 RX5 yX5_dye wsX5_dye) := goodIn_app (goodIn_of _ (by decide +kernel)) ggX5_brighten_X5_dye
set_option maxRecDepth 20000 in
theorem ggX5_brighten_X5_followTones : GoodIn wsX5_brighten wsX5_followTones := goodIn_r _ [27, 1, 2, 28, 29, 30, 13, 31, 10, 11, 12, 14, 15, 32, 33, 34, 35, 36, 37, 38, 39, 40, 41, 42, 43, 44, 45, 46, 47, 48, 49, 50, 51, 52, 53, 54, 20, 21, 22, 23, 55, 56, 57, 58, 59, 60, 61, 62, 63, 64] (by decide +kernel) (by decide +kernel)
set_option maxRecDepth 20000 in
theorem gX5_brighten_X5_followTones : GoodIn wsX5_brighten (wsV RX5 57 RX5 yX5_followTones wsX5_followTones) := goodIn_app (goodIn_of _ (by decide +kernel)) ggX5_brighten_X5_followTones
set_option maxRecDepth 20000 in
theorem ggX5_turn_X5_exchange : GoodIn wsX5_turn wsX5_exchange := goodIn_r _ [7, 8, 9, 10, 6, 11, 2, 1, 12, 13, 14, 15, 16, 17, 18, 19, 20, 21, 22, 23, 24, 25, 26, 27, 28, 29, 30, 31, 32, 33, 34, 35, 36, 37, 38, 39] (by decide +kernel) (by decide +kernel)
set_option maxRecDepth 20000 in
theorem gX5_turn_X5_exchange : GoodIn wsX5_turn (wsV RX5 115 RX5 yX5_exchange wsX5_exchange) := goodIn_app (goodIn_of _ (by decide +kernel)) ggX5_turn_X5_exchange
set_option maxRecDepth 20000 in
theorem ggX5_exchange_X5_toneAt : GoodIn wsX5_exchange wsX5_toneAt := goodIn_r _ [5, 6, 7, 8, 26, 27, 28, 29, 30, 31, 32, 33, 34, 35] (by decide +kernel) (by decide +kernel)
set_option maxRecDepth 20000 in
theorem gX5_exchange_X5_toneAt : GoodIn wsX5_exchange (wsV RX5 76 RX5 yX5_toneAt wsX5_toneAt) := goodIn_app (goodIn_of _ (by decide +kernel)) ggX5_exchange_X5_toneAt
set_option maxRecDepth 20000 in
theorem ggX5_exchange_X5_heightAt : GoodIn wsX5_exchange wsX5_heightAt := goodIn_r _ [12, 6, 7, 13, 26, 27, 28, 29, 30, 31, 32, 33, 34, 35] (by decide +kernel) (by decide +kernel)
set_option maxRecDepth 20000 in
theorem gX5_exchange_X5_heightAt : GoodIn wsX5_exchange (wsV RX5 118 RX5 yX5_heightAt wsX5_heightAt) := goodIn_app (goodIn_of _ (by decide +kernel)) ggX5_exchange_X5_heightAt
set_option maxRecDepth 20000 in
theorem ggX5_exchange_X5_dye : GoodIn wsX5_exchange wsX5_dye := goodIn_r _ [17, 8, 18, 19, 20, 4, 21, 6, 7, 26, 27, 28, 29, 30, 31, 32, 33, 34, 35] (by decide +kernel) (by decide +kernel)
set_option maxRecDepth 20000 in
theorem gX5_exchange_X5_dye : GoodIn wsX5_exchange (wsV RX5 91 RX5 yX5_dye wsX5_dye) := goodIn_app (goodIn_of _ (by decide +kernel)) ggX5_exchange_X5_dye
set_option maxRecDepth 20000 in
theorem ggX5_exchange_X5_build : GoodIn wsX5_exchange wsX5_build := goodIn_r _ [25, 13, 18, 19, 20, 4, 21, 6, 7, 26, 27, 28, 29, 30, 31, 32, 33, 34, 35] (by decide +kernel) (by decide +kernel)
set_option maxRecDepth 20000 in
theorem gX5_exchange_X5_build : GoodIn wsX5_exchange (wsV RX5 99 RX5 yX5_build wsX5_build) := goodIn_app (goodIn_of _ (by decide +kernel)) ggX5_exchange_X5_build
set_option maxRecDepth 20000 in
theorem ggX5_sumOfHeights_X5_heightAt : GoodIn wsX5_sumOfHeights wsX5_heightAt := goodIn_r _ [7, 2, 1, 8, 9, 10, 11, 12, 13, 14, 15, 16, 17, 18] (by decide +kernel) (by decide +kernel)
set_option maxRecDepth 20000 in
theorem gX5_sumOfHeights_X5_heightAt : GoodIn wsX5_sumOfHeights (wsV RX5 118 RX5 yX5_heightAt wsX5_heightAt) := goodIn_app (goodIn_of _ (by decide +kernel)) ggX5_sumOfHeights_X5_heightAt
set_option maxRecDepth 20000 in
theorem ggX5_countOf_X5_heightAt : GoodIn wsX5_countOf wsX5_heightAt := goodIn_r _ [7, 2, 1, 8, 9, 10, 11, 12, 13, 14, 15, 16, 17, 18] (by decide +kernel) (by decide +kernel)
set_option maxRecDepth 20000 in
theorem gX5_countOf_X5_heightAt : GoodIn wsX5_countOf (wsV RX5 118 RX5 yX5_heightAt wsX5_heightAt) := goodIn_app (goodIn_of _ (by decide +kernel)) ggX5_countOf_X5_heightAt
set_option maxRecDepth 20000 in
theorem ggX5_greatestStep_X5_has : GoodIn wsX5_greatestStep wsX5_has := goodIn_r _ [14, 2, 1, 20, 21, 22, 23, 24, 25, 26, 27, 28, 29] (by decide +kernel) (by decide +kernel)
set_option maxRecDepth 20000 in
theorem gX5_greatestStep_X5_has : GoodIn wsX5_greatestStep (wsV RX5 71 RX5 yX5_has wsX5_has) := goodIn_app (goodIn_of _ (by decide +kernel)) ggX5_greatestStep_X5_has
set_option maxRecDepth 20000 in
theorem ggX5_greatestStep_X5_heightAt : GoodIn wsX5_greatestStep wsX5_heightAt := goodIn_r _ [18, 2, 1, 19, 20, 21, 22, 23, 24, 25, 26, 27, 28, 29] (by decide +kernel) (by decide +kernel)
set_option maxRecDepth 20000 in
theorem gX5_greatestStep_X5_heightAt : GoodIn wsX5_greatestStep (wsV RX5 118 RX5 yX5_heightAt wsX5_heightAt) := goodIn_app (goodIn_of _ (by decide +kernel)) ggX5_greatestStep_X5_heightAt
set_option maxRecDepth 20000 in
theorem ggX5_differencesTo_X5_heightAt : GoodIn wsX5_differencesTo wsX5_heightAt := goodIn_r _ [7, 2, 1, 8, 9, 10, 11, 12, 13, 14, 15, 16, 17, 18] (by decide +kernel) (by decide +kernel)
set_option maxRecDepth 20000 in
theorem gX5_differencesTo_X5_heightAt : GoodIn wsX5_differencesTo (wsV RX5 118 RX5 yX5_heightAt wsX5_heightAt) := goodIn_app (goodIn_of _ (by decide +kernel)) ggX5_differencesTo_X5_heightAt
set_option maxRecDepth 20000 in
theorem ggX5_looksLike_X5_heightAt : GoodIn wsX5_looksLike wsX5_heightAt := goodIn_r _ [7, 2, 1, 8, 14, 15, 16, 17, 18, 19, 20, 21, 22, 23] (by decide +kernel) (by decide +kernel)
set_option maxRecDepth 20000 in
theorem gX5_looksLike_X5_heightAt : GoodIn wsX5_looksLike (wsV RX5 118 RX5 yX5_heightAt wsX5_heightAt) := goodIn_app (goodIn_of _ (by decide +kernel)) ggX5_looksLike_X5_heightAt
set_option maxRecDepth 20000 in
theorem ggX5_looksLike_X5_toneAt : GoodIn wsX5_looksLike wsX5_toneAt := goodIn_r _ [12, 2, 1, 13, 14, 15, 16, 17, 18, 19, 20, 21, 22, 23] (by decide +kernel) (by decide +kernel)
set_option maxRecDepth 20000 in
theorem gX5_looksLike_X5_toneAt : GoodIn wsX5_looksLike (wsV RX5 76 RX5 yX5_toneAt wsX5_toneAt) := goodIn_app (goodIn_of _ (by decide +kernel)) ggX5_looksLike_X5_toneAt
set_option maxRecDepth 20000 in
theorem ggX6_init_J7_fill_53178 : GoodIn wsX6_init wsJ7_fill_53178 := goodIn_r _ [9] (by decide +kernel) (by decide +kernel)
set_option maxRecDepth 20000 in
theorem gX6_init_J7_fill_53178 : GoodIn wsX6_init (va_wsS RX6 15 yJ7_fill_53178 wsJ7_fill_53178) := goodIn_app (goodIn_of _ (by decide +kernel)) ggX6_init_J7_fill_53178
set_option maxRecDepth 20000 in
theorem ggX7_readDraft_X5_clear : GoodIn wsX7_readDraft wsX5_clear := goodIn_r _ [13, 14, 15, 16, 17, 18, 19, 20, 21, 22, 23, 24, 25, 227, 228, 229, 230, 231, 232, 233, 234, 235, 236] (by decide +kernel) (by decide +kernel)
set_option maxRecDepth 20000 in
theorem gX7_readDraft_X5_clear : GoodIn wsX7_readDraft (wsV RX7 19 RX5 yX5_clear wsX5_clear) := goodIn_app (goodIn_of _ (by decide +kernel)) ggX7_readDraft_X5_clear
set_option maxRecDepth 20000 in
theorem ggX7_readDraft_X10_begin : GoodIn wsX7_readDraft wsX10_begin := goodIn_r _ [30, 31, 32, 33, 34, 35, 36, 37, 29, 38, 39, 40, 41, 42, 43, 44, 45, 46, 47, 48, 49, 50, 51, 52, 53, 54, 55, 56, 57, 58, 59, 60, 237, 238, 239, 240, 241, 242, 243, 244, 245, 246, 247] (by decide +kernel) (by decide +kernel)
set_option maxRecDepth 20000 in
theorem gX7_readDraft_X10_begin : GoodIn wsX7_readDraft (wsV RX7 44 RX10 yX10_begin wsX10_begin) := goodIn_app (goodIn_of _ (by decide +kernel)) ggX7_readDraft_X10_begin
set_option maxRecDepth 20000 in
theorem ggX7_readDraft_X10_isAtEnd : GoodIn wsX7_readDraft wsX10_isAtEnd := goodIn_r _ [64, 60, 237, 238, 239, 240, 241, 242, 243, 244, 245, 246, 247] (by decide +kernel) (by decide +kernel)
set_option maxRecDepth 20000 in
theorem gX7_readDraft_X10_isAtEnd : GoodIn wsX7_readDraft (wsV RX7 49 RX10 yX10_isAtEnd wsX10_isAtEnd) := goodIn_app (goodIn_of _ (by decide +kernel)) ggX7_readDraft_X10_isAtEnd
set_option maxRecDepth 20000 in
theorem ggX7_readDraft_X7_readStatement : GoodIn wsX7_readDraft wsX7_readStatement := goodIn_r _ [69, 8, 70, 71, 72, 29, 73, 60, 59, 58, 74, 75, 76, 77, 78, 79, 80, 81, 82, 83, 84, 85, 35, 36, 37, 38, 33, 39, 86, 87, 88, 89, 90, 91, 92, 93, 94, 95, 96, 97, 98, 99, 100, 101, 102, 103, 104, 105, 106, 107, 108, 109, 110, 111, 112, 113, 114, 115, 116, 117, 118, 119, 120, 121, 122, 123, 124, 125, 68, 126, 2, 6, 1, 127, 128, 129, 130, 131, 132, 31, 133, 55, 56, 57, 34, 32, 47, 53, 48, 134, 135, 136, 137, 54, 138, 139, 140, 141, 3, 142, 143, 144, 145, 146, 147, 148, 149, 150, 151, 152, 153, 154, 4, 155, 156, 157, 158, 159, 5, 160, 161, 162, 163, 164, 165, 166, 167, 12, 168, 21, 169, 170, 171, 172, 14, 15, 219, 220, 221, 222, 223, 224, 225, 226, 237, 238, 239, 240, 241, 242, 243, 244, 245, 246, 247, 248, 249, 250, 251, 227, 228, 229, 230, 231, 232, 233, 234, 235, 236] (by decide +kernel) (by decide +kernel)
set_option maxRecDepth 20000 in
theorem gX7_readDraft_X7_readStatement : GoodIn wsX7_readDraft (wsV RX7 53 RX7 yX7_readStatement wsX7_readStatement) := goodIn_app (goodIn_of _ (by decide +kernel)) ggX7_readDraft_X7_readStatement
set_option maxRecDepth 20000 in
theorem ggX7_readDraft_X10_takeSign : GoodIn wsX7_readDraft wsX10_takeSign := goodIn_r _ [176, 177, 178, 179, 29, 180, 60, 58, 35, 36, 37, 38, 33, 39, 150, 130, 131, 132, 31, 54, 55, 56, 57, 34, 32, 47, 59, 53, 48, 237, 238, 239, 240, 241, 242, 243, 244, 245, 246, 247] (by decide +kernel) (by decide +kernel)
set_option maxRecDepth 20000 in
theorem gX7_readDraft_X10_takeSign : GoodIn wsX7_readDraft (wsV RX7 56 RX10 yX10_takeSign wsX10_takeSign) := goodIn_app (goodIn_of _ (by decide +kernel)) ggX7_readDraft_X10_takeSign
set_option maxRecDepth 20000 in
theorem ggX7_readDraft_X5_develop : GoodIn wsX7_readDraft wsX5_develop := goodIn_r _ [184, 17, 185, 186, 187, 188, 189, 12, 190, 15, 14, 191, 192, 193, 194, 195, 196, 197, 198, 21, 199, 200, 201, 202, 203, 204, 205, 206, 18, 16, 207, 208, 209, 210, 211, 212, 213, 214, 215, 216, 217, 218, 169, 170, 171, 172, 227, 228, 229, 230, 231, 232, 233, 234, 235, 236] (by decide +kernel) (by decide +kernel)
set_option maxRecDepth 20000 in
theorem gX7_readDraft_X5_develop : GoodIn wsX7_readDraft (wsV RX7 60 RX5 yX5_develop wsX5_develop) := goodIn_app (goodIn_of _ (by decide +kernel)) ggX7_readDraft_X5_develop
set_option maxRecDepth 20000 in
theorem ggX7_readStatement_X10_isWord : GoodIn wsX7_readStatement wsX10_isWord := goodIn_r _ [6, 7, 8, 9, 10, 11, 12, 13, 14, 15, 16, 17, 18, 19, 20, 21, 22, 23, 24, 5, 25, 26, 27, 28, 29, 30, 31, 32, 33, 34, 35, 36, 37, 38, 39, 40, 41, 42, 43, 44, 45, 46, 47, 48, 49, 50, 51, 52, 53, 54, 55, 56, 57, 58, 59, 60, 61, 62, 63, 64, 144, 145, 146, 147, 148, 149, 150, 151, 152, 153, 154, 155, 156, 157, 158] (by decide +kernel) (by decide +kernel)
set_option maxRecDepth 20000 in
theorem gX7_readStatement_X10_isWord : GoodIn wsX7_readStatement (wsV RX7 65 RX10 yX10_isWord wsX10_isWord) := goodIn_app (goodIn_of _ (by decide +kernel)) ggX7_readStatement_X10_isWord
set_option maxRecDepth 20000 in
theorem ggX7_readStatement_X7_readPanel : GoodIn wsX7_readStatement wsX7_readPanel := goodIn_r _ [69, 70, 71, 1, 72, 73, 74, 75, 76, 77, 5, 78, 79, 80, 81, 82, 83, 84, 85, 86, 26, 9, 8, 7, 87, 88, 89, 90, 91, 92, 22, 23, 24, 25, 27, 93, 136, 137, 138, 139, 140, 141, 142, 143, 159, 160, 161, 162, 163, 164, 165, 166, 167, 168, 144, 145, 146, 147, 148, 149, 150, 151, 152, 153, 154] (by decide +kernel) (by decide +kernel)
set_option maxRecDepth 20000 in
theorem gX7_readStatement_X7_readPanel : GoodIn wsX7_readStatement (wsV RX7 69 RX7 yX7_readPanel wsX7_readPanel) := goodIn_app (goodIn_of _ (by decide +kernel)) ggX7_readStatement_X7_readPanel
set_option maxRecDepth 20000 in
theorem ggX7_readStatement_X7_readSteps : GoodIn wsX7_readStatement wsX7_readSteps := goodIn_r _ [97, 98, 1, 72, 99, 100, 101, 75, 76, 77, 5, 78, 79, 80, 81, 82, 83, 84, 85, 86, 26, 9, 8, 7, 87, 88, 89, 90, 91, 92, 22, 23, 24, 25, 27, 93, 102, 103, 104, 105, 106, 3, 4, 6, 10, 11, 12, 13, 14, 15, 16, 17, 18, 19, 20, 21, 28, 29, 30, 31, 32, 33, 34, 35, 36, 37, 38, 39, 40, 41, 42, 43, 44, 45, 46, 47, 48, 49, 50, 51, 52, 53, 54, 55, 56, 57, 58, 59, 60, 61, 62, 63, 64, 107, 136, 137, 138, 139, 140, 141, 142, 143, 159, 160, 161, 162, 163, 164, 165, 166, 167, 168, 144, 145, 146, 147, 148, 149, 150, 151, 152, 153, 154, 155, 156, 157, 158] (by decide +kernel) (by decide +kernel)
set_option maxRecDepth 20000 in
theorem gX7_readStatement_X7_readSteps : GoodIn wsX7_readStatement (wsV RX7 74 RX7 yX7_readSteps wsX7_readSteps) := goodIn_app (goodIn_of _ (by decide +kernel)) ggX7_readStatement_X7_readSteps
set_option maxRecDepth 20000 in
theorem ggX7_readStatement_X7_readWall : GoodIn wsX7_readStatement wsX7_readWall := goodIn_r _ [111, 112, 1, 72, 113, 75, 76, 77, 5, 78, 79, 80, 81, 82, 83, 84, 85, 86, 26, 9, 8, 7, 87, 88, 89, 90, 91, 92, 22, 23, 24, 25, 27, 93, 136, 137, 138, 139, 140, 141, 142, 143, 159, 160, 161, 162, 163, 164, 165, 166, 167, 168, 144, 145, 146, 147, 148, 149, 150, 151, 152, 153, 154] (by decide +kernel) (by decide +kernel)
set_option maxRecDepth 20000 in
theorem gX7_readStatement_X7_readWall : GoodIn wsX7_readStatement (wsV RX7 79 RX7 yX7_readWall wsX7_readWall) := goodIn_app (goodIn_of _ (by decide +kernel)) ggX7_readStatement_X7_readWall
set_option maxRecDepth 20000 in
theorem ggX7_readStatement_X7_readSlope : GoodIn wsX7_readStatement wsX7_readSlope := goodIn_r _ [117, 118, 1, 72, 119, 75, 76, 77, 5, 78, 79, 80, 81, 82, 83, 84, 85, 86, 26, 9, 8, 7, 87, 88, 89, 90, 91, 92, 22, 23, 24, 25, 27, 93, 136, 137, 138, 139, 140, 141, 142, 143, 159, 160, 161, 162, 163, 164, 165, 166, 167, 168, 144, 145, 146, 147, 148, 149, 150, 151, 152, 153, 154] (by decide +kernel) (by decide +kernel)
set_option maxRecDepth 20000 in
theorem gX7_readStatement_X7_readSlope : GoodIn wsX7_readStatement (wsV RX7 84 RX7 yX7_readSlope wsX7_readSlope) := goodIn_app (goodIn_of _ (by decide +kernel)) ggX7_readStatement_X7_readSlope
set_option maxRecDepth 20000 in
theorem ggX7_readStatement_X7_readRow : GoodIn wsX7_readStatement wsX7_readRow := goodIn_r _ [123, 71, 72, 74, 1, 73, 75, 76, 77, 5, 78, 79, 80, 81, 82, 83, 84, 85, 86, 26, 9, 8, 7, 87, 88, 89, 90, 91, 92, 22, 23, 24, 25, 27, 93, 124, 125, 126, 127, 128, 129, 130, 131, 132, 133, 134, 135, 136, 137, 138, 139, 140, 141, 142, 143, 159, 160, 161, 162, 163, 164, 165, 166, 167, 168, 144, 145, 146, 147, 148, 149, 150, 151, 152, 153, 154] (by decide +kernel) (by decide +kernel)
set_option maxRecDepth 20000 in
theorem gX7_readStatement_X7_readRow : GoodIn wsX7_readStatement (wsV RX7 89 RX7 yX7_readRow wsX7_readRow) := goodIn_app (goodIn_of _ (by decide +kernel)) ggX7_readStatement_X7_readRow
set_option maxRecDepth 20000 in
theorem ggX7_readStatement_X10_fail : GoodIn wsX7_readStatement wsX10_fail := goodIn_r _ [78, 79, 144, 145, 146, 147, 148, 149, 150, 151, 152, 153, 154] (by decide +kernel) (by decide +kernel)
set_option maxRecDepth 20000 in
theorem gX7_readStatement_X10_fail : GoodIn wsX7_readStatement (wsV RX7 92 RX10 yX10_fail wsX10_fail) := goodIn_app (goodIn_of _ (by decide +kernel)) ggX7_readStatement_X10_fail
set_option maxRecDepth 20000 in
theorem ggX7_readPanel_X10_fail : GoodIn wsX7_readPanel wsX10_fail := goodIn_r _ [11, 12, 54, 55, 56, 57, 58, 59, 60, 61, 62, 63, 64] (by decide +kernel) (by decide +kernel)
set_option maxRecDepth 20000 in
theorem gX7_readPanel_X10_fail : GoodIn wsX7_readPanel (wsV RX7 92 RX10 yX10_fail wsX10_fail) := goodIn_app (goodIn_of _ (by decide +kernel)) ggX7_readPanel_X10_fail
set_option maxRecDepth 20000 in
theorem ggX7_readPanel_X10_advance : GoodIn wsX7_readPanel wsX10_advance := goodIn_r _ [16, 17, 18, 19, 20, 21, 22, 23, 24, 25, 54, 55, 56, 57, 58, 59, 60, 61, 62, 63, 64] (by decide +kernel) (by decide +kernel)
set_option maxRecDepth 20000 in
theorem gX7_readPanel_X10_advance : GoodIn wsX7_readPanel (wsV RX7 96 RX10 yX10_advance wsX10_advance) := goodIn_app (goodIn_of _ (by decide +kernel)) ggX7_readPanel_X10_advance
set_option maxRecDepth 20000 in
theorem ggX7_readPanel_X10_takeNumber : GoodIn wsX7_readPanel wsX10_takeNumber := goodIn_r _ [29, 23, 12, 22, 21, 30, 31, 32, 10, 33, 20, 34, 35, 14, 15, 16, 17, 18, 19, 24, 25, 54, 55, 56, 57, 58, 59, 60, 61, 62, 63, 64] (by decide +kernel) (by decide +kernel)
set_option maxRecDepth 20000 in
theorem gX7_readPanel_X10_takeNumber : GoodIn wsX7_readPanel (wsV RX7 99 RX10 yX10_takeNumber wsX10_takeNumber) := goodIn_app (goodIn_of _ (by decide +kernel)) ggX7_readPanel_X10_takeNumber
set_option maxRecDepth 20000 in
theorem ggX7_readSteps_X10_fail : GoodIn wsX7_readSteps wsX10_fail := goodIn_r _ [11, 12, 112, 113, 114, 115, 116, 117, 118, 119, 120, 121, 122] (by decide +kernel) (by decide +kernel)
set_option maxRecDepth 20000 in
theorem gX7_readSteps_X10_fail : GoodIn wsX7_readSteps (wsV RX7 92 RX10 yX10_fail wsX10_fail) := goodIn_app (goodIn_of _ (by decide +kernel)) ggX7_readSteps_X10_fail
set_option maxRecDepth 20000 in
theorem ggX7_readSteps_X10_advance : GoodIn wsX7_readSteps wsX10_advance := goodIn_r _ [16, 17, 18, 19, 20, 21, 22, 23, 24, 25, 112, 113, 114, 115, 116, 117, 118, 119, 120, 121, 122] (by decide +kernel) (by decide +kernel)
set_option maxRecDepth 20000 in
theorem gX7_readSteps_X10_advance : GoodIn wsX7_readSteps (wsV RX7 96 RX10 yX10_advance wsX10_advance) := goodIn_app (goodIn_of _ (by decide +kernel)) ggX7_readSteps_X10_advance
set_option maxRecDepth 20000 in
theorem ggX7_readSteps_X10_takeNumber : GoodIn wsX7_readSteps wsX10_takeNumber := goodIn_r _ [29, 23, 12, 22, 21, 30, 31, 32, 10, 33, 20, 34, 35, 14, 15, 16, 17, 18, 19, 24, 25, 112, 113, 114, 115, 116, 117, 118, 119, 120, 121, 122] (by decide +kernel) (by decide +kernel)
set_option maxRecDepth 20000 in
theorem gX7_readSteps_X10_takeNumber : GoodIn wsX7_readSteps (wsV RX7 99 RX10 yX10_takeNumber wsX10_takeNumber) := goodIn_app (goodIn_of _ (by decide +kernel)) ggX7_readSteps_X10_takeNumber
set_option maxRecDepth 20000 in
theorem ggX7_readSteps_X10_takeWord : GoodIn wsX7_readSteps wsX10_takeWord := goodIn_r _ [39, 40, 41, 42, 10, 43, 23, 22, 21, 44, 45, 46, 47, 48, 49, 50, 51, 52, 53, 54, 55, 30, 31, 32, 33, 20, 34, 56, 57, 58, 59, 60, 61, 62, 63, 64, 65, 66, 67, 68, 69, 70, 71, 72, 73, 74, 75, 76, 77, 78, 79, 80, 81, 82, 83, 84, 85, 86, 87, 88, 89, 90, 91, 92, 93, 8, 9, 11, 12, 35, 14, 15, 16, 17, 18, 19, 24, 25, 112, 113, 114, 115, 116, 117, 118, 119, 120, 121, 122, 123, 124, 125, 126] (by decide +kernel) (by decide +kernel)
set_option maxRecDepth 20000 in
theorem gX7_readSteps_X10_takeWord : GoodIn wsX7_readSteps (wsV RX7 114 RX10 yX10_takeWord wsX10_takeWord) := goodIn_app (goodIn_of _ (by decide +kernel)) ggX7_readSteps_X10_takeWord
set_option maxRecDepth 20000 in
theorem ggX7_readWall_X10_fail : GoodIn wsX7_readWall wsX10_fail := goodIn_r _ [9, 10, 52, 53, 54, 55, 56, 57, 58, 59, 60, 61, 62] (by decide +kernel) (by decide +kernel)
set_option maxRecDepth 20000 in
theorem gX7_readWall_X10_fail : GoodIn wsX7_readWall (wsV RX7 92 RX10 yX10_fail wsX10_fail) := goodIn_app (goodIn_of _ (by decide +kernel)) ggX7_readWall_X10_fail
set_option maxRecDepth 20000 in
theorem ggX7_readWall_X10_advance : GoodIn wsX7_readWall wsX10_advance := goodIn_r _ [14, 15, 16, 17, 18, 19, 20, 21, 22, 23, 52, 53, 54, 55, 56, 57, 58, 59, 60, 61, 62] (by decide +kernel) (by decide +kernel)
set_option maxRecDepth 20000 in
theorem gX7_readWall_X10_advance : GoodIn wsX7_readWall (wsV RX7 96 RX10 yX10_advance wsX10_advance) := goodIn_app (goodIn_of _ (by decide +kernel)) ggX7_readWall_X10_advance
set_option maxRecDepth 20000 in
theorem ggX7_readWall_X10_takeNumber : GoodIn wsX7_readWall wsX10_takeNumber := goodIn_r _ [27, 21, 10, 20, 19, 28, 29, 30, 8, 31, 18, 32, 33, 12, 13, 14, 15, 16, 17, 22, 23, 52, 53, 54, 55, 56, 57, 58, 59, 60, 61, 62] (by decide +kernel) (by decide +kernel)
set_option maxRecDepth 20000 in
theorem gX7_readWall_X10_takeNumber : GoodIn wsX7_readWall (wsV RX7 99 RX10 yX10_takeNumber wsX10_takeNumber) := goodIn_app (goodIn_of _ (by decide +kernel)) ggX7_readWall_X10_takeNumber
set_option maxRecDepth 20000 in
theorem ggX7_readSlope_X10_fail : GoodIn wsX7_readSlope wsX10_fail := goodIn_r _ [9, 10, 52, 53, 54, 55, 56, 57, 58, 59, 60, 61, 62] (by decide +kernel) (by decide +kernel)
set_option maxRecDepth 20000 in
theorem gX7_readSlope_X10_fail : GoodIn wsX7_readSlope (wsV RX7 92 RX10 yX10_fail wsX10_fail) := goodIn_app (goodIn_of _ (by decide +kernel)) ggX7_readSlope_X10_fail
set_option maxRecDepth 20000 in
theorem ggX7_readSlope_X10_advance : GoodIn wsX7_readSlope wsX10_advance := goodIn_r _ [14, 15, 16, 17, 18, 19, 20, 21, 22, 23, 52, 53, 54, 55, 56, 57, 58, 59, 60, 61, 62] (by decide +kernel) (by decide +kernel)
set_option maxRecDepth 20000 in
theorem gX7_readSlope_X10_advance : GoodIn wsX7_readSlope (wsV RX7 96 RX10 yX10_advance wsX10_advance) := goodIn_app (goodIn_of _ (by decide +kernel)) ggX7_readSlope_X10_advance
set_option maxRecDepth 20000 in
theorem ggX7_readSlope_X10_takeNumber : GoodIn wsX7_readSlope wsX10_takeNumber := goodIn_r _ [27, 21, 10, 20, 19, 28, 29, 30, 8, 31, 18, 32, 33, 12, 13, 14, 15, 16, 17, 22, 23, 52, 53, 54, 55, 56, 57, 58, 59, 60, 61, 62] (by decide +kernel) (by decide +kernel)
set_option maxRecDepth 20000 in
theorem gX7_readSlope_X10_takeNumber : GoodIn wsX7_readSlope (wsV RX7 99 RX10 yX10_takeNumber wsX10_takeNumber) := goodIn_app (goodIn_of _ (by decide +kernel)) ggX7_readSlope_X10_takeNumber
set_option maxRecDepth 20000 in
theorem ggX7_readRow_X10_fail : GoodIn wsX7_readRow wsX10_fail := goodIn_r _ [10, 11, 65, 66, 67, 68, 69, 70, 71, 72, 73, 74, 75] (by decide +kernel) (by decide +kernel)
set_option maxRecDepth 20000 in
theorem gX7_readRow_X10_fail : GoodIn wsX7_readRow (wsV RX7 92 RX10 yX10_fail wsX10_fail) := goodIn_app (goodIn_of _ (by decide +kernel)) ggX7_readRow_X10_fail
set_option maxRecDepth 20000 in
theorem ggX7_readRow_X10_advance : GoodIn wsX7_readRow wsX10_advance := goodIn_r _ [15, 16, 17, 18, 19, 20, 21, 22, 23, 24, 65, 66, 67, 68, 69, 70, 71, 72, 73, 74, 75] (by decide +kernel) (by decide +kernel)
set_option maxRecDepth 20000 in
theorem gX7_readRow_X10_advance : GoodIn wsX7_readRow (wsV RX7 96 RX10 yX10_advance wsX10_advance) := goodIn_app (goodIn_of _ (by decide +kernel)) ggX7_readRow_X10_advance
set_option maxRecDepth 20000 in
theorem ggX7_readRow_X10_takeNumber : GoodIn wsX7_readRow wsX10_takeNumber := goodIn_r _ [28, 22, 11, 21, 20, 29, 30, 31, 9, 32, 19, 33, 34, 13, 14, 15, 16, 17, 18, 23, 24, 65, 66, 67, 68, 69, 70, 71, 72, 73, 74, 75] (by decide +kernel) (by decide +kernel)
set_option maxRecDepth 20000 in
theorem gX7_readRow_X10_takeNumber : GoodIn wsX7_readRow (wsV RX7 99 RX10 yX10_takeNumber wsX10_takeNumber) := goodIn_app (goodIn_of _ (by decide +kernel)) ggX7_readRow_X10_takeNumber
set_option maxRecDepth 20000 in
theorem ggX7_readRow_X5_dye : GoodIn wsX7_readRow wsX5_dye := goodIn_r _ [39, 40, 41, 42, 43, 38, 44, 45, 46, 55, 56, 57, 58, 59, 60, 61, 62, 63, 64] (by decide +kernel) (by decide +kernel)
set_option maxRecDepth 20000 in
theorem gX7_readRow_X5_dye : GoodIn wsX7_readRow (wsV RX7 127 RX5 yX5_dye wsX5_dye) := goodIn_app (goodIn_of _ (by decide +kernel)) ggX7_readRow_X5_dye
set_option maxRecDepth 20000 in
theorem ggX9_excess_X5_heightAt : GoodIn wsX9_excess wsX5_heightAt := goodIn_r _ [10, 11, 12, 13, 14, 15, 16, 17, 18, 19, 20, 21, 22, 23] (by decide +kernel) (by decide +kernel)
set_option maxRecDepth 20000 in
theorem gX9_excess_X5_heightAt : GoodIn wsX9_excess (wsV RX9 7 RX5 yX5_heightAt wsX5_heightAt) := goodIn_app (goodIn_of _ (by decide +kernel)) ggX9_excess_X5_heightAt
set_option maxRecDepth 20000 in
theorem ggX9_lengthOf_X5_heightAt : GoodIn wsX9_lengthOf wsX5_heightAt := goodIn_r _ [5, 6, 7, 8, 18, 19, 20, 21, 22, 23, 24, 25, 26, 27] (by decide +kernel) (by decide +kernel)
set_option maxRecDepth 20000 in
theorem gX9_lengthOf_X5_heightAt : GoodIn wsX9_lengthOf (wsV RX9 7 RX5 yX5_heightAt wsX5_heightAt) := goodIn_app (goodIn_of _ (by decide +kernel)) ggX9_lengthOf_X5_heightAt
set_option maxRecDepth 20000 in
theorem ggX9_lengthOf_X9_excess : GoodIn wsX9_lengthOf wsX9_excess := goodIn_r _ [12, 13, 14, 15, 16, 17, 1, 2, 3, 4, 5, 6, 7, 8, 18, 19, 20, 21, 22, 23, 24, 25, 26, 27] (by decide +kernel) (by decide +kernel)
set_option maxRecDepth 20000 in
theorem gX9_lengthOf_X9_excess : GoodIn wsX9_lengthOf (va_wsS RX9 22 yX9_excess wsX9_excess) := goodIn_app (goodIn_of _ (by decide +kernel)) ggX9_lengthOf_X9_excess
set_option maxRecDepth 20000 in
theorem ggX9_countOfCells_X9_excess : GoodIn wsX9_countOfCells wsX9_excess := goodIn_r _ [6, 7, 8, 9, 10, 11, 12, 13, 14, 15, 16, 17, 18, 19, 20, 21, 22, 23, 24, 25, 26, 27, 28, 29] (by decide +kernel) (by decide +kernel)
set_option maxRecDepth 20000 in
theorem gX9_countOfCells_X9_excess : GoodIn wsX9_countOfCells (va_wsS RX9 22 yX9_excess wsX9_excess) := goodIn_app (goodIn_of _ (by decide +kernel)) ggX9_countOfCells_X9_excess
set_option maxRecDepth 20000 in
theorem ggX9_sumOfLengths_X9_sumOfCell : GoodIn wsX9_sumOfLengths wsX9_sumOfCell := goodIn_r _ [6, 7, 8, 9, 10, 11, 12, 13, 14, 15, 16, 5, 17, 18, 19, 20, 21, 22, 23, 24, 25, 26, 27, 28, 29, 30, 31, 32, 33, 34, 35] (by decide +kernel) (by decide +kernel)
set_option maxRecDepth 20000 in
theorem gX9_sumOfLengths_X9_sumOfCell : GoodIn wsX9_sumOfLengths (va_wsS RX9 34 yX9_sumOfCell wsX9_sumOfCell) := goodIn_app (goodIn_of _ (by decide +kernel)) ggX9_sumOfLengths_X9_sumOfCell
set_option maxRecDepth 20000 in
theorem ggX9_sumOfCell_X5_heightAt : GoodIn wsX9_sumOfCell wsX5_heightAt := goodIn_r _ [5, 6, 7, 8, 21, 22, 23, 24, 25, 26, 27, 28, 29, 30] (by decide +kernel) (by decide +kernel)
set_option maxRecDepth 20000 in
theorem gX9_sumOfCell_X5_heightAt : GoodIn wsX9_sumOfCell (wsV RX9 7 RX5 yX5_heightAt wsX5_heightAt) := goodIn_app (goodIn_of _ (by decide +kernel)) ggX9_sumOfCell_X5_heightAt
set_option maxRecDepth 20000 in
theorem ggX9_sumOfCell_X9_excess : GoodIn wsX9_sumOfCell wsX9_excess := goodIn_r _ [12, 13, 14, 15, 16, 17, 1, 2, 3, 4, 5, 6, 7, 8, 21, 22, 23, 24, 25, 26, 27, 28, 29, 30] (by decide +kernel) (by decide +kernel)
set_option maxRecDepth 20000 in
theorem gX9_sumOfCell_X9_excess : GoodIn wsX9_sumOfCell (va_wsS RX9 22 yX9_excess wsX9_excess) := goodIn_app (goodIn_of _ (by decide +kernel)) ggX9_sumOfCell_X9_excess
set_option maxRecDepth 20000 in
theorem ggX9_sumOfCell_X9_lengthOf : GoodIn wsX9_sumOfCell wsX9_lengthOf := goodIn_r _ [20, 1, 2, 3, 4, 5, 6, 7, 8, 9, 10, 11, 12, 13, 14, 15, 16, 17, 21, 22, 23, 24, 25, 26, 27, 28, 29, 30] (by decide +kernel) (by decide +kernel)
set_option maxRecDepth 20000 in
theorem gX9_sumOfCell_X9_lengthOf : GoodIn wsX9_sumOfCell (va_wsS RX9 37 yX9_lengthOf wsX9_lengthOf) := goodIn_app (goodIn_of _ (by decide +kernel)) ggX9_sumOfCell_X9_lengthOf
set_option maxRecDepth 20000 in
theorem ggX9_settle_X5_heightAt : GoodIn wsX9_settle wsX5_heightAt := goodIn_r _ [7, 8, 9, 10, 28, 29, 30, 31, 32, 33, 34, 35, 36, 37] (by decide +kernel) (by decide +kernel)
set_option maxRecDepth 20000 in
theorem gX9_settle_X5_heightAt : GoodIn wsX9_settle (wsV RX9 7 RX5 yX5_heightAt wsX5_heightAt) := goodIn_app (goodIn_of _ (by decide +kernel)) ggX9_settle_X5_heightAt
set_option maxRecDepth 20000 in
theorem ggX9_settle_X9_excess : GoodIn wsX9_settle wsX9_excess := goodIn_r _ [14, 15, 16, 17, 18, 19, 3, 4, 5, 6, 7, 8, 9, 10, 28, 29, 30, 31, 32, 33, 34, 35, 36, 37] (by decide +kernel) (by decide +kernel)
set_option maxRecDepth 20000 in
theorem gX9_settle_X9_excess : GoodIn wsX9_settle (va_wsS RX9 22 yX9_excess wsX9_excess) := goodIn_app (goodIn_of _ (by decide +kernel)) ggX9_settle_X9_excess
set_option maxRecDepth 20000 in
theorem ggX9_settle_X5_build : GoodIn wsX9_settle wsX5_build := goodIn_r _ [23, 10, 24, 25, 26, 6, 27, 8, 9, 28, 29, 30, 31, 32, 33, 34, 35, 36, 37] (by decide +kernel) (by decide +kernel)
set_option maxRecDepth 20000 in
theorem gX9_settle_X5_build : GoodIn wsX9_settle (wsV RX9 41 RX5 yX5_build wsX5_build) := goodIn_app (goodIn_of _ (by decide +kernel)) ggX9_settle_X5_build
set_option maxRecDepth 20000 in
theorem ggX9_leastSlope_X5_heightAt : GoodIn wsX9_leastSlope wsX5_heightAt := goodIn_r _ [11, 12, 13, 14, 15, 16, 17, 18, 19, 20, 21, 22, 23, 24] (by decide +kernel) (by decide +kernel)
set_option maxRecDepth 20000 in
theorem gX9_leastSlope_X5_heightAt : GoodIn wsX9_leastSlope (wsV RX9 7 RX5 yX5_heightAt wsX5_heightAt) := goodIn_app (goodIn_of _ (by decide +kernel)) ggX9_leastSlope_X5_heightAt
set_option maxRecDepth 20000 in
theorem ggX10_append_X10_appendByte : GoodIn wsX10_append wsX10_appendByte := goodIn_r _ [5, 6, 7, 8, 9, 10, 11, 12, 13, 14, 15, 16, 17, 18] (by decide +kernel) (by decide +kernel)
set_option maxRecDepth 20000 in
theorem gX10_append_X10_appendByte : GoodIn wsX10_append (wsV RX10 29 RX10 yX10_appendByte wsX10_appendByte) := goodIn_app (goodIn_of _ (by decide +kernel)) ggX10_append_X10_appendByte
set_option maxRecDepth 20000 in
theorem ggX10_begin_X10_byteAt : GoodIn wsX10_begin wsX10_byteAt := goodIn_r _ [9, 3, 10, 32, 33, 34, 35, 36, 37, 38, 39, 40, 41, 42] (by decide +kernel) (by decide +kernel)
set_option maxRecDepth 20000 in
theorem gX10_begin_X10_byteAt : GoodIn wsX10_begin (wsV RX10 39 RX10 yX10_byteAt wsX10_byteAt) := goodIn_app (goodIn_of _ (by decide +kernel)) ggX10_begin_X10_byteAt
