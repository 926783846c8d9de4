theorem dL_feed_0 : decode cL_feed 0 = .ok (.aload 6, 2) := by decide +kernel
theorem dL_feed_2 : decode cL_feed 2 = .ok (.iconst 0, 1) := by decide +kernel
theorem dL_feed_3 : decode cL_feed 3 = .ok (.aload_n 0, 1) := by decide +kernel
theorem dL_feed_4 : decode cL_feed 4 = .ok (.iload_n 1, 1) := by decide +kernel
theorem dL_feed_5 : decode cL_feed 5 = .ok (.iload_n 2, 1) := by decide +kernel
theorem dL_feed_6 : decode cL_feed 6 = .ok (.iload_n 3, 1) := by decide +kernel
theorem dL_feed_7 : decode cL_feed 7 = .ok (.iload 4, 2) := by decide +kernel
theorem dL_feed_9 : decode cL_feed 9 = .ok (.iload 5, 2) := by decide +kernel
theorem dL_feed_11 : decode cL_feed 11 = .ok (.invokevirtual 7, 3) := by decide +kernel
theorem dL_feed_14 : decode cL_feed 14 = .ok (.i2l, 1) := by decide +kernel
theorem dL_feed_15 : decode cL_feed 15 = .ok (.lastore, 1) := by decide +kernel
theorem dL_feed_16 : decode cL_feed 16 = .ok (.goto 7, 3) := by decide +kernel
theorem dL_feed_19 : decode cL_feed 19 = .ok (.astore 7, 2) := by decide +kernel
theorem dL_feed_21 : decode cL_feed 21 = .ok (.iconst 1, 1) := by decide +kernel
theorem dL_feed_22 : decode cL_feed 22 = .ok (.ireturn, 1) := by decide +kernel
theorem dL_feed_23 : decode cL_feed 23 = .ok (.iconst 0, 1) := by decide +kernel
theorem dL_feed_24 : decode cL_feed 24 = .ok (.ireturn, 1) := by decide +kernel
theorem dL_truncate_0 : decode cL_truncate 0 = .ok (.aload_n 2, 1) := by decide +kernel
theorem dL_truncate_1 : decode cL_truncate 1 = .ok (.iconst 0, 1) := by decide +kernel
theorem dL_truncate_2 : decode cL_truncate 2 = .ok (.aload_n 0, 1) := by decide +kernel
theorem dL_truncate_3 : decode cL_truncate 3 = .ok (.iload_n 1, 1) := by decide +kernel
theorem dL_truncate_4 : decode cL_truncate 4 = .ok (.invokevirtual 15, 3) := by decide +kernel
theorem dL_truncate_7 : decode cL_truncate 7 = .ok (.i2l, 1) := by decide +kernel
theorem dL_truncate_8 : decode cL_truncate 8 = .ok (.lastore, 1) := by decide +kernel
theorem dL_truncate_9 : decode cL_truncate 9 = .ok (.goto 6, 3) := by decide +kernel
theorem dL_truncate_12 : decode cL_truncate 12 = .ok (.astore_n 3, 1) := by decide +kernel
theorem dL_truncate_13 : decode cL_truncate 13 = .ok (.iconst 1, 1) := by decide +kernel
theorem dL_truncate_14 : decode cL_truncate 14 = .ok (.ireturn, 1) := by decide +kernel
theorem dL_truncate_15 : decode cL_truncate 15 = .ok (.iconst 0, 1) := by decide +kernel
theorem dL_truncate_16 : decode cL_truncate 16 = .ok (.ireturn, 1) := by decide +kernel
theorem dL_readText_0 : decode cL_readText 0 = .ok (.aload_n 1, 1) := by decide +kernel
theorem dL_readText_1 : decode cL_readText 1 = .ok (.iconst 0, 1) := by decide +kernel
theorem dL_readText_2 : decode cL_readText 2 = .ok (.aload_n 0, 1) := by decide +kernel
theorem dL_readText_3 : decode cL_readText 3 = .ok (.invokevirtual 21, 3) := by decide +kernel
theorem dL_readText_6 : decode cL_readText 6 = .ok (.i2l, 1) := by decide +kernel
theorem dL_readText_7 : decode cL_readText 7 = .ok (.lastore, 1) := by decide +kernel
theorem dL_readText_8 : decode cL_readText 8 = .ok (.goto 6, 3) := by decide +kernel
theorem dL_readText_11 : decode cL_readText 11 = .ok (.astore_n 2, 1) := by decide +kernel
theorem dL_readText_12 : decode cL_readText 12 = .ok (.iconst 1, 1) := by decide +kernel
theorem dL_readText_13 : decode cL_readText 13 = .ok (.ireturn, 1) := by decide +kernel
theorem dL_readText_14 : decode cL_readText 14 = .ok (.iconst 0, 1) := by decide +kernel
theorem dL_readText_15 : decode cL_readText 15 = .ok (.ireturn, 1) := by decide +kernel
theorem dL_runScript_0 : decode cL_runScript 0 = .ok (.aload_n 1, 1) := by decide +kernel
theorem dL_runScript_1 : decode cL_runScript 1 = .ok (.iconst 0, 1) := by decide +kernel
theorem dL_runScript_2 : decode cL_runScript 2 = .ok (.aload_n 0, 1) := by decide +kernel
theorem dL_runScript_3 : decode cL_runScript 3 = .ok (.invokevirtual 25, 3) := by decide +kernel
theorem dL_runScript_6 : decode cL_runScript 6 = .ok (.i2l, 1) := by decide +kernel
theorem dL_runScript_7 : decode cL_runScript 7 = .ok (.lastore, 1) := by decide +kernel
theorem dL_runScript_8 : decode cL_runScript 8 = .ok (.goto 6, 3) := by decide +kernel
theorem dL_runScript_11 : decode cL_runScript 11 = .ok (.astore_n 2, 1) := by decide +kernel
theorem dL_runScript_12 : decode cL_runScript 12 = .ok (.iconst 1, 1) := by decide +kernel
theorem dL_runScript_13 : decode cL_runScript 13 = .ok (.ireturn, 1) := by decide +kernel
theorem dL_runScript_14 : decode cL_runScript 14 = .ok (.iconst 0, 1) := by decide +kernel
theorem dL_runScript_15 : decode cL_runScript 15 = .ok (.ireturn, 1) := by decide +kernel
theorem dL_setting_0 : decode cL_setting 0 = .ok (.aload_n 2, 1) := by decide +kernel
theorem dL_setting_1 : decode cL_setting 1 = .ok (.iconst 0, 1) := by decide +kernel
theorem dL_setting_2 : decode cL_setting 2 = .ok (.aload_n 0, 1) := by decide +kernel
theorem dL_setting_3 : decode cL_setting 3 = .ok (.iload_n 1, 1) := by decide +kernel
theorem dL_setting_4 : decode cL_setting 4 = .ok (.invokevirtual 28, 3) := by decide +kernel
theorem dL_setting_7 : decode cL_setting 7 = .ok (.i2l, 1) := by decide +kernel
theorem dL_setting_8 : decode cL_setting 8 = .ok (.lastore, 1) := by decide +kernel
theorem dL_setting_9 : decode cL_setting 9 = .ok (.goto 6, 3) := by decide +kernel
theorem dL_setting_12 : decode cL_setting 12 = .ok (.astore_n 3, 1) := by decide +kernel
theorem dL_setting_13 : decode cL_setting 13 = .ok (.iconst 1, 1) := by decide +kernel
theorem dL_setting_14 : decode cL_setting 14 = .ok (.ireturn, 1) := by decide +kernel
theorem dL_setting_15 : decode cL_setting 15 = .ok (.iconst 0, 1) := by decide +kernel
theorem dL_setting_16 : decode cL_setting 16 = .ok (.ireturn, 1) := by decide +kernel
theorem dL_tone_0 : decode cL_tone 0 = .ok (.aload_n 3, 1) := by decide +kernel
theorem dL_tone_1 : decode cL_tone 1 = .ok (.iconst 0, 1) := by decide +kernel
theorem dL_tone_2 : decode cL_tone 2 = .ok (.aload_n 0, 1) := by decide +kernel
theorem dL_tone_3 : decode cL_tone 3 = .ok (.iload_n 1, 1) := by decide +kernel
theorem dL_tone_4 : decode cL_tone 4 = .ok (.iload_n 2, 1) := by decide +kernel
theorem dL_tone_5 : decode cL_tone 5 = .ok (.invokevirtual 31, 3) := by decide +kernel
theorem dL_tone_8 : decode cL_tone 8 = .ok (.i2l, 1) := by decide +kernel
theorem dL_tone_9 : decode cL_tone 9 = .ok (.lastore, 1) := by decide +kernel
theorem dL_tone_10 : decode cL_tone 10 = .ok (.goto 7, 3) := by decide +kernel
theorem dL_tone_13 : decode cL_tone 13 = .ok (.astore 4, 2) := by decide +kernel
theorem dL_tone_15 : decode cL_tone 15 = .ok (.iconst 1, 1) := by decide +kernel
theorem dL_tone_16 : decode cL_tone 16 = .ok (.ireturn, 1) := by decide +kernel
theorem dL_tone_17 : decode cL_tone 17 = .ok (.iconst 0, 1) := by decide +kernel
theorem dL_tone_18 : decode cL_tone 18 = .ok (.ireturn, 1) := by decide +kernel
theorem dL_height_0 : decode cL_height 0 = .ok (.aload_n 3, 1) := by decide +kernel
theorem dL_height_1 : decode cL_height 1 = .ok (.iconst 0, 1) := by decide +kernel
theorem dL_height_2 : decode cL_height 2 = .ok (.aload_n 0, 1) := by decide +kernel
theorem dL_height_3 : decode cL_height 3 = .ok (.iload_n 1, 1) := by decide +kernel
theorem dL_height_4 : decode cL_height 4 = .ok (.iload_n 2, 1) := by decide +kernel
theorem dL_height_5 : decode cL_height 5 = .ok (.invokevirtual 37, 3) := by decide +kernel
theorem dL_height_8 : decode cL_height 8 = .ok (.i2l, 1) := by decide +kernel
theorem dL_height_9 : decode cL_height 9 = .ok (.lastore, 1) := by decide +kernel
theorem dL_height_10 : decode cL_height 10 = .ok (.goto 7, 3) := by decide +kernel
theorem dL_height_13 : decode cL_height 13 = .ok (.astore 4, 2) := by decide +kernel
theorem dL_height_15 : decode cL_height 15 = .ok (.iconst 1, 1) := by decide +kernel
theorem dL_height_16 : decode cL_height 16 = .ok (.ireturn, 1) := by decide +kernel
theorem dL_height_17 : decode cL_height 17 = .ok (.iconst 0, 1) := by decide +kernel
theorem dL_height_18 : decode cL_height 18 = .ok (.ireturn, 1) := by decide +kernel
theorem dL_cellsOf_0 : decode cL_cellsOf 0 = .ok (.aload_n 2, 1) := by decide +kernel
theorem dL_cellsOf_1 : decode cL_cellsOf 1 = .ok (.iconst 0, 1) := by decide +kernel
theorem dL_cellsOf_2 : decode cL_cellsOf 2 = .ok (.aload_n 0, 1) := by decide +kernel
theorem dL_cellsOf_3 : decode cL_cellsOf 3 = .ok (.iload_n 1, 1) := by decide +kernel
theorem dL_cellsOf_4 : decode cL_cellsOf 4 = .ok (.invokevirtual 40, 3) := by decide +kernel
theorem dL_cellsOf_7 : decode cL_cellsOf 7 = .ok (.i2l, 1) := by decide +kernel
theorem dL_cellsOf_8 : decode cL_cellsOf 8 = .ok (.lastore, 1) := by decide +kernel
theorem dL_cellsOf_9 : decode cL_cellsOf 9 = .ok (.goto 6, 3) := by decide +kernel
theorem dL_cellsOf_12 : decode cL_cellsOf 12 = .ok (.astore_n 3, 1) := by decide +kernel
theorem dL_cellsOf_13 : decode cL_cellsOf 13 = .ok (.iconst 1, 1) := by decide +kernel
theorem dL_cellsOf_14 : decode cL_cellsOf 14 = .ok (.ireturn, 1) := by decide +kernel
theorem dL_cellsOf_15 : decode cL_cellsOf 15 = .ok (.iconst 0, 1) := by decide +kernel
theorem dL_cellsOf_16 : decode cL_cellsOf 16 = .ok (.ireturn, 1) := by decide +kernel
theorem dL_light_0 : decode cL_light 0 = .ok (.aload_n 2, 1) := by decide +kernel
theorem dL_light_1 : decode cL_light 1 = .ok (.iconst 0, 1) := by decide +kernel
theorem dL_light_2 : decode cL_light 2 = .ok (.aload_n 0, 1) := by decide +kernel
theorem dL_light_3 : decode cL_light 3 = .ok (.iload_n 1, 1) := by decide +kernel
theorem dL_light_4 : decode cL_light 4 = .ok (.invokevirtual 43, 3) := by decide +kernel
theorem dL_light_7 : decode cL_light 7 = .ok (.f2d, 1) := by decide +kernel
theorem dL_light_8 : decode cL_light 8 = .ok (.dastore, 1) := by decide +kernel
theorem dL_light_9 : decode cL_light 9 = .ok (.goto 6, 3) := by decide +kernel
theorem dL_light_12 : decode cL_light 12 = .ok (.astore_n 3, 1) := by decide +kernel
theorem dL_light_13 : decode cL_light 13 = .ok (.iconst 1, 1) := by decide +kernel
theorem dL_light_14 : decode cL_light 14 = .ok (.ireturn, 1) := by decide +kernel
theorem dL_light_15 : decode cL_light 15 = .ok (.iconst 0, 1) := by decide +kernel
theorem dL_light_16 : decode cL_light 16 = .ok (.ireturn, 1) := by decide +kernel
theorem dL_heightFor_0 : decode cL_heightFor 0 = .ok (.aload_n 2, 1) := by decide +kernel
theorem dL_heightFor_1 : decode cL_heightFor 1 = .ok (.iconst 0, 1) := by decide +kernel
theorem dL_heightFor_2 : decode cL_heightFor 2 = .ok (.aload_n 0, 1) := by decide +kernel
theorem dL_heightFor_3 : decode cL_heightFor 3 = .ok (.iload_n 1, 1) := by decide +kernel
theorem dL_heightFor_4 : decode cL_heightFor 4 = .ok (.invokevirtual 47, 3) := by decide +kernel
theorem dL_heightFor_7 : decode cL_heightFor 7 = .ok (.i2l, 1) := by decide +kernel
theorem dL_heightFor_8 : decode cL_heightFor 8 = .ok (.lastore, 1) := by decide +kernel
theorem dL_heightFor_9 : decode cL_heightFor 9 = .ok (.goto 6, 3) := by decide +kernel
theorem dL_heightFor_12 : decode cL_heightFor 12 = .ok (.astore_n 3, 1) := by decide +kernel
theorem dL_heightFor_13 : decode cL_heightFor 13 = .ok (.iconst 1, 1) := by decide +kernel
theorem dL_heightFor_14 : decode cL_heightFor 14 = .ok (.ireturn, 1) := by decide +kernel
theorem dL_heightFor_15 : decode cL_heightFor 15 = .ok (.iconst 0, 1) := by decide +kernel
theorem dL_heightFor_16 : decode cL_heightFor 16 = .ok (.ireturn, 1) := by decide +kernel
theorem dL_wanted_0 : decode cL_wanted 0 = .ok (.aload_n 3, 1) := by decide +kernel
theorem dL_wanted_1 : decode cL_wanted 1 = .ok (.iconst 0, 1) := by decide +kernel
theorem dL_wanted_2 : decode cL_wanted 2 = .ok (.aload_n 0, 1) := by decide +kernel
theorem dL_wanted_3 : decode cL_wanted 3 = .ok (.iload_n 1, 1) := by decide +kernel
theorem dL_wanted_4 : decode cL_wanted 4 = .ok (.iload_n 2, 1) := by decide +kernel
theorem dL_wanted_5 : decode cL_wanted 5 = .ok (.invokevirtual 50, 3) := by decide +kernel
theorem dL_wanted_8 : decode cL_wanted 8 = .ok (.f2d, 1) := by decide +kernel
theorem dL_wanted_9 : decode cL_wanted 9 = .ok (.dastore, 1) := by decide +kernel
theorem dL_wanted_10 : decode cL_wanted 10 = .ok (.goto 7, 3) := by decide +kernel
theorem dL_wanted_13 : decode cL_wanted 13 = .ok (.astore 4, 2) := by decide +kernel
theorem dL_wanted_15 : decode cL_wanted 15 = .ok (.iconst 1, 1) := by decide +kernel
theorem dL_wanted_16 : decode cL_wanted 16 = .ok (.ireturn, 1) := by decide +kernel
theorem dL_wanted_17 : decode cL_wanted 17 = .ok (.iconst 0, 1) := by decide +kernel
theorem dL_wanted_18 : decode cL_wanted 18 = .ok (.ireturn, 1) := by decide +kernel
theorem dL_estimate_0 : decode cL_estimate 0 = .ok (.aload_n 3, 1) := by decide +kernel
theorem dL_estimate_1 : decode cL_estimate 1 = .ok (.iconst 0, 1) := by decide +kernel
theorem dL_estimate_2 : decode cL_estimate 2 = .ok (.aload_n 0, 1) := by decide +kernel
theorem dL_estimate_3 : decode cL_estimate 3 = .ok (.iload_n 1, 1) := by decide +kernel
theorem dL_estimate_4 : decode cL_estimate 4 = .ok (.iload_n 2, 1) := by decide +kernel
theorem dL_estimate_5 : decode cL_estimate 5 = .ok (.invokevirtual 54, 3) := by decide +kernel
theorem dL_estimate_8 : decode cL_estimate 8 = .ok (.f2d, 1) := by decide +kernel
theorem dL_estimate_9 : decode cL_estimate 9 = .ok (.dastore, 1) := by decide +kernel
theorem dL_estimate_10 : decode cL_estimate 10 = .ok (.goto 7, 3) := by decide +kernel
theorem dL_estimate_13 : decode cL_estimate 13 = .ok (.astore 4, 2) := by decide +kernel
theorem dL_estimate_15 : decode cL_estimate 15 = .ok (.iconst 1, 1) := by decide +kernel
theorem dL_estimate_16 : decode cL_estimate 16 = .ok (.ireturn, 1) := by decide +kernel
theorem dL_estimate_17 : decode cL_estimate 17 = .ok (.iconst 0, 1) := by decide +kernel
theorem dL_estimate_18 : decode cL_estimate 18 = .ok (.ireturn, 1) := by decide +kernel
theorem dL_error_0 : decode cL_error 0 = .ok (.aload_n 3, 1) := by decide +kernel
theorem dL_error_1 : decode cL_error 1 = .ok (.iconst 0, 1) := by decide +kernel
theorem dL_error_2 : decode cL_error 2 = .ok (.aload_n 0, 1) := by decide +kernel
theorem dL_error_3 : decode cL_error 3 = .ok (.iload_n 1, 1) := by decide +kernel
theorem dL_error_4 : decode cL_error 4 = .ok (.iload_n 2, 1) := by decide +kernel
theorem dL_error_5 : decode cL_error 5 = .ok (.invokevirtual 57, 3) := by decide +kernel
theorem dL_error_8 : decode cL_error 8 = .ok (.f2d, 1) := by decide +kernel
theorem dL_error_9 : decode cL_error 9 = .ok (.dastore, 1) := by decide +kernel
theorem dL_error_10 : decode cL_error 10 = .ok (.goto 7, 3) := by decide +kernel
theorem dL_error_13 : decode cL_error 13 = .ok (.astore 4, 2) := by decide +kernel
theorem dL_error_15 : decode cL_error 15 = .ok (.iconst 1, 1) := by decide +kernel
theorem dL_error_16 : decode cL_error 16 = .ok (.ireturn, 1) := by decide +kernel
theorem dL_error_17 : decode cL_error 17 = .ok (.iconst 0, 1) := by decide +kernel
theorem dL_error_18 : decode cL_error 18 = .ok (.ireturn, 1) := by decide +kernel
theorem dL_isThin_0 : decode cL_isThin 0 = .ok (.aload_n 3, 1) := by decide +kernel
theorem dL_isThin_1 : decode cL_isThin 1 = .ok (.iconst 0, 1) := by decide +kernel
theorem dL_isThin_2 : decode cL_isThin 2 = .ok (.aload_n 0, 1) := by decide +kernel
theorem dL_isThin_3 : decode cL_isThin 3 = .ok (.iload_n 1, 1) := by decide +kernel
theorem dL_isThin_4 : decode cL_isThin 4 = .ok (.iload_n 2, 1) := by decide +kernel
theorem dL_isThin_5 : decode cL_isThin 5 = .ok (.invokevirtual 60, 3) := by decide +kernel
theorem dL_isThin_8 : decode cL_isThin 8 = .ok (.ifCond .eq 7, 3) := by decide +kernel
theorem dL_isThin_11 : decode cL_isThin 11 = .ok (.lconst 1, 1) := by decide +kernel
theorem dL_isThin_12 : decode cL_isThin 12 = .ok (.goto 4, 3) := by decide +kernel
theorem dL_isThin_15 : decode cL_isThin 15 = .ok (.lconst 0, 1) := by decide +kernel
theorem dL_isThin_16 : decode cL_isThin 16 = .ok (.lastore, 1) := by decide +kernel
theorem dL_isThin_17 : decode cL_isThin 17 = .ok (.goto 7, 3) := by decide +kernel
theorem dL_isThin_20 : decode cL_isThin 20 = .ok (.astore 4, 2) := by decide +kernel
theorem dL_isThin_22 : decode cL_isThin 22 = .ok (.iconst 1, 1) := by decide +kernel
theorem dL_isThin_23 : decode cL_isThin 23 = .ok (.ireturn, 1) := by decide +kernel
theorem dL_isThin_24 : decode cL_isThin 24 = .ok (.iconst 0, 1) := by decide +kernel
theorem dL_isThin_25 : decode cL_isThin 25 = .ok (.ireturn, 1) := by decide +kernel
theorem dL_smooth_0 : decode cL_smooth 0 = .ok (.aload_n 2, 1) := by decide +kernel
theorem dL_smooth_1 : decode cL_smooth 1 = .ok (.iconst 0, 1) := by decide +kernel
theorem dL_smooth_2 : decode cL_smooth 2 = .ok (.aload_n 0, 1) := by decide +kernel
theorem dL_smooth_3 : decode cL_smooth 3 = .ok (.iload_n 1, 1) := by decide +kernel
theorem dL_smooth_4 : decode cL_smooth 4 = .ok (.invokevirtual 64, 3) := by decide +kernel
theorem dL_smooth_7 : decode cL_smooth 7 = .ok (.i2l, 1) := by decide +kernel
theorem dL_smooth_8 : decode cL_smooth 8 = .ok (.lastore, 1) := by decide +kernel
theorem dL_smooth_9 : decode cL_smooth 9 = .ok (.goto 6, 3) := by decide +kernel
theorem dL_smooth_12 : decode cL_smooth 12 = .ok (.astore_n 3, 1) := by decide +kernel
theorem dL_smooth_13 : decode cL_smooth 13 = .ok (.iconst 1, 1) := by decide +kernel
theorem dL_smooth_14 : decode cL_smooth 14 = .ok (.ireturn, 1) := by decide +kernel
theorem dL_smooth_15 : decode cL_smooth 15 = .ok (.iconst 0, 1) := by decide +kernel
theorem dL_smooth_16 : decode cL_smooth 16 = .ok (.ireturn, 1) := by decide +kernel
theorem dL_overhang_0 : decode cL_overhang 0 = .ok (.aload_n 3, 1) := by decide +kernel
theorem dL_overhang_1 : decode cL_overhang 1 = .ok (.iconst 0, 1) := by decide +kernel
theorem dL_overhang_2 : decode cL_overhang 2 = .ok (.aload_n 0, 1) := by decide +kernel
theorem dL_overhang_3 : decode cL_overhang 3 = .ok (.iload_n 1, 1) := by decide +kernel
theorem dL_overhang_4 : decode cL_overhang 4 = .ok (.iload_n 2, 1) := by decide +kernel
theorem dL_overhang_5 : decode cL_overhang 5 = .ok (.invokevirtual 67, 3) := by decide +kernel
theorem dL_overhang_8 : decode cL_overhang 8 = .ok (.i2l, 1) := by decide +kernel
theorem dL_overhang_9 : decode cL_overhang 9 = .ok (.lastore, 1) := by decide +kernel
theorem dL_overhang_10 : decode cL_overhang 10 = .ok (.goto 7, 3) := by decide +kernel
theorem dL_overhang_13 : decode cL_overhang 13 = .ok (.astore 4, 2) := by decide +kernel
theorem dL_overhang_15 : decode cL_overhang 15 = .ok (.iconst 1, 1) := by decide +kernel
theorem dL_overhang_16 : decode cL_overhang 16 = .ok (.ireturn, 1) := by decide +kernel
theorem dL_overhang_17 : decode cL_overhang 17 = .ok (.iconst 0, 1) := by decide +kernel
theorem dL_overhang_18 : decode cL_overhang 18 = .ok (.ireturn, 1) := by decide +kernel
theorem dL_supportOf_0 : decode cL_supportOf 0 = .ok (.aload 4, 2) := by decide +kernel
theorem dL_supportOf_2 : decode cL_supportOf 2 = .ok (.iconst 0, 1) := by decide +kernel
theorem dL_supportOf_3 : decode cL_supportOf 3 = .ok (.aload_n 0, 1) := by decide +kernel
theorem dL_supportOf_4 : decode cL_supportOf 4 = .ok (.iload_n 1, 1) := by decide +kernel
theorem dL_supportOf_5 : decode cL_supportOf 5 = .ok (.iload_n 2, 1) := by decide +kernel
theorem dL_supportOf_6 : decode cL_supportOf 6 = .ok (.iload_n 3, 1) := by decide +kernel
theorem dL_supportOf_7 : decode cL_supportOf 7 = .ok (.invokevirtual 70, 3) := by decide +kernel
theorem dL_supportOf_10 : decode cL_supportOf 10 = .ok (.i2l, 1) := by decide +kernel
theorem dL_supportOf_11 : decode cL_supportOf 11 = .ok (.lastore, 1) := by decide +kernel
theorem dL_supportOf_12 : decode cL_supportOf 12 = .ok (.goto 11, 3) := by decide +kernel
theorem dL_supportOf_15 : decode cL_supportOf 15 = .ok (.astore 5, 2) := by decide +kernel
theorem dL_supportOf_17 : decode cL_supportOf 17 = .ok (.iconst 1, 1) := by decide +kernel
theorem dL_supportOf_18 : decode cL_supportOf 18 = .ok (.ireturn, 1) := by decide +kernel
theorem dL_supportOf_19 : decode cL_supportOf 19 = .ok (.astore 5, 2) := by decide +kernel
theorem dL_supportOf_21 : decode cL_supportOf 21 = .ok (.iconst 2, 1) := by decide +kernel
theorem dL_supportOf_22 : decode cL_supportOf 22 = .ok (.ireturn, 1) := by decide +kernel
theorem dL_supportOf_23 : decode cL_supportOf 23 = .ok (.iconst 0, 1) := by decide +kernel
theorem dL_supportOf_24 : decode cL_supportOf 24 = .ok (.ireturn, 1) := by decide +kernel
theorem dL_layerCells_0 : decode cL_layerCells 0 = .ok (.aload_n 2, 1) := by decide +kernel
theorem dL_layerCells_1 : decode cL_layerCells 1 = .ok (.iconst 0, 1) := by decide +kernel
theorem dL_layerCells_2 : decode cL_layerCells 2 = .ok (.aload_n 0, 1) := by decide +kernel
theorem dL_layerCells_3 : decode cL_layerCells 3 = .ok (.iload_n 1, 1) := by decide +kernel
theorem dL_layerCells_4 : decode cL_layerCells 4 = .ok (.invokevirtual 74, 3) := by decide +kernel
theorem dL_layerCells_7 : decode cL_layerCells 7 = .ok (.i2l, 1) := by decide +kernel
theorem dL_layerCells_8 : decode cL_layerCells 8 = .ok (.lastore, 1) := by decide +kernel
theorem dL_layerCells_9 : decode cL_layerCells 9 = .ok (.goto 6, 3) := by decide +kernel
theorem dL_layerCells_12 : decode cL_layerCells 12 = .ok (.astore_n 3, 1) := by decide +kernel
theorem dL_layerCells_13 : decode cL_layerCells 13 = .ok (.iconst 1, 1) := by decide +kernel
theorem dL_layerCells_14 : decode cL_layerCells 14 = .ok (.ireturn, 1) := by decide +kernel
theorem dL_layerCells_15 : decode cL_layerCells 15 = .ok (.iconst 0, 1) := by decide +kernel
theorem dL_layerCells_16 : decode cL_layerCells 16 = .ok (.ireturn, 1) := by decide +kernel
theorem dL_runs_0 : decode cL_runs 0 = .ok (.aload_n 2, 1) := by decide +kernel
theorem dL_runs_1 : decode cL_runs 1 = .ok (.iconst 0, 1) := by decide +kernel
theorem dL_runs_2 : decode cL_runs 2 = .ok (.aload_n 0, 1) := by decide +kernel
theorem dL_runs_3 : decode cL_runs 3 = .ok (.iload_n 1, 1) := by decide +kernel
theorem dL_runs_4 : decode cL_runs 4 = .ok (.invokevirtual 77, 3) := by decide +kernel
theorem dL_runs_7 : decode cL_runs 7 = .ok (.i2l, 1) := by decide +kernel
theorem dL_runs_8 : decode cL_runs 8 = .ok (.lastore, 1) := by decide +kernel
theorem dL_runs_9 : decode cL_runs 9 = .ok (.goto 6, 3) := by decide +kernel
theorem dL_runs_12 : decode cL_runs 12 = .ok (.astore_n 3, 1) := by decide +kernel
theorem dL_runs_13 : decode cL_runs 13 = .ok (.iconst 1, 1) := by decide +kernel
theorem dL_runs_14 : decode cL_runs 14 = .ok (.ireturn, 1) := by decide +kernel
theorem dL_runs_15 : decode cL_runs 15 = .ok (.iconst 0, 1) := by decide +kernel
theorem dL_runs_16 : decode cL_runs 16 = .ok (.ireturn, 1) := by decide +kernel
theorem dL_rectangles_0 : decode cL_rectangles 0 = .ok (.aload_n 2, 1) := by decide +kernel
theorem dL_rectangles_1 : decode cL_rectangles 1 = .ok (.iconst 0, 1) := by decide +kernel
theorem dL_rectangles_2 : decode cL_rectangles 2 = .ok (.aload_n 0, 1) := by decide +kernel
theorem dL_rectangles_3 : decode cL_rectangles 3 = .ok (.iload_n 1, 1) := by decide +kernel
theorem dL_rectangles_4 : decode cL_rectangles 4 = .ok (.invokevirtual 80, 3) := by decide +kernel
theorem dL_rectangles_7 : decode cL_rectangles 7 = .ok (.i2l, 1) := by decide +kernel
theorem dL_rectangles_8 : decode cL_rectangles 8 = .ok (.lastore, 1) := by decide +kernel
theorem dL_rectangles_9 : decode cL_rectangles 9 = .ok (.goto 6, 3) := by decide +kernel
theorem dL_rectangles_12 : decode cL_rectangles 12 = .ok (.astore_n 3, 1) := by decide +kernel
theorem dL_rectangles_13 : decode cL_rectangles 13 = .ok (.iconst 1, 1) := by decide +kernel
theorem dL_rectangles_14 : decode cL_rectangles 14 = .ok (.ireturn, 1) := by decide +kernel
theorem dL_rectangles_15 : decode cL_rectangles 15 = .ok (.iconst 0, 1) := by decide +kernel
theorem dL_rectangles_16 : decode cL_rectangles 16 = .ok (.ireturn, 1) := by decide +kernel
theorem dL_rectangle_0 : decode cL_rectangle 0 = .ok (.aload 4, 2) := by decide +kernel
theorem dL_rectangle_2 : decode cL_rectangle 2 = .ok (.iconst 0, 1) := by decide +kernel
theorem dL_rectangle_3 : decode cL_rectangle 3 = .ok (.aload_n 0, 1) := by decide +kernel
theorem dL_rectangle_4 : decode cL_rectangle 4 = .ok (.iload_n 1, 1) := by decide +kernel
theorem dL_rectangle_5 : decode cL_rectangle 5 = .ok (.iload_n 2, 1) := by decide +kernel
theorem dL_rectangle_6 : decode cL_rectangle 6 = .ok (.iload_n 3, 1) := by decide +kernel
theorem dL_rectangle_7 : decode cL_rectangle 7 = .ok (.invokevirtual 83, 3) := by decide +kernel
theorem dL_rectangle_10 : decode cL_rectangle 10 = .ok (.i2l, 1) := by decide +kernel
theorem dL_rectangle_11 : decode cL_rectangle 11 = .ok (.lastore, 1) := by decide +kernel
theorem dL_rectangle_12 : decode cL_rectangle 12 = .ok (.goto 11, 3) := by decide +kernel
theorem dL_rectangle_15 : decode cL_rectangle 15 = .ok (.astore 5, 2) := by decide +kernel
theorem dL_rectangle_17 : decode cL_rectangle 17 = .ok (.iconst 1, 1) := by decide +kernel
theorem dL_rectangle_18 : decode cL_rectangle 18 = .ok (.ireturn, 1) := by decide +kernel
theorem dL_rectangle_19 : decode cL_rectangle 19 = .ok (.astore 5, 2) := by decide +kernel
theorem dL_rectangle_21 : decode cL_rectangle 21 = .ok (.iconst 2, 1) := by decide +kernel
theorem dL_rectangle_22 : decode cL_rectangle 22 = .ok (.ireturn, 1) := by decide +kernel
theorem dL_rectangle_23 : decode cL_rectangle 23 = .ok (.iconst 0, 1) := by decide +kernel
theorem dL_rectangle_24 : decode cL_rectangle 24 = .ok (.ireturn, 1) := by decide +kernel
theorem dL_rectangleAt_0 : decode cL_rectangleAt 0 = .ok (.aload 4, 2) := by decide +kernel
theorem dL_rectangleAt_2 : decode cL_rectangleAt 2 = .ok (.iconst 0, 1) := by decide +kernel
theorem dL_rectangleAt_3 : decode cL_rectangleAt 3 = .ok (.aload_n 0, 1) := by decide +kernel
theorem dL_rectangleAt_4 : decode cL_rectangleAt 4 = .ok (.iload_n 1, 1) := by decide +kernel
theorem dL_rectangleAt_5 : decode cL_rectangleAt 5 = .ok (.iload_n 2, 1) := by decide +kernel
theorem dL_rectangleAt_6 : decode cL_rectangleAt 6 = .ok (.iload_n 3, 1) := by decide +kernel
theorem dL_rectangleAt_7 : decode cL_rectangleAt 7 = .ok (.invokevirtual 86, 3) := by decide +kernel
theorem dL_rectangleAt_10 : decode cL_rectangleAt 10 = .ok (.i2l, 1) := by decide +kernel
theorem dL_rectangleAt_11 : decode cL_rectangleAt 11 = .ok (.lastore, 1) := by decide +kernel
theorem dL_rectangleAt_12 : decode cL_rectangleAt 12 = .ok (.goto 11, 3) := by decide +kernel
theorem dL_rectangleAt_15 : decode cL_rectangleAt 15 = .ok (.astore 5, 2) := by decide +kernel
theorem dL_rectangleAt_17 : decode cL_rectangleAt 17 = .ok (.iconst 1, 1) := by decide +kernel
theorem dL_rectangleAt_18 : decode cL_rectangleAt 18 = .ok (.ireturn, 1) := by decide +kernel
theorem dL_rectangleAt_19 : decode cL_rectangleAt 19 = .ok (.astore 5, 2) := by decide +kernel
theorem dL_rectangleAt_21 : decode cL_rectangleAt 21 = .ok (.iconst 2, 1) := by decide +kernel
theorem dL_rectangleAt_22 : decode cL_rectangleAt 22 = .ok (.ireturn, 1) := by decide +kernel
theorem dL_rectangleAt_23 : decode cL_rectangleAt 23 = .ok (.iconst 0, 1) := by decide +kernel
theorem dL_rectangleAt_24 : decode cL_rectangleAt 24 = .ok (.ireturn, 1) := by decide +kernel
theorem dL_largest_0 : decode cL_largest 0 = .ok (.aload_n 2, 1) := by decide +kernel
theorem dL_largest_1 : decode cL_largest 1 = .ok (.iconst 0, 1) := by decide +kernel
theorem dL_largest_2 : decode cL_largest 2 = .ok (.aload_n 0, 1) := by decide +kernel
theorem dL_largest_3 : decode cL_largest 3 = .ok (.iload_n 1, 1) := by decide +kernel
theorem dL_largest_4 : decode cL_largest 4 = .ok (.invokevirtual 89, 3) := by decide +kernel
theorem dL_largest_7 : decode cL_largest 7 = .ok (.i2l, 1) := by decide +kernel
theorem dL_largest_8 : decode cL_largest 8 = .ok (.lastore, 1) := by decide +kernel
theorem dL_largest_9 : decode cL_largest 9 = .ok (.goto 6, 3) := by decide +kernel
theorem dL_largest_12 : decode cL_largest 12 = .ok (.astore_n 3, 1) := by decide +kernel
theorem dL_largest_13 : decode cL_largest 13 = .ok (.iconst 1, 1) := by decide +kernel
theorem dL_largest_14 : decode cL_largest 14 = .ok (.ireturn, 1) := by decide +kernel
theorem dL_largest_15 : decode cL_largest 15 = .ok (.iconst 0, 1) := by decide +kernel
theorem dL_largest_16 : decode cL_largest 16 = .ok (.ireturn, 1) := by decide +kernel
theorem dL_shortest_0 : decode cL_shortest 0 = .ok (.aload_n 2, 1) := by decide +kernel
theorem dL_shortest_1 : decode cL_shortest 1 = .ok (.iconst 0, 1) := by decide +kernel
theorem dL_shortest_2 : decode cL_shortest 2 = .ok (.aload_n 0, 1) := by decide +kernel
theorem dL_shortest_3 : decode cL_shortest 3 = .ok (.iload_n 1, 1) := by decide +kernel
theorem dL_shortest_4 : decode cL_shortest 4 = .ok (.invokevirtual 92, 3) := by decide +kernel
theorem dL_shortest_7 : decode cL_shortest 7 = .ok (.i2l, 1) := by decide +kernel
theorem dL_shortest_8 : decode cL_shortest 8 = .ok (.lastore, 1) := by decide +kernel
theorem dL_shortest_9 : decode cL_shortest 9 = .ok (.goto 6, 3) := by decide +kernel
theorem dL_shortest_12 : decode cL_shortest 12 = .ok (.astore_n 3, 1) := by decide +kernel
theorem dL_shortest_13 : decode cL_shortest 13 = .ok (.iconst 1, 1) := by decide +kernel
theorem dL_shortest_14 : decode cL_shortest 14 = .ok (.ireturn, 1) := by decide +kernel
theorem dL_shortest_15 : decode cL_shortest 15 = .ok (.iconst 0, 1) := by decide +kernel
theorem dL_shortest_16 : decode cL_shortest 16 = .ok (.ireturn, 1) := by decide +kernel
theorem dL_parts_0 : decode cL_parts 0 = .ok (.aload_n 2, 1) := by decide +kernel
theorem dL_parts_1 : decode cL_parts 1 = .ok (.iconst 0, 1) := by decide +kernel
theorem dL_parts_2 : decode cL_parts 2 = .ok (.aload_n 0, 1) := by decide +kernel
theorem dL_parts_3 : decode cL_parts 3 = .ok (.iload_n 1, 1) := by decide +kernel
theorem dL_parts_4 : decode cL_parts 4 = .ok (.invokevirtual 95, 3) := by decide +kernel
theorem dL_parts_7 : decode cL_parts 7 = .ok (.i2l, 1) := by decide +kernel
theorem dL_parts_8 : decode cL_parts 8 = .ok (.lastore, 1) := by decide +kernel
theorem dL_parts_9 : decode cL_parts 9 = .ok (.goto 6, 3) := by decide +kernel
theorem dL_parts_12 : decode cL_parts 12 = .ok (.astore_n 3, 1) := by decide +kernel
theorem dL_parts_13 : decode cL_parts 13 = .ok (.iconst 1, 1) := by decide +kernel
theorem dL_parts_14 : decode cL_parts 14 = .ok (.ireturn, 1) := by decide +kernel
theorem dL_parts_15 : decode cL_parts 15 = .ok (.iconst 0, 1) := by decide +kernel
theorem dL_parts_16 : decode cL_parts 16 = .ok (.ireturn, 1) := by decide +kernel
theorem dL_outline_0 : decode cL_outline 0 = .ok (.aload_n 2, 1) := by decide +kernel
theorem dL_outline_1 : decode cL_outline 1 = .ok (.iconst 0, 1) := by decide +kernel
theorem dL_outline_2 : decode cL_outline 2 = .ok (.aload_n 0, 1) := by decide +kernel
theorem dL_outline_3 : decode cL_outline 3 = .ok (.iload_n 1, 1) := by decide +kernel
theorem dL_outline_4 : decode cL_outline 4 = .ok (.invokevirtual 98, 3) := by decide +kernel
theorem dL_outline_7 : decode cL_outline 7 = .ok (.i2l, 1) := by decide +kernel
theorem dL_outline_8 : decode cL_outline 8 = .ok (.lastore, 1) := by decide +kernel
theorem dL_outline_9 : decode cL_outline 9 = .ok (.goto 6, 3) := by decide +kernel
theorem dL_outline_12 : decode cL_outline 12 = .ok (.astore_n 3, 1) := by decide +kernel
theorem dL_outline_13 : decode cL_outline 13 = .ok (.iconst 1, 1) := by decide +kernel
theorem dL_outline_14 : decode cL_outline 14 = .ok (.ireturn, 1) := by decide +kernel
theorem dL_outline_15 : decode cL_outline 15 = .ok (.iconst 0, 1) := by decide +kernel
theorem dL_outline_16 : decode cL_outline 16 = .ok (.ireturn, 1) := by decide +kernel
theorem dL_hollows_0 : decode cL_hollows 0 = .ok (.aload_n 2, 1) := by decide +kernel
theorem dL_hollows_1 : decode cL_hollows 1 = .ok (.iconst 0, 1) := by decide +kernel
theorem dL_hollows_2 : decode cL_hollows 2 = .ok (.aload_n 0, 1) := by decide +kernel
theorem dL_hollows_3 : decode cL_hollows 3 = .ok (.iload_n 1, 1) := by decide +kernel
theorem dL_hollows_4 : decode cL_hollows 4 = .ok (.invokevirtual 101, 3) := by decide +kernel
theorem dL_hollows_7 : decode cL_hollows 7 = .ok (.i2l, 1) := by decide +kernel
theorem dL_hollows_8 : decode cL_hollows 8 = .ok (.lastore, 1) := by decide +kernel
theorem dL_hollows_9 : decode cL_hollows 9 = .ok (.goto 6, 3) := by decide +kernel
theorem dL_hollows_12 : decode cL_hollows 12 = .ok (.astore_n 3, 1) := by decide +kernel
theorem dL_hollows_13 : decode cL_hollows 13 = .ok (.iconst 1, 1) := by decide +kernel
theorem dL_hollows_14 : decode cL_hollows 14 = .ok (.ireturn, 1) := by decide +kernel
theorem dL_hollows_15 : decode cL_hollows 15 = .ok (.iconst 0, 1) := by decide +kernel
theorem dL_hollows_16 : decode cL_hollows 16 = .ok (.ireturn, 1) := by decide +kernel
theorem dL_setTone_0 : decode cL_setTone 0 = .ok (.aload 4, 2) := by decide +kernel
theorem dL_setTone_2 : decode cL_setTone 2 = .ok (.iconst 0, 1) := by decide +kernel
theorem dL_setTone_3 : decode cL_setTone 3 = .ok (.aload_n 0, 1) := by decide +kernel
theorem dL_setTone_4 : decode cL_setTone 4 = .ok (.iload_n 1, 1) := by decide +kernel
theorem dL_setTone_5 : decode cL_setTone 5 = .ok (.iload_n 2, 1) := by decide +kernel
theorem dL_setTone_6 : decode cL_setTone 6 = .ok (.iload_n 3, 1) := by decide +kernel
theorem dL_setTone_7 : decode cL_setTone 7 = .ok (.invokevirtual 104, 3) := by decide +kernel
theorem dL_setTone_10 : decode cL_setTone 10 = .ok (.i2l, 1) := by decide +kernel
theorem dL_setTone_11 : decode cL_setTone 11 = .ok (.lastore, 1) := by decide +kernel
theorem dL_setTone_12 : decode cL_setTone 12 = .ok (.goto 11, 3) := by decide +kernel
theorem dL_setTone_15 : decode cL_setTone 15 = .ok (.astore 5, 2) := by decide +kernel
theorem dL_setTone_17 : decode cL_setTone 17 = .ok (.iconst 1, 1) := by decide +kernel
theorem dL_setTone_18 : decode cL_setTone 18 = .ok (.ireturn, 1) := by decide +kernel
theorem dL_setTone_19 : decode cL_setTone 19 = .ok (.astore 5, 2) := by decide +kernel
theorem dL_setTone_21 : decode cL_setTone 21 = .ok (.iconst 2, 1) := by decide +kernel
theorem dL_setTone_22 : decode cL_setTone 22 = .ok (.ireturn, 1) := by decide +kernel
theorem dL_setTone_23 : decode cL_setTone 23 = .ok (.iconst 0, 1) := by decide +kernel
theorem dL_setTone_24 : decode cL_setTone 24 = .ok (.ireturn, 1) := by decide +kernel
theorem dL_setHeight_0 : decode cL_setHeight 0 = .ok (.aload 4, 2) := by decide +kernel
theorem dL_setHeight_2 : decode cL_setHeight 2 = .ok (.iconst 0, 1) := by decide +kernel
theorem dL_setHeight_3 : decode cL_setHeight 3 = .ok (.aload_n 0, 1) := by decide +kernel
theorem dL_setHeight_4 : decode cL_setHeight 4 = .ok (.iload_n 1, 1) := by decide +kernel
theorem dL_setHeight_5 : decode cL_setHeight 5 = .ok (.iload_n 2, 1) := by decide +kernel
theorem dL_setHeight_6 : decode cL_setHeight 6 = .ok (.iload_n 3, 1) := by decide +kernel
theorem dL_setHeight_7 : decode cL_setHeight 7 = .ok (.invokevirtual 107, 3) := by decide +kernel
theorem dL_setHeight_10 : decode cL_setHeight 10 = .ok (.i2l, 1) := by decide +kernel
theorem dL_setHeight_11 : decode cL_setHeight 11 = .ok (.lastore, 1) := by decide +kernel
theorem dL_setHeight_12 : decode cL_setHeight 12 = .ok (.goto 11, 3) := by decide +kernel
theorem dL_setHeight_15 : decode cL_setHeight 15 = .ok (.astore 5, 2) := by decide +kernel
theorem dL_setHeight_17 : decode cL_setHeight 17 = .ok (.iconst 1, 1) := by decide +kernel
theorem dL_setHeight_18 : decode cL_setHeight 18 = .ok (.ireturn, 1) := by decide +kernel
theorem dL_setHeight_19 : decode cL_setHeight 19 = .ok (.astore 5, 2) := by decide +kernel
theorem dL_setHeight_21 : decode cL_setHeight 21 = .ok (.iconst 2, 1) := by decide +kernel
theorem dL_setHeight_22 : decode cL_setHeight 22 = .ok (.ireturn, 1) := by decide +kernel
theorem dL_setHeight_23 : decode cL_setHeight 23 = .ok (.iconst 0, 1) := by decide +kernel
theorem dL_setHeight_24 : decode cL_setHeight 24 = .ok (.ireturn, 1) := by decide +kernel
theorem dL_fill_0 : decode cL_fill 0 = .ok (.aload 6, 2) := by decide +kernel
theorem dL_fill_2 : decode cL_fill 2 = .ok (.iconst 0, 1) := by decide +kernel
theorem dL_fill_3 : decode cL_fill 3 = .ok (.aload_n 0, 1) := by decide +kernel
theorem dL_fill_4 : decode cL_fill 4 = .ok (.iload_n 1, 1) := by decide +kernel
theorem dL_fill_5 : decode cL_fill 5 = .ok (.iload_n 2, 1) := by decide +kernel
theorem dL_fill_6 : decode cL_fill 6 = .ok (.iload_n 3, 1) := by decide +kernel
theorem dL_fill_7 : decode cL_fill 7 = .ok (.iload 4, 2) := by decide +kernel
theorem dL_fill_9 : decode cL_fill 9 = .ok (.iload 5, 2) := by decide +kernel
theorem dL_fill_11 : decode cL_fill 11 = .ok (.invokevirtual 110, 3) := by decide +kernel
theorem dL_fill_14 : decode cL_fill 14 = .ok (.i2l, 1) := by decide +kernel
theorem dL_fill_15 : decode cL_fill 15 = .ok (.lastore, 1) := by decide +kernel
theorem dL_fill_16 : decode cL_fill 16 = .ok (.goto 11, 3) := by decide +kernel
theorem dL_fill_19 : decode cL_fill 19 = .ok (.astore 7, 2) := by decide +kernel
theorem dL_fill_21 : decode cL_fill 21 = .ok (.iconst 1, 1) := by decide +kernel
theorem dL_fill_22 : decode cL_fill 22 = .ok (.ireturn, 1) := by decide +kernel
theorem dL_fill_23 : decode cL_fill 23 = .ok (.astore 7, 2) := by decide +kernel
theorem dL_fill_25 : decode cL_fill 25 = .ok (.iconst 2, 1) := by decide +kernel
theorem dL_fill_26 : decode cL_fill 26 = .ok (.ireturn, 1) := by decide +kernel
theorem dL_fill_27 : decode cL_fill 27 = .ok (.iconst 0, 1) := by decide +kernel
theorem dL_fill_28 : decode cL_fill 28 = .ok (.ireturn, 1) := by decide +kernel
theorem dL_lighten_0 : decode cL_lighten 0 = .ok (.aload_n 2, 1) := by decide +kernel
theorem dL_lighten_1 : decode cL_lighten 1 = .ok (.iconst 0, 1) := by decide +kernel
theorem dL_lighten_2 : decode cL_lighten 2 = .ok (.aload_n 0, 1) := by decide +kernel
theorem dL_lighten_3 : decode cL_lighten 3 = .ok (.iload_n 1, 1) := by decide +kernel
theorem dL_lighten_4 : decode cL_lighten 4 = .ok (.invokevirtual 113, 3) := by decide +kernel
theorem dL_lighten_7 : decode cL_lighten 7 = .ok (.i2l, 1) := by decide +kernel
theorem dL_lighten_8 : decode cL_lighten 8 = .ok (.lastore, 1) := by decide +kernel
theorem dL_lighten_9 : decode cL_lighten 9 = .ok (.goto 6, 3) := by decide +kernel
theorem dL_lighten_12 : decode cL_lighten 12 = .ok (.astore_n 3, 1) := by decide +kernel
theorem dL_lighten_13 : decode cL_lighten 13 = .ok (.iconst 1, 1) := by decide +kernel
theorem dL_lighten_14 : decode cL_lighten 14 = .ok (.ireturn, 1) := by decide +kernel
theorem dL_lighten_15 : decode cL_lighten 15 = .ok (.iconst 0, 1) := by decide +kernel
theorem dL_lighten_16 : decode cL_lighten 16 = .ok (.ireturn, 1) := by decide +kernel
theorem dL_putStamp_0 : decode cL_putStamp 0 = .ok (.aload 6, 2) := by decide +kernel
theorem dL_putStamp_2 : decode cL_putStamp 2 = .ok (.iconst 0, 1) := by decide +kernel
theorem dL_putStamp_3 : decode cL_putStamp 3 = .ok (.aload_n 0, 1) := by decide +kernel
theorem dL_putStamp_4 : decode cL_putStamp 4 = .ok (.iload_n 1, 1) := by decide +kernel
theorem dL_putStamp_5 : decode cL_putStamp 5 = .ok (.iload_n 2, 1) := by decide +kernel
theorem dL_putStamp_6 : decode cL_putStamp 6 = .ok (.iload_n 3, 1) := by decide +kernel
theorem dL_putStamp_7 : decode cL_putStamp 7 = .ok (.iload 4, 2) := by decide +kernel
theorem dL_putStamp_9 : decode cL_putStamp 9 = .ok (.iload 5, 2) := by decide +kernel
theorem dL_putStamp_11 : decode cL_putStamp 11 = .ok (.invokevirtual 116, 3) := by decide +kernel
theorem dL_putStamp_14 : decode cL_putStamp 14 = .ok (.ifCond .eq 7, 3) := by decide +kernel
theorem dL_putStamp_17 : decode cL_putStamp 17 = .ok (.lconst 1, 1) := by decide +kernel
theorem dL_putStamp_18 : decode cL_putStamp 18 = .ok (.goto 4, 3) := by decide +kernel
theorem dL_putStamp_21 : decode cL_putStamp 21 = .ok (.lconst 0, 1) := by decide +kernel
theorem dL_putStamp_22 : decode cL_putStamp 22 = .ok (.lastore, 1) := by decide +kernel
theorem dL_putStamp_23 : decode cL_putStamp 23 = .ok (.goto 11, 3) := by decide +kernel
theorem dL_putStamp_26 : decode cL_putStamp 26 = .ok (.astore 7, 2) := by decide +kernel
theorem dL_putStamp_28 : decode cL_putStamp 28 = .ok (.iconst 1, 1) := by decide +kernel
theorem dL_putStamp_29 : decode cL_putStamp 29 = .ok (.ireturn, 1) := by decide +kernel
theorem dL_putStamp_30 : decode cL_putStamp 30 = .ok (.astore 7, 2) := by decide +kernel
theorem dL_putStamp_32 : decode cL_putStamp 32 = .ok (.iconst 2, 1) := by decide +kernel
theorem dL_putStamp_33 : decode cL_putStamp 33 = .ok (.ireturn, 1) := by decide +kernel
theorem dL_putStamp_34 : decode cL_putStamp 34 = .ok (.iconst 0, 1) := by decide +kernel
theorem dL_putStamp_35 : decode cL_putStamp 35 = .ok (.ireturn, 1) := by decide +kernel
theorem dL_takeStamp_0 : decode cL_takeStamp 0 = .ok (.aload_n 3, 1) := by decide +kernel
theorem dL_takeStamp_1 : decode cL_takeStamp 1 = .ok (.iconst 0, 1) := by decide +kernel
theorem dL_takeStamp_2 : decode cL_takeStamp 2 = .ok (.aload_n 0, 1) := by decide +kernel
theorem dL_takeStamp_3 : decode cL_takeStamp 3 = .ok (.iload_n 1, 1) := by decide +kernel
theorem dL_takeStamp_4 : decode cL_takeStamp 4 = .ok (.iload_n 2, 1) := by decide +kernel
theorem dL_takeStamp_5 : decode cL_takeStamp 5 = .ok (.invokevirtual 120, 3) := by decide +kernel
theorem dL_takeStamp_8 : decode cL_takeStamp 8 = .ok (.ifCond .eq 7, 3) := by decide +kernel
theorem dL_takeStamp_11 : decode cL_takeStamp 11 = .ok (.lconst 1, 1) := by decide +kernel
theorem dL_takeStamp_12 : decode cL_takeStamp 12 = .ok (.goto 4, 3) := by decide +kernel
theorem dL_takeStamp_15 : decode cL_takeStamp 15 = .ok (.lconst 0, 1) := by decide +kernel
theorem dL_takeStamp_16 : decode cL_takeStamp 16 = .ok (.lastore, 1) := by decide +kernel
theorem dL_takeStamp_17 : decode cL_takeStamp 17 = .ok (.goto 7, 3) := by decide +kernel
theorem dL_takeStamp_20 : decode cL_takeStamp 20 = .ok (.astore 4, 2) := by decide +kernel
theorem dL_takeStamp_22 : decode cL_takeStamp 22 = .ok (.iconst 1, 1) := by decide +kernel
theorem dL_takeStamp_23 : decode cL_takeStamp 23 = .ok (.ireturn, 1) := by decide +kernel
theorem dL_takeStamp_24 : decode cL_takeStamp 24 = .ok (.iconst 0, 1) := by decide +kernel
theorem dL_takeStamp_25 : decode cL_takeStamp 25 = .ok (.ireturn, 1) := by decide +kernel
theorem dL_stampAt_0 : decode cL_stampAt 0 = .ok (.aload_n 3, 1) := by decide +kernel
theorem dL_stampAt_1 : decode cL_stampAt 1 = .ok (.iconst 0, 1) := by decide +kernel
theorem dL_stampAt_2 : decode cL_stampAt 2 = .ok (.aload_n 0, 1) := by decide +kernel
theorem dL_stampAt_3 : decode cL_stampAt 3 = .ok (.iload_n 1, 1) := by decide +kernel
theorem dL_stampAt_4 : decode cL_stampAt 4 = .ok (.iload_n 2, 1) := by decide +kernel
theorem dL_stampAt_5 : decode cL_stampAt 5 = .ok (.invokevirtual 123, 3) := by decide +kernel
theorem dL_stampAt_8 : decode cL_stampAt 8 = .ok (.i2l, 1) := by decide +kernel
theorem dL_stampAt_9 : decode cL_stampAt 9 = .ok (.lastore, 1) := by decide +kernel
theorem dL_stampAt_10 : decode cL_stampAt 10 = .ok (.goto 7, 3) := by decide +kernel
theorem dL_stampAt_13 : decode cL_stampAt 13 = .ok (.astore 4, 2) := by decide +kernel
theorem dL_stampAt_15 : decode cL_stampAt 15 = .ok (.iconst 1, 1) := by decide +kernel
theorem dL_stampAt_16 : decode cL_stampAt 16 = .ok (.ireturn, 1) := by decide +kernel
theorem dL_stampAt_17 : decode cL_stampAt 17 = .ok (.iconst 0, 1) := by decide +kernel
theorem dL_stampAt_18 : decode cL_stampAt 18 = .ok (.ireturn, 1) := by decide +kernel
theorem dL_moveStamp_0 : decode cL_moveStamp 0 = .ok (.aload 5, 2) := by decide +kernel
theorem dL_moveStamp_2 : decode cL_moveStamp 2 = .ok (.iconst 0, 1) := by decide +kernel
theorem dL_moveStamp_3 : decode cL_moveStamp 3 = .ok (.aload_n 0, 1) := by decide +kernel
theorem dL_moveStamp_4 : decode cL_moveStamp 4 = .ok (.iload_n 1, 1) := by decide +kernel
theorem dL_moveStamp_5 : decode cL_moveStamp 5 = .ok (.iload_n 2, 1) := by decide +kernel
theorem dL_moveStamp_6 : decode cL_moveStamp 6 = .ok (.iload_n 3, 1) := by decide +kernel
theorem dL_moveStamp_7 : decode cL_moveStamp 7 = .ok (.iload 4, 2) := by decide +kernel
theorem dL_moveStamp_9 : decode cL_moveStamp 9 = .ok (.invokevirtual 126, 3) := by decide +kernel
theorem dL_moveStamp_12 : decode cL_moveStamp 12 = .ok (.ifCond .eq 7, 3) := by decide +kernel
theorem dL_moveStamp_15 : decode cL_moveStamp 15 = .ok (.lconst 1, 1) := by decide +kernel
theorem dL_moveStamp_16 : decode cL_moveStamp 16 = .ok (.goto 4, 3) := by decide +kernel
theorem dL_moveStamp_19 : decode cL_moveStamp 19 = .ok (.lconst 0, 1) := by decide +kernel
theorem dL_moveStamp_20 : decode cL_moveStamp 20 = .ok (.lastore, 1) := by decide +kernel
theorem dL_moveStamp_21 : decode cL_moveStamp 21 = .ok (.goto 11, 3) := by decide +kernel
theorem dL_moveStamp_24 : decode cL_moveStamp 24 = .ok (.astore 6, 2) := by decide +kernel
theorem dL_moveStamp_26 : decode cL_moveStamp 26 = .ok (.iconst 1, 1) := by decide +kernel
theorem dL_moveStamp_27 : decode cL_moveStamp 27 = .ok (.ireturn, 1) := by decide +kernel
theorem dL_moveStamp_28 : decode cL_moveStamp 28 = .ok (.astore 6, 2) := by decide +kernel
theorem dL_moveStamp_30 : decode cL_moveStamp 30 = .ok (.iconst 2, 1) := by decide +kernel
theorem dL_moveStamp_31 : decode cL_moveStamp 31 = .ok (.ireturn, 1) := by decide +kernel
theorem dL_moveStamp_32 : decode cL_moveStamp 32 = .ok (.iconst 0, 1) := by decide +kernel
theorem dL_moveStamp_33 : decode cL_moveStamp 33 = .ok (.ireturn, 1) := by decide +kernel
theorem dL_stamp_0 : decode cL_stamp 0 = .ok (.aload 5, 2) := by decide +kernel
theorem dL_stamp_2 : decode cL_stamp 2 = .ok (.iconst 0, 1) := by decide +kernel
theorem dL_stamp_3 : decode cL_stamp 3 = .ok (.aload_n 0, 1) := by decide +kernel
theorem dL_stamp_4 : decode cL_stamp 4 = .ok (.iload_n 1, 1) := by decide +kernel
theorem dL_stamp_5 : decode cL_stamp 5 = .ok (.iload_n 2, 1) := by decide +kernel
theorem dL_stamp_6 : decode cL_stamp 6 = .ok (.iload_n 3, 1) := by decide +kernel
theorem dL_stamp_7 : decode cL_stamp 7 = .ok (.iload 4, 2) := by decide +kernel
theorem dL_stamp_9 : decode cL_stamp 9 = .ok (.invokevirtual 130, 3) := by decide +kernel
theorem dL_stamp_12 : decode cL_stamp 12 = .ok (.i2l, 1) := by decide +kernel
theorem dL_stamp_13 : decode cL_stamp 13 = .ok (.lastore, 1) := by decide +kernel
theorem dL_stamp_14 : decode cL_stamp 14 = .ok (.goto 11, 3) := by decide +kernel
theorem dL_stamp_17 : decode cL_stamp 17 = .ok (.astore 6, 2) := by decide +kernel
theorem dL_stamp_19 : decode cL_stamp 19 = .ok (.iconst 1, 1) := by decide +kernel
theorem dL_stamp_20 : decode cL_stamp 20 = .ok (.ireturn, 1) := by decide +kernel
theorem dL_stamp_21 : decode cL_stamp 21 = .ok (.astore 6, 2) := by decide +kernel
theorem dL_stamp_23 : decode cL_stamp 23 = .ok (.iconst 2, 1) := by decide +kernel
theorem dL_stamp_24 : decode cL_stamp 24 = .ok (.ireturn, 1) := by decide +kernel
theorem dL_stamp_25 : decode cL_stamp 25 = .ok (.iconst 0, 1) := by decide +kernel
theorem dL_stamp_26 : decode cL_stamp 26 = .ok (.ireturn, 1) := by decide +kernel
theorem dL_stampGain_0 : decode cL_stampGain 0 = .ok (.aload 5, 2) := by decide +kernel
theorem dL_stampGain_2 : decode cL_stampGain 2 = .ok (.iconst 0, 1) := by decide +kernel
theorem dL_stampGain_3 : decode cL_stampGain 3 = .ok (.aload_n 0, 1) := by decide +kernel
theorem dL_stampGain_4 : decode cL_stampGain 4 = .ok (.iload_n 1, 1) := by decide +kernel
theorem dL_stampGain_5 : decode cL_stampGain 5 = .ok (.iload_n 2, 1) := by decide +kernel
theorem dL_stampGain_6 : decode cL_stampGain 6 = .ok (.iload_n 3, 1) := by decide +kernel
theorem dL_stampGain_7 : decode cL_stampGain 7 = .ok (.iload 4, 2) := by decide +kernel
theorem dL_stampGain_9 : decode cL_stampGain 9 = .ok (.invokevirtual 134, 3) := by decide +kernel
theorem dL_stampGain_12 : decode cL_stampGain 12 = .ok (.i2l, 1) := by decide +kernel
theorem dL_stampGain_13 : decode cL_stampGain 13 = .ok (.lastore, 1) := by decide +kernel
theorem dL_stampGain_14 : decode cL_stampGain 14 = .ok (.goto 11, 3) := by decide +kernel
theorem dL_stampGain_17 : decode cL_stampGain 17 = .ok (.astore 6, 2) := by decide +kernel
theorem dL_stampGain_19 : decode cL_stampGain 19 = .ok (.iconst 1, 1) := by decide +kernel
theorem dL_stampGain_20 : decode cL_stampGain 20 = .ok (.ireturn, 1) := by decide +kernel
theorem dL_stampGain_21 : decode cL_stampGain 21 = .ok (.astore 6, 2) := by decide +kernel
theorem dL_stampGain_23 : decode cL_stampGain 23 = .ok (.iconst 2, 1) := by decide +kernel
theorem dL_stampGain_24 : decode cL_stampGain 24 = .ok (.ireturn, 1) := by decide +kernel
theorem dL_stampGain_25 : decode cL_stampGain 25 = .ok (.iconst 0, 1) := by decide +kernel
theorem dL_stampGain_26 : decode cL_stampGain 26 = .ok (.ireturn, 1) := by decide +kernel
theorem dL_reportByte_0 : decode cL_reportByte 0 = .ok (.aload_n 2, 1) := by decide +kernel
theorem dL_reportByte_1 : decode cL_reportByte 1 = .ok (.iconst 0, 1) := by decide +kernel
theorem dL_reportByte_2 : decode cL_reportByte 2 = .ok (.aload_n 0, 1) := by decide +kernel
theorem dL_reportByte_3 : decode cL_reportByte 3 = .ok (.iload_n 1, 1) := by decide +kernel
theorem dL_reportByte_4 : decode cL_reportByte 4 = .ok (.invokevirtual 137, 3) := by decide +kernel
theorem dL_reportByte_7 : decode cL_reportByte 7 = .ok (.i2l, 1) := by decide +kernel
theorem dL_reportByte_8 : decode cL_reportByte 8 = .ok (.lastore, 1) := by decide +kernel
theorem dL_reportByte_9 : decode cL_reportByte 9 = .ok (.goto 6, 3) := by decide +kernel
theorem dL_reportByte_12 : decode cL_reportByte 12 = .ok (.astore_n 3, 1) := by decide +kernel
theorem dL_reportByte_13 : decode cL_reportByte 13 = .ok (.iconst 1, 1) := by decide +kernel
theorem dL_reportByte_14 : decode cL_reportByte 14 = .ok (.ireturn, 1) := by decide +kernel
theorem dL_reportByte_15 : decode cL_reportByte 15 = .ok (.iconst 0, 1) := by decide +kernel
theorem dL_reportByte_16 : decode cL_reportByte 16 = .ok (.ireturn, 1) := by decide +kernel
theorem dL_save_0 : decode cL_save 0 = .ok (.aload_n 2, 1) := by decide +kernel
theorem dL_save_1 : decode cL_save 1 = .ok (.iconst 0, 1) := by decide +kernel
theorem dL_save_2 : decode cL_save 2 = .ok (.aload_n 0, 1) := by decide +kernel
theorem dL_save_3 : decode cL_save 3 = .ok (.iload_n 1, 1) := by decide +kernel
theorem dL_save_4 : decode cL_save 4 = .ok (.invokevirtual 140, 3) := by decide +kernel
theorem dL_save_7 : decode cL_save 7 = .ok (.i2l, 1) := by decide +kernel
theorem dL_save_8 : decode cL_save 8 = .ok (.lastore, 1) := by decide +kernel
theorem dL_save_9 : decode cL_save 9 = .ok (.goto 6, 3) := by decide +kernel
theorem dL_save_12 : decode cL_save 12 = .ok (.astore_n 3, 1) := by decide +kernel
theorem dL_save_13 : decode cL_save 13 = .ok (.iconst 1, 1) := by decide +kernel
theorem dL_save_14 : decode cL_save 14 = .ok (.ireturn, 1) := by decide +kernel
theorem dL_save_15 : decode cL_save 15 = .ok (.iconst 0, 1) := by decide +kernel
theorem dL_save_16 : decode cL_save 16 = .ok (.ireturn, 1) := by decide +kernel
theorem dL_restore_0 : decode cL_restore 0 = .ok (.aload_n 2, 1) := by decide +kernel
theorem dL_restore_1 : decode cL_restore 1 = .ok (.iconst 0, 1) := by decide +kernel
theorem dL_restore_2 : decode cL_restore 2 = .ok (.aload_n 0, 1) := by decide +kernel
theorem dL_restore_3 : decode cL_restore 3 = .ok (.iload_n 1, 1) := by decide +kernel
theorem dL_restore_4 : decode cL_restore 4 = .ok (.invokevirtual 143, 3) := by decide +kernel
theorem dL_restore_7 : decode cL_restore 7 = .ok (.i2l, 1) := by decide +kernel
theorem dL_restore_8 : decode cL_restore 8 = .ok (.lastore, 1) := by decide +kernel
theorem dL_restore_9 : decode cL_restore 9 = .ok (.goto 9, 3) := by decide +kernel
theorem dL_restore_12 : decode cL_restore 12 = .ok (.astore_n 3, 1) := by decide +kernel
theorem dL_restore_13 : decode cL_restore 13 = .ok (.iconst 1, 1) := by decide +kernel
theorem dL_restore_14 : decode cL_restore 14 = .ok (.ireturn, 1) := by decide +kernel
theorem dL_restore_15 : decode cL_restore 15 = .ok (.astore_n 3, 1) := by decide +kernel
theorem dL_restore_16 : decode cL_restore 16 = .ok (.iconst 2, 1) := by decide +kernel
theorem dL_restore_17 : decode cL_restore 17 = .ok (.ireturn, 1) := by decide +kernel
theorem dL_restore_18 : decode cL_restore 18 = .ok (.iconst 0, 1) := by decide +kernel
theorem dL_restore_19 : decode cL_restore 19 = .ok (.ireturn, 1) := by decide +kernel
theorem dL_law_0 : decode cL_law 0 = .ok (.new 8, 3) := by decide +kernel
theorem dL_law_3 : decode cL_law 3 = .ok (.dup, 1) := by decide +kernel
theorem dL_law_4 : decode cL_law 4 = .ok (.invokespecial 146, 3) := by decide +kernel
theorem dL_law_7 : decode cL_law 7 = .ok (.astore_n 1, 1) := by decide +kernel
theorem dL_law_8 : decode cL_law 8 = .ok (.new 147, 3) := by decide +kernel
theorem dL_law_11 : decode cL_law 11 = .ok (.dup, 1) := by decide +kernel
theorem dL_law_12 : decode cL_law 12 = .ok (.invokespecial 149, 3) := by decide +kernel
theorem dL_law_15 : decode cL_law 15 = .ok (.astore_n 2, 1) := by decide +kernel
theorem dL_law_16 : decode cL_law 16 = .ok (.iconst 1, 1) := by decide +kernel
theorem dL_law_17 : decode cL_law 17 = .ok (.newarray .long, 2) := by decide +kernel
theorem dL_law_19 : decode cL_law 19 = .ok (.astore_n 3, 1) := by decide +kernel
theorem dL_law_20 : decode cL_law 20 = .ok (.iconst 1, 1) := by decide +kernel
theorem dL_law_21 : decode cL_law 21 = .ok (.newarray .double, 2) := by decide +kernel
theorem dL_law_23 : decode cL_law 23 = .ok (.astore 4, 2) := by decide +kernel
theorem dL_law_25 : decode cL_law 25 = .ok (.iconst 0, 1) := by decide +kernel
theorem dL_law_26 : decode cL_law 26 = .ok (.istore 5, 2) := by decide +kernel
theorem dL_law_28 : decode cL_law 28 = .ok (.iload 5, 2) := by decide +kernel
theorem dL_law_30 : decode cL_law 30 = .ok (.aload_n 0, 1) := by decide +kernel
theorem dL_law_31 : decode cL_law 31 = .ok (.arraylength, 1) := by decide +kernel
theorem dL_law_32 : decode cL_law 32 = .ok (.bipush 6, 2) := by decide +kernel
theorem dL_law_34 : decode cL_law 34 = .ok (.isub, 1) := by decide +kernel
theorem dL_law_35 : decode cL_law 35 = .ok (.if_icmp .gt 3471, 3) := by decide +kernel
theorem dL_law_38 : decode cL_law 38 = .ok (.aload_n 0, 1) := by decide +kernel
theorem dL_law_39 : decode cL_law 39 = .ok (.iload 5, 2) := by decide +kernel
theorem dL_law_41 : decode cL_law 41 = .ok (.iaload, 1) := by decide +kernel
theorem dL_law_42 : decode cL_law 42 = .ok (.bipush 63, 2) := by decide +kernel
theorem dL_law_44 : decode cL_law 44 = .ok (.iand, 1) := by decide +kernel
theorem dL_law_45 : decode cL_law 45 = .ok (.tableswitch 3455 0 63 #[271, 375, 431, 475, 519, 532, 545, 601, 669, 737, 750, 806, 819, 897, 953, 1043, 1133, 1223, 1266, 1279, 1292, 1305, 1318, 1361, 1436, 1449, 1462, 1518, 1531, 1599, 1679, 1692, 1705, 1718, 1731, 1787, 1843, 1899, 1979, 2059, 2115, 2171, 2227, 2283, 2339, 2352, 2432, 2512, 2616, 2629, 2642, 2655, 2711, 2724, 2835, 2910, 2978, 3077, 3169, 3261, 3274, 3330, 3343, 3399], 271) := by decide +kernel
theorem dL_law_316 : decode cL_law 316 = .ok (.aload_n 1, 1) := by decide +kernel
theorem dL_law_317 : decode cL_law 317 = .ok (.aload_n 0, 1) := by decide +kernel
theorem dL_law_318 : decode cL_law 318 = .ok (.iload 5, 2) := by decide +kernel
theorem dL_law_320 : decode cL_law 320 = .ok (.iconst 1, 1) := by decide +kernel
theorem dL_law_321 : decode cL_law 321 = .ok (.iadd, 1) := by decide +kernel
theorem dL_law_322 : decode cL_law 322 = .ok (.iaload, 1) := by decide +kernel
theorem dL_law_323 : decode cL_law 323 = .ok (.aload_n 0, 1) := by decide +kernel
theorem dL_law_324 : decode cL_law 324 = .ok (.iload 5, 2) := by decide +kernel
theorem dL_law_326 : decode cL_law 326 = .ok (.iconst 2, 1) := by decide +kernel
theorem dL_law_327 : decode cL_law 327 = .ok (.iadd, 1) := by decide +kernel
theorem dL_law_328 : decode cL_law 328 = .ok (.iaload, 1) := by decide +kernel
theorem dL_law_329 : decode cL_law 329 = .ok (.aload_n 0, 1) := by decide +kernel
theorem dL_law_330 : decode cL_law 330 = .ok (.iload 5, 2) := by decide +kernel
theorem dL_law_332 : decode cL_law 332 = .ok (.iconst 3, 1) := by decide +kernel
theorem dL_law_333 : decode cL_law 333 = .ok (.iadd, 1) := by decide +kernel
theorem dL_law_334 : decode cL_law 334 = .ok (.iaload, 1) := by decide +kernel
theorem dL_law_335 : decode cL_law 335 = .ok (.aload_n 0, 1) := by decide +kernel
theorem dL_law_336 : decode cL_law 336 = .ok (.iload 5, 2) := by decide +kernel
theorem dL_law_338 : decode cL_law 338 = .ok (.iconst 4, 1) := by decide +kernel
theorem dL_law_339 : decode cL_law 339 = .ok (.iadd, 1) := by decide +kernel
theorem dL_law_340 : decode cL_law 340 = .ok (.iaload, 1) := by decide +kernel
theorem dL_law_341 : decode cL_law 341 = .ok (.aload_n 0, 1) := by decide +kernel
theorem dL_law_342 : decode cL_law 342 = .ok (.iload 5, 2) := by decide +kernel
theorem dL_law_344 : decode cL_law 344 = .ok (.iconst 5, 1) := by decide +kernel
theorem dL_law_345 : decode cL_law 345 = .ok (.iadd, 1) := by decide +kernel
theorem dL_law_346 : decode cL_law 346 = .ok (.iaload, 1) := by decide +kernel
theorem dL_law_347 : decode cL_law 347 = .ok (.aload_n 3, 1) := by decide +kernel
theorem dL_law_348 : decode cL_law 348 = .ok (.invokestatic 150, 3) := by decide +kernel
theorem dL_law_351 : decode cL_law 351 = .ok (.istore 6, 2) := by decide +kernel
theorem dL_law_353 : decode cL_law 353 = .ok (.aload_n 2, 1) := by decide +kernel
theorem dL_law_354 : decode cL_law 354 = .ok (.aload_n 0, 1) := by decide +kernel
theorem dL_law_355 : decode cL_law 355 = .ok (.iload 5, 2) := by decide +kernel
theorem dL_law_357 : decode cL_law 357 = .ok (.iconst 1, 1) := by decide +kernel
theorem dL_law_358 : decode cL_law 358 = .ok (.iadd, 1) := by decide +kernel
theorem dL_law_359 : decode cL_law 359 = .ok (.iaload, 1) := by decide +kernel
theorem dL_law_360 : decode cL_law 360 = .ok (.aload_n 0, 1) := by decide +kernel
theorem dL_law_361 : decode cL_law 361 = .ok (.iload 5, 2) := by decide +kernel
theorem dL_law_363 : decode cL_law 363 = .ok (.iconst 2, 1) := by decide +kernel
theorem dL_law_364 : decode cL_law 364 = .ok (.iadd, 1) := by decide +kernel
theorem dL_law_365 : decode cL_law 365 = .ok (.iaload, 1) := by decide +kernel
theorem dL_law_366 : decode cL_law 366 = .ok (.aload_n 0, 1) := by decide +kernel
theorem dL_law_367 : decode cL_law 367 = .ok (.iload 5, 2) := by decide +kernel
theorem dL_law_369 : decode cL_law 369 = .ok (.iconst 3, 1) := by decide +kernel
theorem dL_law_370 : decode cL_law 370 = .ok (.iadd, 1) := by decide +kernel
theorem dL_law_371 : decode cL_law 371 = .ok (.iaload, 1) := by decide +kernel
theorem dL_law_372 : decode cL_law 372 = .ok (.aload_n 0, 1) := by decide +kernel
theorem dL_law_373 : decode cL_law 373 = .ok (.iload 5, 2) := by decide +kernel
theorem dL_law_375 : decode cL_law 375 = .ok (.iconst 4, 1) := by decide +kernel
theorem dL_law_376 : decode cL_law 376 = .ok (.iadd, 1) := by decide +kernel
theorem dL_law_377 : decode cL_law 377 = .ok (.iaload, 1) := by decide +kernel
theorem dL_law_378 : decode cL_law 378 = .ok (.aload_n 0, 1) := by decide +kernel
theorem dL_law_379 : decode cL_law 379 = .ok (.iload 5, 2) := by decide +kernel
theorem dL_law_381 : decode cL_law 381 = .ok (.iconst 5, 1) := by decide +kernel
theorem dL_law_382 : decode cL_law 382 = .ok (.iadd, 1) := by decide +kernel
theorem dL_law_383 : decode cL_law 383 = .ok (.iaload, 1) := by decide +kernel
theorem dL_law_384 : decode cL_law 384 = .ok (.invokevirtual 155, 3) := by decide +kernel
theorem dL_law_387 : decode cL_law 387 = .ok (.istore 7, 2) := by decide +kernel
theorem dL_law_389 : decode cL_law 389 = .ok (.aload_n 2, 1) := by decide +kernel
theorem dL_law_390 : decode cL_law 390 = .ok (.invokevirtual 156, 3) := by decide +kernel
theorem dL_law_393 : decode cL_law 393 = .ok (.iload 6, 2) := by decide +kernel
theorem dL_law_395 : decode cL_law 395 = .ok (.if_icmp .eq 5, 3) := by decide +kernel
theorem dL_law_398 : decode cL_law 398 = .ok (.iconst 0, 1) := by decide +kernel
theorem dL_law_399 : decode cL_law 399 = .ok (.ireturn, 1) := by decide +kernel
theorem dL_law_400 : decode cL_law 400 = .ok (.iload 6, 2) := by decide +kernel
theorem dL_law_402 : decode cL_law 402 = .ok (.ifCond .ne 15, 3) := by decide +kernel
theorem dL_law_405 : decode cL_law 405 = .ok (.aload_n 3, 1) := by decide +kernel
theorem dL_law_406 : decode cL_law 406 = .ok (.iconst 0, 1) := by decide +kernel
theorem dL_law_407 : decode cL_law 407 = .ok (.laload, 1) := by decide +kernel
theorem dL_law_408 : decode cL_law 408 = .ok (.iload 7, 2) := by decide +kernel
theorem dL_law_410 : decode cL_law 410 = .ok (.i2l, 1) := by decide +kernel
theorem dL_law_411 : decode cL_law 411 = .ok (.lcmp, 1) := by decide +kernel
theorem dL_law_412 : decode cL_law 412 = .ok (.ifCond .eq 5, 3) := by decide +kernel
theorem dL_law_415 : decode cL_law 415 = .ok (.iconst 0, 1) := by decide +kernel
theorem dL_law_416 : decode cL_law 416 = .ok (.ireturn, 1) := by decide +kernel
theorem dL_law_417 : decode cL_law 417 = .ok (.goto 3083, 3) := by decide +kernel
theorem dL_law_420 : decode cL_law 420 = .ok (.aload_n 1, 1) := by decide +kernel
theorem dL_law_421 : decode cL_law 421 = .ok (.aload_n 0, 1) := by decide +kernel
theorem dL_law_422 : decode cL_law 422 = .ok (.iload 5, 2) := by decide +kernel
theorem dL_law_424 : decode cL_law 424 = .ok (.iconst 1, 1) := by decide +kernel
theorem dL_law_425 : decode cL_law 425 = .ok (.iadd, 1) := by decide +kernel
theorem dL_law_426 : decode cL_law 426 = .ok (.iaload, 1) := by decide +kernel
theorem dL_law_427 : decode cL_law 427 = .ok (.aload_n 3, 1) := by decide +kernel
theorem dL_law_428 : decode cL_law 428 = .ok (.invokestatic 159, 3) := by decide +kernel
theorem dL_law_431 : decode cL_law 431 = .ok (.istore 6, 2) := by decide +kernel
theorem dL_law_433 : decode cL_law 433 = .ok (.aload_n 2, 1) := by decide +kernel
theorem dL_law_434 : decode cL_law 434 = .ok (.aload_n 0, 1) := by decide +kernel
theorem dL_law_435 : decode cL_law 435 = .ok (.iload 5, 2) := by decide +kernel
theorem dL_law_437 : decode cL_law 437 = .ok (.iconst 1, 1) := by decide +kernel
theorem dL_law_438 : decode cL_law 438 = .ok (.iadd, 1) := by decide +kernel
theorem dL_law_439 : decode cL_law 439 = .ok (.iaload, 1) := by decide +kernel
theorem dL_law_440 : decode cL_law 440 = .ok (.invokevirtual 162, 3) := by decide +kernel
theorem dL_law_443 : decode cL_law 443 = .ok (.istore 7, 2) := by decide +kernel
theorem dL_law_445 : decode cL_law 445 = .ok (.aload_n 2, 1) := by decide +kernel
theorem dL_law_446 : decode cL_law 446 = .ok (.invokevirtual 156, 3) := by decide +kernel
theorem dL_law_449 : decode cL_law 449 = .ok (.iload 6, 2) := by decide +kernel
theorem dL_law_451 : decode cL_law 451 = .ok (.if_icmp .eq 5, 3) := by decide +kernel
theorem dL_law_454 : decode cL_law 454 = .ok (.iconst 0, 1) := by decide +kernel
theorem dL_law_455 : decode cL_law 455 = .ok (.ireturn, 1) := by decide +kernel
theorem dL_law_456 : decode cL_law 456 = .ok (.iload 6, 2) := by decide +kernel
theorem dL_law_458 : decode cL_law 458 = .ok (.ifCond .ne 15, 3) := by decide +kernel
theorem dL_law_461 : decode cL_law 461 = .ok (.aload_n 3, 1) := by decide +kernel
theorem dL_law_462 : decode cL_law 462 = .ok (.iconst 0, 1) := by decide +kernel
theorem dL_law_463 : decode cL_law 463 = .ok (.laload, 1) := by decide +kernel
theorem dL_law_464 : decode cL_law 464 = .ok (.iload 7, 2) := by decide +kernel
theorem dL_law_466 : decode cL_law 466 = .ok (.i2l, 1) := by decide +kernel
theorem dL_law_467 : decode cL_law 467 = .ok (.lcmp, 1) := by decide +kernel
theorem dL_law_468 : decode cL_law 468 = .ok (.ifCond .eq 5, 3) := by decide +kernel
theorem dL_law_471 : decode cL_law 471 = .ok (.iconst 0, 1) := by decide +kernel
theorem dL_law_472 : decode cL_law 472 = .ok (.ireturn, 1) := by decide +kernel
theorem dL_law_473 : decode cL_law 473 = .ok (.goto 3027, 3) := by decide +kernel
theorem dL_law_476 : decode cL_law 476 = .ok (.aload_n 1, 1) := by decide +kernel
theorem dL_law_477 : decode cL_law 477 = .ok (.aload_n 3, 1) := by decide +kernel
theorem dL_law_478 : decode cL_law 478 = .ok (.invokestatic 163, 3) := by decide +kernel
theorem dL_law_481 : decode cL_law 481 = .ok (.istore 6, 2) := by decide +kernel
theorem dL_law_483 : decode cL_law 483 = .ok (.aload_n 2, 1) := by decide +kernel
theorem dL_law_484 : decode cL_law 484 = .ok (.invokevirtual 166, 3) := by decide +kernel
theorem dL_law_487 : decode cL_law 487 = .ok (.istore 7, 2) := by decide +kernel
theorem dL_law_489 : decode cL_law 489 = .ok (.aload_n 2, 1) := by decide +kernel
theorem dL_law_490 : decode cL_law 490 = .ok (.invokevirtual 156, 3) := by decide +kernel
theorem dL_law_493 : decode cL_law 493 = .ok (.iload 6, 2) := by decide +kernel
theorem dL_law_495 : decode cL_law 495 = .ok (.if_icmp .eq 5, 3) := by decide +kernel
theorem dL_law_498 : decode cL_law 498 = .ok (.iconst 0, 1) := by decide +kernel
theorem dL_law_499 : decode cL_law 499 = .ok (.ireturn, 1) := by decide +kernel
theorem dL_law_500 : decode cL_law 500 = .ok (.iload 6, 2) := by decide +kernel
theorem dL_law_502 : decode cL_law 502 = .ok (.ifCond .ne 15, 3) := by decide +kernel
theorem dL_law_505 : decode cL_law 505 = .ok (.aload_n 3, 1) := by decide +kernel
theorem dL_law_506 : decode cL_law 506 = .ok (.iconst 0, 1) := by decide +kernel
theorem dL_law_507 : decode cL_law 507 = .ok (.laload, 1) := by decide +kernel
theorem dL_law_508 : decode cL_law 508 = .ok (.iload 7, 2) := by decide +kernel
theorem dL_law_510 : decode cL_law 510 = .ok (.i2l, 1) := by decide +kernel
theorem dL_law_511 : decode cL_law 511 = .ok (.lcmp, 1) := by decide +kernel
theorem dL_law_512 : decode cL_law 512 = .ok (.ifCond .eq 5, 3) := by decide +kernel
theorem dL_law_515 : decode cL_law 515 = .ok (.iconst 0, 1) := by decide +kernel
theorem dL_law_516 : decode cL_law 516 = .ok (.ireturn, 1) := by decide +kernel
theorem dL_law_517 : decode cL_law 517 = .ok (.goto 2983, 3) := by decide +kernel
theorem dL_law_520 : decode cL_law 520 = .ok (.aload_n 1, 1) := by decide +kernel
theorem dL_law_521 : decode cL_law 521 = .ok (.aload_n 3, 1) := by decide +kernel
theorem dL_law_522 : decode cL_law 522 = .ok (.invokestatic 167, 3) := by decide +kernel
theorem dL_law_525 : decode cL_law 525 = .ok (.istore 6, 2) := by decide +kernel
theorem dL_law_527 : decode cL_law 527 = .ok (.aload_n 2, 1) := by decide +kernel
theorem dL_law_528 : decode cL_law 528 = .ok (.invokevirtual 169, 3) := by decide +kernel
theorem dL_law_531 : decode cL_law 531 = .ok (.istore 7, 2) := by decide +kernel
theorem dL_law_533 : decode cL_law 533 = .ok (.aload_n 2, 1) := by decide +kernel
theorem dL_law_534 : decode cL_law 534 = .ok (.invokevirtual 156, 3) := by decide +kernel
theorem dL_law_537 : decode cL_law 537 = .ok (.iload 6, 2) := by decide +kernel
theorem dL_law_539 : decode cL_law 539 = .ok (.if_icmp .eq 5, 3) := by decide +kernel
theorem dL_law_542 : decode cL_law 542 = .ok (.iconst 0, 1) := by decide +kernel
theorem dL_law_543 : decode cL_law 543 = .ok (.ireturn, 1) := by decide +kernel
theorem dL_law_544 : decode cL_law 544 = .ok (.iload 6, 2) := by decide +kernel
theorem dL_law_546 : decode cL_law 546 = .ok (.ifCond .ne 15, 3) := by decide +kernel
theorem dL_law_549 : decode cL_law 549 = .ok (.aload_n 3, 1) := by decide +kernel
theorem dL_law_550 : decode cL_law 550 = .ok (.iconst 0, 1) := by decide +kernel
theorem dL_law_551 : decode cL_law 551 = .ok (.laload, 1) := by decide +kernel
theorem dL_law_552 : decode cL_law 552 = .ok (.iload 7, 2) := by decide +kernel
theorem dL_law_554 : decode cL_law 554 = .ok (.i2l, 1) := by decide +kernel
theorem dL_law_555 : decode cL_law 555 = .ok (.lcmp, 1) := by decide +kernel
theorem dL_law_556 : decode cL_law 556 = .ok (.ifCond .eq 5, 3) := by decide +kernel
theorem dL_law_559 : decode cL_law 559 = .ok (.iconst 0, 1) := by decide +kernel
theorem dL_law_560 : decode cL_law 560 = .ok (.ireturn, 1) := by decide +kernel
theorem dL_law_561 : decode cL_law 561 = .ok (.goto 2939, 3) := by decide +kernel
theorem dL_law_564 : decode cL_law 564 = .ok (.aload_n 1, 1) := by decide +kernel
theorem dL_law_565 : decode cL_law 565 = .ok (.invokevirtual 170, 3) := by decide +kernel
theorem dL_law_568 : decode cL_law 568 = .ok (.aload_n 2, 1) := by decide +kernel
theorem dL_law_569 : decode cL_law 569 = .ok (.invokevirtual 173, 3) := by decide +kernel
theorem dL_law_572 : decode cL_law 572 = .ok (.if_icmp .eq 2928, 3) := by decide +kernel
theorem dL_law_575 : decode cL_law 575 = .ok (.iconst 0, 1) := by decide +kernel
theorem dL_law_576 : decode cL_law 576 = .ok (.ireturn, 1) := by decide +kernel
theorem dL_law_577 : decode cL_law 577 = .ok (.aload_n 1, 1) := by decide +kernel
theorem dL_law_578 : decode cL_law 578 = .ok (.invokevirtual 174, 3) := by decide +kernel
theorem dL_law_581 : decode cL_law 581 = .ok (.aload_n 2, 1) := by decide +kernel
theorem dL_law_582 : decode cL_law 582 = .ok (.invokevirtual 177, 3) := by decide +kernel
theorem dL_law_585 : decode cL_law 585 = .ok (.if_icmp .eq 2915, 3) := by decide +kernel
theorem dL_law_588 : decode cL_law 588 = .ok (.iconst 0, 1) := by decide +kernel
theorem dL_law_589 : decode cL_law 589 = .ok (.ireturn, 1) := by decide +kernel
theorem dL_law_590 : decode cL_law 590 = .ok (.aload_n 1, 1) := by decide +kernel
theorem dL_law_591 : decode cL_law 591 = .ok (.aload_n 0, 1) := by decide +kernel
theorem dL_law_592 : decode cL_law 592 = .ok (.iload 5, 2) := by decide +kernel
theorem dL_law_594 : decode cL_law 594 = .ok (.iconst 1, 1) := by decide +kernel
theorem dL_law_595 : decode cL_law 595 = .ok (.iadd, 1) := by decide +kernel
theorem dL_law_596 : decode cL_law 596 = .ok (.iaload, 1) := by decide +kernel
theorem dL_law_597 : decode cL_law 597 = .ok (.aload_n 3, 1) := by decide +kernel
theorem dL_law_598 : decode cL_law 598 = .ok (.invokestatic 178, 3) := by decide +kernel
theorem dL_law_601 : decode cL_law 601 = .ok (.istore 6, 2) := by decide +kernel
theorem dL_law_603 : decode cL_law 603 = .ok (.aload_n 2, 1) := by decide +kernel
theorem dL_law_604 : decode cL_law 604 = .ok (.aload_n 0, 1) := by decide +kernel
theorem dL_law_605 : decode cL_law 605 = .ok (.iload 5, 2) := by decide +kernel
theorem dL_law_607 : decode cL_law 607 = .ok (.iconst 1, 1) := by decide +kernel
theorem dL_law_608 : decode cL_law 608 = .ok (.iadd, 1) := by decide +kernel
theorem dL_law_609 : decode cL_law 609 = .ok (.iaload, 1) := by decide +kernel
theorem dL_law_610 : decode cL_law 610 = .ok (.invokevirtual 180, 3) := by decide +kernel
theorem dL_law_613 : decode cL_law 613 = .ok (.istore 7, 2) := by decide +kernel
theorem dL_law_615 : decode cL_law 615 = .ok (.aload_n 2, 1) := by decide +kernel
theorem dL_law_616 : decode cL_law 616 = .ok (.invokevirtual 156, 3) := by decide +kernel
theorem dL_law_619 : decode cL_law 619 = .ok (.iload 6, 2) := by decide +kernel
theorem dL_law_621 : decode cL_law 621 = .ok (.if_icmp .eq 5, 3) := by decide +kernel
theorem dL_law_624 : decode cL_law 624 = .ok (.iconst 0, 1) := by decide +kernel
theorem dL_law_625 : decode cL_law 625 = .ok (.ireturn, 1) := by decide +kernel
theorem dL_law_626 : decode cL_law 626 = .ok (.iload 6, 2) := by decide +kernel
theorem dL_law_628 : decode cL_law 628 = .ok (.ifCond .ne 15, 3) := by decide +kernel
theorem dL_law_631 : decode cL_law 631 = .ok (.aload_n 3, 1) := by decide +kernel
theorem dL_law_632 : decode cL_law 632 = .ok (.iconst 0, 1) := by decide +kernel
theorem dL_law_633 : decode cL_law 633 = .ok (.laload, 1) := by decide +kernel
theorem dL_law_634 : decode cL_law 634 = .ok (.iload 7, 2) := by decide +kernel
theorem dL_law_636 : decode cL_law 636 = .ok (.i2l, 1) := by decide +kernel
theorem dL_law_637 : decode cL_law 637 = .ok (.lcmp, 1) := by decide +kernel
theorem dL_law_638 : decode cL_law 638 = .ok (.ifCond .eq 5, 3) := by decide +kernel
theorem dL_law_641 : decode cL_law 641 = .ok (.iconst 0, 1) := by decide +kernel
theorem dL_law_642 : decode cL_law 642 = .ok (.ireturn, 1) := by decide +kernel
theorem dL_law_643 : decode cL_law 643 = .ok (.goto 2857, 3) := by decide +kernel
theorem dL_law_646 : decode cL_law 646 = .ok (.aload_n 1, 1) := by decide +kernel
theorem dL_law_647 : decode cL_law 647 = .ok (.aload_n 0, 1) := by decide +kernel
theorem dL_law_648 : decode cL_law 648 = .ok (.iload 5, 2) := by decide +kernel
theorem dL_law_650 : decode cL_law 650 = .ok (.iconst 1, 1) := by decide +kernel
theorem dL_law_651 : decode cL_law 651 = .ok (.iadd, 1) := by decide +kernel
theorem dL_law_652 : decode cL_law 652 = .ok (.iaload, 1) := by decide +kernel
theorem dL_law_653 : decode cL_law 653 = .ok (.aload_n 0, 1) := by decide +kernel
theorem dL_law_654 : decode cL_law 654 = .ok (.iload 5, 2) := by decide +kernel
theorem dL_law_656 : decode cL_law 656 = .ok (.iconst 2, 1) := by decide +kernel
theorem dL_law_657 : decode cL_law 657 = .ok (.iadd, 1) := by decide +kernel
theorem dL_law_658 : decode cL_law 658 = .ok (.iaload, 1) := by decide +kernel
theorem dL_law_659 : decode cL_law 659 = .ok (.aload_n 3, 1) := by decide +kernel
theorem dL_law_660 : decode cL_law 660 = .ok (.invokestatic 181, 3) := by decide +kernel
theorem dL_law_663 : decode cL_law 663 = .ok (.istore 6, 2) := by decide +kernel
theorem dL_law_665 : decode cL_law 665 = .ok (.aload_n 2, 1) := by decide +kernel
theorem dL_law_666 : decode cL_law 666 = .ok (.aload_n 0, 1) := by decide +kernel
theorem dL_law_667 : decode cL_law 667 = .ok (.iload 5, 2) := by decide +kernel
theorem dL_law_669 : decode cL_law 669 = .ok (.iconst 1, 1) := by decide +kernel
theorem dL_law_670 : decode cL_law 670 = .ok (.iadd, 1) := by decide +kernel
theorem dL_law_671 : decode cL_law 671 = .ok (.iaload, 1) := by decide +kernel
theorem dL_law_672 : decode cL_law 672 = .ok (.aload_n 0, 1) := by decide +kernel
theorem dL_law_673 : decode cL_law 673 = .ok (.iload 5, 2) := by decide +kernel
theorem dL_law_675 : decode cL_law 675 = .ok (.iconst 2, 1) := by decide +kernel
theorem dL_law_676 : decode cL_law 676 = .ok (.iadd, 1) := by decide +kernel
theorem dL_law_677 : decode cL_law 677 = .ok (.iaload, 1) := by decide +kernel
theorem dL_law_678 : decode cL_law 678 = .ok (.invokevirtual 184, 3) := by decide +kernel
theorem dL_law_681 : decode cL_law 681 = .ok (.istore 7, 2) := by decide +kernel
theorem dL_law_683 : decode cL_law 683 = .ok (.aload_n 2, 1) := by decide +kernel
theorem dL_law_684 : decode cL_law 684 = .ok (.invokevirtual 156, 3) := by decide +kernel
theorem dL_law_687 : decode cL_law 687 = .ok (.iload 6, 2) := by decide +kernel
theorem dL_law_689 : decode cL_law 689 = .ok (.if_icmp .eq 5, 3) := by decide +kernel
theorem dL_law_692 : decode cL_law 692 = .ok (.iconst 0, 1) := by decide +kernel
theorem dL_law_693 : decode cL_law 693 = .ok (.ireturn, 1) := by decide +kernel
theorem dL_law_694 : decode cL_law 694 = .ok (.iload 6, 2) := by decide +kernel
theorem dL_law_696 : decode cL_law 696 = .ok (.ifCond .ne 15, 3) := by decide +kernel
theorem dL_law_699 : decode cL_law 699 = .ok (.aload_n 3, 1) := by decide +kernel
theorem dL_law_700 : decode cL_law 700 = .ok (.iconst 0, 1) := by decide +kernel
theorem dL_law_701 : decode cL_law 701 = .ok (.laload, 1) := by decide +kernel
theorem dL_law_702 : decode cL_law 702 = .ok (.iload 7, 2) := by decide +kernel
theorem dL_law_704 : decode cL_law 704 = .ok (.i2l, 1) := by decide +kernel
theorem dL_law_705 : decode cL_law 705 = .ok (.lcmp, 1) := by decide +kernel
theorem dL_law_706 : decode cL_law 706 = .ok (.ifCond .eq 5, 3) := by decide +kernel
theorem dL_law_709 : decode cL_law 709 = .ok (.iconst 0, 1) := by decide +kernel
theorem dL_law_710 : decode cL_law 710 = .ok (.ireturn, 1) := by decide +kernel
theorem dL_law_711 : decode cL_law 711 = .ok (.goto 2789, 3) := by decide +kernel
theorem dL_law_714 : decode cL_law 714 = .ok (.aload_n 1, 1) := by decide +kernel
theorem dL_law_715 : decode cL_law 715 = .ok (.aload_n 0, 1) := by decide +kernel
theorem dL_law_716 : decode cL_law 716 = .ok (.iload 5, 2) := by decide +kernel
theorem dL_law_718 : decode cL_law 718 = .ok (.iconst 1, 1) := by decide +kernel
theorem dL_law_719 : decode cL_law 719 = .ok (.iadd, 1) := by decide +kernel
theorem dL_law_720 : decode cL_law 720 = .ok (.iaload, 1) := by decide +kernel
theorem dL_law_721 : decode cL_law 721 = .ok (.aload_n 0, 1) := by decide +kernel
theorem dL_law_722 : decode cL_law 722 = .ok (.iload 5, 2) := by decide +kernel
theorem dL_law_724 : decode cL_law 724 = .ok (.iconst 2, 1) := by decide +kernel
theorem dL_law_725 : decode cL_law 725 = .ok (.iadd, 1) := by decide +kernel
theorem dL_law_726 : decode cL_law 726 = .ok (.iaload, 1) := by decide +kernel
theorem dL_law_727 : decode cL_law 727 = .ok (.aload_n 3, 1) := by decide +kernel
theorem dL_law_728 : decode cL_law 728 = .ok (.invokestatic 185, 3) := by decide +kernel
theorem dL_law_731 : decode cL_law 731 = .ok (.istore 6, 2) := by decide +kernel
theorem dL_law_733 : decode cL_law 733 = .ok (.aload_n 2, 1) := by decide +kernel
theorem dL_law_734 : decode cL_law 734 = .ok (.aload_n 0, 1) := by decide +kernel
theorem dL_law_735 : decode cL_law 735 = .ok (.iload 5, 2) := by decide +kernel
theorem dL_law_737 : decode cL_law 737 = .ok (.iconst 1, 1) := by decide +kernel
theorem dL_law_738 : decode cL_law 738 = .ok (.iadd, 1) := by decide +kernel
theorem dL_law_739 : decode cL_law 739 = .ok (.iaload, 1) := by decide +kernel
theorem dL_law_740 : decode cL_law 740 = .ok (.aload_n 0, 1) := by decide +kernel
theorem dL_law_741 : decode cL_law 741 = .ok (.iload 5, 2) := by decide +kernel
theorem dL_law_743 : decode cL_law 743 = .ok (.iconst 2, 1) := by decide +kernel
theorem dL_law_744 : decode cL_law 744 = .ok (.iadd, 1) := by decide +kernel
theorem dL_law_745 : decode cL_law 745 = .ok (.iaload, 1) := by decide +kernel
theorem dL_law_746 : decode cL_law 746 = .ok (.invokevirtual 187, 3) := by decide +kernel
theorem dL_law_749 : decode cL_law 749 = .ok (.istore 7, 2) := by decide +kernel
theorem dL_law_751 : decode cL_law 751 = .ok (.aload_n 2, 1) := by decide +kernel
theorem dL_law_752 : decode cL_law 752 = .ok (.invokevirtual 156, 3) := by decide +kernel
theorem dL_law_755 : decode cL_law 755 = .ok (.iload 6, 2) := by decide +kernel
theorem dL_law_757 : decode cL_law 757 = .ok (.if_icmp .eq 5, 3) := by decide +kernel
theorem dL_law_760 : decode cL_law 760 = .ok (.iconst 0, 1) := by decide +kernel
theorem dL_law_761 : decode cL_law 761 = .ok (.ireturn, 1) := by decide +kernel
theorem dL_law_762 : decode cL_law 762 = .ok (.iload 6, 2) := by decide +kernel
theorem dL_law_764 : decode cL_law 764 = .ok (.ifCond .ne 15, 3) := by decide +kernel
theorem dL_law_767 : decode cL_law 767 = .ok (.aload_n 3, 1) := by decide +kernel
theorem dL_law_768 : decode cL_law 768 = .ok (.iconst 0, 1) := by decide +kernel
theorem dL_law_769 : decode cL_law 769 = .ok (.laload, 1) := by decide +kernel
theorem dL_law_770 : decode cL_law 770 = .ok (.iload 7, 2) := by decide +kernel
theorem dL_law_772 : decode cL_law 772 = .ok (.i2l, 1) := by decide +kernel
theorem dL_law_773 : decode cL_law 773 = .ok (.lcmp, 1) := by decide +kernel
theorem dL_law_774 : decode cL_law 774 = .ok (.ifCond .eq 5, 3) := by decide +kernel
theorem dL_law_777 : decode cL_law 777 = .ok (.iconst 0, 1) := by decide +kernel
theorem dL_law_778 : decode cL_law 778 = .ok (.ireturn, 1) := by decide +kernel
theorem dL_law_779 : decode cL_law 779 = .ok (.goto 2721, 3) := by decide +kernel
theorem dL_law_782 : decode cL_law 782 = .ok (.aload_n 1, 1) := by decide +kernel
theorem dL_law_783 : decode cL_law 783 = .ok (.invokevirtual 188, 3) := by decide +kernel
theorem dL_law_786 : decode cL_law 786 = .ok (.aload_n 2, 1) := by decide +kernel
theorem dL_law_787 : decode cL_law 787 = .ok (.invokevirtual 191, 3) := by decide +kernel
theorem dL_law_790 : decode cL_law 790 = .ok (.if_icmp .eq 2710, 3) := by decide +kernel
theorem dL_law_793 : decode cL_law 793 = .ok (.iconst 0, 1) := by decide +kernel
theorem dL_law_794 : decode cL_law 794 = .ok (.ireturn, 1) := by decide +kernel
theorem dL_law_795 : decode cL_law 795 = .ok (.aload_n 1, 1) := by decide +kernel
theorem dL_law_796 : decode cL_law 796 = .ok (.aload_n 0, 1) := by decide +kernel
theorem dL_law_797 : decode cL_law 797 = .ok (.iload 5, 2) := by decide +kernel
theorem dL_law_799 : decode cL_law 799 = .ok (.iconst 1, 1) := by decide +kernel
theorem dL_law_800 : decode cL_law 800 = .ok (.iadd, 1) := by decide +kernel
theorem dL_law_801 : decode cL_law 801 = .ok (.iaload, 1) := by decide +kernel
theorem dL_law_802 : decode cL_law 802 = .ok (.aload_n 3, 1) := by decide +kernel
theorem dL_law_803 : decode cL_law 803 = .ok (.invokestatic 192, 3) := by decide +kernel
theorem dL_law_806 : decode cL_law 806 = .ok (.istore 6, 2) := by decide +kernel
theorem dL_law_808 : decode cL_law 808 = .ok (.aload_n 2, 1) := by decide +kernel
theorem dL_law_809 : decode cL_law 809 = .ok (.aload_n 0, 1) := by decide +kernel
theorem dL_law_810 : decode cL_law 810 = .ok (.iload 5, 2) := by decide +kernel
theorem dL_law_812 : decode cL_law 812 = .ok (.iconst 1, 1) := by decide +kernel
theorem dL_law_813 : decode cL_law 813 = .ok (.iadd, 1) := by decide +kernel
theorem dL_law_814 : decode cL_law 814 = .ok (.iaload, 1) := by decide +kernel
theorem dL_law_815 : decode cL_law 815 = .ok (.invokevirtual 194, 3) := by decide +kernel
theorem dL_law_818 : decode cL_law 818 = .ok (.istore 7, 2) := by decide +kernel
theorem dL_law_820 : decode cL_law 820 = .ok (.aload_n 2, 1) := by decide +kernel
theorem dL_law_821 : decode cL_law 821 = .ok (.invokevirtual 156, 3) := by decide +kernel
theorem dL_law_824 : decode cL_law 824 = .ok (.iload 6, 2) := by decide +kernel
theorem dL_law_826 : decode cL_law 826 = .ok (.if_icmp .eq 5, 3) := by decide +kernel
theorem dL_law_829 : decode cL_law 829 = .ok (.iconst 0, 1) := by decide +kernel
theorem dL_law_830 : decode cL_law 830 = .ok (.ireturn, 1) := by decide +kernel
theorem dL_law_831 : decode cL_law 831 = .ok (.iload 6, 2) := by decide +kernel
theorem dL_law_833 : decode cL_law 833 = .ok (.ifCond .ne 15, 3) := by decide +kernel
theorem dL_law_836 : decode cL_law 836 = .ok (.aload_n 3, 1) := by decide +kernel
theorem dL_law_837 : decode cL_law 837 = .ok (.iconst 0, 1) := by decide +kernel
theorem dL_law_838 : decode cL_law 838 = .ok (.laload, 1) := by decide +kernel
theorem dL_law_839 : decode cL_law 839 = .ok (.iload 7, 2) := by decide +kernel
theorem dL_law_841 : decode cL_law 841 = .ok (.i2l, 1) := by decide +kernel
theorem dL_law_842 : decode cL_law 842 = .ok (.lcmp, 1) := by decide +kernel
theorem dL_law_843 : decode cL_law 843 = .ok (.ifCond .eq 5, 3) := by decide +kernel
theorem dL_law_846 : decode cL_law 846 = .ok (.iconst 0, 1) := by decide +kernel
theorem dL_law_847 : decode cL_law 847 = .ok (.ireturn, 1) := by decide +kernel
theorem dL_law_848 : decode cL_law 848 = .ok (.goto 2652, 3) := by decide +kernel
theorem dL_law_851 : decode cL_law 851 = .ok (.aload_n 1, 1) := by decide +kernel
theorem dL_law_852 : decode cL_law 852 = .ok (.invokevirtual 195, 3) := by decide +kernel
theorem dL_law_855 : decode cL_law 855 = .ok (.aload_n 2, 1) := by decide +kernel
theorem dL_law_856 : decode cL_law 856 = .ok (.invokevirtual 198, 3) := by decide +kernel
theorem dL_law_859 : decode cL_law 859 = .ok (.if_icmp .eq 2641, 3) := by decide +kernel
theorem dL_law_862 : decode cL_law 862 = .ok (.iconst 0, 1) := by decide +kernel
theorem dL_law_863 : decode cL_law 863 = .ok (.ireturn, 1) := by decide +kernel
theorem dL_law_864 : decode cL_law 864 = .ok (.aload_n 1, 1) := by decide +kernel
theorem dL_law_865 : decode cL_law 865 = .ok (.aload_n 0, 1) := by decide +kernel
theorem dL_law_866 : decode cL_law 866 = .ok (.iload 5, 2) := by decide +kernel
theorem dL_law_868 : decode cL_law 868 = .ok (.iconst 1, 1) := by decide +kernel
theorem dL_law_869 : decode cL_law 869 = .ok (.iadd, 1) := by decide +kernel
theorem dL_law_870 : decode cL_law 870 = .ok (.iaload, 1) := by decide +kernel
theorem dL_law_871 : decode cL_law 871 = .ok (.aload 4, 2) := by decide +kernel
theorem dL_law_873 : decode cL_law 873 = .ok (.invokestatic 199, 3) := by decide +kernel
theorem dL_law_876 : decode cL_law 876 = .ok (.istore 6, 2) := by decide +kernel
theorem dL_law_878 : decode cL_law 878 = .ok (.aload_n 2, 1) := by decide +kernel
theorem dL_law_879 : decode cL_law 879 = .ok (.aload_n 0, 1) := by decide +kernel
theorem dL_law_880 : decode cL_law 880 = .ok (.iload 5, 2) := by decide +kernel
theorem dL_law_882 : decode cL_law 882 = .ok (.iconst 1, 1) := by decide +kernel
theorem dL_law_883 : decode cL_law 883 = .ok (.iadd, 1) := by decide +kernel
theorem dL_law_884 : decode cL_law 884 = .ok (.iaload, 1) := by decide +kernel
theorem dL_law_885 : decode cL_law 885 = .ok (.invokevirtual 202, 3) := by decide +kernel
theorem dL_law_888 : decode cL_law 888 = .ok (.fstore 7, 2) := by decide +kernel
theorem dL_law_890 : decode cL_law 890 = .ok (.aload_n 2, 1) := by decide +kernel
theorem dL_law_891 : decode cL_law 891 = .ok (.invokevirtual 156, 3) := by decide +kernel
theorem dL_law_894 : decode cL_law 894 = .ok (.iload 6, 2) := by decide +kernel
theorem dL_law_896 : decode cL_law 896 = .ok (.if_icmp .eq 5, 3) := by decide +kernel
theorem dL_law_899 : decode cL_law 899 = .ok (.iconst 0, 1) := by decide +kernel
theorem dL_law_900 : decode cL_law 900 = .ok (.ireturn, 1) := by decide +kernel
theorem dL_law_901 : decode cL_law 901 = .ok (.iload 6, 2) := by decide +kernel
theorem dL_law_903 : decode cL_law 903 = .ok (.ifCond .ne 36, 3) := by decide +kernel
theorem dL_law_906 : decode cL_law 906 = .ok (.aload 4, 2) := by decide +kernel
theorem dL_law_908 : decode cL_law 908 = .ok (.iconst 0, 1) := by decide +kernel
theorem dL_law_909 : decode cL_law 909 = .ok (.daload, 1) := by decide +kernel
theorem dL_law_910 : decode cL_law 910 = .ok (.fload 7, 2) := by decide +kernel
theorem dL_law_912 : decode cL_law 912 = .ok (.f2d, 1) := by decide +kernel
theorem dL_law_913 : decode cL_law 913 = .ok (.dcmp .l, 1) := by decide +kernel
theorem dL_law_914 : decode cL_law 914 = .ok (.ifCond .eq 25, 3) := by decide +kernel
theorem dL_law_917 : decode cL_law 917 = .ok (.aload 4, 2) := by decide +kernel
theorem dL_law_919 : decode cL_law 919 = .ok (.iconst 0, 1) := by decide +kernel
theorem dL_law_920 : decode cL_law 920 = .ok (.daload, 1) := by decide +kernel
theorem dL_law_921 : decode cL_law 921 = .ok (.aload 4, 2) := by decide +kernel
theorem dL_law_923 : decode cL_law 923 = .ok (.iconst 0, 1) := by decide +kernel
theorem dL_law_924 : decode cL_law 924 = .ok (.daload, 1) := by decide +kernel
theorem dL_law_925 : decode cL_law 925 = .ok (.dcmp .l, 1) := by decide +kernel
theorem dL_law_926 : decode cL_law 926 = .ok (.ifCond .eq 11, 3) := by decide +kernel
theorem dL_law_929 : decode cL_law 929 = .ok (.fload 7, 2) := by decide +kernel
theorem dL_law_931 : decode cL_law 931 = .ok (.fload 7, 2) := by decide +kernel
theorem dL_law_933 : decode cL_law 933 = .ok (.fcmp .l, 1) := by decide +kernel
theorem dL_law_934 : decode cL_law 934 = .ok (.ifCond .ne 5, 3) := by decide +kernel
theorem dL_law_937 : decode cL_law 937 = .ok (.iconst 0, 1) := by decide +kernel
theorem dL_law_938 : decode cL_law 938 = .ok (.ireturn, 1) := by decide +kernel
theorem dL_law_939 : decode cL_law 939 = .ok (.goto 2561, 3) := by decide +kernel
theorem dL_law_942 : decode cL_law 942 = .ok (.aload_n 1, 1) := by decide +kernel
theorem dL_law_943 : decode cL_law 943 = .ok (.aload_n 0, 1) := by decide +kernel
theorem dL_law_944 : decode cL_law 944 = .ok (.iload 5, 2) := by decide +kernel
theorem dL_law_946 : decode cL_law 946 = .ok (.iconst 1, 1) := by decide +kernel
theorem dL_law_947 : decode cL_law 947 = .ok (.iadd, 1) := by decide +kernel
theorem dL_law_948 : decode cL_law 948 = .ok (.iaload, 1) := by decide +kernel
theorem dL_law_949 : decode cL_law 949 = .ok (.aload_n 3, 1) := by decide +kernel
theorem dL_law_950 : decode cL_law 950 = .ok (.invokestatic 203, 3) := by decide +kernel
theorem dL_law_953 : decode cL_law 953 = .ok (.istore 6, 2) := by decide +kernel
theorem dL_law_955 : decode cL_law 955 = .ok (.aload_n 2, 1) := by decide +kernel
theorem dL_law_956 : decode cL_law 956 = .ok (.aload_n 0, 1) := by decide +kernel
theorem dL_law_957 : decode cL_law 957 = .ok (.iload 5, 2) := by decide +kernel
theorem dL_law_959 : decode cL_law 959 = .ok (.iconst 1, 1) := by decide +kernel
theorem dL_law_960 : decode cL_law 960 = .ok (.iadd, 1) := by decide +kernel
theorem dL_law_961 : decode cL_law 961 = .ok (.iaload, 1) := by decide +kernel
theorem dL_law_962 : decode cL_law 962 = .ok (.invokevirtual 205, 3) := by decide +kernel
theorem dL_law_965 : decode cL_law 965 = .ok (.istore 7, 2) := by decide +kernel
theorem dL_law_967 : decode cL_law 967 = .ok (.aload_n 2, 1) := by decide +kernel
theorem dL_law_968 : decode cL_law 968 = .ok (.invokevirtual 156, 3) := by decide +kernel
theorem dL_law_971 : decode cL_law 971 = .ok (.iload 6, 2) := by decide +kernel
theorem dL_law_973 : decode cL_law 973 = .ok (.if_icmp .eq 5, 3) := by decide +kernel
theorem dL_law_976 : decode cL_law 976 = .ok (.iconst 0, 1) := by decide +kernel
theorem dL_law_977 : decode cL_law 977 = .ok (.ireturn, 1) := by decide +kernel
theorem dL_law_978 : decode cL_law 978 = .ok (.iload 6, 2) := by decide +kernel
theorem dL_law_980 : decode cL_law 980 = .ok (.ifCond .ne 15, 3) := by decide +kernel
theorem dL_law_983 : decode cL_law 983 = .ok (.aload_n 3, 1) := by decide +kernel
theorem dL_law_984 : decode cL_law 984 = .ok (.iconst 0, 1) := by decide +kernel
theorem dL_law_985 : decode cL_law 985 = .ok (.laload, 1) := by decide +kernel
theorem dL_law_986 : decode cL_law 986 = .ok (.iload 7, 2) := by decide +kernel
theorem dL_law_988 : decode cL_law 988 = .ok (.i2l, 1) := by decide +kernel
theorem dL_law_989 : decode cL_law 989 = .ok (.lcmp, 1) := by decide +kernel
theorem dL_law_990 : decode cL_law 990 = .ok (.ifCond .eq 5, 3) := by decide +kernel
theorem dL_law_993 : decode cL_law 993 = .ok (.iconst 0, 1) := by decide +kernel
theorem dL_law_994 : decode cL_law 994 = .ok (.ireturn, 1) := by decide +kernel
theorem dL_law_995 : decode cL_law 995 = .ok (.goto 2505, 3) := by decide +kernel
theorem dL_law_998 : decode cL_law 998 = .ok (.aload_n 1, 1) := by decide +kernel
theorem dL_law_999 : decode cL_law 999 = .ok (.aload_n 0, 1) := by decide +kernel
theorem dL_law_1000 : decode cL_law 1000 = .ok (.iload 5, 2) := by decide +kernel
theorem dL_law_1002 : decode cL_law 1002 = .ok (.iconst 1, 1) := by decide +kernel
theorem dL_law_1003 : decode cL_law 1003 = .ok (.iadd, 1) := by decide +kernel
theorem dL_law_1004 : decode cL_law 1004 = .ok (.iaload, 1) := by decide +kernel
theorem dL_law_1005 : decode cL_law 1005 = .ok (.aload_n 0, 1) := by decide +kernel
theorem dL_law_1006 : decode cL_law 1006 = .ok (.iload 5, 2) := by decide +kernel
theorem dL_law_1008 : decode cL_law 1008 = .ok (.iconst 2, 1) := by decide +kernel
theorem dL_law_1009 : decode cL_law 1009 = .ok (.iadd, 1) := by decide +kernel
theorem dL_law_1010 : decode cL_law 1010 = .ok (.iaload, 1) := by decide +kernel
theorem dL_law_1011 : decode cL_law 1011 = .ok (.aload 4, 2) := by decide +kernel
theorem dL_law_1013 : decode cL_law 1013 = .ok (.invokestatic 206, 3) := by decide +kernel
theorem dL_law_1016 : decode cL_law 1016 = .ok (.istore 6, 2) := by decide +kernel
theorem dL_law_1018 : decode cL_law 1018 = .ok (.aload_n 2, 1) := by decide +kernel
theorem dL_law_1019 : decode cL_law 1019 = .ok (.aload_n 0, 1) := by decide +kernel
theorem dL_law_1020 : decode cL_law 1020 = .ok (.iload 5, 2) := by decide +kernel
theorem dL_law_1022 : decode cL_law 1022 = .ok (.iconst 1, 1) := by decide +kernel
theorem dL_law_1023 : decode cL_law 1023 = .ok (.iadd, 1) := by decide +kernel
theorem dL_law_1024 : decode cL_law 1024 = .ok (.iaload, 1) := by decide +kernel
theorem dL_law_1025 : decode cL_law 1025 = .ok (.aload_n 0, 1) := by decide +kernel
theorem dL_law_1026 : decode cL_law 1026 = .ok (.iload 5, 2) := by decide +kernel
theorem dL_law_1028 : decode cL_law 1028 = .ok (.iconst 2, 1) := by decide +kernel
theorem dL_law_1029 : decode cL_law 1029 = .ok (.iadd, 1) := by decide +kernel
theorem dL_law_1030 : decode cL_law 1030 = .ok (.iaload, 1) := by decide +kernel
theorem dL_law_1031 : decode cL_law 1031 = .ok (.invokevirtual 209, 3) := by decide +kernel
theorem dL_law_1034 : decode cL_law 1034 = .ok (.fstore 7, 2) := by decide +kernel
theorem dL_law_1036 : decode cL_law 1036 = .ok (.aload_n 2, 1) := by decide +kernel
theorem dL_law_1037 : decode cL_law 1037 = .ok (.invokevirtual 156, 3) := by decide +kernel
theorem dL_law_1040 : decode cL_law 1040 = .ok (.iload 6, 2) := by decide +kernel
theorem dL_law_1042 : decode cL_law 1042 = .ok (.if_icmp .eq 5, 3) := by decide +kernel
theorem dL_law_1045 : decode cL_law 1045 = .ok (.iconst 0, 1) := by decide +kernel
theorem dL_law_1046 : decode cL_law 1046 = .ok (.ireturn, 1) := by decide +kernel
theorem dL_law_1047 : decode cL_law 1047 = .ok (.iload 6, 2) := by decide +kernel
theorem dL_law_1049 : decode cL_law 1049 = .ok (.ifCond .ne 36, 3) := by decide +kernel
theorem dL_law_1052 : decode cL_law 1052 = .ok (.aload 4, 2) := by decide +kernel
theorem dL_law_1054 : decode cL_law 1054 = .ok (.iconst 0, 1) := by decide +kernel
theorem dL_law_1055 : decode cL_law 1055 = .ok (.daload, 1) := by decide +kernel
theorem dL_law_1056 : decode cL_law 1056 = .ok (.fload 7, 2) := by decide +kernel
theorem dL_law_1058 : decode cL_law 1058 = .ok (.f2d, 1) := by decide +kernel
theorem dL_law_1059 : decode cL_law 1059 = .ok (.dcmp .l, 1) := by decide +kernel
theorem dL_law_1060 : decode cL_law 1060 = .ok (.ifCond .eq 25, 3) := by decide +kernel
theorem dL_law_1063 : decode cL_law 1063 = .ok (.aload 4, 2) := by decide +kernel
theorem dL_law_1065 : decode cL_law 1065 = .ok (.iconst 0, 1) := by decide +kernel
theorem dL_law_1066 : decode cL_law 1066 = .ok (.daload, 1) := by decide +kernel
theorem dL_law_1067 : decode cL_law 1067 = .ok (.aload 4, 2) := by decide +kernel
theorem dL_law_1069 : decode cL_law 1069 = .ok (.iconst 0, 1) := by decide +kernel
theorem dL_law_1070 : decode cL_law 1070 = .ok (.daload, 1) := by decide +kernel
theorem dL_law_1071 : decode cL_law 1071 = .ok (.dcmp .l, 1) := by decide +kernel
theorem dL_law_1072 : decode cL_law 1072 = .ok (.ifCond .eq 11, 3) := by decide +kernel
theorem dL_law_1075 : decode cL_law 1075 = .ok (.fload 7, 2) := by decide +kernel
theorem dL_law_1077 : decode cL_law 1077 = .ok (.fload 7, 2) := by decide +kernel
theorem dL_law_1079 : decode cL_law 1079 = .ok (.fcmp .l, 1) := by decide +kernel
theorem dL_law_1080 : decode cL_law 1080 = .ok (.ifCond .ne 5, 3) := by decide +kernel
theorem dL_law_1083 : decode cL_law 1083 = .ok (.iconst 0, 1) := by decide +kernel
theorem dL_law_1084 : decode cL_law 1084 = .ok (.ireturn, 1) := by decide +kernel
theorem dL_law_1085 : decode cL_law 1085 = .ok (.goto 2415, 3) := by decide +kernel
theorem dL_law_1088 : decode cL_law 1088 = .ok (.aload_n 1, 1) := by decide +kernel
theorem dL_law_1089 : decode cL_law 1089 = .ok (.aload_n 0, 1) := by decide +kernel
theorem dL_law_1090 : decode cL_law 1090 = .ok (.iload 5, 2) := by decide +kernel
theorem dL_law_1092 : decode cL_law 1092 = .ok (.iconst 1, 1) := by decide +kernel
theorem dL_law_1093 : decode cL_law 1093 = .ok (.iadd, 1) := by decide +kernel
theorem dL_law_1094 : decode cL_law 1094 = .ok (.iaload, 1) := by decide +kernel
theorem dL_law_1095 : decode cL_law 1095 = .ok (.aload_n 0, 1) := by decide +kernel
theorem dL_law_1096 : decode cL_law 1096 = .ok (.iload 5, 2) := by decide +kernel
theorem dL_law_1098 : decode cL_law 1098 = .ok (.iconst 2, 1) := by decide +kernel
theorem dL_law_1099 : decode cL_law 1099 = .ok (.iadd, 1) := by decide +kernel
theorem dL_law_1100 : decode cL_law 1100 = .ok (.iaload, 1) := by decide +kernel
theorem dL_law_1101 : decode cL_law 1101 = .ok (.aload 4, 2) := by decide +kernel
theorem dL_law_1103 : decode cL_law 1103 = .ok (.invokestatic 210, 3) := by decide +kernel
theorem dL_law_1106 : decode cL_law 1106 = .ok (.istore 6, 2) := by decide +kernel
theorem dL_law_1108 : decode cL_law 1108 = .ok (.aload_n 2, 1) := by decide +kernel
theorem dL_law_1109 : decode cL_law 1109 = .ok (.aload_n 0, 1) := by decide +kernel
theorem dL_law_1110 : decode cL_law 1110 = .ok (.iload 5, 2) := by decide +kernel
theorem dL_law_1112 : decode cL_law 1112 = .ok (.iconst 1, 1) := by decide +kernel
theorem dL_law_1113 : decode cL_law 1113 = .ok (.iadd, 1) := by decide +kernel
theorem dL_law_1114 : decode cL_law 1114 = .ok (.iaload, 1) := by decide +kernel
theorem dL_law_1115 : decode cL_law 1115 = .ok (.aload_n 0, 1) := by decide +kernel
theorem dL_law_1116 : decode cL_law 1116 = .ok (.iload 5, 2) := by decide +kernel
theorem dL_law_1118 : decode cL_law 1118 = .ok (.iconst 2, 1) := by decide +kernel
theorem dL_law_1119 : decode cL_law 1119 = .ok (.iadd, 1) := by decide +kernel
theorem dL_law_1120 : decode cL_law 1120 = .ok (.iaload, 1) := by decide +kernel
theorem dL_law_1121 : decode cL_law 1121 = .ok (.invokevirtual 212, 3) := by decide +kernel
theorem dL_law_1124 : decode cL_law 1124 = .ok (.fstore 7, 2) := by decide +kernel
theorem dL_law_1126 : decode cL_law 1126 = .ok (.aload_n 2, 1) := by decide +kernel
theorem dL_law_1127 : decode cL_law 1127 = .ok (.invokevirtual 156, 3) := by decide +kernel
theorem dL_law_1130 : decode cL_law 1130 = .ok (.iload 6, 2) := by decide +kernel
theorem dL_law_1132 : decode cL_law 1132 = .ok (.if_icmp .eq 5, 3) := by decide +kernel
theorem dL_law_1135 : decode cL_law 1135 = .ok (.iconst 0, 1) := by decide +kernel
theorem dL_law_1136 : decode cL_law 1136 = .ok (.ireturn, 1) := by decide +kernel
theorem dL_law_1137 : decode cL_law 1137 = .ok (.iload 6, 2) := by decide +kernel
theorem dL_law_1139 : decode cL_law 1139 = .ok (.ifCond .ne 36, 3) := by decide +kernel
theorem dL_law_1142 : decode cL_law 1142 = .ok (.aload 4, 2) := by decide +kernel
theorem dL_law_1144 : decode cL_law 1144 = .ok (.iconst 0, 1) := by decide +kernel
theorem dL_law_1145 : decode cL_law 1145 = .ok (.daload, 1) := by decide +kernel
theorem dL_law_1146 : decode cL_law 1146 = .ok (.fload 7, 2) := by decide +kernel
theorem dL_law_1148 : decode cL_law 1148 = .ok (.f2d, 1) := by decide +kernel
theorem dL_law_1149 : decode cL_law 1149 = .ok (.dcmp .l, 1) := by decide +kernel
theorem dL_law_1150 : decode cL_law 1150 = .ok (.ifCond .eq 25, 3) := by decide +kernel
theorem dL_law_1153 : decode cL_law 1153 = .ok (.aload 4, 2) := by decide +kernel
theorem dL_law_1155 : decode cL_law 1155 = .ok (.iconst 0, 1) := by decide +kernel
theorem dL_law_1156 : decode cL_law 1156 = .ok (.daload, 1) := by decide +kernel
theorem dL_law_1157 : decode cL_law 1157 = .ok (.aload 4, 2) := by decide +kernel
theorem dL_law_1159 : decode cL_law 1159 = .ok (.iconst 0, 1) := by decide +kernel
theorem dL_law_1160 : decode cL_law 1160 = .ok (.daload, 1) := by decide +kernel
theorem dL_law_1161 : decode cL_law 1161 = .ok (.dcmp .l, 1) := by decide +kernel
theorem dL_law_1162 : decode cL_law 1162 = .ok (.ifCond .eq 11, 3) := by decide +kernel
theorem dL_law_1165 : decode cL_law 1165 = .ok (.fload 7, 2) := by decide +kernel
theorem dL_law_1167 : decode cL_law 1167 = .ok (.fload 7, 2) := by decide +kernel
theorem dL_law_1169 : decode cL_law 1169 = .ok (.fcmp .l, 1) := by decide +kernel
theorem dL_law_1170 : decode cL_law 1170 = .ok (.ifCond .ne 5, 3) := by decide +kernel
theorem dL_law_1173 : decode cL_law 1173 = .ok (.iconst 0, 1) := by decide +kernel
theorem dL_law_1174 : decode cL_law 1174 = .ok (.ireturn, 1) := by decide +kernel
theorem dL_law_1175 : decode cL_law 1175 = .ok (.goto 2325, 3) := by decide +kernel
theorem dL_law_1178 : decode cL_law 1178 = .ok (.aload_n 1, 1) := by decide +kernel
theorem dL_law_1179 : decode cL_law 1179 = .ok (.aload_n 0, 1) := by decide +kernel
theorem dL_law_1180 : decode cL_law 1180 = .ok (.iload 5, 2) := by decide +kernel
theorem dL_law_1182 : decode cL_law 1182 = .ok (.iconst 1, 1) := by decide +kernel
theorem dL_law_1183 : decode cL_law 1183 = .ok (.iadd, 1) := by decide +kernel
theorem dL_law_1184 : decode cL_law 1184 = .ok (.iaload, 1) := by decide +kernel
theorem dL_law_1185 : decode cL_law 1185 = .ok (.aload_n 0, 1) := by decide +kernel
theorem dL_law_1186 : decode cL_law 1186 = .ok (.iload 5, 2) := by decide +kernel
theorem dL_law_1188 : decode cL_law 1188 = .ok (.iconst 2, 1) := by decide +kernel
theorem dL_law_1189 : decode cL_law 1189 = .ok (.iadd, 1) := by decide +kernel
theorem dL_law_1190 : decode cL_law 1190 = .ok (.iaload, 1) := by decide +kernel
theorem dL_law_1191 : decode cL_law 1191 = .ok (.aload 4, 2) := by decide +kernel
theorem dL_law_1193 : decode cL_law 1193 = .ok (.invokestatic 213, 3) := by decide +kernel
theorem dL_law_1196 : decode cL_law 1196 = .ok (.istore 6, 2) := by decide +kernel
theorem dL_law_1198 : decode cL_law 1198 = .ok (.aload_n 2, 1) := by decide +kernel
theorem dL_law_1199 : decode cL_law 1199 = .ok (.aload_n 0, 1) := by decide +kernel
theorem dL_law_1200 : decode cL_law 1200 = .ok (.iload 5, 2) := by decide +kernel
theorem dL_law_1202 : decode cL_law 1202 = .ok (.iconst 1, 1) := by decide +kernel
theorem dL_law_1203 : decode cL_law 1203 = .ok (.iadd, 1) := by decide +kernel
theorem dL_law_1204 : decode cL_law 1204 = .ok (.iaload, 1) := by decide +kernel
theorem dL_law_1205 : decode cL_law 1205 = .ok (.aload_n 0, 1) := by decide +kernel
theorem dL_law_1206 : decode cL_law 1206 = .ok (.iload 5, 2) := by decide +kernel
theorem dL_law_1208 : decode cL_law 1208 = .ok (.iconst 2, 1) := by decide +kernel
theorem dL_law_1209 : decode cL_law 1209 = .ok (.iadd, 1) := by decide +kernel
theorem dL_law_1210 : decode cL_law 1210 = .ok (.iaload, 1) := by decide +kernel
theorem dL_law_1211 : decode cL_law 1211 = .ok (.invokevirtual 215, 3) := by decide +kernel
theorem dL_law_1214 : decode cL_law 1214 = .ok (.fstore 7, 2) := by decide +kernel
theorem dL_law_1216 : decode cL_law 1216 = .ok (.aload_n 2, 1) := by decide +kernel
theorem dL_law_1217 : decode cL_law 1217 = .ok (.invokevirtual 156, 3) := by decide +kernel
theorem dL_law_1220 : decode cL_law 1220 = .ok (.iload 6, 2) := by decide +kernel
theorem dL_law_1222 : decode cL_law 1222 = .ok (.if_icmp .eq 5, 3) := by decide +kernel
theorem dL_law_1225 : decode cL_law 1225 = .ok (.iconst 0, 1) := by decide +kernel
theorem dL_law_1226 : decode cL_law 1226 = .ok (.ireturn, 1) := by decide +kernel
theorem dL_law_1227 : decode cL_law 1227 = .ok (.iload 6, 2) := by decide +kernel
theorem dL_law_1229 : decode cL_law 1229 = .ok (.ifCond .ne 36, 3) := by decide +kernel
theorem dL_law_1232 : decode cL_law 1232 = .ok (.aload 4, 2) := by decide +kernel
theorem dL_law_1234 : decode cL_law 1234 = .ok (.iconst 0, 1) := by decide +kernel
theorem dL_law_1235 : decode cL_law 1235 = .ok (.daload, 1) := by decide +kernel
theorem dL_law_1236 : decode cL_law 1236 = .ok (.fload 7, 2) := by decide +kernel
theorem dL_law_1238 : decode cL_law 1238 = .ok (.f2d, 1) := by decide +kernel
theorem dL_law_1239 : decode cL_law 1239 = .ok (.dcmp .l, 1) := by decide +kernel
theorem dL_law_1240 : decode cL_law 1240 = .ok (.ifCond .eq 25, 3) := by decide +kernel
theorem dL_law_1243 : decode cL_law 1243 = .ok (.aload 4, 2) := by decide +kernel
theorem dL_law_1245 : decode cL_law 1245 = .ok (.iconst 0, 1) := by decide +kernel
theorem dL_law_1246 : decode cL_law 1246 = .ok (.daload, 1) := by decide +kernel
theorem dL_law_1247 : decode cL_law 1247 = .ok (.aload 4, 2) := by decide +kernel
theorem dL_law_1249 : decode cL_law 1249 = .ok (.iconst 0, 1) := by decide +kernel
theorem dL_law_1250 : decode cL_law 1250 = .ok (.daload, 1) := by decide +kernel
theorem dL_law_1251 : decode cL_law 1251 = .ok (.dcmp .l, 1) := by decide +kernel
theorem dL_law_1252 : decode cL_law 1252 = .ok (.ifCond .eq 11, 3) := by decide +kernel
theorem dL_law_1255 : decode cL_law 1255 = .ok (.fload 7, 2) := by decide +kernel
theorem dL_law_1257 : decode cL_law 1257 = .ok (.fload 7, 2) := by decide +kernel
theorem dL_law_1259 : decode cL_law 1259 = .ok (.fcmp .l, 1) := by decide +kernel
theorem dL_law_1260 : decode cL_law 1260 = .ok (.ifCond .ne 5, 3) := by decide +kernel
theorem dL_law_1263 : decode cL_law 1263 = .ok (.iconst 0, 1) := by decide +kernel
theorem dL_law_1264 : decode cL_law 1264 = .ok (.ireturn, 1) := by decide +kernel
theorem dL_law_1265 : decode cL_law 1265 = .ok (.goto 2235, 3) := by decide +kernel
theorem dL_law_1268 : decode cL_law 1268 = .ok (.aload_n 1, 1) := by decide +kernel
theorem dL_law_1269 : decode cL_law 1269 = .ok (.invokevirtual 216, 3) := by decide +kernel
theorem dL_law_1272 : decode cL_law 1272 = .ok (.f2d, 1) := by decide +kernel
theorem dL_law_1273 : decode cL_law 1273 = .ok (.dstore 6, 2) := by decide +kernel
theorem dL_law_1275 : decode cL_law 1275 = .ok (.aload_n 2, 1) := by decide +kernel
theorem dL_law_1276 : decode cL_law 1276 = .ok (.invokevirtual 220, 3) := by decide +kernel
theorem dL_law_1279 : decode cL_law 1279 = .ok (.f2d, 1) := by decide +kernel
theorem dL_law_1280 : decode cL_law 1280 = .ok (.dstore 8, 2) := by decide +kernel
theorem dL_law_1282 : decode cL_law 1282 = .ok (.dload 6, 2) := by decide +kernel
theorem dL_law_1284 : decode cL_law 1284 = .ok (.dload 8, 2) := by decide +kernel
theorem dL_law_1286 : decode cL_law 1286 = .ok (.dcmp .l, 1) := by decide +kernel
theorem dL_law_1287 : decode cL_law 1287 = .ok (.ifCond .eq 21, 3) := by decide +kernel
theorem dL_law_1290 : decode cL_law 1290 = .ok (.dload 6, 2) := by decide +kernel
theorem dL_law_1292 : decode cL_law 1292 = .ok (.dload 6, 2) := by decide +kernel
theorem dL_law_1294 : decode cL_law 1294 = .ok (.dcmp .l, 1) := by decide +kernel
theorem dL_law_1295 : decode cL_law 1295 = .ok (.ifCond .eq 11, 3) := by decide +kernel
theorem dL_law_1298 : decode cL_law 1298 = .ok (.dload 8, 2) := by decide +kernel
theorem dL_law_1300 : decode cL_law 1300 = .ok (.dload 8, 2) := by decide +kernel
theorem dL_law_1302 : decode cL_law 1302 = .ok (.dcmp .l, 1) := by decide +kernel
theorem dL_law_1303 : decode cL_law 1303 = .ok (.ifCond .ne 5, 3) := by decide +kernel
theorem dL_law_1306 : decode cL_law 1306 = .ok (.iconst 0, 1) := by decide +kernel
theorem dL_law_1307 : decode cL_law 1307 = .ok (.ireturn, 1) := by decide +kernel
theorem dL_law_1308 : decode cL_law 1308 = .ok (.goto 2192, 3) := by decide +kernel
theorem dL_law_1311 : decode cL_law 1311 = .ok (.aload_n 1, 1) := by decide +kernel
theorem dL_law_1312 : decode cL_law 1312 = .ok (.invokevirtual 221, 3) := by decide +kernel
theorem dL_law_1315 : decode cL_law 1315 = .ok (.aload_n 2, 1) := by decide +kernel
theorem dL_law_1316 : decode cL_law 1316 = .ok (.invokevirtual 224, 3) := by decide +kernel
theorem dL_law_1319 : decode cL_law 1319 = .ok (.if_icmp .eq 2181, 3) := by decide +kernel
theorem dL_law_1322 : decode cL_law 1322 = .ok (.iconst 0, 1) := by decide +kernel
theorem dL_law_1323 : decode cL_law 1323 = .ok (.ireturn, 1) := by decide +kernel
theorem dL_law_1324 : decode cL_law 1324 = .ok (.aload_n 1, 1) := by decide +kernel
theorem dL_law_1325 : decode cL_law 1325 = .ok (.invokevirtual 225, 3) := by decide +kernel
theorem dL_law_1328 : decode cL_law 1328 = .ok (.aload_n 2, 1) := by decide +kernel
theorem dL_law_1329 : decode cL_law 1329 = .ok (.invokevirtual 228, 3) := by decide +kernel
theorem dL_law_1332 : decode cL_law 1332 = .ok (.if_icmp .eq 2168, 3) := by decide +kernel
theorem dL_law_1335 : decode cL_law 1335 = .ok (.iconst 0, 1) := by decide +kernel
theorem dL_law_1336 : decode cL_law 1336 = .ok (.ireturn, 1) := by decide +kernel
theorem dL_law_1337 : decode cL_law 1337 = .ok (.aload_n 1, 1) := by decide +kernel
theorem dL_law_1338 : decode cL_law 1338 = .ok (.invokevirtual 229, 3) := by decide +kernel
theorem dL_law_1341 : decode cL_law 1341 = .ok (.aload_n 2, 1) := by decide +kernel
theorem dL_law_1342 : decode cL_law 1342 = .ok (.invokevirtual 232, 3) := by decide +kernel
theorem dL_law_1345 : decode cL_law 1345 = .ok (.if_icmp .eq 2155, 3) := by decide +kernel
theorem dL_law_1348 : decode cL_law 1348 = .ok (.iconst 0, 1) := by decide +kernel
theorem dL_law_1349 : decode cL_law 1349 = .ok (.ireturn, 1) := by decide +kernel
theorem dL_law_1350 : decode cL_law 1350 = .ok (.aload_n 1, 1) := by decide +kernel
theorem dL_law_1351 : decode cL_law 1351 = .ok (.invokevirtual 233, 3) := by decide +kernel
theorem dL_law_1354 : decode cL_law 1354 = .ok (.aload_n 2, 1) := by decide +kernel
theorem dL_law_1355 : decode cL_law 1355 = .ok (.invokevirtual 236, 3) := by decide +kernel
theorem dL_law_1358 : decode cL_law 1358 = .ok (.if_icmp .eq 2142, 3) := by decide +kernel
theorem dL_law_1361 : decode cL_law 1361 = .ok (.iconst 0, 1) := by decide +kernel
theorem dL_law_1362 : decode cL_law 1362 = .ok (.ireturn, 1) := by decide +kernel
theorem dL_law_1363 : decode cL_law 1363 = .ok (.aload_n 1, 1) := by decide +kernel
theorem dL_law_1364 : decode cL_law 1364 = .ok (.invokevirtual 237, 3) := by decide +kernel
theorem dL_law_1367 : decode cL_law 1367 = .ok (.f2d, 1) := by decide +kernel
theorem dL_law_1368 : decode cL_law 1368 = .ok (.dstore 6, 2) := by decide +kernel
theorem dL_law_1370 : decode cL_law 1370 = .ok (.aload_n 2, 1) := by decide +kernel
theorem dL_law_1371 : decode cL_law 1371 = .ok (.invokevirtual 240, 3) := by decide +kernel
theorem dL_law_1374 : decode cL_law 1374 = .ok (.f2d, 1) := by decide +kernel
theorem dL_law_1375 : decode cL_law 1375 = .ok (.dstore 8, 2) := by decide +kernel
theorem dL_law_1377 : decode cL_law 1377 = .ok (.dload 6, 2) := by decide +kernel
theorem dL_law_1379 : decode cL_law 1379 = .ok (.dload 8, 2) := by decide +kernel
theorem dL_law_1381 : decode cL_law 1381 = .ok (.dcmp .l, 1) := by decide +kernel
theorem dL_law_1382 : decode cL_law 1382 = .ok (.ifCond .eq 21, 3) := by decide +kernel
theorem dL_law_1385 : decode cL_law 1385 = .ok (.dload 6, 2) := by decide +kernel
theorem dL_law_1387 : decode cL_law 1387 = .ok (.dload 6, 2) := by decide +kernel
theorem dL_law_1389 : decode cL_law 1389 = .ok (.dcmp .l, 1) := by decide +kernel
theorem dL_law_1390 : decode cL_law 1390 = .ok (.ifCond .eq 11, 3) := by decide +kernel
theorem dL_law_1393 : decode cL_law 1393 = .ok (.dload 8, 2) := by decide +kernel
theorem dL_law_1395 : decode cL_law 1395 = .ok (.dload 8, 2) := by decide +kernel
theorem dL_law_1397 : decode cL_law 1397 = .ok (.dcmp .l, 1) := by decide +kernel
theorem dL_law_1398 : decode cL_law 1398 = .ok (.ifCond .ne 5, 3) := by decide +kernel
theorem dL_law_1401 : decode cL_law 1401 = .ok (.iconst 0, 1) := by decide +kernel
theorem dL_law_1402 : decode cL_law 1402 = .ok (.ireturn, 1) := by decide +kernel
theorem dL_law_1403 : decode cL_law 1403 = .ok (.goto 2097, 3) := by decide +kernel
theorem dL_law_1406 : decode cL_law 1406 = .ok (.aload_n 1, 1) := by decide +kernel
theorem dL_law_1407 : decode cL_law 1407 = .ok (.aload_n 0, 1) := by decide +kernel
theorem dL_law_1408 : decode cL_law 1408 = .ok (.iload 5, 2) := by decide +kernel
theorem dL_law_1410 : decode cL_law 1410 = .ok (.iconst 1, 1) := by decide +kernel
theorem dL_law_1411 : decode cL_law 1411 = .ok (.iadd, 1) := by decide +kernel
theorem dL_law_1412 : decode cL_law 1412 = .ok (.iaload, 1) := by decide +kernel
theorem dL_law_1413 : decode cL_law 1413 = .ok (.aload_n 0, 1) := by decide +kernel
theorem dL_law_1414 : decode cL_law 1414 = .ok (.iload 5, 2) := by decide +kernel
theorem dL_law_1416 : decode cL_law 1416 = .ok (.iconst 2, 1) := by decide +kernel
theorem dL_law_1417 : decode cL_law 1417 = .ok (.iadd, 1) := by decide +kernel
theorem dL_law_1418 : decode cL_law 1418 = .ok (.iaload, 1) := by decide +kernel
theorem dL_law_1419 : decode cL_law 1419 = .ok (.aload_n 3, 1) := by decide +kernel
theorem dL_law_1420 : decode cL_law 1420 = .ok (.invokestatic 241, 3) := by decide +kernel
theorem dL_law_1423 : decode cL_law 1423 = .ok (.istore 6, 2) := by decide +kernel
theorem dL_law_1425 : decode cL_law 1425 = .ok (.aload_n 2, 1) := by decide +kernel
theorem dL_law_1426 : decode cL_law 1426 = .ok (.aload_n 0, 1) := by decide +kernel
theorem dL_law_1427 : decode cL_law 1427 = .ok (.iload 5, 2) := by decide +kernel
theorem dL_law_1429 : decode cL_law 1429 = .ok (.iconst 1, 1) := by decide +kernel
theorem dL_law_1430 : decode cL_law 1430 = .ok (.iadd, 1) := by decide +kernel
theorem dL_law_1431 : decode cL_law 1431 = .ok (.iaload, 1) := by decide +kernel
theorem dL_law_1432 : decode cL_law 1432 = .ok (.aload_n 0, 1) := by decide +kernel
theorem dL_law_1433 : decode cL_law 1433 = .ok (.iload 5, 2) := by decide +kernel
theorem dL_law_1435 : decode cL_law 1435 = .ok (.iconst 2, 1) := by decide +kernel
theorem dL_law_1436 : decode cL_law 1436 = .ok (.iadd, 1) := by decide +kernel
theorem dL_law_1437 : decode cL_law 1437 = .ok (.iaload, 1) := by decide +kernel
theorem dL_law_1438 : decode cL_law 1438 = .ok (.invokevirtual 243, 3) := by decide +kernel
theorem dL_law_1441 : decode cL_law 1441 = .ok (.istore 7, 2) := by decide +kernel
theorem dL_law_1443 : decode cL_law 1443 = .ok (.aload_n 2, 1) := by decide +kernel
theorem dL_law_1444 : decode cL_law 1444 = .ok (.invokevirtual 156, 3) := by decide +kernel
theorem dL_law_1447 : decode cL_law 1447 = .ok (.iload 6, 2) := by decide +kernel
theorem dL_law_1449 : decode cL_law 1449 = .ok (.if_icmp .eq 5, 3) := by decide +kernel
theorem dL_law_1452 : decode cL_law 1452 = .ok (.iconst 0, 1) := by decide +kernel
