theorem dX13_stampGain_110 : decode cX13_stampGain 110 = .ok (.iload 8, 2) := by decide +kernel
theorem dX13_stampGain_112 : decode cX13_stampGain 112 = .ok (.sipush 192, 3) := by decide +kernel
theorem dX13_stampGain_115 : decode cX13_stampGain 115 = .ok (.if_icmp .ge 23, 3) := by decide +kernel
theorem dX13_stampGain_118 : decode cX13_stampGain 118 = .ok (.aload_n 0, 1) := by decide +kernel
theorem dX13_stampGain_119 : decode cX13_stampGain 119 = .ok (.getfield 29, 3) := by decide +kernel
theorem dX13_stampGain_122 : decode cX13_stampGain 122 = .ok (.iload 8, 2) := by decide +kernel
theorem dX13_stampGain_124 : decode cX13_stampGain 124 = .ok (.aload_n 0, 1) := by decide +kernel
theorem dX13_stampGain_125 : decode cX13_stampGain 125 = .ok (.getfield 39, 3) := by decide +kernel
theorem dX13_stampGain_128 : decode cX13_stampGain 128 = .ok (.iload 8, 2) := by decide +kernel
theorem dX13_stampGain_130 : decode cX13_stampGain 130 = .ok (.iaload, 1) := by decide +kernel
theorem dX13_stampGain_131 : decode cX13_stampGain 131 = .ok (.iastore, 1) := by decide +kernel
theorem dX13_stampGain_132 : decode cX13_stampGain 132 = .ok (.iinc 8 1, 3) := by decide +kernel
theorem dX13_stampGain_135 : decode cX13_stampGain 135 = .ok (.goto (-25), 3) := by decide +kernel
theorem dX13_stampGain_138 : decode cX13_stampGain 138 = .ok (.iload 7, 2) := by decide +kernel
theorem dX13_stampGain_140 : decode cX13_stampGain 140 = .ok (.ireturn, 1) := by decide +kernel
set_option maxRecDepth 20000 in
theorem ggX13_commandHere_X13_isWord : GoodIn wsX13_commandHere wsX13_isWord := goodIn_r _ [17, 18, 19, 20, 21, 22, 23, 24, 25, 26, 27, 28, 29, 30, 31, 32, 33, 34, 35, 36, 37, 38, 39, 40, 41, 42, 43, 44, 45, 46, 47, 48, 49, 50, 51, 52, 53, 54, 55, 56, 57, 58, 59, 60, 61, 62, 63, 64, 65, 66, 67, 68] (by decide +kernel) (by decide +kernel)
set_option maxRecDepth 20000 in
theorem gX13_commandHere_X13_isWord : GoodIn wsX13_commandHere (wsV RX13 152 RX13 yX13_isWord wsX13_isWord) := goodIn_app (goodIn_of _ (by decide +kernel)) ggX13_commandHere_X13_isWord
theorem dX13_commandHere_0 : decode cX13_commandHere 0 = .ok (.aload_n 0, 1) := by decide +kernel
theorem dX13_commandHere_1 : decode cX13_commandHere 1 = .ok (.ldc2_w 428, 3) := by decide +kernel
theorem dX13_commandHere_4 : decode cX13_commandHere 4 = .ok (.invokevirtual 152, 3) := by decide +kernel
theorem dX13_commandHere_7 : decode cX13_commandHere 7 = .ok (.ifCond .eq 5, 3) := by decide +kernel
theorem dX13_commandHere_10 : decode cX13_commandHere 10 = .ok (.iconst 0, 1) := by decide +kernel
theorem dX13_commandHere_11 : decode cX13_commandHere 11 = .ok (.ireturn, 1) := by decide +kernel
theorem dX13_commandHere_12 : decode cX13_commandHere 12 = .ok (.aload_n 0, 1) := by decide +kernel
theorem dX13_commandHere_13 : decode cX13_commandHere 13 = .ok (.ldc2_w 430, 3) := by decide +kernel
theorem dX13_commandHere_16 : decode cX13_commandHere 16 = .ok (.invokevirtual 152, 3) := by decide +kernel
theorem dX13_commandHere_19 : decode cX13_commandHere 19 = .ok (.ifCond .eq 5, 3) := by decide +kernel
theorem dX13_commandHere_22 : decode cX13_commandHere 22 = .ok (.iconst 1, 1) := by decide +kernel
theorem dX13_commandHere_23 : decode cX13_commandHere 23 = .ok (.ireturn, 1) := by decide +kernel
theorem dX13_commandHere_24 : decode cX13_commandHere 24 = .ok (.aload_n 0, 1) := by decide +kernel
theorem dX13_commandHere_25 : decode cX13_commandHere 25 = .ok (.ldc2_w 432, 3) := by decide +kernel
theorem dX13_commandHere_28 : decode cX13_commandHere 28 = .ok (.invokevirtual 152, 3) := by decide +kernel
theorem dX13_commandHere_31 : decode cX13_commandHere 31 = .ok (.ifCond .eq 5, 3) := by decide +kernel
theorem dX13_commandHere_34 : decode cX13_commandHere 34 = .ok (.iconst 2, 1) := by decide +kernel
theorem dX13_commandHere_35 : decode cX13_commandHere 35 = .ok (.ireturn, 1) := by decide +kernel
theorem dX13_commandHere_36 : decode cX13_commandHere 36 = .ok (.aload_n 0, 1) := by decide +kernel
theorem dX13_commandHere_37 : decode cX13_commandHere 37 = .ok (.ldc2_w 434, 3) := by decide +kernel
theorem dX13_commandHere_40 : decode cX13_commandHere 40 = .ok (.invokevirtual 152, 3) := by decide +kernel
theorem dX13_commandHere_43 : decode cX13_commandHere 43 = .ok (.ifCond .eq 5, 3) := by decide +kernel
theorem dX13_commandHere_46 : decode cX13_commandHere 46 = .ok (.iconst 3, 1) := by decide +kernel
theorem dX13_commandHere_47 : decode cX13_commandHere 47 = .ok (.ireturn, 1) := by decide +kernel
theorem dX13_commandHere_48 : decode cX13_commandHere 48 = .ok (.aload_n 0, 1) := by decide +kernel
theorem dX13_commandHere_49 : decode cX13_commandHere 49 = .ok (.ldc2_w 436, 3) := by decide +kernel
theorem dX13_commandHere_52 : decode cX13_commandHere 52 = .ok (.invokevirtual 152, 3) := by decide +kernel
theorem dX13_commandHere_55 : decode cX13_commandHere 55 = .ok (.ifCond .eq 5, 3) := by decide +kernel
theorem dX13_commandHere_58 : decode cX13_commandHere 58 = .ok (.iconst 4, 1) := by decide +kernel
theorem dX13_commandHere_59 : decode cX13_commandHere 59 = .ok (.ireturn, 1) := by decide +kernel
theorem dX13_commandHere_60 : decode cX13_commandHere 60 = .ok (.aload_n 0, 1) := by decide +kernel
theorem dX13_commandHere_61 : decode cX13_commandHere 61 = .ok (.ldc2_w 438, 3) := by decide +kernel
theorem dX13_commandHere_64 : decode cX13_commandHere 64 = .ok (.invokevirtual 152, 3) := by decide +kernel
theorem dX13_commandHere_67 : decode cX13_commandHere 67 = .ok (.ifCond .eq 6, 3) := by decide +kernel
theorem dX13_commandHere_70 : decode cX13_commandHere 70 = .ok (.bipush 6, 2) := by decide +kernel
theorem dX13_commandHere_72 : decode cX13_commandHere 72 = .ok (.ireturn, 1) := by decide +kernel
theorem dX13_commandHere_73 : decode cX13_commandHere 73 = .ok (.aload_n 0, 1) := by decide +kernel
theorem dX13_commandHere_74 : decode cX13_commandHere 74 = .ok (.ldc2_w 440, 3) := by decide +kernel
theorem dX13_commandHere_77 : decode cX13_commandHere 77 = .ok (.invokevirtual 152, 3) := by decide +kernel
theorem dX13_commandHere_80 : decode cX13_commandHere 80 = .ok (.ifCond .eq 5, 3) := by decide +kernel
theorem dX13_commandHere_83 : decode cX13_commandHere 83 = .ok (.iconst 5, 1) := by decide +kernel
theorem dX13_commandHere_84 : decode cX13_commandHere 84 = .ok (.ireturn, 1) := by decide +kernel
theorem dX13_commandHere_85 : decode cX13_commandHere 85 = .ok (.aload_n 0, 1) := by decide +kernel
theorem dX13_commandHere_86 : decode cX13_commandHere 86 = .ok (.ldc2_w 442, 3) := by decide +kernel
theorem dX13_commandHere_89 : decode cX13_commandHere 89 = .ok (.invokevirtual 152, 3) := by decide +kernel
theorem dX13_commandHere_92 : decode cX13_commandHere 92 = .ok (.ifCond .eq 6, 3) := by decide +kernel
theorem dX13_commandHere_95 : decode cX13_commandHere 95 = .ok (.bipush 7, 2) := by decide +kernel
theorem dX13_commandHere_97 : decode cX13_commandHere 97 = .ok (.ireturn, 1) := by decide +kernel
theorem dX13_commandHere_98 : decode cX13_commandHere 98 = .ok (.aload_n 0, 1) := by decide +kernel
theorem dX13_commandHere_99 : decode cX13_commandHere 99 = .ok (.ldc2_w 444, 3) := by decide +kernel
theorem dX13_commandHere_102 : decode cX13_commandHere 102 = .ok (.invokevirtual 152, 3) := by decide +kernel
theorem dX13_commandHere_105 : decode cX13_commandHere 105 = .ok (.ifCond .eq 6, 3) := by decide +kernel
theorem dX13_commandHere_108 : decode cX13_commandHere 108 = .ok (.bipush 8, 2) := by decide +kernel
theorem dX13_commandHere_110 : decode cX13_commandHere 110 = .ok (.ireturn, 1) := by decide +kernel
theorem dX13_commandHere_111 : decode cX13_commandHere 111 = .ok (.aload_n 0, 1) := by decide +kernel
theorem dX13_commandHere_112 : decode cX13_commandHere 112 = .ok (.ldc2_w 446, 3) := by decide +kernel
theorem dX13_commandHere_115 : decode cX13_commandHere 115 = .ok (.invokevirtual 152, 3) := by decide +kernel
theorem dX13_commandHere_118 : decode cX13_commandHere 118 = .ok (.ifCond .eq 6, 3) := by decide +kernel
theorem dX13_commandHere_121 : decode cX13_commandHere 121 = .ok (.bipush 9, 2) := by decide +kernel
theorem dX13_commandHere_123 : decode cX13_commandHere 123 = .ok (.ireturn, 1) := by decide +kernel
theorem dX13_commandHere_124 : decode cX13_commandHere 124 = .ok (.aload_n 0, 1) := by decide +kernel
theorem dX13_commandHere_125 : decode cX13_commandHere 125 = .ok (.ldc2_w 448, 3) := by decide +kernel
theorem dX13_commandHere_128 : decode cX13_commandHere 128 = .ok (.invokevirtual 152, 3) := by decide +kernel
theorem dX13_commandHere_131 : decode cX13_commandHere 131 = .ok (.ifCond .eq 6, 3) := by decide +kernel
theorem dX13_commandHere_134 : decode cX13_commandHere 134 = .ok (.bipush 10, 2) := by decide +kernel
theorem dX13_commandHere_136 : decode cX13_commandHere 136 = .ok (.ireturn, 1) := by decide +kernel
theorem dX13_commandHere_137 : decode cX13_commandHere 137 = .ok (.aload_n 0, 1) := by decide +kernel
theorem dX13_commandHere_138 : decode cX13_commandHere 138 = .ok (.ldc2_w 450, 3) := by decide +kernel
theorem dX13_commandHere_141 : decode cX13_commandHere 141 = .ok (.invokevirtual 152, 3) := by decide +kernel
theorem dX13_commandHere_144 : decode cX13_commandHere 144 = .ok (.ifCond .eq 8, 3) := by decide +kernel
theorem dX13_commandHere_147 : decode cX13_commandHere 147 = .ok (.bipush 11, 2) := by decide +kernel
theorem dX13_commandHere_149 : decode cX13_commandHere 149 = .ok (.goto 4, 3) := by decide +kernel
theorem dX13_commandHere_152 : decode cX13_commandHere 152 = .ok (.iconst (-1), 1) := by decide +kernel
theorem dX13_commandHere_153 : decode cX13_commandHere 153 = .ok (.ireturn, 1) := by decide +kernel
theorem dX13_numbersOf_0 : decode cX13_numbersOf 0 = .ok (.iload_n 0, 1) := by decide +kernel
theorem dX13_numbersOf_1 : decode cX13_numbersOf 1 = .ok (.ifCond .eq 8, 3) := by decide +kernel
theorem dX13_numbersOf_4 : decode cX13_numbersOf 4 = .ok (.iload_n 0, 1) := by decide +kernel
theorem dX13_numbersOf_5 : decode cX13_numbersOf 5 = .ok (.iconst 1, 1) := by decide +kernel
theorem dX13_numbersOf_6 : decode cX13_numbersOf 6 = .ok (.if_icmp .ne 7, 3) := by decide +kernel
theorem dX13_numbersOf_9 : decode cX13_numbersOf 9 = .ok (.iconst 3, 1) := by decide +kernel
theorem dX13_numbersOf_10 : decode cX13_numbersOf 10 = .ok (.goto 37, 3) := by decide +kernel
theorem dX13_numbersOf_13 : decode cX13_numbersOf 13 = .ok (.iload_n 0, 1) := by decide +kernel
theorem dX13_numbersOf_14 : decode cX13_numbersOf 14 = .ok (.iconst 2, 1) := by decide +kernel
theorem dX13_numbersOf_15 : decode cX13_numbersOf 15 = .ok (.if_icmp .ne 7, 3) := by decide +kernel
theorem dX13_numbersOf_18 : decode cX13_numbersOf 18 = .ok (.iconst 5, 1) := by decide +kernel
theorem dX13_numbersOf_19 : decode cX13_numbersOf 19 = .ok (.goto 28, 3) := by decide +kernel
theorem dX13_numbersOf_22 : decode cX13_numbersOf 22 = .ok (.iload_n 0, 1) := by decide +kernel
theorem dX13_numbersOf_23 : decode cX13_numbersOf 23 = .ok (.iconst 3, 1) := by decide +kernel
theorem dX13_numbersOf_24 : decode cX13_numbersOf 24 = .ok (.if_icmp .ne 7, 3) := by decide +kernel
theorem dX13_numbersOf_27 : decode cX13_numbersOf 27 = .ok (.iconst 4, 1) := by decide +kernel
theorem dX13_numbersOf_28 : decode cX13_numbersOf 28 = .ok (.goto 19, 3) := by decide +kernel
theorem dX13_numbersOf_31 : decode cX13_numbersOf 31 = .ok (.iload_n 0, 1) := by decide +kernel
theorem dX13_numbersOf_32 : decode cX13_numbersOf 32 = .ok (.bipush 11, 2) := by decide +kernel
theorem dX13_numbersOf_34 : decode cX13_numbersOf 34 = .ok (.if_icmp .eq 8, 3) := by decide +kernel
theorem dX13_numbersOf_37 : decode cX13_numbersOf 37 = .ok (.iload_n 0, 1) := by decide +kernel
theorem dX13_numbersOf_38 : decode cX13_numbersOf 38 = .ok (.iconst 4, 1) := by decide +kernel
theorem dX13_numbersOf_39 : decode cX13_numbersOf 39 = .ok (.if_icmp .ne 7, 3) := by decide +kernel
theorem dX13_numbersOf_42 : decode cX13_numbersOf 42 = .ok (.iconst 1, 1) := by decide +kernel
theorem dX13_numbersOf_43 : decode cX13_numbersOf 43 = .ok (.goto 4, 3) := by decide +kernel
theorem dX13_numbersOf_46 : decode cX13_numbersOf 46 = .ok (.iconst 0, 1) := by decide +kernel
theorem dX13_numbersOf_47 : decode cX13_numbersOf 47 = .ok (.ireturn, 1) := by decide +kernel
set_option maxRecDepth 20000 in
theorem ggX13_command_X13_commandHere : GoodIn wsX13_command wsX13_commandHere := goodIn_r _ [10, 11, 12, 13, 14, 15, 16, 17, 18, 19, 20, 21, 22, 23, 24, 25, 9, 26, 27, 28, 29, 79, 80, 81, 82, 83, 84, 85, 86, 87, 88, 89, 90, 91, 92, 93, 94, 95, 96, 97, 98, 99, 100, 101, 102, 103, 104, 105, 106, 107, 108, 109, 110, 111, 112, 113, 114, 115, 116, 117, 118, 119, 120, 121, 122, 123, 124, 125, 126] (by decide +kernel) (by decide +kernel)
set_option maxRecDepth 20000 in
theorem gX13_command_X13_commandHere : GoodIn wsX13_command (wsV RX13 452 RX13 yX13_commandHere wsX13_commandHere) := goodIn_app (goodIn_of _ (by decide +kernel)) ggX13_command_X13_commandHere
set_option maxRecDepth 20000 in
theorem ggX13_command_X13_wrong : GoodIn wsX13_command wsX13_wrong := goodIn_r _ [33, 27, 28, 34, 35, 79, 80, 81, 82, 83, 84, 85, 86, 87, 88, 89, 90, 91, 92, 93, 94, 95, 96, 97, 98, 99, 100, 101, 102, 103, 104, 105, 106, 107, 108, 109, 110, 111, 112, 113, 114, 115, 116, 117, 118, 119, 120, 121, 122, 123, 124, 125, 126] (by decide +kernel) (by decide +kernel)
set_option maxRecDepth 20000 in
theorem gX13_command_X13_wrong : GoodIn wsX13_command (wsV RX13 156 RX13 yX13_wrong wsX13_wrong) := goodIn_app (goodIn_of _ (by decide +kernel)) ggX13_command_X13_wrong
set_option maxRecDepth 20000 in
theorem ggX13_command_X13_isGood : GoodIn wsX13_command wsX13_isGood := goodIn_r _ [39, 27, 79, 80, 81, 82, 83, 84, 85, 86, 87, 88, 89, 90, 91, 92, 93, 94, 95, 96, 97, 98, 99, 100, 101, 102, 103, 104, 105, 106, 107, 108, 109, 110, 111, 112, 113, 114, 115, 116, 117, 118, 119, 120, 121, 122, 123, 124, 125, 126] (by decide +kernel) (by decide +kernel)
set_option maxRecDepth 20000 in
theorem gX13_command_X13_isGood : GoodIn wsX13_command (wsV RX13 148 RX13 yX13_isGood wsX13_isGood) := goodIn_app (goodIn_of _ (by decide +kernel)) ggX13_command_X13_isGood
set_option maxRecDepth 20000 in
theorem ggX13_command_X13_goOn : GoodIn wsX13_command wsX13_goOn := goodIn_r _ [43, 44, 34, 29, 45, 28, 46, 47, 48, 9, 49, 50, 51, 52, 53, 54, 55, 56, 57, 79, 80, 81, 82, 83, 84, 85, 86, 87, 88, 89, 90, 91, 92, 93, 94, 95, 96, 97, 98, 99, 100, 101, 102, 103, 104, 105, 106, 107, 108, 109, 110, 111, 112, 113, 114, 115, 116, 117, 118, 119, 120, 121, 122, 123, 124, 125, 126] (by decide +kernel) (by decide +kernel)
set_option maxRecDepth 20000 in
theorem gX13_command_X13_goOn : GoodIn wsX13_command (wsV RX13 159 RX13 yX13_goOn wsX13_goOn) := goodIn_app (goodIn_of _ (by decide +kernel)) ggX13_command_X13_goOn
set_option maxRecDepth 20000 in
theorem ggX13_command_X13_numbersOf : GoodIn wsX13_command wsX13_numbersOf := goodIn_r _ [60] (by decide +kernel) (by decide +kernel)
set_option maxRecDepth 20000 in
theorem gX13_command_X13_numbersOf : GoodIn wsX13_command (va_wsS RX13 461 yX13_numbersOf wsX13_numbersOf) := goodIn_app (goodIn_of _ (by decide +kernel)) ggX13_command_X13_numbersOf
set_option maxRecDepth 20000 in
theorem ggX13_command_X13_number : GoodIn wsX13_command wsX13_number := goodIn_r _ [64, 28, 45, 36, 37, 38, 9, 39, 27, 30, 31, 32, 33, 34, 35, 65, 66, 67, 40, 41, 42, 43, 44, 29, 46, 47, 48, 49, 50, 51, 52, 53, 54, 55, 56, 57, 79, 80, 81, 82, 83, 84, 85, 86, 87, 88, 89, 90, 91, 92, 93, 94, 95, 96, 97, 98, 99, 100, 101, 102, 103, 104, 105, 106, 107, 108, 109, 110, 111, 112, 113, 114, 115, 116, 117, 118, 119, 120, 121, 122, 123, 124, 125, 126] (by decide +kernel) (by decide +kernel)
set_option maxRecDepth 20000 in
theorem gX13_command_X13_number : GoodIn wsX13_command (wsV RX13 169 RX13 yX13_number wsX13_number) := goodIn_app (goodIn_of _ (by decide +kernel)) ggX13_command_X13_number
set_option maxRecDepth 20000 in
theorem ggX13_command_X13_mustSign : GoodIn wsX13_command wsX13_mustSign := goodIn_r _ [71, 36, 37, 38, 9, 39, 27, 72, 73, 74, 75, 28, 45, 30, 31, 32, 33, 34, 35, 40, 41, 42, 43, 44, 29, 46, 47, 48, 49, 50, 51, 52, 53, 54, 55, 56, 57, 79, 80, 81, 82, 83, 84, 85, 86, 87, 88, 89, 90, 91, 92, 93, 94, 95, 96, 97, 98, 99, 100, 101, 102, 103, 104, 105, 106, 107, 108, 109, 110, 111, 112, 113, 114, 115, 116, 117, 118, 119, 120, 121, 122, 123, 124, 125, 126] (by decide +kernel) (by decide +kernel)
set_option maxRecDepth 20000 in
theorem gX13_command_X13_mustSign : GoodIn wsX13_command (wsV RX13 243 RX13 yX13_mustSign wsX13_mustSign) := goodIn_app (goodIn_of _ (by decide +kernel)) ggX13_command_X13_mustSign
set_option maxRecDepth 20000 in
theorem ggX13_command_X13_truth : GoodIn wsX13_command wsX13_truth := goodIn_r _ [78] (by decide +kernel) (by decide +kernel)
set_option maxRecDepth 20000 in
theorem gX13_command_X13_truth : GoodIn wsX13_command (va_wsS RX13 96 yX13_truth wsX13_truth) := goodIn_app (goodIn_of _ (by decide +kernel)) ggX13_command_X13_truth
theorem dX13_command_0 : decode cX13_command 0 = .ok (.aload_n 0, 1) := by decide +kernel
theorem dX13_command_1 : decode cX13_command 1 = .ok (.invokevirtual 452, 3) := by decide +kernel
theorem dX13_command_4 : decode cX13_command 4 = .ok (.istore_n 1, 1) := by decide +kernel
theorem dX13_command_5 : decode cX13_command 5 = .ok (.iload_n 1, 1) := by decide +kernel
theorem dX13_command_6 : decode cX13_command 6 = .ok (.iconst (-1), 1) := by decide +kernel
theorem dX13_command_7 : decode cX13_command 7 = .ok (.if_icmp .ne 8, 3) := by decide +kernel
theorem dX13_command_10 : decode cX13_command 10 = .ok (.aload_n 0, 1) := by decide +kernel
theorem dX13_command_11 : decode cX13_command 11 = .ok (.iconst 1, 1) := by decide +kernel
theorem dX13_command_12 : decode cX13_command 12 = .ok (.invokevirtual 156, 3) := by decide +kernel
theorem dX13_command_15 : decode cX13_command 15 = .ok (.iload_n 1, 1) := by decide +kernel
theorem dX13_command_16 : decode cX13_command 16 = .ok (.bipush 11, 2) := by decide +kernel
theorem dX13_command_18 : decode cX13_command 18 = .ok (.if_icmp .ne 16, 3) := by decide +kernel
theorem dX13_command_21 : decode cX13_command 21 = .ok (.aload_n 0, 1) := by decide +kernel
theorem dX13_command_22 : decode cX13_command 22 = .ok (.getfield 455, 3) := by decide +kernel
theorem dX13_command_25 : decode cX13_command 25 = .ok (.iconst 2, 1) := by decide +kernel
theorem dX13_command_26 : decode cX13_command 26 = .ok (.if_icmp .ne 8, 3) := by decide +kernel
theorem dX13_command_29 : decode cX13_command 29 = .ok (.aload_n 0, 1) := by decide +kernel
theorem dX13_command_30 : decode cX13_command 30 = .ok (.iconst 3, 1) := by decide +kernel
theorem dX13_command_31 : decode cX13_command 31 = .ok (.invokevirtual 156, 3) := by decide +kernel
theorem dX13_command_34 : decode cX13_command 34 = .ok (.aload_n 0, 1) := by decide +kernel
theorem dX13_command_35 : decode cX13_command 35 = .ok (.getfield 458, 3) := by decide +kernel
theorem dX13_command_38 : decode cX13_command 38 = .ok (.bipush 30, 2) := by decide +kernel
theorem dX13_command_40 : decode cX13_command 40 = .ok (.if_icmp .ne 8, 3) := by decide +kernel
theorem dX13_command_43 : decode cX13_command 43 = .ok (.aload_n 0, 1) := by decide +kernel
theorem dX13_command_44 : decode cX13_command 44 = .ok (.iconst 5, 1) := by decide +kernel
theorem dX13_command_45 : decode cX13_command 45 = .ok (.invokevirtual 156, 3) := by decide +kernel
theorem dX13_command_48 : decode cX13_command 48 = .ok (.aload_n 0, 1) := by decide +kernel
theorem dX13_command_49 : decode cX13_command 49 = .ok (.invokevirtual 148, 3) := by decide +kernel
theorem dX13_command_52 : decode cX13_command 52 = .ok (.ifCond .ne 4, 3) := by decide +kernel
theorem dX13_command_55 : decode cX13_command 55 = .ok (.return_, 1) := by decide +kernel
theorem dX13_command_56 : decode cX13_command 56 = .ok (.aload_n 0, 1) := by decide +kernel
theorem dX13_command_57 : decode cX13_command 57 = .ok (.dup, 1) := by decide +kernel
theorem dX13_command_58 : decode cX13_command 58 = .ok (.getfield 458, 3) := by decide +kernel
theorem dX13_command_61 : decode cX13_command 61 = .ok (.iconst 1, 1) := by decide +kernel
theorem dX13_command_62 : decode cX13_command 62 = .ok (.iadd, 1) := by decide +kernel
theorem dX13_command_63 : decode cX13_command 63 = .ok (.putfield 458, 3) := by decide +kernel
theorem dX13_command_66 : decode cX13_command 66 = .ok (.aload_n 0, 1) := by decide +kernel
theorem dX13_command_67 : decode cX13_command 67 = .ok (.invokevirtual 159, 3) := by decide +kernel
theorem dX13_command_70 : decode cX13_command 70 = .ok (.iconst 0, 1) := by decide +kernel
theorem dX13_command_71 : decode cX13_command 71 = .ok (.istore_n 2, 1) := by decide +kernel
theorem dX13_command_72 : decode cX13_command 72 = .ok (.iload_n 2, 1) := by decide +kernel
theorem dX13_command_73 : decode cX13_command 73 = .ok (.iload_n 1, 1) := by decide +kernel
theorem dX13_command_74 : decode cX13_command 74 = .ok (.invokestatic 461, 3) := by decide +kernel
theorem dX13_command_77 : decode cX13_command 77 = .ok (.if_icmp .ge 54, 3) := by decide +kernel
theorem dX13_command_80 : decode cX13_command 80 = .ok (.aload_n 0, 1) := by decide +kernel
theorem dX13_command_81 : decode cX13_command 81 = .ok (.getfield 60, 3) := by decide +kernel
theorem dX13_command_84 : decode cX13_command 84 = .ok (.iconst 5, 1) := by decide +kernel
theorem dX13_command_85 : decode cX13_command 85 = .ok (.aload_n 0, 1) := by decide +kernel
theorem dX13_command_86 : decode cX13_command 86 = .ok (.getfield 464, 3) := by decide +kernel
theorem dX13_command_89 : decode cX13_command 89 = .ok (.imul, 1) := by decide +kernel
theorem dX13_command_90 : decode cX13_command 90 = .ok (.iload_n 2, 1) := by decide +kernel
theorem dX13_command_91 : decode cX13_command 91 = .ok (.iadd, 1) := by decide +kernel
theorem dX13_command_92 : decode cX13_command 92 = .ok (.aload_n 0, 1) := by decide +kernel
theorem dX13_command_93 : decode cX13_command 93 = .ok (.iload_n 1, 1) := by decide +kernel
theorem dX13_command_94 : decode cX13_command 94 = .ok (.bipush 11, 2) := by decide +kernel
theorem dX13_command_96 : decode cX13_command 96 = .ok (.if_icmp .ne 7, 3) := by decide +kernel
theorem dX13_command_99 : decode cX13_command 99 = .ok (.iconst 1, 1) := by decide +kernel
theorem dX13_command_100 : decode cX13_command 100 = .ok (.goto 4, 3) := by decide +kernel
theorem dX13_command_103 : decode cX13_command 103 = .ok (.iconst 0, 1) := by decide +kernel
theorem dX13_command_104 : decode cX13_command 104 = .ok (.iload_n 1, 1) := by decide +kernel
theorem dX13_command_105 : decode cX13_command 105 = .ok (.ifCond .ne 14, 3) := by decide +kernel
theorem dX13_command_108 : decode cX13_command 108 = .ok (.iload_n 2, 1) := by decide +kernel
theorem dX13_command_109 : decode cX13_command 109 = .ok (.iconst 2, 1) := by decide +kernel
theorem dX13_command_110 : decode cX13_command 110 = .ok (.if_icmp .ne 9, 3) := by decide +kernel
theorem dX13_command_113 : decode cX13_command 113 = .ok (.sipush 255, 3) := by decide +kernel
theorem dX13_command_116 : decode cX13_command 116 = .ok (.goto 5, 3) := by decide +kernel
theorem dX13_command_119 : decode cX13_command 119 = .ok (.bipush 20, 2) := by decide +kernel
theorem dX13_command_121 : decode cX13_command 121 = .ok (.invokevirtual 169, 3) := by decide +kernel
theorem dX13_command_124 : decode cX13_command 124 = .ok (.iastore, 1) := by decide +kernel
theorem dX13_command_125 : decode cX13_command 125 = .ok (.iinc 2 1, 3) := by decide +kernel
theorem dX13_command_128 : decode cX13_command 128 = .ok (.goto (-56), 3) := by decide +kernel
theorem dX13_command_131 : decode cX13_command 131 = .ok (.iload_n 1, 1) := by decide +kernel
theorem dX13_command_132 : decode cX13_command 132 = .ok (.bipush 11, 2) := by decide +kernel
theorem dX13_command_134 : decode cX13_command 134 = .ok (.if_icmp .ne 9, 3) := by decide +kernel
theorem dX13_command_137 : decode cX13_command 137 = .ok (.aload_n 0, 1) := by decide +kernel
theorem dX13_command_138 : decode cX13_command 138 = .ok (.bipush 40, 2) := by decide +kernel
theorem dX13_command_140 : decode cX13_command 140 = .ok (.invokevirtual 243, 3) := by decide +kernel
theorem dX13_command_143 : decode cX13_command 143 = .ok (.aload_n 0, 1) := by decide +kernel
theorem dX13_command_144 : decode cX13_command 144 = .ok (.invokevirtual 148, 3) := by decide +kernel
theorem dX13_command_147 : decode cX13_command 147 = .ok (.ifCond .ne 4, 3) := by decide +kernel
theorem dX13_command_150 : decode cX13_command 150 = .ok (.return_, 1) := by decide +kernel
theorem dX13_command_151 : decode cX13_command 151 = .ok (.aload_n 0, 1) := by decide +kernel
theorem dX13_command_152 : decode cX13_command 152 = .ok (.getfield 57, 3) := by decide +kernel
theorem dX13_command_155 : decode cX13_command 155 = .ok (.aload_n 0, 1) := by decide +kernel
theorem dX13_command_156 : decode cX13_command 156 = .ok (.getfield 464, 3) := by decide +kernel
theorem dX13_command_159 : decode cX13_command 159 = .ok (.iload_n 1, 1) := by decide +kernel
theorem dX13_command_160 : decode cX13_command 160 = .ok (.iastore, 1) := by decide +kernel
theorem dX13_command_161 : decode cX13_command 161 = .ok (.aload_n 0, 1) := by decide +kernel
theorem dX13_command_162 : decode cX13_command 162 = .ok (.dup, 1) := by decide +kernel
theorem dX13_command_163 : decode cX13_command 163 = .ok (.getfield 464, 3) := by decide +kernel
theorem dX13_command_166 : decode cX13_command 166 = .ok (.iconst 1, 1) := by decide +kernel
theorem dX13_command_167 : decode cX13_command 167 = .ok (.iadd, 1) := by decide +kernel
theorem dX13_command_168 : decode cX13_command 168 = .ok (.putfield 464, 3) := by decide +kernel
theorem dX13_command_171 : decode cX13_command 171 = .ok (.aload_n 0, 1) := by decide +kernel
theorem dX13_command_172 : decode cX13_command 172 = .ok (.dup, 1) := by decide +kernel
theorem dX13_command_173 : decode cX13_command 173 = .ok (.getfield 455, 3) := by decide +kernel
theorem dX13_command_176 : decode cX13_command 176 = .ok (.iload_n 1, 1) := by decide +kernel
theorem dX13_command_177 : decode cX13_command 177 = .ok (.bipush 11, 2) := by decide +kernel
theorem dX13_command_179 : decode cX13_command 179 = .ok (.if_icmp .ne 7, 3) := by decide +kernel
theorem dX13_command_182 : decode cX13_command 182 = .ok (.iconst 1, 1) := by decide +kernel
theorem dX13_command_183 : decode cX13_command 183 = .ok (.goto 4, 3) := by decide +kernel
theorem dX13_command_186 : decode cX13_command 186 = .ok (.iconst 0, 1) := by decide +kernel
theorem dX13_command_187 : decode cX13_command 187 = .ok (.invokestatic 96, 3) := by decide +kernel
theorem dX13_command_190 : decode cX13_command 190 = .ok (.iadd, 1) := by decide +kernel
theorem dX13_command_191 : decode cX13_command 191 = .ok (.putfield 455, 3) := by decide +kernel
theorem dX13_command_194 : decode cX13_command 194 = .ok (.return_, 1) := by decide +kernel
set_option maxRecDepth 20000 in
theorem ggX13_closes_X13_isSign : GoodIn wsX13_closes wsX13_isSign := goodIn_r _ [8, 9, 10, 11, 44, 45, 46, 47, 48, 49, 50, 51, 52, 53, 54, 55, 56, 57, 58, 59, 60, 61, 62, 63, 64, 65, 66, 67, 68, 69, 70, 71, 72, 73, 74, 75, 76, 77, 78, 79, 80, 81, 82, 83, 84, 85, 86, 87, 88, 89, 90, 91] (by decide +kernel) (by decide +kernel)
set_option maxRecDepth 20000 in
theorem gX13_closes_X13_isSign : GoodIn wsX13_closes (wsV RX13 162 RX13 yX13_isSign wsX13_isSign) := goodIn_app (goodIn_of _ (by decide +kernel)) ggX13_closes_X13_isSign
set_option maxRecDepth 20000 in
theorem ggX13_closes_X13_goOn : GoodIn wsX13_closes wsX13_goOn := goodIn_r _ [15, 16, 17, 18, 11, 10, 19, 20, 21, 7, 22, 23, 24, 25, 26, 27, 28, 29, 30, 44, 45, 46, 47, 48, 49, 50, 51, 52, 53, 54, 55, 56, 57, 58, 59, 60, 61, 62, 63, 64, 65, 66, 67, 68, 69, 70, 71, 72, 73, 74, 75, 76, 77, 78, 79, 80, 81, 82, 83, 84, 85, 86, 87, 88, 89, 90, 91] (by decide +kernel) (by decide +kernel)
set_option maxRecDepth 20000 in
theorem gX13_closes_X13_goOn : GoodIn wsX13_closes (wsV RX13 159 RX13 yX13_goOn wsX13_goOn) := goodIn_app (goodIn_of _ (by decide +kernel)) ggX13_closes_X13_goOn
set_option maxRecDepth 20000 in
theorem ggX13_closes_X13_mustSign : GoodIn wsX13_closes wsX13_mustSign := goodIn_r _ [34, 35, 36, 37, 7, 38, 9, 4, 5, 6, 8, 10, 11, 39, 40, 41, 42, 17, 43, 12, 13, 14, 15, 16, 18, 19, 20, 21, 22, 23, 24, 25, 26, 27, 28, 29, 30, 44, 45, 46, 47, 48, 49, 50, 51, 52, 53, 54, 55, 56, 57, 58, 59, 60, 61, 62, 63, 64, 65, 66, 67, 68, 69, 70, 71, 72, 73, 74, 75, 76, 77, 78, 79, 80, 81, 82, 83, 84, 85, 86, 87, 88, 89, 90, 91] (by decide +kernel) (by decide +kernel)
set_option maxRecDepth 20000 in
theorem gX13_closes_X13_mustSign : GoodIn wsX13_closes (wsV RX13 243 RX13 yX13_mustSign wsX13_mustSign) := goodIn_app (goodIn_of _ (by decide +kernel)) ggX13_closes_X13_mustSign
theorem dX13_closes_0 : decode cX13_closes 0 = .ok (.aload_n 0, 1) := by decide +kernel
theorem dX13_closes_1 : decode cX13_closes 1 = .ok (.getfield 455, 3) := by decide +kernel
theorem dX13_closes_4 : decode cX13_closes 4 = .ok (.ifCond .le 56, 3) := by decide +kernel
theorem dX13_closes_7 : decode cX13_closes 7 = .ok (.aload_n 0, 1) := by decide +kernel
theorem dX13_closes_8 : decode cX13_closes 8 = .ok (.bipush 41, 2) := by decide +kernel
theorem dX13_closes_10 : decode cX13_closes 10 = .ok (.invokevirtual 162, 3) := by decide +kernel
theorem dX13_closes_13 : decode cX13_closes 13 = .ok (.ifCond .eq 47, 3) := by decide +kernel
theorem dX13_closes_16 : decode cX13_closes 16 = .ok (.aload_n 0, 1) := by decide +kernel
theorem dX13_closes_17 : decode cX13_closes 17 = .ok (.dup, 1) := by decide +kernel
theorem dX13_closes_18 : decode cX13_closes 18 = .ok (.getfield 455, 3) := by decide +kernel
theorem dX13_closes_21 : decode cX13_closes 21 = .ok (.iconst 1, 1) := by decide +kernel
theorem dX13_closes_22 : decode cX13_closes 22 = .ok (.isub, 1) := by decide +kernel
theorem dX13_closes_23 : decode cX13_closes 23 = .ok (.putfield 455, 3) := by decide +kernel
theorem dX13_closes_26 : decode cX13_closes 26 = .ok (.aload_n 0, 1) := by decide +kernel
theorem dX13_closes_27 : decode cX13_closes 27 = .ok (.getfield 57, 3) := by decide +kernel
theorem dX13_closes_30 : decode cX13_closes 30 = .ok (.aload_n 0, 1) := by decide +kernel
theorem dX13_closes_31 : decode cX13_closes 31 = .ok (.getfield 464, 3) := by decide +kernel
theorem dX13_closes_34 : decode cX13_closes 34 = .ok (.bipush 12, 2) := by decide +kernel
theorem dX13_closes_36 : decode cX13_closes 36 = .ok (.iastore, 1) := by decide +kernel
theorem dX13_closes_37 : decode cX13_closes 37 = .ok (.aload_n 0, 1) := by decide +kernel
theorem dX13_closes_38 : decode cX13_closes 38 = .ok (.dup, 1) := by decide +kernel
theorem dX13_closes_39 : decode cX13_closes 39 = .ok (.getfield 464, 3) := by decide +kernel
theorem dX13_closes_42 : decode cX13_closes 42 = .ok (.iconst 1, 1) := by decide +kernel
theorem dX13_closes_43 : decode cX13_closes 43 = .ok (.iadd, 1) := by decide +kernel
theorem dX13_closes_44 : decode cX13_closes 44 = .ok (.putfield 464, 3) := by decide +kernel
theorem dX13_closes_47 : decode cX13_closes 47 = .ok (.aload_n 0, 1) := by decide +kernel
theorem dX13_closes_48 : decode cX13_closes 48 = .ok (.invokevirtual 159, 3) := by decide +kernel
theorem dX13_closes_51 : decode cX13_closes 51 = .ok (.aload_n 0, 1) := by decide +kernel
theorem dX13_closes_52 : decode cX13_closes 52 = .ok (.bipush 59, 2) := by decide +kernel
theorem dX13_closes_54 : decode cX13_closes 54 = .ok (.invokevirtual 243, 3) := by decide +kernel
theorem dX13_closes_57 : decode cX13_closes 57 = .ok (.goto (-57), 3) := by decide +kernel
theorem dX13_closes_60 : decode cX13_closes 60 = .ok (.return_, 1) := by decide +kernel
set_option maxRecDepth 20000 in
theorem ggX13_does_X13_isCell : GoodIn wsX13_does wsX13_isCell := goodIn_r _ [9, 10, 11, 12, 8, 13, 156, 157, 158, 159, 160, 161, 162, 163, 164, 165, 166, 167, 168, 169, 170, 171, 172, 173, 174, 175, 176, 177, 178, 179, 180, 181, 182, 183, 184, 185, 186, 187, 188, 189, 190, 191, 192, 193, 194, 195, 196, 197, 198, 199, 200, 201, 202, 203] (by decide +kernel) (by decide +kernel)
set_option maxRecDepth 20000 in
theorem gX13_does_X13_isCell : GoodIn wsX13_does (wsV RX13 195 RX13 yX13_isCell wsX13_isCell) := goodIn_app (goodIn_of _ (by decide +kernel)) ggX13_does_X13_isCell
set_option maxRecDepth 20000 in
theorem ggX13_does_X13_isHeight : GoodIn wsX13_does wsX13_isHeight := goodIn_r _ [17, 10, 11, 12, 8, 13, 156, 157, 158, 159, 160, 161, 162, 163, 164, 165, 166, 167, 168, 169, 170, 171, 172, 173, 174, 175, 176, 177, 178, 179, 180, 181, 182, 183, 184, 185, 186, 187, 188, 189, 190, 191, 192, 193, 194, 195, 196, 197, 198, 199, 200, 201, 202, 203] (by decide +kernel) (by decide +kernel)
set_option maxRecDepth 20000 in
theorem gX13_does_X13_isHeight : GoodIn wsX13_does (wsV RX13 371 RX13 yX13_isHeight wsX13_isHeight) := goodIn_app (goodIn_of _ (by decide +kernel)) ggX13_does_X13_isHeight
set_option maxRecDepth 20000 in
theorem ggX13_does_X13_fits : GoodIn wsX13_does wsX13_fits := goodIn_r _ [21, 10, 11, 12, 8, 13, 14, 15, 16, 17, 156, 157, 158, 159, 160, 161, 162, 163, 164, 165, 166, 167, 168, 169, 170, 171, 172, 173, 174, 175, 176, 177, 178, 179, 180, 181, 182, 183, 184, 185, 186, 187, 188, 189, 190, 191, 192, 193, 194, 195, 196, 197, 198, 199, 200, 201, 202, 203] (by decide +kernel) (by decide +kernel)
set_option maxRecDepth 20000 in
theorem gX13_does_X13_fits : GoodIn wsX13_does (wsV RX13 374 RX13 yX13_fits wsX13_fits) := goodIn_app (goodIn_of _ (by decide +kernel)) ggX13_does_X13_fits
set_option maxRecDepth 20000 in
theorem ggX13_does_X13_isPlace : GoodIn wsX13_does wsX13_isPlace := goodIn_r _ [24, 25, 26, 11, 12, 8, 13] (by decide +kernel) (by decide +kernel)
set_option maxRecDepth 20000 in
theorem gX13_does_X13_isPlace : GoodIn wsX13_does (va_wsS RX13 419 yX13_isPlace wsX13_isPlace) := goodIn_app (goodIn_of _ (by decide +kernel)) ggX13_does_X13_isPlace
set_option maxRecDepth 20000 in
theorem ggX13_does_X13_tones : GoodIn wsX13_does wsX13_tones := goodIn_r _ [30, 31, 3, 32, 33, 8, 34, 35, 36, 37, 38, 39, 10, 40, 41, 42, 43, 44, 45, 46, 47, 156, 157, 158, 159, 160, 161, 162, 163, 164, 165, 166, 167, 168, 169, 170, 171, 172, 173, 174, 175, 176, 177, 178, 179, 180, 181, 182, 183, 184, 185, 186, 187, 188, 189, 190, 191, 192, 193, 194, 195, 196, 197, 198, 199, 200, 201, 202, 203] (by decide +kernel) (by decide +kernel)
set_option maxRecDepth 20000 in
theorem gX13_does_X13_tones : GoodIn wsX13_does (wsV RX13 365 RX13 yX13_tones wsX13_tones) := goodIn_app (goodIn_of _ (by decide +kernel)) ggX13_does_X13_tones
set_option maxRecDepth 20000 in
theorem ggX13_does_X13_fills : GoodIn wsX13_does wsX13_fills := goodIn_r _ [51, 3, 156, 157, 158, 159, 160, 161, 162, 163, 164, 165, 166, 167, 168, 169, 170, 171, 172, 173, 174, 175, 176, 177, 178, 179, 180, 181, 182, 183, 184, 185, 186, 187, 188, 189, 190, 191, 192, 193, 194, 195, 196, 197, 198, 199, 200, 201, 202, 203] (by decide +kernel) (by decide +kernel)
set_option maxRecDepth 20000 in
theorem gX13_does_X13_fills : GoodIn wsX13_does (wsV RX13 378 RX13 yX13_fills wsX13_fills) := goodIn_app (goodIn_of _ (by decide +kernel)) ggX13_does_X13_fills
set_option maxRecDepth 20000 in
theorem ggX13_does_X13_presses : GoodIn wsX13_does wsX13_presses := goodIn_r _ [55, 3, 10, 5, 6, 7, 8, 9, 11, 12, 13, 56, 57, 58, 59, 60, 61, 156, 157, 158, 159, 160, 161, 162, 163, 164, 165, 166, 167, 168, 169, 170, 171, 172, 173, 174, 175, 176, 177, 178, 179, 180, 181, 182, 183, 184, 185, 186, 187, 188, 189, 190, 191, 192, 193, 194, 195, 196, 197, 198, 199, 200, 201, 202, 203] (by decide +kernel) (by decide +kernel)
set_option maxRecDepth 20000 in
theorem gX13_does_X13_presses : GoodIn wsX13_does (wsV RX13 425 RX13 yX13_presses wsX13_presses) := goodIn_app (goodIn_of _ (by decide +kernel)) ggX13_does_X13_presses
set_option maxRecDepth 20000 in
theorem ggX13_does_X13_smooths : GoodIn wsX13_does wsX13_smooths := goodIn_r _ [65, 66, 10, 3, 67, 68, 69, 8, 70, 71, 72, 73, 74, 75, 76, 77, 78, 79, 80, 81, 56, 57, 58, 156, 157, 158, 159, 160, 161, 162, 163, 164, 165, 166, 167, 168, 169, 170, 171, 172, 173, 174, 175, 176, 177, 178, 179, 180, 181, 182, 183, 184, 185, 186, 187, 188, 189, 190, 191, 192, 193, 194, 195, 196, 197, 198, 199, 200, 201, 202, 203] (by decide +kernel) (by decide +kernel)
set_option maxRecDepth 20000 in
theorem gX13_does_X13_smooths : GoodIn wsX13_does (wsV RX13 387 RX13 yX13_smooths wsX13_smooths) := goodIn_app (goodIn_of _ (by decide +kernel)) ggX13_does_X13_smooths
set_option maxRecDepth 20000 in
theorem ggX13_does_X13_eases : GoodIn wsX13_does wsX13_eases := goodIn_r _ [85, 10, 3, 86, 87, 88, 8, 89, 56, 57, 58, 156, 157, 158, 159, 160, 161, 162, 163, 164, 165, 166, 167, 168, 169, 170, 171, 172, 173, 174, 175, 176, 177, 178, 179, 180, 181, 182, 183, 184, 185, 186, 187, 188, 189, 190, 191, 192, 193, 194, 195, 196, 197, 198, 199, 200, 201, 202, 203] (by decide +kernel) (by decide +kernel)
set_option maxRecDepth 20000 in
theorem gX13_does_X13_eases : GoodIn wsX13_does (wsV RX13 390 RX13 yX13_eases wsX13_eases) := goodIn_app (goodIn_of _ (by decide +kernel)) ggX13_does_X13_eases
set_option maxRecDepth 20000 in
theorem ggX13_does_X13_repairs : GoodIn wsX13_does wsX13_repairs := goodIn_r _ [93, 3, 94, 95, 96, 97, 8, 98, 67, 68, 69, 70, 10, 71, 72, 73, 74, 99, 100, 101, 102, 103, 104, 105, 106, 107, 108, 109, 110, 5, 6, 7, 9, 11, 12, 13, 111, 112, 113, 156, 157, 158, 159, 160, 161, 162, 163, 164, 165, 166, 167, 168, 169, 170, 171, 172, 173, 174, 175, 176, 177, 178, 179, 180, 181, 182, 183, 184, 185, 186, 187, 188, 189, 190, 191, 192, 193, 194, 195, 196, 197, 198, 199, 200, 201, 202, 203] (by decide +kernel) (by decide +kernel)
set_option maxRecDepth 20000 in
theorem gX13_does_X13_repairs : GoodIn wsX13_does (wsV RX13 317 RX13 yX13_repairs wsX13_repairs) := goodIn_app (goodIn_of _ (by decide +kernel)) ggX13_does_X13_repairs
set_option maxRecDepth 20000 in
theorem ggX13_does_X13_dithers : GoodIn wsX13_does wsX13_dithers := goodIn_r _ [117, 10, 31, 3, 32, 33, 8, 34, 35, 36, 37, 38, 39, 40, 41, 42, 43, 44, 45, 46, 47, 156, 157, 158, 159, 160, 161, 162, 163, 164, 165, 166, 167, 168, 169, 170, 171, 172, 173, 174, 175, 176, 177, 178, 179, 180, 181, 182, 183, 184, 185, 186, 187, 188, 189, 190, 191, 192, 193, 194, 195, 196, 197, 198, 199, 200, 201, 202, 203] (by decide +kernel) (by decide +kernel)
set_option maxRecDepth 20000 in
theorem gX13_does_X13_dithers : GoodIn wsX13_does (wsV RX13 393 RX13 yX13_dithers wsX13_dithers) := goodIn_app (goodIn_of _ (by decide +kernel)) ggX13_does_X13_dithers
set_option maxRecDepth 20000 in
theorem ggX13_does_X13_polishesAll : GoodIn wsX13_does wsX13_polishesAll := goodIn_r _ [121, 10, 67, 68, 69, 8, 70, 122, 123, 124, 125, 3, 56, 57, 58, 59, 60, 61, 126, 127, 128, 129, 130, 131, 132, 133, 5, 6, 7, 9, 11, 12, 13, 134, 135, 136, 137, 31, 138, 139, 140, 141, 142, 143, 40, 41, 42, 43, 44, 144, 145, 146, 147, 32, 33, 34, 35, 45, 46, 47, 156, 157, 158, 159, 160, 161, 162, 163, 164, 165, 166, 167, 168, 169, 170, 171, 172, 173, 174, 175, 176, 177, 178, 179, 180, 181, 182, 183, 184, 185, 186, 187, 188, 189, 190, 191, 192, 193, 194, 195, 196, 197, 198, 199, 200, 201, 202, 203] (by decide +kernel) (by decide +kernel)
set_option maxRecDepth 20000 in
theorem gX13_does_X13_polishesAll : GoodIn wsX13_does (wsV RX13 406 RX13 yX13_polishesAll wsX13_polishesAll) := goodIn_app (goodIn_of _ (by decide +kernel)) ggX13_does_X13_polishesAll
set_option maxRecDepth 20000 in
theorem ggX13_does_X13_retones : GoodIn wsX13_does wsX13_retones := goodIn_r _ [151, 31, 67, 68, 69, 8, 70, 10, 71, 72, 73, 74, 27, 28, 29, 30, 3, 32, 33, 34, 35, 36, 37, 38, 39, 40, 41, 42, 43, 44, 45, 46, 47, 156, 157, 158, 159, 160, 161, 162, 163, 164, 165, 166, 167, 168, 169, 170, 171, 172, 173, 174, 175, 176, 177, 178, 179, 180, 181, 182, 183, 184, 185, 186, 187, 188, 189, 190, 191, 192, 193, 194, 195, 196, 197, 198, 199, 200, 201, 202, 203] (by decide +kernel) (by decide +kernel)
set_option maxRecDepth 20000 in
theorem gX13_does_X13_retones : GoodIn wsX13_does (wsV RX13 409 RX13 yX13_retones wsX13_retones) := goodIn_app (goodIn_of _ (by decide +kernel)) ggX13_does_X13_retones
set_option maxRecDepth 20000 in
theorem ggX13_does_X13_mirrors : GoodIn wsX13_does wsX13_mirrors := goodIn_r _ [155, 10, 3, 31, 156, 157, 158, 159, 160, 161, 162, 163, 164, 165, 166, 167, 168, 169, 170, 171, 172, 173, 174, 175, 176, 177, 178, 179, 180, 181, 182, 183, 184, 185, 186, 187, 188, 189, 190, 191, 192, 193, 194, 195, 196, 197, 198, 199, 200, 201, 202, 203] (by decide +kernel) (by decide +kernel)
set_option maxRecDepth 20000 in
theorem gX13_does_X13_mirrors : GoodIn wsX13_does (wsV RX13 414 RX13 yX13_mirrors wsX13_mirrors) := goodIn_app (goodIn_of _ (by decide +kernel)) ggX13_does_X13_mirrors
theorem dX13_does_0 : decode cX13_does 0 = .ok (.aload_n 0, 1) := by decide +kernel
theorem dX13_does_1 : decode cX13_does 1 = .ok (.getfield 60, 3) := by decide +kernel
theorem dX13_does_4 : decode cX13_does 4 = .ok (.iload_n 2, 1) := by decide +kernel
theorem dX13_does_5 : decode cX13_does 5 = .ok (.iaload, 1) := by decide +kernel
theorem dX13_does_6 : decode cX13_does 6 = .ok (.istore_n 3, 1) := by decide +kernel
theorem dX13_does_7 : decode cX13_does 7 = .ok (.aload_n 0, 1) := by decide +kernel
theorem dX13_does_8 : decode cX13_does 8 = .ok (.getfield 60, 3) := by decide +kernel
theorem dX13_does_11 : decode cX13_does 11 = .ok (.iload_n 2, 1) := by decide +kernel
theorem dX13_does_12 : decode cX13_does 12 = .ok (.iconst 1, 1) := by decide +kernel
theorem dX13_does_13 : decode cX13_does 13 = .ok (.iadd, 1) := by decide +kernel
theorem dX13_does_14 : decode cX13_does 14 = .ok (.iaload, 1) := by decide +kernel
theorem dX13_does_15 : decode cX13_does 15 = .ok (.istore 4, 2) := by decide +kernel
theorem dX13_does_17 : decode cX13_does 17 = .ok (.iload_n 1, 1) := by decide +kernel
theorem dX13_does_18 : decode cX13_does 18 = .ok (.iconst 3, 1) := by decide +kernel
theorem dX13_does_19 : decode cX13_does 19 = .ok (.if_icmp .gt 45, 3) := by decide +kernel
theorem dX13_does_22 : decode cX13_does 22 = .ok (.aload_n 0, 1) := by decide +kernel
theorem dX13_does_23 : decode cX13_does 23 = .ok (.iload_n 1, 1) := by decide +kernel
theorem dX13_does_24 : decode cX13_does 24 = .ok (.iconst 3, 1) := by decide +kernel
theorem dX13_does_25 : decode cX13_does 25 = .ok (.if_icmp .ne 14, 3) := by decide +kernel
theorem dX13_does_28 : decode cX13_does 28 = .ok (.aload_n 0, 1) := by decide +kernel
theorem dX13_does_29 : decode cX13_does 29 = .ok (.getfield 60, 3) := by decide +kernel
theorem dX13_does_32 : decode cX13_does 32 = .ok (.iload_n 2, 1) := by decide +kernel
theorem dX13_does_33 : decode cX13_does 33 = .ok (.iconst 2, 1) := by decide +kernel
theorem dX13_does_34 : decode cX13_does 34 = .ok (.iadd, 1) := by decide +kernel
theorem dX13_does_35 : decode cX13_does 35 = .ok (.iaload, 1) := by decide +kernel
theorem dX13_does_36 : decode cX13_does 36 = .ok (.goto 4, 3) := by decide +kernel
theorem dX13_does_39 : decode cX13_does 39 = .ok (.iload_n 3, 1) := by decide +kernel
theorem dX13_does_40 : decode cX13_does 40 = .ok (.iload_n 1, 1) := by decide +kernel
theorem dX13_does_41 : decode cX13_does 41 = .ok (.iconst 3, 1) := by decide +kernel
theorem dX13_does_42 : decode cX13_does 42 = .ok (.if_icmp .ne 14, 3) := by decide +kernel
theorem dX13_does_45 : decode cX13_does 45 = .ok (.aload_n 0, 1) := by decide +kernel
theorem dX13_does_46 : decode cX13_does 46 = .ok (.getfield 60, 3) := by decide +kernel
theorem dX13_does_49 : decode cX13_does 49 = .ok (.iload_n 2, 1) := by decide +kernel
theorem dX13_does_50 : decode cX13_does 50 = .ok (.iconst 3, 1) := by decide +kernel
theorem dX13_does_51 : decode cX13_does 51 = .ok (.iadd, 1) := by decide +kernel
theorem dX13_does_52 : decode cX13_does 52 = .ok (.iaload, 1) := by decide +kernel
theorem dX13_does_53 : decode cX13_does 53 = .ok (.goto 5, 3) := by decide +kernel
theorem dX13_does_56 : decode cX13_does 56 = .ok (.iload 4, 2) := by decide +kernel
theorem dX13_does_58 : decode cX13_does 58 = .ok (.invokevirtual 195, 3) := by decide +kernel
theorem dX13_does_61 : decode cX13_does 61 = .ok (.ifCond .eq 7, 3) := by decide +kernel
theorem dX13_does_64 : decode cX13_does 64 = .ok (.iconst 1, 1) := by decide +kernel
theorem dX13_does_65 : decode cX13_does 65 = .ok (.goto 4, 3) := by decide +kernel
theorem dX13_does_68 : decode cX13_does 68 = .ok (.iconst 0, 1) := by decide +kernel
theorem dX13_does_69 : decode cX13_does 69 = .ok (.istore 5, 2) := by decide +kernel
theorem dX13_does_71 : decode cX13_does 71 = .ok (.iload_n 1, 1) := by decide +kernel
theorem dX13_does_72 : decode cX13_does 72 = .ok (.iconst 4, 1) := by decide +kernel
theorem dX13_does_73 : decode cX13_does 73 = .ok (.if_icmp .ne 14, 3) := by decide +kernel
theorem dX13_does_76 : decode cX13_does 76 = .ok (.iload_n 3, 1) := by decide +kernel
theorem dX13_does_77 : decode cX13_does 77 = .ok (.ifCond .le 7, 3) := by decide +kernel
theorem dX13_does_80 : decode cX13_does 80 = .ok (.iconst 1, 1) := by decide +kernel
theorem dX13_does_81 : decode cX13_does 81 = .ok (.goto 4, 3) := by decide +kernel
theorem dX13_does_84 : decode cX13_does 84 = .ok (.iconst 0, 1) := by decide +kernel
theorem dX13_does_85 : decode cX13_does 85 = .ok (.istore 5, 2) := by decide +kernel
theorem dX13_does_87 : decode cX13_does 87 = .ok (.iload_n 1, 1) := by decide +kernel
theorem dX13_does_88 : decode cX13_does 88 = .ok (.iconst 1, 1) := by decide +kernel
theorem dX13_does_89 : decode cX13_does 89 = .ok (.if_icmp .ne 30, 3) := by decide +kernel
theorem dX13_does_92 : decode cX13_does 92 = .ok (.iload 5, 2) := by decide +kernel
theorem dX13_does_94 : decode cX13_does 94 = .ok (.ifCond .eq 22, 3) := by decide +kernel
theorem dX13_does_97 : decode cX13_does 97 = .ok (.aload_n 0, 1) := by decide +kernel
theorem dX13_does_98 : decode cX13_does 98 = .ok (.aload_n 0, 1) := by decide +kernel
theorem dX13_does_99 : decode cX13_does 99 = .ok (.getfield 60, 3) := by decide +kernel
theorem dX13_does_102 : decode cX13_does 102 = .ok (.iload_n 2, 1) := by decide +kernel
theorem dX13_does_103 : decode cX13_does 103 = .ok (.iconst 2, 1) := by decide +kernel
theorem dX13_does_104 : decode cX13_does 104 = .ok (.iadd, 1) := by decide +kernel
theorem dX13_does_105 : decode cX13_does 105 = .ok (.iaload, 1) := by decide +kernel
theorem dX13_does_106 : decode cX13_does 106 = .ok (.invokevirtual 371, 3) := by decide +kernel
theorem dX13_does_109 : decode cX13_does 109 = .ok (.ifCond .eq 7, 3) := by decide +kernel
theorem dX13_does_112 : decode cX13_does 112 = .ok (.iconst 1, 1) := by decide +kernel
theorem dX13_does_113 : decode cX13_does 113 = .ok (.goto 4, 3) := by decide +kernel
theorem dX13_does_116 : decode cX13_does 116 = .ok (.iconst 0, 1) := by decide +kernel
theorem dX13_does_117 : decode cX13_does 117 = .ok (.istore 5, 2) := by decide +kernel
theorem dX13_does_119 : decode cX13_does 119 = .ok (.iload_n 1, 1) := by decide +kernel
theorem dX13_does_120 : decode cX13_does 120 = .ok (.iconst 2, 1) := by decide +kernel
theorem dX13_does_121 : decode cX13_does 121 = .ok (.if_icmp .ne 49, 3) := by decide +kernel
theorem dX13_does_124 : decode cX13_does 124 = .ok (.iload 5, 2) := by decide +kernel
theorem dX13_does_126 : decode cX13_does 126 = .ok (.ifCond .eq 41, 3) := by decide +kernel
theorem dX13_does_129 : decode cX13_does 129 = .ok (.aload_n 0, 1) := by decide +kernel
theorem dX13_does_130 : decode cX13_does 130 = .ok (.iload_n 3, 1) := by decide +kernel
theorem dX13_does_131 : decode cX13_does 131 = .ok (.iload 4, 2) := by decide +kernel
theorem dX13_does_133 : decode cX13_does 133 = .ok (.aload_n 0, 1) := by decide +kernel
theorem dX13_does_134 : decode cX13_does 134 = .ok (.getfield 60, 3) := by decide +kernel
theorem dX13_does_137 : decode cX13_does 137 = .ok (.iload_n 2, 1) := by decide +kernel
theorem dX13_does_138 : decode cX13_does 138 = .ok (.iconst 2, 1) := by decide +kernel
theorem dX13_does_139 : decode cX13_does 139 = .ok (.iadd, 1) := by decide +kernel
theorem dX13_does_140 : decode cX13_does 140 = .ok (.iaload, 1) := by decide +kernel
theorem dX13_does_141 : decode cX13_does 141 = .ok (.aload_n 0, 1) := by decide +kernel
theorem dX13_does_142 : decode cX13_does 142 = .ok (.getfield 60, 3) := by decide +kernel
theorem dX13_does_145 : decode cX13_does 145 = .ok (.iload_n 2, 1) := by decide +kernel
theorem dX13_does_146 : decode cX13_does 146 = .ok (.iconst 3, 1) := by decide +kernel
theorem dX13_does_147 : decode cX13_does 147 = .ok (.iadd, 1) := by decide +kernel
theorem dX13_does_148 : decode cX13_does 148 = .ok (.iaload, 1) := by decide +kernel
theorem dX13_does_149 : decode cX13_does 149 = .ok (.aload_n 0, 1) := by decide +kernel
theorem dX13_does_150 : decode cX13_does 150 = .ok (.getfield 60, 3) := by decide +kernel
theorem dX13_does_153 : decode cX13_does 153 = .ok (.iload_n 2, 1) := by decide +kernel
theorem dX13_does_154 : decode cX13_does 154 = .ok (.iconst 4, 1) := by decide +kernel
theorem dX13_does_155 : decode cX13_does 155 = .ok (.iadd, 1) := by decide +kernel
theorem dX13_does_156 : decode cX13_does 156 = .ok (.iaload, 1) := by decide +kernel
theorem dX13_does_157 : decode cX13_does 157 = .ok (.invokevirtual 374, 3) := by decide +kernel
theorem dX13_does_160 : decode cX13_does 160 = .ok (.ifCond .eq 7, 3) := by decide +kernel
theorem dX13_does_163 : decode cX13_does 163 = .ok (.iconst 1, 1) := by decide +kernel
theorem dX13_does_164 : decode cX13_does 164 = .ok (.goto 4, 3) := by decide +kernel
theorem dX13_does_167 : decode cX13_does 167 = .ok (.iconst 0, 1) := by decide +kernel
theorem dX13_does_168 : decode cX13_does 168 = .ok (.istore 5, 2) := by decide +kernel
theorem dX13_does_170 : decode cX13_does 170 = .ok (.iload_n 1, 1) := by decide +kernel
theorem dX13_does_171 : decode cX13_does 171 = .ok (.iconst 3, 1) := by decide +kernel
theorem dX13_does_172 : decode cX13_does 172 = .ok (.if_icmp .ne 39, 3) := by decide +kernel
theorem dX13_does_175 : decode cX13_does 175 = .ok (.iload 5, 2) := by decide +kernel
theorem dX13_does_177 : decode cX13_does 177 = .ok (.ifCond .eq 31, 3) := by decide +kernel
theorem dX13_does_180 : decode cX13_does 180 = .ok (.iload_n 3, 1) := by decide +kernel
theorem dX13_does_181 : decode cX13_does 181 = .ok (.iload 4, 2) := by decide +kernel
theorem dX13_does_183 : decode cX13_does 183 = .ok (.invokestatic 419, 3) := by decide +kernel
theorem dX13_does_186 : decode cX13_does 186 = .ok (.ifCond .eq 22, 3) := by decide +kernel
theorem dX13_does_189 : decode cX13_does 189 = .ok (.aload_n 0, 1) := by decide +kernel
theorem dX13_does_190 : decode cX13_does 190 = .ok (.getfield 54, 3) := by decide +kernel
theorem dX13_does_193 : decode cX13_does 193 = .ok (.iconst 4, 1) := by decide +kernel
theorem dX13_does_194 : decode cX13_does 194 = .ok (.iload_n 3, 1) := by decide +kernel
theorem dX13_does_195 : decode cX13_does 195 = .ok (.imul, 1) := by decide +kernel
theorem dX13_does_196 : decode cX13_does 196 = .ok (.iload 4, 2) := by decide +kernel
theorem dX13_does_198 : decode cX13_does 198 = .ok (.iadd, 1) := by decide +kernel
theorem dX13_does_199 : decode cX13_does 199 = .ok (.iaload, 1) := by decide +kernel
theorem dX13_does_200 : decode cX13_does 200 = .ok (.iconst (-1), 1) := by decide +kernel
theorem dX13_does_201 : decode cX13_does 201 = .ok (.if_icmp .eq 7, 3) := by decide +kernel
theorem dX13_does_204 : decode cX13_does 204 = .ok (.iconst 1, 1) := by decide +kernel
theorem dX13_does_205 : decode cX13_does 205 = .ok (.goto 4, 3) := by decide +kernel
theorem dX13_does_208 : decode cX13_does 208 = .ok (.iconst 0, 1) := by decide +kernel
theorem dX13_does_209 : decode cX13_does 209 = .ok (.istore 5, 2) := by decide +kernel
theorem dX13_does_211 : decode cX13_does 211 = .ok (.iload 5, 2) := by decide +kernel
theorem dX13_does_213 : decode cX13_does 213 = .ok (.ifCond .ne 5, 3) := by decide +kernel
theorem dX13_does_216 : decode cX13_does 216 = .ok (.iconst 0, 1) := by decide +kernel
theorem dX13_does_217 : decode cX13_does 217 = .ok (.ireturn, 1) := by decide +kernel
theorem dX13_does_218 : decode cX13_does 218 = .ok (.iload_n 1, 1) := by decide +kernel
theorem dX13_does_219 : decode cX13_does 219 = .ok (.ifCond .ne 18, 3) := by decide +kernel
theorem dX13_does_222 : decode cX13_does 222 = .ok (.aload_n 0, 1) := by decide +kernel
theorem dX13_does_223 : decode cX13_does 223 = .ok (.iload_n 3, 1) := by decide +kernel
theorem dX13_does_224 : decode cX13_does 224 = .ok (.iload 4, 2) := by decide +kernel
theorem dX13_does_226 : decode cX13_does 226 = .ok (.aload_n 0, 1) := by decide +kernel
theorem dX13_does_227 : decode cX13_does 227 = .ok (.getfield 60, 3) := by decide +kernel
theorem dX13_does_230 : decode cX13_does 230 = .ok (.iload_n 2, 1) := by decide +kernel
theorem dX13_does_231 : decode cX13_does 231 = .ok (.iconst 2, 1) := by decide +kernel
theorem dX13_does_232 : decode cX13_does 232 = .ok (.iadd, 1) := by decide +kernel
theorem dX13_does_233 : decode cX13_does 233 = .ok (.iaload, 1) := by decide +kernel
theorem dX13_does_234 : decode cX13_does 234 = .ok (.invokevirtual 365, 3) := by decide +kernel
theorem dX13_does_237 : decode cX13_does 237 = .ok (.iload_n 1, 1) := by decide +kernel
theorem dX13_does_238 : decode cX13_does 238 = .ok (.iconst 1, 1) := by decide +kernel
theorem dX13_does_239 : decode cX13_does 239 = .ok (.if_icmp .ne 23, 3) := by decide +kernel
theorem dX13_does_242 : decode cX13_does 242 = .ok (.aload_n 0, 1) := by decide +kernel
theorem dX13_does_243 : decode cX13_does 243 = .ok (.getfield 29, 3) := by decide +kernel
theorem dX13_does_246 : decode cX13_does 246 = .ok (.bipush 16, 2) := by decide +kernel
theorem dX13_does_248 : decode cX13_does 248 = .ok (.iload 4, 2) := by decide +kernel
theorem dX13_does_250 : decode cX13_does 250 = .ok (.imul, 1) := by decide +kernel
theorem dX13_does_251 : decode cX13_does 251 = .ok (.iload_n 3, 1) := by decide +kernel
theorem dX13_does_252 : decode cX13_does 252 = .ok (.iadd, 1) := by decide +kernel
theorem dX13_does_253 : decode cX13_does 253 = .ok (.aload_n 0, 1) := by decide +kernel
theorem dX13_does_254 : decode cX13_does 254 = .ok (.getfield 60, 3) := by decide +kernel
theorem dX13_does_257 : decode cX13_does 257 = .ok (.iload_n 2, 1) := by decide +kernel
theorem dX13_does_258 : decode cX13_does 258 = .ok (.iconst 2, 1) := by decide +kernel
theorem dX13_does_259 : decode cX13_does 259 = .ok (.iadd, 1) := by decide +kernel
theorem dX13_does_260 : decode cX13_does 260 = .ok (.iaload, 1) := by decide +kernel
theorem dX13_does_261 : decode cX13_does 261 = .ok (.iastore, 1) := by decide +kernel
theorem dX13_does_262 : decode cX13_does 262 = .ok (.iload_n 1, 1) := by decide +kernel
theorem dX13_does_263 : decode cX13_does 263 = .ok (.iconst 2, 1) := by decide +kernel
theorem dX13_does_264 : decode cX13_does 264 = .ok (.if_icmp .ne 34, 3) := by decide +kernel
theorem dX13_does_267 : decode cX13_does 267 = .ok (.aload_n 0, 1) := by decide +kernel
theorem dX13_does_268 : decode cX13_does 268 = .ok (.iload_n 3, 1) := by decide +kernel
theorem dX13_does_269 : decode cX13_does 269 = .ok (.iload 4, 2) := by decide +kernel
theorem dX13_does_271 : decode cX13_does 271 = .ok (.aload_n 0, 1) := by decide +kernel
theorem dX13_does_272 : decode cX13_does 272 = .ok (.getfield 60, 3) := by decide +kernel
theorem dX13_does_275 : decode cX13_does 275 = .ok (.iload_n 2, 1) := by decide +kernel
theorem dX13_does_276 : decode cX13_does 276 = .ok (.iconst 2, 1) := by decide +kernel
theorem dX13_does_277 : decode cX13_does 277 = .ok (.iadd, 1) := by decide +kernel
theorem dX13_does_278 : decode cX13_does 278 = .ok (.iaload, 1) := by decide +kernel
theorem dX13_does_279 : decode cX13_does 279 = .ok (.aload_n 0, 1) := by decide +kernel
theorem dX13_does_280 : decode cX13_does 280 = .ok (.getfield 60, 3) := by decide +kernel
theorem dX13_does_283 : decode cX13_does 283 = .ok (.iload_n 2, 1) := by decide +kernel
theorem dX13_does_284 : decode cX13_does 284 = .ok (.iconst 3, 1) := by decide +kernel
theorem dX13_does_285 : decode cX13_does 285 = .ok (.iadd, 1) := by decide +kernel
theorem dX13_does_286 : decode cX13_does 286 = .ok (.iaload, 1) := by decide +kernel
theorem dX13_does_287 : decode cX13_does 287 = .ok (.aload_n 0, 1) := by decide +kernel
theorem dX13_does_288 : decode cX13_does 288 = .ok (.getfield 60, 3) := by decide +kernel
theorem dX13_does_291 : decode cX13_does 291 = .ok (.iload_n 2, 1) := by decide +kernel
theorem dX13_does_292 : decode cX13_does 292 = .ok (.iconst 4, 1) := by decide +kernel
theorem dX13_does_293 : decode cX13_does 293 = .ok (.iadd, 1) := by decide +kernel
theorem dX13_does_294 : decode cX13_does 294 = .ok (.iaload, 1) := by decide +kernel
theorem dX13_does_295 : decode cX13_does 295 = .ok (.invokevirtual 378, 3) := by decide +kernel
theorem dX13_does_298 : decode cX13_does 298 = .ok (.iload_n 1, 1) := by decide +kernel
theorem dX13_does_299 : decode cX13_does 299 = .ok (.iconst 3, 1) := by decide +kernel
theorem dX13_does_300 : decode cX13_does 300 = .ok (.if_icmp .ne 34, 3) := by decide +kernel
theorem dX13_does_303 : decode cX13_does 303 = .ok (.aload_n 0, 1) := by decide +kernel
theorem dX13_does_304 : decode cX13_does 304 = .ok (.aload_n 0, 1) := by decide +kernel
theorem dX13_does_305 : decode cX13_does 305 = .ok (.getfield 54, 3) := by decide +kernel
theorem dX13_does_308 : decode cX13_does 308 = .ok (.iconst 4, 1) := by decide +kernel
theorem dX13_does_309 : decode cX13_does 309 = .ok (.iload_n 3, 1) := by decide +kernel
theorem dX13_does_310 : decode cX13_does 310 = .ok (.imul, 1) := by decide +kernel
theorem dX13_does_311 : decode cX13_does 311 = .ok (.iload 4, 2) := by decide +kernel
theorem dX13_does_313 : decode cX13_does 313 = .ok (.iadd, 1) := by decide +kernel
theorem dX13_does_314 : decode cX13_does 314 = .ok (.iaload, 1) := by decide +kernel
theorem dX13_does_315 : decode cX13_does 315 = .ok (.aload_n 0, 1) := by decide +kernel
theorem dX13_does_316 : decode cX13_does 316 = .ok (.getfield 60, 3) := by decide +kernel
theorem dX13_does_319 : decode cX13_does 319 = .ok (.iload_n 2, 1) := by decide +kernel
theorem dX13_does_320 : decode cX13_does 320 = .ok (.iconst 2, 1) := by decide +kernel
theorem dX13_does_321 : decode cX13_does 321 = .ok (.iadd, 1) := by decide +kernel
theorem dX13_does_322 : decode cX13_does 322 = .ok (.iaload, 1) := by decide +kernel
theorem dX13_does_323 : decode cX13_does 323 = .ok (.aload_n 0, 1) := by decide +kernel
theorem dX13_does_324 : decode cX13_does 324 = .ok (.getfield 60, 3) := by decide +kernel
theorem dX13_does_327 : decode cX13_does 327 = .ok (.iload_n 2, 1) := by decide +kernel
theorem dX13_does_328 : decode cX13_does 328 = .ok (.iconst 3, 1) := by decide +kernel
theorem dX13_does_329 : decode cX13_does 329 = .ok (.iadd, 1) := by decide +kernel
theorem dX13_does_330 : decode cX13_does 330 = .ok (.iaload, 1) := by decide +kernel
theorem dX13_does_331 : decode cX13_does 331 = .ok (.invokevirtual 425, 3) := by decide +kernel
theorem dX13_does_334 : decode cX13_does 334 = .ok (.iload_n 1, 1) := by decide +kernel
theorem dX13_does_335 : decode cX13_does 335 = .ok (.iconst 4, 1) := by decide +kernel
theorem dX13_does_336 : decode cX13_does 336 = .ok (.if_icmp .ne 8, 3) := by decide +kernel
theorem dX13_does_339 : decode cX13_does 339 = .ok (.aload_n 0, 1) := by decide +kernel
theorem dX13_does_340 : decode cX13_does 340 = .ok (.iload_n 3, 1) := by decide +kernel
theorem dX13_does_341 : decode cX13_does 341 = .ok (.invokevirtual 387, 3) := by decide +kernel
theorem dX13_does_344 : decode cX13_does 344 = .ok (.iload_n 1, 1) := by decide +kernel
theorem dX13_does_345 : decode cX13_does 345 = .ok (.bipush 6, 2) := by decide +kernel
theorem dX13_does_347 : decode cX13_does 347 = .ok (.if_icmp .ne 7, 3) := by decide +kernel
theorem dX13_does_350 : decode cX13_does 350 = .ok (.aload_n 0, 1) := by decide +kernel
theorem dX13_does_351 : decode cX13_does 351 = .ok (.invokevirtual 390, 3) := by decide +kernel
theorem dX13_does_354 : decode cX13_does 354 = .ok (.iload_n 1, 1) := by decide +kernel
theorem dX13_does_355 : decode cX13_does 355 = .ok (.iconst 5, 1) := by decide +kernel
theorem dX13_does_356 : decode cX13_does 356 = .ok (.if_icmp .ne 11, 3) := by decide +kernel
theorem dX13_does_359 : decode cX13_does 359 = .ok (.aload_n 0, 1) := by decide +kernel
theorem dX13_does_360 : decode cX13_does 360 = .ok (.aload_n 0, 1) := by decide +kernel
theorem dX13_does_361 : decode cX13_does 361 = .ok (.invokevirtual 317, 3) := by decide +kernel
theorem dX13_does_364 : decode cX13_does 364 = .ok (.putfield 467, 3) := by decide +kernel
theorem dX13_does_367 : decode cX13_does 367 = .ok (.iload_n 1, 1) := by decide +kernel
theorem dX13_does_368 : decode cX13_does 368 = .ok (.bipush 7, 2) := by decide +kernel
theorem dX13_does_370 : decode cX13_does 370 = .ok (.if_icmp .ne 7, 3) := by decide +kernel
theorem dX13_does_373 : decode cX13_does 373 = .ok (.aload_n 0, 1) := by decide +kernel
theorem dX13_does_374 : decode cX13_does 374 = .ok (.invokevirtual 393, 3) := by decide +kernel
theorem dX13_does_377 : decode cX13_does 377 = .ok (.iload_n 1, 1) := by decide +kernel
theorem dX13_does_378 : decode cX13_does 378 = .ok (.bipush 8, 2) := by decide +kernel
theorem dX13_does_380 : decode cX13_does 380 = .ok (.if_icmp .ne 7, 3) := by decide +kernel
theorem dX13_does_383 : decode cX13_does 383 = .ok (.aload_n 0, 1) := by decide +kernel
theorem dX13_does_384 : decode cX13_does 384 = .ok (.invokevirtual 406, 3) := by decide +kernel
theorem dX13_does_387 : decode cX13_does 387 = .ok (.iload_n 1, 1) := by decide +kernel
theorem dX13_does_388 : decode cX13_does 388 = .ok (.bipush 9, 2) := by decide +kernel
theorem dX13_does_390 : decode cX13_does 390 = .ok (.if_icmp .ne 11, 3) := by decide +kernel
theorem dX13_does_393 : decode cX13_does 393 = .ok (.aload_n 0, 1) := by decide +kernel
theorem dX13_does_394 : decode cX13_does 394 = .ok (.iconst (-1), 1) := by decide +kernel
theorem dX13_does_395 : decode cX13_does 395 = .ok (.sipush 255, 3) := by decide +kernel
theorem dX13_does_398 : decode cX13_does 398 = .ok (.invokevirtual 409, 3) := by decide +kernel
theorem dX13_does_401 : decode cX13_does 401 = .ok (.iload_n 1, 1) := by decide +kernel
theorem dX13_does_402 : decode cX13_does 402 = .ok (.bipush 10, 2) := by decide +kernel
theorem dX13_does_404 : decode cX13_does 404 = .ok (.if_icmp .ne 7, 3) := by decide +kernel
theorem dX13_does_407 : decode cX13_does 407 = .ok (.aload_n 0, 1) := by decide +kernel
theorem dX13_does_408 : decode cX13_does 408 = .ok (.invokevirtual 414, 3) := by decide +kernel
theorem dX13_does_411 : decode cX13_does 411 = .ok (.iconst 1, 1) := by decide +kernel
theorem dX13_does_412 : decode cX13_does 412 = .ok (.ireturn, 1) := by decide +kernel
set_option maxRecDepth 20000 in
theorem ggX13_runScript_X13_beginsText : GoodIn wsX13_runScript wsX13_beginsText := goodIn_r _ [10, 11, 12, 13, 14, 15, 16, 17, 18, 9, 19, 20, 21, 22, 4, 23, 24, 25, 26, 27, 28, 29, 30, 31, 32, 33, 272, 273, 274, 275, 276, 277, 278, 279, 280, 281, 282, 283, 284, 285, 286, 287, 288, 289, 290, 291, 292, 293, 294, 295, 296, 297, 298, 299, 300, 301, 302, 303, 304, 305, 306, 307, 308, 309, 310, 311, 312, 313, 314, 315, 316, 317, 318, 319] (by decide +kernel) (by decide +kernel)
set_option maxRecDepth 20000 in
theorem gX13_runScript_X13_beginsText : GoodIn wsX13_runScript (wsV RX13 237 RX13 yX13_beginsText wsX13_beginsText) := goodIn_app (goodIn_of _ (by decide +kernel)) ggX13_runScript_X13_beginsText
set_option maxRecDepth 20000 in
theorem ggX13_runScript_X13_isGood : GoodIn wsX13_runScript wsX13_isGood := goodIn_r _ [37, 14, 272, 273, 274, 275, 276, 277, 278, 279, 280, 281, 282, 283, 284, 285, 286, 287, 288, 289, 290, 291, 292, 293, 294, 295, 296, 297, 298, 299, 300, 301, 302, 303, 304, 305, 306, 307, 308, 309, 310, 311, 312, 313, 314, 315, 316, 317, 318, 319] (by decide +kernel) (by decide +kernel)
set_option maxRecDepth 20000 in
theorem gX13_runScript_X13_isGood : GoodIn wsX13_runScript (wsV RX13 148 RX13 yX13_isGood wsX13_isGood) := goodIn_app (goodIn_of _ (by decide +kernel)) ggX13_runScript_X13_isGood
set_option maxRecDepth 20000 in
theorem ggX13_runScript_X13_command : GoodIn wsX13_runScript wsX13_command := goodIn_r _ [41, 3, 2, 42, 1, 43, 44, 45, 46, 9, 47, 48, 49, 50, 51, 52, 53, 54, 55, 56, 57, 58, 59, 60, 61, 62, 63, 14, 4, 21, 64, 65, 66, 67, 20, 15, 34, 35, 36, 37, 16, 17, 18, 19, 13, 22, 23, 24, 25, 26, 12, 27, 28, 29, 30, 31, 32, 33, 68, 69, 70, 71, 72, 73, 74, 75, 76, 77, 78, 79, 80, 81, 82, 83, 84, 85, 86, 87, 88, 272, 273, 274, 275, 276, 277, 278, 279, 280, 281, 282, 283, 284, 285, 286, 287, 288, 289, 290, 291, 292, 293, 294, 295, 296, 297, 298, 299, 300, 301, 302, 303, 304, 305, 306, 307, 308, 309, 310, 311, 312, 313, 314, 315, 316, 317, 318, 319] (by decide +kernel) (by decide +kernel)
set_option maxRecDepth 20000 in
theorem gX13_runScript_X13_command : GoodIn wsX13_runScript (wsV RX13 470 RX13 yX13_command wsX13_command) := goodIn_app (goodIn_of _ (by decide +kernel)) ggX13_runScript_X13_command
set_option maxRecDepth 20000 in
theorem ggX13_runScript_X13_mustSign : GoodIn wsX13_runScript wsX13_mustSign := goodIn_r _ [81, 34, 35, 36, 9, 37, 14, 82, 83, 84, 85, 4, 22, 64, 65, 66, 67, 20, 15, 16, 17, 18, 19, 13, 21, 23, 24, 25, 26, 12, 27, 28, 29, 30, 31, 32, 33, 272, 273, 274, 275, 276, 277, 278, 279, 280, 281, 282, 283, 284, 285, 286, 287, 288, 289, 290, 291, 292, 293, 294, 295, 296, 297, 298, 299, 300, 301, 302, 303, 304, 305, 306, 307, 308, 309, 310, 311, 312, 313, 314, 315, 316, 317, 318, 319] (by decide +kernel) (by decide +kernel)
set_option maxRecDepth 20000 in
theorem gX13_runScript_X13_mustSign : GoodIn wsX13_runScript (wsV RX13 243 RX13 yX13_mustSign wsX13_mustSign) := goodIn_app (goodIn_of _ (by decide +kernel)) ggX13_runScript_X13_mustSign
set_option maxRecDepth 20000 in
theorem ggX13_runScript_X13_closes : GoodIn wsX13_runScript wsX13_closes := goodIn_r _ [92, 3, 43, 1, 82, 83, 84, 9, 85, 14, 4, 22, 16, 17, 18, 19, 13, 20, 21, 23, 24, 25, 26, 12, 27, 28, 29, 30, 31, 32, 33, 78, 79, 80, 81, 34, 35, 36, 37, 64, 65, 66, 67, 15, 272, 273, 274, 275, 276, 277, 278, 279, 280, 281, 282, 283, 284, 285, 286, 287, 288, 289, 290, 291, 292, 293, 294, 295, 296, 297, 298, 299, 300, 301, 302, 303, 304, 305, 306, 307, 308, 309, 310, 311, 312, 313, 314, 315, 316, 317, 318, 319] (by decide +kernel) (by decide +kernel)
set_option maxRecDepth 20000 in
theorem gX13_runScript_X13_closes : GoodIn wsX13_runScript (wsV RX13 473 RX13 yX13_closes wsX13_closes) := goodIn_app (goodIn_of _ (by decide +kernel)) ggX13_runScript_X13_closes
set_option maxRecDepth 20000 in
theorem ggX13_runScript_X13_wrong : GoodIn wsX13_runScript wsX13_wrong := goodIn_r _ [67, 14, 4, 20, 15, 272, 273, 274, 275, 276, 277, 278, 279, 280, 281, 282, 283, 284, 285, 286, 287, 288, 289, 290, 291, 292, 293, 294, 295, 296, 297, 298, 299, 300, 301, 302, 303, 304, 305, 306, 307, 308, 309, 310, 311, 312, 313, 314, 315, 316, 317, 318, 319] (by decide +kernel) (by decide +kernel)
set_option maxRecDepth 20000 in
theorem gX13_runScript_X13_wrong : GoodIn wsX13_runScript (wsV RX13 156 RX13 yX13_wrong wsX13_wrong) := goodIn_app (goodIn_of _ (by decide +kernel)) ggX13_runScript_X13_wrong
set_option maxRecDepth 20000 in
theorem ggX13_runScript_X13_endsText : GoodIn wsX13_runScript wsX13_endsText := goodIn_r _ [96, 14, 97, 15, 98, 99, 100, 101, 9, 102, 103, 86, 87, 88, 272, 273, 274, 275, 276, 277, 278, 279, 280, 281, 282, 283, 284, 285, 286, 287, 288, 289, 290, 291, 292, 293, 294, 295, 296, 297, 298, 299, 300, 301, 302, 303, 304, 305, 306, 307, 308, 309, 310, 311, 312, 313, 314, 315, 316, 317, 318, 319] (by decide +kernel) (by decide +kernel)
set_option maxRecDepth 20000 in
theorem gX13_runScript_X13_endsText : GoodIn wsX13_runScript (wsV RX13 246 RX13 yX13_endsText wsX13_endsText) := goodIn_app (goodIn_of _ (by decide +kernel)) ggX13_runScript_X13_endsText
set_option maxRecDepth 20000 in
theorem ggX13_runScript_X13_laysAside : GoodIn wsX13_runScript wsX13_laysAside := goodIn_r _ [107, 108, 109, 110, 111, 272, 273, 274, 275, 276, 277, 278, 279, 280, 281, 282, 283, 284, 285, 286, 287, 288, 289, 290, 291, 292, 293, 294, 295, 296, 297, 298, 299, 300, 301, 302, 303, 304, 305, 306, 307, 308, 309, 310, 311, 312, 313, 314, 315, 316, 317, 318, 319] (by decide +kernel) (by decide +kernel)
set_option maxRecDepth 20000 in
theorem gX13_runScript_X13_laysAside : GoodIn wsX13_runScript (wsV RX13 314 RX13 yX13_laysAside wsX13_laysAside) := goodIn_app (goodIn_of _ (by decide +kernel)) ggX13_runScript_X13_laysAside
