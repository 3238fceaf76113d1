theorem dX7_goes_34 : decode cX7_goes 34 = .ok (.iload_n 2, 1) := by decide +kernel
theorem dX7_goes_35 : decode cX7_goes 35 = .ok (.iconst 1, 1) := by decide +kernel
theorem dX7_goes_36 : decode cX7_goes 36 = .ok (.iadd, 1) := by decide +kernel
theorem dX7_goes_37 : decode cX7_goes 37 = .ok (.iaload, 1) := by decide +kernel
theorem dX7_goes_38 : decode cX7_goes 38 = .ok (.aload_n 0, 1) := by decide +kernel
theorem dX7_goes_39 : decode cX7_goes 39 = .ok (.getfield 20, 3) := by decide +kernel
theorem dX7_goes_42 : decode cX7_goes 42 = .ok (.iload_n 2, 1) := by decide +kernel
theorem dX7_goes_43 : decode cX7_goes 43 = .ok (.iconst 1, 1) := by decide +kernel
theorem dX7_goes_44 : decode cX7_goes 44 = .ok (.iadd, 1) := by decide +kernel
theorem dX7_goes_45 : decode cX7_goes 45 = .ok (.iaload, 1) := by decide +kernel
theorem dX7_goes_46 : decode cX7_goes 46 = .ok (.invokevirtual 104, 3) := by decide +kernel
theorem dX7_goes_49 : decode cX7_goes 49 = .ok (.iinc 2 1, 3) := by decide +kernel
theorem dX7_goes_52 : decode cX7_goes 52 = .ok (.goto (-40), 3) := by decide +kernel
theorem dX7_goes_55 : decode cX7_goes 55 = .ok (.return_, 1) := by decide +kernel
set_option maxRecDepth 20000 in
theorem ggX7_feed_X7_puts : GoodIn wsX7_feed wsX7_puts := goodIn_r _ [7, 8, 2, 9, 10, 11, 12, 13, 14, 15, 16, 17, 18, 19, 20, 21, 22, 23, 24, 25, 26, 27, 28, 29, 30, 31, 32, 33, 34, 35, 36, 37, 38, 39, 40, 41, 42, 43] (by decide +kernel) (by decide +kernel)
set_option maxRecDepth 20000 in
theorem gX7_feed_X7_puts : GoodIn wsX7_feed (wsV RX7 111 RX7 yX7_puts wsX7_puts) := goodIn_app (goodIn_of _ (by decide +kernel)) ggX7_feed_X7_puts
theorem dX7_feed_0 : decode cX7_feed 0 = .ok (.aload_n 0, 1) := by decide +kernel
theorem dX7_feed_1 : decode cX7_feed 1 = .ok (.iconst 0, 1) := by decide +kernel
theorem dX7_feed_2 : decode cX7_feed 2 = .ok (.putfield 1, 3) := by decide +kernel
theorem dX7_feed_5 : decode cX7_feed 5 = .ok (.aload_n 0, 1) := by decide +kernel
theorem dX7_feed_6 : decode cX7_feed 6 = .ok (.getfield 108, 3) := by decide +kernel
theorem dX7_feed_9 : decode cX7_feed 9 = .ok (.bipush 20, 2) := by decide +kernel
theorem dX7_feed_11 : decode cX7_feed 11 = .ok (.iadd, 1) := by decide +kernel
theorem dX7_feed_12 : decode cX7_feed 12 = .ok (.sipush 500, 3) := by decide +kernel
theorem dX7_feed_15 : decode cX7_feed 15 = .ok (.if_icmp .le 5, 3) := by decide +kernel
theorem dX7_feed_18 : decode cX7_feed 18 = .ok (.iconst (-1), 1) := by decide +kernel
theorem dX7_feed_19 : decode cX7_feed 19 = .ok (.ireturn, 1) := by decide +kernel
theorem dX7_feed_20 : decode cX7_feed 20 = .ok (.aload_n 0, 1) := by decide +kernel
theorem dX7_feed_21 : decode cX7_feed 21 = .ok (.iload_n 1, 1) := by decide +kernel
theorem dX7_feed_22 : decode cX7_feed 22 = .ok (.invokevirtual 111, 3) := by decide +kernel
theorem dX7_feed_25 : decode cX7_feed 25 = .ok (.aload_n 0, 1) := by decide +kernel
theorem dX7_feed_26 : decode cX7_feed 26 = .ok (.iload_n 2, 1) := by decide +kernel
theorem dX7_feed_27 : decode cX7_feed 27 = .ok (.invokevirtual 111, 3) := by decide +kernel
theorem dX7_feed_30 : decode cX7_feed 30 = .ok (.aload_n 0, 1) := by decide +kernel
theorem dX7_feed_31 : decode cX7_feed 31 = .ok (.iload_n 3, 1) := by decide +kernel
theorem dX7_feed_32 : decode cX7_feed 32 = .ok (.invokevirtual 111, 3) := by decide +kernel
theorem dX7_feed_35 : decode cX7_feed 35 = .ok (.aload_n 0, 1) := by decide +kernel
theorem dX7_feed_36 : decode cX7_feed 36 = .ok (.iload 4, 2) := by decide +kernel
theorem dX7_feed_38 : decode cX7_feed 38 = .ok (.invokevirtual 111, 3) := by decide +kernel
theorem dX7_feed_41 : decode cX7_feed 41 = .ok (.aload_n 0, 1) := by decide +kernel
theorem dX7_feed_42 : decode cX7_feed 42 = .ok (.iload 5, 2) := by decide +kernel
theorem dX7_feed_44 : decode cX7_feed 44 = .ok (.invokevirtual 111, 3) := by decide +kernel
theorem dX7_feed_47 : decode cX7_feed 47 = .ok (.aload_n 0, 1) := by decide +kernel
theorem dX7_feed_48 : decode cX7_feed 48 = .ok (.getfield 108, 3) := by decide +kernel
theorem dX7_feed_51 : decode cX7_feed 51 = .ok (.ireturn, 1) := by decide +kernel
theorem dX7_puts_0 : decode cX7_puts 0 = .ok (.bipush 24, 2) := by decide +kernel
theorem dX7_puts_2 : decode cX7_puts 2 = .ok (.istore_n 2, 1) := by decide +kernel
theorem dX7_puts_3 : decode cX7_puts 3 = .ok (.iload_n 2, 1) := by decide +kernel
theorem dX7_puts_4 : decode cX7_puts 4 = .ok (.ifCond .lt 32, 3) := by decide +kernel
theorem dX7_puts_7 : decode cX7_puts 7 = .ok (.aload_n 0, 1) := by decide +kernel
theorem dX7_puts_8 : decode cX7_puts 8 = .ok (.getfield 27, 3) := by decide +kernel
theorem dX7_puts_11 : decode cX7_puts 11 = .ok (.aload_n 0, 1) := by decide +kernel
theorem dX7_puts_12 : decode cX7_puts 12 = .ok (.getfield 108, 3) := by decide +kernel
theorem dX7_puts_15 : decode cX7_puts 15 = .ok (.iload_n 1, 1) := by decide +kernel
theorem dX7_puts_16 : decode cX7_puts 16 = .ok (.iload_n 2, 1) := by decide +kernel
theorem dX7_puts_17 : decode cX7_puts 17 = .ok (.ishr, 1) := by decide +kernel
theorem dX7_puts_18 : decode cX7_puts 18 = .ok (.i2b, 1) := by decide +kernel
theorem dX7_puts_19 : decode cX7_puts 19 = .ok (.bastore, 1) := by decide +kernel
theorem dX7_puts_20 : decode cX7_puts 20 = .ok (.aload_n 0, 1) := by decide +kernel
theorem dX7_puts_21 : decode cX7_puts 21 = .ok (.dup, 1) := by decide +kernel
theorem dX7_puts_22 : decode cX7_puts 22 = .ok (.getfield 108, 3) := by decide +kernel
theorem dX7_puts_25 : decode cX7_puts 25 = .ok (.iconst 1, 1) := by decide +kernel
theorem dX7_puts_26 : decode cX7_puts 26 = .ok (.iadd, 1) := by decide +kernel
theorem dX7_puts_27 : decode cX7_puts 27 = .ok (.putfield 108, 3) := by decide +kernel
theorem dX7_puts_30 : decode cX7_puts 30 = .ok (.iinc 2 (-8), 3) := by decide +kernel
theorem dX7_puts_33 : decode cX7_puts 33 = .ok (.goto (-30), 3) := by decide +kernel
theorem dX7_puts_36 : decode cX7_puts 36 = .ok (.return_, 1) := by decide +kernel
theorem dX7_byteAt_0 : decode cX7_byteAt 0 = .ok (.iload_n 1, 1) := by decide +kernel
theorem dX7_byteAt_1 : decode cX7_byteAt 1 = .ok (.aload_n 0, 1) := by decide +kernel
theorem dX7_byteAt_2 : decode cX7_byteAt 2 = .ok (.getfield 115, 3) := by decide +kernel
theorem dX7_byteAt_5 : decode cX7_byteAt 5 = .ok (.if_icmp .ge 16, 3) := by decide +kernel
theorem dX7_byteAt_8 : decode cX7_byteAt 8 = .ok (.aload_n 0, 1) := by decide +kernel
theorem dX7_byteAt_9 : decode cX7_byteAt 9 = .ok (.getfield 27, 3) := by decide +kernel
theorem dX7_byteAt_12 : decode cX7_byteAt 12 = .ok (.iload_n 1, 1) := by decide +kernel
theorem dX7_byteAt_13 : decode cX7_byteAt 13 = .ok (.baload, 1) := by decide +kernel
theorem dX7_byteAt_14 : decode cX7_byteAt 14 = .ok (.sipush 255, 3) := by decide +kernel
theorem dX7_byteAt_17 : decode cX7_byteAt 17 = .ok (.iand, 1) := by decide +kernel
theorem dX7_byteAt_18 : decode cX7_byteAt 18 = .ok (.goto 4, 3) := by decide +kernel
theorem dX7_byteAt_21 : decode cX7_byteAt 21 = .ok (.iconst (-1), 1) := by decide +kernel
theorem dX7_byteAt_22 : decode cX7_byteAt 22 = .ok (.ireturn, 1) := by decide +kernel
set_option maxRecDepth 20000 in
theorem ggX7_isLetter_X7_within : GoodIn wsX7_isLetter wsX7_within := goodIn_r _ [4] (by decide +kernel) (by decide +kernel)
set_option maxRecDepth 20000 in
theorem gX7_isLetter_X7_within : GoodIn wsX7_isLetter (va_wsS RX7 92 yX7_within wsX7_within) := goodIn_app (goodIn_of _ (by decide +kernel)) ggX7_isLetter_X7_within
theorem dX7_isLetter_0 : decode cX7_isLetter 0 = .ok (.iload_n 0, 1) := by decide +kernel
theorem dX7_isLetter_1 : decode cX7_isLetter 1 = .ok (.bipush 97, 2) := by decide +kernel
theorem dX7_isLetter_3 : decode cX7_isLetter 3 = .ok (.bipush 122, 2) := by decide +kernel
theorem dX7_isLetter_5 : decode cX7_isLetter 5 = .ok (.invokestatic 92, 3) := by decide +kernel
theorem dX7_isLetter_8 : decode cX7_isLetter 8 = .ok (.ireturn, 1) := by decide +kernel
set_option maxRecDepth 20000 in
theorem ggX7_isDigit_X7_within : GoodIn wsX7_isDigit wsX7_within := goodIn_r _ [4] (by decide +kernel) (by decide +kernel)
set_option maxRecDepth 20000 in
theorem gX7_isDigit_X7_within : GoodIn wsX7_isDigit (va_wsS RX7 92 yX7_within wsX7_within) := goodIn_app (goodIn_of _ (by decide +kernel)) ggX7_isDigit_X7_within
theorem dX7_isDigit_0 : decode cX7_isDigit 0 = .ok (.iload_n 0, 1) := by decide +kernel
theorem dX7_isDigit_1 : decode cX7_isDigit 1 = .ok (.bipush 48, 2) := by decide +kernel
theorem dX7_isDigit_3 : decode cX7_isDigit 3 = .ok (.bipush 57, 2) := by decide +kernel
theorem dX7_isDigit_5 : decode cX7_isDigit 5 = .ok (.invokestatic 92, 3) := by decide +kernel
theorem dX7_isDigit_8 : decode cX7_isDigit 8 = .ok (.ireturn, 1) := by decide +kernel
set_option maxRecDepth 20000 in
theorem ggX7_go_X7_byteAt : GoodIn wsX7_go wsX7_byteAt := goodIn_r _ [9, 10, 11, 21, 22, 23, 24, 25, 26, 27, 28, 29, 30, 31, 32, 33, 34, 35, 36, 37, 38, 39, 40, 41, 42, 43, 44, 45, 46, 47, 48, 49, 50, 51, 52, 53, 54, 55] (by decide +kernel) (by decide +kernel)
set_option maxRecDepth 20000 in
theorem gX7_go_X7_byteAt : GoodIn wsX7_go (wsV RX7 121 RX7 yX7_byteAt wsX7_byteAt) := goodIn_app (goodIn_of _ (by decide +kernel)) ggX7_go_X7_byteAt
set_option maxRecDepth 20000 in
theorem ggX7_go_X7_isLetter : GoodIn wsX7_go wsX7_isLetter := goodIn_r _ [14, 15, 16, 8, 17] (by decide +kernel) (by decide +kernel)
set_option maxRecDepth 20000 in
theorem gX7_go_X7_isLetter : GoodIn wsX7_go (va_wsS RX7 131 yX7_isLetter wsX7_isLetter) := goodIn_app (goodIn_of _ (by decide +kernel)) ggX7_go_X7_isLetter
set_option maxRecDepth 20000 in
theorem ggX7_go_X7_isDigit : GoodIn wsX7_go wsX7_isDigit := goodIn_r _ [20, 15, 16, 8, 17] (by decide +kernel) (by decide +kernel)
set_option maxRecDepth 20000 in
theorem gX7_go_X7_isDigit : GoodIn wsX7_go (va_wsS RX7 135 yX7_isDigit wsX7_isDigit) := goodIn_app (goodIn_of _ (by decide +kernel)) ggX7_go_X7_isDigit
theorem dX7_go_0 : decode cX7_go 0 = .ok (.aload_n 0, 1) := by decide +kernel
theorem dX7_go_1 : decode cX7_go 1 = .ok (.aload_n 0, 1) := by decide +kernel
theorem dX7_go_2 : decode cX7_go 2 = .ok (.getfield 118, 3) := by decide +kernel
theorem dX7_go_5 : decode cX7_go 5 = .ok (.invokevirtual 121, 3) := by decide +kernel
theorem dX7_go_8 : decode cX7_go 8 = .ok (.bipush 32, 2) := by decide +kernel
theorem dX7_go_10 : decode cX7_go 10 = .ok (.if_icmp .eq 16, 3) := by decide +kernel
theorem dX7_go_13 : decode cX7_go 13 = .ok (.aload_n 0, 1) := by decide +kernel
theorem dX7_go_14 : decode cX7_go 14 = .ok (.aload_n 0, 1) := by decide +kernel
theorem dX7_go_15 : decode cX7_go 15 = .ok (.getfield 118, 3) := by decide +kernel
theorem dX7_go_18 : decode cX7_go 18 = .ok (.invokevirtual 121, 3) := by decide +kernel
theorem dX7_go_21 : decode cX7_go 21 = .ok (.bipush 10, 2) := by decide +kernel
theorem dX7_go_23 : decode cX7_go 23 = .ok (.if_icmp .ne 16, 3) := by decide +kernel
theorem dX7_go_26 : decode cX7_go 26 = .ok (.aload_n 0, 1) := by decide +kernel
theorem dX7_go_27 : decode cX7_go 27 = .ok (.dup, 1) := by decide +kernel
theorem dX7_go_28 : decode cX7_go 28 = .ok (.getfield 118, 3) := by decide +kernel
theorem dX7_go_31 : decode cX7_go 31 = .ok (.iconst 1, 1) := by decide +kernel
theorem dX7_go_32 : decode cX7_go 32 = .ok (.iadd, 1) := by decide +kernel
theorem dX7_go_33 : decode cX7_go 33 = .ok (.putfield 118, 3) := by decide +kernel
theorem dX7_go_36 : decode cX7_go 36 = .ok (.goto (-36), 3) := by decide +kernel
theorem dX7_go_39 : decode cX7_go 39 = .ok (.aload_n 0, 1) := by decide +kernel
theorem dX7_go_40 : decode cX7_go 40 = .ok (.aload_n 0, 1) := by decide +kernel
theorem dX7_go_41 : decode cX7_go 41 = .ok (.getfield 118, 3) := by decide +kernel
theorem dX7_go_44 : decode cX7_go 44 = .ok (.putfield 125, 3) := by decide +kernel
theorem dX7_go_47 : decode cX7_go 47 = .ok (.aload_n 0, 1) := by decide +kernel
theorem dX7_go_48 : decode cX7_go 48 = .ok (.aload_n 0, 1) := by decide +kernel
theorem dX7_go_49 : decode cX7_go 49 = .ok (.getfield 118, 3) := by decide +kernel
theorem dX7_go_52 : decode cX7_go 52 = .ok (.invokevirtual 121, 3) := by decide +kernel
theorem dX7_go_55 : decode cX7_go 55 = .ok (.istore_n 1, 1) := by decide +kernel
theorem dX7_go_56 : decode cX7_go 56 = .ok (.iload_n 1, 1) := by decide +kernel
theorem dX7_go_57 : decode cX7_go 57 = .ok (.ifCond .ge 11, 3) := by decide +kernel
theorem dX7_go_60 : decode cX7_go 60 = .ok (.aload_n 0, 1) := by decide +kernel
theorem dX7_go_61 : decode cX7_go 61 = .ok (.iconst 0, 1) := by decide +kernel
theorem dX7_go_62 : decode cX7_go 62 = .ok (.putfield 128, 3) := by decide +kernel
theorem dX7_go_65 : decode cX7_go 65 = .ok (.goto 177, 3) := by decide +kernel
theorem dX7_go_68 : decode cX7_go 68 = .ok (.iload_n 1, 1) := by decide +kernel
theorem dX7_go_69 : decode cX7_go 69 = .ok (.invokestatic 131, 3) := by decide +kernel
theorem dX7_go_72 : decode cX7_go 72 = .ok (.ifCond .eq 38, 3) := by decide +kernel
theorem dX7_go_75 : decode cX7_go 75 = .ok (.aload_n 0, 1) := by decide +kernel
theorem dX7_go_76 : decode cX7_go 76 = .ok (.aload_n 0, 1) := by decide +kernel
theorem dX7_go_77 : decode cX7_go 77 = .ok (.getfield 118, 3) := by decide +kernel
theorem dX7_go_80 : decode cX7_go 80 = .ok (.invokevirtual 121, 3) := by decide +kernel
theorem dX7_go_83 : decode cX7_go 83 = .ok (.invokestatic 131, 3) := by decide +kernel
theorem dX7_go_86 : decode cX7_go 86 = .ok (.ifCond .eq 16, 3) := by decide +kernel
theorem dX7_go_89 : decode cX7_go 89 = .ok (.aload_n 0, 1) := by decide +kernel
theorem dX7_go_90 : decode cX7_go 90 = .ok (.dup, 1) := by decide +kernel
theorem dX7_go_91 : decode cX7_go 91 = .ok (.getfield 118, 3) := by decide +kernel
theorem dX7_go_94 : decode cX7_go 94 = .ok (.iconst 1, 1) := by decide +kernel
theorem dX7_go_95 : decode cX7_go 95 = .ok (.iadd, 1) := by decide +kernel
theorem dX7_go_96 : decode cX7_go 96 = .ok (.putfield 118, 3) := by decide +kernel
theorem dX7_go_99 : decode cX7_go 99 = .ok (.goto (-24), 3) := by decide +kernel
theorem dX7_go_102 : decode cX7_go 102 = .ok (.aload_n 0, 1) := by decide +kernel
theorem dX7_go_103 : decode cX7_go 103 = .ok (.iconst 1, 1) := by decide +kernel
theorem dX7_go_104 : decode cX7_go 104 = .ok (.putfield 128, 3) := by decide +kernel
theorem dX7_go_107 : decode cX7_go 107 = .ok (.goto 135, 3) := by decide +kernel
theorem dX7_go_110 : decode cX7_go 110 = .ok (.iload_n 1, 1) := by decide +kernel
theorem dX7_go_111 : decode cX7_go 111 = .ok (.invokestatic 135, 3) := by decide +kernel
theorem dX7_go_114 : decode cX7_go 114 = .ok (.ifCond .eq 103, 3) := by decide +kernel
theorem dX7_go_117 : decode cX7_go 117 = .ok (.aload_n 0, 1) := by decide +kernel
theorem dX7_go_118 : decode cX7_go 118 = .ok (.iconst 0, 1) := by decide +kernel
theorem dX7_go_119 : decode cX7_go 119 = .ok (.putfield 138, 3) := by decide +kernel
theorem dX7_go_122 : decode cX7_go 122 = .ok (.aload_n 0, 1) := by decide +kernel
theorem dX7_go_123 : decode cX7_go 123 = .ok (.aload_n 0, 1) := by decide +kernel
theorem dX7_go_124 : decode cX7_go 124 = .ok (.getfield 118, 3) := by decide +kernel
theorem dX7_go_127 : decode cX7_go 127 = .ok (.invokevirtual 121, 3) := by decide +kernel
theorem dX7_go_130 : decode cX7_go 130 = .ok (.invokestatic 135, 3) := by decide +kernel
theorem dX7_go_133 : decode cX7_go 133 = .ok (.ifCond .eq 59, 3) := by decide +kernel
theorem dX7_go_136 : decode cX7_go 136 = .ok (.aload_n 0, 1) := by decide +kernel
theorem dX7_go_137 : decode cX7_go 137 = .ok (.aload_n 0, 1) := by decide +kernel
theorem dX7_go_138 : decode cX7_go 138 = .ok (.getfield 118, 3) := by decide +kernel
theorem dX7_go_141 : decode cX7_go 141 = .ok (.aload_n 0, 1) := by decide +kernel
theorem dX7_go_142 : decode cX7_go 142 = .ok (.getfield 125, 3) := by decide +kernel
theorem dX7_go_145 : decode cX7_go 145 = .ok (.isub, 1) := by decide +kernel
theorem dX7_go_146 : decode cX7_go 146 = .ok (.iconst 3, 1) := by decide +kernel
theorem dX7_go_147 : decode cX7_go 147 = .ok (.if_icmp .ge 25, 3) := by decide +kernel
theorem dX7_go_150 : decode cX7_go 150 = .ok (.bipush 10, 2) := by decide +kernel
theorem dX7_go_152 : decode cX7_go 152 = .ok (.aload_n 0, 1) := by decide +kernel
theorem dX7_go_153 : decode cX7_go 153 = .ok (.getfield 138, 3) := by decide +kernel
theorem dX7_go_156 : decode cX7_go 156 = .ok (.imul, 1) := by decide +kernel
theorem dX7_go_157 : decode cX7_go 157 = .ok (.aload_n 0, 1) := by decide +kernel
theorem dX7_go_158 : decode cX7_go 158 = .ok (.aload_n 0, 1) := by decide +kernel
theorem dX7_go_159 : decode cX7_go 159 = .ok (.getfield 118, 3) := by decide +kernel
theorem dX7_go_162 : decode cX7_go 162 = .ok (.invokevirtual 121, 3) := by decide +kernel
theorem dX7_go_165 : decode cX7_go 165 = .ok (.iadd, 1) := by decide +kernel
theorem dX7_go_166 : decode cX7_go 166 = .ok (.bipush 48, 2) := by decide +kernel
theorem dX7_go_168 : decode cX7_go 168 = .ok (.isub, 1) := by decide +kernel
theorem dX7_go_169 : decode cX7_go 169 = .ok (.goto 7, 3) := by decide +kernel
theorem dX7_go_172 : decode cX7_go 172 = .ok (.aload_n 0, 1) := by decide +kernel
theorem dX7_go_173 : decode cX7_go 173 = .ok (.getfield 138, 3) := by decide +kernel
theorem dX7_go_176 : decode cX7_go 176 = .ok (.putfield 138, 3) := by decide +kernel
theorem dX7_go_179 : decode cX7_go 179 = .ok (.aload_n 0, 1) := by decide +kernel
theorem dX7_go_180 : decode cX7_go 180 = .ok (.dup, 1) := by decide +kernel
theorem dX7_go_181 : decode cX7_go 181 = .ok (.getfield 118, 3) := by decide +kernel
theorem dX7_go_184 : decode cX7_go 184 = .ok (.iconst 1, 1) := by decide +kernel
theorem dX7_go_185 : decode cX7_go 185 = .ok (.iadd, 1) := by decide +kernel
theorem dX7_go_186 : decode cX7_go 186 = .ok (.putfield 118, 3) := by decide +kernel
theorem dX7_go_189 : decode cX7_go 189 = .ok (.goto (-67), 3) := by decide +kernel
theorem dX7_go_192 : decode cX7_go 192 = .ok (.aload_n 0, 1) := by decide +kernel
theorem dX7_go_193 : decode cX7_go 193 = .ok (.aload_n 0, 1) := by decide +kernel
theorem dX7_go_194 : decode cX7_go 194 = .ok (.getfield 118, 3) := by decide +kernel
theorem dX7_go_197 : decode cX7_go 197 = .ok (.aload_n 0, 1) := by decide +kernel
theorem dX7_go_198 : decode cX7_go 198 = .ok (.getfield 125, 3) := by decide +kernel
theorem dX7_go_201 : decode cX7_go 201 = .ok (.isub, 1) := by decide +kernel
theorem dX7_go_202 : decode cX7_go 202 = .ok (.iconst 4, 1) := by decide +kernel
theorem dX7_go_203 : decode cX7_go 203 = .ok (.if_icmp .ge 7, 3) := by decide +kernel
theorem dX7_go_206 : decode cX7_go 206 = .ok (.iconst 2, 1) := by decide +kernel
theorem dX7_go_207 : decode cX7_go 207 = .ok (.goto 4, 3) := by decide +kernel
theorem dX7_go_210 : decode cX7_go 210 = .ok (.iconst 4, 1) := by decide +kernel
theorem dX7_go_211 : decode cX7_go 211 = .ok (.putfield 128, 3) := by decide +kernel
theorem dX7_go_214 : decode cX7_go 214 = .ok (.goto 28, 3) := by decide +kernel
theorem dX7_go_217 : decode cX7_go 217 = .ok (.aload_n 0, 1) := by decide +kernel
theorem dX7_go_218 : decode cX7_go 218 = .ok (.dup, 1) := by decide +kernel
theorem dX7_go_219 : decode cX7_go 219 = .ok (.getfield 118, 3) := by decide +kernel
theorem dX7_go_222 : decode cX7_go 222 = .ok (.iconst 1, 1) := by decide +kernel
theorem dX7_go_223 : decode cX7_go 223 = .ok (.iadd, 1) := by decide +kernel
theorem dX7_go_224 : decode cX7_go 224 = .ok (.putfield 118, 3) := by decide +kernel
theorem dX7_go_227 : decode cX7_go 227 = .ok (.aload_n 0, 1) := by decide +kernel
theorem dX7_go_228 : decode cX7_go 228 = .ok (.iload_n 1, 1) := by decide +kernel
theorem dX7_go_229 : decode cX7_go 229 = .ok (.bipush 59, 2) := by decide +kernel
theorem dX7_go_231 : decode cX7_go 231 = .ok (.if_icmp .ne 7, 3) := by decide +kernel
theorem dX7_go_234 : decode cX7_go 234 = .ok (.iconst 3, 1) := by decide +kernel
theorem dX7_go_235 : decode cX7_go 235 = .ok (.goto 4, 3) := by decide +kernel
theorem dX7_go_238 : decode cX7_go 238 = .ok (.iconst 4, 1) := by decide +kernel
theorem dX7_go_239 : decode cX7_go 239 = .ok (.putfield 128, 3) := by decide +kernel
theorem dX7_go_242 : decode cX7_go 242 = .ok (.return_, 1) := by decide +kernel
theorem dX7_bad_0 : decode cX7_bad 0 = .ok (.aload_n 0, 1) := by decide +kernel
theorem dX7_bad_1 : decode cX7_bad 1 = .ok (.aload_n 0, 1) := by decide +kernel
theorem dX7_bad_2 : decode cX7_bad 2 = .ok (.getfield 141, 3) := by decide +kernel
theorem dX7_bad_5 : decode cX7_bad 5 = .ok (.ifCond .ne 12, 3) := by decide +kernel
theorem dX7_bad_8 : decode cX7_bad 8 = .ok (.bipush 8, 2) := by decide +kernel
theorem dX7_bad_10 : decode cX7_bad 10 = .ok (.iload_n 2, 1) := by decide +kernel
theorem dX7_bad_11 : decode cX7_bad 11 = .ok (.imul, 1) := by decide +kernel
theorem dX7_bad_12 : decode cX7_bad 12 = .ok (.iload_n 1, 1) := by decide +kernel
theorem dX7_bad_13 : decode cX7_bad 13 = .ok (.iadd, 1) := by decide +kernel
theorem dX7_bad_14 : decode cX7_bad 14 = .ok (.goto 7, 3) := by decide +kernel
theorem dX7_bad_17 : decode cX7_bad 17 = .ok (.aload_n 0, 1) := by decide +kernel
theorem dX7_bad_18 : decode cX7_bad 18 = .ok (.getfield 141, 3) := by decide +kernel
theorem dX7_bad_21 : decode cX7_bad 21 = .ok (.putfield 141, 3) := by decide +kernel
theorem dX7_bad_24 : decode cX7_bad 24 = .ok (.iconst 0, 1) := by decide +kernel
theorem dX7_bad_25 : decode cX7_bad 25 = .ok (.ireturn, 1) := by decide +kernel
set_option maxRecDepth 20000 in
theorem ggX7_isWord_X7_byteAt : GoodIn wsX7_isWord wsX7_byteAt := goodIn_r _ [9, 10, 11, 12, 13, 14, 15, 16, 17, 18, 19, 20, 21, 22, 23, 24, 25, 26, 27, 28, 29, 30, 31, 32, 33, 34, 35, 36, 37, 38, 39, 40, 41, 42, 43, 44, 45, 46] (by decide +kernel) (by decide +kernel)
set_option maxRecDepth 20000 in
theorem gX7_isWord_X7_byteAt : GoodIn wsX7_isWord (wsV RX7 121 RX7 yX7_byteAt wsX7_byteAt) := goodIn_app (goodIn_of _ (by decide +kernel)) ggX7_isWord_X7_byteAt
theorem dX7_isWord_0 : decode cX7_isWord 0 = .ok (.iconst 5, 1) := by decide +kernel
theorem dX7_isWord_1 : decode cX7_isWord 1 = .ok (.newarray .int, 2) := by decide +kernel
theorem dX7_isWord_3 : decode cX7_isWord 3 = .ok (.dup, 1) := by decide +kernel
theorem dX7_isWord_4 : decode cX7_isWord 4 = .ok (.iconst 0, 1) := by decide +kernel
theorem dX7_isWord_5 : decode cX7_isWord 5 = .ok (.iload_n 1, 1) := by decide +kernel
theorem dX7_isWord_6 : decode cX7_isWord 6 = .ok (.iastore, 1) := by decide +kernel
theorem dX7_isWord_7 : decode cX7_isWord 7 = .ok (.dup, 1) := by decide +kernel
theorem dX7_isWord_8 : decode cX7_isWord 8 = .ok (.iconst 1, 1) := by decide +kernel
theorem dX7_isWord_9 : decode cX7_isWord 9 = .ok (.iload_n 2, 1) := by decide +kernel
theorem dX7_isWord_10 : decode cX7_isWord 10 = .ok (.iastore, 1) := by decide +kernel
theorem dX7_isWord_11 : decode cX7_isWord 11 = .ok (.dup, 1) := by decide +kernel
theorem dX7_isWord_12 : decode cX7_isWord 12 = .ok (.iconst 2, 1) := by decide +kernel
theorem dX7_isWord_13 : decode cX7_isWord 13 = .ok (.iload_n 3, 1) := by decide +kernel
theorem dX7_isWord_14 : decode cX7_isWord 14 = .ok (.iastore, 1) := by decide +kernel
theorem dX7_isWord_15 : decode cX7_isWord 15 = .ok (.dup, 1) := by decide +kernel
theorem dX7_isWord_16 : decode cX7_isWord 16 = .ok (.iconst 3, 1) := by decide +kernel
theorem dX7_isWord_17 : decode cX7_isWord 17 = .ok (.iload 4, 2) := by decide +kernel
theorem dX7_isWord_19 : decode cX7_isWord 19 = .ok (.iastore, 1) := by decide +kernel
theorem dX7_isWord_20 : decode cX7_isWord 20 = .ok (.dup, 1) := by decide +kernel
theorem dX7_isWord_21 : decode cX7_isWord 21 = .ok (.iconst 4, 1) := by decide +kernel
theorem dX7_isWord_22 : decode cX7_isWord 22 = .ok (.iload 5, 2) := by decide +kernel
theorem dX7_isWord_24 : decode cX7_isWord 24 = .ok (.iastore, 1) := by decide +kernel
theorem dX7_isWord_25 : decode cX7_isWord 25 = .ok (.astore 6, 2) := by decide +kernel
theorem dX7_isWord_27 : decode cX7_isWord 27 = .ok (.aload_n 0, 1) := by decide +kernel
theorem dX7_isWord_28 : decode cX7_isWord 28 = .ok (.getfield 128, 3) := by decide +kernel
theorem dX7_isWord_31 : decode cX7_isWord 31 = .ok (.iconst 1, 1) := by decide +kernel
theorem dX7_isWord_32 : decode cX7_isWord 32 = .ok (.if_icmp .ne 20, 3) := by decide +kernel
theorem dX7_isWord_35 : decode cX7_isWord 35 = .ok (.aload_n 0, 1) := by decide +kernel
theorem dX7_isWord_36 : decode cX7_isWord 36 = .ok (.getfield 118, 3) := by decide +kernel
theorem dX7_isWord_39 : decode cX7_isWord 39 = .ok (.aload_n 0, 1) := by decide +kernel
theorem dX7_isWord_40 : decode cX7_isWord 40 = .ok (.getfield 125, 3) := by decide +kernel
theorem dX7_isWord_43 : decode cX7_isWord 43 = .ok (.isub, 1) := by decide +kernel
theorem dX7_isWord_44 : decode cX7_isWord 44 = .ok (.iconst 5, 1) := by decide +kernel
theorem dX7_isWord_45 : decode cX7_isWord 45 = .ok (.if_icmp .gt 7, 3) := by decide +kernel
theorem dX7_isWord_48 : decode cX7_isWord 48 = .ok (.iconst 1, 1) := by decide +kernel
theorem dX7_isWord_49 : decode cX7_isWord 49 = .ok (.goto 4, 3) := by decide +kernel
theorem dX7_isWord_52 : decode cX7_isWord 52 = .ok (.iconst 0, 1) := by decide +kernel
theorem dX7_isWord_53 : decode cX7_isWord 53 = .ok (.istore 7, 2) := by decide +kernel
theorem dX7_isWord_55 : decode cX7_isWord 55 = .ok (.iconst 0, 1) := by decide +kernel
theorem dX7_isWord_56 : decode cX7_isWord 56 = .ok (.istore 8, 2) := by decide +kernel
theorem dX7_isWord_58 : decode cX7_isWord 58 = .ok (.iload 8, 2) := by decide +kernel
theorem dX7_isWord_60 : decode cX7_isWord 60 = .ok (.iconst 5, 1) := by decide +kernel
theorem dX7_isWord_61 : decode cX7_isWord 61 = .ok (.if_icmp .ge 58, 3) := by decide +kernel
theorem dX7_isWord_64 : decode cX7_isWord 64 = .ok (.iload 7, 2) := by decide +kernel
theorem dX7_isWord_66 : decode cX7_isWord 66 = .ok (.ifCond .eq 53, 3) := by decide +kernel
theorem dX7_isWord_69 : decode cX7_isWord 69 = .ok (.iload 8, 2) := by decide +kernel
theorem dX7_isWord_71 : decode cX7_isWord 71 = .ok (.aload_n 0, 1) := by decide +kernel
theorem dX7_isWord_72 : decode cX7_isWord 72 = .ok (.getfield 118, 3) := by decide +kernel
theorem dX7_isWord_75 : decode cX7_isWord 75 = .ok (.aload_n 0, 1) := by decide +kernel
theorem dX7_isWord_76 : decode cX7_isWord 76 = .ok (.getfield 125, 3) := by decide +kernel
theorem dX7_isWord_79 : decode cX7_isWord 79 = .ok (.isub, 1) := by decide +kernel
theorem dX7_isWord_80 : decode cX7_isWord 80 = .ok (.if_icmp .ge 17, 3) := by decide +kernel
theorem dX7_isWord_83 : decode cX7_isWord 83 = .ok (.aload_n 0, 1) := by decide +kernel
theorem dX7_isWord_84 : decode cX7_isWord 84 = .ok (.aload_n 0, 1) := by decide +kernel
theorem dX7_isWord_85 : decode cX7_isWord 85 = .ok (.getfield 125, 3) := by decide +kernel
theorem dX7_isWord_88 : decode cX7_isWord 88 = .ok (.iload 8, 2) := by decide +kernel
theorem dX7_isWord_90 : decode cX7_isWord 90 = .ok (.iadd, 1) := by decide +kernel
theorem dX7_isWord_91 : decode cX7_isWord 91 = .ok (.invokevirtual 121, 3) := by decide +kernel
theorem dX7_isWord_94 : decode cX7_isWord 94 = .ok (.goto 4, 3) := by decide +kernel
theorem dX7_isWord_97 : decode cX7_isWord 97 = .ok (.iconst 0, 1) := by decide +kernel
theorem dX7_isWord_98 : decode cX7_isWord 98 = .ok (.aload 6, 2) := by decide +kernel
theorem dX7_isWord_100 : decode cX7_isWord 100 = .ok (.iload 8, 2) := by decide +kernel
theorem dX7_isWord_102 : decode cX7_isWord 102 = .ok (.iaload, 1) := by decide +kernel
theorem dX7_isWord_103 : decode cX7_isWord 103 = .ok (.if_icmp .ne 7, 3) := by decide +kernel
theorem dX7_isWord_106 : decode cX7_isWord 106 = .ok (.iconst 1, 1) := by decide +kernel
theorem dX7_isWord_107 : decode cX7_isWord 107 = .ok (.goto 4, 3) := by decide +kernel
theorem dX7_isWord_110 : decode cX7_isWord 110 = .ok (.iconst 0, 1) := by decide +kernel
theorem dX7_isWord_111 : decode cX7_isWord 111 = .ok (.istore 7, 2) := by decide +kernel
theorem dX7_isWord_113 : decode cX7_isWord 113 = .ok (.iinc 8 1, 3) := by decide +kernel
theorem dX7_isWord_116 : decode cX7_isWord 116 = .ok (.goto (-58), 3) := by decide +kernel
theorem dX7_isWord_119 : decode cX7_isWord 119 = .ok (.iload 7, 2) := by decide +kernel
theorem dX7_isWord_121 : decode cX7_isWord 121 = .ok (.ireturn, 1) := by decide +kernel
set_option maxRecDepth 20000 in
theorem ggX7_isNumber_X7_bad : GoodIn wsX7_isNumber wsX7_bad := goodIn_r _ [9, 10, 14, 15, 16, 17, 18, 19, 20, 21, 22, 23, 24, 25, 26, 27, 28, 29, 30, 31, 32, 33, 34, 35, 36, 37, 38, 39, 40, 41, 42, 43, 44, 45, 46, 47, 48] (by decide +kernel) (by decide +kernel)
set_option maxRecDepth 20000 in
theorem gX7_isNumber_X7_bad : GoodIn wsX7_isNumber (wsV RX7 144 RX7 yX7_bad wsX7_bad) := goodIn_app (goodIn_of _ (by decide +kernel)) ggX7_isNumber_X7_bad
set_option maxRecDepth 20000 in
theorem ggX7_isNumber_X7_within : GoodIn wsX7_isNumber wsX7_within := goodIn_r _ [13] (by decide +kernel) (by decide +kernel)
set_option maxRecDepth 20000 in
theorem gX7_isNumber_X7_within : GoodIn wsX7_isNumber (va_wsS RX7 92 yX7_within wsX7_within) := goodIn_app (goodIn_of _ (by decide +kernel)) ggX7_isNumber_X7_within
theorem dX7_isNumber_0 : decode cX7_isNumber 0 = .ok (.aload_n 0, 1) := by decide +kernel
theorem dX7_isNumber_1 : decode cX7_isNumber 1 = .ok (.getfield 128, 3) := by decide +kernel
theorem dX7_isNumber_4 : decode cX7_isNumber 4 = .ok (.iconst 2, 1) := by decide +kernel
theorem dX7_isNumber_5 : decode cX7_isNumber 5 = .ok (.if_icmp .eq 13, 3) := by decide +kernel
theorem dX7_isNumber_8 : decode cX7_isNumber 8 = .ok (.aload_n 0, 1) := by decide +kernel
theorem dX7_isNumber_9 : decode cX7_isNumber 9 = .ok (.iconst 1, 1) := by decide +kernel
theorem dX7_isNumber_10 : decode cX7_isNumber 10 = .ok (.aload_n 0, 1) := by decide +kernel
theorem dX7_isNumber_11 : decode cX7_isNumber 11 = .ok (.getfield 125, 3) := by decide +kernel
theorem dX7_isNumber_14 : decode cX7_isNumber 14 = .ok (.invokevirtual 144, 3) := by decide +kernel
theorem dX7_isNumber_17 : decode cX7_isNumber 17 = .ok (.ireturn, 1) := by decide +kernel
theorem dX7_isNumber_18 : decode cX7_isNumber 18 = .ok (.aload_n 0, 1) := by decide +kernel
theorem dX7_isNumber_19 : decode cX7_isNumber 19 = .ok (.aload_n 0, 1) := by decide +kernel
theorem dX7_isNumber_20 : decode cX7_isNumber 20 = .ok (.getfield 138, 3) := by decide +kernel
theorem dX7_isNumber_23 : decode cX7_isNumber 23 = .ok (.putfield 147, 3) := by decide +kernel
theorem dX7_isNumber_26 : decode cX7_isNumber 26 = .ok (.aload_n 0, 1) := by decide +kernel
theorem dX7_isNumber_27 : decode cX7_isNumber 27 = .ok (.getfield 138, 3) := by decide +kernel
theorem dX7_isNumber_30 : decode cX7_isNumber 30 = .ok (.iload_n 1, 1) := by decide +kernel
theorem dX7_isNumber_31 : decode cX7_isNumber 31 = .ok (.iload_n 2, 1) := by decide +kernel
theorem dX7_isNumber_32 : decode cX7_isNumber 32 = .ok (.invokestatic 92, 3) := by decide +kernel
theorem dX7_isNumber_35 : decode cX7_isNumber 35 = .ok (.ifCond .ne 15, 3) := by decide +kernel
theorem dX7_isNumber_38 : decode cX7_isNumber 38 = .ok (.aload_n 0, 1) := by decide +kernel
theorem dX7_isNumber_39 : decode cX7_isNumber 39 = .ok (.iconst 2, 1) := by decide +kernel
theorem dX7_isNumber_40 : decode cX7_isNumber 40 = .ok (.aload_n 0, 1) := by decide +kernel
theorem dX7_isNumber_41 : decode cX7_isNumber 41 = .ok (.getfield 125, 3) := by decide +kernel
theorem dX7_isNumber_44 : decode cX7_isNumber 44 = .ok (.invokevirtual 144, 3) := by decide +kernel
theorem dX7_isNumber_47 : decode cX7_isNumber 47 = .ok (.ifCond .eq 7, 3) := by decide +kernel
theorem dX7_isNumber_50 : decode cX7_isNumber 50 = .ok (.iconst 1, 1) := by decide +kernel
theorem dX7_isNumber_51 : decode cX7_isNumber 51 = .ok (.goto 4, 3) := by decide +kernel
theorem dX7_isNumber_54 : decode cX7_isNumber 54 = .ok (.iconst 0, 1) := by decide +kernel
theorem dX7_isNumber_55 : decode cX7_isNumber 55 = .ok (.ireturn, 1) := by decide +kernel
set_option maxRecDepth 20000 in
theorem ggX7_number_X7_isNumber : GoodIn wsX7_number wsX7_isNumber := goodIn_r _ [5, 6, 7, 8, 9, 10, 11, 12, 4, 13, 14, 15, 16, 17, 35, 36, 37, 38, 39, 40, 41, 42, 43, 44, 45, 46, 47, 48, 49, 50, 51, 52, 53, 54, 55, 56, 57, 58, 59, 60, 61, 62, 63, 64, 65, 66, 67, 68, 69] (by decide +kernel) (by decide +kernel)
set_option maxRecDepth 20000 in
theorem gX7_number_X7_isNumber : GoodIn wsX7_number (wsV RX7 150 RX7 yX7_isNumber wsX7_isNumber) := goodIn_app (goodIn_of _ (by decide +kernel)) ggX7_number_X7_isNumber
set_option maxRecDepth 20000 in
theorem ggX7_number_X7_go : GoodIn wsX7_number wsX7_go := goodIn_r _ [21, 22, 7, 6, 8, 23, 24, 25, 4, 26, 27, 28, 29, 30, 31, 15, 16, 17, 32, 33, 34, 35, 36, 37, 38, 39, 40, 41, 42, 43, 44, 45, 46, 47, 48, 49, 50, 51, 52, 53, 54, 55, 56, 57, 58, 59, 60, 61, 62, 63, 64, 65, 66, 67, 68, 69] (by decide +kernel) (by decide +kernel)
set_option maxRecDepth 20000 in
theorem gX7_number_X7_go : GoodIn wsX7_number (wsV RX7 153 RX7 yX7_go wsX7_go) := goodIn_app (goodIn_of _ (by decide +kernel)) ggX7_number_X7_go
theorem dX7_number_0 : decode cX7_number 0 = .ok (.aload_n 0, 1) := by decide +kernel
theorem dX7_number_1 : decode cX7_number 1 = .ok (.iload_n 1, 1) := by decide +kernel
theorem dX7_number_2 : decode cX7_number 2 = .ok (.iload_n 2, 1) := by decide +kernel
theorem dX7_number_3 : decode cX7_number 3 = .ok (.invokevirtual 150, 3) := by decide +kernel
theorem dX7_number_6 : decode cX7_number 6 = .ok (.istore_n 3, 1) := by decide +kernel
theorem dX7_number_7 : decode cX7_number 7 = .ok (.iload_n 3, 1) := by decide +kernel
theorem dX7_number_8 : decode cX7_number 8 = .ok (.ifCond .eq 7, 3) := by decide +kernel
theorem dX7_number_11 : decode cX7_number 11 = .ok (.aload_n 0, 1) := by decide +kernel
theorem dX7_number_12 : decode cX7_number 12 = .ok (.invokevirtual 153, 3) := by decide +kernel
theorem dX7_number_15 : decode cX7_number 15 = .ok (.iload_n 3, 1) := by decide +kernel
theorem dX7_number_16 : decode cX7_number 16 = .ok (.ireturn, 1) := by decide +kernel
theorem dX7_isRead_0 : decode cX7_isRead 0 = .ok (.iconst 0, 1) := by decide +kernel
theorem dX7_isRead_1 : decode cX7_isRead 1 = .ok (.istore_n 3, 1) := by decide +kernel
theorem dX7_isRead_2 : decode cX7_isRead 2 = .ok (.iconst 0, 1) := by decide +kernel
theorem dX7_isRead_3 : decode cX7_isRead 3 = .ok (.istore 4, 2) := by decide +kernel
theorem dX7_isRead_5 : decode cX7_isRead 5 = .ok (.iload 4, 2) := by decide +kernel
theorem dX7_isRead_7 : decode cX7_isRead 7 = .ok (.aload_n 0, 1) := by decide +kernel
theorem dX7_isRead_8 : decode cX7_isRead 8 = .ok (.getfield 156, 3) := by decide +kernel
theorem dX7_isRead_11 : decode cX7_isRead 11 = .ok (.if_icmp .ge 47, 3) := by decide +kernel
theorem dX7_isRead_14 : decode cX7_isRead 14 = .ok (.iload_n 3, 1) := by decide +kernel
theorem dX7_isRead_15 : decode cX7_isRead 15 = .ok (.ifCond .ne 31, 3) := by decide +kernel
theorem dX7_isRead_18 : decode cX7_isRead 18 = .ok (.aload_n 0, 1) := by decide +kernel
theorem dX7_isRead_19 : decode cX7_isRead 19 = .ok (.getfield 31, 3) := by decide +kernel
theorem dX7_isRead_22 : decode cX7_isRead 22 = .ok (.iconst 3, 1) := by decide +kernel
theorem dX7_isRead_23 : decode cX7_isRead 23 = .ok (.iload 4, 2) := by decide +kernel
theorem dX7_isRead_25 : decode cX7_isRead 25 = .ok (.imul, 1) := by decide +kernel
theorem dX7_isRead_26 : decode cX7_isRead 26 = .ok (.iaload, 1) := by decide +kernel
theorem dX7_isRead_27 : decode cX7_isRead 27 = .ok (.iload_n 1, 1) := by decide +kernel
theorem dX7_isRead_28 : decode cX7_isRead 28 = .ok (.if_icmp .ne 22, 3) := by decide +kernel
theorem dX7_isRead_31 : decode cX7_isRead 31 = .ok (.aload_n 0, 1) := by decide +kernel
theorem dX7_isRead_32 : decode cX7_isRead 32 = .ok (.getfield 31, 3) := by decide +kernel
theorem dX7_isRead_35 : decode cX7_isRead 35 = .ok (.iconst 3, 1) := by decide +kernel
theorem dX7_isRead_36 : decode cX7_isRead 36 = .ok (.iload 4, 2) := by decide +kernel
theorem dX7_isRead_38 : decode cX7_isRead 38 = .ok (.imul, 1) := by decide +kernel
theorem dX7_isRead_39 : decode cX7_isRead 39 = .ok (.iconst 1, 1) := by decide +kernel
theorem dX7_isRead_40 : decode cX7_isRead 40 = .ok (.iadd, 1) := by decide +kernel
theorem dX7_isRead_41 : decode cX7_isRead 41 = .ok (.iaload, 1) := by decide +kernel
theorem dX7_isRead_42 : decode cX7_isRead 42 = .ok (.iload_n 2, 1) := by decide +kernel
theorem dX7_isRead_43 : decode cX7_isRead 43 = .ok (.if_icmp .ne 7, 3) := by decide +kernel
theorem dX7_isRead_46 : decode cX7_isRead 46 = .ok (.iconst 1, 1) := by decide +kernel
theorem dX7_isRead_47 : decode cX7_isRead 47 = .ok (.goto 4, 3) := by decide +kernel
theorem dX7_isRead_50 : decode cX7_isRead 50 = .ok (.iconst 0, 1) := by decide +kernel
theorem dX7_isRead_51 : decode cX7_isRead 51 = .ok (.istore_n 3, 1) := by decide +kernel
theorem dX7_isRead_52 : decode cX7_isRead 52 = .ok (.iinc 4 1, 3) := by decide +kernel
theorem dX7_isRead_55 : decode cX7_isRead 55 = .ok (.goto (-50), 3) := by decide +kernel
theorem dX7_isRead_58 : decode cX7_isRead 58 = .ok (.iload_n 3, 1) := by decide +kernel
theorem dX7_isRead_59 : decode cX7_isRead 59 = .ok (.ireturn, 1) := by decide +kernel
set_option maxRecDepth 20000 in
theorem ggX7_placeLine_X7_bad : GoodIn wsX7_placeLine wsX7_bad := goodIn_r _ [12, 13, 51, 52, 53, 54, 55, 56, 57, 58, 59, 60, 61, 62, 63, 64, 65, 66, 67, 68, 69, 70, 71, 72, 73, 74, 75, 76, 77, 78, 79, 80, 81, 82, 83, 84, 85] (by decide +kernel) (by decide +kernel)
set_option maxRecDepth 20000 in
theorem gX7_placeLine_X7_bad : GoodIn wsX7_placeLine (wsV RX7 144 RX7 yX7_bad wsX7_bad) := goodIn_app (goodIn_of _ (by decide +kernel)) ggX7_placeLine_X7_bad
set_option maxRecDepth 20000 in
theorem ggX7_placeLine_X7_go : GoodIn wsX7_placeLine wsX7_go := goodIn_r _ [17, 18, 2, 19, 20, 21, 22, 23, 11, 24, 25, 26, 27, 28, 29, 30, 31, 32, 33, 34, 35, 51, 52, 53, 54, 55, 56, 57, 58, 59, 60, 61, 62, 63, 64, 65, 66, 67, 68, 69, 70, 71, 72, 73, 74, 75, 76, 77, 78, 79, 80, 81, 82, 83, 84, 85] (by decide +kernel) (by decide +kernel)
set_option maxRecDepth 20000 in
theorem gX7_placeLine_X7_go : GoodIn wsX7_placeLine (wsV RX7 153 RX7 yX7_go wsX7_go) := goodIn_app (goodIn_of _ (by decide +kernel)) ggX7_placeLine_X7_go
set_option maxRecDepth 20000 in
theorem ggX7_placeLine_X7_number : GoodIn wsX7_placeLine wsX7_number := goodIn_r _ [39, 40, 41, 42, 11, 43, 19, 2, 20, 4, 8, 9, 10, 12, 13, 30, 31, 32, 14, 15, 16, 17, 18, 21, 22, 23, 24, 25, 26, 27, 28, 29, 33, 34, 35, 51, 52, 53, 54, 55, 56, 57, 58, 59, 60, 61, 62, 63, 64, 65, 66, 67, 68, 69, 70, 71, 72, 73, 74, 75, 76, 77, 78, 79, 80, 81, 82, 83, 84, 85] (by decide +kernel) (by decide +kernel)
set_option maxRecDepth 20000 in
theorem gX7_placeLine_X7_number : GoodIn wsX7_placeLine (wsV RX7 162 RX7 yX7_number wsX7_number) := goodIn_app (goodIn_of _ (by decide +kernel)) ggX7_placeLine_X7_number
set_option maxRecDepth 20000 in
theorem ggX7_placeLine_X7_isNumber : GoodIn wsX7_placeLine wsX7_isNumber := goodIn_r _ [43, 19, 2, 20, 4, 8, 9, 10, 11, 12, 13, 30, 31, 32, 51, 52, 53, 54, 55, 56, 57, 58, 59, 60, 61, 62, 63, 64, 65, 66, 67, 68, 69, 70, 71, 72, 73, 74, 75, 76, 77, 78, 79, 80, 81, 82, 83, 84, 85] (by decide +kernel) (by decide +kernel)
set_option maxRecDepth 20000 in
theorem gX7_placeLine_X7_isNumber : GoodIn wsX7_placeLine (wsV RX7 150 RX7 yX7_isNumber wsX7_isNumber) := goodIn_app (goodIn_of _ (by decide +kernel)) ggX7_placeLine_X7_isNumber
set_option maxRecDepth 20000 in
theorem ggX7_placeLine_X7_isRead : GoodIn wsX7_placeLine wsX7_isRead := goodIn_r _ [47, 1, 7, 51, 52, 53, 54, 55, 56, 57, 58, 59, 60, 61, 62, 63, 64, 65, 66, 67, 68, 69, 70, 71, 72, 73, 74, 75, 76, 77, 78, 79, 80, 81, 82, 83, 84, 85] (by decide +kernel) (by decide +kernel)
set_option maxRecDepth 20000 in
theorem gX7_placeLine_X7_isRead : GoodIn wsX7_placeLine (wsV RX7 167 RX7 yX7_isRead wsX7_isRead) := goodIn_app (goodIn_of _ (by decide +kernel)) ggX7_placeLine_X7_isRead
set_option maxRecDepth 20000 in
theorem ggX7_placeLine_X7_cell : GoodIn wsX7_placeLine wsX7_cell := goodIn_r _ [50] (by decide +kernel) (by decide +kernel)
set_option maxRecDepth 20000 in
theorem gX7_placeLine_X7_cell : GoodIn wsX7_placeLine (va_wsS RX7 170 yX7_cell wsX7_cell) := goodIn_app (goodIn_of _ (by decide +kernel)) ggX7_placeLine_X7_cell
theorem dX7_placeLine_0 : decode cX7_placeLine 0 = .ok (.aload_n 0, 1) := by decide +kernel
theorem dX7_placeLine_1 : decode cX7_placeLine 1 = .ok (.getfield 156, 3) := by decide +kernel
theorem dX7_placeLine_4 : decode cX7_placeLine 4 = .ok (.bipush 7, 2) := by decide +kernel
theorem dX7_placeLine_6 : decode cX7_placeLine 6 = .ok (.if_icmp .ne 13, 3) := by decide +kernel
theorem dX7_placeLine_9 : decode cX7_placeLine 9 = .ok (.aload_n 0, 1) := by decide +kernel
theorem dX7_placeLine_10 : decode cX7_placeLine 10 = .ok (.iconst 4, 1) := by decide +kernel
theorem dX7_placeLine_11 : decode cX7_placeLine 11 = .ok (.aload_n 0, 1) := by decide +kernel
theorem dX7_placeLine_12 : decode cX7_placeLine 12 = .ok (.getfield 125, 3) := by decide +kernel
theorem dX7_placeLine_15 : decode cX7_placeLine 15 = .ok (.invokevirtual 144, 3) := by decide +kernel
theorem dX7_placeLine_18 : decode cX7_placeLine 18 = .ok (.ireturn, 1) := by decide +kernel
theorem dX7_placeLine_19 : decode cX7_placeLine 19 = .ok (.aload_n 0, 1) := by decide +kernel
theorem dX7_placeLine_20 : decode cX7_placeLine 20 = .ok (.invokevirtual 153, 3) := by decide +kernel
theorem dX7_placeLine_23 : decode cX7_placeLine 23 = .ok (.aload_n 0, 1) := by decide +kernel
theorem dX7_placeLine_24 : decode cX7_placeLine 24 = .ok (.iconst 1, 1) := by decide +kernel
theorem dX7_placeLine_25 : decode cX7_placeLine 25 = .ok (.aload_n 0, 1) := by decide +kernel
theorem dX7_placeLine_26 : decode cX7_placeLine 26 = .ok (.getfield 159, 3) := by decide +kernel
theorem dX7_placeLine_29 : decode cX7_placeLine 29 = .ok (.invokevirtual 162, 3) := by decide +kernel
theorem dX7_placeLine_32 : decode cX7_placeLine 32 = .ok (.ifCond .ne 5, 3) := by decide +kernel
theorem dX7_placeLine_35 : decode cX7_placeLine 35 = .ok (.iconst 0, 1) := by decide +kernel
theorem dX7_placeLine_36 : decode cX7_placeLine 36 = .ok (.ireturn, 1) := by decide +kernel
theorem dX7_placeLine_37 : decode cX7_placeLine 37 = .ok (.aload_n 0, 1) := by decide +kernel
theorem dX7_placeLine_38 : decode cX7_placeLine 38 = .ok (.getfield 147, 3) := by decide +kernel
theorem dX7_placeLine_41 : decode cX7_placeLine 41 = .ok (.istore_n 1, 1) := by decide +kernel
theorem dX7_placeLine_42 : decode cX7_placeLine 42 = .ok (.aload_n 0, 1) := by decide +kernel
theorem dX7_placeLine_43 : decode cX7_placeLine 43 = .ok (.iconst 0, 1) := by decide +kernel
theorem dX7_placeLine_44 : decode cX7_placeLine 44 = .ok (.aload_n 0, 1) := by decide +kernel
theorem dX7_placeLine_45 : decode cX7_placeLine 45 = .ok (.getfield 164, 3) := by decide +kernel
theorem dX7_placeLine_48 : decode cX7_placeLine 48 = .ok (.iconst 1, 1) := by decide +kernel
theorem dX7_placeLine_49 : decode cX7_placeLine 49 = .ok (.isub, 1) := by decide +kernel
theorem dX7_placeLine_50 : decode cX7_placeLine 50 = .ok (.invokevirtual 150, 3) := by decide +kernel
theorem dX7_placeLine_53 : decode cX7_placeLine 53 = .ok (.ifCond .ne 5, 3) := by decide +kernel
theorem dX7_placeLine_56 : decode cX7_placeLine 56 = .ok (.iconst 0, 1) := by decide +kernel
theorem dX7_placeLine_57 : decode cX7_placeLine 57 = .ok (.ireturn, 1) := by decide +kernel
theorem dX7_placeLine_58 : decode cX7_placeLine 58 = .ok (.aload_n 0, 1) := by decide +kernel
theorem dX7_placeLine_59 : decode cX7_placeLine 59 = .ok (.getfield 147, 3) := by decide +kernel
theorem dX7_placeLine_62 : decode cX7_placeLine 62 = .ok (.istore_n 2, 1) := by decide +kernel
theorem dX7_placeLine_63 : decode cX7_placeLine 63 = .ok (.aload_n 0, 1) := by decide +kernel
theorem dX7_placeLine_64 : decode cX7_placeLine 64 = .ok (.iload_n 1, 1) := by decide +kernel
theorem dX7_placeLine_65 : decode cX7_placeLine 65 = .ok (.iload_n 2, 1) := by decide +kernel
theorem dX7_placeLine_66 : decode cX7_placeLine 66 = .ok (.invokevirtual 167, 3) := by decide +kernel
theorem dX7_placeLine_69 : decode cX7_placeLine 69 = .ok (.ifCond .ne 16, 3) := by decide +kernel
theorem dX7_placeLine_72 : decode cX7_placeLine 72 = .ok (.aload_n 0, 1) := by decide +kernel
theorem dX7_placeLine_73 : decode cX7_placeLine 73 = .ok (.getfield 34, 3) := by decide +kernel
theorem dX7_placeLine_76 : decode cX7_placeLine 76 = .ok (.iload_n 1, 1) := by decide +kernel
theorem dX7_placeLine_77 : decode cX7_placeLine 77 = .ok (.iload_n 2, 1) := by decide +kernel
theorem dX7_placeLine_78 : decode cX7_placeLine 78 = .ok (.invokestatic 170, 3) := by decide +kernel
theorem dX7_placeLine_81 : decode cX7_placeLine 81 = .ok (.baload, 1) := by decide +kernel
theorem dX7_placeLine_82 : decode cX7_placeLine 82 = .ok (.ifCond .eq 13, 3) := by decide +kernel
theorem dX7_placeLine_85 : decode cX7_placeLine 85 = .ok (.aload_n 0, 1) := by decide +kernel
theorem dX7_placeLine_86 : decode cX7_placeLine 86 = .ok (.iconst 3, 1) := by decide +kernel
theorem dX7_placeLine_87 : decode cX7_placeLine 87 = .ok (.aload_n 0, 1) := by decide +kernel
theorem dX7_placeLine_88 : decode cX7_placeLine 88 = .ok (.getfield 125, 3) := by decide +kernel
theorem dX7_placeLine_91 : decode cX7_placeLine 91 = .ok (.invokevirtual 144, 3) := by decide +kernel
theorem dX7_placeLine_94 : decode cX7_placeLine 94 = .ok (.ireturn, 1) := by decide +kernel
theorem dX7_placeLine_95 : decode cX7_placeLine 95 = .ok (.aload_n 0, 1) := by decide +kernel
theorem dX7_placeLine_96 : decode cX7_placeLine 96 = .ok (.invokevirtual 153, 3) := by decide +kernel
theorem dX7_placeLine_99 : decode cX7_placeLine 99 = .ok (.aload_n 0, 1) := by decide +kernel
theorem dX7_placeLine_100 : decode cX7_placeLine 100 = .ok (.iconst 1, 1) := by decide +kernel
theorem dX7_placeLine_101 : decode cX7_placeLine 101 = .ok (.bipush 99, 2) := by decide +kernel
theorem dX7_placeLine_103 : decode cX7_placeLine 103 = .ok (.invokevirtual 162, 3) := by decide +kernel
theorem dX7_placeLine_106 : decode cX7_placeLine 106 = .ok (.ifCond .ne 5, 3) := by decide +kernel
theorem dX7_placeLine_109 : decode cX7_placeLine 109 = .ok (.iconst 0, 1) := by decide +kernel
theorem dX7_placeLine_110 : decode cX7_placeLine 110 = .ok (.ireturn, 1) := by decide +kernel
theorem dX7_placeLine_111 : decode cX7_placeLine 111 = .ok (.aload_n 0, 1) := by decide +kernel
theorem dX7_placeLine_112 : decode cX7_placeLine 112 = .ok (.getfield 31, 3) := by decide +kernel
theorem dX7_placeLine_115 : decode cX7_placeLine 115 = .ok (.iconst 3, 1) := by decide +kernel
theorem dX7_placeLine_116 : decode cX7_placeLine 116 = .ok (.aload_n 0, 1) := by decide +kernel
theorem dX7_placeLine_117 : decode cX7_placeLine 117 = .ok (.getfield 156, 3) := by decide +kernel
theorem dX7_placeLine_120 : decode cX7_placeLine 120 = .ok (.imul, 1) := by decide +kernel
theorem dX7_placeLine_121 : decode cX7_placeLine 121 = .ok (.iload_n 1, 1) := by decide +kernel
theorem dX7_placeLine_122 : decode cX7_placeLine 122 = .ok (.iastore, 1) := by decide +kernel
theorem dX7_placeLine_123 : decode cX7_placeLine 123 = .ok (.aload_n 0, 1) := by decide +kernel
theorem dX7_placeLine_124 : decode cX7_placeLine 124 = .ok (.getfield 31, 3) := by decide +kernel
theorem dX7_placeLine_127 : decode cX7_placeLine 127 = .ok (.iconst 3, 1) := by decide +kernel
theorem dX7_placeLine_128 : decode cX7_placeLine 128 = .ok (.aload_n 0, 1) := by decide +kernel
theorem dX7_placeLine_129 : decode cX7_placeLine 129 = .ok (.getfield 156, 3) := by decide +kernel
theorem dX7_placeLine_132 : decode cX7_placeLine 132 = .ok (.imul, 1) := by decide +kernel
theorem dX7_placeLine_133 : decode cX7_placeLine 133 = .ok (.iconst 1, 1) := by decide +kernel
theorem dX7_placeLine_134 : decode cX7_placeLine 134 = .ok (.iadd, 1) := by decide +kernel
theorem dX7_placeLine_135 : decode cX7_placeLine 135 = .ok (.iload_n 2, 1) := by decide +kernel
theorem dX7_placeLine_136 : decode cX7_placeLine 136 = .ok (.iastore, 1) := by decide +kernel
theorem dX7_placeLine_137 : decode cX7_placeLine 137 = .ok (.aload_n 0, 1) := by decide +kernel
theorem dX7_placeLine_138 : decode cX7_placeLine 138 = .ok (.getfield 31, 3) := by decide +kernel
theorem dX7_placeLine_141 : decode cX7_placeLine 141 = .ok (.iconst 3, 1) := by decide +kernel
theorem dX7_placeLine_142 : decode cX7_placeLine 142 = .ok (.aload_n 0, 1) := by decide +kernel
theorem dX7_placeLine_143 : decode cX7_placeLine 143 = .ok (.getfield 156, 3) := by decide +kernel
theorem dX7_placeLine_146 : decode cX7_placeLine 146 = .ok (.imul, 1) := by decide +kernel
theorem dX7_placeLine_147 : decode cX7_placeLine 147 = .ok (.iconst 2, 1) := by decide +kernel
theorem dX7_placeLine_148 : decode cX7_placeLine 148 = .ok (.iadd, 1) := by decide +kernel
theorem dX7_placeLine_149 : decode cX7_placeLine 149 = .ok (.aload_n 0, 1) := by decide +kernel
theorem dX7_placeLine_150 : decode cX7_placeLine 150 = .ok (.getfield 147, 3) := by decide +kernel
theorem dX7_placeLine_153 : decode cX7_placeLine 153 = .ok (.iastore, 1) := by decide +kernel
theorem dX7_placeLine_154 : decode cX7_placeLine 154 = .ok (.aload_n 0, 1) := by decide +kernel
theorem dX7_placeLine_155 : decode cX7_placeLine 155 = .ok (.dup, 1) := by decide +kernel
theorem dX7_placeLine_156 : decode cX7_placeLine 156 = .ok (.getfield 156, 3) := by decide +kernel
theorem dX7_placeLine_159 : decode cX7_placeLine 159 = .ok (.iconst 1, 1) := by decide +kernel
theorem dX7_placeLine_160 : decode cX7_placeLine 160 = .ok (.iadd, 1) := by decide +kernel
theorem dX7_placeLine_161 : decode cX7_placeLine 161 = .ok (.putfield 156, 3) := by decide +kernel
theorem dX7_placeLine_164 : decode cX7_placeLine 164 = .ok (.iconst 1, 1) := by decide +kernel
theorem dX7_placeLine_165 : decode cX7_placeLine 165 = .ok (.ireturn, 1) := by decide +kernel
set_option maxRecDepth 20000 in
theorem ggX7_rocksLine_X7_go : GoodIn wsX7_rocksLine wsX7_go := goodIn_r _ [10, 11, 4, 12, 13, 14, 15, 16, 9, 17, 18, 19, 20, 21, 22, 23, 24, 25, 26, 27, 28, 51, 52, 53, 54, 55, 56, 57, 58, 59, 60, 61, 62, 63, 64, 65, 66, 67, 68, 69, 70, 71, 72, 73, 74, 75, 76, 77, 78, 79, 80, 81, 82, 83, 84, 85] (by decide +kernel) (by decide +kernel)
set_option maxRecDepth 20000 in
theorem gX7_rocksLine_X7_go : GoodIn wsX7_rocksLine (wsV RX7 153 RX7 yX7_go wsX7_go) := goodIn_app (goodIn_of _ (by decide +kernel)) ggX7_rocksLine_X7_go
set_option maxRecDepth 20000 in
theorem ggX7_rocksLine_X7_number : GoodIn wsX7_rocksLine wsX7_number := goodIn_r _ [32, 33, 34, 35, 9, 36, 12, 4, 13, 2, 37, 38, 39, 40, 41, 23, 24, 25, 6, 7, 8, 10, 11, 14, 15, 16, 17, 18, 19, 20, 21, 22, 26, 27, 28, 51, 52, 53, 54, 55, 56, 57, 58, 59, 60, 61, 62, 63, 64, 65, 66, 67, 68, 69, 70, 71, 72, 73, 74, 75, 76, 77, 78, 79, 80, 81, 82, 83, 84, 85] (by decide +kernel) (by decide +kernel)
set_option maxRecDepth 20000 in
theorem gX7_rocksLine_X7_number : GoodIn wsX7_rocksLine (wsV RX7 162 RX7 yX7_number wsX7_number) := goodIn_app (goodIn_of _ (by decide +kernel)) ggX7_rocksLine_X7_number
set_option maxRecDepth 20000 in
theorem ggX7_rocksLine_X7_isNumber : GoodIn wsX7_rocksLine wsX7_isNumber := goodIn_r _ [36, 12, 4, 13, 2, 37, 38, 39, 9, 40, 41, 23, 24, 25, 51, 52, 53, 54, 55, 56, 57, 58, 59, 60, 61, 62, 63, 64, 65, 66, 67, 68, 69, 70, 71, 72, 73, 74, 75, 76, 77, 78, 79, 80, 81, 82, 83, 84, 85] (by decide +kernel) (by decide +kernel)
set_option maxRecDepth 20000 in
theorem gX7_rocksLine_X7_isNumber : GoodIn wsX7_rocksLine (wsV RX7 150 RX7 yX7_isNumber wsX7_isNumber) := goodIn_app (goodIn_of _ (by decide +kernel)) ggX7_rocksLine_X7_isNumber
set_option maxRecDepth 20000 in
theorem ggX7_rocksLine_X7_isRead : GoodIn wsX7_rocksLine wsX7_isRead := goodIn_r _ [45, 46, 47, 51, 52, 53, 54, 55, 56, 57, 58, 59, 60, 61, 62, 63, 64, 65, 66, 67, 68, 69, 70, 71, 72, 73, 74, 75, 76, 77, 78, 79, 80, 81, 82, 83, 84, 85] (by decide +kernel) (by decide +kernel)
set_option maxRecDepth 20000 in
theorem gX7_rocksLine_X7_isRead : GoodIn wsX7_rocksLine (wsV RX7 167 RX7 yX7_isRead wsX7_isRead) := goodIn_app (goodIn_of _ (by decide +kernel)) ggX7_rocksLine_X7_isRead
set_option maxRecDepth 20000 in
theorem ggX7_rocksLine_X7_bad : GoodIn wsX7_rocksLine wsX7_bad := goodIn_r _ [40, 41, 51, 52, 53, 54, 55, 56, 57, 58, 59, 60, 61, 62, 63, 64, 65, 66, 67, 68, 69, 70, 71, 72, 73, 74, 75, 76, 77, 78, 79, 80, 81, 82, 83, 84, 85] (by decide +kernel) (by decide +kernel)
set_option maxRecDepth 20000 in
theorem gX7_rocksLine_X7_bad : GoodIn wsX7_rocksLine (wsV RX7 144 RX7 yX7_bad wsX7_bad) := goodIn_app (goodIn_of _ (by decide +kernel)) ggX7_rocksLine_X7_bad
set_option maxRecDepth 20000 in
theorem ggX7_rocksLine_X7_cell : GoodIn wsX7_rocksLine wsX7_cell := goodIn_r _ [50] (by decide +kernel) (by decide +kernel)
set_option maxRecDepth 20000 in
theorem gX7_rocksLine_X7_cell : GoodIn wsX7_rocksLine (va_wsS RX7 170 yX7_cell wsX7_cell) := goodIn_app (goodIn_of _ (by decide +kernel)) ggX7_rocksLine_X7_cell
theorem dX7_rocksLine_0 : decode cX7_rocksLine 0 = .ok (.aload_n 0, 1) := by decide +kernel
theorem dX7_rocksLine_1 : decode cX7_rocksLine 1 = .ok (.invokevirtual 153, 3) := by decide +kernel
theorem dX7_rocksLine_4 : decode cX7_rocksLine 4 = .ok (.aload_n 0, 1) := by decide +kernel
theorem dX7_rocksLine_5 : decode cX7_rocksLine 5 = .ok (.iconst 1, 1) := by decide +kernel
theorem dX7_rocksLine_6 : decode cX7_rocksLine 6 = .ok (.aload_n 0, 1) := by decide +kernel
theorem dX7_rocksLine_7 : decode cX7_rocksLine 7 = .ok (.getfield 159, 3) := by decide +kernel
theorem dX7_rocksLine_10 : decode cX7_rocksLine 10 = .ok (.invokevirtual 162, 3) := by decide +kernel
theorem dX7_rocksLine_13 : decode cX7_rocksLine 13 = .ok (.ifCond .ne 5, 3) := by decide +kernel
theorem dX7_rocksLine_16 : decode cX7_rocksLine 16 = .ok (.iconst 0, 1) := by decide +kernel
theorem dX7_rocksLine_17 : decode cX7_rocksLine 17 = .ok (.ireturn, 1) := by decide +kernel
theorem dX7_rocksLine_18 : decode cX7_rocksLine 18 = .ok (.aload_n 0, 1) := by decide +kernel
theorem dX7_rocksLine_19 : decode cX7_rocksLine 19 = .ok (.getfield 147, 3) := by decide +kernel
theorem dX7_rocksLine_22 : decode cX7_rocksLine 22 = .ok (.istore_n 1, 1) := by decide +kernel
theorem dX7_rocksLine_23 : decode cX7_rocksLine 23 = .ok (.aload_n 0, 1) := by decide +kernel
theorem dX7_rocksLine_24 : decode cX7_rocksLine 24 = .ok (.iconst 0, 1) := by decide +kernel
theorem dX7_rocksLine_25 : decode cX7_rocksLine 25 = .ok (.aload_n 0, 1) := by decide +kernel
theorem dX7_rocksLine_26 : decode cX7_rocksLine 26 = .ok (.getfield 164, 3) := by decide +kernel
theorem dX7_rocksLine_29 : decode cX7_rocksLine 29 = .ok (.iconst 1, 1) := by decide +kernel
theorem dX7_rocksLine_30 : decode cX7_rocksLine 30 = .ok (.isub, 1) := by decide +kernel
theorem dX7_rocksLine_31 : decode cX7_rocksLine 31 = .ok (.invokevirtual 162, 3) := by decide +kernel
theorem dX7_rocksLine_34 : decode cX7_rocksLine 34 = .ok (.ifCond .ne 5, 3) := by decide +kernel
theorem dX7_rocksLine_37 : decode cX7_rocksLine 37 = .ok (.iconst 0, 1) := by decide +kernel
theorem dX7_rocksLine_38 : decode cX7_rocksLine 38 = .ok (.ireturn, 1) := by decide +kernel
theorem dX7_rocksLine_39 : decode cX7_rocksLine 39 = .ok (.aload_n 0, 1) := by decide +kernel
theorem dX7_rocksLine_40 : decode cX7_rocksLine 40 = .ok (.getfield 147, 3) := by decide +kernel
theorem dX7_rocksLine_43 : decode cX7_rocksLine 43 = .ok (.istore_n 2, 1) := by decide +kernel
theorem dX7_rocksLine_44 : decode cX7_rocksLine 44 = .ok (.aload_n 0, 1) := by decide +kernel
theorem dX7_rocksLine_45 : decode cX7_rocksLine 45 = .ok (.iconst 1, 1) := by decide +kernel
theorem dX7_rocksLine_46 : decode cX7_rocksLine 46 = .ok (.aload_n 0, 1) := by decide +kernel
theorem dX7_rocksLine_47 : decode cX7_rocksLine 47 = .ok (.getfield 164, 3) := by decide +kernel
theorem dX7_rocksLine_50 : decode cX7_rocksLine 50 = .ok (.invokevirtual 150, 3) := by decide +kernel
theorem dX7_rocksLine_53 : decode cX7_rocksLine 53 = .ok (.ifCond .ne 5, 3) := by decide +kernel
theorem dX7_rocksLine_56 : decode cX7_rocksLine 56 = .ok (.iconst 0, 1) := by decide +kernel
theorem dX7_rocksLine_57 : decode cX7_rocksLine 57 = .ok (.ireturn, 1) := by decide +kernel
theorem dX7_rocksLine_58 : decode cX7_rocksLine 58 = .ok (.iconst 0, 1) := by decide +kernel
theorem dX7_rocksLine_59 : decode cX7_rocksLine 59 = .ok (.istore_n 3, 1) := by decide +kernel
theorem dX7_rocksLine_60 : decode cX7_rocksLine 60 = .ok (.iload_n 3, 1) := by decide +kernel
theorem dX7_rocksLine_61 : decode cX7_rocksLine 61 = .ok (.aload_n 0, 1) := by decide +kernel
theorem dX7_rocksLine_62 : decode cX7_rocksLine 62 = .ok (.getfield 147, 3) := by decide +kernel
theorem dX7_rocksLine_65 : decode cX7_rocksLine 65 = .ok (.if_icmp .ge 35, 3) := by decide +kernel
theorem dX7_rocksLine_68 : decode cX7_rocksLine 68 = .ok (.aload_n 0, 1) := by decide +kernel
theorem dX7_rocksLine_69 : decode cX7_rocksLine 69 = .ok (.iload_n 1, 1) := by decide +kernel
theorem dX7_rocksLine_70 : decode cX7_rocksLine 70 = .ok (.iload_n 2, 1) := by decide +kernel
theorem dX7_rocksLine_71 : decode cX7_rocksLine 71 = .ok (.iload_n 3, 1) := by decide +kernel
theorem dX7_rocksLine_72 : decode cX7_rocksLine 72 = .ok (.iadd, 1) := by decide +kernel
theorem dX7_rocksLine_73 : decode cX7_rocksLine 73 = .ok (.aload_n 0, 1) := by decide +kernel
theorem dX7_rocksLine_74 : decode cX7_rocksLine 74 = .ok (.getfield 164, 3) := by decide +kernel
theorem dX7_rocksLine_77 : decode cX7_rocksLine 77 = .ok (.irem, 1) := by decide +kernel
theorem dX7_rocksLine_78 : decode cX7_rocksLine 78 = .ok (.invokevirtual 167, 3) := by decide +kernel
theorem dX7_rocksLine_81 : decode cX7_rocksLine 81 = .ok (.ifCond .eq 13, 3) := by decide +kernel
theorem dX7_rocksLine_84 : decode cX7_rocksLine 84 = .ok (.aload_n 0, 1) := by decide +kernel
theorem dX7_rocksLine_85 : decode cX7_rocksLine 85 = .ok (.iconst 3, 1) := by decide +kernel
theorem dX7_rocksLine_86 : decode cX7_rocksLine 86 = .ok (.aload_n 0, 1) := by decide +kernel
theorem dX7_rocksLine_87 : decode cX7_rocksLine 87 = .ok (.getfield 125, 3) := by decide +kernel
theorem dX7_rocksLine_90 : decode cX7_rocksLine 90 = .ok (.invokevirtual 144, 3) := by decide +kernel
theorem dX7_rocksLine_93 : decode cX7_rocksLine 93 = .ok (.ireturn, 1) := by decide +kernel
theorem dX7_rocksLine_94 : decode cX7_rocksLine 94 = .ok (.iinc 3 1, 3) := by decide +kernel
theorem dX7_rocksLine_97 : decode cX7_rocksLine 97 = .ok (.goto (-37), 3) := by decide +kernel
theorem dX7_rocksLine_100 : decode cX7_rocksLine 100 = .ok (.iconst 0, 1) := by decide +kernel
theorem dX7_rocksLine_101 : decode cX7_rocksLine 101 = .ok (.istore_n 3, 1) := by decide +kernel
theorem dX7_rocksLine_102 : decode cX7_rocksLine 102 = .ok (.iload_n 3, 1) := by decide +kernel
theorem dX7_rocksLine_103 : decode cX7_rocksLine 103 = .ok (.aload_n 0, 1) := by decide +kernel
theorem dX7_rocksLine_104 : decode cX7_rocksLine 104 = .ok (.getfield 147, 3) := by decide +kernel
theorem dX7_rocksLine_107 : decode cX7_rocksLine 107 = .ok (.if_icmp .ge 27, 3) := by decide +kernel
theorem dX7_rocksLine_110 : decode cX7_rocksLine 110 = .ok (.aload_n 0, 1) := by decide +kernel
theorem dX7_rocksLine_111 : decode cX7_rocksLine 111 = .ok (.getfield 34, 3) := by decide +kernel
theorem dX7_rocksLine_114 : decode cX7_rocksLine 114 = .ok (.iload_n 1, 1) := by decide +kernel
theorem dX7_rocksLine_115 : decode cX7_rocksLine 115 = .ok (.iload_n 2, 1) := by decide +kernel
theorem dX7_rocksLine_116 : decode cX7_rocksLine 116 = .ok (.iload_n 3, 1) := by decide +kernel
theorem dX7_rocksLine_117 : decode cX7_rocksLine 117 = .ok (.iadd, 1) := by decide +kernel
theorem dX7_rocksLine_118 : decode cX7_rocksLine 118 = .ok (.aload_n 0, 1) := by decide +kernel
theorem dX7_rocksLine_119 : decode cX7_rocksLine 119 = .ok (.getfield 164, 3) := by decide +kernel
theorem dX7_rocksLine_122 : decode cX7_rocksLine 122 = .ok (.irem, 1) := by decide +kernel
theorem dX7_rocksLine_123 : decode cX7_rocksLine 123 = .ok (.invokestatic 170, 3) := by decide +kernel
theorem dX7_rocksLine_126 : decode cX7_rocksLine 126 = .ok (.iconst 1, 1) := by decide +kernel
theorem dX7_rocksLine_127 : decode cX7_rocksLine 127 = .ok (.bastore, 1) := by decide +kernel
theorem dX7_rocksLine_128 : decode cX7_rocksLine 128 = .ok (.iinc 3 1, 3) := by decide +kernel
theorem dX7_rocksLine_131 : decode cX7_rocksLine 131 = .ok (.goto (-29), 3) := by decide +kernel
theorem dX7_rocksLine_134 : decode cX7_rocksLine 134 = .ok (.aload_n 0, 1) := by decide +kernel
theorem dX7_rocksLine_135 : decode cX7_rocksLine 135 = .ok (.invokevirtual 153, 3) := by decide +kernel
theorem dX7_rocksLine_138 : decode cX7_rocksLine 138 = .ok (.iconst 1, 1) := by decide +kernel
theorem dX7_rocksLine_139 : decode cX7_rocksLine 139 = .ok (.ireturn, 1) := by decide +kernel
set_option maxRecDepth 20000 in
theorem ggX7_setLine_X7_go : GoodIn wsX7_setLine wsX7_go := goodIn_r _ [7, 8, 9, 10, 11, 12, 13, 14, 6, 15, 16, 17, 18, 19, 20, 21, 22, 23, 24, 25, 26, 40, 41, 42, 43, 44, 45, 46, 47, 48, 49, 50, 51, 52, 53, 54, 55, 56, 57, 58, 59, 60, 61, 62, 63, 64, 65, 66, 67, 68, 69, 70, 71, 72, 73, 74] (by decide +kernel) (by decide +kernel)
set_option maxRecDepth 20000 in
theorem gX7_setLine_X7_go : GoodIn wsX7_setLine (wsV RX7 153 RX7 yX7_go wsX7_go) := goodIn_app (goodIn_of _ (by decide +kernel)) ggX7_setLine_X7_go
set_option maxRecDepth 20000 in
theorem ggX7_setLine_X7_number : GoodIn wsX7_setLine wsX7_number := goodIn_r _ [30, 31, 32, 33, 6, 34, 10, 9, 11, 2, 35, 36, 37, 38, 39, 21, 22, 23, 3, 4, 5, 7, 8, 12, 13, 14, 15, 16, 17, 18, 19, 20, 24, 25, 26, 40, 41, 42, 43, 44, 45, 46, 47, 48, 49, 50, 51, 52, 53, 54, 55, 56, 57, 58, 59, 60, 61, 62, 63, 64, 65, 66, 67, 68, 69, 70, 71, 72, 73, 74] (by decide +kernel) (by decide +kernel)
set_option maxRecDepth 20000 in
theorem gX7_setLine_X7_number : GoodIn wsX7_setLine (wsV RX7 162 RX7 yX7_number wsX7_number) := goodIn_app (goodIn_of _ (by decide +kernel)) ggX7_setLine_X7_number
theorem dX7_setLine_0 : decode cX7_setLine 0 = .ok (.aload_n 0, 1) := by decide +kernel
theorem dX7_setLine_1 : decode cX7_setLine 1 = .ok (.invokevirtual 153, 3) := by decide +kernel
theorem dX7_setLine_4 : decode cX7_setLine 4 = .ok (.aload_n 0, 1) := by decide +kernel
theorem dX7_setLine_5 : decode cX7_setLine 5 = .ok (.iload_n 1, 1) := by decide +kernel
theorem dX7_setLine_6 : decode cX7_setLine 6 = .ok (.ifCond .ne 7, 3) := by decide +kernel
theorem dX7_setLine_9 : decode cX7_setLine 9 = .ok (.iconst 1, 1) := by decide +kernel
theorem dX7_setLine_10 : decode cX7_setLine 10 = .ok (.goto 4, 3) := by decide +kernel
theorem dX7_setLine_13 : decode cX7_setLine 13 = .ok (.iconst 0, 1) := by decide +kernel
theorem dX7_setLine_14 : decode cX7_setLine 14 = .ok (.iload_n 1, 1) := by decide +kernel
theorem dX7_setLine_15 : decode cX7_setLine 15 = .ok (.ifCond .ne 8, 3) := by decide +kernel
theorem dX7_setLine_18 : decode cX7_setLine 18 = .ok (.bipush 99, 2) := by decide +kernel
theorem dX7_setLine_20 : decode cX7_setLine 20 = .ok (.goto 15, 3) := by decide +kernel
theorem dX7_setLine_23 : decode cX7_setLine 23 = .ok (.iload_n 1, 1) := by decide +kernel
theorem dX7_setLine_24 : decode cX7_setLine 24 = .ok (.iconst 1, 1) := by decide +kernel
theorem dX7_setLine_25 : decode cX7_setLine 25 = .ok (.if_icmp .ne 8, 3) := by decide +kernel
theorem dX7_setLine_28 : decode cX7_setLine 28 = .ok (.bipush 40, 2) := by decide +kernel
theorem dX7_setLine_30 : decode cX7_setLine 30 = .ok (.goto 5, 3) := by decide +kernel
theorem dX7_setLine_33 : decode cX7_setLine 33 = .ok (.bipush 6, 2) := by decide +kernel
theorem dX7_setLine_35 : decode cX7_setLine 35 = .ok (.invokevirtual 162, 3) := by decide +kernel
theorem dX7_setLine_38 : decode cX7_setLine 38 = .ok (.istore_n 2, 1) := by decide +kernel
theorem dX7_setLine_39 : decode cX7_setLine 39 = .ok (.aload_n 0, 1) := by decide +kernel
theorem dX7_setLine_40 : decode cX7_setLine 40 = .ok (.getfield 37, 3) := by decide +kernel
theorem dX7_setLine_43 : decode cX7_setLine 43 = .ok (.iload_n 1, 1) := by decide +kernel
theorem dX7_setLine_44 : decode cX7_setLine 44 = .ok (.iload_n 2, 1) := by decide +kernel
theorem dX7_setLine_45 : decode cX7_setLine 45 = .ok (.ifCond .eq 10, 3) := by decide +kernel
theorem dX7_setLine_48 : decode cX7_setLine 48 = .ok (.aload_n 0, 1) := by decide +kernel
theorem dX7_setLine_49 : decode cX7_setLine 49 = .ok (.getfield 147, 3) := by decide +kernel
theorem dX7_setLine_52 : decode cX7_setLine 52 = .ok (.goto 9, 3) := by decide +kernel
theorem dX7_setLine_55 : decode cX7_setLine 55 = .ok (.aload_n 0, 1) := by decide +kernel
theorem dX7_setLine_56 : decode cX7_setLine 56 = .ok (.getfield 37, 3) := by decide +kernel
theorem dX7_setLine_59 : decode cX7_setLine 59 = .ok (.iload_n 1, 1) := by decide +kernel
theorem dX7_setLine_60 : decode cX7_setLine 60 = .ok (.iaload, 1) := by decide +kernel
theorem dX7_setLine_61 : decode cX7_setLine 61 = .ok (.iastore, 1) := by decide +kernel
theorem dX7_setLine_62 : decode cX7_setLine 62 = .ok (.iload_n 2, 1) := by decide +kernel
theorem dX7_setLine_63 : decode cX7_setLine 63 = .ok (.ireturn, 1) := by decide +kernel
set_option maxRecDepth 20000 in
theorem ggX7_line_X7_isWord : GoodIn wsX7_line wsX7_isWord := goodIn_r _ [6, 7, 8, 9, 1, 10, 11, 12, 5, 13, 14, 15, 69, 70, 71, 72, 73, 74, 75, 76, 77, 78, 79, 80, 81, 82, 83, 84, 85, 86, 87, 88, 89, 90, 91, 92, 93, 94, 95, 96, 97, 98, 99, 100, 101, 102, 103] (by decide +kernel) (by decide +kernel)
set_option maxRecDepth 20000 in
theorem gX7_line_X7_isWord : GoodIn wsX7_line (wsV RX7 173 RX7 yX7_isWord wsX7_isWord) := goodIn_app (goodIn_of _ (by decide +kernel)) ggX7_line_X7_isWord
set_option maxRecDepth 20000 in
theorem ggX7_line_X7_placeLine : GoodIn wsX7_line wsX7_placeLine := goodIn_r _ [19, 20, 1, 21, 22, 23, 24, 25, 26, 27, 28, 5, 29, 30, 31, 32, 33, 34, 9, 8, 35, 10, 11, 12, 13, 14, 15, 36, 37, 38, 39, 40, 41, 42, 43, 44, 45, 46, 47, 48, 49, 50, 51, 52, 53, 54, 55, 56, 57, 58, 59, 69, 70, 71, 72, 73, 74, 75, 76, 77, 78, 79, 80, 81, 82, 83, 84, 85, 86, 87, 88, 89, 90, 91, 92, 93, 94, 95, 96, 97, 98, 99, 100, 101, 102, 103] (by decide +kernel) (by decide +kernel)
set_option maxRecDepth 20000 in
theorem gX7_line_X7_placeLine : GoodIn wsX7_line (wsV RX7 177 RX7 yX7_placeLine wsX7_placeLine) := goodIn_app (goodIn_of _ (by decide +kernel)) ggX7_line_X7_placeLine
set_option maxRecDepth 20000 in
theorem ggX7_line_X7_rocksLine : GoodIn wsX7_line wsX7_rocksLine := goodIn_r _ [63, 21, 22, 23, 1, 24, 31, 32, 33, 5, 34, 9, 8, 35, 10, 11, 12, 13, 14, 15, 36, 37, 38, 39, 40, 41, 42, 43, 44, 45, 46, 47, 48, 49, 50, 51, 52, 26, 27, 28, 29, 30, 53, 54, 55, 56, 20, 25, 57, 58, 59, 69, 70, 71, 72, 73, 74, 75, 76, 77, 78, 79, 80, 81, 82, 83, 84, 85, 86, 87, 88, 89, 90, 91, 92, 93, 94, 95, 96, 97, 98, 99, 100, 101, 102, 103] (by decide +kernel) (by decide +kernel)
set_option maxRecDepth 20000 in
theorem gX7_line_X7_rocksLine : GoodIn wsX7_line (wsV RX7 181 RX7 yX7_rocksLine wsX7_rocksLine) := goodIn_app (goodIn_of _ (by decide +kernel)) ggX7_line_X7_rocksLine
set_option maxRecDepth 20000 in
theorem ggX7_line_X7_setLine : GoodIn wsX7_line wsX7_setLine := goodIn_r _ [67, 68, 22, 31, 32, 33, 5, 34, 9, 1, 8, 35, 10, 11, 12, 13, 14, 15, 36, 37, 38, 39, 40, 41, 42, 43, 44, 45, 46, 47, 48, 49, 50, 51, 52, 26, 27, 28, 29, 30, 69, 70, 71, 72, 73, 74, 75, 76, 77, 78, 79, 80, 81, 82, 83, 84, 85, 86, 87, 88, 89, 90, 91, 92, 93, 94, 95, 96, 97, 98, 99, 100, 101, 102, 103] (by decide +kernel) (by decide +kernel)
set_option maxRecDepth 20000 in
theorem gX7_line_X7_setLine : GoodIn wsX7_line (wsV RX7 184 RX7 yX7_setLine wsX7_setLine) := goodIn_app (goodIn_of _ (by decide +kernel)) ggX7_line_X7_setLine
set_option maxRecDepth 20000 in
theorem ggX7_line_X7_bad : GoodIn wsX7_line wsX7_bad := goodIn_r _ [29, 30, 69, 70, 71, 72, 73, 74, 75, 76, 77, 78, 79, 80, 81, 82, 83, 84, 85, 86, 87, 88, 89, 90, 91, 92, 93, 94, 95, 96, 97, 98, 99, 100, 101, 102, 103] (by decide +kernel) (by decide +kernel)
set_option maxRecDepth 20000 in
theorem gX7_line_X7_bad : GoodIn wsX7_line (wsV RX7 144 RX7 yX7_bad wsX7_bad) := goodIn_app (goodIn_of _ (by decide +kernel)) ggX7_line_X7_bad
theorem dX7_line_0 : decode cX7_line 0 = .ok (.aload_n 0, 1) := by decide +kernel
theorem dX7_line_1 : decode cX7_line 1 = .ok (.bipush 112, 2) := by decide +kernel
theorem dX7_line_3 : decode cX7_line 3 = .ok (.bipush 108, 2) := by decide +kernel
theorem dX7_line_5 : decode cX7_line 5 = .ok (.bipush 97, 2) := by decide +kernel
theorem dX7_line_7 : decode cX7_line 7 = .ok (.bipush 99, 2) := by decide +kernel
theorem dX7_line_9 : decode cX7_line 9 = .ok (.bipush 101, 2) := by decide +kernel
theorem dX7_line_11 : decode cX7_line 11 = .ok (.invokevirtual 173, 3) := by decide +kernel
theorem dX7_line_14 : decode cX7_line 14 = .ok (.ifCond .eq 8, 3) := by decide +kernel
theorem dX7_line_17 : decode cX7_line 17 = .ok (.aload_n 0, 1) := by decide +kernel
theorem dX7_line_18 : decode cX7_line 18 = .ok (.invokevirtual 177, 3) := by decide +kernel
theorem dX7_line_21 : decode cX7_line 21 = .ok (.ireturn, 1) := by decide +kernel
theorem dX7_line_22 : decode cX7_line 22 = .ok (.aload_n 0, 1) := by decide +kernel
theorem dX7_line_23 : decode cX7_line 23 = .ok (.bipush 114, 2) := by decide +kernel
theorem dX7_line_25 : decode cX7_line 25 = .ok (.bipush 111, 2) := by decide +kernel
theorem dX7_line_27 : decode cX7_line 27 = .ok (.bipush 99, 2) := by decide +kernel
theorem dX7_line_29 : decode cX7_line 29 = .ok (.bipush 107, 2) := by decide +kernel
theorem dX7_line_31 : decode cX7_line 31 = .ok (.bipush 115, 2) := by decide +kernel
theorem dX7_line_33 : decode cX7_line 33 = .ok (.invokevirtual 173, 3) := by decide +kernel
theorem dX7_line_36 : decode cX7_line 36 = .ok (.ifCond .eq 8, 3) := by decide +kernel
theorem dX7_line_39 : decode cX7_line 39 = .ok (.aload_n 0, 1) := by decide +kernel
theorem dX7_line_40 : decode cX7_line 40 = .ok (.invokevirtual 181, 3) := by decide +kernel
theorem dX7_line_43 : decode cX7_line 43 = .ok (.ireturn, 1) := by decide +kernel
theorem dX7_line_44 : decode cX7_line 44 = .ok (.aload_n 0, 1) := by decide +kernel
theorem dX7_line_45 : decode cX7_line 45 = .ok (.bipush 98, 2) := by decide +kernel
theorem dX7_line_47 : decode cX7_line 47 = .ok (.bipush 97, 2) := by decide +kernel
theorem dX7_line_49 : decode cX7_line 49 = .ok (.bipush 115, 2) := by decide +kernel
theorem dX7_line_51 : decode cX7_line 51 = .ok (.bipush 101, 2) := by decide +kernel
theorem dX7_line_53 : decode cX7_line 53 = .ok (.iconst 0, 1) := by decide +kernel
theorem dX7_line_54 : decode cX7_line 54 = .ok (.invokevirtual 173, 3) := by decide +kernel
theorem dX7_line_57 : decode cX7_line 57 = .ok (.ifCond .eq 9, 3) := by decide +kernel
theorem dX7_line_60 : decode cX7_line 60 = .ok (.aload_n 0, 1) := by decide +kernel
theorem dX7_line_61 : decode cX7_line 61 = .ok (.iconst 0, 1) := by decide +kernel
theorem dX7_line_62 : decode cX7_line 62 = .ok (.invokevirtual 184, 3) := by decide +kernel
theorem dX7_line_65 : decode cX7_line 65 = .ok (.ireturn, 1) := by decide +kernel
theorem dX7_line_66 : decode cX7_line 66 = .ok (.aload_n 0, 1) := by decide +kernel
theorem dX7_line_67 : decode cX7_line 67 = .ok (.bipush 98, 2) := by decide +kernel
theorem dX7_line_69 : decode cX7_line 69 = .ok (.bipush 101, 2) := by decide +kernel
theorem dX7_line_71 : decode cX7_line 71 = .ok (.bipush 110, 2) := by decide +kernel
theorem dX7_line_73 : decode cX7_line 73 = .ok (.bipush 100, 2) := by decide +kernel
theorem dX7_line_75 : decode cX7_line 75 = .ok (.iconst 0, 1) := by decide +kernel
theorem dX7_line_76 : decode cX7_line 76 = .ok (.invokevirtual 173, 3) := by decide +kernel
theorem dX7_line_79 : decode cX7_line 79 = .ok (.ifCond .eq 9, 3) := by decide +kernel
theorem dX7_line_82 : decode cX7_line 82 = .ok (.aload_n 0, 1) := by decide +kernel
theorem dX7_line_83 : decode cX7_line 83 = .ok (.iconst 1, 1) := by decide +kernel
theorem dX7_line_84 : decode cX7_line 84 = .ok (.invokevirtual 184, 3) := by decide +kernel
theorem dX7_line_87 : decode cX7_line 87 = .ok (.ireturn, 1) := by decide +kernel
theorem dX7_line_88 : decode cX7_line 88 = .ok (.aload_n 0, 1) := by decide +kernel
theorem dX7_line_89 : decode cX7_line 89 = .ok (.bipush 114, 2) := by decide +kernel
theorem dX7_line_91 : decode cX7_line 91 = .ok (.bipush 101, 2) := by decide +kernel
theorem dX7_line_93 : decode cX7_line 93 = .ok (.bipush 97, 2) := by decide +kernel
theorem dX7_line_95 : decode cX7_line 95 = .ok (.bipush 99, 2) := by decide +kernel
theorem dX7_line_97 : decode cX7_line 97 = .ok (.bipush 104, 2) := by decide +kernel
theorem dX7_line_99 : decode cX7_line 99 = .ok (.invokevirtual 173, 3) := by decide +kernel
theorem dX7_line_102 : decode cX7_line 102 = .ok (.ifCond .eq 11, 3) := by decide +kernel
theorem dX7_line_105 : decode cX7_line 105 = .ok (.aload_n 0, 1) := by decide +kernel
theorem dX7_line_106 : decode cX7_line 106 = .ok (.iconst 2, 1) := by decide +kernel
theorem dX7_line_107 : decode cX7_line 107 = .ok (.invokevirtual 184, 3) := by decide +kernel
theorem dX7_line_110 : decode cX7_line 110 = .ok (.goto 12, 3) := by decide +kernel
theorem dX7_line_113 : decode cX7_line 113 = .ok (.aload_n 0, 1) := by decide +kernel
theorem dX7_line_114 : decode cX7_line 114 = .ok (.iconst 1, 1) := by decide +kernel
theorem dX7_line_115 : decode cX7_line 115 = .ok (.aload_n 0, 1) := by decide +kernel
theorem dX7_line_116 : decode cX7_line 116 = .ok (.getfield 125, 3) := by decide +kernel
theorem dX7_line_119 : decode cX7_line 119 = .ok (.invokevirtual 144, 3) := by decide +kernel
theorem dX7_line_122 : decode cX7_line 122 = .ok (.ireturn, 1) := by decide +kernel
set_option maxRecDepth 20000 in
theorem ggX7_reads_X7_isWord : GoodIn wsX7_reads wsX7_isWord := goodIn_r _ [10, 11, 5, 12, 1, 13, 14, 15, 9, 16, 17, 18, 73, 74, 75, 76, 77, 78, 79, 80, 81, 82, 83, 84, 85, 86, 87, 88, 89, 90, 91, 92, 93, 94, 95, 96, 97, 98, 99, 100, 101, 102, 103, 104, 105, 106, 107] (by decide +kernel) (by decide +kernel)
set_option maxRecDepth 20000 in
theorem gX7_reads_X7_isWord : GoodIn wsX7_reads (wsV RX7 173 RX7 yX7_isWord wsX7_isWord) := goodIn_app (goodIn_of _ (by decide +kernel)) ggX7_reads_X7_isWord
set_option maxRecDepth 20000 in
theorem ggX7_reads_X7_bad : GoodIn wsX7_reads wsX7_bad := goodIn_r _ [22, 23, 73, 74, 75, 76, 77, 78, 79, 80, 81, 82, 83, 84, 85, 86, 87, 88, 89, 90, 91, 92, 93, 94, 95, 96, 97, 98, 99, 100, 101, 102, 103, 104, 105, 106, 107] (by decide +kernel) (by decide +kernel)
set_option maxRecDepth 20000 in
theorem gX7_reads_X7_bad : GoodIn wsX7_reads (wsV RX7 144 RX7 yX7_bad wsX7_bad) := goodIn_app (goodIn_of _ (by decide +kernel)) ggX7_reads_X7_bad
set_option maxRecDepth 20000 in
theorem ggX7_reads_X7_go : GoodIn wsX7_reads wsX7_go := goodIn_r _ [27, 12, 1, 5, 28, 13, 14, 15, 9, 16, 17, 18, 29, 30, 31, 32, 33, 34, 35, 36, 37, 73, 74, 75, 76, 77, 78, 79, 80, 81, 82, 83, 84, 85, 86, 87, 88, 89, 90, 91, 92, 93, 94, 95, 96, 97, 98, 99, 100, 101, 102, 103, 104, 105, 106, 107] (by decide +kernel) (by decide +kernel)
set_option maxRecDepth 20000 in
theorem gX7_reads_X7_go : GoodIn wsX7_reads (wsV RX7 153 RX7 yX7_go wsX7_go) := goodIn_app (goodIn_of _ (by decide +kernel)) ggX7_reads_X7_go
set_option maxRecDepth 20000 in
theorem ggX7_reads_X7_number : GoodIn wsX7_reads wsX7_number := goodIn_r _ [41, 42, 43, 44, 9, 45, 5, 1, 28, 2, 19, 20, 21, 22, 23, 32, 33, 34, 24, 25, 26, 27, 12, 13, 14, 15, 16, 17, 18, 29, 30, 31, 35, 36, 37, 73, 74, 75, 76, 77, 78, 79, 80, 81, 82, 83, 84, 85, 86, 87, 88, 89, 90, 91, 92, 93, 94, 95, 96, 97, 98, 99, 100, 101, 102, 103, 104, 105, 106, 107] (by decide +kernel) (by decide +kernel)
set_option maxRecDepth 20000 in
theorem gX7_reads_X7_number : GoodIn wsX7_reads (wsV RX7 162 RX7 yX7_number wsX7_number) := goodIn_app (goodIn_of _ (by decide +kernel)) ggX7_reads_X7_number
set_option maxRecDepth 20000 in
theorem ggX7_reads_X7_line : GoodIn wsX7_reads wsX7_line := goodIn_r _ [49, 1, 6, 7, 8, 9, 10, 11, 5, 12, 13, 14, 15, 16, 17, 18, 50, 51, 52, 53, 54, 3, 2, 4, 55, 56, 19, 20, 21, 22, 23, 24, 25, 26, 27, 28, 29, 30, 31, 32, 33, 34, 35, 36, 37, 38, 39, 40, 41, 42, 43, 44, 45, 57, 58, 59, 60, 61, 62, 63, 64, 65, 66, 67, 68, 69, 70, 71, 72, 73, 74, 75, 76, 77, 78, 79, 80, 81, 82, 83, 84, 85, 86, 87, 88, 89, 90, 91, 92, 93, 94, 95, 96, 97, 98, 99, 100, 101, 102, 103, 104, 105, 106, 107] (by decide +kernel) (by decide +kernel)
set_option maxRecDepth 20000 in
theorem gX7_reads_X7_line : GoodIn wsX7_reads (wsV RX7 187 RX7 yX7_line wsX7_line) := goodIn_app (goodIn_of _ (by decide +kernel)) ggX7_reads_X7_line
theorem dX7_reads_0 : decode cX7_reads 0 = .ok (.aload_n 0, 1) := by decide +kernel
theorem dX7_reads_1 : decode cX7_reads 1 = .ok (.bipush 99, 2) := by decide +kernel
theorem dX7_reads_3 : decode cX7_reads 3 = .ok (.bipush 104, 2) := by decide +kernel
theorem dX7_reads_5 : decode cX7_reads 5 = .ok (.bipush 97, 2) := by decide +kernel
theorem dX7_reads_7 : decode cX7_reads 7 = .ok (.bipush 114, 2) := by decide +kernel
theorem dX7_reads_9 : decode cX7_reads 9 = .ok (.bipush 116, 2) := by decide +kernel
theorem dX7_reads_11 : decode cX7_reads 11 = .ok (.invokevirtual 173, 3) := by decide +kernel
theorem dX7_reads_14 : decode cX7_reads 14 = .ok (.ifCond .ne 13, 3) := by decide +kernel
theorem dX7_reads_17 : decode cX7_reads 17 = .ok (.aload_n 0, 1) := by decide +kernel
theorem dX7_reads_18 : decode cX7_reads 18 = .ok (.iconst 1, 1) := by decide +kernel
theorem dX7_reads_19 : decode cX7_reads 19 = .ok (.aload_n 0, 1) := by decide +kernel
theorem dX7_reads_20 : decode cX7_reads 20 = .ok (.getfield 125, 3) := by decide +kernel
theorem dX7_reads_23 : decode cX7_reads 23 = .ok (.invokevirtual 144, 3) := by decide +kernel
theorem dX7_reads_26 : decode cX7_reads 26 = .ok (.ireturn, 1) := by decide +kernel
theorem dX7_reads_27 : decode cX7_reads 27 = .ok (.aload_n 0, 1) := by decide +kernel
theorem dX7_reads_28 : decode cX7_reads 28 = .ok (.invokevirtual 153, 3) := by decide +kernel
theorem dX7_reads_31 : decode cX7_reads 31 = .ok (.aload_n 0, 1) := by decide +kernel
theorem dX7_reads_32 : decode cX7_reads 32 = .ok (.iconst 2, 1) := by decide +kernel
theorem dX7_reads_33 : decode cX7_reads 33 = .ok (.bipush 9, 2) := by decide +kernel
theorem dX7_reads_35 : decode cX7_reads 35 = .ok (.invokevirtual 162, 3) := by decide +kernel
theorem dX7_reads_38 : decode cX7_reads 38 = .ok (.ifCond .ne 5, 3) := by decide +kernel
theorem dX7_reads_41 : decode cX7_reads 41 = .ok (.iconst 0, 1) := by decide +kernel
theorem dX7_reads_42 : decode cX7_reads 42 = .ok (.ireturn, 1) := by decide +kernel
theorem dX7_reads_43 : decode cX7_reads 43 = .ok (.aload_n 0, 1) := by decide +kernel
theorem dX7_reads_44 : decode cX7_reads 44 = .ok (.aload_n 0, 1) := by decide +kernel
theorem dX7_reads_45 : decode cX7_reads 45 = .ok (.getfield 147, 3) := by decide +kernel
theorem dX7_reads_48 : decode cX7_reads 48 = .ok (.putfield 159, 3) := by decide +kernel
theorem dX7_reads_51 : decode cX7_reads 51 = .ok (.aload_n 0, 1) := by decide +kernel
theorem dX7_reads_52 : decode cX7_reads 52 = .ok (.bipush 6, 2) := by decide +kernel
theorem dX7_reads_54 : decode cX7_reads 54 = .ok (.bipush 24, 2) := by decide +kernel
theorem dX7_reads_56 : decode cX7_reads 56 = .ok (.invokevirtual 162, 3) := by decide +kernel
theorem dX7_reads_59 : decode cX7_reads 59 = .ok (.ifCond .ne 5, 3) := by decide +kernel
theorem dX7_reads_62 : decode cX7_reads 62 = .ok (.iconst 0, 1) := by decide +kernel
theorem dX7_reads_63 : decode cX7_reads 63 = .ok (.ireturn, 1) := by decide +kernel
theorem dX7_reads_64 : decode cX7_reads 64 = .ok (.aload_n 0, 1) := by decide +kernel
theorem dX7_reads_65 : decode cX7_reads 65 = .ok (.aload_n 0, 1) := by decide +kernel
theorem dX7_reads_66 : decode cX7_reads 66 = .ok (.getfield 147, 3) := by decide +kernel
theorem dX7_reads_69 : decode cX7_reads 69 = .ok (.putfield 164, 3) := by decide +kernel
theorem dX7_reads_72 : decode cX7_reads 72 = .ok (.aload_n 0, 1) := by decide +kernel
theorem dX7_reads_73 : decode cX7_reads 73 = .ok (.getfield 128, 3) := by decide +kernel
theorem dX7_reads_76 : decode cX7_reads 76 = .ok (.iconst 3, 1) := by decide +kernel
theorem dX7_reads_77 : decode cX7_reads 77 = .ok (.if_icmp .ne 16, 3) := by decide +kernel
theorem dX7_reads_80 : decode cX7_reads 80 = .ok (.aload_n 0, 1) := by decide +kernel
theorem dX7_reads_81 : decode cX7_reads 81 = .ok (.invokevirtual 153, 3) := by decide +kernel
theorem dX7_reads_84 : decode cX7_reads 84 = .ok (.aload_n 0, 1) := by decide +kernel
theorem dX7_reads_85 : decode cX7_reads 85 = .ok (.invokevirtual 187, 3) := by decide +kernel
theorem dX7_reads_88 : decode cX7_reads 88 = .ok (.ifCond .ne (-16), 3) := by decide +kernel
theorem dX7_reads_91 : decode cX7_reads 91 = .ok (.iconst 0, 1) := by decide +kernel
theorem dX7_reads_92 : decode cX7_reads 92 = .ok (.ireturn, 1) := by decide +kernel
theorem dX7_reads_93 : decode cX7_reads 93 = .ok (.aload_n 0, 1) := by decide +kernel
theorem dX7_reads_94 : decode cX7_reads 94 = .ok (.getfield 128, 3) := by decide +kernel
theorem dX7_reads_97 : decode cX7_reads 97 = .ok (.ifCond .eq 15, 3) := by decide +kernel
theorem dX7_reads_100 : decode cX7_reads 100 = .ok (.aload_n 0, 1) := by decide +kernel
theorem dX7_reads_101 : decode cX7_reads 101 = .ok (.iconst 1, 1) := by decide +kernel
theorem dX7_reads_102 : decode cX7_reads 102 = .ok (.aload_n 0, 1) := by decide +kernel
theorem dX7_reads_103 : decode cX7_reads 103 = .ok (.getfield 125, 3) := by decide +kernel
theorem dX7_reads_106 : decode cX7_reads 106 = .ok (.invokevirtual 144, 3) := by decide +kernel
theorem dX7_reads_109 : decode cX7_reads 109 = .ok (.ifCond .eq 7, 3) := by decide +kernel
theorem dX7_reads_112 : decode cX7_reads 112 = .ok (.iconst 1, 1) := by decide +kernel
theorem dX7_reads_113 : decode cX7_reads 113 = .ok (.goto 4, 3) := by decide +kernel
theorem dX7_reads_116 : decode cX7_reads 116 = .ok (.iconst 0, 1) := by decide +kernel
theorem dX7_reads_117 : decode cX7_reads 117 = .ok (.ireturn, 1) := by decide +kernel
set_option maxRecDepth 20000 in
theorem ggX7_text_X7_within : GoodIn wsX7_text wsX7_within := goodIn_r _ [20] (by decide +kernel) (by decide +kernel)
set_option maxRecDepth 20000 in
theorem gX7_text_X7_within : GoodIn wsX7_text (va_wsS RX7 92 yX7_within wsX7_within) := goodIn_app (goodIn_of _ (by decide +kernel)) ggX7_text_X7_within
set_option maxRecDepth 20000 in
theorem ggX7_text_X7_go : GoodIn wsX7_text wsX7_go := goodIn_r _ [24, 4, 25, 26, 27, 28, 29, 30, 19, 31, 3, 32, 33, 34, 35, 17, 18, 20, 36, 37, 38, 101, 102, 103, 104, 105, 106, 107, 108, 109, 110, 111, 112, 113, 114, 115, 116, 117, 118, 119, 120, 121, 122, 123, 124, 125, 126, 127, 128, 129, 130, 131, 132, 133, 134, 135] (by decide +kernel) (by decide +kernel)
set_option maxRecDepth 20000 in
theorem gX7_text_X7_go : GoodIn wsX7_text (wsV RX7 153 RX7 yX7_go wsX7_go) := goodIn_app (goodIn_of _ (by decide +kernel)) ggX7_text_X7_go
set_option maxRecDepth 20000 in
theorem ggX7_text_X7_reads : GoodIn wsX7_text wsX7_reads := goodIn_r _ [42, 25, 43, 9, 10, 26, 44, 45, 46, 19, 47, 48, 4, 28, 29, 30, 31, 3, 32, 49, 50, 51, 52, 5, 21, 22, 23, 24, 27, 33, 34, 35, 17, 18, 20, 36, 37, 38, 53, 54, 55, 56, 57, 58, 59, 60, 61, 62, 63, 64, 65, 66, 67, 68, 6, 8, 11, 69, 70, 71, 72, 73, 74, 75, 76, 77, 78, 79, 80, 81, 82, 83, 7, 101, 102, 103, 104, 105, 106, 107, 108, 109, 110, 111, 112, 113, 114, 115, 116, 117, 118, 119, 120, 121, 122, 123, 124, 125, 126, 127, 128, 129, 130, 131, 132, 133, 134, 135] (by decide +kernel) (by decide +kernel)
set_option maxRecDepth 20000 in
theorem gX7_text_X7_reads : GoodIn wsX7_text (wsV RX7 190 RX7 yX7_reads wsX7_reads) := goodIn_app (goodIn_of _ (by decide +kernel)) ggX7_text_X7_reads
set_option maxRecDepth 20000 in
theorem ggX7_text_X7_begins : GoodIn wsX7_text wsX7_begins := goodIn_r _ [87, 88, 89, 16, 12, 101, 102, 103, 104, 105, 106, 107, 108, 109, 110, 111, 112, 113, 114, 115, 116, 117, 118, 119, 120, 121, 122, 123, 124, 125, 126, 127, 128, 129, 130, 131, 132, 133, 134, 135] (by decide +kernel) (by decide +kernel)
set_option maxRecDepth 20000 in
theorem gX7_text_X7_begins : GoodIn wsX7_text (wsV RX7 67 RX7 yX7_begins wsX7_begins) := goodIn_app (goodIn_of _ (by decide +kernel)) ggX7_text_X7_begins
set_option maxRecDepth 20000 in
theorem ggX7_text_X7_adds : GoodIn wsX7_text wsX7_adds := goodIn_r _ [93, 16, 94, 95, 96, 97, 98, 99, 19, 100, 101, 102, 103, 104, 105, 106, 107, 108, 109, 110, 111, 112, 113, 114, 115, 116, 117, 118, 119, 120, 121, 122, 123, 124, 125, 126, 127, 128, 129, 130, 131, 132, 133, 134, 135] (by decide +kernel) (by decide +kernel)
set_option maxRecDepth 20000 in
theorem gX7_text_X7_adds : GoodIn wsX7_text (wsV RX7 193 RX7 yX7_adds wsX7_adds) := goodIn_app (goodIn_of _ (by decide +kernel)) ggX7_text_X7_adds
theorem dX7_text_0 : decode cX7_text 0 = .ok (.aload_n 0, 1) := by decide +kernel
theorem dX7_text_1 : decode cX7_text 1 = .ok (.iconst 0, 1) := by decide +kernel
theorem dX7_text_2 : decode cX7_text 2 = .ok (.putfield 1, 3) := by decide +kernel
theorem dX7_text_5 : decode cX7_text 5 = .ok (.iload_n 1, 1) := by decide +kernel
theorem dX7_text_6 : decode cX7_text 6 = .ok (.iconst 0, 1) := by decide +kernel
theorem dX7_text_7 : decode cX7_text 7 = .ok (.aload_n 0, 1) := by decide +kernel
theorem dX7_text_8 : decode cX7_text 8 = .ok (.getfield 108, 3) := by decide +kernel
theorem dX7_text_11 : decode cX7_text 11 = .ok (.invokestatic 92, 3) := by decide +kernel
theorem dX7_text_14 : decode cX7_text 14 = .ok (.ifCond .ne 5, 3) := by decide +kernel
theorem dX7_text_17 : decode cX7_text 17 = .ok (.iconst (-1), 1) := by decide +kernel
theorem dX7_text_18 : decode cX7_text 18 = .ok (.ireturn, 1) := by decide +kernel
theorem dX7_text_19 : decode cX7_text 19 = .ok (.aload_n 0, 1) := by decide +kernel
theorem dX7_text_20 : decode cX7_text 20 = .ok (.iload_n 1, 1) := by decide +kernel
theorem dX7_text_21 : decode cX7_text 21 = .ok (.putfield 115, 3) := by decide +kernel
theorem dX7_text_24 : decode cX7_text 24 = .ok (.aload_n 0, 1) := by decide +kernel
theorem dX7_text_25 : decode cX7_text 25 = .ok (.iconst 0, 1) := by decide +kernel
theorem dX7_text_26 : decode cX7_text 26 = .ok (.putfield 108, 3) := by decide +kernel
theorem dX7_text_29 : decode cX7_text 29 = .ok (.aload_n 0, 1) := by decide +kernel
theorem dX7_text_30 : decode cX7_text 30 = .ok (.iconst 0, 1) := by decide +kernel
theorem dX7_text_31 : decode cX7_text 31 = .ok (.putfield 118, 3) := by decide +kernel
theorem dX7_text_34 : decode cX7_text 34 = .ok (.aload_n 0, 1) := by decide +kernel
theorem dX7_text_35 : decode cX7_text 35 = .ok (.iconst 0, 1) := by decide +kernel
theorem dX7_text_36 : decode cX7_text 36 = .ok (.putfield 141, 3) := by decide +kernel
theorem dX7_text_39 : decode cX7_text 39 = .ok (.aload_n 0, 1) := by decide +kernel
theorem dX7_text_40 : decode cX7_text 40 = .ok (.iconst 0, 1) := by decide +kernel
theorem dX7_text_41 : decode cX7_text 41 = .ok (.putfield 156, 3) := by decide +kernel
theorem dX7_text_44 : decode cX7_text 44 = .ok (.aload_n 0, 1) := by decide +kernel
theorem dX7_text_45 : decode cX7_text 45 = .ok (.getfield 37, 3) := by decide +kernel
theorem dX7_text_48 : decode cX7_text 48 = .ok (.iconst 0, 1) := by decide +kernel
theorem dX7_text_49 : decode cX7_text 49 = .ok (.bipush 10, 2) := by decide +kernel
theorem dX7_text_51 : decode cX7_text 51 = .ok (.iastore, 1) := by decide +kernel
theorem dX7_text_52 : decode cX7_text 52 = .ok (.aload_n 0, 1) := by decide +kernel
theorem dX7_text_53 : decode cX7_text 53 = .ok (.getfield 37, 3) := by decide +kernel
theorem dX7_text_56 : decode cX7_text 56 = .ok (.iconst 1, 1) := by decide +kernel
theorem dX7_text_57 : decode cX7_text 57 = .ok (.iconst 4, 1) := by decide +kernel
theorem dX7_text_58 : decode cX7_text 58 = .ok (.iastore, 1) := by decide +kernel
theorem dX7_text_59 : decode cX7_text 59 = .ok (.aload_n 0, 1) := by decide +kernel
theorem dX7_text_60 : decode cX7_text 60 = .ok (.getfield 37, 3) := by decide +kernel
theorem dX7_text_63 : decode cX7_text 63 = .ok (.iconst 2, 1) := by decide +kernel
theorem dX7_text_64 : decode cX7_text 64 = .ok (.iconst 3, 1) := by decide +kernel
theorem dX7_text_65 : decode cX7_text 65 = .ok (.iastore, 1) := by decide +kernel
theorem dX7_text_66 : decode cX7_text 66 = .ok (.iconst 0, 1) := by decide +kernel
theorem dX7_text_67 : decode cX7_text 67 = .ok (.istore_n 2, 1) := by decide +kernel
theorem dX7_text_68 : decode cX7_text 68 = .ok (.iload_n 2, 1) := by decide +kernel
theorem dX7_text_69 : decode cX7_text 69 = .ok (.sipush 240, 3) := by decide +kernel
theorem dX7_text_72 : decode cX7_text 72 = .ok (.if_icmp .ge 16, 3) := by decide +kernel
theorem dX7_text_75 : decode cX7_text 75 = .ok (.aload_n 0, 1) := by decide +kernel
theorem dX7_text_76 : decode cX7_text 76 = .ok (.getfield 34, 3) := by decide +kernel
theorem dX7_text_79 : decode cX7_text 79 = .ok (.iload_n 2, 1) := by decide +kernel
theorem dX7_text_80 : decode cX7_text 80 = .ok (.iconst 0, 1) := by decide +kernel
theorem dX7_text_81 : decode cX7_text 81 = .ok (.bastore, 1) := by decide +kernel
theorem dX7_text_82 : decode cX7_text 82 = .ok (.iinc 2 1, 3) := by decide +kernel
theorem dX7_text_85 : decode cX7_text 85 = .ok (.goto (-17), 3) := by decide +kernel
theorem dX7_text_88 : decode cX7_text 88 = .ok (.aload_n 0, 1) := by decide +kernel
theorem dX7_text_89 : decode cX7_text 89 = .ok (.invokevirtual 153, 3) := by decide +kernel
theorem dX7_text_92 : decode cX7_text 92 = .ok (.aload_n 0, 1) := by decide +kernel
theorem dX7_text_93 : decode cX7_text 93 = .ok (.invokevirtual 190, 3) := by decide +kernel
theorem dX7_text_96 : decode cX7_text 96 = .ok (.ifCond .ne 11, 3) := by decide +kernel
theorem dX7_text_99 : decode cX7_text 99 = .ok (.bipush (-2), 2) := by decide +kernel
theorem dX7_text_101 : decode cX7_text 101 = .ok (.aload_n 0, 1) := by decide +kernel
theorem dX7_text_102 : decode cX7_text 102 = .ok (.getfield 141, 3) := by decide +kernel
theorem dX7_text_105 : decode cX7_text 105 = .ok (.isub, 1) := by decide +kernel
theorem dX7_text_106 : decode cX7_text 106 = .ok (.ireturn, 1) := by decide +kernel
theorem dX7_text_107 : decode cX7_text 107 = .ok (.aload_n 0, 1) := by decide +kernel
theorem dX7_text_108 : decode cX7_text 108 = .ok (.aload_n 0, 1) := by decide +kernel
theorem dX7_text_109 : decode cX7_text 109 = .ok (.getfield 159, 3) := by decide +kernel
theorem dX7_text_112 : decode cX7_text 112 = .ok (.aload_n 0, 1) := by decide +kernel
theorem dX7_text_113 : decode cX7_text 113 = .ok (.getfield 164, 3) := by decide +kernel
theorem dX7_text_116 : decode cX7_text 116 = .ok (.invokevirtual 67, 3) := by decide +kernel
theorem dX7_text_119 : decode cX7_text 119 = .ok (.iconst 0, 1) := by decide +kernel
theorem dX7_text_120 : decode cX7_text 120 = .ok (.istore_n 2, 1) := by decide +kernel
theorem dX7_text_121 : decode cX7_text 121 = .ok (.iload_n 2, 1) := by decide +kernel
theorem dX7_text_122 : decode cX7_text 122 = .ok (.aload_n 0, 1) := by decide +kernel
theorem dX7_text_123 : decode cX7_text 123 = .ok (.getfield 156, 3) := by decide +kernel
theorem dX7_text_126 : decode cX7_text 126 = .ok (.if_icmp .ge 41, 3) := by decide +kernel
theorem dX7_text_129 : decode cX7_text 129 = .ok (.aload_n 0, 1) := by decide +kernel
theorem dX7_text_130 : decode cX7_text 130 = .ok (.aload_n 0, 1) := by decide +kernel
theorem dX7_text_131 : decode cX7_text 131 = .ok (.getfield 31, 3) := by decide +kernel
theorem dX7_text_134 : decode cX7_text 134 = .ok (.iconst 3, 1) := by decide +kernel
theorem dX7_text_135 : decode cX7_text 135 = .ok (.iload_n 2, 1) := by decide +kernel
theorem dX7_text_136 : decode cX7_text 136 = .ok (.imul, 1) := by decide +kernel
theorem dX7_text_137 : decode cX7_text 137 = .ok (.iaload, 1) := by decide +kernel
theorem dX7_text_138 : decode cX7_text 138 = .ok (.aload_n 0, 1) := by decide +kernel
theorem dX7_text_139 : decode cX7_text 139 = .ok (.getfield 31, 3) := by decide +kernel
theorem dX7_text_142 : decode cX7_text 142 = .ok (.iconst 3, 1) := by decide +kernel
theorem dX7_text_143 : decode cX7_text 143 = .ok (.iload_n 2, 1) := by decide +kernel
theorem dX7_text_144 : decode cX7_text 144 = .ok (.imul, 1) := by decide +kernel
theorem dX7_text_145 : decode cX7_text 145 = .ok (.iconst 1, 1) := by decide +kernel
theorem dX7_text_146 : decode cX7_text 146 = .ok (.iadd, 1) := by decide +kernel
theorem dX7_text_147 : decode cX7_text 147 = .ok (.iaload, 1) := by decide +kernel
theorem dX7_text_148 : decode cX7_text 148 = .ok (.aload_n 0, 1) := by decide +kernel
theorem dX7_text_149 : decode cX7_text 149 = .ok (.getfield 31, 3) := by decide +kernel
theorem dX7_text_152 : decode cX7_text 152 = .ok (.iconst 3, 1) := by decide +kernel
theorem dX7_text_153 : decode cX7_text 153 = .ok (.iload_n 2, 1) := by decide +kernel
theorem dX7_text_154 : decode cX7_text 154 = .ok (.imul, 1) := by decide +kernel
theorem dX7_text_155 : decode cX7_text 155 = .ok (.iconst 2, 1) := by decide +kernel
theorem dX7_text_156 : decode cX7_text 156 = .ok (.iadd, 1) := by decide +kernel
theorem dX7_text_157 : decode cX7_text 157 = .ok (.iaload, 1) := by decide +kernel
theorem dX7_text_158 : decode cX7_text 158 = .ok (.invokevirtual 193, 3) := by decide +kernel
theorem dX7_text_161 : decode cX7_text 161 = .ok (.iinc 2 1, 3) := by decide +kernel
theorem dX7_text_164 : decode cX7_text 164 = .ok (.goto (-43), 3) := by decide +kernel
theorem dX7_text_167 : decode cX7_text 167 = .ok (.iconst 0, 1) := by decide +kernel
theorem dX7_text_168 : decode cX7_text 168 = .ok (.istore_n 2, 1) := by decide +kernel
theorem dX7_text_169 : decode cX7_text 169 = .ok (.iload_n 2, 1) := by decide +kernel
theorem dX7_text_170 : decode cX7_text 170 = .ok (.sipush 240, 3) := by decide +kernel
theorem dX7_text_173 : decode cX7_text 173 = .ok (.if_icmp .ge 21, 3) := by decide +kernel
theorem dX7_text_176 : decode cX7_text 176 = .ok (.aload_n 0, 1) := by decide +kernel
theorem dX7_text_177 : decode cX7_text 177 = .ok (.getfield 23, 3) := by decide +kernel
theorem dX7_text_180 : decode cX7_text 180 = .ok (.iload_n 2, 1) := by decide +kernel
theorem dX7_text_181 : decode cX7_text 181 = .ok (.aload_n 0, 1) := by decide +kernel
theorem dX7_text_182 : decode cX7_text 182 = .ok (.getfield 34, 3) := by decide +kernel
theorem dX7_text_185 : decode cX7_text 185 = .ok (.iload_n 2, 1) := by decide +kernel
theorem dX7_text_186 : decode cX7_text 186 = .ok (.baload, 1) := by decide +kernel
theorem dX7_text_187 : decode cX7_text 187 = .ok (.bastore, 1) := by decide +kernel
theorem dX7_text_188 : decode cX7_text 188 = .ok (.iinc 2 1, 3) := by decide +kernel
theorem dX7_text_191 : decode cX7_text 191 = .ok (.goto (-22), 3) := by decide +kernel
theorem dX7_text_194 : decode cX7_text 194 = .ok (.aload_n 0, 1) := by decide +kernel
theorem dX7_text_195 : decode cX7_text 195 = .ok (.aload_n 0, 1) := by decide +kernel
theorem dX7_text_196 : decode cX7_text 196 = .ok (.getfield 37, 3) := by decide +kernel
theorem dX7_text_199 : decode cX7_text 199 = .ok (.iconst 0, 1) := by decide +kernel
theorem dX7_text_200 : decode cX7_text 200 = .ok (.iaload, 1) := by decide +kernel
theorem dX7_text_201 : decode cX7_text 201 = .ok (.putfield 74, 3) := by decide +kernel
theorem dX7_text_204 : decode cX7_text 204 = .ok (.aload_n 0, 1) := by decide +kernel
theorem dX7_text_205 : decode cX7_text 205 = .ok (.aload_n 0, 1) := by decide +kernel
theorem dX7_text_206 : decode cX7_text 206 = .ok (.getfield 37, 3) := by decide +kernel
theorem dX7_text_209 : decode cX7_text 209 = .ok (.iconst 1, 1) := by decide +kernel
theorem dX7_text_210 : decode cX7_text 210 = .ok (.iaload, 1) := by decide +kernel
theorem dX7_text_211 : decode cX7_text 211 = .ok (.putfield 77, 3) := by decide +kernel
theorem dX7_text_214 : decode cX7_text 214 = .ok (.aload_n 0, 1) := by decide +kernel
theorem dX7_text_215 : decode cX7_text 215 = .ok (.aload_n 0, 1) := by decide +kernel
theorem dX7_text_216 : decode cX7_text 216 = .ok (.getfield 37, 3) := by decide +kernel
theorem dX7_text_219 : decode cX7_text 219 = .ok (.iconst 2, 1) := by decide +kernel
theorem dX7_text_220 : decode cX7_text 220 = .ok (.iaload, 1) := by decide +kernel
theorem dX7_text_221 : decode cX7_text 221 = .ok (.putfield 80, 3) := by decide +kernel
theorem dX7_text_224 : decode cX7_text 224 = .ok (.aload_n 0, 1) := by decide +kernel
theorem dX7_text_225 : decode cX7_text 225 = .ok (.getfield 89, 3) := by decide +kernel
theorem dX7_text_228 : decode cX7_text 228 = .ok (.ireturn, 1) := by decide +kernel
set_option maxRecDepth 20000 in
theorem ggX7_chart_X7_within : GoodIn wsX7_chart wsX7_within := goodIn_r _ [5] (by decide +kernel) (by decide +kernel)
set_option maxRecDepth 20000 in
theorem gX7_chart_X7_within : GoodIn wsX7_chart (va_wsS RX7 92 yX7_within wsX7_within) := goodIn_app (goodIn_of _ (by decide +kernel)) ggX7_chart_X7_within
set_option maxRecDepth 20000 in
theorem ggX7_chart_X7_begins : GoodIn wsX7_chart wsX7_begins := goodIn_r _ [9, 10, 11, 12, 13, 14, 15, 16, 17, 18, 19, 20, 21, 22, 23, 24, 25, 26, 27, 28, 29, 30, 31, 32, 33, 34, 35, 36, 37, 38, 39, 40, 41, 42, 43, 44, 45, 46, 47, 48] (by decide +kernel) (by decide +kernel)
set_option maxRecDepth 20000 in
theorem gX7_chart_X7_begins : GoodIn wsX7_chart (wsV RX7 67 RX7 yX7_begins wsX7_begins) := goodIn_app (goodIn_of _ (by decide +kernel)) ggX7_chart_X7_begins
theorem dX7_chart_0 : decode cX7_chart 0 = .ok (.aload_n 0, 1) := by decide +kernel
theorem dX7_chart_1 : decode cX7_chart 1 = .ok (.iconst 0, 1) := by decide +kernel
theorem dX7_chart_2 : decode cX7_chart 2 = .ok (.putfield 1, 3) := by decide +kernel
theorem dX7_chart_5 : decode cX7_chart 5 = .ok (.iload_n 1, 1) := by decide +kernel
theorem dX7_chart_6 : decode cX7_chart 6 = .ok (.iconst 2, 1) := by decide +kernel
theorem dX7_chart_7 : decode cX7_chart 7 = .ok (.bipush 9, 2) := by decide +kernel
theorem dX7_chart_9 : decode cX7_chart 9 = .ok (.invokestatic 92, 3) := by decide +kernel
theorem dX7_chart_12 : decode cX7_chart 12 = .ok (.ifCond .eq 14, 3) := by decide +kernel
theorem dX7_chart_15 : decode cX7_chart 15 = .ok (.iload_n 2, 1) := by decide +kernel
theorem dX7_chart_16 : decode cX7_chart 16 = .ok (.bipush 6, 2) := by decide +kernel
theorem dX7_chart_18 : decode cX7_chart 18 = .ok (.bipush 24, 2) := by decide +kernel
theorem dX7_chart_20 : decode cX7_chart 20 = .ok (.invokestatic 92, 3) := by decide +kernel
theorem dX7_chart_23 : decode cX7_chart 23 = .ok (.ifCond .ne 5, 3) := by decide +kernel
theorem dX7_chart_26 : decode cX7_chart 26 = .ok (.iconst 0, 1) := by decide +kernel
theorem dX7_chart_27 : decode cX7_chart 27 = .ok (.ireturn, 1) := by decide +kernel
theorem dX7_chart_28 : decode cX7_chart 28 = .ok (.aload_n 0, 1) := by decide +kernel
theorem dX7_chart_29 : decode cX7_chart 29 = .ok (.iload_n 1, 1) := by decide +kernel
theorem dX7_chart_30 : decode cX7_chart 30 = .ok (.iload_n 2, 1) := by decide +kernel
theorem dX7_chart_31 : decode cX7_chart 31 = .ok (.invokevirtual 67, 3) := by decide +kernel
theorem dX7_chart_34 : decode cX7_chart 34 = .ok (.iconst 1, 1) := by decide +kernel
theorem dX7_chart_35 : decode cX7_chart 35 = .ok (.ireturn, 1) := by decide +kernel
set_option maxRecDepth 20000 in
theorem ggX7_place_X7_isCell : GoodIn wsX7_place wsX7_isCell := goodIn_r _ [9, 10, 11, 12, 13, 8, 14, 36, 37, 38, 39, 40, 41, 42, 43, 44, 45, 46, 47, 48, 49, 50, 51, 52, 53, 54, 55, 56, 57, 58, 59, 60, 61, 62, 63, 64, 65, 66, 67, 68, 69, 70] (by decide +kernel) (by decide +kernel)
set_option maxRecDepth 20000 in
theorem gX7_place_X7_isCell : GoodIn wsX7_place (wsV RX7 96 RX7 yX7_isCell wsX7_isCell) := goodIn_app (goodIn_of _ (by decide +kernel)) ggX7_place_X7_isCell
set_option maxRecDepth 20000 in
theorem ggX7_place_X7_within : GoodIn wsX7_place wsX7_within := goodIn_r _ [14] (by decide +kernel) (by decide +kernel)
set_option maxRecDepth 20000 in
theorem gX7_place_X7_within : GoodIn wsX7_place (va_wsS RX7 92 yX7_within wsX7_within) := goodIn_app (goodIn_of _ (by decide +kernel)) ggX7_place_X7_within
set_option maxRecDepth 20000 in
theorem ggX7_place_X7_cell : GoodIn wsX7_place wsX7_cell := goodIn_r _ [17] (by decide +kernel) (by decide +kernel)
set_option maxRecDepth 20000 in
theorem gX7_place_X7_cell : GoodIn wsX7_place (va_wsS RX7 170 yX7_cell wsX7_cell) := goodIn_app (goodIn_of _ (by decide +kernel)) ggX7_place_X7_cell
set_option maxRecDepth 20000 in
theorem ggX7_place_X7_placeAt : GoodIn wsX7_place wsX7_placeAt := goodIn_r _ [21, 4, 22, 23, 36, 37, 38, 39, 40, 41, 42, 43, 44, 45, 46, 47, 48, 49, 50, 51, 52, 53, 54, 55, 56, 57, 58, 59, 60, 61, 62, 63, 64, 65, 66, 67, 68, 69, 70] (by decide +kernel) (by decide +kernel)
set_option maxRecDepth 20000 in
theorem gX7_place_X7_placeAt : GoodIn wsX7_place (wsV RX7 100 RX7 yX7_placeAt wsX7_placeAt) := goodIn_app (goodIn_of _ (by decide +kernel)) ggX7_place_X7_placeAt
set_option maxRecDepth 20000 in
theorem ggX7_place_X7_goes : GoodIn wsX7_place wsX7_goes := goodIn_r _ [27, 4, 22, 23, 3, 28, 29, 30, 8, 31, 36, 37, 38, 39, 40, 41, 42, 43, 44, 45, 46, 47, 48, 49, 50, 51, 52, 53, 54, 55, 56, 57, 58, 59, 60, 61, 62, 63, 64, 65, 66, 67, 68, 69, 70] (by decide +kernel) (by decide +kernel)
set_option maxRecDepth 20000 in
theorem gX7_place_X7_goes : GoodIn wsX7_place (wsV RX7 197 RX7 yX7_goes wsX7_goes) := goodIn_app (goodIn_of _ (by decide +kernel)) ggX7_place_X7_goes
set_option maxRecDepth 20000 in
theorem ggX7_place_X7_adds : GoodIn wsX7_place wsX7_adds := goodIn_r _ [35, 4, 23, 22, 3, 28, 29, 30, 8, 31, 36, 37, 38, 39, 40, 41, 42, 43, 44, 45, 46, 47, 48, 49, 50, 51, 52, 53, 54, 55, 56, 57, 58, 59, 60, 61, 62, 63, 64, 65, 66, 67, 68, 69, 70] (by decide +kernel) (by decide +kernel)
set_option maxRecDepth 20000 in
theorem gX7_place_X7_adds : GoodIn wsX7_place (wsV RX7 193 RX7 yX7_adds wsX7_adds) := goodIn_app (goodIn_of _ (by decide +kernel)) ggX7_place_X7_adds
theorem dX7_place_0 : decode cX7_place 0 = .ok (.aload_n 0, 1) := by decide +kernel
theorem dX7_place_1 : decode cX7_place 1 = .ok (.iconst 0, 1) := by decide +kernel
theorem dX7_place_2 : decode cX7_place 2 = .ok (.putfield 1, 3) := by decide +kernel
theorem dX7_place_5 : decode cX7_place 5 = .ok (.aload_n 0, 1) := by decide +kernel
theorem dX7_place_6 : decode cX7_place 6 = .ok (.iload_n 1, 1) := by decide +kernel
theorem dX7_place_7 : decode cX7_place 7 = .ok (.iload_n 2, 1) := by decide +kernel
theorem dX7_place_8 : decode cX7_place 8 = .ok (.invokevirtual 96, 3) := by decide +kernel
theorem dX7_place_11 : decode cX7_place 11 = .ok (.ifCond .eq 26, 3) := by decide +kernel
theorem dX7_place_14 : decode cX7_place 14 = .ok (.iload_n 3, 1) := by decide +kernel
theorem dX7_place_15 : decode cX7_place 15 = .ok (.iconst 0, 1) := by decide +kernel
theorem dX7_place_16 : decode cX7_place 16 = .ok (.bipush 99, 2) := by decide +kernel
theorem dX7_place_18 : decode cX7_place 18 = .ok (.invokestatic 92, 3) := by decide +kernel
theorem dX7_place_21 : decode cX7_place 21 = .ok (.ifCond .eq 16, 3) := by decide +kernel
theorem dX7_place_24 : decode cX7_place 24 = .ok (.aload_n 0, 1) := by decide +kernel
theorem dX7_place_25 : decode cX7_place 25 = .ok (.getfield 23, 3) := by decide +kernel
theorem dX7_place_28 : decode cX7_place 28 = .ok (.iload_n 1, 1) := by decide +kernel
theorem dX7_place_29 : decode cX7_place 29 = .ok (.iload_n 2, 1) := by decide +kernel
theorem dX7_place_30 : decode cX7_place 30 = .ok (.invokestatic 170, 3) := by decide +kernel
theorem dX7_place_33 : decode cX7_place 33 = .ok (.baload, 1) := by decide +kernel
theorem dX7_place_34 : decode cX7_place 34 = .ok (.ifCond .eq 5, 3) := by decide +kernel
theorem dX7_place_37 : decode cX7_place 37 = .ok (.iconst (-1), 1) := by decide +kernel
theorem dX7_place_38 : decode cX7_place 38 = .ok (.ireturn, 1) := by decide +kernel
theorem dX7_place_39 : decode cX7_place 39 = .ok (.aload_n 0, 1) := by decide +kernel
theorem dX7_place_40 : decode cX7_place 40 = .ok (.iload_n 1, 1) := by decide +kernel
theorem dX7_place_41 : decode cX7_place 41 = .ok (.iload_n 2, 1) := by decide +kernel
theorem dX7_place_42 : decode cX7_place 42 = .ok (.invokevirtual 100, 3) := by decide +kernel
theorem dX7_place_45 : decode cX7_place 45 = .ok (.istore 4, 2) := by decide +kernel
theorem dX7_place_47 : decode cX7_place 47 = .ok (.iload 4, 2) := by decide +kernel
theorem dX7_place_49 : decode cX7_place 49 = .ok (.ifCond .lt 18, 3) := by decide +kernel
theorem dX7_place_52 : decode cX7_place 52 = .ok (.iload_n 3, 1) := by decide +kernel
theorem dX7_place_53 : decode cX7_place 53 = .ok (.ifCond .le 14, 3) := by decide +kernel
theorem dX7_place_56 : decode cX7_place 56 = .ok (.aload_n 0, 1) := by decide +kernel
theorem dX7_place_57 : decode cX7_place 57 = .ok (.getfield 20, 3) := by decide +kernel
theorem dX7_place_60 : decode cX7_place 60 = .ok (.iload 4, 2) := by decide +kernel
theorem dX7_place_62 : decode cX7_place 62 = .ok (.iload_n 3, 1) := by decide +kernel
theorem dX7_place_63 : decode cX7_place 63 = .ok (.iastore, 1) := by decide +kernel
theorem dX7_place_64 : decode cX7_place 64 = .ok (.goto 39, 3) := by decide +kernel
theorem dX7_place_67 : decode cX7_place 67 = .ok (.iload 4, 2) := by decide +kernel
theorem dX7_place_69 : decode cX7_place 69 = .ok (.ifCond .lt 12, 3) := by decide +kernel
theorem dX7_place_72 : decode cX7_place 72 = .ok (.aload_n 0, 1) := by decide +kernel
theorem dX7_place_73 : decode cX7_place 73 = .ok (.iload 4, 2) := by decide +kernel
theorem dX7_place_75 : decode cX7_place 75 = .ok (.invokevirtual 197, 3) := by decide +kernel
theorem dX7_place_78 : decode cX7_place 78 = .ok (.goto 25, 3) := by decide +kernel
theorem dX7_place_81 : decode cX7_place 81 = .ok (.iload_n 3, 1) := by decide +kernel
theorem dX7_place_82 : decode cX7_place 82 = .ok (.ifCond .eq 12, 3) := by decide +kernel
theorem dX7_place_85 : decode cX7_place 85 = .ok (.aload_n 0, 1) := by decide +kernel
theorem dX7_place_86 : decode cX7_place 86 = .ok (.getfield 89, 3) := by decide +kernel
theorem dX7_place_89 : decode cX7_place 89 = .ok (.bipush 7, 2) := by decide +kernel
theorem dX7_place_91 : decode cX7_place 91 = .ok (.if_icmp .ne 5, 3) := by decide +kernel
theorem dX7_place_94 : decode cX7_place 94 = .ok (.iconst (-1), 1) := by decide +kernel
theorem dX7_place_95 : decode cX7_place 95 = .ok (.ireturn, 1) := by decide +kernel
theorem dX7_place_96 : decode cX7_place 96 = .ok (.aload_n 0, 1) := by decide +kernel
theorem dX7_place_97 : decode cX7_place 97 = .ok (.iload_n 1, 1) := by decide +kernel
theorem dX7_place_98 : decode cX7_place 98 = .ok (.iload_n 2, 1) := by decide +kernel
theorem dX7_place_99 : decode cX7_place 99 = .ok (.iload_n 3, 1) := by decide +kernel
theorem dX7_place_100 : decode cX7_place 100 = .ok (.invokevirtual 193, 3) := by decide +kernel
theorem dX7_place_103 : decode cX7_place 103 = .ok (.aload_n 0, 1) := by decide +kernel
theorem dX7_place_104 : decode cX7_place 104 = .ok (.getfield 89, 3) := by decide +kernel
theorem dX7_place_107 : decode cX7_place 107 = .ok (.ireturn, 1) := by decide +kernel
set_option maxRecDepth 20000 in
theorem ggX7_rock_X7_isCell : GoodIn wsX7_rock wsX7_isCell := goodIn_r _ [7, 8, 9, 10, 11, 6, 12, 23, 24, 25, 26, 27, 28, 29, 30, 31, 32, 33, 34, 35, 36, 37, 38, 39, 40, 41, 42, 43, 44, 45, 46, 47, 48, 49, 50, 51, 52, 53, 54, 55, 56, 57] (by decide +kernel) (by decide +kernel)
set_option maxRecDepth 20000 in
theorem gX7_rock_X7_isCell : GoodIn wsX7_rock (wsV RX7 96 RX7 yX7_isCell wsX7_isCell) := goodIn_app (goodIn_of _ (by decide +kernel)) ggX7_rock_X7_isCell
set_option maxRecDepth 20000 in
theorem ggX7_rock_X7_cell : GoodIn wsX7_rock wsX7_cell := goodIn_r _ [15] (by decide +kernel) (by decide +kernel)
set_option maxRecDepth 20000 in
theorem gX7_rock_X7_cell : GoodIn wsX7_rock (va_wsS RX7 170 yX7_cell wsX7_cell) := goodIn_app (goodIn_of _ (by decide +kernel)) ggX7_rock_X7_cell
set_option maxRecDepth 20000 in
theorem ggX7_rock_X7_placeAt : GoodIn wsX7_rock wsX7_placeAt := goodIn_r _ [19, 20, 21, 22, 23, 24, 25, 26, 27, 28, 29, 30, 31, 32, 33, 34, 35, 36, 37, 38, 39, 40, 41, 42, 43, 44, 45, 46, 47, 48, 49, 50, 51, 52, 53, 54, 55, 56, 57] (by decide +kernel) (by decide +kernel)
set_option maxRecDepth 20000 in
theorem gX7_rock_X7_placeAt : GoodIn wsX7_rock (wsV RX7 100 RX7 yX7_placeAt wsX7_placeAt) := goodIn_app (goodIn_of _ (by decide +kernel)) ggX7_rock_X7_placeAt
theorem dX7_rock_0 : decode cX7_rock 0 = .ok (.aload_n 0, 1) := by decide +kernel
theorem dX7_rock_1 : decode cX7_rock 1 = .ok (.iconst 0, 1) := by decide +kernel
theorem dX7_rock_2 : decode cX7_rock 2 = .ok (.putfield 1, 3) := by decide +kernel
theorem dX7_rock_5 : decode cX7_rock 5 = .ok (.aload_n 0, 1) := by decide +kernel
theorem dX7_rock_6 : decode cX7_rock 6 = .ok (.iload_n 1, 1) := by decide +kernel
theorem dX7_rock_7 : decode cX7_rock 7 = .ok (.iload_n 2, 1) := by decide +kernel
theorem dX7_rock_8 : decode cX7_rock 8 = .ok (.invokevirtual 96, 3) := by decide +kernel
theorem dX7_rock_11 : decode cX7_rock 11 = .ok (.ifCond .eq 26, 3) := by decide +kernel
theorem dX7_rock_14 : decode cX7_rock 14 = .ok (.aload_n 0, 1) := by decide +kernel
theorem dX7_rock_15 : decode cX7_rock 15 = .ok (.getfield 23, 3) := by decide +kernel
theorem dX7_rock_18 : decode cX7_rock 18 = .ok (.iload_n 1, 1) := by decide +kernel
theorem dX7_rock_19 : decode cX7_rock 19 = .ok (.iload_n 2, 1) := by decide +kernel
theorem dX7_rock_20 : decode cX7_rock 20 = .ok (.invokestatic 170, 3) := by decide +kernel
theorem dX7_rock_23 : decode cX7_rock 23 = .ok (.baload, 1) := by decide +kernel
theorem dX7_rock_24 : decode cX7_rock 24 = .ok (.iload_n 3, 1) := by decide +kernel
theorem dX7_rock_25 : decode cX7_rock 25 = .ok (.if_icmp .eq 12, 3) := by decide +kernel
theorem dX7_rock_28 : decode cX7_rock 28 = .ok (.aload_n 0, 1) := by decide +kernel
theorem dX7_rock_29 : decode cX7_rock 29 = .ok (.iload_n 1, 1) := by decide +kernel
theorem dX7_rock_30 : decode cX7_rock 30 = .ok (.iload_n 2, 1) := by decide +kernel
theorem dX7_rock_31 : decode cX7_rock 31 = .ok (.invokevirtual 100, 3) := by decide +kernel
theorem dX7_rock_34 : decode cX7_rock 34 = .ok (.ifCond .lt 5, 3) := by decide +kernel
theorem dX7_rock_37 : decode cX7_rock 37 = .ok (.iconst 0, 1) := by decide +kernel
theorem dX7_rock_38 : decode cX7_rock 38 = .ok (.ireturn, 1) := by decide +kernel
theorem dX7_rock_39 : decode cX7_rock 39 = .ok (.aload_n 0, 1) := by decide +kernel
theorem dX7_rock_40 : decode cX7_rock 40 = .ok (.getfield 23, 3) := by decide +kernel
theorem dX7_rock_43 : decode cX7_rock 43 = .ok (.iload_n 1, 1) := by decide +kernel
theorem dX7_rock_44 : decode cX7_rock 44 = .ok (.iload_n 2, 1) := by decide +kernel
theorem dX7_rock_45 : decode cX7_rock 45 = .ok (.invokestatic 170, 3) := by decide +kernel
theorem dX7_rock_48 : decode cX7_rock 48 = .ok (.iload_n 3, 1) := by decide +kernel
theorem dX7_rock_49 : decode cX7_rock 49 = .ok (.bastore, 1) := by decide +kernel
theorem dX7_rock_50 : decode cX7_rock 50 = .ok (.iconst 1, 1) := by decide +kernel
theorem dX7_rock_51 : decode cX7_rock 51 = .ok (.ireturn, 1) := by decide +kernel
set_option maxRecDepth 20000 in
theorem ggX7_set_X7_within : GoodIn wsX7_set wsX7_within := goodIn_r _ [8] (by decide +kernel) (by decide +kernel)
set_option maxRecDepth 20000 in
theorem gX7_set_X7_within : GoodIn wsX7_set (va_wsS RX7 92 yX7_within wsX7_within) := goodIn_app (goodIn_of _ (by decide +kernel)) ggX7_set_X7_within
theorem dX7_set_0 : decode cX7_set 0 = .ok (.aload_n 0, 1) := by decide +kernel
theorem dX7_set_1 : decode cX7_set 1 = .ok (.iconst 0, 1) := by decide +kernel
theorem dX7_set_2 : decode cX7_set 2 = .ok (.putfield 1, 3) := by decide +kernel
theorem dX7_set_5 : decode cX7_set 5 = .ok (.iload_n 1, 1) := by decide +kernel
theorem dX7_set_6 : decode cX7_set 6 = .ok (.ifCond .ne 13, 3) := by decide +kernel
theorem dX7_set_9 : decode cX7_set 9 = .ok (.iload_n 2, 1) := by decide +kernel
theorem dX7_set_10 : decode cX7_set 10 = .ok (.iconst 1, 1) := by decide +kernel
theorem dX7_set_11 : decode cX7_set 11 = .ok (.bipush 99, 2) := by decide +kernel
theorem dX7_set_13 : decode cX7_set 13 = .ok (.invokestatic 92, 3) := by decide +kernel
theorem dX7_set_16 : decode cX7_set 16 = .ok (.goto 38, 3) := by decide +kernel
theorem dX7_set_19 : decode cX7_set 19 = .ok (.iload_n 1, 1) := by decide +kernel
theorem dX7_set_20 : decode cX7_set 20 = .ok (.iconst 1, 1) := by decide +kernel
theorem dX7_set_21 : decode cX7_set 21 = .ok (.if_icmp .ne 13, 3) := by decide +kernel
theorem dX7_set_24 : decode cX7_set 24 = .ok (.iload_n 2, 1) := by decide +kernel
theorem dX7_set_25 : decode cX7_set 25 = .ok (.iconst 0, 1) := by decide +kernel
theorem dX7_set_26 : decode cX7_set 26 = .ok (.bipush 40, 2) := by decide +kernel
theorem dX7_set_28 : decode cX7_set 28 = .ok (.invokestatic 92, 3) := by decide +kernel
theorem dX7_set_31 : decode cX7_set 31 = .ok (.goto 23, 3) := by decide +kernel
theorem dX7_set_34 : decode cX7_set 34 = .ok (.iload_n 1, 1) := by decide +kernel
theorem dX7_set_35 : decode cX7_set 35 = .ok (.iconst 2, 1) := by decide +kernel
theorem dX7_set_36 : decode cX7_set 36 = .ok (.if_icmp .ne 17, 3) := by decide +kernel
theorem dX7_set_39 : decode cX7_set 39 = .ok (.iload_n 2, 1) := by decide +kernel
theorem dX7_set_40 : decode cX7_set 40 = .ok (.iconst 0, 1) := by decide +kernel
theorem dX7_set_41 : decode cX7_set 41 = .ok (.bipush 6, 2) := by decide +kernel
theorem dX7_set_43 : decode cX7_set 43 = .ok (.invokestatic 92, 3) := by decide +kernel
theorem dX7_set_46 : decode cX7_set 46 = .ok (.ifCond .eq 7, 3) := by decide +kernel
theorem dX7_set_49 : decode cX7_set 49 = .ok (.iconst 1, 1) := by decide +kernel
theorem dX7_set_50 : decode cX7_set 50 = .ok (.goto 4, 3) := by decide +kernel
theorem dX7_set_53 : decode cX7_set 53 = .ok (.iconst 0, 1) := by decide +kernel
theorem dX7_set_54 : decode cX7_set 54 = .ok (.istore_n 3, 1) := by decide +kernel
theorem dX7_set_55 : decode cX7_set 55 = .ok (.iload_n 3, 1) := by decide +kernel
theorem dX7_set_56 : decode cX7_set 56 = .ok (.ifCond .ne 5, 3) := by decide +kernel
theorem dX7_set_59 : decode cX7_set 59 = .ok (.iconst (-1), 1) := by decide +kernel
theorem dX7_set_60 : decode cX7_set 60 = .ok (.ireturn, 1) := by decide +kernel
theorem dX7_set_61 : decode cX7_set 61 = .ok (.iload_n 1, 1) := by decide +kernel
theorem dX7_set_62 : decode cX7_set 62 = .ok (.ifCond .ne 10, 3) := by decide +kernel
theorem dX7_set_65 : decode cX7_set 65 = .ok (.aload_n 0, 1) := by decide +kernel
theorem dX7_set_66 : decode cX7_set 66 = .ok (.getfield 74, 3) := by decide +kernel
theorem dX7_set_69 : decode cX7_set 69 = .ok (.goto 19, 3) := by decide +kernel
theorem dX7_set_72 : decode cX7_set 72 = .ok (.iload_n 1, 1) := by decide +kernel
theorem dX7_set_73 : decode cX7_set 73 = .ok (.iconst 1, 1) := by decide +kernel
theorem dX7_set_74 : decode cX7_set 74 = .ok (.if_icmp .ne 10, 3) := by decide +kernel
theorem dX7_set_77 : decode cX7_set 77 = .ok (.aload_n 0, 1) := by decide +kernel
theorem dX7_set_78 : decode cX7_set 78 = .ok (.getfield 77, 3) := by decide +kernel
theorem dX7_set_81 : decode cX7_set 81 = .ok (.goto 7, 3) := by decide +kernel
theorem dX7_set_84 : decode cX7_set 84 = .ok (.aload_n 0, 1) := by decide +kernel
theorem dX7_set_85 : decode cX7_set 85 = .ok (.getfield 80, 3) := by decide +kernel
theorem dX7_set_88 : decode cX7_set 88 = .ok (.istore 4, 2) := by decide +kernel
theorem dX7_set_90 : decode cX7_set 90 = .ok (.aload_n 0, 1) := by decide +kernel
theorem dX7_set_91 : decode cX7_set 91 = .ok (.iload_n 1, 1) := by decide +kernel
theorem dX7_set_92 : decode cX7_set 92 = .ok (.ifCond .ne 7, 3) := by decide +kernel
theorem dX7_set_95 : decode cX7_set 95 = .ok (.iload_n 2, 1) := by decide +kernel
theorem dX7_set_96 : decode cX7_set 96 = .ok (.goto 7, 3) := by decide +kernel
theorem dX7_set_99 : decode cX7_set 99 = .ok (.aload_n 0, 1) := by decide +kernel
theorem dX7_set_100 : decode cX7_set 100 = .ok (.getfield 74, 3) := by decide +kernel
theorem dX7_set_103 : decode cX7_set 103 = .ok (.putfield 74, 3) := by decide +kernel
theorem dX7_set_106 : decode cX7_set 106 = .ok (.aload_n 0, 1) := by decide +kernel
theorem dX7_set_107 : decode cX7_set 107 = .ok (.iload_n 1, 1) := by decide +kernel
theorem dX7_set_108 : decode cX7_set 108 = .ok (.iconst 1, 1) := by decide +kernel
theorem dX7_set_109 : decode cX7_set 109 = .ok (.if_icmp .ne 7, 3) := by decide +kernel
theorem dX7_set_112 : decode cX7_set 112 = .ok (.iload_n 2, 1) := by decide +kernel
theorem dX7_set_113 : decode cX7_set 113 = .ok (.goto 7, 3) := by decide +kernel
theorem dX7_set_116 : decode cX7_set 116 = .ok (.aload_n 0, 1) := by decide +kernel
theorem dX7_set_117 : decode cX7_set 117 = .ok (.getfield 77, 3) := by decide +kernel
theorem dX7_set_120 : decode cX7_set 120 = .ok (.putfield 77, 3) := by decide +kernel
theorem dX7_set_123 : decode cX7_set 123 = .ok (.aload_n 0, 1) := by decide +kernel
theorem dX7_set_124 : decode cX7_set 124 = .ok (.iload_n 1, 1) := by decide +kernel
theorem dX7_set_125 : decode cX7_set 125 = .ok (.iconst 2, 1) := by decide +kernel
theorem dX7_set_126 : decode cX7_set 126 = .ok (.if_icmp .ne 7, 3) := by decide +kernel
theorem dX7_set_129 : decode cX7_set 129 = .ok (.iload_n 2, 1) := by decide +kernel
theorem dX7_set_130 : decode cX7_set 130 = .ok (.goto 7, 3) := by decide +kernel
theorem dX7_set_133 : decode cX7_set 133 = .ok (.aload_n 0, 1) := by decide +kernel
theorem dX7_set_134 : decode cX7_set 134 = .ok (.getfield 80, 3) := by decide +kernel
theorem dX7_set_137 : decode cX7_set 137 = .ok (.putfield 80, 3) := by decide +kernel
