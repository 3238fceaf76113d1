theorem dX4_readToken_119 : decode cX4_readToken 119 = .ok (.ifCond .eq 91, 3) := by decide +kernel
theorem dX4_readToken_122 : decode cX4_readToken 122 = .ok (.aload_n 0, 1) := by decide +kernel
theorem dX4_readToken_123 : decode cX4_readToken 123 = .ok (.getfield 28, 3) := by decide +kernel
theorem dX4_readToken_126 : decode cX4_readToken 126 = .ok (.aload_n 0, 1) := by decide +kernel
theorem dX4_readToken_127 : decode cX4_readToken 127 = .ok (.getfield 25, 3) := by decide +kernel
theorem dX4_readToken_130 : decode cX4_readToken 130 = .ok (.if_icmp .ge 80, 3) := by decide +kernel
theorem dX4_readToken_133 : decode cX4_readToken 133 = .ok (.aload_n 0, 1) := by decide +kernel
theorem dX4_readToken_134 : decode cX4_readToken 134 = .ok (.getfield 9, 3) := by decide +kernel
theorem dX4_readToken_137 : decode cX4_readToken 137 = .ok (.aload_n 0, 1) := by decide +kernel
theorem dX4_readToken_138 : decode cX4_readToken 138 = .ok (.getfield 28, 3) := by decide +kernel
theorem dX4_readToken_141 : decode cX4_readToken 141 = .ok (.iaload, 1) := by decide +kernel
theorem dX4_readToken_142 : decode cX4_readToken 142 = .ok (.invokestatic 124, 3) := by decide +kernel
theorem dX4_readToken_145 : decode cX4_readToken 145 = .ok (.aload_n 0, 1) := by decide +kernel
theorem dX4_readToken_146 : decode cX4_readToken 146 = .ok (.getfield 41, 3) := by decide +kernel
theorem dX4_readToken_149 : decode cX4_readToken 149 = .ok (.if_icmp .ne 61, 3) := by decide +kernel
theorem dX4_readToken_152 : decode cX4_readToken 152 = .ok (.aload_n 0, 1) := by decide +kernel
theorem dX4_readToken_153 : decode cX4_readToken 153 = .ok (.getfield 41, 3) := by decide +kernel
theorem dX4_readToken_156 : decode cX4_readToken 156 = .ok (.iconst 2, 1) := by decide +kernel
theorem dX4_readToken_157 : decode cX4_readToken 157 = .ok (.if_icmp .ne 40, 3) := by decide +kernel
theorem dX4_readToken_160 : decode cX4_readToken 160 = .ok (.aload_n 0, 1) := by decide +kernel
theorem dX4_readToken_161 : decode cX4_readToken 161 = .ok (.getfield 28, 3) := by decide +kernel
theorem dX4_readToken_164 : decode cX4_readToken 164 = .ok (.aload_n 0, 1) := by decide +kernel
theorem dX4_readToken_165 : decode cX4_readToken 165 = .ok (.getfield 121, 3) := by decide +kernel
theorem dX4_readToken_168 : decode cX4_readToken 168 = .ok (.isub, 1) := by decide +kernel
theorem dX4_readToken_169 : decode cX4_readToken 169 = .ok (.iconst 3, 1) := by decide +kernel
theorem dX4_readToken_170 : decode cX4_readToken 170 = .ok (.if_icmp .ge 27, 3) := by decide +kernel
theorem dX4_readToken_173 : decode cX4_readToken 173 = .ok (.aload_n 0, 1) := by decide +kernel
theorem dX4_readToken_174 : decode cX4_readToken 174 = .ok (.bipush 10, 2) := by decide +kernel
theorem dX4_readToken_176 : decode cX4_readToken 176 = .ok (.aload_n 0, 1) := by decide +kernel
theorem dX4_readToken_177 : decode cX4_readToken 177 = .ok (.getfield 114, 3) := by decide +kernel
theorem dX4_readToken_180 : decode cX4_readToken 180 = .ok (.imul, 1) := by decide +kernel
theorem dX4_readToken_181 : decode cX4_readToken 181 = .ok (.aload_n 0, 1) := by decide +kernel
theorem dX4_readToken_182 : decode cX4_readToken 182 = .ok (.getfield 9, 3) := by decide +kernel
theorem dX4_readToken_185 : decode cX4_readToken 185 = .ok (.aload_n 0, 1) := by decide +kernel
theorem dX4_readToken_186 : decode cX4_readToken 186 = .ok (.getfield 28, 3) := by decide +kernel
theorem dX4_readToken_189 : decode cX4_readToken 189 = .ok (.iaload, 1) := by decide +kernel
theorem dX4_readToken_190 : decode cX4_readToken 190 = .ok (.iadd, 1) := by decide +kernel
theorem dX4_readToken_191 : decode cX4_readToken 191 = .ok (.bipush 48, 2) := by decide +kernel
theorem dX4_readToken_193 : decode cX4_readToken 193 = .ok (.isub, 1) := by decide +kernel
theorem dX4_readToken_194 : decode cX4_readToken 194 = .ok (.putfield 114, 3) := by decide +kernel
theorem dX4_readToken_197 : decode cX4_readToken 197 = .ok (.aload_n 0, 1) := by decide +kernel
theorem dX4_readToken_198 : decode cX4_readToken 198 = .ok (.dup, 1) := by decide +kernel
theorem dX4_readToken_199 : decode cX4_readToken 199 = .ok (.getfield 28, 3) := by decide +kernel
theorem dX4_readToken_202 : decode cX4_readToken 202 = .ok (.iconst 1, 1) := by decide +kernel
theorem dX4_readToken_203 : decode cX4_readToken 203 = .ok (.iadd, 1) := by decide +kernel
theorem dX4_readToken_204 : decode cX4_readToken 204 = .ok (.putfield 28, 3) := by decide +kernel
theorem dX4_readToken_207 : decode cX4_readToken 207 = .ok (.goto (-89), 3) := by decide +kernel
theorem dX4_readToken_210 : decode cX4_readToken 210 = .ok (.aload_n 0, 1) := by decide +kernel
theorem dX4_readToken_211 : decode cX4_readToken 211 = .ok (.getfield 41, 3) := by decide +kernel
theorem dX4_readToken_214 : decode cX4_readToken 214 = .ok (.iconst 3, 1) := by decide +kernel
theorem dX4_readToken_215 : decode cX4_readToken 215 = .ok (.if_icmp .ne 16, 3) := by decide +kernel
theorem dX4_readToken_218 : decode cX4_readToken 218 = .ok (.aload_n 0, 1) := by decide +kernel
theorem dX4_readToken_219 : decode cX4_readToken 219 = .ok (.dup, 1) := by decide +kernel
theorem dX4_readToken_220 : decode cX4_readToken 220 = .ok (.getfield 28, 3) := by decide +kernel
theorem dX4_readToken_223 : decode cX4_readToken 223 = .ok (.iconst 1, 1) := by decide +kernel
theorem dX4_readToken_224 : decode cX4_readToken 224 = .ok (.iadd, 1) := by decide +kernel
theorem dX4_readToken_225 : decode cX4_readToken 225 = .ok (.putfield 28, 3) := by decide +kernel
theorem dX4_readToken_228 : decode cX4_readToken 228 = .ok (.goto 29, 3) := by decide +kernel
theorem dX4_readToken_231 : decode cX4_readToken 231 = .ok (.aload_n 0, 1) := by decide +kernel
theorem dX4_readToken_232 : decode cX4_readToken 232 = .ok (.getfield 41, 3) := by decide +kernel
theorem dX4_readToken_235 : decode cX4_readToken 235 = .ok (.iconst 2, 1) := by decide +kernel
theorem dX4_readToken_236 : decode cX4_readToken 236 = .ok (.if_icmp .ne 21, 3) := by decide +kernel
theorem dX4_readToken_239 : decode cX4_readToken 239 = .ok (.aload_n 0, 1) := by decide +kernel
theorem dX4_readToken_240 : decode cX4_readToken 240 = .ok (.getfield 28, 3) := by decide +kernel
theorem dX4_readToken_243 : decode cX4_readToken 243 = .ok (.aload_n 0, 1) := by decide +kernel
theorem dX4_readToken_244 : decode cX4_readToken 244 = .ok (.getfield 121, 3) := by decide +kernel
theorem dX4_readToken_247 : decode cX4_readToken 247 = .ok (.isub, 1) := by decide +kernel
theorem dX4_readToken_248 : decode cX4_readToken 248 = .ok (.iconst 3, 1) := by decide +kernel
theorem dX4_readToken_249 : decode cX4_readToken 249 = .ok (.if_icmp .le 8, 3) := by decide +kernel
theorem dX4_readToken_252 : decode cX4_readToken 252 = .ok (.aload_n 0, 1) := by decide +kernel
theorem dX4_readToken_253 : decode cX4_readToken 253 = .ok (.iconst 4, 1) := by decide +kernel
theorem dX4_readToken_254 : decode cX4_readToken 254 = .ok (.putfield 41, 3) := by decide +kernel
theorem dX4_readToken_257 : decode cX4_readToken 257 = .ok (.return_, 1) := by decide +kernel
theorem dX4_kindOf_0 : decode cX4_kindOf 0 = .ok (.iload_n 0, 1) := by decide +kernel
theorem dX4_kindOf_1 : decode cX4_kindOf 1 = .ok (.bipush 97, 2) := by decide +kernel
theorem dX4_kindOf_3 : decode cX4_kindOf 3 = .ok (.if_icmp .lt 11, 3) := by decide +kernel
theorem dX4_kindOf_6 : decode cX4_kindOf 6 = .ok (.iload_n 0, 1) := by decide +kernel
theorem dX4_kindOf_7 : decode cX4_kindOf 7 = .ok (.bipush 122, 2) := by decide +kernel
theorem dX4_kindOf_9 : decode cX4_kindOf 9 = .ok (.if_icmp .gt 5, 3) := by decide +kernel
theorem dX4_kindOf_12 : decode cX4_kindOf 12 = .ok (.iconst 1, 1) := by decide +kernel
theorem dX4_kindOf_13 : decode cX4_kindOf 13 = .ok (.ireturn, 1) := by decide +kernel
theorem dX4_kindOf_14 : decode cX4_kindOf 14 = .ok (.iload_n 0, 1) := by decide +kernel
theorem dX4_kindOf_15 : decode cX4_kindOf 15 = .ok (.bipush 48, 2) := by decide +kernel
theorem dX4_kindOf_17 : decode cX4_kindOf 17 = .ok (.if_icmp .lt 11, 3) := by decide +kernel
theorem dX4_kindOf_20 : decode cX4_kindOf 20 = .ok (.iload_n 0, 1) := by decide +kernel
theorem dX4_kindOf_21 : decode cX4_kindOf 21 = .ok (.bipush 57, 2) := by decide +kernel
theorem dX4_kindOf_23 : decode cX4_kindOf 23 = .ok (.if_icmp .gt 5, 3) := by decide +kernel
theorem dX4_kindOf_26 : decode cX4_kindOf 26 = .ok (.iconst 2, 1) := by decide +kernel
theorem dX4_kindOf_27 : decode cX4_kindOf 27 = .ok (.ireturn, 1) := by decide +kernel
theorem dX4_kindOf_28 : decode cX4_kindOf 28 = .ok (.iload_n 0, 1) := by decide +kernel
theorem dX4_kindOf_29 : decode cX4_kindOf 29 = .ok (.bipush 59, 2) := by decide +kernel
theorem dX4_kindOf_31 : decode cX4_kindOf 31 = .ok (.if_icmp .ne 7, 3) := by decide +kernel
theorem dX4_kindOf_34 : decode cX4_kindOf 34 = .ok (.iconst 3, 1) := by decide +kernel
theorem dX4_kindOf_35 : decode cX4_kindOf 35 = .ok (.goto 4, 3) := by decide +kernel
theorem dX4_kindOf_38 : decode cX4_kindOf 38 = .ok (.iconst 4, 1) := by decide +kernel
theorem dX4_kindOf_39 : decode cX4_kindOf 39 = .ok (.ireturn, 1) := by decide +kernel
set_option maxRecDepth 20000 in
theorem ggX4_isWord_J0_length_8abf5 : GoodIn wsX4_isWord wsJ0_length_8abf5 := goodIn_r _ [9, 10, 11, 12, 13, 8, 14, 15, 16] (by decide +kernel) (by decide +kernel)
set_option maxRecDepth 20000 in
theorem gX4_isWord_J0_length_8abf5 : GoodIn wsX4_isWord (wsV RX4 128 RJ0 yJ0_length_8abf5 wsJ0_length_8abf5) := goodIn_app (goodIn_of _ (by decide +kernel)) ggX4_isWord_J0_length_8abf5
set_option maxRecDepth 20000 in
theorem ggX4_isWord_J0_charAt_5068e : GoodIn wsX4_isWord wsJ0_charAt_5068e := goodIn_r _ [20, 10, 21, 22, 23, 8, 24, 15, 16, 25, 26, 27, 28, 29, 30, 31, 32, 33, 34, 35, 36, 37, 38, 39, 40, 41, 42, 43, 44, 45, 46, 47, 48, 49, 50, 51, 52, 53] (by decide +kernel) (by decide +kernel)
set_option maxRecDepth 20000 in
theorem gX4_isWord_J0_charAt_5068e : GoodIn wsX4_isWord (wsV RX4 133 RJ0 yJ0_charAt_5068e wsJ0_charAt_5068e) := goodIn_app (goodIn_of _ (by decide +kernel)) ggX4_isWord_J0_charAt_5068e
theorem dX4_isWord_0 : decode cX4_isWord 0 = .ok (.aload_n 0, 1) := by decide +kernel
theorem dX4_isWord_1 : decode cX4_isWord 1 = .ok (.getfield 41, 3) := by decide +kernel
theorem dX4_isWord_4 : decode cX4_isWord 4 = .ok (.iconst 1, 1) := by decide +kernel
theorem dX4_isWord_5 : decode cX4_isWord 5 = .ok (.if_icmp .ne 19, 3) := by decide +kernel
theorem dX4_isWord_8 : decode cX4_isWord 8 = .ok (.aload_n 0, 1) := by decide +kernel
theorem dX4_isWord_9 : decode cX4_isWord 9 = .ok (.getfield 28, 3) := by decide +kernel
theorem dX4_isWord_12 : decode cX4_isWord 12 = .ok (.aload_n 0, 1) := by decide +kernel
theorem dX4_isWord_13 : decode cX4_isWord 13 = .ok (.getfield 121, 3) := by decide +kernel
theorem dX4_isWord_16 : decode cX4_isWord 16 = .ok (.isub, 1) := by decide +kernel
theorem dX4_isWord_17 : decode cX4_isWord 17 = .ok (.aload_n 1, 1) := by decide +kernel
theorem dX4_isWord_18 : decode cX4_isWord 18 = .ok (.invokevirtual 128, 3) := by decide +kernel
theorem dX4_isWord_21 : decode cX4_isWord 21 = .ok (.if_icmp .eq 5, 3) := by decide +kernel
theorem dX4_isWord_24 : decode cX4_isWord 24 = .ok (.iconst 0, 1) := by decide +kernel
theorem dX4_isWord_25 : decode cX4_isWord 25 = .ok (.ireturn, 1) := by decide +kernel
theorem dX4_isWord_26 : decode cX4_isWord 26 = .ok (.iconst 0, 1) := by decide +kernel
theorem dX4_isWord_27 : decode cX4_isWord 27 = .ok (.istore_n 2, 1) := by decide +kernel
theorem dX4_isWord_28 : decode cX4_isWord 28 = .ok (.iload_n 2, 1) := by decide +kernel
theorem dX4_isWord_29 : decode cX4_isWord 29 = .ok (.aload_n 1, 1) := by decide +kernel
theorem dX4_isWord_30 : decode cX4_isWord 30 = .ok (.invokevirtual 128, 3) := by decide +kernel
theorem dX4_isWord_33 : decode cX4_isWord 33 = .ok (.if_icmp .ge 30, 3) := by decide +kernel
theorem dX4_isWord_36 : decode cX4_isWord 36 = .ok (.aload_n 0, 1) := by decide +kernel
theorem dX4_isWord_37 : decode cX4_isWord 37 = .ok (.getfield 9, 3) := by decide +kernel
theorem dX4_isWord_40 : decode cX4_isWord 40 = .ok (.aload_n 0, 1) := by decide +kernel
theorem dX4_isWord_41 : decode cX4_isWord 41 = .ok (.getfield 121, 3) := by decide +kernel
theorem dX4_isWord_44 : decode cX4_isWord 44 = .ok (.iload_n 2, 1) := by decide +kernel
theorem dX4_isWord_45 : decode cX4_isWord 45 = .ok (.iadd, 1) := by decide +kernel
theorem dX4_isWord_46 : decode cX4_isWord 46 = .ok (.iaload, 1) := by decide +kernel
theorem dX4_isWord_47 : decode cX4_isWord 47 = .ok (.aload_n 1, 1) := by decide +kernel
theorem dX4_isWord_48 : decode cX4_isWord 48 = .ok (.iload_n 2, 1) := by decide +kernel
theorem dX4_isWord_49 : decode cX4_isWord 49 = .ok (.invokevirtual 133, 3) := by decide +kernel
theorem dX4_isWord_52 : decode cX4_isWord 52 = .ok (.if_icmp .eq 5, 3) := by decide +kernel
theorem dX4_isWord_55 : decode cX4_isWord 55 = .ok (.iconst 0, 1) := by decide +kernel
theorem dX4_isWord_56 : decode cX4_isWord 56 = .ok (.ireturn, 1) := by decide +kernel
theorem dX4_isWord_57 : decode cX4_isWord 57 = .ok (.iinc 2 1, 3) := by decide +kernel
theorem dX4_isWord_60 : decode cX4_isWord 60 = .ok (.goto (-32), 3) := by decide +kernel
theorem dX4_isWord_63 : decode cX4_isWord 63 = .ok (.iconst 1, 1) := by decide +kernel
theorem dX4_isWord_64 : decode cX4_isWord 64 = .ok (.ireturn, 1) := by decide +kernel
theorem dX5_init_0 : decode cX5_init 0 = .ok (.aload_n 0, 1) := by decide +kernel
theorem dX5_init_1 : decode cX5_init 1 = .ok (.invokespecial 3, 3) := by decide +kernel
theorem dX5_init_4 : decode cX5_init 4 = .ok (.aload_n 0, 1) := by decide +kernel
theorem dX5_init_5 : decode cX5_init 5 = .ok (.sipush 240, 3) := by decide +kernel
theorem dX5_init_8 : decode cX5_init 8 = .ok (.newarray .int, 2) := by decide +kernel
theorem dX5_init_10 : decode cX5_init 10 = .ok (.putfield 9, 3) := by decide +kernel
theorem dX5_init_13 : decode cX5_init 13 = .ok (.aload_n 0, 1) := by decide +kernel
theorem dX5_init_14 : decode cX5_init 14 = .ok (.sipush 240, 3) := by decide +kernel
theorem dX5_init_17 : decode cX5_init 17 = .ok (.newarray .int, 2) := by decide +kernel
theorem dX5_init_19 : decode cX5_init 19 = .ok (.putfield 15, 3) := by decide +kernel
theorem dX5_init_22 : decode cX5_init 22 = .ok (.return_, 1) := by decide +kernel
set_option maxRecDepth 20000 in
theorem ggX5_clear_J7_fill_53178 : GoodIn wsX5_clear wsJ7_fill_53178 := goodIn_r _ [6] (by decide +kernel) (by decide +kernel)
set_option maxRecDepth 20000 in
theorem gX5_clear_J7_fill_53178 : GoodIn wsX5_clear (va_wsS RX5 18 yJ7_fill_53178 wsJ7_fill_53178) := goodIn_app (goodIn_of _ (by decide +kernel)) ggX5_clear_J7_fill_53178
theorem dX5_clear_0 : decode cX5_clear 0 = .ok (.aload_n 0, 1) := by decide +kernel
theorem dX5_clear_1 : decode cX5_clear 1 = .ok (.getfield 9, 3) := by decide +kernel
theorem dX5_clear_4 : decode cX5_clear 4 = .ok (.iconst 0, 1) := by decide +kernel
theorem dX5_clear_5 : decode cX5_clear 5 = .ok (.invokestatic 18, 3) := by decide +kernel
theorem dX5_clear_8 : decode cX5_clear 8 = .ok (.aload_n 0, 1) := by decide +kernel
theorem dX5_clear_9 : decode cX5_clear 9 = .ok (.getfield 15, 3) := by decide +kernel
theorem dX5_clear_12 : decode cX5_clear 12 = .ok (.iconst (-1), 1) := by decide +kernel
theorem dX5_clear_13 : decode cX5_clear 13 = .ok (.invokestatic 18, 3) := by decide +kernel
theorem dX5_clear_16 : decode cX5_clear 16 = .ok (.return_, 1) := by decide +kernel
set_option maxRecDepth 20000 in
theorem ggX5_clearButPlaces_X5_clear : GoodIn wsX5_clearButPlaces wsX5_clear := goodIn_r _ [9, 2, 10, 11, 12, 13, 14, 28, 29, 30, 31, 32] (by decide +kernel) (by decide +kernel)
set_option maxRecDepth 20000 in
theorem gX5_clearButPlaces_X5_clear : GoodIn wsX5_clearButPlaces (wsV RX5 24 RX5 yX5_clear wsX5_clear) := goodIn_app (goodIn_of _ (by decide +kernel)) ggX5_clearButPlaces_X5_clear
set_option maxRecDepth 20000 in
theorem ggX5_clearButPlaces_X6_cellOf : GoodIn wsX5_clearButPlaces wsX6_cellOf := goodIn_r _ [17] (by decide +kernel) (by decide +kernel)
set_option maxRecDepth 20000 in
theorem gX5_clearButPlaces_X6_cellOf_n39 : GoodIn wsX5_clearButPlaces (wsX6_cellOf) := ggX5_clearButPlaces_X6_cellOf
theorem dX5_clearButPlaces_0 : decode cX5_clearButPlaces 0 = .ok (.aload_n 0, 1) := by decide +kernel
theorem dX5_clearButPlaces_1 : decode cX5_clearButPlaces 1 = .ok (.invokevirtual 24, 3) := by decide +kernel
theorem dX5_clearButPlaces_4 : decode cX5_clearButPlaces 4 = .ok (.iconst 0, 1) := by decide +kernel
theorem dX5_clearButPlaces_5 : decode cX5_clearButPlaces 5 = .ok (.istore_n 2, 1) := by decide +kernel
theorem dX5_clearButPlaces_6 : decode cX5_clearButPlaces 6 = .ok (.iload_n 2, 1) := by decide +kernel
theorem dX5_clearButPlaces_7 : decode cX5_clearButPlaces 7 = .ok (.aload_n 1, 1) := by decide +kernel
theorem dX5_clearButPlaces_8 : decode cX5_clearButPlaces 8 = .ok (.getfield 27, 3) := by decide +kernel
theorem dX5_clearButPlaces_11 : decode cX5_clearButPlaces 11 = .ok (.if_icmp .ge 32, 3) := by decide +kernel
theorem dX5_clearButPlaces_14 : decode cX5_clearButPlaces 14 = .ok (.aload_n 0, 1) := by decide +kernel
theorem dX5_clearButPlaces_15 : decode cX5_clearButPlaces 15 = .ok (.getfield 9, 3) := by decide +kernel
theorem dX5_clearButPlaces_18 : decode cX5_clearButPlaces 18 = .ok (.aload_n 1, 1) := by decide +kernel
theorem dX5_clearButPlaces_19 : decode cX5_clearButPlaces 19 = .ok (.getfield 33, 3) := by decide +kernel
theorem dX5_clearButPlaces_22 : decode cX5_clearButPlaces 22 = .ok (.iload_n 2, 1) := by decide +kernel
theorem dX5_clearButPlaces_23 : decode cX5_clearButPlaces 23 = .ok (.iaload, 1) := by decide +kernel
theorem dX5_clearButPlaces_24 : decode cX5_clearButPlaces 24 = .ok (.aload_n 1, 1) := by decide +kernel
theorem dX5_clearButPlaces_25 : decode cX5_clearButPlaces 25 = .ok (.getfield 36, 3) := by decide +kernel
theorem dX5_clearButPlaces_28 : decode cX5_clearButPlaces 28 = .ok (.iload_n 2, 1) := by decide +kernel
theorem dX5_clearButPlaces_29 : decode cX5_clearButPlaces 29 = .ok (.iaload, 1) := by decide +kernel
theorem dX5_clearButPlaces_30 : decode cX5_clearButPlaces 30 = .ok (.invokestatic 39, 3) := by decide +kernel
theorem dX5_clearButPlaces_33 : decode cX5_clearButPlaces 33 = .ok (.iconst 1, 1) := by decide +kernel
theorem dX5_clearButPlaces_34 : decode cX5_clearButPlaces 34 = .ok (.iload_n 2, 1) := by decide +kernel
theorem dX5_clearButPlaces_35 : decode cX5_clearButPlaces 35 = .ok (.ishl, 1) := by decide +kernel
theorem dX5_clearButPlaces_36 : decode cX5_clearButPlaces 36 = .ok (.iastore, 1) := by decide +kernel
theorem dX5_clearButPlaces_37 : decode cX5_clearButPlaces 37 = .ok (.iinc 2 1, 3) := by decide +kernel
theorem dX5_clearButPlaces_40 : decode cX5_clearButPlaces 40 = .ok (.goto (-34), 3) := by decide +kernel
theorem dX5_clearButPlaces_43 : decode cX5_clearButPlaces 43 = .ok (.return_, 1) := by decide +kernel
theorem dX5_copyFrom_0 : decode cX5_copyFrom 0 = .ok (.aload_n 1, 1) := by decide +kernel
theorem dX5_copyFrom_1 : decode cX5_copyFrom 1 = .ok (.getfield 9, 3) := by decide +kernel
theorem dX5_copyFrom_4 : decode cX5_copyFrom 4 = .ok (.iconst 0, 1) := by decide +kernel
theorem dX5_copyFrom_5 : decode cX5_copyFrom 5 = .ok (.aload_n 0, 1) := by decide +kernel
theorem dX5_copyFrom_6 : decode cX5_copyFrom 6 = .ok (.getfield 9, 3) := by decide +kernel
theorem dX5_copyFrom_9 : decode cX5_copyFrom 9 = .ok (.iconst 0, 1) := by decide +kernel
theorem dX5_copyFrom_10 : decode cX5_copyFrom 10 = .ok (.sipush 240, 3) := by decide +kernel
theorem dX5_copyFrom_13 : decode cX5_copyFrom 13 = .ok (.invokestatic 43, 3) := by decide +kernel
theorem dX5_copyFrom_16 : decode cX5_copyFrom 16 = .ok (.aload_n 1, 1) := by decide +kernel
theorem dX5_copyFrom_17 : decode cX5_copyFrom 17 = .ok (.getfield 15, 3) := by decide +kernel
theorem dX5_copyFrom_20 : decode cX5_copyFrom 20 = .ok (.iconst 0, 1) := by decide +kernel
theorem dX5_copyFrom_21 : decode cX5_copyFrom 21 = .ok (.aload_n 0, 1) := by decide +kernel
theorem dX5_copyFrom_22 : decode cX5_copyFrom 22 = .ok (.getfield 15, 3) := by decide +kernel
theorem dX5_copyFrom_25 : decode cX5_copyFrom 25 = .ok (.iconst 0, 1) := by decide +kernel
theorem dX5_copyFrom_26 : decode cX5_copyFrom 26 = .ok (.sipush 240, 3) := by decide +kernel
theorem dX5_copyFrom_29 : decode cX5_copyFrom 29 = .ok (.invokestatic 43, 3) := by decide +kernel
theorem dX5_copyFrom_32 : decode cX5_copyFrom 32 = .ok (.return_, 1) := by decide +kernel
set_option maxRecDepth 20000 in
theorem ggX5_finish_X5_sumOfInk : GoodIn wsX5_finish wsX5_sumOfInk := goodIn_r _ [8, 9, 10, 11, 12, 13, 14, 15, 16, 17, 18, 19, 20, 21, 22, 23, 24, 25, 26, 27, 28, 29, 30, 31, 32, 38, 39, 40, 41, 42, 43, 44, 45, 46, 47, 33, 34, 35, 36, 37] (by decide +kernel) (by decide +kernel)
set_option maxRecDepth 20000 in
theorem gX5_finish_X5_sumOfInk : GoodIn wsX5_finish (wsV RX5 56 RX5 yX5_sumOfInk wsX5_sumOfInk) := goodIn_app (goodIn_of _ (by decide +kernel)) ggX5_finish_X5_sumOfInk
theorem dX5_finish_0 : decode cX5_finish 0 = .ok (.aload_n 0, 1) := by decide +kernel
theorem dX5_finish_1 : decode cX5_finish 1 = .ok (.iconst 1, 1) := by decide +kernel
theorem dX5_finish_2 : decode cX5_finish 2 = .ok (.putfield 49, 3) := by decide +kernel
theorem dX5_finish_5 : decode cX5_finish 5 = .ok (.aload_n 0, 1) := by decide +kernel
theorem dX5_finish_6 : decode cX5_finish 6 = .ok (.iload_n 2, 1) := by decide +kernel
theorem dX5_finish_7 : decode cX5_finish 7 = .ok (.putfield 53, 3) := by decide +kernel
theorem dX5_finish_10 : decode cX5_finish 10 = .ok (.aload_n 0, 1) := by decide +kernel
theorem dX5_finish_11 : decode cX5_finish 11 = .ok (.iload_n 2, 1) := by decide +kernel
theorem dX5_finish_12 : decode cX5_finish 12 = .ok (.ifCond .eq 11, 3) := by decide +kernel
theorem dX5_finish_15 : decode cX5_finish 15 = .ok (.aload_n 0, 1) := by decide +kernel
theorem dX5_finish_16 : decode cX5_finish 16 = .ok (.aload_n 1, 1) := by decide +kernel
theorem dX5_finish_17 : decode cX5_finish 17 = .ok (.invokevirtual 56, 3) := by decide +kernel
theorem dX5_finish_20 : decode cX5_finish 20 = .ok (.goto 4, 3) := by decide +kernel
theorem dX5_finish_23 : decode cX5_finish 23 = .ok (.iconst 0, 1) := by decide +kernel
theorem dX5_finish_24 : decode cX5_finish 24 = .ok (.putfield 60, 3) := by decide +kernel
theorem dX5_finish_27 : decode cX5_finish 27 = .ok (.return_, 1) := by decide +kernel
theorem dX5_bendsAt_0 : decode cX5_bendsAt 0 = .ok (.aload_n 0, 1) := by decide +kernel
theorem dX5_bendsAt_1 : decode cX5_bendsAt 1 = .ok (.getfield 15, 3) := by decide +kernel
theorem dX5_bendsAt_4 : decode cX5_bendsAt 4 = .ok (.iload_n 1, 1) := by decide +kernel
theorem dX5_bendsAt_5 : decode cX5_bendsAt 5 = .ok (.iaload, 1) := by decide +kernel
theorem dX5_bendsAt_6 : decode cX5_bendsAt 6 = .ok (.iconst 1, 1) := by decide +kernel
theorem dX5_bendsAt_7 : decode cX5_bendsAt 7 = .ok (.if_icmp .eq 13, 3) := by decide +kernel
theorem dX5_bendsAt_10 : decode cX5_bendsAt 10 = .ok (.aload_n 0, 1) := by decide +kernel
theorem dX5_bendsAt_11 : decode cX5_bendsAt 11 = .ok (.getfield 15, 3) := by decide +kernel
theorem dX5_bendsAt_14 : decode cX5_bendsAt 14 = .ok (.iload_n 1, 1) := by decide +kernel
theorem dX5_bendsAt_15 : decode cX5_bendsAt 15 = .ok (.iaload, 1) := by decide +kernel
theorem dX5_bendsAt_16 : decode cX5_bendsAt 16 = .ok (.iconst 2, 1) := by decide +kernel
theorem dX5_bendsAt_17 : decode cX5_bendsAt 17 = .ok (.if_icmp .ne 7, 3) := by decide +kernel
theorem dX5_bendsAt_20 : decode cX5_bendsAt 20 = .ok (.iconst 1, 1) := by decide +kernel
theorem dX5_bendsAt_21 : decode cX5_bendsAt 21 = .ok (.goto 4, 3) := by decide +kernel
theorem dX5_bendsAt_24 : decode cX5_bendsAt 24 = .ok (.iconst 0, 1) := by decide +kernel
theorem dX5_bendsAt_25 : decode cX5_bendsAt 25 = .ok (.ireturn, 1) := by decide +kernel
set_option maxRecDepth 20000 in
theorem ggX5_comersToCell_X1_placeAt : GoodIn wsX5_comersToCell wsX1_placeAt := goodIn_r _ [7, 8, 9, 10, 19, 20, 21, 22, 23, 24, 25, 26, 27, 28] (by decide +kernel) (by decide +kernel)
set_option maxRecDepth 20000 in
theorem gX5_comersToCell_X1_placeAt : GoodIn wsX5_comersToCell (wsV RX5 63 RX1 yX1_placeAt wsX1_placeAt) := goodIn_app (goodIn_of _ (by decide +kernel)) ggX5_comersToCell_X1_placeAt
set_option maxRecDepth 20000 in
theorem ggX5_comersToCell_X6_cellOf : GoodIn wsX5_comersToCell wsX6_cellOf := goodIn_r _ [13] (by decide +kernel) (by decide +kernel)
set_option maxRecDepth 20000 in
theorem gX5_comersToCell_X6_cellOf_n39 : GoodIn wsX5_comersToCell (wsX6_cellOf) := ggX5_comersToCell_X6_cellOf
set_option maxRecDepth 20000 in
theorem ggX5_comersToCell_X1_turnBeside : GoodIn wsX5_comersToCell wsX1_turnBeside := goodIn_r _ [17, 18, 19, 20, 21, 22, 23, 24, 25, 26, 27, 28] (by decide +kernel) (by decide +kernel)
set_option maxRecDepth 20000 in
theorem gX5_comersToCell_X1_turnBeside : GoodIn wsX5_comersToCell (wsV RX5 69 RX1 yX1_turnBeside wsX1_turnBeside) := goodIn_app (goodIn_of _ (by decide +kernel)) ggX5_comersToCell_X1_turnBeside
theorem dX5_comersToCell_0 : decode cX5_comersToCell 0 = .ok (.aload_n 1, 1) := by decide +kernel
theorem dX5_comersToCell_1 : decode cX5_comersToCell 1 = .ok (.iload_n 2, 1) := by decide +kernel
theorem dX5_comersToCell_2 : decode cX5_comersToCell 2 = .ok (.iload_n 3, 1) := by decide +kernel
theorem dX5_comersToCell_3 : decode cX5_comersToCell 3 = .ok (.invokevirtual 63, 3) := by decide +kernel
theorem dX5_comersToCell_6 : decode cX5_comersToCell 6 = .ok (.iconst (-1), 1) := by decide +kernel
theorem dX5_comersToCell_7 : decode cX5_comersToCell 7 = .ok (.if_icmp .ne 7, 3) := by decide +kernel
theorem dX5_comersToCell_10 : decode cX5_comersToCell 10 = .ok (.iconst 0, 1) := by decide +kernel
theorem dX5_comersToCell_11 : decode cX5_comersToCell 11 = .ok (.goto 4, 3) := by decide +kernel
theorem dX5_comersToCell_14 : decode cX5_comersToCell 14 = .ok (.iconst 1, 1) := by decide +kernel
theorem dX5_comersToCell_15 : decode cX5_comersToCell 15 = .ok (.istore 4, 2) := by decide +kernel
theorem dX5_comersToCell_17 : decode cX5_comersToCell 17 = .ok (.iload_n 2, 1) := by decide +kernel
theorem dX5_comersToCell_18 : decode cX5_comersToCell 18 = .ok (.aload_n 1, 1) := by decide +kernel
theorem dX5_comersToCell_19 : decode cX5_comersToCell 19 = .ok (.getfield 66, 3) := by decide +kernel
theorem dX5_comersToCell_22 : decode cX5_comersToCell 22 = .ok (.if_icmp .ge 90, 3) := by decide +kernel
theorem dX5_comersToCell_25 : decode cX5_comersToCell 25 = .ok (.iload 4, 2) := by decide +kernel
theorem dX5_comersToCell_27 : decode cX5_comersToCell 27 = .ok (.aload_n 0, 1) := by decide +kernel
theorem dX5_comersToCell_28 : decode cX5_comersToCell 28 = .ok (.getfield 15, 3) := by decide +kernel
theorem dX5_comersToCell_31 : decode cX5_comersToCell 31 = .ok (.iload_n 2, 1) := by decide +kernel
theorem dX5_comersToCell_32 : decode cX5_comersToCell 32 = .ok (.iconst 1, 1) := by decide +kernel
theorem dX5_comersToCell_33 : decode cX5_comersToCell 33 = .ok (.iadd, 1) := by decide +kernel
theorem dX5_comersToCell_34 : decode cX5_comersToCell 34 = .ok (.iload_n 3, 1) := by decide +kernel
theorem dX5_comersToCell_35 : decode cX5_comersToCell 35 = .ok (.invokestatic 39, 3) := by decide +kernel
theorem dX5_comersToCell_38 : decode cX5_comersToCell 38 = .ok (.iaload, 1) := by decide +kernel
theorem dX5_comersToCell_39 : decode cX5_comersToCell 39 = .ok (.ifCond .ne 7, 3) := by decide +kernel
theorem dX5_comersToCell_42 : decode cX5_comersToCell 42 = .ok (.iconst 1, 1) := by decide +kernel
theorem dX5_comersToCell_43 : decode cX5_comersToCell 43 = .ok (.goto 4, 3) := by decide +kernel
theorem dX5_comersToCell_46 : decode cX5_comersToCell 46 = .ok (.iconst 0, 1) := by decide +kernel
theorem dX5_comersToCell_47 : decode cX5_comersToCell 47 = .ok (.iadd, 1) := by decide +kernel
theorem dX5_comersToCell_48 : decode cX5_comersToCell 48 = .ok (.istore 4, 2) := by decide +kernel
theorem dX5_comersToCell_50 : decode cX5_comersToCell 50 = .ok (.iload 4, 2) := by decide +kernel
theorem dX5_comersToCell_52 : decode cX5_comersToCell 52 = .ok (.aload_n 0, 1) := by decide +kernel
theorem dX5_comersToCell_53 : decode cX5_comersToCell 53 = .ok (.getfield 15, 3) := by decide +kernel
theorem dX5_comersToCell_56 : decode cX5_comersToCell 56 = .ok (.iload_n 2, 1) := by decide +kernel
theorem dX5_comersToCell_57 : decode cX5_comersToCell 57 = .ok (.iconst 1, 1) := by decide +kernel
theorem dX5_comersToCell_58 : decode cX5_comersToCell 58 = .ok (.iadd, 1) := by decide +kernel
theorem dX5_comersToCell_59 : decode cX5_comersToCell 59 = .ok (.aload_n 1, 1) := by decide +kernel
theorem dX5_comersToCell_60 : decode cX5_comersToCell 60 = .ok (.iload_n 3, 1) := by decide +kernel
theorem dX5_comersToCell_61 : decode cX5_comersToCell 61 = .ok (.iconst 1, 1) := by decide +kernel
theorem dX5_comersToCell_62 : decode cX5_comersToCell 62 = .ok (.invokevirtual 69, 3) := by decide +kernel
theorem dX5_comersToCell_65 : decode cX5_comersToCell 65 = .ok (.invokestatic 39, 3) := by decide +kernel
theorem dX5_comersToCell_68 : decode cX5_comersToCell 68 = .ok (.iaload, 1) := by decide +kernel
theorem dX5_comersToCell_69 : decode cX5_comersToCell 69 = .ok (.iconst 2, 1) := by decide +kernel
theorem dX5_comersToCell_70 : decode cX5_comersToCell 70 = .ok (.if_icmp .ne 7, 3) := by decide +kernel
theorem dX5_comersToCell_73 : decode cX5_comersToCell 73 = .ok (.iconst 1, 1) := by decide +kernel
theorem dX5_comersToCell_74 : decode cX5_comersToCell 74 = .ok (.goto 4, 3) := by decide +kernel
theorem dX5_comersToCell_77 : decode cX5_comersToCell 77 = .ok (.iconst 0, 1) := by decide +kernel
theorem dX5_comersToCell_78 : decode cX5_comersToCell 78 = .ok (.iadd, 1) := by decide +kernel
theorem dX5_comersToCell_79 : decode cX5_comersToCell 79 = .ok (.istore 4, 2) := by decide +kernel
theorem dX5_comersToCell_81 : decode cX5_comersToCell 81 = .ok (.iload 4, 2) := by decide +kernel
theorem dX5_comersToCell_83 : decode cX5_comersToCell 83 = .ok (.aload_n 0, 1) := by decide +kernel
theorem dX5_comersToCell_84 : decode cX5_comersToCell 84 = .ok (.getfield 15, 3) := by decide +kernel
theorem dX5_comersToCell_87 : decode cX5_comersToCell 87 = .ok (.iload_n 2, 1) := by decide +kernel
theorem dX5_comersToCell_88 : decode cX5_comersToCell 88 = .ok (.iconst 1, 1) := by decide +kernel
theorem dX5_comersToCell_89 : decode cX5_comersToCell 89 = .ok (.iadd, 1) := by decide +kernel
theorem dX5_comersToCell_90 : decode cX5_comersToCell 90 = .ok (.aload_n 1, 1) := by decide +kernel
theorem dX5_comersToCell_91 : decode cX5_comersToCell 91 = .ok (.iload_n 3, 1) := by decide +kernel
theorem dX5_comersToCell_92 : decode cX5_comersToCell 92 = .ok (.iconst 2, 1) := by decide +kernel
theorem dX5_comersToCell_93 : decode cX5_comersToCell 93 = .ok (.invokevirtual 69, 3) := by decide +kernel
theorem dX5_comersToCell_96 : decode cX5_comersToCell 96 = .ok (.invokestatic 39, 3) := by decide +kernel
theorem dX5_comersToCell_99 : decode cX5_comersToCell 99 = .ok (.iaload, 1) := by decide +kernel
theorem dX5_comersToCell_100 : decode cX5_comersToCell 100 = .ok (.iconst 1, 1) := by decide +kernel
theorem dX5_comersToCell_101 : decode cX5_comersToCell 101 = .ok (.if_icmp .ne 7, 3) := by decide +kernel
theorem dX5_comersToCell_104 : decode cX5_comersToCell 104 = .ok (.iconst 1, 1) := by decide +kernel
theorem dX5_comersToCell_105 : decode cX5_comersToCell 105 = .ok (.goto 4, 3) := by decide +kernel
theorem dX5_comersToCell_108 : decode cX5_comersToCell 108 = .ok (.iconst 0, 1) := by decide +kernel
theorem dX5_comersToCell_109 : decode cX5_comersToCell 109 = .ok (.iadd, 1) := by decide +kernel
theorem dX5_comersToCell_110 : decode cX5_comersToCell 110 = .ok (.istore 4, 2) := by decide +kernel
theorem dX5_comersToCell_112 : decode cX5_comersToCell 112 = .ok (.iload 4, 2) := by decide +kernel
theorem dX5_comersToCell_114 : decode cX5_comersToCell 114 = .ok (.ireturn, 1) := by decide +kernel
set_option maxRecDepth 20000 in
theorem ggX5_comers_X5_branchesOf : GoodIn wsX5_comers wsX5_branchesOf := goodIn_r _ [5, 6, 7, 8, 9, 10, 30, 31, 32, 33, 34, 35, 36, 37, 38, 39, 40, 41, 42, 43, 44] (by decide +kernel) (by decide +kernel)
set_option maxRecDepth 20000 in
theorem gX5_comers_X5_branchesOf : GoodIn wsX5_comers (wsV RX5 72 RX5 yX5_branchesOf wsX5_branchesOf) := goodIn_app (goodIn_of _ (by decide +kernel)) ggX5_comers_X5_branchesOf
set_option maxRecDepth 20000 in
theorem ggX5_comers_X5_comersToCell : GoodIn wsX5_comers wsX5_comersToCell := goodIn_r _ [14, 15, 16, 17, 18, 19, 20, 21, 22, 23, 24, 8, 9, 10, 25, 26, 27, 28, 29, 30, 31, 32, 33, 34, 35, 36, 37, 38, 39, 40, 41, 42, 43, 44] (by decide +kernel) (by decide +kernel)
set_option maxRecDepth 20000 in
theorem gX5_comers_X5_comersToCell : GoodIn wsX5_comers (wsV RX5 76 RX5 yX5_comersToCell wsX5_comersToCell) := goodIn_app (goodIn_of _ (by decide +kernel)) ggX5_comers_X5_comersToCell
theorem dX5_comers_0 : decode cX5_comers 0 = .ok (.iload_n 2, 1) := by decide +kernel
theorem dX5_comers_1 : decode cX5_comers 1 = .ok (.ifCond .ne 12, 3) := by decide +kernel
theorem dX5_comers_4 : decode cX5_comers 4 = .ok (.aload_n 0, 1) := by decide +kernel
theorem dX5_comers_5 : decode cX5_comers 5 = .ok (.aload_n 1, 1) := by decide +kernel
theorem dX5_comers_6 : decode cX5_comers 6 = .ok (.iconst 1, 1) := by decide +kernel
theorem dX5_comers_7 : decode cX5_comers 7 = .ok (.invokevirtual 72, 3) := by decide +kernel
theorem dX5_comers_10 : decode cX5_comers 10 = .ok (.goto 10, 3) := by decide +kernel
theorem dX5_comers_13 : decode cX5_comers 13 = .ok (.aload_n 0, 1) := by decide +kernel
theorem dX5_comers_14 : decode cX5_comers 14 = .ok (.aload_n 1, 1) := by decide +kernel
theorem dX5_comers_15 : decode cX5_comers 15 = .ok (.iload_n 2, 1) := by decide +kernel
theorem dX5_comers_16 : decode cX5_comers 16 = .ok (.iload_n 3, 1) := by decide +kernel
theorem dX5_comers_17 : decode cX5_comers 17 = .ok (.invokevirtual 76, 3) := by decide +kernel
theorem dX5_comers_20 : decode cX5_comers 20 = .ok (.ireturn, 1) := by decide +kernel
set_option maxRecDepth 20000 in
theorem ggX5_joins_X1_turnsOf : GoodIn wsX5_joins wsX1_turnsOf := goodIn_r _ [6, 7, 38, 39, 40, 41, 42, 43, 44, 45, 46, 47] (by decide +kernel) (by decide +kernel)
set_option maxRecDepth 20000 in
theorem gX5_joins_X1_turnsOf : GoodIn wsX5_joins (wsV RX5 80 RX1 yX1_turnsOf wsX1_turnsOf) := goodIn_app (goodIn_of _ (by decide +kernel)) ggX5_joins_X1_turnsOf
set_option maxRecDepth 20000 in
theorem ggX5_joins_X5_comers : GoodIn wsX5_joins wsX5_comers := goodIn_r _ [12, 13, 14, 15, 11, 16, 17, 18, 19, 20, 21, 22, 23, 24, 25, 1, 26, 27, 28, 29, 5, 30, 31, 32, 33, 34, 35, 36, 37, 7, 38, 39, 40, 41, 42, 43, 44, 45, 46, 47, 48, 49, 50, 51, 52] (by decide +kernel) (by decide +kernel)
set_option maxRecDepth 20000 in
theorem gX5_joins_X5_comers : GoodIn wsX5_joins (wsV RX5 84 RX5 yX5_comers wsX5_comers) := goodIn_app (goodIn_of _ (by decide +kernel)) ggX5_joins_X5_comers
theorem dX5_joins_0 : decode cX5_joins 0 = .ok (.iconst 0, 1) := by decide +kernel
theorem dX5_joins_1 : decode cX5_joins 1 = .ok (.istore_n 2, 1) := by decide +kernel
theorem dX5_joins_2 : decode cX5_joins 2 = .ok (.aload_n 1, 1) := by decide +kernel
theorem dX5_joins_3 : decode cX5_joins 3 = .ok (.getfield 66, 3) := by decide +kernel
theorem dX5_joins_6 : decode cX5_joins 6 = .ok (.istore_n 3, 1) := by decide +kernel
theorem dX5_joins_7 : decode cX5_joins 7 = .ok (.iload_n 3, 1) := by decide +kernel
theorem dX5_joins_8 : decode cX5_joins 8 = .ok (.ifCond .lt 43, 3) := by decide +kernel
theorem dX5_joins_11 : decode cX5_joins 11 = .ok (.iconst 0, 1) := by decide +kernel
theorem dX5_joins_12 : decode cX5_joins 12 = .ok (.istore 4, 2) := by decide +kernel
theorem dX5_joins_14 : decode cX5_joins 14 = .ok (.iload 4, 2) := by decide +kernel
theorem dX5_joins_16 : decode cX5_joins 16 = .ok (.aload_n 1, 1) := by decide +kernel
theorem dX5_joins_17 : decode cX5_joins 17 = .ok (.iload_n 3, 1) := by decide +kernel
theorem dX5_joins_18 : decode cX5_joins 18 = .ok (.invokevirtual 80, 3) := by decide +kernel
theorem dX5_joins_21 : decode cX5_joins 21 = .ok (.if_icmp .ge 24, 3) := by decide +kernel
theorem dX5_joins_24 : decode cX5_joins 24 = .ok (.aload_n 0, 1) := by decide +kernel
theorem dX5_joins_25 : decode cX5_joins 25 = .ok (.aload_n 1, 1) := by decide +kernel
theorem dX5_joins_26 : decode cX5_joins 26 = .ok (.iload_n 3, 1) := by decide +kernel
theorem dX5_joins_27 : decode cX5_joins 27 = .ok (.iload 4, 2) := by decide +kernel
theorem dX5_joins_29 : decode cX5_joins 29 = .ok (.invokevirtual 84, 3) := by decide +kernel
theorem dX5_joins_32 : decode cX5_joins 32 = .ok (.iconst 2, 1) := by decide +kernel
theorem dX5_joins_33 : decode cX5_joins 33 = .ok (.if_icmp .lt 6, 3) := by decide +kernel
theorem dX5_joins_36 : decode cX5_joins 36 = .ok (.iinc 2 1, 3) := by decide +kernel
theorem dX5_joins_39 : decode cX5_joins 39 = .ok (.iinc 4 1, 3) := by decide +kernel
theorem dX5_joins_42 : decode cX5_joins 42 = .ok (.goto (-28), 3) := by decide +kernel
theorem dX5_joins_45 : decode cX5_joins 45 = .ok (.iinc 3 (-1), 3) := by decide +kernel
theorem dX5_joins_48 : decode cX5_joins 48 = .ok (.goto (-41), 3) := by decide +kernel
theorem dX5_joins_51 : decode cX5_joins 51 = .ok (.iload_n 2, 1) := by decide +kernel
theorem dX5_joins_52 : decode cX5_joins 52 = .ok (.ireturn, 1) := by decide +kernel
set_option maxRecDepth 20000 in
theorem ggX5_tellJoin_X1_turnsOf : GoodIn wsX5_tellJoin wsX1_turnsOf := goodIn_r _ [6, 7, 38, 39, 40, 41, 42, 43, 44, 45, 46, 47] (by decide +kernel) (by decide +kernel)
set_option maxRecDepth 20000 in
theorem gX5_tellJoin_X1_turnsOf : GoodIn wsX5_tellJoin (wsV RX5 80 RX1 yX1_turnsOf wsX1_turnsOf) := goodIn_app (goodIn_of _ (by decide +kernel)) ggX5_tellJoin_X1_turnsOf
set_option maxRecDepth 20000 in
theorem ggX5_tellJoin_X5_comers : GoodIn wsX5_tellJoin wsX5_comers := goodIn_r _ [12, 13, 14, 15, 11, 16, 17, 18, 19, 20, 21, 22, 23, 24, 25, 1, 26, 27, 28, 29, 5, 30, 31, 32, 33, 34, 35, 36, 37, 7, 38, 39, 40, 41, 42, 43, 44, 45, 46, 47, 48, 49, 50, 51, 52] (by decide +kernel) (by decide +kernel)
set_option maxRecDepth 20000 in
theorem gX5_tellJoin_X5_comers : GoodIn wsX5_tellJoin (wsV RX5 84 RX5 yX5_comers wsX5_comers) := goodIn_app (goodIn_of _ (by decide +kernel)) ggX5_tellJoin_X5_comers
theorem dX5_tellJoin_0 : decode cX5_tellJoin 0 = .ok (.iload_n 2, 1) := by decide +kernel
theorem dX5_tellJoin_1 : decode cX5_tellJoin 1 = .ok (.istore 4, 2) := by decide +kernel
theorem dX5_tellJoin_3 : decode cX5_tellJoin 3 = .ok (.aload_n 1, 1) := by decide +kernel
theorem dX5_tellJoin_4 : decode cX5_tellJoin 4 = .ok (.getfield 66, 3) := by decide +kernel
theorem dX5_tellJoin_7 : decode cX5_tellJoin 7 = .ok (.istore 5, 2) := by decide +kernel
theorem dX5_tellJoin_9 : decode cX5_tellJoin 9 = .ok (.iload 5, 2) := by decide +kernel
theorem dX5_tellJoin_11 : decode cX5_tellJoin 11 = .ok (.ifCond .lt 89, 3) := by decide +kernel
theorem dX5_tellJoin_14 : decode cX5_tellJoin 14 = .ok (.iconst 0, 1) := by decide +kernel
theorem dX5_tellJoin_15 : decode cX5_tellJoin 15 = .ok (.istore 6, 2) := by decide +kernel
theorem dX5_tellJoin_17 : decode cX5_tellJoin 17 = .ok (.iload 6, 2) := by decide +kernel
theorem dX5_tellJoin_19 : decode cX5_tellJoin 19 = .ok (.aload_n 1, 1) := by decide +kernel
theorem dX5_tellJoin_20 : decode cX5_tellJoin 20 = .ok (.iload 5, 2) := by decide +kernel
theorem dX5_tellJoin_22 : decode cX5_tellJoin 22 = .ok (.invokevirtual 80, 3) := by decide +kernel
theorem dX5_tellJoin_25 : decode cX5_tellJoin 25 = .ok (.if_icmp .ge 69, 3) := by decide +kernel
theorem dX5_tellJoin_28 : decode cX5_tellJoin 28 = .ok (.aload_n 0, 1) := by decide +kernel
theorem dX5_tellJoin_29 : decode cX5_tellJoin 29 = .ok (.aload_n 1, 1) := by decide +kernel
theorem dX5_tellJoin_30 : decode cX5_tellJoin 30 = .ok (.iload 5, 2) := by decide +kernel
theorem dX5_tellJoin_32 : decode cX5_tellJoin 32 = .ok (.iload 6, 2) := by decide +kernel
theorem dX5_tellJoin_34 : decode cX5_tellJoin 34 = .ok (.invokevirtual 84, 3) := by decide +kernel
theorem dX5_tellJoin_37 : decode cX5_tellJoin 37 = .ok (.istore 7, 2) := by decide +kernel
theorem dX5_tellJoin_39 : decode cX5_tellJoin 39 = .ok (.iload 7, 2) := by decide +kernel
theorem dX5_tellJoin_41 : decode cX5_tellJoin 41 = .ok (.iconst 2, 1) := by decide +kernel
theorem dX5_tellJoin_42 : decode cX5_tellJoin 42 = .ok (.if_icmp .lt 30, 3) := by decide +kernel
theorem dX5_tellJoin_45 : decode cX5_tellJoin 45 = .ok (.iload 4, 2) := by decide +kernel
theorem dX5_tellJoin_47 : decode cX5_tellJoin 47 = .ok (.ifCond .ne 25, 3) := by decide +kernel
theorem dX5_tellJoin_50 : decode cX5_tellJoin 50 = .ok (.iload_n 3, 1) := by decide +kernel
theorem dX5_tellJoin_51 : decode cX5_tellJoin 51 = .ok (.ifCond .ne 8, 3) := by decide +kernel
theorem dX5_tellJoin_54 : decode cX5_tellJoin 54 = .ok (.iload 5, 2) := by decide +kernel
theorem dX5_tellJoin_56 : decode cX5_tellJoin 56 = .ok (.goto 15, 3) := by decide +kernel
theorem dX5_tellJoin_59 : decode cX5_tellJoin 59 = .ok (.iload_n 3, 1) := by decide +kernel
theorem dX5_tellJoin_60 : decode cX5_tellJoin 60 = .ok (.iconst 1, 1) := by decide +kernel
theorem dX5_tellJoin_61 : decode cX5_tellJoin 61 = .ok (.if_icmp .ne 8, 3) := by decide +kernel
theorem dX5_tellJoin_64 : decode cX5_tellJoin 64 = .ok (.iload 6, 2) := by decide +kernel
theorem dX5_tellJoin_66 : decode cX5_tellJoin 66 = .ok (.goto 5, 3) := by decide +kernel
theorem dX5_tellJoin_69 : decode cX5_tellJoin 69 = .ok (.iload 7, 2) := by decide +kernel
theorem dX5_tellJoin_71 : decode cX5_tellJoin 71 = .ok (.ireturn, 1) := by decide +kernel
theorem dX5_tellJoin_72 : decode cX5_tellJoin 72 = .ok (.iload 4, 2) := by decide +kernel
theorem dX5_tellJoin_74 : decode cX5_tellJoin 74 = .ok (.iload 7, 2) := by decide +kernel
theorem dX5_tellJoin_76 : decode cX5_tellJoin 76 = .ok (.iconst 2, 1) := by decide +kernel
theorem dX5_tellJoin_77 : decode cX5_tellJoin 77 = .ok (.if_icmp .lt 7, 3) := by decide +kernel
theorem dX5_tellJoin_80 : decode cX5_tellJoin 80 = .ok (.iconst 1, 1) := by decide +kernel
theorem dX5_tellJoin_81 : decode cX5_tellJoin 81 = .ok (.goto 4, 3) := by decide +kernel
theorem dX5_tellJoin_84 : decode cX5_tellJoin 84 = .ok (.iconst 0, 1) := by decide +kernel
theorem dX5_tellJoin_85 : decode cX5_tellJoin 85 = .ok (.isub, 1) := by decide +kernel
theorem dX5_tellJoin_86 : decode cX5_tellJoin 86 = .ok (.istore 4, 2) := by decide +kernel
theorem dX5_tellJoin_88 : decode cX5_tellJoin 88 = .ok (.iinc 6 1, 3) := by decide +kernel
theorem dX5_tellJoin_91 : decode cX5_tellJoin 91 = .ok (.goto (-74), 3) := by decide +kernel
theorem dX5_tellJoin_94 : decode cX5_tellJoin 94 = .ok (.iinc 5 (-1), 3) := by decide +kernel
theorem dX5_tellJoin_97 : decode cX5_tellJoin 97 = .ok (.goto (-88), 3) := by decide +kernel
theorem dX5_tellJoin_100 : decode cX5_tellJoin 100 = .ok (.iconst (-1), 1) := by decide +kernel
theorem dX5_tellJoin_101 : decode cX5_tellJoin 101 = .ok (.ireturn, 1) := by decide +kernel
set_option maxRecDepth 20000 in
theorem ggX5_branchesOf_X6_cellOf : GoodIn wsX5_branchesOf wsX6_cellOf := goodIn_r _ [5] (by decide +kernel) (by decide +kernel)
set_option maxRecDepth 20000 in
theorem gX5_branchesOf_X6_cellOf_n39 : GoodIn wsX5_branchesOf (wsX6_cellOf) := ggX5_branchesOf_X6_cellOf
theorem dX5_branchesOf_0 : decode cX5_branchesOf 0 = .ok (.iconst 0, 1) := by decide +kernel
theorem dX5_branchesOf_1 : decode cX5_branchesOf 1 = .ok (.istore_n 3, 1) := by decide +kernel
theorem dX5_branchesOf_2 : decode cX5_branchesOf 2 = .ok (.iconst 0, 1) := by decide +kernel
theorem dX5_branchesOf_3 : decode cX5_branchesOf 3 = .ok (.istore 4, 2) := by decide +kernel
theorem dX5_branchesOf_5 : decode cX5_branchesOf 5 = .ok (.iload 4, 2) := by decide +kernel
theorem dX5_branchesOf_7 : decode cX5_branchesOf 7 = .ok (.aload_n 1, 1) := by decide +kernel
theorem dX5_branchesOf_8 : decode cX5_branchesOf 8 = .ok (.getfield 87, 3) := by decide +kernel
theorem dX5_branchesOf_11 : decode cX5_branchesOf 11 = .ok (.if_icmp .ge 26, 3) := by decide +kernel
theorem dX5_branchesOf_14 : decode cX5_branchesOf 14 = .ok (.aload_n 0, 1) := by decide +kernel
theorem dX5_branchesOf_15 : decode cX5_branchesOf 15 = .ok (.getfield 9, 3) := by decide +kernel
theorem dX5_branchesOf_18 : decode cX5_branchesOf 18 = .ok (.iload_n 2, 1) := by decide +kernel
theorem dX5_branchesOf_19 : decode cX5_branchesOf 19 = .ok (.iload 4, 2) := by decide +kernel
theorem dX5_branchesOf_21 : decode cX5_branchesOf 21 = .ok (.invokestatic 39, 3) := by decide +kernel
theorem dX5_branchesOf_24 : decode cX5_branchesOf 24 = .ok (.iaload, 1) := by decide +kernel
theorem dX5_branchesOf_25 : decode cX5_branchesOf 25 = .ok (.ifCond .eq 6, 3) := by decide +kernel
theorem dX5_branchesOf_28 : decode cX5_branchesOf 28 = .ok (.iinc 3 1, 3) := by decide +kernel
theorem dX5_branchesOf_31 : decode cX5_branchesOf 31 = .ok (.iinc 4 1, 3) := by decide +kernel
theorem dX5_branchesOf_34 : decode cX5_branchesOf 34 = .ok (.goto (-29), 3) := by decide +kernel
theorem dX5_branchesOf_37 : decode cX5_branchesOf 37 = .ok (.iload_n 3, 1) := by decide +kernel
theorem dX5_branchesOf_38 : decode cX5_branchesOf 38 = .ok (.ireturn, 1) := by decide +kernel
set_option maxRecDepth 20000 in
theorem ggX5_steps_X5_branchesOf : GoodIn wsX5_steps wsX5_branchesOf := goodIn_r _ [6, 7, 8, 9, 10, 11, 12, 13, 14, 15, 16, 17, 18, 19, 20, 21, 22, 23, 24, 25, 26] (by decide +kernel) (by decide +kernel)
set_option maxRecDepth 20000 in
theorem gX5_steps_X5_branchesOf : GoodIn wsX5_steps (wsV RX5 72 RX5 yX5_branchesOf wsX5_branchesOf) := goodIn_app (goodIn_of _ (by decide +kernel)) ggX5_steps_X5_branchesOf
theorem dX5_steps_0 : decode cX5_steps 0 = .ok (.iconst 0, 1) := by decide +kernel
theorem dX5_steps_1 : decode cX5_steps 1 = .ok (.istore_n 2, 1) := by decide +kernel
theorem dX5_steps_2 : decode cX5_steps 2 = .ok (.iconst 1, 1) := by decide +kernel
theorem dX5_steps_3 : decode cX5_steps 3 = .ok (.istore_n 3, 1) := by decide +kernel
theorem dX5_steps_4 : decode cX5_steps 4 = .ok (.iload_n 3, 1) := by decide +kernel
theorem dX5_steps_5 : decode cX5_steps 5 = .ok (.aload_n 1, 1) := by decide +kernel
theorem dX5_steps_6 : decode cX5_steps 6 = .ok (.getfield 66, 3) := by decide +kernel
theorem dX5_steps_9 : decode cX5_steps 9 = .ok (.if_icmp .gt 18, 3) := by decide +kernel
theorem dX5_steps_12 : decode cX5_steps 12 = .ok (.iload_n 2, 1) := by decide +kernel
theorem dX5_steps_13 : decode cX5_steps 13 = .ok (.aload_n 0, 1) := by decide +kernel
theorem dX5_steps_14 : decode cX5_steps 14 = .ok (.aload_n 1, 1) := by decide +kernel
theorem dX5_steps_15 : decode cX5_steps 15 = .ok (.iload_n 3, 1) := by decide +kernel
theorem dX5_steps_16 : decode cX5_steps 16 = .ok (.invokevirtual 72, 3) := by decide +kernel
theorem dX5_steps_19 : decode cX5_steps 19 = .ok (.iadd, 1) := by decide +kernel
theorem dX5_steps_20 : decode cX5_steps 20 = .ok (.istore_n 2, 1) := by decide +kernel
theorem dX5_steps_21 : decode cX5_steps 21 = .ok (.iinc 3 1, 3) := by decide +kernel
theorem dX5_steps_24 : decode cX5_steps 24 = .ok (.goto (-20), 3) := by decide +kernel
theorem dX5_steps_27 : decode cX5_steps 27 = .ok (.iload_n 2, 1) := by decide +kernel
theorem dX5_steps_28 : decode cX5_steps 28 = .ok (.ireturn, 1) := by decide +kernel
set_option maxRecDepth 20000 in
theorem ggX5_mostOfOneRing_X5_branchesOf : GoodIn wsX5_mostOfOneRing wsX5_branchesOf := goodIn_r _ [10, 11, 12, 13, 14, 15, 16, 17, 18, 19, 20, 21, 22, 23, 24, 25, 26, 27, 28, 29, 30] (by decide +kernel) (by decide +kernel)
set_option maxRecDepth 20000 in
theorem gX5_mostOfOneRing_X5_branchesOf : GoodIn wsX5_mostOfOneRing (wsV RX5 72 RX5 yX5_branchesOf wsX5_branchesOf) := goodIn_app (goodIn_of _ (by decide +kernel)) ggX5_mostOfOneRing_X5_branchesOf
theorem dX5_mostOfOneRing_0 : decode cX5_mostOfOneRing 0 = .ok (.iconst 0, 1) := by decide +kernel
theorem dX5_mostOfOneRing_1 : decode cX5_mostOfOneRing 1 = .ok (.istore_n 2, 1) := by decide +kernel
theorem dX5_mostOfOneRing_2 : decode cX5_mostOfOneRing 2 = .ok (.iconst 1, 1) := by decide +kernel
theorem dX5_mostOfOneRing_3 : decode cX5_mostOfOneRing 3 = .ok (.istore_n 3, 1) := by decide +kernel
theorem dX5_mostOfOneRing_4 : decode cX5_mostOfOneRing 4 = .ok (.iload_n 3, 1) := by decide +kernel
theorem dX5_mostOfOneRing_5 : decode cX5_mostOfOneRing 5 = .ok (.aload_n 1, 1) := by decide +kernel
theorem dX5_mostOfOneRing_6 : decode cX5_mostOfOneRing 6 = .ok (.getfield 66, 3) := by decide +kernel
theorem dX5_mostOfOneRing_9 : decode cX5_mostOfOneRing 9 = .ok (.if_icmp .gt 20, 3) := by decide +kernel
theorem dX5_mostOfOneRing_12 : decode cX5_mostOfOneRing 12 = .ok (.iload_n 2, 1) := by decide +kernel
theorem dX5_mostOfOneRing_13 : decode cX5_mostOfOneRing 13 = .ok (.aload_n 0, 1) := by decide +kernel
theorem dX5_mostOfOneRing_14 : decode cX5_mostOfOneRing 14 = .ok (.aload_n 1, 1) := by decide +kernel
theorem dX5_mostOfOneRing_15 : decode cX5_mostOfOneRing 15 = .ok (.iload_n 3, 1) := by decide +kernel
theorem dX5_mostOfOneRing_16 : decode cX5_mostOfOneRing 16 = .ok (.invokevirtual 72, 3) := by decide +kernel
theorem dX5_mostOfOneRing_19 : decode cX5_mostOfOneRing 19 = .ok (.invokestatic 90, 3) := by decide +kernel
theorem dX5_mostOfOneRing_22 : decode cX5_mostOfOneRing 22 = .ok (.istore_n 2, 1) := by decide +kernel
theorem dX5_mostOfOneRing_23 : decode cX5_mostOfOneRing 23 = .ok (.iinc 3 1, 3) := by decide +kernel
theorem dX5_mostOfOneRing_26 : decode cX5_mostOfOneRing 26 = .ok (.goto (-22), 3) := by decide +kernel
theorem dX5_mostOfOneRing_29 : decode cX5_mostOfOneRing 29 = .ok (.iload_n 2, 1) := by decide +kernel
theorem dX5_mostOfOneRing_30 : decode cX5_mostOfOneRing 30 = .ok (.ireturn, 1) := by decide +kernel
set_option maxRecDepth 20000 in
theorem ggX5_bends_X5_bendsAt : GoodIn wsX5_bends wsX5_bendsAt := goodIn_r _ [5, 6, 7, 8, 9, 10, 11] (by decide +kernel) (by decide +kernel)
set_option maxRecDepth 20000 in
theorem gX5_bends_X5_bendsAt : GoodIn wsX5_bends (wsV RX5 95 RX5 yX5_bendsAt wsX5_bendsAt) := goodIn_app (goodIn_of _ (by decide +kernel)) ggX5_bends_X5_bendsAt
theorem dX5_bends_0 : decode cX5_bends 0 = .ok (.iconst 0, 1) := by decide +kernel
theorem dX5_bends_1 : decode cX5_bends 1 = .ok (.istore_n 1, 1) := by decide +kernel
theorem dX5_bends_2 : decode cX5_bends 2 = .ok (.iconst 0, 1) := by decide +kernel
theorem dX5_bends_3 : decode cX5_bends 3 = .ok (.istore_n 2, 1) := by decide +kernel
theorem dX5_bends_4 : decode cX5_bends 4 = .ok (.iload_n 2, 1) := by decide +kernel
theorem dX5_bends_5 : decode cX5_bends 5 = .ok (.sipush 240, 3) := by decide +kernel
theorem dX5_bends_8 : decode cX5_bends 8 = .ok (.if_icmp .ge 20, 3) := by decide +kernel
theorem dX5_bends_11 : decode cX5_bends 11 = .ok (.aload_n 0, 1) := by decide +kernel
theorem dX5_bends_12 : decode cX5_bends 12 = .ok (.iload_n 2, 1) := by decide +kernel
theorem dX5_bends_13 : decode cX5_bends 13 = .ok (.invokevirtual 95, 3) := by decide +kernel
theorem dX5_bends_16 : decode cX5_bends 16 = .ok (.ifCond .eq 6, 3) := by decide +kernel
theorem dX5_bends_19 : decode cX5_bends 19 = .ok (.iinc 1 1, 3) := by decide +kernel
theorem dX5_bends_22 : decode cX5_bends 22 = .ok (.iinc 2 1, 3) := by decide +kernel
theorem dX5_bends_25 : decode cX5_bends 25 = .ok (.goto (-21), 3) := by decide +kernel
theorem dX5_bends_28 : decode cX5_bends 28 = .ok (.iload_n 1, 1) := by decide +kernel
theorem dX5_bends_29 : decode cX5_bends 29 = .ok (.ireturn, 1) := by decide +kernel
set_option maxRecDepth 20000 in
theorem ggX5_couplesAcross_X1_turnBeside : GoodIn wsX5_couplesAcross wsX1_turnBeside := goodIn_r _ [8, 9, 13, 14, 15, 16, 17, 18, 19, 20, 21, 22] (by decide +kernel) (by decide +kernel)
set_option maxRecDepth 20000 in
theorem gX5_couplesAcross_X1_turnBeside : GoodIn wsX5_couplesAcross (wsV RX5 69 RX1 yX1_turnBeside wsX1_turnBeside) := goodIn_app (goodIn_of _ (by decide +kernel)) ggX5_couplesAcross_X1_turnBeside
set_option maxRecDepth 20000 in
theorem ggX5_couplesAcross_X6_cellOf : GoodIn wsX5_couplesAcross wsX6_cellOf := goodIn_r _ [12] (by decide +kernel) (by decide +kernel)
set_option maxRecDepth 20000 in
theorem gX5_couplesAcross_X6_cellOf_n39 : GoodIn wsX5_couplesAcross (wsX6_cellOf) := ggX5_couplesAcross_X6_cellOf
theorem dX5_couplesAcross_0 : decode cX5_couplesAcross 0 = .ok (.iconst 0, 1) := by decide +kernel
theorem dX5_couplesAcross_1 : decode cX5_couplesAcross 1 = .ok (.istore_n 2, 1) := by decide +kernel
theorem dX5_couplesAcross_2 : decode cX5_couplesAcross 2 = .ok (.iconst 1, 1) := by decide +kernel
theorem dX5_couplesAcross_3 : decode cX5_couplesAcross 3 = .ok (.istore_n 3, 1) := by decide +kernel
theorem dX5_couplesAcross_4 : decode cX5_couplesAcross 4 = .ok (.iload_n 3, 1) := by decide +kernel
theorem dX5_couplesAcross_5 : decode cX5_couplesAcross 5 = .ok (.aload_n 1, 1) := by decide +kernel
theorem dX5_couplesAcross_6 : decode cX5_couplesAcross 6 = .ok (.getfield 66, 3) := by decide +kernel
theorem dX5_couplesAcross_9 : decode cX5_couplesAcross 9 = .ok (.if_icmp .gt 69, 3) := by decide +kernel
theorem dX5_couplesAcross_12 : decode cX5_couplesAcross 12 = .ok (.iconst 0, 1) := by decide +kernel
theorem dX5_couplesAcross_13 : decode cX5_couplesAcross 13 = .ok (.istore 4, 2) := by decide +kernel
theorem dX5_couplesAcross_15 : decode cX5_couplesAcross 15 = .ok (.iload 4, 2) := by decide +kernel
theorem dX5_couplesAcross_17 : decode cX5_couplesAcross 17 = .ok (.aload_n 1, 1) := by decide +kernel
theorem dX5_couplesAcross_18 : decode cX5_couplesAcross 18 = .ok (.getfield 87, 3) := by decide +kernel
theorem dX5_couplesAcross_21 : decode cX5_couplesAcross 21 = .ok (.if_icmp .ge 51, 3) := by decide +kernel
theorem dX5_couplesAcross_24 : decode cX5_couplesAcross 24 = .ok (.iload_n 3, 1) := by decide +kernel
theorem dX5_couplesAcross_25 : decode cX5_couplesAcross 25 = .ok (.aload_n 1, 1) := by decide +kernel
theorem dX5_couplesAcross_26 : decode cX5_couplesAcross 26 = .ok (.iload 4, 2) := by decide +kernel
theorem dX5_couplesAcross_28 : decode cX5_couplesAcross 28 = .ok (.iconst 2, 1) := by decide +kernel
theorem dX5_couplesAcross_29 : decode cX5_couplesAcross 29 = .ok (.invokevirtual 69, 3) := by decide +kernel
theorem dX5_couplesAcross_32 : decode cX5_couplesAcross 32 = .ok (.invokestatic 39, 3) := by decide +kernel
theorem dX5_couplesAcross_35 : decode cX5_couplesAcross 35 = .ok (.istore 5, 2) := by decide +kernel
theorem dX5_couplesAcross_37 : decode cX5_couplesAcross 37 = .ok (.aload_n 0, 1) := by decide +kernel
theorem dX5_couplesAcross_38 : decode cX5_couplesAcross 38 = .ok (.getfield 15, 3) := by decide +kernel
theorem dX5_couplesAcross_41 : decode cX5_couplesAcross 41 = .ok (.iload_n 3, 1) := by decide +kernel
theorem dX5_couplesAcross_42 : decode cX5_couplesAcross 42 = .ok (.iload 4, 2) := by decide +kernel
theorem dX5_couplesAcross_44 : decode cX5_couplesAcross 44 = .ok (.invokestatic 39, 3) := by decide +kernel
theorem dX5_couplesAcross_47 : decode cX5_couplesAcross 47 = .ok (.iaload, 1) := by decide +kernel
theorem dX5_couplesAcross_48 : decode cX5_couplesAcross 48 = .ok (.iconst 2, 1) := by decide +kernel
theorem dX5_couplesAcross_49 : decode cX5_couplesAcross 49 = .ok (.if_icmp .ne 17, 3) := by decide +kernel
theorem dX5_couplesAcross_52 : decode cX5_couplesAcross 52 = .ok (.aload_n 0, 1) := by decide +kernel
theorem dX5_couplesAcross_53 : decode cX5_couplesAcross 53 = .ok (.getfield 15, 3) := by decide +kernel
theorem dX5_couplesAcross_56 : decode cX5_couplesAcross 56 = .ok (.iload 5, 2) := by decide +kernel
theorem dX5_couplesAcross_58 : decode cX5_couplesAcross 58 = .ok (.iaload, 1) := by decide +kernel
theorem dX5_couplesAcross_59 : decode cX5_couplesAcross 59 = .ok (.iconst 1, 1) := by decide +kernel
theorem dX5_couplesAcross_60 : decode cX5_couplesAcross 60 = .ok (.if_icmp .ne 6, 3) := by decide +kernel
theorem dX5_couplesAcross_63 : decode cX5_couplesAcross 63 = .ok (.iinc 2 1, 3) := by decide +kernel
theorem dX5_couplesAcross_66 : decode cX5_couplesAcross 66 = .ok (.iinc 4 1, 3) := by decide +kernel
theorem dX5_couplesAcross_69 : decode cX5_couplesAcross 69 = .ok (.goto (-54), 3) := by decide +kernel
theorem dX5_couplesAcross_72 : decode cX5_couplesAcross 72 = .ok (.iinc 3 1, 3) := by decide +kernel
theorem dX5_couplesAcross_75 : decode cX5_couplesAcross 75 = .ok (.goto (-71), 3) := by decide +kernel
theorem dX5_couplesAcross_78 : decode cX5_couplesAcross 78 = .ok (.iload_n 2, 1) := by decide +kernel
theorem dX5_couplesAcross_79 : decode cX5_couplesAcross 79 = .ok (.ireturn, 1) := by decide +kernel
set_option maxRecDepth 20000 in
theorem ggX5_greatestWidth_X6_cellOf : GoodIn wsX5_greatestWidth wsX6_cellOf := goodIn_r _ [10] (by decide +kernel) (by decide +kernel)
set_option maxRecDepth 20000 in
theorem gX5_greatestWidth_X6_cellOf_n39 : GoodIn wsX5_greatestWidth (wsX6_cellOf) := ggX5_greatestWidth_X6_cellOf
set_option maxRecDepth 20000 in
theorem ggX5_greatestWidth_X1_amountOf : GoodIn wsX5_greatestWidth wsX1_amountOf := goodIn_r _ [15, 16, 17, 18, 19, 20, 21, 22, 23, 24, 25, 26, 27] (by decide +kernel) (by decide +kernel)
set_option maxRecDepth 20000 in
theorem gX5_greatestWidth_X1_amountOf : GoodIn wsX5_greatestWidth (wsV RX5 99 RX1 yX1_amountOf wsX1_amountOf) := goodIn_app (goodIn_of _ (by decide +kernel)) ggX5_greatestWidth_X1_amountOf
theorem dX5_greatestWidth_0 : decode cX5_greatestWidth 0 = .ok (.iconst 0, 1) := by decide +kernel
theorem dX5_greatestWidth_1 : decode cX5_greatestWidth 1 = .ok (.istore_n 2, 1) := by decide +kernel
theorem dX5_greatestWidth_2 : decode cX5_greatestWidth 2 = .ok (.iconst 1, 1) := by decide +kernel
theorem dX5_greatestWidth_3 : decode cX5_greatestWidth 3 = .ok (.istore_n 3, 1) := by decide +kernel
theorem dX5_greatestWidth_4 : decode cX5_greatestWidth 4 = .ok (.iload_n 3, 1) := by decide +kernel
theorem dX5_greatestWidth_5 : decode cX5_greatestWidth 5 = .ok (.aload_n 1, 1) := by decide +kernel
theorem dX5_greatestWidth_6 : decode cX5_greatestWidth 6 = .ok (.getfield 66, 3) := by decide +kernel
theorem dX5_greatestWidth_9 : decode cX5_greatestWidth 9 = .ok (.if_icmp .gt 47, 3) := by decide +kernel
theorem dX5_greatestWidth_12 : decode cX5_greatestWidth 12 = .ok (.iconst 0, 1) := by decide +kernel
theorem dX5_greatestWidth_13 : decode cX5_greatestWidth 13 = .ok (.istore 4, 2) := by decide +kernel
theorem dX5_greatestWidth_15 : decode cX5_greatestWidth 15 = .ok (.iload 4, 2) := by decide +kernel
theorem dX5_greatestWidth_17 : decode cX5_greatestWidth 17 = .ok (.aload_n 1, 1) := by decide +kernel
theorem dX5_greatestWidth_18 : decode cX5_greatestWidth 18 = .ok (.getfield 87, 3) := by decide +kernel
theorem dX5_greatestWidth_21 : decode cX5_greatestWidth 21 = .ok (.if_icmp .ge 29, 3) := by decide +kernel
theorem dX5_greatestWidth_24 : decode cX5_greatestWidth 24 = .ok (.iload_n 2, 1) := by decide +kernel
theorem dX5_greatestWidth_25 : decode cX5_greatestWidth 25 = .ok (.aload_n 1, 1) := by decide +kernel
theorem dX5_greatestWidth_26 : decode cX5_greatestWidth 26 = .ok (.aload_n 0, 1) := by decide +kernel
theorem dX5_greatestWidth_27 : decode cX5_greatestWidth 27 = .ok (.getfield 9, 3) := by decide +kernel
theorem dX5_greatestWidth_30 : decode cX5_greatestWidth 30 = .ok (.iload_n 3, 1) := by decide +kernel
theorem dX5_greatestWidth_31 : decode cX5_greatestWidth 31 = .ok (.iload 4, 2) := by decide +kernel
theorem dX5_greatestWidth_33 : decode cX5_greatestWidth 33 = .ok (.invokestatic 39, 3) := by decide +kernel
theorem dX5_greatestWidth_36 : decode cX5_greatestWidth 36 = .ok (.iaload, 1) := by decide +kernel
theorem dX5_greatestWidth_37 : decode cX5_greatestWidth 37 = .ok (.invokevirtual 99, 3) := by decide +kernel
theorem dX5_greatestWidth_40 : decode cX5_greatestWidth 40 = .ok (.invokestatic 90, 3) := by decide +kernel
theorem dX5_greatestWidth_43 : decode cX5_greatestWidth 43 = .ok (.istore_n 2, 1) := by decide +kernel
theorem dX5_greatestWidth_44 : decode cX5_greatestWidth 44 = .ok (.iinc 4 1, 3) := by decide +kernel
theorem dX5_greatestWidth_47 : decode cX5_greatestWidth 47 = .ok (.goto (-32), 3) := by decide +kernel
theorem dX5_greatestWidth_50 : decode cX5_greatestWidth 50 = .ok (.iinc 3 1, 3) := by decide +kernel
theorem dX5_greatestWidth_53 : decode cX5_greatestWidth 53 = .ok (.goto (-49), 3) := by decide +kernel
theorem dX5_greatestWidth_56 : decode cX5_greatestWidth 56 = .ok (.iload_n 2, 1) := by decide +kernel
theorem dX5_greatestWidth_57 : decode cX5_greatestWidth 57 = .ok (.ireturn, 1) := by decide +kernel
set_option maxRecDepth 20000 in
theorem ggX5_turnOnWay_X6_cellOf : GoodIn wsX5_turnOnWay wsX6_cellOf := goodIn_r _ [6] (by decide +kernel) (by decide +kernel)
set_option maxRecDepth 20000 in
theorem gX5_turnOnWay_X6_cellOf_n39 : GoodIn wsX5_turnOnWay (wsX6_cellOf) := ggX5_turnOnWay_X6_cellOf
set_option maxRecDepth 20000 in
theorem ggX5_turnOnWay_X1_turnBeside : GoodIn wsX5_turnOnWay wsX1_turnBeside := goodIn_r _ [11, 12, 13, 14, 15, 16, 17, 18, 19, 20, 21, 22] (by decide +kernel) (by decide +kernel)
set_option maxRecDepth 20000 in
theorem gX5_turnOnWay_X1_turnBeside : GoodIn wsX5_turnOnWay (wsV RX5 69 RX1 yX1_turnBeside wsX1_turnBeside) := goodIn_app (goodIn_of _ (by decide +kernel)) ggX5_turnOnWay_X1_turnBeside
theorem dX5_turnOnWay_0 : decode cX5_turnOnWay 0 = .ok (.iload_n 3, 1) := by decide +kernel
theorem dX5_turnOnWay_1 : decode cX5_turnOnWay 1 = .ok (.ifCond .ne 5, 3) := by decide +kernel
theorem dX5_turnOnWay_4 : decode cX5_turnOnWay 4 = .ok (.iconst 0, 1) := by decide +kernel
theorem dX5_turnOnWay_5 : decode cX5_turnOnWay 5 = .ok (.ireturn, 1) := by decide +kernel
theorem dX5_turnOnWay_6 : decode cX5_turnOnWay 6 = .ok (.aload_n 1, 1) := by decide +kernel
theorem dX5_turnOnWay_7 : decode cX5_turnOnWay 7 = .ok (.getfield 36, 3) := by decide +kernel
theorem dX5_turnOnWay_10 : decode cX5_turnOnWay 10 = .ok (.iload_n 2, 1) := by decide +kernel
theorem dX5_turnOnWay_11 : decode cX5_turnOnWay 11 = .ok (.iaload, 1) := by decide +kernel
theorem dX5_turnOnWay_12 : decode cX5_turnOnWay 12 = .ok (.istore 4, 2) := by decide +kernel
theorem dX5_turnOnWay_14 : decode cX5_turnOnWay 14 = .ok (.aload_n 1, 1) := by decide +kernel
theorem dX5_turnOnWay_15 : decode cX5_turnOnWay 15 = .ok (.getfield 33, 3) := by decide +kernel
theorem dX5_turnOnWay_18 : decode cX5_turnOnWay 18 = .ok (.iload_n 2, 1) := by decide +kernel
theorem dX5_turnOnWay_19 : decode cX5_turnOnWay 19 = .ok (.iaload, 1) := by decide +kernel
theorem dX5_turnOnWay_20 : decode cX5_turnOnWay 20 = .ok (.istore 5, 2) := by decide +kernel
theorem dX5_turnOnWay_22 : decode cX5_turnOnWay 22 = .ok (.iload 5, 2) := by decide +kernel
theorem dX5_turnOnWay_24 : decode cX5_turnOnWay 24 = .ok (.iload_n 3, 1) := by decide +kernel
theorem dX5_turnOnWay_25 : decode cX5_turnOnWay 25 = .ok (.if_icmp .le 29, 3) := by decide +kernel
theorem dX5_turnOnWay_28 : decode cX5_turnOnWay 28 = .ok (.aload_n 1, 1) := by decide +kernel
theorem dX5_turnOnWay_29 : decode cX5_turnOnWay 29 = .ok (.iload 4, 2) := by decide +kernel
theorem dX5_turnOnWay_31 : decode cX5_turnOnWay 31 = .ok (.aload_n 0, 1) := by decide +kernel
theorem dX5_turnOnWay_32 : decode cX5_turnOnWay 32 = .ok (.getfield 15, 3) := by decide +kernel
theorem dX5_turnOnWay_35 : decode cX5_turnOnWay 35 = .ok (.iload 5, 2) := by decide +kernel
theorem dX5_turnOnWay_37 : decode cX5_turnOnWay 37 = .ok (.iload 4, 2) := by decide +kernel
theorem dX5_turnOnWay_39 : decode cX5_turnOnWay 39 = .ok (.invokestatic 39, 3) := by decide +kernel
theorem dX5_turnOnWay_42 : decode cX5_turnOnWay 42 = .ok (.iaload, 1) := by decide +kernel
theorem dX5_turnOnWay_43 : decode cX5_turnOnWay 43 = .ok (.invokevirtual 69, 3) := by decide +kernel
theorem dX5_turnOnWay_46 : decode cX5_turnOnWay 46 = .ok (.istore 4, 2) := by decide +kernel
theorem dX5_turnOnWay_48 : decode cX5_turnOnWay 48 = .ok (.iinc 5 (-1), 3) := by decide +kernel
theorem dX5_turnOnWay_51 : decode cX5_turnOnWay 51 = .ok (.goto (-29), 3) := by decide +kernel
theorem dX5_turnOnWay_54 : decode cX5_turnOnWay 54 = .ok (.iload 4, 2) := by decide +kernel
theorem dX5_turnOnWay_56 : decode cX5_turnOnWay 56 = .ok (.ireturn, 1) := by decide +kernel
set_option maxRecDepth 20000 in
theorem ggX5_lengthFrom_X6_cellOf : GoodIn wsX5_lengthFrom wsX6_cellOf := goodIn_r _ [4] (by decide +kernel) (by decide +kernel)
set_option maxRecDepth 20000 in
theorem gX5_lengthFrom_X6_cellOf_n39 : GoodIn wsX5_lengthFrom (wsX6_cellOf) := ggX5_lengthFrom_X6_cellOf
set_option maxRecDepth 20000 in
theorem ggX5_lengthFrom_X1_lengthOf : GoodIn wsX5_lengthFrom wsX1_lengthOf := goodIn_r _ [9, 10, 21, 22, 23, 24, 25, 26, 27, 28, 29, 30] (by decide +kernel) (by decide +kernel)
set_option maxRecDepth 20000 in
theorem gX5_lengthFrom_X1_lengthOf : GoodIn wsX5_lengthFrom (wsV RX5 102 RX1 yX1_lengthOf wsX1_lengthOf) := goodIn_app (goodIn_of _ (by decide +kernel)) ggX5_lengthFrom_X1_lengthOf
set_option maxRecDepth 20000 in
theorem ggX5_lengthFrom_X1_turnBeside : GoodIn wsX5_lengthFrom wsX1_turnBeside := goodIn_r _ [14, 15, 21, 22, 23, 24, 25, 26, 27, 28, 29, 30] (by decide +kernel) (by decide +kernel)
set_option maxRecDepth 20000 in
theorem gX5_lengthFrom_X1_turnBeside : GoodIn wsX5_lengthFrom (wsV RX5 69 RX1 yX1_turnBeside wsX1_turnBeside) := goodIn_app (goodIn_of _ (by decide +kernel)) ggX5_lengthFrom_X1_turnBeside
theorem dX5_lengthFrom_0 : decode cX5_lengthFrom 0 = .ok (.iload_n 3, 1) := by decide +kernel
theorem dX5_lengthFrom_1 : decode cX5_lengthFrom 1 = .ok (.istore 4, 2) := by decide +kernel
theorem dX5_lengthFrom_3 : decode cX5_lengthFrom 3 = .ok (.iconst 0, 1) := by decide +kernel
theorem dX5_lengthFrom_4 : decode cX5_lengthFrom 4 = .ok (.istore 5, 2) := by decide +kernel
theorem dX5_lengthFrom_6 : decode cX5_lengthFrom 6 = .ok (.iload_n 2, 1) := by decide +kernel
theorem dX5_lengthFrom_7 : decode cX5_lengthFrom 7 = .ok (.istore 6, 2) := by decide +kernel
theorem dX5_lengthFrom_9 : decode cX5_lengthFrom 9 = .ok (.iload 6, 2) := by decide +kernel
theorem dX5_lengthFrom_11 : decode cX5_lengthFrom 11 = .ok (.iconst 1, 1) := by decide +kernel
theorem dX5_lengthFrom_12 : decode cX5_lengthFrom 12 = .ok (.if_icmp .lt 44, 3) := by decide +kernel
theorem dX5_lengthFrom_15 : decode cX5_lengthFrom 15 = .ok (.aload_n 0, 1) := by decide +kernel
theorem dX5_lengthFrom_16 : decode cX5_lengthFrom 16 = .ok (.getfield 15, 3) := by decide +kernel
theorem dX5_lengthFrom_19 : decode cX5_lengthFrom 19 = .ok (.iload 6, 2) := by decide +kernel
theorem dX5_lengthFrom_21 : decode cX5_lengthFrom 21 = .ok (.iload 4, 2) := by decide +kernel
theorem dX5_lengthFrom_23 : decode cX5_lengthFrom 23 = .ok (.invokestatic 39, 3) := by decide +kernel
theorem dX5_lengthFrom_26 : decode cX5_lengthFrom 26 = .ok (.iaload, 1) := by decide +kernel
theorem dX5_lengthFrom_27 : decode cX5_lengthFrom 27 = .ok (.istore 7, 2) := by decide +kernel
theorem dX5_lengthFrom_29 : decode cX5_lengthFrom 29 = .ok (.iload 5, 2) := by decide +kernel
theorem dX5_lengthFrom_31 : decode cX5_lengthFrom 31 = .ok (.aload_n 1, 1) := by decide +kernel
theorem dX5_lengthFrom_32 : decode cX5_lengthFrom 32 = .ok (.iload 7, 2) := by decide +kernel
theorem dX5_lengthFrom_34 : decode cX5_lengthFrom 34 = .ok (.invokevirtual 102, 3) := by decide +kernel
theorem dX5_lengthFrom_37 : decode cX5_lengthFrom 37 = .ok (.iadd, 1) := by decide +kernel
theorem dX5_lengthFrom_38 : decode cX5_lengthFrom 38 = .ok (.istore 5, 2) := by decide +kernel
theorem dX5_lengthFrom_40 : decode cX5_lengthFrom 40 = .ok (.aload_n 1, 1) := by decide +kernel
theorem dX5_lengthFrom_41 : decode cX5_lengthFrom 41 = .ok (.iload 4, 2) := by decide +kernel
theorem dX5_lengthFrom_43 : decode cX5_lengthFrom 43 = .ok (.iload 7, 2) := by decide +kernel
theorem dX5_lengthFrom_45 : decode cX5_lengthFrom 45 = .ok (.invokevirtual 69, 3) := by decide +kernel
theorem dX5_lengthFrom_48 : decode cX5_lengthFrom 48 = .ok (.istore 4, 2) := by decide +kernel
theorem dX5_lengthFrom_50 : decode cX5_lengthFrom 50 = .ok (.iinc 6 (-1), 3) := by decide +kernel
theorem dX5_lengthFrom_53 : decode cX5_lengthFrom 53 = .ok (.goto (-44), 3) := by decide +kernel
theorem dX5_lengthFrom_56 : decode cX5_lengthFrom 56 = .ok (.iload 5, 2) := by decide +kernel
theorem dX5_lengthFrom_58 : decode cX5_lengthFrom 58 = .ok (.ireturn, 1) := by decide +kernel
set_option maxRecDepth 20000 in
theorem ggX5_sumOfInk_X6_cellOf : GoodIn wsX5_sumOfInk wsX6_cellOf := goodIn_r _ [7] (by decide +kernel) (by decide +kernel)
set_option maxRecDepth 20000 in
theorem gX5_sumOfInk_X6_cellOf_n39 : GoodIn wsX5_sumOfInk (wsX6_cellOf) := ggX5_sumOfInk_X6_cellOf
set_option maxRecDepth 20000 in
theorem ggX5_sumOfInk_X1_amountOf : GoodIn wsX5_sumOfInk wsX1_amountOf := goodIn_r _ [12, 13, 14, 25, 26, 27, 28, 29, 30, 31, 32, 33, 34] (by decide +kernel) (by decide +kernel)
set_option maxRecDepth 20000 in
theorem gX5_sumOfInk_X1_amountOf : GoodIn wsX5_sumOfInk (wsV RX5 99 RX1 yX1_amountOf wsX1_amountOf) := goodIn_app (goodIn_of _ (by decide +kernel)) ggX5_sumOfInk_X1_amountOf
set_option maxRecDepth 20000 in
theorem ggX5_sumOfInk_X1_inkOfStep : GoodIn wsX5_sumOfInk wsX1_inkOfStep := goodIn_r _ [18, 19, 20, 21, 22, 11, 23, 24, 25, 26, 27, 28, 29, 30, 31, 32, 33, 34] (by decide +kernel) (by decide +kernel)
set_option maxRecDepth 20000 in
theorem gX5_sumOfInk_X1_inkOfStep : GoodIn wsX5_sumOfInk (wsV RX5 105 RX1 yX1_inkOfStep wsX1_inkOfStep) := goodIn_app (goodIn_of _ (by decide +kernel)) ggX5_sumOfInk_X1_inkOfStep
theorem dX5_sumOfInk_0 : decode cX5_sumOfInk 0 = .ok (.iconst 0, 1) := by decide +kernel
theorem dX5_sumOfInk_1 : decode cX5_sumOfInk 1 = .ok (.istore_n 2, 1) := by decide +kernel
theorem dX5_sumOfInk_2 : decode cX5_sumOfInk 2 = .ok (.iconst 1, 1) := by decide +kernel
theorem dX5_sumOfInk_3 : decode cX5_sumOfInk 3 = .ok (.istore_n 3, 1) := by decide +kernel
theorem dX5_sumOfInk_4 : decode cX5_sumOfInk 4 = .ok (.iload_n 3, 1) := by decide +kernel
theorem dX5_sumOfInk_5 : decode cX5_sumOfInk 5 = .ok (.aload_n 1, 1) := by decide +kernel
theorem dX5_sumOfInk_6 : decode cX5_sumOfInk 6 = .ok (.getfield 66, 3) := by decide +kernel
theorem dX5_sumOfInk_9 : decode cX5_sumOfInk 9 = .ok (.if_icmp .gt 70, 3) := by decide +kernel
theorem dX5_sumOfInk_12 : decode cX5_sumOfInk 12 = .ok (.iconst 0, 1) := by decide +kernel
theorem dX5_sumOfInk_13 : decode cX5_sumOfInk 13 = .ok (.istore 4, 2) := by decide +kernel
theorem dX5_sumOfInk_15 : decode cX5_sumOfInk 15 = .ok (.iload 4, 2) := by decide +kernel
theorem dX5_sumOfInk_17 : decode cX5_sumOfInk 17 = .ok (.aload_n 1, 1) := by decide +kernel
theorem dX5_sumOfInk_18 : decode cX5_sumOfInk 18 = .ok (.getfield 87, 3) := by decide +kernel
theorem dX5_sumOfInk_21 : decode cX5_sumOfInk 21 = .ok (.if_icmp .ge 52, 3) := by decide +kernel
theorem dX5_sumOfInk_24 : decode cX5_sumOfInk 24 = .ok (.iload_n 3, 1) := by decide +kernel
theorem dX5_sumOfInk_25 : decode cX5_sumOfInk 25 = .ok (.iload 4, 2) := by decide +kernel
theorem dX5_sumOfInk_27 : decode cX5_sumOfInk 27 = .ok (.invokestatic 39, 3) := by decide +kernel
theorem dX5_sumOfInk_30 : decode cX5_sumOfInk 30 = .ok (.istore 5, 2) := by decide +kernel
theorem dX5_sumOfInk_32 : decode cX5_sumOfInk 32 = .ok (.aload_n 0, 1) := by decide +kernel
theorem dX5_sumOfInk_33 : decode cX5_sumOfInk 33 = .ok (.getfield 9, 3) := by decide +kernel
theorem dX5_sumOfInk_36 : decode cX5_sumOfInk 36 = .ok (.iload 5, 2) := by decide +kernel
theorem dX5_sumOfInk_38 : decode cX5_sumOfInk 38 = .ok (.iaload, 1) := by decide +kernel
theorem dX5_sumOfInk_39 : decode cX5_sumOfInk 39 = .ok (.ifCond .eq 28, 3) := by decide +kernel
theorem dX5_sumOfInk_42 : decode cX5_sumOfInk 42 = .ok (.iload_n 2, 1) := by decide +kernel
theorem dX5_sumOfInk_43 : decode cX5_sumOfInk 43 = .ok (.aload_n 1, 1) := by decide +kernel
theorem dX5_sumOfInk_44 : decode cX5_sumOfInk 44 = .ok (.aload_n 0, 1) := by decide +kernel
theorem dX5_sumOfInk_45 : decode cX5_sumOfInk 45 = .ok (.getfield 15, 3) := by decide +kernel
theorem dX5_sumOfInk_48 : decode cX5_sumOfInk 48 = .ok (.iload 5, 2) := by decide +kernel
theorem dX5_sumOfInk_50 : decode cX5_sumOfInk 50 = .ok (.iaload, 1) := by decide +kernel
theorem dX5_sumOfInk_51 : decode cX5_sumOfInk 51 = .ok (.aload_n 1, 1) := by decide +kernel
theorem dX5_sumOfInk_52 : decode cX5_sumOfInk 52 = .ok (.aload_n 0, 1) := by decide +kernel
theorem dX5_sumOfInk_53 : decode cX5_sumOfInk 53 = .ok (.getfield 9, 3) := by decide +kernel
theorem dX5_sumOfInk_56 : decode cX5_sumOfInk 56 = .ok (.iload 5, 2) := by decide +kernel
theorem dX5_sumOfInk_58 : decode cX5_sumOfInk 58 = .ok (.iaload, 1) := by decide +kernel
theorem dX5_sumOfInk_59 : decode cX5_sumOfInk 59 = .ok (.invokevirtual 99, 3) := by decide +kernel
theorem dX5_sumOfInk_62 : decode cX5_sumOfInk 62 = .ok (.invokevirtual 105, 3) := by decide +kernel
theorem dX5_sumOfInk_65 : decode cX5_sumOfInk 65 = .ok (.iadd, 1) := by decide +kernel
theorem dX5_sumOfInk_66 : decode cX5_sumOfInk 66 = .ok (.istore_n 2, 1) := by decide +kernel
theorem dX5_sumOfInk_67 : decode cX5_sumOfInk 67 = .ok (.iinc 4 1, 3) := by decide +kernel
theorem dX5_sumOfInk_70 : decode cX5_sumOfInk 70 = .ok (.goto (-55), 3) := by decide +kernel
theorem dX5_sumOfInk_73 : decode cX5_sumOfInk 73 = .ok (.iinc 3 1, 3) := by decide +kernel
theorem dX5_sumOfInk_76 : decode cX5_sumOfInk 76 = .ok (.goto (-72), 3) := by decide +kernel
theorem dX5_sumOfInk_79 : decode cX5_sumOfInk 79 = .ok (.iload_n 2, 1) := by decide +kernel
theorem dX5_sumOfInk_80 : decode cX5_sumOfInk 80 = .ok (.ireturn, 1) := by decide +kernel
set_option maxRecDepth 20000 in
theorem ggX6_init_X4_init : GoodIn wsX6_init wsX4_init := goodIn_r _ [29, 30, 2, 3, 31, 32, 74, 75, 76, 77, 78, 79, 80, 81] (by decide +kernel) (by decide +kernel)
set_option maxRecDepth 20000 in
theorem gX6_init_X4_init_n11 : GoodIn wsX6_init (wsX4_init) := ggX6_init_X4_init
set_option maxRecDepth 20000 in
theorem ggX6_init_X1_init : GoodIn wsX6_init wsX1_init := goodIn_r _ [35, 36, 2, 3, 31, 37, 38, 39, 40, 41, 42, 43, 44, 10, 45, 46, 47, 48, 49, 50, 51, 52, 53, 54, 55, 91, 92, 93, 94, 95, 96, 97, 98, 99, 100] (by decide +kernel) (by decide +kernel)
set_option maxRecDepth 20000 in
theorem gX6_init_X1_init : GoodIn wsX6_init (wsX1_init) := ggX6_init_X1_init
set_option maxRecDepth 20000 in
theorem ggX6_init_X0_init : GoodIn wsX6_init wsX0_init := goodIn_r _ [57, 58, 2, 3, 31, 59, 60, 61, 62, 63, 64, 101, 102, 103, 104, 105, 106, 107, 108, 109, 110, 111] (by decide +kernel) (by decide +kernel)
set_option maxRecDepth 20000 in
theorem gX6_init_X0_init_n28 : GoodIn wsX6_init (wsX0_init) := ggX6_init_X0_init
set_option maxRecDepth 20000 in
theorem ggX6_init_X5_init : GoodIn wsX6_init wsX5_init := goodIn_r _ [66, 67, 2, 3, 31, 68, 69, 112, 113, 114, 115, 116] (by decide +kernel) (by decide +kernel)
set_option maxRecDepth 20000 in
theorem gX6_init_X5_init_n35 : GoodIn wsX6_init (wsX5_init) := ggX6_init_X5_init
set_option maxRecDepth 20000 in
theorem ggX6_init_X3_init : GoodIn wsX6_init wsX3_init := goodIn_r _ [71, 72, 2, 3, 31, 73, 117, 118, 119, 120, 121] (by decide +kernel) (by decide +kernel)
set_option maxRecDepth 20000 in
theorem gX6_init_X3_init_n51 : GoodIn wsX6_init (wsX3_init) := ggX6_init_X3_init
theorem dX6_init_0 : decode cX6_init 0 = .ok (.aload_n 0, 1) := by decide +kernel
theorem dX6_init_1 : decode cX6_init 1 = .ok (.invokespecial 3, 3) := by decide +kernel
theorem dX6_init_4 : decode cX6_init 4 = .ok (.aload_n 0, 1) := by decide +kernel
theorem dX6_init_5 : decode cX6_init 5 = .ok (.new 9, 3) := by decide +kernel
theorem dX6_init_8 : decode cX6_init 8 = .ok (.dup, 1) := by decide +kernel
theorem dX6_init_9 : decode cX6_init 9 = .ok (.invokespecial 11, 3) := by decide +kernel
theorem dX6_init_12 : decode cX6_init 12 = .ok (.putfield 12, 3) := by decide +kernel
theorem dX6_init_15 : decode cX6_init 15 = .ok (.aload_n 0, 1) := by decide +kernel
theorem dX6_init_16 : decode cX6_init 16 = .ok (.new 16, 3) := by decide +kernel
theorem dX6_init_19 : decode cX6_init 19 = .ok (.dup, 1) := by decide +kernel
theorem dX6_init_20 : decode cX6_init 20 = .ok (.invokespecial 18, 3) := by decide +kernel
theorem dX6_init_23 : decode cX6_init 23 = .ok (.putfield 19, 3) := by decide +kernel
theorem dX6_init_26 : decode cX6_init 26 = .ok (.aload_n 0, 1) := by decide +kernel
theorem dX6_init_27 : decode cX6_init 27 = .ok (.new 16, 3) := by decide +kernel
theorem dX6_init_30 : decode cX6_init 30 = .ok (.dup, 1) := by decide +kernel
theorem dX6_init_31 : decode cX6_init 31 = .ok (.invokespecial 18, 3) := by decide +kernel
theorem dX6_init_34 : decode cX6_init 34 = .ok (.putfield 23, 3) := by decide +kernel
theorem dX6_init_37 : decode cX6_init 37 = .ok (.aload_n 0, 1) := by decide +kernel
theorem dX6_init_38 : decode cX6_init 38 = .ok (.new 26, 3) := by decide +kernel
theorem dX6_init_41 : decode cX6_init 41 = .ok (.dup, 1) := by decide +kernel
theorem dX6_init_42 : decode cX6_init 42 = .ok (.invokespecial 28, 3) := by decide +kernel
theorem dX6_init_45 : decode cX6_init 45 = .ok (.putfield 29, 3) := by decide +kernel
theorem dX6_init_48 : decode cX6_init 48 = .ok (.aload_n 0, 1) := by decide +kernel
theorem dX6_init_49 : decode cX6_init 49 = .ok (.new 33, 3) := by decide +kernel
theorem dX6_init_52 : decode cX6_init 52 = .ok (.dup, 1) := by decide +kernel
theorem dX6_init_53 : decode cX6_init 53 = .ok (.invokespecial 35, 3) := by decide +kernel
theorem dX6_init_56 : decode cX6_init 56 = .ok (.putfield 36, 3) := by decide +kernel
theorem dX6_init_59 : decode cX6_init 59 = .ok (.aload_n 0, 1) := by decide +kernel
theorem dX6_init_60 : decode cX6_init 60 = .ok (.new 33, 3) := by decide +kernel
theorem dX6_init_63 : decode cX6_init 63 = .ok (.dup, 1) := by decide +kernel
theorem dX6_init_64 : decode cX6_init 64 = .ok (.invokespecial 35, 3) := by decide +kernel
theorem dX6_init_67 : decode cX6_init 67 = .ok (.putfield 40, 3) := by decide +kernel
theorem dX6_init_70 : decode cX6_init 70 = .ok (.aload_n 0, 1) := by decide +kernel
theorem dX6_init_71 : decode cX6_init 71 = .ok (.new 33, 3) := by decide +kernel
theorem dX6_init_74 : decode cX6_init 74 = .ok (.dup, 1) := by decide +kernel
theorem dX6_init_75 : decode cX6_init 75 = .ok (.invokespecial 35, 3) := by decide +kernel
theorem dX6_init_78 : decode cX6_init 78 = .ok (.putfield 43, 3) := by decide +kernel
theorem dX6_init_81 : decode cX6_init 81 = .ok (.aload_n 0, 1) := by decide +kernel
theorem dX6_init_82 : decode cX6_init 82 = .ok (.new 33, 3) := by decide +kernel
theorem dX6_init_85 : decode cX6_init 85 = .ok (.dup, 1) := by decide +kernel
theorem dX6_init_86 : decode cX6_init 86 = .ok (.invokespecial 35, 3) := by decide +kernel
theorem dX6_init_89 : decode cX6_init 89 = .ok (.putfield 46, 3) := by decide +kernel
theorem dX6_init_92 : decode cX6_init 92 = .ok (.aload_n 0, 1) := by decide +kernel
theorem dX6_init_93 : decode cX6_init 93 = .ok (.new 49, 3) := by decide +kernel
theorem dX6_init_96 : decode cX6_init 96 = .ok (.dup, 1) := by decide +kernel
theorem dX6_init_97 : decode cX6_init 97 = .ok (.invokespecial 51, 3) := by decide +kernel
theorem dX6_init_100 : decode cX6_init 100 = .ok (.putfield 52, 3) := by decide +kernel
theorem dX6_init_103 : decode cX6_init 103 = .ok (.return_, 1) := by decide +kernel
set_option maxRecDepth 20000 in
theorem ggX6_feed_X4_putNumber : GoodIn wsX6_feed wsX4_putNumber := goodIn_r _ [7, 8, 9, 19, 20, 21, 22, 23, 24, 25, 26] (by decide +kernel) (by decide +kernel)
set_option maxRecDepth 20000 in
theorem gX6_feed_X4_putNumber : GoodIn wsX6_feed (wsV RX6 60 RX4 yX4_putNumber wsX4_putNumber) := goodIn_app (goodIn_of _ (by decide +kernel)) ggX6_feed_X4_putNumber
theorem dX6_feed_0 : decode cX6_feed 0 = .ok (.aload_n 0, 1) := by decide +kernel
theorem dX6_feed_1 : decode cX6_feed 1 = .ok (.getfield 12, 3) := by decide +kernel
theorem dX6_feed_4 : decode cX6_feed 4 = .ok (.getfield 56, 3) := by decide +kernel
theorem dX6_feed_7 : decode cX6_feed 7 = .ok (.sipush 480, 3) := by decide +kernel
theorem dX6_feed_10 : decode cX6_feed 10 = .ok (.if_icmp .le 5, 3) := by decide +kernel
theorem dX6_feed_13 : decode cX6_feed 13 = .ok (.iconst (-1), 1) := by decide +kernel
theorem dX6_feed_14 : decode cX6_feed 14 = .ok (.ireturn, 1) := by decide +kernel
theorem dX6_feed_15 : decode cX6_feed 15 = .ok (.aload_n 0, 1) := by decide +kernel
theorem dX6_feed_16 : decode cX6_feed 16 = .ok (.getfield 12, 3) := by decide +kernel
theorem dX6_feed_19 : decode cX6_feed 19 = .ok (.iload_n 1, 1) := by decide +kernel
theorem dX6_feed_20 : decode cX6_feed 20 = .ok (.invokevirtual 60, 3) := by decide +kernel
theorem dX6_feed_23 : decode cX6_feed 23 = .ok (.aload_n 0, 1) := by decide +kernel
theorem dX6_feed_24 : decode cX6_feed 24 = .ok (.getfield 12, 3) := by decide +kernel
theorem dX6_feed_27 : decode cX6_feed 27 = .ok (.iload_n 2, 1) := by decide +kernel
theorem dX6_feed_28 : decode cX6_feed 28 = .ok (.invokevirtual 60, 3) := by decide +kernel
theorem dX6_feed_31 : decode cX6_feed 31 = .ok (.aload_n 0, 1) := by decide +kernel
theorem dX6_feed_32 : decode cX6_feed 32 = .ok (.getfield 12, 3) := by decide +kernel
theorem dX6_feed_35 : decode cX6_feed 35 = .ok (.iload_n 3, 1) := by decide +kernel
theorem dX6_feed_36 : decode cX6_feed 36 = .ok (.invokevirtual 60, 3) := by decide +kernel
theorem dX6_feed_39 : decode cX6_feed 39 = .ok (.aload_n 0, 1) := by decide +kernel
theorem dX6_feed_40 : decode cX6_feed 40 = .ok (.getfield 12, 3) := by decide +kernel
theorem dX6_feed_43 : decode cX6_feed 43 = .ok (.iload 4, 2) := by decide +kernel
theorem dX6_feed_45 : decode cX6_feed 45 = .ok (.invokevirtual 60, 3) := by decide +kernel
theorem dX6_feed_48 : decode cX6_feed 48 = .ok (.aload_n 0, 1) := by decide +kernel
theorem dX6_feed_49 : decode cX6_feed 49 = .ok (.getfield 12, 3) := by decide +kernel
theorem dX6_feed_52 : decode cX6_feed 52 = .ok (.iload 5, 2) := by decide +kernel
theorem dX6_feed_54 : decode cX6_feed 54 = .ok (.invokevirtual 60, 3) := by decide +kernel
theorem dX6_feed_57 : decode cX6_feed 57 = .ok (.aload_n 0, 1) := by decide +kernel
theorem dX6_feed_58 : decode cX6_feed 58 = .ok (.getfield 12, 3) := by decide +kernel
theorem dX6_feed_61 : decode cX6_feed 61 = .ok (.getfield 56, 3) := by decide +kernel
theorem dX6_feed_64 : decode cX6_feed 64 = .ok (.ireturn, 1) := by decide +kernel
set_option maxRecDepth 20000 in
theorem ggX6_text_X4_readText : GoodIn wsX6_text wsX4_readText := goodIn_r _ [10, 11, 12, 13, 14, 15, 16, 17, 18, 19, 20, 21, 22, 9, 23, 24, 25, 26, 27, 28, 29, 30, 31, 32, 33, 34, 35, 36, 37, 38, 39, 40, 41, 42, 43, 44, 45, 46, 47, 48, 49, 50, 51, 52, 53, 54, 55, 56, 57, 58, 59, 60, 61, 62, 63, 64, 65, 66, 67, 68, 69, 70, 71, 72, 73, 74, 75, 76, 77, 78, 79, 80, 81, 82, 83, 84, 85, 86, 87, 88, 89, 90, 91, 92, 93, 94, 95, 96, 97, 98, 99, 100, 101, 102, 103, 104, 105, 106, 107, 108, 109, 110, 111, 112, 113, 114, 115, 116, 117, 118, 119, 120, 121, 122, 123, 124, 125, 126, 127, 128, 129, 130, 131, 132, 133, 134, 135, 136, 137, 138, 139, 140, 141, 142, 143, 144, 145, 146, 147, 148, 149, 150, 151, 152, 153, 154, 155, 156, 157, 178, 179, 180, 181, 182, 183, 184, 185, 186, 187, 188, 189, 190, 191, 192, 193, 194, 195] (by decide +kernel) (by decide +kernel)
set_option maxRecDepth 20000 in
theorem gX6_text_X4_readText : GoodIn wsX6_text (wsV RX6 64 RX4 yX4_readText wsX4_readText) := goodIn_app (goodIn_of _ (by decide +kernel)) ggX6_text_X4_readText
set_option maxRecDepth 20000 in
theorem ggX6_text_X6_forgetDrawings : GoodIn wsX6_text wsX6_forgetDrawings := goodIn_r _ [161, 162, 163, 164, 165, 166, 167, 168, 169, 170, 171, 172, 173, 174, 175, 176, 177, 196, 197, 198, 199, 200, 201, 202, 203, 204, 205, 206, 207, 208, 209, 210, 211] (by decide +kernel) (by decide +kernel)
set_option maxRecDepth 20000 in
theorem gX6_text_X6_forgetDrawings : GoodIn wsX6_text (wsV RX6 68 RX6 yX6_forgetDrawings wsX6_forgetDrawings) := goodIn_app (goodIn_of _ (by decide +kernel)) ggX6_text_X6_forgetDrawings
theorem dX6_text_0 : decode cX6_text 0 = .ok (.iload_n 1, 1) := by decide +kernel
theorem dX6_text_1 : decode cX6_text 1 = .ok (.ifCond .lt 14, 3) := by decide +kernel
theorem dX6_text_4 : decode cX6_text 4 = .ok (.iload_n 1, 1) := by decide +kernel
theorem dX6_text_5 : decode cX6_text 5 = .ok (.aload_n 0, 1) := by decide +kernel
theorem dX6_text_6 : decode cX6_text 6 = .ok (.getfield 12, 3) := by decide +kernel
theorem dX6_text_9 : decode cX6_text 9 = .ok (.getfield 56, 3) := by decide +kernel
theorem dX6_text_12 : decode cX6_text 12 = .ok (.if_icmp .le 5, 3) := by decide +kernel
theorem dX6_text_15 : decode cX6_text 15 = .ok (.iconst (-1), 1) := by decide +kernel
theorem dX6_text_16 : decode cX6_text 16 = .ok (.ireturn, 1) := by decide +kernel
theorem dX6_text_17 : decode cX6_text 17 = .ok (.aload_n 0, 1) := by decide +kernel
theorem dX6_text_18 : decode cX6_text 18 = .ok (.getfield 12, 3) := by decide +kernel
theorem dX6_text_21 : decode cX6_text 21 = .ok (.iload_n 1, 1) := by decide +kernel
theorem dX6_text_22 : decode cX6_text 22 = .ok (.aload_n 0, 1) := by decide +kernel
theorem dX6_text_23 : decode cX6_text 23 = .ok (.getfield 23, 3) := by decide +kernel
theorem dX6_text_26 : decode cX6_text 26 = .ok (.invokevirtual 64, 3) := by decide +kernel
theorem dX6_text_29 : decode cX6_text 29 = .ok (.istore_n 2, 1) := by decide +kernel
theorem dX6_text_30 : decode cX6_text 30 = .ok (.aload_n 0, 1) := by decide +kernel
theorem dX6_text_31 : decode cX6_text 31 = .ok (.getfield 12, 3) := by decide +kernel
theorem dX6_text_34 : decode cX6_text 34 = .ok (.iconst 0, 1) := by decide +kernel
theorem dX6_text_35 : decode cX6_text 35 = .ok (.putfield 56, 3) := by decide +kernel
theorem dX6_text_38 : decode cX6_text 38 = .ok (.iload_n 2, 1) := by decide +kernel
theorem dX6_text_39 : decode cX6_text 39 = .ok (.ifCond .eq 8, 3) := by decide +kernel
theorem dX6_text_42 : decode cX6_text 42 = .ok (.bipush (-2), 2) := by decide +kernel
theorem dX6_text_44 : decode cX6_text 44 = .ok (.iload_n 2, 1) := by decide +kernel
theorem dX6_text_45 : decode cX6_text 45 = .ok (.isub, 1) := by decide +kernel
theorem dX6_text_46 : decode cX6_text 46 = .ok (.ireturn, 1) := by decide +kernel
theorem dX6_text_47 : decode cX6_text 47 = .ok (.aload_n 0, 1) := by decide +kernel
theorem dX6_text_48 : decode cX6_text 48 = .ok (.getfield 23, 3) := by decide +kernel
theorem dX6_text_51 : decode cX6_text 51 = .ok (.astore_n 3, 1) := by decide +kernel
theorem dX6_text_52 : decode cX6_text 52 = .ok (.aload_n 0, 1) := by decide +kernel
theorem dX6_text_53 : decode cX6_text 53 = .ok (.aload_n 0, 1) := by decide +kernel
theorem dX6_text_54 : decode cX6_text 54 = .ok (.getfield 19, 3) := by decide +kernel
theorem dX6_text_57 : decode cX6_text 57 = .ok (.putfield 23, 3) := by decide +kernel
theorem dX6_text_60 : decode cX6_text 60 = .ok (.aload_n 0, 1) := by decide +kernel
theorem dX6_text_61 : decode cX6_text 61 = .ok (.aload_n 3, 1) := by decide +kernel
theorem dX6_text_62 : decode cX6_text 62 = .ok (.putfield 19, 3) := by decide +kernel
theorem dX6_text_65 : decode cX6_text 65 = .ok (.aload_n 0, 1) := by decide +kernel
theorem dX6_text_66 : decode cX6_text 66 = .ok (.invokevirtual 68, 3) := by decide +kernel
theorem dX6_text_69 : decode cX6_text 69 = .ok (.aload_n 0, 1) := by decide +kernel
theorem dX6_text_70 : decode cX6_text 70 = .ok (.getfield 19, 3) := by decide +kernel
theorem dX6_text_73 : decode cX6_text 73 = .ok (.getfield 71, 3) := by decide +kernel
theorem dX6_text_76 : decode cX6_text 76 = .ok (.ireturn, 1) := by decide +kernel
set_option maxRecDepth 20000 in
theorem ggX6_chart_X6_isWithin : GoodIn wsX6_chart wsX6_isWithin := goodIn_r _ [5] (by decide +kernel) (by decide +kernel)
set_option maxRecDepth 20000 in
theorem gX6_chart_X6_isWithin : GoodIn wsX6_chart (va_wsS RX6 74 yX6_isWithin wsX6_isWithin) := goodIn_app (goodIn_of _ (by decide +kernel)) ggX6_chart_X6_isWithin
set_option maxRecDepth 20000 in
theorem ggX6_chart_X1_clear : GoodIn wsX6_chart wsX1_clear := goodIn_r _ [10, 11, 12, 13, 14, 35, 36, 37, 38, 39, 40, 41, 42, 43, 44] (by decide +kernel) (by decide +kernel)
set_option maxRecDepth 20000 in
theorem gX6_chart_X1_clear : GoodIn wsX6_chart (wsV RX6 78 RX1 yX1_clear wsX1_clear) := goodIn_app (goodIn_of _ (by decide +kernel)) ggX6_chart_X1_clear
set_option maxRecDepth 20000 in
theorem ggX6_chart_X6_forgetDrawings : GoodIn wsX6_chart wsX6_forgetDrawings := goodIn_r _ [18, 19, 20, 21, 22, 23, 24, 25, 26, 27, 28, 29, 30, 31, 32, 33, 34, 45, 46, 47, 48, 49, 50, 51, 52, 53, 54, 55, 56, 57, 58, 59, 60] (by decide +kernel) (by decide +kernel)
set_option maxRecDepth 20000 in
theorem gX6_chart_X6_forgetDrawings : GoodIn wsX6_chart (wsV RX6 68 RX6 yX6_forgetDrawings wsX6_forgetDrawings) := goodIn_app (goodIn_of _ (by decide +kernel)) ggX6_chart_X6_forgetDrawings
theorem dX6_chart_0 : decode cX6_chart 0 = .ok (.iload_n 1, 1) := by decide +kernel
theorem dX6_chart_1 : decode cX6_chart 1 = .ok (.iconst 2, 1) := by decide +kernel
theorem dX6_chart_2 : decode cX6_chart 2 = .ok (.bipush 9, 2) := by decide +kernel
theorem dX6_chart_4 : decode cX6_chart 4 = .ok (.invokestatic 74, 3) := by decide +kernel
theorem dX6_chart_7 : decode cX6_chart 7 = .ok (.ifCond .eq 14, 3) := by decide +kernel
theorem dX6_chart_10 : decode cX6_chart 10 = .ok (.iload_n 2, 1) := by decide +kernel
theorem dX6_chart_11 : decode cX6_chart 11 = .ok (.bipush 6, 2) := by decide +kernel
theorem dX6_chart_13 : decode cX6_chart 13 = .ok (.bipush 24, 2) := by decide +kernel
theorem dX6_chart_15 : decode cX6_chart 15 = .ok (.invokestatic 74, 3) := by decide +kernel
theorem dX6_chart_18 : decode cX6_chart 18 = .ok (.ifCond .ne 5, 3) := by decide +kernel
theorem dX6_chart_21 : decode cX6_chart 21 = .ok (.iconst 0, 1) := by decide +kernel
theorem dX6_chart_22 : decode cX6_chart 22 = .ok (.ireturn, 1) := by decide +kernel
theorem dX6_chart_23 : decode cX6_chart 23 = .ok (.aload_n 0, 1) := by decide +kernel
theorem dX6_chart_24 : decode cX6_chart 24 = .ok (.getfield 19, 3) := by decide +kernel
theorem dX6_chart_27 : decode cX6_chart 27 = .ok (.iload_n 1, 1) := by decide +kernel
theorem dX6_chart_28 : decode cX6_chart 28 = .ok (.iload_n 2, 1) := by decide +kernel
theorem dX6_chart_29 : decode cX6_chart 29 = .ok (.invokevirtual 78, 3) := by decide +kernel
theorem dX6_chart_32 : decode cX6_chart 32 = .ok (.aload_n 0, 1) := by decide +kernel
theorem dX6_chart_33 : decode cX6_chart 33 = .ok (.invokevirtual 68, 3) := by decide +kernel
theorem dX6_chart_36 : decode cX6_chart 36 = .ok (.iconst 1, 1) := by decide +kernel
theorem dX6_chart_37 : decode cX6_chart 37 = .ok (.ireturn, 1) := by decide +kernel
set_option maxRecDepth 20000 in
theorem ggX6_place_X1_hasCell : GoodIn wsX6_place wsX1_hasCell := goodIn_r _ [9, 10, 11, 12, 13, 14, 63, 64, 65, 66, 67, 68, 69, 70, 71, 72] (by decide +kernel) (by decide +kernel)
set_option maxRecDepth 20000 in
theorem gX6_place_X1_hasCell : GoodIn wsX6_place (wsV RX6 82 RX1 yX1_hasCell wsX1_hasCell) := goodIn_app (goodIn_of _ (by decide +kernel)) ggX6_place_X1_hasCell
set_option maxRecDepth 20000 in
theorem ggX6_place_X6_isWithin : GoodIn wsX6_place wsX6_isWithin := goodIn_r _ [14] (by decide +kernel) (by decide +kernel)
set_option maxRecDepth 20000 in
theorem gX6_place_X6_isWithin : GoodIn wsX6_place (va_wsS RX6 74 yX6_isWithin wsX6_isWithin) := goodIn_app (goodIn_of _ (by decide +kernel)) ggX6_place_X6_isWithin
set_option maxRecDepth 20000 in
theorem ggX6_place_X6_cellOf : GoodIn wsX6_place wsX6_cellOf := goodIn_r _ [18] (by decide +kernel) (by decide +kernel)
set_option maxRecDepth 20000 in
theorem gX6_place_X6_cellOf : GoodIn wsX6_place (va_wsS RX6 90 yX6_cellOf wsX6_cellOf) := goodIn_app (goodIn_of _ (by decide +kernel)) ggX6_place_X6_cellOf
set_option maxRecDepth 20000 in
theorem ggX6_place_X1_placeAt : GoodIn wsX6_place wsX1_placeAt := goodIn_r _ [22, 23, 24, 25, 63, 64, 65, 66, 67, 68, 69, 70, 71, 72] (by decide +kernel) (by decide +kernel)
set_option maxRecDepth 20000 in
theorem gX6_place_X1_placeAt : GoodIn wsX6_place (wsV RX6 94 RX1 yX1_placeAt wsX1_placeAt) := goodIn_app (goodIn_of _ (by decide +kernel)) ggX6_place_X1_placeAt
set_option maxRecDepth 20000 in
theorem ggX6_place_X1_removePlace : GoodIn wsX6_place wsX1_removePlace := goodIn_r _ [29, 23, 30, 31, 32, 8, 33, 24, 25, 34, 63, 64, 65, 66, 67, 68, 69, 70, 71, 72] (by decide +kernel) (by decide +kernel)
set_option maxRecDepth 20000 in
theorem gX6_place_X1_removePlace : GoodIn wsX6_place (wsV RX6 97 RX1 yX1_removePlace wsX1_removePlace) := goodIn_app (goodIn_of _ (by decide +kernel)) ggX6_place_X1_removePlace
set_option maxRecDepth 20000 in
theorem ggX6_place_X1_addPlace : GoodIn wsX6_place wsX1_addPlace := goodIn_r _ [38, 23, 24, 25, 34, 39, 40, 41, 8, 42, 30, 31, 32, 33, 63, 64, 65, 66, 67, 68, 69, 70, 71, 72] (by decide +kernel) (by decide +kernel)
set_option maxRecDepth 20000 in
theorem gX6_place_X1_addPlace : GoodIn wsX6_place (wsV RX6 100 RX1 yX1_addPlace wsX1_addPlace) := goodIn_app (goodIn_of _ (by decide +kernel)) ggX6_place_X1_addPlace
set_option maxRecDepth 20000 in
theorem ggX6_place_X6_forgetDrawings : GoodIn wsX6_place wsX6_forgetDrawings := goodIn_r _ [46, 47, 48, 49, 50, 51, 52, 53, 54, 55, 56, 57, 58, 59, 60, 61, 62, 73, 74, 75, 76, 77, 78, 79, 80, 81, 82, 83, 84, 85, 86, 87, 88] (by decide +kernel) (by decide +kernel)
set_option maxRecDepth 20000 in
theorem gX6_place_X6_forgetDrawings : GoodIn wsX6_place (wsV RX6 68 RX6 yX6_forgetDrawings wsX6_forgetDrawings) := goodIn_app (goodIn_of _ (by decide +kernel)) ggX6_place_X6_forgetDrawings
theorem dX6_place_0 : decode cX6_place 0 = .ok (.aload_n 0, 1) := by decide +kernel
theorem dX6_place_1 : decode cX6_place 1 = .ok (.getfield 19, 3) := by decide +kernel
theorem dX6_place_4 : decode cX6_place 4 = .ok (.iload_n 1, 1) := by decide +kernel
theorem dX6_place_5 : decode cX6_place 5 = .ok (.iload_n 2, 1) := by decide +kernel
theorem dX6_place_6 : decode cX6_place 6 = .ok (.invokevirtual 82, 3) := by decide +kernel
theorem dX6_place_9 : decode cX6_place 9 = .ok (.ifCond .eq 29, 3) := by decide +kernel
theorem dX6_place_12 : decode cX6_place 12 = .ok (.iload_n 3, 1) := by decide +kernel
theorem dX6_place_13 : decode cX6_place 13 = .ok (.iconst 0, 1) := by decide +kernel
theorem dX6_place_14 : decode cX6_place 14 = .ok (.bipush 99, 2) := by decide +kernel
theorem dX6_place_16 : decode cX6_place 16 = .ok (.invokestatic 74, 3) := by decide +kernel
theorem dX6_place_19 : decode cX6_place 19 = .ok (.ifCond .eq 19, 3) := by decide +kernel
theorem dX6_place_22 : decode cX6_place 22 = .ok (.aload_n 0, 1) := by decide +kernel
theorem dX6_place_23 : decode cX6_place 23 = .ok (.getfield 19, 3) := by decide +kernel
theorem dX6_place_26 : decode cX6_place 26 = .ok (.getfield 86, 3) := by decide +kernel
theorem dX6_place_29 : decode cX6_place 29 = .ok (.iload_n 1, 1) := by decide +kernel
theorem dX6_place_30 : decode cX6_place 30 = .ok (.iload_n 2, 1) := by decide +kernel
theorem dX6_place_31 : decode cX6_place 31 = .ok (.invokestatic 90, 3) := by decide +kernel
theorem dX6_place_34 : decode cX6_place 34 = .ok (.baload, 1) := by decide +kernel
theorem dX6_place_35 : decode cX6_place 35 = .ok (.ifCond .eq 5, 3) := by decide +kernel
theorem dX6_place_38 : decode cX6_place 38 = .ok (.iconst (-1), 1) := by decide +kernel
theorem dX6_place_39 : decode cX6_place 39 = .ok (.ireturn, 1) := by decide +kernel
theorem dX6_place_40 : decode cX6_place 40 = .ok (.aload_n 0, 1) := by decide +kernel
theorem dX6_place_41 : decode cX6_place 41 = .ok (.getfield 19, 3) := by decide +kernel
theorem dX6_place_44 : decode cX6_place 44 = .ok (.iload_n 1, 1) := by decide +kernel
theorem dX6_place_45 : decode cX6_place 45 = .ok (.iload_n 2, 1) := by decide +kernel
theorem dX6_place_46 : decode cX6_place 46 = .ok (.invokevirtual 94, 3) := by decide +kernel
theorem dX6_place_49 : decode cX6_place 49 = .ok (.istore 4, 2) := by decide +kernel
theorem dX6_place_51 : decode cX6_place 51 = .ok (.iload 4, 2) := by decide +kernel
theorem dX6_place_53 : decode cX6_place 53 = .ok (.iconst (-1), 1) := by decide +kernel
theorem dX6_place_54 : decode cX6_place 54 = .ok (.if_icmp .ne 21, 3) := by decide +kernel
theorem dX6_place_57 : decode cX6_place 57 = .ok (.iload_n 3, 1) := by decide +kernel
theorem dX6_place_58 : decode cX6_place 58 = .ok (.ifCond .eq 15, 3) := by decide +kernel
theorem dX6_place_61 : decode cX6_place 61 = .ok (.aload_n 0, 1) := by decide +kernel
theorem dX6_place_62 : decode cX6_place 62 = .ok (.getfield 19, 3) := by decide +kernel
theorem dX6_place_65 : decode cX6_place 65 = .ok (.getfield 71, 3) := by decide +kernel
theorem dX6_place_68 : decode cX6_place 68 = .ok (.bipush 7, 2) := by decide +kernel
theorem dX6_place_70 : decode cX6_place 70 = .ok (.if_icmp .lt 5, 3) := by decide +kernel
theorem dX6_place_73 : decode cX6_place 73 = .ok (.iconst (-1), 1) := by decide +kernel
theorem dX6_place_74 : decode cX6_place 74 = .ok (.ireturn, 1) := by decide +kernel
theorem dX6_place_75 : decode cX6_place 75 = .ok (.iload_n 3, 1) := by decide +kernel
theorem dX6_place_76 : decode cX6_place 76 = .ok (.ifCond .ne 15, 3) := by decide +kernel
theorem dX6_place_79 : decode cX6_place 79 = .ok (.aload_n 0, 1) := by decide +kernel
theorem dX6_place_80 : decode cX6_place 80 = .ok (.getfield 19, 3) := by decide +kernel
theorem dX6_place_83 : decode cX6_place 83 = .ok (.iload 4, 2) := by decide +kernel
theorem dX6_place_85 : decode cX6_place 85 = .ok (.invokevirtual 97, 3) := by decide +kernel
theorem dX6_place_88 : decode cX6_place 88 = .ok (.goto 33, 3) := by decide +kernel
theorem dX6_place_91 : decode cX6_place 91 = .ok (.iload 4, 2) := by decide +kernel
theorem dX6_place_93 : decode cX6_place 93 = .ok (.iconst (-1), 1) := by decide +kernel
theorem dX6_place_94 : decode cX6_place 94 = .ok (.if_icmp .ne 16, 3) := by decide +kernel
theorem dX6_place_97 : decode cX6_place 97 = .ok (.aload_n 0, 1) := by decide +kernel
theorem dX6_place_98 : decode cX6_place 98 = .ok (.getfield 19, 3) := by decide +kernel
theorem dX6_place_101 : decode cX6_place 101 = .ok (.iload_n 1, 1) := by decide +kernel
theorem dX6_place_102 : decode cX6_place 102 = .ok (.iload_n 2, 1) := by decide +kernel
theorem dX6_place_103 : decode cX6_place 103 = .ok (.iload_n 3, 1) := by decide +kernel
theorem dX6_place_104 : decode cX6_place 104 = .ok (.invokevirtual 100, 3) := by decide +kernel
theorem dX6_place_107 : decode cX6_place 107 = .ok (.goto 14, 3) := by decide +kernel
theorem dX6_place_110 : decode cX6_place 110 = .ok (.aload_n 0, 1) := by decide +kernel
theorem dX6_place_111 : decode cX6_place 111 = .ok (.getfield 19, 3) := by decide +kernel
theorem dX6_place_114 : decode cX6_place 114 = .ok (.getfield 104, 3) := by decide +kernel
theorem dX6_place_117 : decode cX6_place 117 = .ok (.iload 4, 2) := by decide +kernel
theorem dX6_place_119 : decode cX6_place 119 = .ok (.iload_n 3, 1) := by decide +kernel
theorem dX6_place_120 : decode cX6_place 120 = .ok (.iastore, 1) := by decide +kernel
theorem dX6_place_121 : decode cX6_place 121 = .ok (.aload_n 0, 1) := by decide +kernel
theorem dX6_place_122 : decode cX6_place 122 = .ok (.invokevirtual 68, 3) := by decide +kernel
theorem dX6_place_125 : decode cX6_place 125 = .ok (.aload_n 0, 1) := by decide +kernel
theorem dX6_place_126 : decode cX6_place 126 = .ok (.getfield 19, 3) := by decide +kernel
theorem dX6_place_129 : decode cX6_place 129 = .ok (.getfield 71, 3) := by decide +kernel
theorem dX6_place_132 : decode cX6_place 132 = .ok (.ireturn, 1) := by decide +kernel
set_option maxRecDepth 20000 in
theorem ggX6_rock_X1_hasCell : GoodIn wsX6_rock wsX1_hasCell := goodIn_r _ [7, 8, 9, 10, 11, 12, 43, 44, 45, 46, 47, 48, 49, 50, 51, 52] (by decide +kernel) (by decide +kernel)
set_option maxRecDepth 20000 in
theorem gX6_rock_X1_hasCell : GoodIn wsX6_rock (wsV RX6 82 RX1 yX1_hasCell wsX1_hasCell) := goodIn_app (goodIn_of _ (by decide +kernel)) ggX6_rock_X1_hasCell
set_option maxRecDepth 20000 in
theorem ggX6_rock_X6_cellOf : GoodIn wsX6_rock wsX6_cellOf := goodIn_r _ [15] (by decide +kernel) (by decide +kernel)
set_option maxRecDepth 20000 in
theorem gX6_rock_X6_cellOf : GoodIn wsX6_rock (va_wsS RX6 90 yX6_cellOf wsX6_cellOf) := goodIn_app (goodIn_of _ (by decide +kernel)) ggX6_rock_X6_cellOf
set_option maxRecDepth 20000 in
theorem ggX6_rock_X1_placeAt : GoodIn wsX6_rock wsX1_placeAt := goodIn_r _ [19, 20, 21, 22, 43, 44, 45, 46, 47, 48, 49, 50, 51, 52] (by decide +kernel) (by decide +kernel)
set_option maxRecDepth 20000 in
theorem gX6_rock_X1_placeAt : GoodIn wsX6_rock (wsV RX6 94 RX1 yX1_placeAt wsX1_placeAt) := goodIn_app (goodIn_of _ (by decide +kernel)) ggX6_rock_X1_placeAt
set_option maxRecDepth 20000 in
theorem ggX6_rock_X6_forgetDrawings : GoodIn wsX6_rock wsX6_forgetDrawings := goodIn_r _ [26, 27, 28, 29, 30, 31, 32, 33, 34, 35, 36, 37, 38, 39, 40, 41, 42, 53, 54, 55, 56, 57, 58, 59, 60, 61, 62, 63, 64, 65, 66, 67, 68] (by decide +kernel) (by decide +kernel)
set_option maxRecDepth 20000 in
theorem gX6_rock_X6_forgetDrawings : GoodIn wsX6_rock (wsV RX6 68 RX6 yX6_forgetDrawings wsX6_forgetDrawings) := goodIn_app (goodIn_of _ (by decide +kernel)) ggX6_rock_X6_forgetDrawings
theorem dX6_rock_0 : decode cX6_rock 0 = .ok (.aload_n 0, 1) := by decide +kernel
theorem dX6_rock_1 : decode cX6_rock 1 = .ok (.getfield 19, 3) := by decide +kernel
theorem dX6_rock_4 : decode cX6_rock 4 = .ok (.iload_n 1, 1) := by decide +kernel
theorem dX6_rock_5 : decode cX6_rock 5 = .ok (.iload_n 2, 1) := by decide +kernel
theorem dX6_rock_6 : decode cX6_rock 6 = .ok (.invokevirtual 82, 3) := by decide +kernel
theorem dX6_rock_9 : decode cX6_rock 9 = .ok (.ifCond .eq 33, 3) := by decide +kernel
theorem dX6_rock_12 : decode cX6_rock 12 = .ok (.aload_n 0, 1) := by decide +kernel
theorem dX6_rock_13 : decode cX6_rock 13 = .ok (.getfield 19, 3) := by decide +kernel
theorem dX6_rock_16 : decode cX6_rock 16 = .ok (.getfield 86, 3) := by decide +kernel
theorem dX6_rock_19 : decode cX6_rock 19 = .ok (.iload_n 1, 1) := by decide +kernel
theorem dX6_rock_20 : decode cX6_rock 20 = .ok (.iload_n 2, 1) := by decide +kernel
theorem dX6_rock_21 : decode cX6_rock 21 = .ok (.invokestatic 90, 3) := by decide +kernel
theorem dX6_rock_24 : decode cX6_rock 24 = .ok (.baload, 1) := by decide +kernel
theorem dX6_rock_25 : decode cX6_rock 25 = .ok (.iload_n 3, 1) := by decide +kernel
theorem dX6_rock_26 : decode cX6_rock 26 = .ok (.if_icmp .eq 16, 3) := by decide +kernel
theorem dX6_rock_29 : decode cX6_rock 29 = .ok (.aload_n 0, 1) := by decide +kernel
theorem dX6_rock_30 : decode cX6_rock 30 = .ok (.getfield 19, 3) := by decide +kernel
theorem dX6_rock_33 : decode cX6_rock 33 = .ok (.iload_n 1, 1) := by decide +kernel
theorem dX6_rock_34 : decode cX6_rock 34 = .ok (.iload_n 2, 1) := by decide +kernel
theorem dX6_rock_35 : decode cX6_rock 35 = .ok (.invokevirtual 94, 3) := by decide +kernel
theorem dX6_rock_38 : decode cX6_rock 38 = .ok (.iconst (-1), 1) := by decide +kernel
theorem dX6_rock_39 : decode cX6_rock 39 = .ok (.if_icmp .eq 5, 3) := by decide +kernel
theorem dX6_rock_42 : decode cX6_rock 42 = .ok (.iconst 0, 1) := by decide +kernel
theorem dX6_rock_43 : decode cX6_rock 43 = .ok (.ireturn, 1) := by decide +kernel
theorem dX6_rock_44 : decode cX6_rock 44 = .ok (.aload_n 0, 1) := by decide +kernel
theorem dX6_rock_45 : decode cX6_rock 45 = .ok (.getfield 19, 3) := by decide +kernel
theorem dX6_rock_48 : decode cX6_rock 48 = .ok (.getfield 86, 3) := by decide +kernel
theorem dX6_rock_51 : decode cX6_rock 51 = .ok (.iload_n 1, 1) := by decide +kernel
theorem dX6_rock_52 : decode cX6_rock 52 = .ok (.iload_n 2, 1) := by decide +kernel
theorem dX6_rock_53 : decode cX6_rock 53 = .ok (.invokestatic 90, 3) := by decide +kernel
theorem dX6_rock_56 : decode cX6_rock 56 = .ok (.iload_n 3, 1) := by decide +kernel
theorem dX6_rock_57 : decode cX6_rock 57 = .ok (.bastore, 1) := by decide +kernel
theorem dX6_rock_58 : decode cX6_rock 58 = .ok (.aload_n 0, 1) := by decide +kernel
theorem dX6_rock_59 : decode cX6_rock 59 = .ok (.invokevirtual 68, 3) := by decide +kernel
theorem dX6_rock_62 : decode cX6_rock 62 = .ok (.iconst 1, 1) := by decide +kernel
theorem dX6_rock_63 : decode cX6_rock 63 = .ok (.ireturn, 1) := by decide +kernel
set_option maxRecDepth 20000 in
theorem ggX6_set_X6_isWithin : GoodIn wsX6_set wsX6_isWithin := goodIn_r _ [8] (by decide +kernel) (by decide +kernel)
set_option maxRecDepth 20000 in
theorem gX6_set_X6_isWithin : GoodIn wsX6_set (va_wsS RX6 74 yX6_isWithin wsX6_isWithin) := goodIn_app (goodIn_of _ (by decide +kernel)) ggX6_set_X6_isWithin
set_option maxRecDepth 20000 in
theorem ggX6_set_X6_forgetDrawings : GoodIn wsX6_set wsX6_forgetDrawings := goodIn_r _ [12, 13, 14, 15, 16, 17, 18, 19, 20, 21, 22, 23, 24, 25, 26, 27, 28, 39, 40, 41, 42, 43, 44, 45, 46, 47, 48, 49, 50, 51, 52, 53, 54] (by decide +kernel) (by decide +kernel)
set_option maxRecDepth 20000 in
theorem gX6_set_X6_forgetDrawings : GoodIn wsX6_set (wsV RX6 68 RX6 yX6_forgetDrawings wsX6_forgetDrawings) := goodIn_app (goodIn_of _ (by decide +kernel)) ggX6_set_X6_forgetDrawings
theorem dX6_set_0 : decode cX6_set 0 = .ok (.iconst (-1), 1) := by decide +kernel
theorem dX6_set_1 : decode cX6_set 1 = .ok (.istore_n 3, 1) := by decide +kernel
theorem dX6_set_2 : decode cX6_set 2 = .ok (.iload_n 1, 1) := by decide +kernel
theorem dX6_set_3 : decode cX6_set 3 = .ok (.ifCond .ne 32, 3) := by decide +kernel
theorem dX6_set_6 : decode cX6_set 6 = .ok (.iload_n 2, 1) := by decide +kernel
theorem dX6_set_7 : decode cX6_set 7 = .ok (.iconst 1, 1) := by decide +kernel
theorem dX6_set_8 : decode cX6_set 8 = .ok (.bipush 99, 2) := by decide +kernel
theorem dX6_set_10 : decode cX6_set 10 = .ok (.invokestatic 74, 3) := by decide +kernel
theorem dX6_set_13 : decode cX6_set 13 = .ok (.ifCond .eq 22, 3) := by decide +kernel
theorem dX6_set_16 : decode cX6_set 16 = .ok (.aload_n 0, 1) := by decide +kernel
theorem dX6_set_17 : decode cX6_set 17 = .ok (.getfield 19, 3) := by decide +kernel
theorem dX6_set_20 : decode cX6_set 20 = .ok (.getfield 108, 3) := by decide +kernel
theorem dX6_set_23 : decode cX6_set 23 = .ok (.istore_n 3, 1) := by decide +kernel
theorem dX6_set_24 : decode cX6_set 24 = .ok (.aload_n 0, 1) := by decide +kernel
theorem dX6_set_25 : decode cX6_set 25 = .ok (.getfield 19, 3) := by decide +kernel
theorem dX6_set_28 : decode cX6_set 28 = .ok (.iload_n 2, 1) := by decide +kernel
theorem dX6_set_29 : decode cX6_set 29 = .ok (.putfield 108, 3) := by decide +kernel
theorem dX6_set_32 : decode cX6_set 32 = .ok (.goto 68, 3) := by decide +kernel
theorem dX6_set_35 : decode cX6_set 35 = .ok (.iload_n 1, 1) := by decide +kernel
theorem dX6_set_36 : decode cX6_set 36 = .ok (.iconst 1, 1) := by decide +kernel
theorem dX6_set_37 : decode cX6_set 37 = .ok (.if_icmp .ne 32, 3) := by decide +kernel
theorem dX6_set_40 : decode cX6_set 40 = .ok (.iload_n 2, 1) := by decide +kernel
theorem dX6_set_41 : decode cX6_set 41 = .ok (.iconst 0, 1) := by decide +kernel
theorem dX6_set_42 : decode cX6_set 42 = .ok (.bipush 40, 2) := by decide +kernel
theorem dX6_set_44 : decode cX6_set 44 = .ok (.invokestatic 74, 3) := by decide +kernel
theorem dX6_set_47 : decode cX6_set 47 = .ok (.ifCond .eq 22, 3) := by decide +kernel
theorem dX6_set_50 : decode cX6_set 50 = .ok (.aload_n 0, 1) := by decide +kernel
theorem dX6_set_51 : decode cX6_set 51 = .ok (.getfield 19, 3) := by decide +kernel
theorem dX6_set_54 : decode cX6_set 54 = .ok (.getfield 111, 3) := by decide +kernel
theorem dX6_set_57 : decode cX6_set 57 = .ok (.istore_n 3, 1) := by decide +kernel
theorem dX6_set_58 : decode cX6_set 58 = .ok (.aload_n 0, 1) := by decide +kernel
theorem dX6_set_59 : decode cX6_set 59 = .ok (.getfield 19, 3) := by decide +kernel
theorem dX6_set_62 : decode cX6_set 62 = .ok (.iload_n 2, 1) := by decide +kernel
theorem dX6_set_63 : decode cX6_set 63 = .ok (.putfield 111, 3) := by decide +kernel
theorem dX6_set_66 : decode cX6_set 66 = .ok (.goto 34, 3) := by decide +kernel
theorem dX6_set_69 : decode cX6_set 69 = .ok (.iload_n 1, 1) := by decide +kernel
theorem dX6_set_70 : decode cX6_set 70 = .ok (.iconst 2, 1) := by decide +kernel
theorem dX6_set_71 : decode cX6_set 71 = .ok (.if_icmp .ne 29, 3) := by decide +kernel
theorem dX6_set_74 : decode cX6_set 74 = .ok (.iload_n 2, 1) := by decide +kernel
theorem dX6_set_75 : decode cX6_set 75 = .ok (.iconst 0, 1) := by decide +kernel
theorem dX6_set_76 : decode cX6_set 76 = .ok (.bipush 6, 2) := by decide +kernel
theorem dX6_set_78 : decode cX6_set 78 = .ok (.invokestatic 74, 3) := by decide +kernel
theorem dX6_set_81 : decode cX6_set 81 = .ok (.ifCond .eq 19, 3) := by decide +kernel
theorem dX6_set_84 : decode cX6_set 84 = .ok (.aload_n 0, 1) := by decide +kernel
theorem dX6_set_85 : decode cX6_set 85 = .ok (.getfield 19, 3) := by decide +kernel
theorem dX6_set_88 : decode cX6_set 88 = .ok (.getfield 114, 3) := by decide +kernel
theorem dX6_set_91 : decode cX6_set 91 = .ok (.istore_n 3, 1) := by decide +kernel
theorem dX6_set_92 : decode cX6_set 92 = .ok (.aload_n 0, 1) := by decide +kernel
theorem dX6_set_93 : decode cX6_set 93 = .ok (.getfield 19, 3) := by decide +kernel
theorem dX6_set_96 : decode cX6_set 96 = .ok (.iload_n 2, 1) := by decide +kernel
theorem dX6_set_97 : decode cX6_set 97 = .ok (.putfield 114, 3) := by decide +kernel
theorem dX6_set_100 : decode cX6_set 100 = .ok (.iload_n 3, 1) := by decide +kernel
theorem dX6_set_101 : decode cX6_set 101 = .ok (.iconst (-1), 1) := by decide +kernel
theorem dX6_set_102 : decode cX6_set 102 = .ok (.if_icmp .eq 7, 3) := by decide +kernel
theorem dX6_set_105 : decode cX6_set 105 = .ok (.aload_n 0, 1) := by decide +kernel
theorem dX6_set_106 : decode cX6_set 106 = .ok (.invokevirtual 68, 3) := by decide +kernel
theorem dX6_set_109 : decode cX6_set 109 = .ok (.iload_n 3, 1) := by decide +kernel
theorem dX6_set_110 : decode cX6_set 110 = .ok (.ireturn, 1) := by decide +kernel
set_option maxRecDepth 20000 in
theorem ggX6_at_X6_hasPlace : GoodIn wsX6_at wsX6_hasPlace := goodIn_r _ [11, 3, 12, 16, 17, 18, 19, 20, 21, 22, 23, 24, 25, 26, 27, 28, 29, 30, 31, 32, 33, 34] (by decide +kernel) (by decide +kernel)
set_option maxRecDepth 20000 in
theorem gX6_at_X6_hasPlace : GoodIn wsX6_at (wsV RX6 117 RX6 yX6_hasPlace wsX6_hasPlace) := goodIn_app (goodIn_of _ (by decide +kernel)) ggX6_at_X6_hasPlace
set_option maxRecDepth 20000 in
theorem ggX6_at_X6_isWithin : GoodIn wsX6_at wsX6_isWithin := goodIn_r _ [15] (by decide +kernel) (by decide +kernel)
set_option maxRecDepth 20000 in
theorem gX6_at_X6_isWithin : GoodIn wsX6_at (va_wsS RX6 74 yX6_isWithin wsX6_isWithin) := goodIn_app (goodIn_of _ (by decide +kernel)) ggX6_at_X6_isWithin
theorem dX6_at_0 : decode cX6_at 0 = .ok (.aload_n 0, 1) := by decide +kernel
theorem dX6_at_1 : decode cX6_at 1 = .ok (.iload_n 1, 1) := by decide +kernel
theorem dX6_at_2 : decode cX6_at 2 = .ok (.invokevirtual 117, 3) := by decide +kernel
theorem dX6_at_5 : decode cX6_at 5 = .ok (.ifCond .eq 12, 3) := by decide +kernel
theorem dX6_at_8 : decode cX6_at 8 = .ok (.iload_n 2, 1) := by decide +kernel
theorem dX6_at_9 : decode cX6_at 9 = .ok (.iconst 0, 1) := by decide +kernel
theorem dX6_at_10 : decode cX6_at 10 = .ok (.iconst 2, 1) := by decide +kernel
theorem dX6_at_11 : decode cX6_at 11 = .ok (.invokestatic 74, 3) := by decide +kernel
theorem dX6_at_14 : decode cX6_at 14 = .ok (.ifCond .ne 13, 3) := by decide +kernel
theorem dX6_at_17 : decode cX6_at 17 = .ok (.new 121, 3) := by decide +kernel
theorem dX6_at_20 : decode cX6_at 20 = .ok (.dup, 1) := by decide +kernel
theorem dX6_at_21 : decode cX6_at 21 = .ok (.ldc 123, 2) := by decide +kernel
theorem dX6_at_23 : decode cX6_at 23 = .ok (.invokespecial 125, 3) := by decide +kernel
theorem dX6_at_26 : decode cX6_at 26 = .ok (.athrow, 1) := by decide +kernel
theorem dX6_at_27 : decode cX6_at 27 = .ok (.iload_n 2, 1) := by decide +kernel
theorem dX6_at_28 : decode cX6_at 28 = .ok (.ifCond .ne 13, 3) := by decide +kernel
theorem dX6_at_31 : decode cX6_at 31 = .ok (.aload_n 0, 1) := by decide +kernel
theorem dX6_at_32 : decode cX6_at 32 = .ok (.getfield 19, 3) := by decide +kernel
theorem dX6_at_35 : decode cX6_at 35 = .ok (.getfield 128, 3) := by decide +kernel
theorem dX6_at_38 : decode cX6_at 38 = .ok (.iload_n 1, 1) := by decide +kernel
theorem dX6_at_39 : decode cX6_at 39 = .ok (.iaload, 1) := by decide +kernel
theorem dX6_at_40 : decode cX6_at 40 = .ok (.ireturn, 1) := by decide +kernel
theorem dX6_at_41 : decode cX6_at 41 = .ok (.iload_n 2, 1) := by decide +kernel
theorem dX6_at_42 : decode cX6_at 42 = .ok (.iconst 1, 1) := by decide +kernel
theorem dX6_at_43 : decode cX6_at 43 = .ok (.if_icmp .ne 15, 3) := by decide +kernel
theorem dX6_at_46 : decode cX6_at 46 = .ok (.aload_n 0, 1) := by decide +kernel
theorem dX6_at_47 : decode cX6_at 47 = .ok (.getfield 19, 3) := by decide +kernel
theorem dX6_at_50 : decode cX6_at 50 = .ok (.getfield 131, 3) := by decide +kernel
theorem dX6_at_53 : decode cX6_at 53 = .ok (.iload_n 1, 1) := by decide +kernel
theorem dX6_at_54 : decode cX6_at 54 = .ok (.iaload, 1) := by decide +kernel
theorem dX6_at_55 : decode cX6_at 55 = .ok (.goto 12, 3) := by decide +kernel
theorem dX6_at_58 : decode cX6_at 58 = .ok (.aload_n 0, 1) := by decide +kernel
theorem dX6_at_59 : decode cX6_at 59 = .ok (.getfield 19, 3) := by decide +kernel
theorem dX6_at_62 : decode cX6_at 62 = .ok (.getfield 104, 3) := by decide +kernel
theorem dX6_at_65 : decode cX6_at 65 = .ok (.iload_n 1, 1) := by decide +kernel
theorem dX6_at_66 : decode cX6_at 66 = .ok (.iaload, 1) := by decide +kernel
theorem dX6_at_67 : decode cX6_at 67 = .ok (.ireturn, 1) := by decide +kernel
set_option maxRecDepth 20000 in
theorem ggX6_ink_X6_knownBests : GoodIn wsX6_ink wsX6_knownBests := goodIn_r _ [8, 9, 10, 1, 11, 12, 13, 14, 15, 16, 17, 18, 19, 20, 21, 22, 23, 24, 25, 26, 27, 28, 29, 30, 31, 32, 33, 7, 34, 35, 36, 37, 38, 39, 40, 41, 42, 43, 44, 45, 46, 47, 48, 49, 50, 51, 52, 53, 54, 55, 56, 57, 58, 59, 60, 61, 62, 63, 64, 65, 66, 67, 68, 69, 70, 71, 72, 73, 74, 75, 76, 77, 78, 79, 80, 81, 82, 83, 84, 85, 86, 87, 88, 89, 90, 91, 92, 93, 94, 95, 96, 97, 98, 99, 100, 101, 102, 103, 104, 105, 106, 107, 108, 109, 110, 260, 261, 262, 263, 264, 265, 266, 267, 268, 274, 275, 276, 277, 278, 279, 280, 281, 282, 283, 284, 285, 286, 287, 288, 289, 290, 291, 292, 293, 294] (by decide +kernel) (by decide +kernel)
set_option maxRecDepth 20000 in
theorem gX6_ink_X6_knownBests : GoodIn wsX6_ink (wsV RX6 134 RX6 yX6_knownBests wsX6_knownBests) := goodIn_app (goodIn_of _ (by decide +kernel)) ggX6_ink_X6_knownBests
set_option maxRecDepth 20000 in
theorem ggX6_ink_X0_inkOfAllAlone : GoodIn wsX6_ink wsX0_inkOfAllAlone := goodIn_r _ [114, 26, 115, 116, 117, 14, 118, 75, 103, 104, 105, 106, 18, 285, 286, 287, 288, 289, 290, 291, 292, 293, 294, 274, 275, 276, 277, 278, 279, 280, 281, 282, 283, 284] (by decide +kernel) (by decide +kernel)
set_option maxRecDepth 20000 in
theorem gX6_ink_X0_inkOfAllAlone : GoodIn wsX6_ink (wsV RX6 138 RX0 yX0_inkOfAllAlone wsX0_inkOfAllAlone) := goodIn_app (goodIn_of _ (by decide +kernel)) ggX6_ink_X0_inkOfAllAlone
set_option maxRecDepth 20000 in
theorem ggX6_ink_X6_isTreeManner : GoodIn wsX6_ink wsX6_isTreeManner := goodIn_r _ [121, 122, 123, 7, 124] (by decide +kernel) (by decide +kernel)
set_option maxRecDepth 20000 in
theorem gX6_ink_X6_isTreeManner : GoodIn wsX6_ink (va_wsS RX6 142 yX6_isTreeManner wsX6_isTreeManner) := goodIn_app (goodIn_of _ (by decide +kernel)) ggX6_ink_X6_isTreeManner
set_option maxRecDepth 20000 in
theorem ggX6_ink_X6_treeOf : GoodIn wsX6_ink wsX6_treeOf := goodIn_r _ [128, 129, 130, 1, 9, 10, 131, 132, 133, 134, 135, 136, 137, 138, 139, 140, 141, 142, 143, 144, 145, 146, 147, 148, 149, 150, 151, 152, 153, 154, 155, 156, 30, 31, 32, 33, 7, 34, 157, 158, 159, 44, 160, 161, 67, 68, 69, 70, 162, 163, 164, 165, 166, 167, 168, 169, 170, 171, 172, 173, 174, 175, 176, 177, 178, 179, 48, 49, 50, 46, 51, 180, 53, 54, 55, 56, 57, 58, 59, 60, 61, 11, 12, 13, 14, 15, 16, 17, 18, 19, 20, 21, 22, 23, 24, 25, 26, 27, 28, 29, 35, 36, 37, 38, 39, 40, 41, 42, 43, 45, 47, 52, 62, 63, 64, 65, 66, 71, 72, 73, 74, 75, 76, 77, 78, 79, 80, 81, 82, 83, 84, 85, 86, 87, 88, 89, 90, 91, 92, 93, 94, 95, 96, 97, 98, 99, 100, 101, 102, 103, 104, 105, 106, 107, 108, 109, 110, 181, 182, 183, 184, 185, 186, 187, 188, 189, 190, 191, 192, 193, 194, 195, 196, 197, 198, 199, 200, 201, 202, 203, 204, 205, 206, 207, 208, 209, 210, 211, 212, 213, 214, 215, 216, 217, 218, 219, 220, 221, 222, 223, 224, 225, 226, 227, 228, 229, 230, 231, 232, 233, 234, 235, 236, 237, 238, 239, 240, 241, 242, 243, 244, 245, 246, 247, 248, 249, 250, 251, 252, 253, 254, 255, 256, 257, 258, 259, 260, 261, 262, 263, 264, 265, 266, 267, 268, 269, 270, 271, 272, 273, 274, 275, 276, 277, 278, 279, 280, 281, 282, 283, 284, 285, 286, 287, 288, 289, 290, 291, 292, 293, 294] (by decide +kernel) (by decide +kernel)
set_option maxRecDepth 20000 in
theorem gX6_ink_X6_treeOf : GoodIn wsX6_ink (wsV RX6 145 RX6 yX6_treeOf wsX6_treeOf) := goodIn_app (goodIn_of _ (by decide +kernel)) ggX6_ink_X6_treeOf
theorem dX6_ink_0 : decode cX6_ink 0 = .ok (.iload_n 1, 1) := by decide +kernel
theorem dX6_ink_1 : decode cX6_ink 1 = .ok (.ifCond .ne 15, 3) := by decide +kernel
theorem dX6_ink_4 : decode cX6_ink 4 = .ok (.aload_n 0, 1) := by decide +kernel
theorem dX6_ink_5 : decode cX6_ink 5 = .ok (.invokevirtual 134, 3) := by decide +kernel
theorem dX6_ink_8 : decode cX6_ink 8 = .ok (.aload_n 0, 1) := by decide +kernel
theorem dX6_ink_9 : decode cX6_ink 9 = .ok (.getfield 19, 3) := by decide +kernel
theorem dX6_ink_12 : decode cX6_ink 12 = .ok (.invokevirtual 138, 3) := by decide +kernel
theorem dX6_ink_15 : decode cX6_ink 15 = .ok (.ireturn, 1) := by decide +kernel
theorem dX6_ink_16 : decode cX6_ink 16 = .ok (.iload_n 1, 1) := by decide +kernel
theorem dX6_ink_17 : decode cX6_ink 17 = .ok (.invokestatic 142, 3) := by decide +kernel
theorem dX6_ink_20 : decode cX6_ink 20 = .ok (.ifCond .ne 5, 3) := by decide +kernel
theorem dX6_ink_23 : decode cX6_ink 23 = .ok (.iconst (-1), 1) := by decide +kernel
theorem dX6_ink_24 : decode cX6_ink 24 = .ok (.ireturn, 1) := by decide +kernel
theorem dX6_ink_25 : decode cX6_ink 25 = .ok (.aload_n 0, 1) := by decide +kernel
theorem dX6_ink_26 : decode cX6_ink 26 = .ok (.iload_n 1, 1) := by decide +kernel
theorem dX6_ink_27 : decode cX6_ink 27 = .ok (.invokevirtual 145, 3) := by decide +kernel
theorem dX6_ink_30 : decode cX6_ink 30 = .ok (.astore_n 2, 1) := by decide +kernel
theorem dX6_ink_31 : decode cX6_ink 31 = .ok (.aload_n 2, 1) := by decide +kernel
theorem dX6_ink_32 : decode cX6_ink 32 = .ok (.getfield 149, 3) := by decide +kernel
theorem dX6_ink_35 : decode cX6_ink 35 = .ok (.ifCond .eq 10, 3) := by decide +kernel
theorem dX6_ink_38 : decode cX6_ink 38 = .ok (.aload_n 2, 1) := by decide +kernel
theorem dX6_ink_39 : decode cX6_ink 39 = .ok (.getfield 153, 3) := by decide +kernel
theorem dX6_ink_42 : decode cX6_ink 42 = .ok (.goto 5, 3) := by decide +kernel
theorem dX6_ink_45 : decode cX6_ink 45 = .ok (.bipush (-2), 2) := by decide +kernel
theorem dX6_ink_47 : decode cX6_ink 47 = .ok (.ireturn, 1) := by decide +kernel
set_option maxRecDepth 20000 in
theorem ggX6_width_X6_isTreeManner : GoodIn wsX6_width wsX6_isTreeManner := goodIn_r _ [7, 8, 9, 6, 10] (by decide +kernel) (by decide +kernel)
set_option maxRecDepth 20000 in
theorem gX6_width_X6_isTreeManner : GoodIn wsX6_width (va_wsS RX6 142 yX6_isTreeManner wsX6_isTreeManner) := goodIn_app (goodIn_of _ (by decide +kernel)) ggX6_width_X6_isTreeManner
set_option maxRecDepth 20000 in
theorem ggX6_width_X1_hasCellOrSource : GoodIn wsX6_width wsX1_hasCellOrSource := goodIn_r _ [15, 16, 17, 18, 14, 19, 20, 21, 9, 6, 10, 273, 274, 275, 276, 277, 278, 279, 280, 281, 282] (by decide +kernel) (by decide +kernel)
