set_option maxRecDepth 20000 in
theorem ggX7_laysLengths_X7_isFree : GoodIn wsX7_laysLengths wsX7_isFree := goodIn_r _ [9, 10, 11, 12, 13, 8, 14, 15, 16, 17, 18, 19, 20, 21, 22, 3, 23, 24, 25, 31, 32, 33, 34, 35, 36, 37, 38, 39, 40, 41, 42, 43, 44, 45, 46, 47, 48, 49, 50, 51, 52, 53, 54, 55, 56, 57, 58, 59, 60, 61, 62, 63, 64, 65] (by decide +kernel) (by decide +kernel)
set_option maxRecDepth 20000 in
theorem gX7_laysLengths_X7_isFree : GoodIn wsX7_laysLengths (wsV RX7 210 RX7 yX7_isFree wsX7_isFree) := goodIn_app (goodIn_of _ (by decide +kernel)) ggX7_laysLengths_X7_isFree
set_option maxRecDepth 20000 in
theorem ggX7_laysLengths_X7_target : GoodIn wsX7_laysLengths wsX7_target := goodIn_r _ [14, 15, 16, 17, 8, 18, 19, 20, 21, 22, 3, 23, 24, 25, 31, 32, 33, 34, 35, 36, 37, 38, 39, 40, 41, 42, 43, 44, 45, 46, 47, 48, 49, 50, 51, 52, 53, 54, 55, 56, 57, 58, 59, 60, 61, 62, 63, 64, 65] (by decide +kernel) (by decide +kernel)
set_option maxRecDepth 20000 in
theorem gX7_laysLengths_X7_target : GoodIn wsX7_laysLengths (wsV RX7 207 RX7 yX7_target wsX7_target) := goodIn_app (goodIn_of _ (by decide +kernel)) ggX7_laysLengths_X7_target
set_option maxRecDepth 20000 in
theorem ggX7_laysLengths_X7_lengthOf : GoodIn wsX7_laysLengths wsX7_lengthOf := goodIn_r _ [29, 30, 31, 32, 33, 34, 35, 36, 37, 38, 39, 40, 41, 42, 43, 44, 45, 46, 47, 48, 49, 50, 51, 52, 53, 54, 55, 56, 57, 58, 59, 60, 61, 62, 63, 64, 65] (by decide +kernel) (by decide +kernel)
set_option maxRecDepth 20000 in
theorem gX7_laysLengths_X7_lengthOf : GoodIn wsX7_laysLengths (wsV RX7 238 RX7 yX7_lengthOf wsX7_lengthOf) := goodIn_app (goodIn_of _ (by decide +kernel)) ggX7_laysLengths_X7_lengthOf
set_option maxRecDepth 20000 in
theorem ggX7_laysLengths_X7_cell : GoodIn wsX7_laysLengths wsX7_cell := goodIn_r _ [25] (by decide +kernel) (by decide +kernel)
set_option maxRecDepth 20000 in
theorem gX7_laysLengths_X7_cell : GoodIn wsX7_laysLengths (va_wsS RX7 170 yX7_cell wsX7_cell) := goodIn_app (goodIn_of _ (by decide +kernel)) ggX7_laysLengths_X7_cell
theorem dX7_laysLengths_0 : decode cX7_laysLengths 0 = .ok (.aload_n 0, 1) := by decide +kernel
theorem dX7_laysLengths_1 : decode cX7_laysLengths 1 = .ok (.getfield 55, 3) := by decide +kernel
theorem dX7_laysLengths_4 : decode cX7_laysLengths 4 = .ok (.iconst 0, 1) := by decide +kernel
theorem dX7_laysLengths_5 : decode cX7_laysLengths 5 = .ok (.iconst 0, 1) := by decide +kernel
theorem dX7_laysLengths_6 : decode cX7_laysLengths 6 = .ok (.iastore, 1) := by decide +kernel
theorem dX7_laysLengths_7 : decode cX7_laysLengths 7 = .ok (.iconst 1, 1) := by decide +kernel
theorem dX7_laysLengths_8 : decode cX7_laysLengths 8 = .ok (.istore_n 1, 1) := by decide +kernel
theorem dX7_laysLengths_9 : decode cX7_laysLengths 9 = .ok (.iload_n 1, 1) := by decide +kernel
theorem dX7_laysLengths_10 : decode cX7_laysLengths 10 = .ok (.aload_n 0, 1) := by decide +kernel
theorem dX7_laysLengths_11 : decode cX7_laysLengths 11 = .ok (.getfield 83, 3) := by decide +kernel
theorem dX7_laysLengths_14 : decode cX7_laysLengths 14 = .ok (.if_icmp .gt 121, 3) := by decide +kernel
theorem dX7_laysLengths_17 : decode cX7_laysLengths 17 = .ok (.iconst 0, 1) := by decide +kernel
theorem dX7_laysLengths_18 : decode cX7_laysLengths 18 = .ok (.istore_n 2, 1) := by decide +kernel
theorem dX7_laysLengths_19 : decode cX7_laysLengths 19 = .ok (.iload_n 2, 1) := by decide +kernel
theorem dX7_laysLengths_20 : decode cX7_laysLengths 20 = .ok (.aload_n 0, 1) := by decide +kernel
theorem dX7_laysLengths_21 : decode cX7_laysLengths 21 = .ok (.getfield 86, 3) := by decide +kernel
theorem dX7_laysLengths_24 : decode cX7_laysLengths 24 = .ok (.if_icmp .ge 105, 3) := by decide +kernel
theorem dX7_laysLengths_27 : decode cX7_laysLengths 27 = .ok (.ldc 237, 2) := by decide +kernel
theorem dX7_laysLengths_29 : decode cX7_laysLengths 29 = .ok (.istore_n 3, 1) := by decide +kernel
theorem dX7_laysLengths_30 : decode cX7_laysLengths 30 = .ok (.iconst 0, 1) := by decide +kernel
theorem dX7_laysLengths_31 : decode cX7_laysLengths 31 = .ok (.istore 4, 2) := by decide +kernel
theorem dX7_laysLengths_33 : decode cX7_laysLengths 33 = .ok (.iload 4, 2) := by decide +kernel
theorem dX7_laysLengths_35 : decode cX7_laysLengths 35 = .ok (.iconst 2, 1) := by decide +kernel
theorem dX7_laysLengths_36 : decode cX7_laysLengths 36 = .ok (.if_icmp .gt 76, 3) := by decide +kernel
theorem dX7_laysLengths_39 : decode cX7_laysLengths 39 = .ok (.aload_n 0, 1) := by decide +kernel
theorem dX7_laysLengths_40 : decode cX7_laysLengths 40 = .ok (.iload_n 1, 1) := by decide +kernel
theorem dX7_laysLengths_41 : decode cX7_laysLengths 41 = .ok (.iload_n 2, 1) := by decide +kernel
theorem dX7_laysLengths_42 : decode cX7_laysLengths 42 = .ok (.iload 4, 2) := by decide +kernel
theorem dX7_laysLengths_44 : decode cX7_laysLengths 44 = .ok (.invokevirtual 210, 3) := by decide +kernel
theorem dX7_laysLengths_47 : decode cX7_laysLengths 47 = .ok (.ifCond .eq 19, 3) := by decide +kernel
theorem dX7_laysLengths_50 : decode cX7_laysLengths 50 = .ok (.aload_n 0, 1) := by decide +kernel
theorem dX7_laysLengths_51 : decode cX7_laysLengths 51 = .ok (.getfield 55, 3) := by decide +kernel
theorem dX7_laysLengths_54 : decode cX7_laysLengths 54 = .ok (.aload_n 0, 1) := by decide +kernel
theorem dX7_laysLengths_55 : decode cX7_laysLengths 55 = .ok (.iload_n 1, 1) := by decide +kernel
theorem dX7_laysLengths_56 : decode cX7_laysLengths 56 = .ok (.iload_n 2, 1) := by decide +kernel
theorem dX7_laysLengths_57 : decode cX7_laysLengths 57 = .ok (.iload 4, 2) := by decide +kernel
theorem dX7_laysLengths_59 : decode cX7_laysLengths 59 = .ok (.invokevirtual 207, 3) := by decide +kernel
theorem dX7_laysLengths_62 : decode cX7_laysLengths 62 = .ok (.iaload, 1) := by decide +kernel
theorem dX7_laysLengths_63 : decode cX7_laysLengths 63 = .ok (.goto 5, 3) := by decide +kernel
theorem dX7_laysLengths_66 : decode cX7_laysLengths 66 = .ok (.ldc 237, 2) := by decide +kernel
theorem dX7_laysLengths_68 : decode cX7_laysLengths 68 = .ok (.istore 5, 2) := by decide +kernel
theorem dX7_laysLengths_70 : decode cX7_laysLengths 70 = .ok (.iload 5, 2) := by decide +kernel
theorem dX7_laysLengths_72 : decode cX7_laysLengths 72 = .ok (.ldc 237, 2) := by decide +kernel
theorem dX7_laysLengths_74 : decode cX7_laysLengths 74 = .ok (.if_icmp .ge 30, 3) := by decide +kernel
theorem dX7_laysLengths_77 : decode cX7_laysLengths 77 = .ok (.iload 5, 2) := by decide +kernel
theorem dX7_laysLengths_79 : decode cX7_laysLengths 79 = .ok (.aload_n 0, 1) := by decide +kernel
theorem dX7_laysLengths_80 : decode cX7_laysLengths 80 = .ok (.iload_n 1, 1) := by decide +kernel
theorem dX7_laysLengths_81 : decode cX7_laysLengths 81 = .ok (.iload 4, 2) := by decide +kernel
theorem dX7_laysLengths_83 : decode cX7_laysLengths 83 = .ok (.invokevirtual 238, 3) := by decide +kernel
theorem dX7_laysLengths_86 : decode cX7_laysLengths 86 = .ok (.iadd, 1) := by decide +kernel
theorem dX7_laysLengths_87 : decode cX7_laysLengths 87 = .ok (.iload_n 3, 1) := by decide +kernel
theorem dX7_laysLengths_88 : decode cX7_laysLengths 88 = .ok (.if_icmp .ge 16, 3) := by decide +kernel
theorem dX7_laysLengths_91 : decode cX7_laysLengths 91 = .ok (.iload 5, 2) := by decide +kernel
theorem dX7_laysLengths_93 : decode cX7_laysLengths 93 = .ok (.aload_n 0, 1) := by decide +kernel
theorem dX7_laysLengths_94 : decode cX7_laysLengths 94 = .ok (.iload_n 1, 1) := by decide +kernel
theorem dX7_laysLengths_95 : decode cX7_laysLengths 95 = .ok (.iload 4, 2) := by decide +kernel
theorem dX7_laysLengths_97 : decode cX7_laysLengths 97 = .ok (.invokevirtual 238, 3) := by decide +kernel
theorem dX7_laysLengths_100 : decode cX7_laysLengths 100 = .ok (.iadd, 1) := by decide +kernel
theorem dX7_laysLengths_101 : decode cX7_laysLengths 101 = .ok (.goto 4, 3) := by decide +kernel
theorem dX7_laysLengths_104 : decode cX7_laysLengths 104 = .ok (.iload_n 3, 1) := by decide +kernel
theorem dX7_laysLengths_105 : decode cX7_laysLengths 105 = .ok (.istore_n 3, 1) := by decide +kernel
theorem dX7_laysLengths_106 : decode cX7_laysLengths 106 = .ok (.iinc 4 1, 3) := by decide +kernel
theorem dX7_laysLengths_109 : decode cX7_laysLengths 109 = .ok (.goto (-76), 3) := by decide +kernel
theorem dX7_laysLengths_112 : decode cX7_laysLengths 112 = .ok (.aload_n 0, 1) := by decide +kernel
theorem dX7_laysLengths_113 : decode cX7_laysLengths 113 = .ok (.getfield 55, 3) := by decide +kernel
theorem dX7_laysLengths_116 : decode cX7_laysLengths 116 = .ok (.iload_n 1, 1) := by decide +kernel
theorem dX7_laysLengths_117 : decode cX7_laysLengths 117 = .ok (.iload_n 2, 1) := by decide +kernel
theorem dX7_laysLengths_118 : decode cX7_laysLengths 118 = .ok (.invokestatic 170, 3) := by decide +kernel
theorem dX7_laysLengths_121 : decode cX7_laysLengths 121 = .ok (.iload_n 3, 1) := by decide +kernel
theorem dX7_laysLengths_122 : decode cX7_laysLengths 122 = .ok (.iastore, 1) := by decide +kernel
theorem dX7_laysLengths_123 : decode cX7_laysLengths 123 = .ok (.iinc 2 1, 3) := by decide +kernel
theorem dX7_laysLengths_126 : decode cX7_laysLengths 126 = .ok (.goto (-107), 3) := by decide +kernel
theorem dX7_laysLengths_129 : decode cX7_laysLengths 129 = .ok (.iinc 1 1, 3) := by decide +kernel
theorem dX7_laysLengths_132 : decode cX7_laysLengths 132 = .ok (.goto (-123), 3) := by decide +kernel
theorem dX7_laysLengths_135 : decode cX7_laysLengths 135 = .ok (.return_, 1) := by decide +kernel
set_option maxRecDepth 20000 in
theorem ggX7_aloneOf_X7_cell : GoodIn wsX7_aloneOf wsX7_cell := goodIn_r _ [10] (by decide +kernel) (by decide +kernel)
set_option maxRecDepth 20000 in
theorem gX7_aloneOf_X7_cell : GoodIn wsX7_aloneOf (va_wsS RX7 170 yX7_cell wsX7_cell) := goodIn_app (goodIn_of _ (by decide +kernel)) ggX7_aloneOf_X7_cell
theorem dX7_aloneOf_0 : decode cX7_aloneOf 0 = .ok (.aload_n 0, 1) := by decide +kernel
theorem dX7_aloneOf_1 : decode cX7_aloneOf 1 = .ok (.getfield 55, 3) := by decide +kernel
theorem dX7_aloneOf_4 : decode cX7_aloneOf 4 = .ok (.aload_n 0, 1) := by decide +kernel
theorem dX7_aloneOf_5 : decode cX7_aloneOf 5 = .ok (.getfield 13, 3) := by decide +kernel
theorem dX7_aloneOf_8 : decode cX7_aloneOf 8 = .ok (.iload_n 1, 1) := by decide +kernel
theorem dX7_aloneOf_9 : decode cX7_aloneOf 9 = .ok (.iaload, 1) := by decide +kernel
theorem dX7_aloneOf_10 : decode cX7_aloneOf 10 = .ok (.aload_n 0, 1) := by decide +kernel
theorem dX7_aloneOf_11 : decode cX7_aloneOf 11 = .ok (.getfield 17, 3) := by decide +kernel
theorem dX7_aloneOf_14 : decode cX7_aloneOf 14 = .ok (.iload_n 1, 1) := by decide +kernel
theorem dX7_aloneOf_15 : decode cX7_aloneOf 15 = .ok (.iaload, 1) := by decide +kernel
theorem dX7_aloneOf_16 : decode cX7_aloneOf 16 = .ok (.invokestatic 170, 3) := by decide +kernel
theorem dX7_aloneOf_19 : decode cX7_aloneOf 19 = .ok (.iaload, 1) := by decide +kernel
theorem dX7_aloneOf_20 : decode cX7_aloneOf 20 = .ok (.istore_n 2, 1) := by decide +kernel
theorem dX7_aloneOf_21 : decode cX7_aloneOf 21 = .ok (.iload_n 2, 1) := by decide +kernel
theorem dX7_aloneOf_22 : decode cX7_aloneOf 22 = .ok (.ldc 237, 2) := by decide +kernel
theorem dX7_aloneOf_24 : decode cX7_aloneOf 24 = .ok (.if_icmp .ge 19, 3) := by decide +kernel
theorem dX7_aloneOf_27 : decode cX7_aloneOf 27 = .ok (.iload_n 2, 1) := by decide +kernel
theorem dX7_aloneOf_28 : decode cX7_aloneOf 28 = .ok (.aload_n 0, 1) := by decide +kernel
theorem dX7_aloneOf_29 : decode cX7_aloneOf 29 = .ok (.getfield 74, 3) := by decide +kernel
theorem dX7_aloneOf_32 : decode cX7_aloneOf 32 = .ok (.aload_n 0, 1) := by decide +kernel
theorem dX7_aloneOf_33 : decode cX7_aloneOf 33 = .ok (.getfield 20, 3) := by decide +kernel
theorem dX7_aloneOf_36 : decode cX7_aloneOf 36 = .ok (.iload_n 1, 1) := by decide +kernel
theorem dX7_aloneOf_37 : decode cX7_aloneOf 37 = .ok (.iaload, 1) := by decide +kernel
theorem dX7_aloneOf_38 : decode cX7_aloneOf 38 = .ok (.iadd, 1) := by decide +kernel
theorem dX7_aloneOf_39 : decode cX7_aloneOf 39 = .ok (.imul, 1) := by decide +kernel
theorem dX7_aloneOf_40 : decode cX7_aloneOf 40 = .ok (.goto 5, 3) := by decide +kernel
theorem dX7_aloneOf_43 : decode cX7_aloneOf 43 = .ok (.bipush (-2), 2) := by decide +kernel
theorem dX7_aloneOf_45 : decode cX7_aloneOf 45 = .ok (.ireturn, 1) := by decide +kernel
set_option maxRecDepth 20000 in
theorem ggX7_alone_X7_within : GoodIn wsX7_alone wsX7_within := goodIn_r _ [6] (by decide +kernel) (by decide +kernel)
set_option maxRecDepth 20000 in
theorem gX7_alone_X7_within : GoodIn wsX7_alone (va_wsS RX7 92 yX7_within wsX7_within) := goodIn_app (goodIn_of _ (by decide +kernel)) ggX7_alone_X7_within
set_option maxRecDepth 20000 in
theorem ggX7_alone_X7_laysLengths : GoodIn wsX7_alone wsX7_laysLengths := goodIn_r _ [10, 11, 12, 13, 14, 15, 16, 17, 5, 18, 19, 20, 21, 22, 23, 24, 25, 26, 27, 28, 29, 30, 31, 32, 33, 34, 35, 36, 37, 38, 39, 48, 49, 50, 51, 52, 53, 54, 55, 56, 57, 58, 59, 60, 61, 62, 63, 64, 65, 66, 67, 68, 69, 70, 71, 72, 73, 74, 75, 76, 77, 78, 79, 80, 81, 82] (by decide +kernel) (by decide +kernel)
set_option maxRecDepth 20000 in
theorem gX7_alone_X7_laysLengths : GoodIn wsX7_alone (wsV RX7 276 RX7 yX7_laysLengths wsX7_laysLengths) := goodIn_app (goodIn_of _ (by decide +kernel)) ggX7_alone_X7_laysLengths
set_option maxRecDepth 20000 in
theorem ggX7_alone_X7_aloneOf : GoodIn wsX7_alone wsX7_aloneOf := goodIn_r _ [43, 11, 44, 45, 14, 46, 47, 32, 33, 5, 34, 48, 49, 50, 51, 52, 53, 54, 55, 56, 57, 58, 59, 60, 61, 62, 63, 64, 65, 66, 67, 68, 69, 70, 71, 72, 73, 74, 75, 76, 77, 78, 79, 80, 81, 82] (by decide +kernel) (by decide +kernel)
set_option maxRecDepth 20000 in
theorem gX7_alone_X7_aloneOf : GoodIn wsX7_alone (wsV RX7 279 RX7 yX7_aloneOf wsX7_aloneOf) := goodIn_app (goodIn_of _ (by decide +kernel)) ggX7_alone_X7_aloneOf
theorem dX7_alone_0 : decode cX7_alone 0 = .ok (.aload_n 0, 1) := by decide +kernel
theorem dX7_alone_1 : decode cX7_alone 1 = .ok (.iconst 0, 1) := by decide +kernel
theorem dX7_alone_2 : decode cX7_alone 2 = .ok (.putfield 1, 3) := by decide +kernel
theorem dX7_alone_5 : decode cX7_alone 5 = .ok (.iload_n 1, 1) := by decide +kernel
theorem dX7_alone_6 : decode cX7_alone 6 = .ok (.iconst 0, 1) := by decide +kernel
theorem dX7_alone_7 : decode cX7_alone 7 = .ok (.aload_n 0, 1) := by decide +kernel
theorem dX7_alone_8 : decode cX7_alone 8 = .ok (.getfield 89, 3) := by decide +kernel
theorem dX7_alone_11 : decode cX7_alone 11 = .ok (.iconst 1, 1) := by decide +kernel
theorem dX7_alone_12 : decode cX7_alone 12 = .ok (.isub, 1) := by decide +kernel
theorem dX7_alone_13 : decode cX7_alone 13 = .ok (.invokestatic 92, 3) := by decide +kernel
theorem dX7_alone_16 : decode cX7_alone 16 = .ok (.ifCond .ne 5, 3) := by decide +kernel
theorem dX7_alone_19 : decode cX7_alone 19 = .ok (.iconst (-1), 1) := by decide +kernel
theorem dX7_alone_20 : decode cX7_alone 20 = .ok (.ireturn, 1) := by decide +kernel
theorem dX7_alone_21 : decode cX7_alone 21 = .ok (.aload_n 0, 1) := by decide +kernel
theorem dX7_alone_22 : decode cX7_alone 22 = .ok (.invokevirtual 276, 3) := by decide +kernel
theorem dX7_alone_25 : decode cX7_alone 25 = .ok (.aload_n 0, 1) := by decide +kernel
theorem dX7_alone_26 : decode cX7_alone 26 = .ok (.iload_n 1, 1) := by decide +kernel
theorem dX7_alone_27 : decode cX7_alone 27 = .ok (.invokevirtual 279, 3) := by decide +kernel
theorem dX7_alone_30 : decode cX7_alone 30 = .ok (.ireturn, 1) := by decide +kernel
set_option maxRecDepth 20000 in
theorem ggX7_allAlone_X7_laysLengths : GoodIn wsX7_allAlone wsX7_laysLengths := goodIn_r _ [6, 7, 8, 9, 10, 11, 12, 13, 5, 14, 15, 16, 17, 18, 19, 20, 21, 22, 23, 24, 25, 26, 27, 28, 29, 30, 31, 32, 33, 34, 35, 44, 45, 46, 47, 48, 49, 50, 51, 52, 53, 54, 55, 56, 57, 58, 59, 60, 61, 62, 63, 64, 65, 66, 67, 68, 69, 70, 71, 72, 73, 74, 75, 76, 77, 78] (by decide +kernel) (by decide +kernel)
set_option maxRecDepth 20000 in
theorem gX7_allAlone_X7_laysLengths : GoodIn wsX7_allAlone (wsV RX7 276 RX7 yX7_laysLengths wsX7_laysLengths) := goodIn_app (goodIn_of _ (by decide +kernel)) ggX7_allAlone_X7_laysLengths
set_option maxRecDepth 20000 in
theorem ggX7_allAlone_X7_aloneOf : GoodIn wsX7_allAlone wsX7_aloneOf := goodIn_r _ [39, 7, 40, 41, 10, 42, 43, 28, 29, 5, 30, 44, 45, 46, 47, 48, 49, 50, 51, 52, 53, 54, 55, 56, 57, 58, 59, 60, 61, 62, 63, 64, 65, 66, 67, 68, 69, 70, 71, 72, 73, 74, 75, 76, 77, 78] (by decide +kernel) (by decide +kernel)
set_option maxRecDepth 20000 in
theorem gX7_allAlone_X7_aloneOf : GoodIn wsX7_allAlone (wsV RX7 279 RX7 yX7_aloneOf wsX7_aloneOf) := goodIn_app (goodIn_of _ (by decide +kernel)) ggX7_allAlone_X7_aloneOf
theorem dX7_allAlone_0 : decode cX7_allAlone 0 = .ok (.aload_n 0, 1) := by decide +kernel
theorem dX7_allAlone_1 : decode cX7_allAlone 1 = .ok (.invokevirtual 276, 3) := by decide +kernel
theorem dX7_allAlone_4 : decode cX7_allAlone 4 = .ok (.iconst 0, 1) := by decide +kernel
theorem dX7_allAlone_5 : decode cX7_allAlone 5 = .ok (.istore_n 1, 1) := by decide +kernel
theorem dX7_allAlone_6 : decode cX7_allAlone 6 = .ok (.iconst 0, 1) := by decide +kernel
theorem dX7_allAlone_7 : decode cX7_allAlone 7 = .ok (.istore_n 2, 1) := by decide +kernel
theorem dX7_allAlone_8 : decode cX7_allAlone 8 = .ok (.iload_n 2, 1) := by decide +kernel
theorem dX7_allAlone_9 : decode cX7_allAlone 9 = .ok (.aload_n 0, 1) := by decide +kernel
theorem dX7_allAlone_10 : decode cX7_allAlone 10 = .ok (.getfield 89, 3) := by decide +kernel
theorem dX7_allAlone_13 : decode cX7_allAlone 13 = .ok (.if_icmp .ge 26, 3) := by decide +kernel
theorem dX7_allAlone_16 : decode cX7_allAlone 16 = .ok (.aload_n 0, 1) := by decide +kernel
theorem dX7_allAlone_17 : decode cX7_allAlone 17 = .ok (.iload_n 2, 1) := by decide +kernel
theorem dX7_allAlone_18 : decode cX7_allAlone 18 = .ok (.invokevirtual 279, 3) := by decide +kernel
theorem dX7_allAlone_21 : decode cX7_allAlone 21 = .ok (.istore_n 3, 1) := by decide +kernel
theorem dX7_allAlone_22 : decode cX7_allAlone 22 = .ok (.iload_n 3, 1) := by decide +kernel
theorem dX7_allAlone_23 : decode cX7_allAlone 23 = .ok (.ifCond .ge 6, 3) := by decide +kernel
theorem dX7_allAlone_26 : decode cX7_allAlone 26 = .ok (.bipush (-2), 2) := by decide +kernel
theorem dX7_allAlone_28 : decode cX7_allAlone 28 = .ok (.ireturn, 1) := by decide +kernel
theorem dX7_allAlone_29 : decode cX7_allAlone 29 = .ok (.iload_n 1, 1) := by decide +kernel
theorem dX7_allAlone_30 : decode cX7_allAlone 30 = .ok (.iload_n 3, 1) := by decide +kernel
theorem dX7_allAlone_31 : decode cX7_allAlone 31 = .ok (.iadd, 1) := by decide +kernel
theorem dX7_allAlone_32 : decode cX7_allAlone 32 = .ok (.istore_n 1, 1) := by decide +kernel
theorem dX7_allAlone_33 : decode cX7_allAlone 33 = .ok (.iinc 2 1, 3) := by decide +kernel
theorem dX7_allAlone_36 : decode cX7_allAlone 36 = .ok (.goto (-28), 3) := by decide +kernel
theorem dX7_allAlone_39 : decode cX7_allAlone 39 = .ok (.iload_n 1, 1) := by decide +kernel
theorem dX7_allAlone_40 : decode cX7_allAlone 40 = .ok (.ireturn, 1) := by decide +kernel
set_option maxRecDepth 20000 in
theorem ggX7_inkNow_X7_cell : GoodIn wsX7_inkNow wsX7_cell := goodIn_r _ [9] (by decide +kernel) (by decide +kernel)
set_option maxRecDepth 20000 in
theorem gX7_inkNow_X7_cell : GoodIn wsX7_inkNow (va_wsS RX7 170 yX7_cell wsX7_cell) := goodIn_app (goodIn_of _ (by decide +kernel)) ggX7_inkNow_X7_cell
set_option maxRecDepth 20000 in
theorem ggX7_inkNow_X7_lengthOf : GoodIn wsX7_inkNow wsX7_lengthOf := goodIn_r _ [13, 14, 15, 16, 17, 18, 19, 20, 21, 22, 23, 24, 25, 26, 27, 28, 29, 30, 31, 32, 33, 34, 35, 36, 37, 38, 39, 40, 41, 42, 43, 44, 45, 46, 47, 48, 49] (by decide +kernel) (by decide +kernel)
set_option maxRecDepth 20000 in
theorem gX7_inkNow_X7_lengthOf : GoodIn wsX7_inkNow (wsV RX7 238 RX7 yX7_lengthOf wsX7_lengthOf) := goodIn_app (goodIn_of _ (by decide +kernel)) ggX7_inkNow_X7_lengthOf
theorem dX7_inkNow_0 : decode cX7_inkNow 0 = .ok (.iconst 0, 1) := by decide +kernel
theorem dX7_inkNow_1 : decode cX7_inkNow 1 = .ok (.istore_n 1, 1) := by decide +kernel
theorem dX7_inkNow_2 : decode cX7_inkNow 2 = .ok (.iconst 1, 1) := by decide +kernel
theorem dX7_inkNow_3 : decode cX7_inkNow 3 = .ok (.istore_n 2, 1) := by decide +kernel
theorem dX7_inkNow_4 : decode cX7_inkNow 4 = .ok (.iload_n 2, 1) := by decide +kernel
theorem dX7_inkNow_5 : decode cX7_inkNow 5 = .ok (.aload_n 0, 1) := by decide +kernel
theorem dX7_inkNow_6 : decode cX7_inkNow 6 = .ok (.getfield 83, 3) := by decide +kernel
theorem dX7_inkNow_9 : decode cX7_inkNow 9 = .ok (.if_icmp .gt 74, 3) := by decide +kernel
theorem dX7_inkNow_12 : decode cX7_inkNow 12 = .ok (.iconst 0, 1) := by decide +kernel
theorem dX7_inkNow_13 : decode cX7_inkNow 13 = .ok (.istore_n 3, 1) := by decide +kernel
theorem dX7_inkNow_14 : decode cX7_inkNow 14 = .ok (.iload_n 3, 1) := by decide +kernel
theorem dX7_inkNow_15 : decode cX7_inkNow 15 = .ok (.aload_n 0, 1) := by decide +kernel
theorem dX7_inkNow_16 : decode cX7_inkNow 16 = .ok (.getfield 86, 3) := by decide +kernel
theorem dX7_inkNow_19 : decode cX7_inkNow 19 = .ok (.if_icmp .ge 58, 3) := by decide +kernel
theorem dX7_inkNow_22 : decode cX7_inkNow 22 = .ok (.iload_n 2, 1) := by decide +kernel
theorem dX7_inkNow_23 : decode cX7_inkNow 23 = .ok (.iload_n 3, 1) := by decide +kernel
theorem dX7_inkNow_24 : decode cX7_inkNow 24 = .ok (.invokestatic 170, 3) := by decide +kernel
theorem dX7_inkNow_27 : decode cX7_inkNow 27 = .ok (.istore 4, 2) := by decide +kernel
theorem dX7_inkNow_29 : decode cX7_inkNow 29 = .ok (.iload_n 1, 1) := by decide +kernel
theorem dX7_inkNow_30 : decode cX7_inkNow 30 = .ok (.aload_n 0, 1) := by decide +kernel
theorem dX7_inkNow_31 : decode cX7_inkNow 31 = .ok (.getfield 40, 3) := by decide +kernel
theorem dX7_inkNow_34 : decode cX7_inkNow 34 = .ok (.iload 4, 2) := by decide +kernel
theorem dX7_inkNow_36 : decode cX7_inkNow 36 = .ok (.iaload, 1) := by decide +kernel
theorem dX7_inkNow_37 : decode cX7_inkNow 37 = .ok (.ifCond .ge 7, 3) := by decide +kernel
theorem dX7_inkNow_40 : decode cX7_inkNow 40 = .ok (.iconst 0, 1) := by decide +kernel
theorem dX7_inkNow_41 : decode cX7_inkNow 41 = .ok (.goto 28, 3) := by decide +kernel
theorem dX7_inkNow_44 : decode cX7_inkNow 44 = .ok (.aload_n 0, 1) := by decide +kernel
theorem dX7_inkNow_45 : decode cX7_inkNow 45 = .ok (.iload_n 2, 1) := by decide +kernel
theorem dX7_inkNow_46 : decode cX7_inkNow 46 = .ok (.aload_n 0, 1) := by decide +kernel
theorem dX7_inkNow_47 : decode cX7_inkNow 47 = .ok (.getfield 40, 3) := by decide +kernel
theorem dX7_inkNow_50 : decode cX7_inkNow 50 = .ok (.iload 4, 2) := by decide +kernel
theorem dX7_inkNow_52 : decode cX7_inkNow 52 = .ok (.iaload, 1) := by decide +kernel
theorem dX7_inkNow_53 : decode cX7_inkNow 53 = .ok (.invokevirtual 238, 3) := by decide +kernel
theorem dX7_inkNow_56 : decode cX7_inkNow 56 = .ok (.aload_n 0, 1) := by decide +kernel
theorem dX7_inkNow_57 : decode cX7_inkNow 57 = .ok (.getfield 74, 3) := by decide +kernel
theorem dX7_inkNow_60 : decode cX7_inkNow 60 = .ok (.aload_n 0, 1) := by decide +kernel
theorem dX7_inkNow_61 : decode cX7_inkNow 61 = .ok (.getfield 43, 3) := by decide +kernel
theorem dX7_inkNow_64 : decode cX7_inkNow 64 = .ok (.iload 4, 2) := by decide +kernel
theorem dX7_inkNow_66 : decode cX7_inkNow 66 = .ok (.iaload, 1) := by decide +kernel
theorem dX7_inkNow_67 : decode cX7_inkNow 67 = .ok (.iadd, 1) := by decide +kernel
theorem dX7_inkNow_68 : decode cX7_inkNow 68 = .ok (.imul, 1) := by decide +kernel
theorem dX7_inkNow_69 : decode cX7_inkNow 69 = .ok (.iadd, 1) := by decide +kernel
theorem dX7_inkNow_70 : decode cX7_inkNow 70 = .ok (.istore_n 1, 1) := by decide +kernel
theorem dX7_inkNow_71 : decode cX7_inkNow 71 = .ok (.iinc 3 1, 3) := by decide +kernel
theorem dX7_inkNow_74 : decode cX7_inkNow 74 = .ok (.goto (-60), 3) := by decide +kernel
theorem dX7_inkNow_77 : decode cX7_inkNow 77 = .ok (.iinc 2 1, 3) := by decide +kernel
theorem dX7_inkNow_80 : decode cX7_inkNow 80 = .ok (.goto (-76), 3) := by decide +kernel
theorem dX7_inkNow_83 : decode cX7_inkNow 83 = .ok (.iload_n 1, 1) := by decide +kernel
theorem dX7_inkNow_84 : decode cX7_inkNow 84 = .ok (.ireturn, 1) := by decide +kernel
set_option maxRecDepth 20000 in
theorem ggX7_ink_X7_within : GoodIn wsX7_ink wsX7_within := goodIn_r _ [5] (by decide +kernel) (by decide +kernel)
set_option maxRecDepth 20000 in
theorem gX7_ink_X7_within : GoodIn wsX7_ink (va_wsS RX7 92 yX7_within wsX7_within) := goodIn_app (goodIn_of _ (by decide +kernel)) ggX7_ink_X7_within
set_option maxRecDepth 20000 in
theorem ggX7_ink_X7_allAlone : GoodIn wsX7_ink wsX7_allAlone := goodIn_r _ [9, 10, 11, 12, 13, 4, 14, 15, 16, 17, 18, 19, 20, 21, 22, 23, 24, 25, 26, 27, 28, 29, 30, 31, 32, 33, 34, 35, 36, 37, 38, 39, 40, 41, 42, 43, 44, 45, 46, 47, 48, 49, 50, 51, 145, 146, 147, 148, 149, 150, 151, 152, 153, 154, 155, 156, 157, 158, 159, 160, 161, 162, 163, 164, 165, 166, 167, 168, 169, 170, 171, 172, 173, 174, 175, 176, 177, 178, 179] (by decide +kernel) (by decide +kernel)
set_option maxRecDepth 20000 in
theorem gX7_ink_X7_allAlone : GoodIn wsX7_ink (wsV RX7 282 RX7 yX7_allAlone wsX7_allAlone) := goodIn_app (goodIn_of _ (by decide +kernel)) ggX7_ink_X7_allAlone
set_option maxRecDepth 20000 in
theorem ggX7_ink_X7_lays : GoodIn wsX7_ink wsX7_lays := goodIn_r _ [55, 56, 57, 58, 4, 59, 60, 61, 10, 48, 49, 51, 36, 37, 38, 62, 63, 64, 65, 16, 17, 19, 20, 21, 22, 23, 24, 25, 26, 27, 28, 29, 30, 31, 32, 33, 34, 35, 66, 67, 68, 69, 70, 71, 72, 73, 74, 75, 76, 77, 78, 79, 80, 81, 82, 83, 84, 85, 86, 87, 88, 89, 90, 91, 92, 93, 94, 95, 96, 97, 98, 99, 100, 101, 102, 103, 104, 105, 106, 107, 108, 109, 110, 18, 111, 112, 113, 114, 115, 116, 117, 118, 119, 120, 121, 122, 123, 124, 125, 126, 127, 128, 129, 130, 131, 132, 50, 39, 40, 41, 42, 43, 133, 134, 135, 136, 137, 138, 139, 140, 145, 146, 147, 148, 149, 150, 151, 152, 153, 154, 155, 156, 157, 158, 159, 160, 161, 162, 163, 164, 165, 166, 167, 168, 169, 170, 171, 172, 173, 174, 175, 176, 177, 178, 179] (by decide +kernel) (by decide +kernel)
set_option maxRecDepth 20000 in
theorem gX7_ink_X7_lays : GoodIn wsX7_ink (wsV RX7 285 RX7 yX7_lays wsX7_lays) := goodIn_app (goodIn_of _ (by decide +kernel)) ggX7_ink_X7_lays
set_option maxRecDepth 20000 in
theorem ggX7_ink_X7_inkNow : GoodIn wsX7_ink wsX7_inkNow := goodIn_r _ [144, 16, 17, 60, 50, 61, 36, 37, 4, 38, 39, 40, 41, 42, 43, 145, 146, 147, 148, 149, 150, 151, 152, 153, 154, 155, 156, 157, 158, 159, 160, 161, 162, 163, 164, 165, 166, 167, 168, 169, 170, 171, 172, 173, 174, 175, 176, 177, 178, 179] (by decide +kernel) (by decide +kernel)
set_option maxRecDepth 20000 in
theorem gX7_ink_X7_inkNow : GoodIn wsX7_ink (wsV RX7 288 RX7 yX7_inkNow wsX7_inkNow) := goodIn_app (goodIn_of _ (by decide +kernel)) ggX7_ink_X7_inkNow
theorem dX7_ink_0 : decode cX7_ink 0 = .ok (.aload_n 0, 1) := by decide +kernel
theorem dX7_ink_1 : decode cX7_ink 1 = .ok (.iconst 0, 1) := by decide +kernel
theorem dX7_ink_2 : decode cX7_ink 2 = .ok (.putfield 1, 3) := by decide +kernel
theorem dX7_ink_5 : decode cX7_ink 5 = .ok (.iload_n 1, 1) := by decide +kernel
theorem dX7_ink_6 : decode cX7_ink 6 = .ok (.iconst 0, 1) := by decide +kernel
theorem dX7_ink_7 : decode cX7_ink 7 = .ok (.iconst 4, 1) := by decide +kernel
theorem dX7_ink_8 : decode cX7_ink 8 = .ok (.invokestatic 92, 3) := by decide +kernel
theorem dX7_ink_11 : decode cX7_ink 11 = .ok (.ifCond .ne 5, 3) := by decide +kernel
theorem dX7_ink_14 : decode cX7_ink 14 = .ok (.iconst (-1), 1) := by decide +kernel
theorem dX7_ink_15 : decode cX7_ink 15 = .ok (.ireturn, 1) := by decide +kernel
theorem dX7_ink_16 : decode cX7_ink 16 = .ok (.iload_n 1, 1) := by decide +kernel
theorem dX7_ink_17 : decode cX7_ink 17 = .ok (.ifCond .ne 8, 3) := by decide +kernel
theorem dX7_ink_20 : decode cX7_ink 20 = .ok (.aload_n 0, 1) := by decide +kernel
theorem dX7_ink_21 : decode cX7_ink 21 = .ok (.invokevirtual 282, 3) := by decide +kernel
theorem dX7_ink_24 : decode cX7_ink 24 = .ok (.ireturn, 1) := by decide +kernel
theorem dX7_ink_25 : decode cX7_ink 25 = .ok (.aload_n 0, 1) := by decide +kernel
theorem dX7_ink_26 : decode cX7_ink 26 = .ok (.iload_n 1, 1) := by decide +kernel
theorem dX7_ink_27 : decode cX7_ink 27 = .ok (.invokevirtual 285, 3) := by decide +kernel
theorem dX7_ink_30 : decode cX7_ink 30 = .ok (.ifCond .eq 10, 3) := by decide +kernel
theorem dX7_ink_33 : decode cX7_ink 33 = .ok (.aload_n 0, 1) := by decide +kernel
theorem dX7_ink_34 : decode cX7_ink 34 = .ok (.invokevirtual 288, 3) := by decide +kernel
theorem dX7_ink_37 : decode cX7_ink 37 = .ok (.goto 5, 3) := by decide +kernel
theorem dX7_ink_40 : decode cX7_ink 40 = .ok (.bipush (-2), 2) := by decide +kernel
theorem dX7_ink_42 : decode cX7_ink 42 = .ok (.ireturn, 1) := by decide +kernel
set_option maxRecDepth 20000 in
theorem ggX7_isManner_X7_within : GoodIn wsX7_isManner wsX7_within := goodIn_r _ [4] (by decide +kernel) (by decide +kernel)
set_option maxRecDepth 20000 in
theorem gX7_isManner_X7_within : GoodIn wsX7_isManner (va_wsS RX7 92 yX7_within wsX7_within) := goodIn_app (goodIn_of _ (by decide +kernel)) ggX7_isManner_X7_within
theorem dX7_isManner_0 : decode cX7_isManner 0 = .ok (.iload_n 1, 1) := by decide +kernel
theorem dX7_isManner_1 : decode cX7_isManner 1 = .ok (.iconst 1, 1) := by decide +kernel
theorem dX7_isManner_2 : decode cX7_isManner 2 = .ok (.iconst 4, 1) := by decide +kernel
theorem dX7_isManner_3 : decode cX7_isManner 3 = .ok (.invokestatic 92, 3) := by decide +kernel
theorem dX7_isManner_6 : decode cX7_isManner 6 = .ok (.ireturn, 1) := by decide +kernel
set_option maxRecDepth 20000 in
theorem ggX7_width_X7_isManner : GoodIn wsX7_width wsX7_isManner := goodIn_r _ [7, 8, 9, 6, 10] (by decide +kernel) (by decide +kernel)
set_option maxRecDepth 20000 in
theorem gX7_width_X7_isManner : GoodIn wsX7_width (wsV RX7 291 RX7 yX7_isManner wsX7_isManner) := goodIn_app (goodIn_of _ (by decide +kernel)) ggX7_width_X7_isManner
set_option maxRecDepth 20000 in
theorem ggX7_width_X7_isAny : GoodIn wsX7_width wsX7_isAny := goodIn_r _ [14, 15, 16, 17, 6, 18, 19, 20, 8, 9, 10, 140, 141, 142, 143, 144, 145, 146, 147, 148, 149, 150, 151, 152, 153, 154, 155, 156, 157, 158, 159, 160, 161, 162, 163, 164, 165, 166, 167, 168, 169, 170, 171, 172, 173, 174] (by decide +kernel) (by decide +kernel)
set_option maxRecDepth 20000 in
theorem gX7_width_X7_isAny : GoodIn wsX7_width (wsV RX7 294 RX7 yX7_isAny wsX7_isAny) := goodIn_app (goodIn_of _ (by decide +kernel)) ggX7_width_X7_isAny
set_option maxRecDepth 20000 in
theorem ggX7_width_X7_lays : GoodIn wsX7_width wsX7_lays := goodIn_r _ [24, 25, 26, 27, 6, 28, 29, 2, 30, 31, 32, 33, 34, 35, 36, 37, 38, 39, 40, 19, 20, 41, 42, 43, 44, 45, 46, 47, 48, 49, 50, 51, 52, 53, 54, 55, 56, 57, 58, 59, 60, 61, 62, 63, 64, 65, 66, 67, 68, 69, 70, 71, 72, 73, 74, 75, 76, 77, 78, 79, 80, 81, 82, 83, 84, 85, 86, 87, 88, 89, 90, 91, 92, 93, 94, 95, 96, 97, 98, 99, 100, 101, 102, 103, 104, 105, 106, 107, 108, 109, 110, 111, 112, 113, 114, 115, 116, 117, 118, 119, 120, 121, 122, 123, 124, 125, 126, 127, 128, 129, 130, 131, 132, 133, 134, 135, 136, 137, 138, 139, 140, 141, 142, 143, 144, 145, 146, 147, 148, 149, 150, 151, 152, 153, 154, 155, 156, 157, 158, 159, 160, 161, 162, 163, 164, 165, 166, 167, 168, 169, 170, 171, 172, 173, 174] (by decide +kernel) (by decide +kernel)
set_option maxRecDepth 20000 in
theorem gX7_width_X7_lays : GoodIn wsX7_width (wsV RX7 285 RX7 yX7_lays wsX7_lays) := goodIn_app (goodIn_of _ (by decide +kernel)) ggX7_width_X7_lays
set_option maxRecDepth 20000 in
theorem ggX7_width_X7_cell : GoodIn wsX7_width wsX7_cell := goodIn_r _ [36] (by decide +kernel) (by decide +kernel)
set_option maxRecDepth 20000 in
theorem gX7_width_X7_cell : GoodIn wsX7_width (va_wsS RX7 170 yX7_cell wsX7_cell) := goodIn_app (goodIn_of _ (by decide +kernel)) ggX7_width_X7_cell
theorem dX7_width_0 : decode cX7_width 0 = .ok (.aload_n 0, 1) := by decide +kernel
theorem dX7_width_1 : decode cX7_width 1 = .ok (.iconst 0, 1) := by decide +kernel
theorem dX7_width_2 : decode cX7_width 2 = .ok (.putfield 1, 3) := by decide +kernel
theorem dX7_width_5 : decode cX7_width 5 = .ok (.aload_n 0, 1) := by decide +kernel
theorem dX7_width_6 : decode cX7_width 6 = .ok (.iload_n 1, 1) := by decide +kernel
theorem dX7_width_7 : decode cX7_width 7 = .ok (.invokevirtual 291, 3) := by decide +kernel
theorem dX7_width_10 : decode cX7_width 10 = .ok (.ifCond .eq 12, 3) := by decide +kernel
theorem dX7_width_13 : decode cX7_width 13 = .ok (.aload_n 0, 1) := by decide +kernel
theorem dX7_width_14 : decode cX7_width 14 = .ok (.iload_n 2, 1) := by decide +kernel
theorem dX7_width_15 : decode cX7_width 15 = .ok (.iload_n 3, 1) := by decide +kernel
theorem dX7_width_16 : decode cX7_width 16 = .ok (.invokevirtual 294, 3) := by decide +kernel
theorem dX7_width_19 : decode cX7_width 19 = .ok (.ifCond .ne 5, 3) := by decide +kernel
theorem dX7_width_22 : decode cX7_width 22 = .ok (.iconst (-1), 1) := by decide +kernel
theorem dX7_width_23 : decode cX7_width 23 = .ok (.ireturn, 1) := by decide +kernel
theorem dX7_width_24 : decode cX7_width 24 = .ok (.aload_n 0, 1) := by decide +kernel
theorem dX7_width_25 : decode cX7_width 25 = .ok (.iload_n 1, 1) := by decide +kernel
theorem dX7_width_26 : decode cX7_width 26 = .ok (.invokevirtual 285, 3) := by decide +kernel
theorem dX7_width_29 : decode cX7_width 29 = .ok (.ifCond .eq 16, 3) := by decide +kernel
theorem dX7_width_32 : decode cX7_width 32 = .ok (.aload_n 0, 1) := by decide +kernel
theorem dX7_width_33 : decode cX7_width 33 = .ok (.getfield 43, 3) := by decide +kernel
theorem dX7_width_36 : decode cX7_width 36 = .ok (.iload_n 2, 1) := by decide +kernel
theorem dX7_width_37 : decode cX7_width 37 = .ok (.iload_n 3, 1) := by decide +kernel
theorem dX7_width_38 : decode cX7_width 38 = .ok (.invokestatic 170, 3) := by decide +kernel
theorem dX7_width_41 : decode cX7_width 41 = .ok (.iaload, 1) := by decide +kernel
theorem dX7_width_42 : decode cX7_width 42 = .ok (.goto 5, 3) := by decide +kernel
theorem dX7_width_45 : decode cX7_width 45 = .ok (.bipush (-2), 2) := by decide +kernel
theorem dX7_width_47 : decode cX7_width 47 = .ok (.ireturn, 1) := by decide +kernel
set_option maxRecDepth 20000 in
theorem ggX7_step_X7_isManner : GoodIn wsX7_step wsX7_isManner := goodIn_r _ [7, 8, 9, 6, 10] (by decide +kernel) (by decide +kernel)
set_option maxRecDepth 20000 in
theorem gX7_step_X7_isManner : GoodIn wsX7_step (wsV RX7 291 RX7 yX7_isManner wsX7_isManner) := goodIn_app (goodIn_of _ (by decide +kernel)) ggX7_step_X7_isManner
set_option maxRecDepth 20000 in
theorem ggX7_step_X7_isAny : GoodIn wsX7_step wsX7_isAny := goodIn_r _ [14, 15, 16, 17, 6, 18, 19, 20, 8, 9, 10, 140, 141, 142, 143, 144, 145, 146, 147, 148, 149, 150, 151, 152, 153, 154, 155, 156, 157, 158, 159, 160, 161, 162, 163, 164, 165, 166, 167, 168, 169, 170, 171, 172, 173, 174] (by decide +kernel) (by decide +kernel)
set_option maxRecDepth 20000 in
theorem gX7_step_X7_isAny : GoodIn wsX7_step (wsV RX7 294 RX7 yX7_isAny wsX7_isAny) := goodIn_app (goodIn_of _ (by decide +kernel)) ggX7_step_X7_isAny
set_option maxRecDepth 20000 in
theorem ggX7_step_X7_lays : GoodIn wsX7_step wsX7_lays := goodIn_r _ [24, 25, 26, 27, 6, 28, 2, 29, 30, 31, 32, 33, 34, 35, 36, 37, 38, 39, 40, 19, 20, 41, 42, 43, 44, 45, 46, 47, 48, 49, 50, 51, 52, 53, 54, 55, 56, 57, 58, 59, 60, 61, 62, 63, 64, 65, 66, 67, 68, 69, 70, 71, 72, 73, 74, 75, 76, 77, 78, 79, 80, 81, 82, 83, 84, 85, 86, 87, 88, 89, 90, 91, 92, 93, 94, 95, 96, 97, 98, 99, 100, 101, 102, 103, 104, 105, 106, 107, 108, 109, 110, 111, 112, 113, 114, 115, 116, 117, 118, 119, 120, 121, 122, 123, 124, 125, 126, 127, 128, 129, 130, 131, 132, 133, 134, 135, 136, 137, 138, 139, 140, 141, 142, 143, 144, 145, 146, 147, 148, 149, 150, 151, 152, 153, 154, 155, 156, 157, 158, 159, 160, 161, 162, 163, 164, 165, 166, 167, 168, 169, 170, 171, 172, 173, 174] (by decide +kernel) (by decide +kernel)
set_option maxRecDepth 20000 in
theorem gX7_step_X7_lays : GoodIn wsX7_step (wsV RX7 285 RX7 yX7_lays wsX7_lays) := goodIn_app (goodIn_of _ (by decide +kernel)) ggX7_step_X7_lays
set_option maxRecDepth 20000 in
theorem ggX7_step_X7_cell : GoodIn wsX7_step wsX7_cell := goodIn_r _ [36] (by decide +kernel) (by decide +kernel)
set_option maxRecDepth 20000 in
theorem gX7_step_X7_cell : GoodIn wsX7_step (va_wsS RX7 170 yX7_cell wsX7_cell) := goodIn_app (goodIn_of _ (by decide +kernel)) ggX7_step_X7_cell
theorem dX7_step_0 : decode cX7_step 0 = .ok (.aload_n 0, 1) := by decide +kernel
theorem dX7_step_1 : decode cX7_step 1 = .ok (.iconst 0, 1) := by decide +kernel
theorem dX7_step_2 : decode cX7_step 2 = .ok (.putfield 1, 3) := by decide +kernel
theorem dX7_step_5 : decode cX7_step 5 = .ok (.aload_n 0, 1) := by decide +kernel
theorem dX7_step_6 : decode cX7_step 6 = .ok (.iload_n 1, 1) := by decide +kernel
theorem dX7_step_7 : decode cX7_step 7 = .ok (.invokevirtual 291, 3) := by decide +kernel
theorem dX7_step_10 : decode cX7_step 10 = .ok (.ifCond .eq 12, 3) := by decide +kernel
theorem dX7_step_13 : decode cX7_step 13 = .ok (.aload_n 0, 1) := by decide +kernel
theorem dX7_step_14 : decode cX7_step 14 = .ok (.iload_n 2, 1) := by decide +kernel
theorem dX7_step_15 : decode cX7_step 15 = .ok (.iload_n 3, 1) := by decide +kernel
theorem dX7_step_16 : decode cX7_step 16 = .ok (.invokevirtual 294, 3) := by decide +kernel
theorem dX7_step_19 : decode cX7_step 19 = .ok (.ifCond .ne 5, 3) := by decide +kernel
theorem dX7_step_22 : decode cX7_step 22 = .ok (.iconst (-1), 1) := by decide +kernel
theorem dX7_step_23 : decode cX7_step 23 = .ok (.ireturn, 1) := by decide +kernel
theorem dX7_step_24 : decode cX7_step 24 = .ok (.aload_n 0, 1) := by decide +kernel
theorem dX7_step_25 : decode cX7_step 25 = .ok (.iload_n 1, 1) := by decide +kernel
theorem dX7_step_26 : decode cX7_step 26 = .ok (.invokevirtual 285, 3) := by decide +kernel
theorem dX7_step_29 : decode cX7_step 29 = .ok (.ifCond .ne 8, 3) := by decide +kernel
theorem dX7_step_32 : decode cX7_step 32 = .ok (.bipush (-2), 2) := by decide +kernel
theorem dX7_step_34 : decode cX7_step 34 = .ok (.goto 21, 3) := by decide +kernel
theorem dX7_step_37 : decode cX7_step 37 = .ok (.iload_n 2, 1) := by decide +kernel
theorem dX7_step_38 : decode cX7_step 38 = .ok (.ifCond .ne 7, 3) := by decide +kernel
theorem dX7_step_41 : decode cX7_step 41 = .ok (.iconst (-1), 1) := by decide +kernel
theorem dX7_step_42 : decode cX7_step 42 = .ok (.goto 13, 3) := by decide +kernel
theorem dX7_step_45 : decode cX7_step 45 = .ok (.aload_n 0, 1) := by decide +kernel
theorem dX7_step_46 : decode cX7_step 46 = .ok (.getfield 40, 3) := by decide +kernel
theorem dX7_step_49 : decode cX7_step 49 = .ok (.iload_n 2, 1) := by decide +kernel
theorem dX7_step_50 : decode cX7_step 50 = .ok (.iload_n 3, 1) := by decide +kernel
theorem dX7_step_51 : decode cX7_step 51 = .ok (.invokestatic 170, 3) := by decide +kernel
theorem dX7_step_54 : decode cX7_step 54 = .ok (.iaload, 1) := by decide +kernel
theorem dX7_step_55 : decode cX7_step 55 = .ok (.ireturn, 1) := by decide +kernel
set_option maxRecDepth 20000 in
theorem ggX7_join_X7_isManner : GoodIn wsX7_join wsX7_isManner := goodIn_r _ [8, 9, 10, 7, 11] (by decide +kernel) (by decide +kernel)
set_option maxRecDepth 20000 in
theorem gX7_join_X7_isManner : GoodIn wsX7_join (wsV RX7 291 RX7 yX7_isManner wsX7_isManner) := goodIn_app (goodIn_of _ (by decide +kernel)) ggX7_join_X7_isManner
set_option maxRecDepth 20000 in
theorem ggX7_join_X7_within : GoodIn wsX7_join wsX7_within := goodIn_r _ [11] (by decide +kernel) (by decide +kernel)
set_option maxRecDepth 20000 in
theorem gX7_join_X7_within : GoodIn wsX7_join (va_wsS RX7 92 yX7_within wsX7_within) := goodIn_app (goodIn_of _ (by decide +kernel)) ggX7_join_X7_within
set_option maxRecDepth 20000 in
theorem ggX7_join_X7_lays : GoodIn wsX7_join wsX7_lays := goodIn_r _ [15, 16, 17, 18, 7, 19, 20, 21, 22, 23, 24, 25, 26, 27, 28, 29, 30, 31, 32, 2, 3, 33, 34, 35, 36, 37, 38, 39, 40, 41, 42, 43, 44, 45, 46, 47, 48, 49, 50, 51, 52, 53, 54, 55, 56, 57, 58, 59, 60, 61, 62, 63, 64, 65, 66, 67, 68, 69, 70, 71, 72, 73, 74, 75, 76, 77, 78, 79, 80, 81, 82, 83, 84, 85, 86, 87, 88, 89, 90, 91, 92, 93, 94, 95, 96, 97, 98, 99, 100, 101, 102, 103, 104, 105, 106, 107, 108, 109, 110, 111, 112, 113, 114, 115, 116, 117, 118, 119, 120, 121, 122, 123, 124, 125, 126, 127, 128, 129, 130, 131, 132, 133, 134, 135, 136, 137, 138, 139, 140, 141, 142, 143, 144, 145, 146, 147, 148, 149, 150, 151, 152, 153, 154, 155, 156, 157, 158, 159, 160, 161, 162, 163, 164, 165, 166] (by decide +kernel) (by decide +kernel)
set_option maxRecDepth 20000 in
theorem gX7_join_X7_lays : GoodIn wsX7_join (wsV RX7 285 RX7 yX7_lays wsX7_lays) := goodIn_app (goodIn_of _ (by decide +kernel)) ggX7_join_X7_lays
set_option maxRecDepth 20000 in
theorem ggX7_join_X7_manyTo : GoodIn wsX7_join wsX7_manyTo := goodIn_r _ [85, 3, 2, 20, 78, 79, 80, 7, 81, 22, 23, 24, 26, 27, 28, 38, 39, 40, 41, 42, 43, 44, 45, 46, 47, 48, 49, 132, 133, 134, 135, 136, 137, 138, 139, 140, 141, 142, 143, 144, 145, 146, 147, 148, 149, 150, 151, 152, 153, 154, 155, 156, 157, 158, 159, 160, 161, 162, 163, 164, 165, 166] (by decide +kernel) (by decide +kernel)
set_option maxRecDepth 20000 in
theorem gX7_join_X7_manyTo : GoodIn wsX7_join (wsV RX7 225 RX7 yX7_manyTo wsX7_manyTo) := goodIn_app (goodIn_of _ (by decide +kernel)) ggX7_join_X7_manyTo
theorem dX7_join_0 : decode cX7_join 0 = .ok (.aload_n 0, 1) := by decide +kernel
theorem dX7_join_1 : decode cX7_join 1 = .ok (.iconst 0, 1) := by decide +kernel
theorem dX7_join_2 : decode cX7_join 2 = .ok (.putfield 1, 3) := by decide +kernel
theorem dX7_join_5 : decode cX7_join 5 = .ok (.aload_n 0, 1) := by decide +kernel
theorem dX7_join_6 : decode cX7_join 6 = .ok (.iload_n 1, 1) := by decide +kernel
theorem dX7_join_7 : decode cX7_join 7 = .ok (.invokevirtual 291, 3) := by decide +kernel
theorem dX7_join_10 : decode cX7_join 10 = .ok (.ifCond .eq 17, 3) := by decide +kernel
theorem dX7_join_13 : decode cX7_join 13 = .ok (.iload_n 2, 1) := by decide +kernel
theorem dX7_join_14 : decode cX7_join 14 = .ok (.iconst (-1), 1) := by decide +kernel
theorem dX7_join_15 : decode cX7_join 15 = .ok (.if_icmp .lt 12, 3) := by decide +kernel
theorem dX7_join_18 : decode cX7_join 18 = .ok (.iload_n 3, 1) := by decide +kernel
theorem dX7_join_19 : decode cX7_join 19 = .ok (.iconst 0, 1) := by decide +kernel
theorem dX7_join_20 : decode cX7_join 20 = .ok (.iconst 2, 1) := by decide +kernel
theorem dX7_join_21 : decode cX7_join 21 = .ok (.invokestatic 92, 3) := by decide +kernel
theorem dX7_join_24 : decode cX7_join 24 = .ok (.ifCond .ne 5, 3) := by decide +kernel
theorem dX7_join_27 : decode cX7_join 27 = .ok (.iconst (-1), 1) := by decide +kernel
theorem dX7_join_28 : decode cX7_join 28 = .ok (.ireturn, 1) := by decide +kernel
theorem dX7_join_29 : decode cX7_join 29 = .ok (.aload_n 0, 1) := by decide +kernel
theorem dX7_join_30 : decode cX7_join 30 = .ok (.iload_n 1, 1) := by decide +kernel
theorem dX7_join_31 : decode cX7_join 31 = .ok (.invokevirtual 285, 3) := by decide +kernel
theorem dX7_join_34 : decode cX7_join 34 = .ok (.ifCond .ne 6, 3) := by decide +kernel
theorem dX7_join_37 : decode cX7_join 37 = .ok (.bipush (-2), 2) := by decide +kernel
theorem dX7_join_39 : decode cX7_join 39 = .ok (.ireturn, 1) := by decide +kernel
theorem dX7_join_40 : decode cX7_join 40 = .ok (.iconst 0, 1) := by decide +kernel
theorem dX7_join_41 : decode cX7_join 41 = .ok (.istore 4, 2) := by decide +kernel
theorem dX7_join_43 : decode cX7_join 43 = .ok (.aload_n 0, 1) := by decide +kernel
theorem dX7_join_44 : decode cX7_join 44 = .ok (.getfield 83, 3) := by decide +kernel
theorem dX7_join_47 : decode cX7_join 47 = .ok (.istore 5, 2) := by decide +kernel
theorem dX7_join_49 : decode cX7_join 49 = .ok (.iload 5, 2) := by decide +kernel
theorem dX7_join_51 : decode cX7_join 51 = .ok (.ifCond .lt 83, 3) := by decide +kernel
theorem dX7_join_54 : decode cX7_join 54 = .ok (.iconst 0, 1) := by decide +kernel
theorem dX7_join_55 : decode cX7_join 55 = .ok (.istore 6, 2) := by decide +kernel
theorem dX7_join_57 : decode cX7_join 57 = .ok (.iload 6, 2) := by decide +kernel
theorem dX7_join_59 : decode cX7_join 59 = .ok (.iload 5, 2) := by decide +kernel
theorem dX7_join_61 : decode cX7_join 61 = .ok (.ifCond .ne 7, 3) := by decide +kernel
theorem dX7_join_64 : decode cX7_join 64 = .ok (.iconst 1, 1) := by decide +kernel
theorem dX7_join_65 : decode cX7_join 65 = .ok (.goto 7, 3) := by decide +kernel
theorem dX7_join_68 : decode cX7_join 68 = .ok (.aload_n 0, 1) := by decide +kernel
theorem dX7_join_69 : decode cX7_join 69 = .ok (.getfield 86, 3) := by decide +kernel
theorem dX7_join_72 : decode cX7_join 72 = .ok (.if_icmp .ge 56, 3) := by decide +kernel
theorem dX7_join_75 : decode cX7_join 75 = .ok (.aload_n 0, 1) := by decide +kernel
theorem dX7_join_76 : decode cX7_join 76 = .ok (.iload 5, 2) := by decide +kernel
theorem dX7_join_78 : decode cX7_join 78 = .ok (.iload 6, 2) := by decide +kernel
theorem dX7_join_80 : decode cX7_join 80 = .ok (.invokevirtual 225, 3) := by decide +kernel
theorem dX7_join_83 : decode cX7_join 83 = .ok (.istore 7, 2) := by decide +kernel
theorem dX7_join_85 : decode cX7_join 85 = .ok (.iload 7, 2) := by decide +kernel
theorem dX7_join_87 : decode cX7_join 87 = .ok (.iconst 1, 1) := by decide +kernel
theorem dX7_join_88 : decode cX7_join 88 = .ok (.if_icmp .le 34, 3) := by decide +kernel
theorem dX7_join_91 : decode cX7_join 91 = .ok (.iload 4, 2) := by decide +kernel
theorem dX7_join_93 : decode cX7_join 93 = .ok (.iload_n 2, 1) := by decide +kernel
theorem dX7_join_94 : decode cX7_join 94 = .ok (.if_icmp .ne 25, 3) := by decide +kernel
theorem dX7_join_97 : decode cX7_join 97 = .ok (.iload_n 3, 1) := by decide +kernel
theorem dX7_join_98 : decode cX7_join 98 = .ok (.ifCond .ne 8, 3) := by decide +kernel
theorem dX7_join_101 : decode cX7_join 101 = .ok (.iload 5, 2) := by decide +kernel
theorem dX7_join_103 : decode cX7_join 103 = .ok (.goto 15, 3) := by decide +kernel
theorem dX7_join_106 : decode cX7_join 106 = .ok (.iload_n 3, 1) := by decide +kernel
theorem dX7_join_107 : decode cX7_join 107 = .ok (.iconst 1, 1) := by decide +kernel
theorem dX7_join_108 : decode cX7_join 108 = .ok (.if_icmp .ne 8, 3) := by decide +kernel
theorem dX7_join_111 : decode cX7_join 111 = .ok (.iload 6, 2) := by decide +kernel
theorem dX7_join_113 : decode cX7_join 113 = .ok (.goto 5, 3) := by decide +kernel
theorem dX7_join_116 : decode cX7_join 116 = .ok (.iload 7, 2) := by decide +kernel
theorem dX7_join_118 : decode cX7_join 118 = .ok (.ireturn, 1) := by decide +kernel
theorem dX7_join_119 : decode cX7_join 119 = .ok (.iinc 4 1, 3) := by decide +kernel
theorem dX7_join_122 : decode cX7_join 122 = .ok (.iinc 6 1, 3) := by decide +kernel
theorem dX7_join_125 : decode cX7_join 125 = .ok (.goto (-68), 3) := by decide +kernel
theorem dX7_join_128 : decode cX7_join 128 = .ok (.iinc 5 (-1), 3) := by decide +kernel
theorem dX7_join_131 : decode cX7_join 131 = .ok (.goto (-82), 3) := by decide +kernel
theorem dX7_join_134 : decode cX7_join 134 = .ok (.iload_n 2, 1) := by decide +kernel
theorem dX7_join_135 : decode cX7_join 135 = .ok (.iconst (-1), 1) := by decide +kernel
theorem dX7_join_136 : decode cX7_join 136 = .ok (.if_icmp .ne 8, 3) := by decide +kernel
theorem dX7_join_139 : decode cX7_join 139 = .ok (.iload 4, 2) := by decide +kernel
theorem dX7_join_141 : decode cX7_join 141 = .ok (.goto 4, 3) := by decide +kernel
theorem dX7_join_144 : decode cX7_join 144 = .ok (.iconst (-1), 1) := by decide +kernel
theorem dX7_join_145 : decode cX7_join 145 = .ok (.ireturn, 1) := by decide +kernel
theorem dX7_bends_0 : decode cX7_bends 0 = .ok (.iconst 0, 1) := by decide +kernel
theorem dX7_bends_1 : decode cX7_bends 1 = .ok (.istore_n 1, 1) := by decide +kernel
theorem dX7_bends_2 : decode cX7_bends 2 = .ok (.iconst 0, 1) := by decide +kernel
theorem dX7_bends_3 : decode cX7_bends 3 = .ok (.istore_n 2, 1) := by decide +kernel
theorem dX7_bends_4 : decode cX7_bends 4 = .ok (.iload_n 2, 1) := by decide +kernel
theorem dX7_bends_5 : decode cX7_bends 5 = .ok (.sipush 240, 3) := by decide +kernel
theorem dX7_bends_8 : decode cX7_bends 8 = .ok (.if_icmp .ge 32, 3) := by decide +kernel
theorem dX7_bends_11 : decode cX7_bends 11 = .ok (.iload_n 1, 1) := by decide +kernel
theorem dX7_bends_12 : decode cX7_bends 12 = .ok (.iload_n 2, 1) := by decide +kernel
theorem dX7_bends_13 : decode cX7_bends 13 = .ok (.bipush 48, 2) := by decide +kernel
theorem dX7_bends_15 : decode cX7_bends 15 = .ok (.if_icmp .lt 16, 3) := by decide +kernel
theorem dX7_bends_18 : decode cX7_bends 18 = .ok (.aload_n 0, 1) := by decide +kernel
theorem dX7_bends_19 : decode cX7_bends 19 = .ok (.getfield 40, 3) := by decide +kernel
theorem dX7_bends_22 : decode cX7_bends 22 = .ok (.iload_n 2, 1) := by decide +kernel
theorem dX7_bends_23 : decode cX7_bends 23 = .ok (.iaload, 1) := by decide +kernel
theorem dX7_bends_24 : decode cX7_bends 24 = .ok (.ifCond .le 7, 3) := by decide +kernel
theorem dX7_bends_27 : decode cX7_bends 27 = .ok (.iconst 1, 1) := by decide +kernel
theorem dX7_bends_28 : decode cX7_bends 28 = .ok (.goto 4, 3) := by decide +kernel
theorem dX7_bends_31 : decode cX7_bends 31 = .ok (.iconst 0, 1) := by decide +kernel
theorem dX7_bends_32 : decode cX7_bends 32 = .ok (.iadd, 1) := by decide +kernel
theorem dX7_bends_33 : decode cX7_bends 33 = .ok (.istore_n 1, 1) := by decide +kernel
theorem dX7_bends_34 : decode cX7_bends 34 = .ok (.iinc 2 1, 3) := by decide +kernel
theorem dX7_bends_37 : decode cX7_bends 37 = .ok (.goto (-33), 3) := by decide +kernel
theorem dX7_bends_40 : decode cX7_bends 40 = .ok (.iload_n 1, 1) := by decide +kernel
theorem dX7_bends_41 : decode cX7_bends 41 = .ok (.ireturn, 1) := by decide +kernel
set_option maxRecDepth 20000 in
theorem ggX7_across_X7_cell : GoodIn wsX7_across wsX7_cell := goodIn_r _ [7] (by decide +kernel) (by decide +kernel)
set_option maxRecDepth 20000 in
theorem gX7_across_X7_cell : GoodIn wsX7_across (va_wsS RX7 170 yX7_cell wsX7_cell) := goodIn_app (goodIn_of _ (by decide +kernel)) ggX7_across_X7_cell
set_option maxRecDepth 20000 in
theorem ggX7_across_X7_around : GoodIn wsX7_across wsX7_around := goodIn_r _ [11, 2, 12, 13, 14, 15, 16, 17, 18, 19, 20, 21, 22, 23, 24, 25, 26, 27, 28, 29, 30, 31, 32, 33, 34, 35, 36, 37, 38, 39, 40, 41, 42, 43, 44, 45, 46] (by decide +kernel) (by decide +kernel)
set_option maxRecDepth 20000 in
theorem gX7_across_X7_around : GoodIn wsX7_across (wsV RX7 200 RX7 yX7_around wsX7_around) := goodIn_app (goodIn_of _ (by decide +kernel)) ggX7_across_X7_around
theorem dX7_across_0 : decode cX7_across 0 = .ok (.iconst 0, 1) := by decide +kernel
theorem dX7_across_1 : decode cX7_across 1 = .ok (.istore_n 1, 1) := by decide +kernel
theorem dX7_across_2 : decode cX7_across 2 = .ok (.iconst 2, 1) := by decide +kernel
theorem dX7_across_3 : decode cX7_across 3 = .ok (.istore_n 2, 1) := by decide +kernel
theorem dX7_across_4 : decode cX7_across 4 = .ok (.iload_n 2, 1) := by decide +kernel
theorem dX7_across_5 : decode cX7_across 5 = .ok (.aload_n 0, 1) := by decide +kernel
theorem dX7_across_6 : decode cX7_across 6 = .ok (.getfield 83, 3) := by decide +kernel
theorem dX7_across_9 : decode cX7_across 9 = .ok (.if_icmp .gt 67, 3) := by decide +kernel
theorem dX7_across_12 : decode cX7_across 12 = .ok (.iconst 0, 1) := by decide +kernel
theorem dX7_across_13 : decode cX7_across 13 = .ok (.istore_n 3, 1) := by decide +kernel
theorem dX7_across_14 : decode cX7_across 14 = .ok (.iload_n 3, 1) := by decide +kernel
theorem dX7_across_15 : decode cX7_across 15 = .ok (.aload_n 0, 1) := by decide +kernel
theorem dX7_across_16 : decode cX7_across 16 = .ok (.getfield 86, 3) := by decide +kernel
theorem dX7_across_19 : decode cX7_across 19 = .ok (.if_icmp .ge 51, 3) := by decide +kernel
theorem dX7_across_22 : decode cX7_across 22 = .ok (.iload_n 1, 1) := by decide +kernel
theorem dX7_across_23 : decode cX7_across 23 = .ok (.aload_n 0, 1) := by decide +kernel
theorem dX7_across_24 : decode cX7_across 24 = .ok (.getfield 40, 3) := by decide +kernel
theorem dX7_across_27 : decode cX7_across 27 = .ok (.iload_n 2, 1) := by decide +kernel
theorem dX7_across_28 : decode cX7_across 28 = .ok (.iload_n 3, 1) := by decide +kernel
theorem dX7_across_29 : decode cX7_across 29 = .ok (.invokestatic 170, 3) := by decide +kernel
theorem dX7_across_32 : decode cX7_across 32 = .ok (.iaload, 1) := by decide +kernel
theorem dX7_across_33 : decode cX7_across 33 = .ok (.iconst 2, 1) := by decide +kernel
theorem dX7_across_34 : decode cX7_across 34 = .ok (.if_icmp .ne 27, 3) := by decide +kernel
theorem dX7_across_37 : decode cX7_across 37 = .ok (.aload_n 0, 1) := by decide +kernel
theorem dX7_across_38 : decode cX7_across 38 = .ok (.getfield 40, 3) := by decide +kernel
theorem dX7_across_41 : decode cX7_across 41 = .ok (.iload_n 2, 1) := by decide +kernel
theorem dX7_across_42 : decode cX7_across 42 = .ok (.aload_n 0, 1) := by decide +kernel
theorem dX7_across_43 : decode cX7_across 43 = .ok (.iload_n 3, 1) := by decide +kernel
theorem dX7_across_44 : decode cX7_across 44 = .ok (.iconst 1, 1) := by decide +kernel
theorem dX7_across_45 : decode cX7_across 45 = .ok (.iadd, 1) := by decide +kernel
theorem dX7_across_46 : decode cX7_across 46 = .ok (.invokevirtual 200, 3) := by decide +kernel
theorem dX7_across_49 : decode cX7_across 49 = .ok (.invokestatic 170, 3) := by decide +kernel
theorem dX7_across_52 : decode cX7_across 52 = .ok (.iaload, 1) := by decide +kernel
theorem dX7_across_53 : decode cX7_across 53 = .ok (.iconst 1, 1) := by decide +kernel
theorem dX7_across_54 : decode cX7_across 54 = .ok (.if_icmp .ne 7, 3) := by decide +kernel
theorem dX7_across_57 : decode cX7_across 57 = .ok (.iconst 1, 1) := by decide +kernel
theorem dX7_across_58 : decode cX7_across 58 = .ok (.goto 4, 3) := by decide +kernel
theorem dX7_across_61 : decode cX7_across 61 = .ok (.iconst 0, 1) := by decide +kernel
theorem dX7_across_62 : decode cX7_across 62 = .ok (.iadd, 1) := by decide +kernel
theorem dX7_across_63 : decode cX7_across 63 = .ok (.istore_n 1, 1) := by decide +kernel
theorem dX7_across_64 : decode cX7_across 64 = .ok (.iinc 3 1, 3) := by decide +kernel
theorem dX7_across_67 : decode cX7_across 67 = .ok (.goto (-53), 3) := by decide +kernel
theorem dX7_across_70 : decode cX7_across 70 = .ok (.iinc 2 1, 3) := by decide +kernel
theorem dX7_across_73 : decode cX7_across 73 = .ok (.goto (-69), 3) := by decide +kernel
theorem dX7_across_76 : decode cX7_across 76 = .ok (.iload_n 1, 1) := by decide +kernel
theorem dX7_across_77 : decode cX7_across 77 = .ok (.ireturn, 1) := by decide +kernel
theorem dX7_stepMany_0 : decode cX7_stepMany 0 = .ok (.iconst 0, 1) := by decide +kernel
theorem dX7_stepMany_1 : decode cX7_stepMany 1 = .ok (.istore_n 1, 1) := by decide +kernel
theorem dX7_stepMany_2 : decode cX7_stepMany 2 = .ok (.iconst 0, 1) := by decide +kernel
theorem dX7_stepMany_3 : decode cX7_stepMany 3 = .ok (.istore_n 2, 1) := by decide +kernel
theorem dX7_stepMany_4 : decode cX7_stepMany 4 = .ok (.iload_n 2, 1) := by decide +kernel
theorem dX7_stepMany_5 : decode cX7_stepMany 5 = .ok (.sipush 240, 3) := by decide +kernel
theorem dX7_stepMany_8 : decode cX7_stepMany 8 = .ok (.if_icmp .ge 26, 3) := by decide +kernel
theorem dX7_stepMany_11 : decode cX7_stepMany 11 = .ok (.iload_n 1, 1) := by decide +kernel
theorem dX7_stepMany_12 : decode cX7_stepMany 12 = .ok (.aload_n 0, 1) := by decide +kernel
theorem dX7_stepMany_13 : decode cX7_stepMany 13 = .ok (.getfield 40, 3) := by decide +kernel
theorem dX7_stepMany_16 : decode cX7_stepMany 16 = .ok (.iload_n 2, 1) := by decide +kernel
theorem dX7_stepMany_17 : decode cX7_stepMany 17 = .ok (.iaload, 1) := by decide +kernel
theorem dX7_stepMany_18 : decode cX7_stepMany 18 = .ok (.ifCond .lt 7, 3) := by decide +kernel
theorem dX7_stepMany_21 : decode cX7_stepMany 21 = .ok (.iconst 1, 1) := by decide +kernel
theorem dX7_stepMany_22 : decode cX7_stepMany 22 = .ok (.goto 4, 3) := by decide +kernel
theorem dX7_stepMany_25 : decode cX7_stepMany 25 = .ok (.iconst 0, 1) := by decide +kernel
theorem dX7_stepMany_26 : decode cX7_stepMany 26 = .ok (.iadd, 1) := by decide +kernel
theorem dX7_stepMany_27 : decode cX7_stepMany 27 = .ok (.istore_n 1, 1) := by decide +kernel
theorem dX7_stepMany_28 : decode cX7_stepMany 28 = .ok (.iinc 2 1, 3) := by decide +kernel
theorem dX7_stepMany_31 : decode cX7_stepMany 31 = .ok (.goto (-27), 3) := by decide +kernel
theorem dX7_stepMany_34 : decode cX7_stepMany 34 = .ok (.iload_n 1, 1) := by decide +kernel
theorem dX7_stepMany_35 : decode cX7_stepMany 35 = .ok (.ireturn, 1) := by decide +kernel
set_option maxRecDepth 20000 in
theorem ggX7_fullest_X7_cell : GoodIn wsX7_fullest wsX7_cell := goodIn_r _ [7] (by decide +kernel) (by decide +kernel)
set_option maxRecDepth 20000 in
theorem gX7_fullest_X7_cell : GoodIn wsX7_fullest (va_wsS RX7 170 yX7_cell wsX7_cell) := goodIn_app (goodIn_of _ (by decide +kernel)) ggX7_fullest_X7_cell
theorem dX7_fullest_0 : decode cX7_fullest 0 = .ok (.iconst 0, 1) := by decide +kernel
theorem dX7_fullest_1 : decode cX7_fullest 1 = .ok (.istore_n 1, 1) := by decide +kernel
theorem dX7_fullest_2 : decode cX7_fullest 2 = .ok (.iconst 1, 1) := by decide +kernel
theorem dX7_fullest_3 : decode cX7_fullest 3 = .ok (.istore_n 2, 1) := by decide +kernel
theorem dX7_fullest_4 : decode cX7_fullest 4 = .ok (.iload_n 2, 1) := by decide +kernel
theorem dX7_fullest_5 : decode cX7_fullest 5 = .ok (.aload_n 0, 1) := by decide +kernel
theorem dX7_fullest_6 : decode cX7_fullest 6 = .ok (.getfield 83, 3) := by decide +kernel
theorem dX7_fullest_9 : decode cX7_fullest 9 = .ok (.if_icmp .gt 62, 3) := by decide +kernel
theorem dX7_fullest_12 : decode cX7_fullest 12 = .ok (.iconst 0, 1) := by decide +kernel
theorem dX7_fullest_13 : decode cX7_fullest 13 = .ok (.istore_n 3, 1) := by decide +kernel
theorem dX7_fullest_14 : decode cX7_fullest 14 = .ok (.iconst 0, 1) := by decide +kernel
theorem dX7_fullest_15 : decode cX7_fullest 15 = .ok (.istore 4, 2) := by decide +kernel
theorem dX7_fullest_17 : decode cX7_fullest 17 = .ok (.iload 4, 2) := by decide +kernel
theorem dX7_fullest_19 : decode cX7_fullest 19 = .ok (.aload_n 0, 1) := by decide +kernel
theorem dX7_fullest_20 : decode cX7_fullest 20 = .ok (.getfield 86, 3) := by decide +kernel
theorem dX7_fullest_23 : decode cX7_fullest 23 = .ok (.if_icmp .ge 31, 3) := by decide +kernel
theorem dX7_fullest_26 : decode cX7_fullest 26 = .ok (.iload_n 3, 1) := by decide +kernel
theorem dX7_fullest_27 : decode cX7_fullest 27 = .ok (.aload_n 0, 1) := by decide +kernel
theorem dX7_fullest_28 : decode cX7_fullest 28 = .ok (.getfield 43, 3) := by decide +kernel
theorem dX7_fullest_31 : decode cX7_fullest 31 = .ok (.iload_n 2, 1) := by decide +kernel
theorem dX7_fullest_32 : decode cX7_fullest 32 = .ok (.iload 4, 2) := by decide +kernel
theorem dX7_fullest_34 : decode cX7_fullest 34 = .ok (.invokestatic 170, 3) := by decide +kernel
theorem dX7_fullest_37 : decode cX7_fullest 37 = .ok (.iaload, 1) := by decide +kernel
theorem dX7_fullest_38 : decode cX7_fullest 38 = .ok (.ifCond .le 7, 3) := by decide +kernel
theorem dX7_fullest_41 : decode cX7_fullest 41 = .ok (.iconst 1, 1) := by decide +kernel
theorem dX7_fullest_42 : decode cX7_fullest 42 = .ok (.goto 4, 3) := by decide +kernel
theorem dX7_fullest_45 : decode cX7_fullest 45 = .ok (.iconst 0, 1) := by decide +kernel
theorem dX7_fullest_46 : decode cX7_fullest 46 = .ok (.iadd, 1) := by decide +kernel
theorem dX7_fullest_47 : decode cX7_fullest 47 = .ok (.istore_n 3, 1) := by decide +kernel
theorem dX7_fullest_48 : decode cX7_fullest 48 = .ok (.iinc 4 1, 3) := by decide +kernel
theorem dX7_fullest_51 : decode cX7_fullest 51 = .ok (.goto (-34), 3) := by decide +kernel
theorem dX7_fullest_54 : decode cX7_fullest 54 = .ok (.iload_n 3, 1) := by decide +kernel
theorem dX7_fullest_55 : decode cX7_fullest 55 = .ok (.iload_n 1, 1) := by decide +kernel
theorem dX7_fullest_56 : decode cX7_fullest 56 = .ok (.if_icmp .le 7, 3) := by decide +kernel
theorem dX7_fullest_59 : decode cX7_fullest 59 = .ok (.iload_n 3, 1) := by decide +kernel
theorem dX7_fullest_60 : decode cX7_fullest 60 = .ok (.goto 4, 3) := by decide +kernel
theorem dX7_fullest_63 : decode cX7_fullest 63 = .ok (.iload_n 1, 1) := by decide +kernel
theorem dX7_fullest_64 : decode cX7_fullest 64 = .ok (.istore_n 1, 1) := by decide +kernel
theorem dX7_fullest_65 : decode cX7_fullest 65 = .ok (.iinc 2 1, 3) := by decide +kernel
theorem dX7_fullest_68 : decode cX7_fullest 68 = .ok (.goto (-64), 3) := by decide +kernel
theorem dX7_fullest_71 : decode cX7_fullest 71 = .ok (.iload_n 1, 1) := by decide +kernel
theorem dX7_fullest_72 : decode cX7_fullest 72 = .ok (.ireturn, 1) := by decide +kernel
theorem dX7_widest_0 : decode cX7_widest 0 = .ok (.iconst 0, 1) := by decide +kernel
theorem dX7_widest_1 : decode cX7_widest 1 = .ok (.istore_n 1, 1) := by decide +kernel
theorem dX7_widest_2 : decode cX7_widest 2 = .ok (.bipush 24, 2) := by decide +kernel
theorem dX7_widest_4 : decode cX7_widest 4 = .ok (.istore_n 2, 1) := by decide +kernel
theorem dX7_widest_5 : decode cX7_widest 5 = .ok (.iload_n 2, 1) := by decide +kernel
theorem dX7_widest_6 : decode cX7_widest 6 = .ok (.sipush 240, 3) := by decide +kernel
theorem dX7_widest_9 : decode cX7_widest 9 = .ok (.if_icmp .ge 39, 3) := by decide +kernel
theorem dX7_widest_12 : decode cX7_widest 12 = .ok (.aload_n 0, 1) := by decide +kernel
theorem dX7_widest_13 : decode cX7_widest 13 = .ok (.getfield 40, 3) := by decide +kernel
theorem dX7_widest_16 : decode cX7_widest 16 = .ok (.iload_n 2, 1) := by decide +kernel
theorem dX7_widest_17 : decode cX7_widest 17 = .ok (.iaload, 1) := by decide +kernel
theorem dX7_widest_18 : decode cX7_widest 18 = .ok (.ifCond .lt 22, 3) := by decide +kernel
theorem dX7_widest_21 : decode cX7_widest 21 = .ok (.aload_n 0, 1) := by decide +kernel
theorem dX7_widest_22 : decode cX7_widest 22 = .ok (.getfield 43, 3) := by decide +kernel
theorem dX7_widest_25 : decode cX7_widest 25 = .ok (.iload_n 2, 1) := by decide +kernel
theorem dX7_widest_26 : decode cX7_widest 26 = .ok (.iaload, 1) := by decide +kernel
theorem dX7_widest_27 : decode cX7_widest 27 = .ok (.iload_n 1, 1) := by decide +kernel
theorem dX7_widest_28 : decode cX7_widest 28 = .ok (.if_icmp .le 12, 3) := by decide +kernel
theorem dX7_widest_31 : decode cX7_widest 31 = .ok (.aload_n 0, 1) := by decide +kernel
theorem dX7_widest_32 : decode cX7_widest 32 = .ok (.getfield 43, 3) := by decide +kernel
theorem dX7_widest_35 : decode cX7_widest 35 = .ok (.iload_n 2, 1) := by decide +kernel
theorem dX7_widest_36 : decode cX7_widest 36 = .ok (.iaload, 1) := by decide +kernel
theorem dX7_widest_37 : decode cX7_widest 37 = .ok (.goto 4, 3) := by decide +kernel
theorem dX7_widest_40 : decode cX7_widest 40 = .ok (.iload_n 1, 1) := by decide +kernel
theorem dX7_widest_41 : decode cX7_widest 41 = .ok (.istore_n 1, 1) := by decide +kernel
theorem dX7_widest_42 : decode cX7_widest 42 = .ok (.iinc 2 1, 3) := by decide +kernel
theorem dX7_widest_45 : decode cX7_widest 45 = .ok (.goto (-40), 3) := by decide +kernel
theorem dX7_widest_48 : decode cX7_widest 48 = .ok (.iload_n 1, 1) := by decide +kernel
theorem dX7_widest_49 : decode cX7_widest 49 = .ok (.ireturn, 1) := by decide +kernel
set_option maxRecDepth 20000 in
theorem ggX7_drawn_X7_isManner : GoodIn wsX7_drawn wsX7_isManner := goodIn_r _ [6, 7, 8, 5, 9] (by decide +kernel) (by decide +kernel)
set_option maxRecDepth 20000 in
theorem gX7_drawn_X7_isManner : GoodIn wsX7_drawn (wsV RX7 291 RX7 yX7_isManner wsX7_isManner) := goodIn_app (goodIn_of _ (by decide +kernel)) ggX7_drawn_X7_isManner
set_option maxRecDepth 20000 in
theorem ggX7_drawn_X7_within : GoodIn wsX7_drawn wsX7_within := goodIn_r _ [9] (by decide +kernel) (by decide +kernel)
set_option maxRecDepth 20000 in
theorem gX7_drawn_X7_within : GoodIn wsX7_drawn (va_wsS RX7 92 yX7_within wsX7_within) := goodIn_app (goodIn_of _ (by decide +kernel)) ggX7_drawn_X7_within
set_option maxRecDepth 20000 in
theorem ggX7_drawn_X7_lays : GoodIn wsX7_drawn wsX7_lays := goodIn_r _ [13, 14, 15, 16, 5, 17, 18, 19, 20, 21, 22, 23, 24, 25, 26, 27, 28, 29, 30, 31, 32, 33, 34, 35, 36, 37, 38, 39, 40, 41, 42, 43, 44, 45, 46, 47, 48, 49, 50, 51, 52, 53, 54, 55, 56, 57, 58, 59, 60, 61, 62, 63, 64, 65, 66, 67, 68, 69, 70, 71, 72, 73, 74, 75, 76, 77, 78, 79, 80, 81, 82, 83, 84, 85, 86, 87, 88, 89, 90, 91, 92, 93, 94, 95, 96, 97, 98, 99, 100, 101, 102, 103, 104, 105, 106, 107, 108, 109, 110, 111, 112, 113, 114, 115, 116, 117, 118, 119, 120, 121, 122, 123, 124, 125, 126, 127, 128, 129, 130, 131, 152, 153, 154, 155, 156, 157, 158, 159, 160, 161, 162, 163, 164, 165, 166, 167, 168, 169, 170, 171, 172, 173, 174, 175, 176, 177, 178, 179, 180, 181, 182, 183, 184, 185, 186] (by decide +kernel) (by decide +kernel)
set_option maxRecDepth 20000 in
theorem gX7_drawn_X7_lays : GoodIn wsX7_drawn (wsV RX7 285 RX7 yX7_lays wsX7_lays) := goodIn_app (goodIn_of _ (by decide +kernel)) ggX7_drawn_X7_lays
set_option maxRecDepth 20000 in
theorem ggX7_drawn_X7_bends : GoodIn wsX7_drawn wsX7_bends := goodIn_r _ [135, 18, 152, 153, 154, 155, 156, 157, 158, 159, 160, 161, 162, 163, 164, 165, 166, 167, 168, 169, 170, 171, 172, 173, 174, 175, 176, 177, 178, 179, 180, 181, 182, 183, 184, 185, 186] (by decide +kernel) (by decide +kernel)
set_option maxRecDepth 20000 in
theorem gX7_drawn_X7_bends : GoodIn wsX7_drawn (wsV RX7 297 RX7 yX7_bends wsX7_bends) := goodIn_app (goodIn_of _ (by decide +kernel)) ggX7_drawn_X7_bends
set_option maxRecDepth 20000 in
theorem ggX7_drawn_X7_across : GoodIn wsX7_drawn wsX7_across := goodIn_r _ [139, 31, 32, 18, 24, 25, 5, 26, 46, 47, 48, 49, 152, 153, 154, 155, 156, 157, 158, 159, 160, 161, 162, 163, 164, 165, 166, 167, 168, 169, 170, 171, 172, 173, 174, 175, 176, 177, 178, 179, 180, 181, 182, 183, 184, 185, 186] (by decide +kernel) (by decide +kernel)
set_option maxRecDepth 20000 in
theorem gX7_drawn_X7_across : GoodIn wsX7_drawn (wsV RX7 300 RX7 yX7_across wsX7_across) := goodIn_app (goodIn_of _ (by decide +kernel)) ggX7_drawn_X7_across
set_option maxRecDepth 20000 in
theorem ggX7_drawn_X7_stepMany : GoodIn wsX7_drawn wsX7_stepMany := goodIn_r _ [143, 18, 152, 153, 154, 155, 156, 157, 158, 159, 160, 161, 162, 163, 164, 165, 166, 167, 168, 169, 170, 171, 172, 173, 174, 175, 176, 177, 178, 179, 180, 181, 182, 183, 184, 185, 186] (by decide +kernel) (by decide +kernel)
set_option maxRecDepth 20000 in
theorem gX7_drawn_X7_stepMany : GoodIn wsX7_drawn (wsV RX7 303 RX7 yX7_stepMany wsX7_stepMany) := goodIn_app (goodIn_of _ (by decide +kernel)) ggX7_drawn_X7_stepMany
set_option maxRecDepth 20000 in
theorem ggX7_drawn_X7_fullest : GoodIn wsX7_drawn wsX7_fullest := goodIn_r _ [147, 31, 32, 19, 24, 25, 5, 26, 152, 153, 154, 155, 156, 157, 158, 159, 160, 161, 162, 163, 164, 165, 166, 167, 168, 169, 170, 171, 172, 173, 174, 175, 176, 177, 178, 179, 180, 181, 182, 183, 184, 185, 186] (by decide +kernel) (by decide +kernel)
set_option maxRecDepth 20000 in
theorem gX7_drawn_X7_fullest : GoodIn wsX7_drawn (wsV RX7 306 RX7 yX7_fullest wsX7_fullest) := goodIn_app (goodIn_of _ (by decide +kernel)) ggX7_drawn_X7_fullest
set_option maxRecDepth 20000 in
theorem ggX7_drawn_X7_widest : GoodIn wsX7_drawn wsX7_widest := goodIn_r _ [151, 18, 19, 152, 153, 154, 155, 156, 157, 158, 159, 160, 161, 162, 163, 164, 165, 166, 167, 168, 169, 170, 171, 172, 173, 174, 175, 176, 177, 178, 179, 180, 181, 182, 183, 184, 185, 186] (by decide +kernel) (by decide +kernel)
set_option maxRecDepth 20000 in
theorem gX7_drawn_X7_widest : GoodIn wsX7_drawn (wsV RX7 309 RX7 yX7_widest wsX7_widest) := goodIn_app (goodIn_of _ (by decide +kernel)) ggX7_drawn_X7_widest
theorem dX7_drawn_0 : decode cX7_drawn 0 = .ok (.aload_n 0, 1) := by decide +kernel
theorem dX7_drawn_1 : decode cX7_drawn 1 = .ok (.iconst 0, 1) := by decide +kernel
theorem dX7_drawn_2 : decode cX7_drawn 2 = .ok (.putfield 1, 3) := by decide +kernel
theorem dX7_drawn_5 : decode cX7_drawn 5 = .ok (.aload_n 0, 1) := by decide +kernel
theorem dX7_drawn_6 : decode cX7_drawn 6 = .ok (.iload_n 1, 1) := by decide +kernel
theorem dX7_drawn_7 : decode cX7_drawn 7 = .ok (.invokevirtual 291, 3) := by decide +kernel
theorem dX7_drawn_10 : decode cX7_drawn 10 = .ok (.ifCond .eq 12, 3) := by decide +kernel
theorem dX7_drawn_13 : decode cX7_drawn 13 = .ok (.iload_n 2, 1) := by decide +kernel
theorem dX7_drawn_14 : decode cX7_drawn 14 = .ok (.iconst 0, 1) := by decide +kernel
theorem dX7_drawn_15 : decode cX7_drawn 15 = .ok (.iconst 4, 1) := by decide +kernel
theorem dX7_drawn_16 : decode cX7_drawn 16 = .ok (.invokestatic 92, 3) := by decide +kernel
theorem dX7_drawn_19 : decode cX7_drawn 19 = .ok (.ifCond .ne 5, 3) := by decide +kernel
theorem dX7_drawn_22 : decode cX7_drawn 22 = .ok (.iconst (-1), 1) := by decide +kernel
theorem dX7_drawn_23 : decode cX7_drawn 23 = .ok (.ireturn, 1) := by decide +kernel
theorem dX7_drawn_24 : decode cX7_drawn 24 = .ok (.aload_n 0, 1) := by decide +kernel
theorem dX7_drawn_25 : decode cX7_drawn 25 = .ok (.iload_n 1, 1) := by decide +kernel
theorem dX7_drawn_26 : decode cX7_drawn 26 = .ok (.invokevirtual 285, 3) := by decide +kernel
theorem dX7_drawn_29 : decode cX7_drawn 29 = .ok (.ifCond .ne 6, 3) := by decide +kernel
theorem dX7_drawn_32 : decode cX7_drawn 32 = .ok (.bipush (-2), 2) := by decide +kernel
theorem dX7_drawn_34 : decode cX7_drawn 34 = .ok (.ireturn, 1) := by decide +kernel
theorem dX7_drawn_35 : decode cX7_drawn 35 = .ok (.iload_n 2, 1) := by decide +kernel
theorem dX7_drawn_36 : decode cX7_drawn 36 = .ok (.tableswitch 52 0 3 #[32, 37, 42, 47], 32) := by decide +kernel
theorem dX7_drawn_68 : decode cX7_drawn 68 = .ok (.aload_n 0, 1) := by decide +kernel
theorem dX7_drawn_69 : decode cX7_drawn 69 = .ok (.invokevirtual 297, 3) := by decide +kernel
theorem dX7_drawn_72 : decode cX7_drawn 72 = .ok (.ireturn, 1) := by decide +kernel
theorem dX7_drawn_73 : decode cX7_drawn 73 = .ok (.aload_n 0, 1) := by decide +kernel
theorem dX7_drawn_74 : decode cX7_drawn 74 = .ok (.invokevirtual 300, 3) := by decide +kernel
theorem dX7_drawn_77 : decode cX7_drawn 77 = .ok (.ireturn, 1) := by decide +kernel
theorem dX7_drawn_78 : decode cX7_drawn 78 = .ok (.aload_n 0, 1) := by decide +kernel
theorem dX7_drawn_79 : decode cX7_drawn 79 = .ok (.invokevirtual 303, 3) := by decide +kernel
theorem dX7_drawn_82 : decode cX7_drawn 82 = .ok (.ireturn, 1) := by decide +kernel
theorem dX7_drawn_83 : decode cX7_drawn 83 = .ok (.aload_n 0, 1) := by decide +kernel
theorem dX7_drawn_84 : decode cX7_drawn 84 = .ok (.invokevirtual 306, 3) := by decide +kernel
theorem dX7_drawn_87 : decode cX7_drawn 87 = .ok (.ireturn, 1) := by decide +kernel
theorem dX7_drawn_88 : decode cX7_drawn 88 = .ok (.aload_n 0, 1) := by decide +kernel
theorem dX7_drawn_89 : decode cX7_drawn 89 = .ok (.invokevirtual 309, 3) := by decide +kernel
theorem dX7_drawn_92 : decode cX7_drawn 92 = .ok (.ireturn, 1) := by decide +kernel
set_option maxRecDepth 20000 in
theorem ggX7_turnAt_X7_cell : GoodIn wsX7_turnAt wsX7_cell := goodIn_r _ [7] (by decide +kernel) (by decide +kernel)
set_option maxRecDepth 20000 in
theorem gX7_turnAt_X7_cell : GoodIn wsX7_turnAt (va_wsS RX7 170 yX7_cell wsX7_cell) := goodIn_app (goodIn_of _ (by decide +kernel)) ggX7_turnAt_X7_cell
set_option maxRecDepth 20000 in
theorem ggX7_turnAt_X7_targetTurn : GoodIn wsX7_turnAt wsX7_targetTurn := goodIn_r _ [11, 12, 13, 14, 6, 15, 16, 17, 18, 19, 20, 21, 22, 23, 24, 25, 26, 27, 28, 29, 30, 31, 32, 33, 34, 35, 36, 37, 38, 39, 40, 41, 42, 43, 44, 45, 46, 47, 48, 49, 50, 51] (by decide +kernel) (by decide +kernel)
set_option maxRecDepth 20000 in
theorem gX7_turnAt_X7_targetTurn : GoodIn wsX7_turnAt (wsV RX7 203 RX7 yX7_targetTurn wsX7_targetTurn) := goodIn_app (goodIn_of _ (by decide +kernel)) ggX7_turnAt_X7_targetTurn
theorem dX7_turnAt_0 : decode cX7_turnAt 0 = .ok (.aload_n 0, 1) := by decide +kernel
theorem dX7_turnAt_1 : decode cX7_turnAt 1 = .ok (.getfield 17, 3) := by decide +kernel
theorem dX7_turnAt_4 : decode cX7_turnAt 4 = .ok (.iload_n 1, 1) := by decide +kernel
theorem dX7_turnAt_5 : decode cX7_turnAt 5 = .ok (.iaload, 1) := by decide +kernel
theorem dX7_turnAt_6 : decode cX7_turnAt 6 = .ok (.istore_n 3, 1) := by decide +kernel
theorem dX7_turnAt_7 : decode cX7_turnAt 7 = .ok (.aload_n 0, 1) := by decide +kernel
theorem dX7_turnAt_8 : decode cX7_turnAt 8 = .ok (.getfield 13, 3) := by decide +kernel
theorem dX7_turnAt_11 : decode cX7_turnAt 11 = .ok (.iload_n 1, 1) := by decide +kernel
theorem dX7_turnAt_12 : decode cX7_turnAt 12 = .ok (.iaload, 1) := by decide +kernel
theorem dX7_turnAt_13 : decode cX7_turnAt 13 = .ok (.istore 4, 2) := by decide +kernel
theorem dX7_turnAt_15 : decode cX7_turnAt 15 = .ok (.iload 4, 2) := by decide +kernel
theorem dX7_turnAt_17 : decode cX7_turnAt 17 = .ok (.iload_n 2, 1) := by decide +kernel
theorem dX7_turnAt_18 : decode cX7_turnAt 18 = .ok (.if_icmp .le 28, 3) := by decide +kernel
theorem dX7_turnAt_21 : decode cX7_turnAt 21 = .ok (.aload_n 0, 1) := by decide +kernel
theorem dX7_turnAt_22 : decode cX7_turnAt 22 = .ok (.iload 4, 2) := by decide +kernel
theorem dX7_turnAt_24 : decode cX7_turnAt 24 = .ok (.iload_n 3, 1) := by decide +kernel
theorem dX7_turnAt_25 : decode cX7_turnAt 25 = .ok (.aload_n 0, 1) := by decide +kernel
theorem dX7_turnAt_26 : decode cX7_turnAt 26 = .ok (.getfield 40, 3) := by decide +kernel
theorem dX7_turnAt_29 : decode cX7_turnAt 29 = .ok (.iload 4, 2) := by decide +kernel
theorem dX7_turnAt_31 : decode cX7_turnAt 31 = .ok (.iload_n 3, 1) := by decide +kernel
theorem dX7_turnAt_32 : decode cX7_turnAt 32 = .ok (.invokestatic 170, 3) := by decide +kernel
theorem dX7_turnAt_35 : decode cX7_turnAt 35 = .ok (.iaload, 1) := by decide +kernel
theorem dX7_turnAt_36 : decode cX7_turnAt 36 = .ok (.invokevirtual 203, 3) := by decide +kernel
theorem dX7_turnAt_39 : decode cX7_turnAt 39 = .ok (.istore_n 3, 1) := by decide +kernel
theorem dX7_turnAt_40 : decode cX7_turnAt 40 = .ok (.iinc 4 (-1), 3) := by decide +kernel
theorem dX7_turnAt_43 : decode cX7_turnAt 43 = .ok (.goto (-28), 3) := by decide +kernel
theorem dX7_turnAt_46 : decode cX7_turnAt 46 = .ok (.iload_n 3, 1) := by decide +kernel
theorem dX7_turnAt_47 : decode cX7_turnAt 47 = .ok (.ireturn, 1) := by decide +kernel
set_option maxRecDepth 20000 in
theorem ggX7_way_X7_isManner : GoodIn wsX7_way wsX7_isManner := goodIn_r _ [9, 10, 11, 8, 12] (by decide +kernel) (by decide +kernel)
set_option maxRecDepth 20000 in
theorem gX7_way_X7_isManner : GoodIn wsX7_way (wsV RX7 291 RX7 yX7_isManner wsX7_isManner) := goodIn_app (goodIn_of _ (by decide +kernel)) ggX7_way_X7_isManner
set_option maxRecDepth 20000 in
theorem ggX7_way_X7_within : GoodIn wsX7_way wsX7_within := goodIn_r _ [12] (by decide +kernel) (by decide +kernel)
set_option maxRecDepth 20000 in
theorem gX7_way_X7_within : GoodIn wsX7_way (va_wsS RX7 92 yX7_within wsX7_within) := goodIn_app (goodIn_of _ (by decide +kernel)) ggX7_way_X7_within
set_option maxRecDepth 20000 in
theorem ggX7_way_X7_lays : GoodIn wsX7_way wsX7_lays := goodIn_r _ [16, 17, 18, 19, 8, 20, 21, 22, 2, 4, 23, 24, 25, 26, 27, 28, 29, 30, 31, 3, 32, 33, 34, 35, 36, 37, 38, 39, 40, 41, 42, 43, 44, 45, 46, 47, 48, 49, 50, 51, 52, 53, 54, 55, 56, 57, 58, 59, 60, 61, 62, 63, 64, 65, 66, 67, 68, 69, 70, 71, 72, 73, 74, 75, 76, 77, 78, 79, 80, 81, 82, 83, 84, 85, 86, 87, 88, 89, 90, 91, 92, 93, 94, 95, 96, 97, 98, 99, 100, 101, 102, 103, 104, 105, 106, 107, 108, 109, 110, 111, 112, 113, 114, 115, 116, 117, 118, 119, 120, 121, 122, 123, 124, 125, 126, 127, 128, 129, 130, 131, 136, 137, 138, 139, 140, 141, 142, 143, 144, 145, 146, 147, 148, 149, 150, 151, 152, 153, 154, 155, 156, 157, 158, 159, 160, 161, 162, 163, 164, 165, 166, 167, 168, 169, 170] (by decide +kernel) (by decide +kernel)
set_option maxRecDepth 20000 in
theorem gX7_way_X7_lays : GoodIn wsX7_way (wsV RX7 285 RX7 yX7_lays wsX7_lays) := goodIn_app (goodIn_of _ (by decide +kernel)) ggX7_way_X7_lays
set_option maxRecDepth 20000 in
theorem ggX7_way_X7_turnAt : GoodIn wsX7_way wsX7_turnAt := goodIn_r _ [135, 23, 4, 21, 25, 26, 8, 27, 42, 43, 44, 45, 46, 47, 48, 49, 32, 136, 137, 138, 139, 140, 141, 142, 143, 144, 145, 146, 147, 148, 149, 150, 151, 152, 153, 154, 155, 156, 157, 158, 159, 160, 161, 162, 163, 164, 165, 166, 167, 168, 169, 170] (by decide +kernel) (by decide +kernel)
set_option maxRecDepth 20000 in
theorem gX7_way_X7_turnAt : GoodIn wsX7_way (wsV RX7 312 RX7 yX7_turnAt wsX7_turnAt) := goodIn_app (goodIn_of _ (by decide +kernel)) ggX7_way_X7_turnAt
theorem dX7_way_0 : decode cX7_way 0 = .ok (.aload_n 0, 1) := by decide +kernel
theorem dX7_way_1 : decode cX7_way 1 = .ok (.iconst 0, 1) := by decide +kernel
theorem dX7_way_2 : decode cX7_way 2 = .ok (.putfield 1, 3) := by decide +kernel
theorem dX7_way_5 : decode cX7_way 5 = .ok (.aload_n 0, 1) := by decide +kernel
theorem dX7_way_6 : decode cX7_way 6 = .ok (.iload_n 1, 1) := by decide +kernel
theorem dX7_way_7 : decode cX7_way 7 = .ok (.invokevirtual 291, 3) := by decide +kernel
theorem dX7_way_10 : decode cX7_way 10 = .ok (.ifCond .eq 29, 3) := by decide +kernel
theorem dX7_way_13 : decode cX7_way 13 = .ok (.iload_n 2, 1) := by decide +kernel
theorem dX7_way_14 : decode cX7_way 14 = .ok (.iconst 0, 1) := by decide +kernel
theorem dX7_way_15 : decode cX7_way 15 = .ok (.aload_n 0, 1) := by decide +kernel
theorem dX7_way_16 : decode cX7_way 16 = .ok (.getfield 89, 3) := by decide +kernel
theorem dX7_way_19 : decode cX7_way 19 = .ok (.iconst 1, 1) := by decide +kernel
theorem dX7_way_20 : decode cX7_way 20 = .ok (.isub, 1) := by decide +kernel
theorem dX7_way_21 : decode cX7_way 21 = .ok (.invokestatic 92, 3) := by decide +kernel
theorem dX7_way_24 : decode cX7_way 24 = .ok (.ifCond .eq 15, 3) := by decide +kernel
theorem dX7_way_27 : decode cX7_way 27 = .ok (.iload_n 3, 1) := by decide +kernel
theorem dX7_way_28 : decode cX7_way 28 = .ok (.iconst 0, 1) := by decide +kernel
theorem dX7_way_29 : decode cX7_way 29 = .ok (.aload_n 0, 1) := by decide +kernel
theorem dX7_way_30 : decode cX7_way 30 = .ok (.getfield 83, 3) := by decide +kernel
theorem dX7_way_33 : decode cX7_way 33 = .ok (.invokestatic 92, 3) := by decide +kernel
theorem dX7_way_36 : decode cX7_way 36 = .ok (.ifCond .ne 5, 3) := by decide +kernel
theorem dX7_way_39 : decode cX7_way 39 = .ok (.iconst (-1), 1) := by decide +kernel
theorem dX7_way_40 : decode cX7_way 40 = .ok (.ireturn, 1) := by decide +kernel
theorem dX7_way_41 : decode cX7_way 41 = .ok (.aload_n 0, 1) := by decide +kernel
theorem dX7_way_42 : decode cX7_way 42 = .ok (.iload_n 1, 1) := by decide +kernel
theorem dX7_way_43 : decode cX7_way 43 = .ok (.invokevirtual 285, 3) := by decide +kernel
theorem dX7_way_46 : decode cX7_way 46 = .ok (.ifCond .ne 8, 3) := by decide +kernel
theorem dX7_way_49 : decode cX7_way 49 = .ok (.bipush (-2), 2) := by decide +kernel
theorem dX7_way_51 : decode cX7_way 51 = .ok (.goto 23, 3) := by decide +kernel
theorem dX7_way_54 : decode cX7_way 54 = .ok (.iload_n 3, 1) := by decide +kernel
theorem dX7_way_55 : decode cX7_way 55 = .ok (.aload_n 0, 1) := by decide +kernel
theorem dX7_way_56 : decode cX7_way 56 = .ok (.getfield 13, 3) := by decide +kernel
theorem dX7_way_59 : decode cX7_way 59 = .ok (.iload_n 2, 1) := by decide +kernel
theorem dX7_way_60 : decode cX7_way 60 = .ok (.iaload, 1) := by decide +kernel
theorem dX7_way_61 : decode cX7_way 61 = .ok (.if_icmp .le 7, 3) := by decide +kernel
theorem dX7_way_64 : decode cX7_way 64 = .ok (.iconst (-1), 1) := by decide +kernel
theorem dX7_way_65 : decode cX7_way 65 = .ok (.goto 9, 3) := by decide +kernel
theorem dX7_way_68 : decode cX7_way 68 = .ok (.aload_n 0, 1) := by decide +kernel
theorem dX7_way_69 : decode cX7_way 69 = .ok (.iload_n 2, 1) := by decide +kernel
theorem dX7_way_70 : decode cX7_way 70 = .ok (.iload_n 3, 1) := by decide +kernel
theorem dX7_way_71 : decode cX7_way 71 = .ok (.invokevirtual 312, 3) := by decide +kernel
theorem dX7_way_74 : decode cX7_way 74 = .ok (.ireturn, 1) := by decide +kernel
set_option maxRecDepth 20000 in
theorem ggX7_borne_X7_isManner : GoodIn wsX7_borne wsX7_isManner := goodIn_r _ [8, 9, 10, 7, 11] (by decide +kernel) (by decide +kernel)
set_option maxRecDepth 20000 in
theorem gX7_borne_X7_isManner : GoodIn wsX7_borne (wsV RX7 291 RX7 yX7_isManner wsX7_isManner) := goodIn_app (goodIn_of _ (by decide +kernel)) ggX7_borne_X7_isManner
set_option maxRecDepth 20000 in
theorem ggX7_borne_X7_isCell : GoodIn wsX7_borne wsX7_isCell := goodIn_r _ [15, 16, 17, 9, 10, 7, 11, 140, 141, 142, 143, 144, 145, 146, 147, 148, 149, 150, 151, 152, 153, 154, 155, 156, 157, 158, 159, 160, 161, 162, 163, 164, 165, 166, 167, 168, 169, 170, 171, 172, 173, 174] (by decide +kernel) (by decide +kernel)
set_option maxRecDepth 20000 in
theorem gX7_borne_X7_isCell : GoodIn wsX7_borne (wsV RX7 96 RX7 yX7_isCell wsX7_isCell) := goodIn_app (goodIn_of _ (by decide +kernel)) ggX7_borne_X7_isCell
set_option maxRecDepth 20000 in
theorem ggX7_borne_X7_lays : GoodIn wsX7_borne wsX7_lays := goodIn_r _ [21, 22, 23, 24, 7, 25, 26, 27, 2, 3, 28, 29, 30, 31, 32, 33, 34, 35, 36, 16, 17, 37, 38, 39, 40, 41, 42, 43, 44, 45, 46, 47, 48, 49, 50, 51, 52, 53, 54, 55, 56, 57, 58, 59, 60, 61, 62, 63, 64, 65, 66, 67, 68, 69, 70, 71, 72, 73, 74, 75, 76, 77, 78, 79, 80, 81, 82, 83, 84, 85, 86, 87, 88, 89, 90, 91, 92, 93, 94, 95, 96, 97, 98, 99, 100, 101, 102, 103, 104, 105, 106, 107, 108, 109, 110, 111, 112, 113, 114, 115, 116, 117, 118, 119, 120, 121, 122, 123, 124, 125, 126, 127, 128, 129, 130, 131, 132, 133, 134, 135, 140, 141, 142, 143, 144, 145, 146, 147, 148, 149, 150, 151, 152, 153, 154, 155, 156, 157, 158, 159, 160, 161, 162, 163, 164, 165, 166, 167, 168, 169, 170, 171, 172, 173, 174] (by decide +kernel) (by decide +kernel)
set_option maxRecDepth 20000 in
theorem gX7_borne_X7_lays : GoodIn wsX7_borne (wsV RX7 285 RX7 yX7_lays wsX7_lays) := goodIn_app (goodIn_of _ (by decide +kernel)) ggX7_borne_X7_lays
set_option maxRecDepth 20000 in
theorem ggX7_borne_X7_turnAt : GoodIn wsX7_borne wsX7_turnAt := goodIn_r _ [139, 28, 3, 26, 30, 31, 7, 32, 46, 47, 48, 49, 50, 51, 52, 53, 17, 140, 141, 142, 143, 144, 145, 146, 147, 148, 149, 150, 151, 152, 153, 154, 155, 156, 157, 158, 159, 160, 161, 162, 163, 164, 165, 166, 167, 168, 169, 170, 171, 172, 173, 174] (by decide +kernel) (by decide +kernel)
set_option maxRecDepth 20000 in
theorem gX7_borne_X7_turnAt : GoodIn wsX7_borne (wsV RX7 312 RX7 yX7_turnAt wsX7_turnAt) := goodIn_app (goodIn_of _ (by decide +kernel)) ggX7_borne_X7_turnAt
theorem dX7_borne_0 : decode cX7_borne 0 = .ok (.aload_n 0, 1) := by decide +kernel
theorem dX7_borne_1 : decode cX7_borne 1 = .ok (.iconst 0, 1) := by decide +kernel
theorem dX7_borne_2 : decode cX7_borne 2 = .ok (.putfield 1, 3) := by decide +kernel
theorem dX7_borne_5 : decode cX7_borne 5 = .ok (.aload_n 0, 1) := by decide +kernel
theorem dX7_borne_6 : decode cX7_borne 6 = .ok (.iload_n 1, 1) := by decide +kernel
theorem dX7_borne_7 : decode cX7_borne 7 = .ok (.invokevirtual 291, 3) := by decide +kernel
theorem dX7_borne_10 : decode cX7_borne 10 = .ok (.ifCond .eq 12, 3) := by decide +kernel
theorem dX7_borne_13 : decode cX7_borne 13 = .ok (.aload_n 0, 1) := by decide +kernel
theorem dX7_borne_14 : decode cX7_borne 14 = .ok (.iload_n 2, 1) := by decide +kernel
theorem dX7_borne_15 : decode cX7_borne 15 = .ok (.iload_n 3, 1) := by decide +kernel
theorem dX7_borne_16 : decode cX7_borne 16 = .ok (.invokevirtual 96, 3) := by decide +kernel
theorem dX7_borne_19 : decode cX7_borne 19 = .ok (.ifCond .ne 5, 3) := by decide +kernel
theorem dX7_borne_22 : decode cX7_borne 22 = .ok (.iconst (-1), 1) := by decide +kernel
theorem dX7_borne_23 : decode cX7_borne 23 = .ok (.ireturn, 1) := by decide +kernel
theorem dX7_borne_24 : decode cX7_borne 24 = .ok (.aload_n 0, 1) := by decide +kernel
theorem dX7_borne_25 : decode cX7_borne 25 = .ok (.iload_n 1, 1) := by decide +kernel
theorem dX7_borne_26 : decode cX7_borne 26 = .ok (.invokevirtual 285, 3) := by decide +kernel
theorem dX7_borne_29 : decode cX7_borne 29 = .ok (.ifCond .ne 6, 3) := by decide +kernel
theorem dX7_borne_32 : decode cX7_borne 32 = .ok (.bipush (-2), 2) := by decide +kernel
theorem dX7_borne_34 : decode cX7_borne 34 = .ok (.ireturn, 1) := by decide +kernel
theorem dX7_borne_35 : decode cX7_borne 35 = .ok (.iconst 0, 1) := by decide +kernel
theorem dX7_borne_36 : decode cX7_borne 36 = .ok (.istore 4, 2) := by decide +kernel
theorem dX7_borne_38 : decode cX7_borne 38 = .ok (.iconst 0, 1) := by decide +kernel
theorem dX7_borne_39 : decode cX7_borne 39 = .ok (.istore 5, 2) := by decide +kernel
theorem dX7_borne_41 : decode cX7_borne 41 = .ok (.iload 5, 2) := by decide +kernel
theorem dX7_borne_43 : decode cX7_borne 43 = .ok (.aload_n 0, 1) := by decide +kernel
theorem dX7_borne_44 : decode cX7_borne 44 = .ok (.getfield 89, 3) := by decide +kernel
theorem dX7_borne_47 : decode cX7_borne 47 = .ok (.if_icmp .ge 44, 3) := by decide +kernel
theorem dX7_borne_50 : decode cX7_borne 50 = .ok (.iload 4, 2) := by decide +kernel
theorem dX7_borne_52 : decode cX7_borne 52 = .ok (.aload_n 0, 1) := by decide +kernel
theorem dX7_borne_53 : decode cX7_borne 53 = .ok (.getfield 13, 3) := by decide +kernel
theorem dX7_borne_56 : decode cX7_borne 56 = .ok (.iload 5, 2) := by decide +kernel
theorem dX7_borne_58 : decode cX7_borne 58 = .ok (.iaload, 1) := by decide +kernel
theorem dX7_borne_59 : decode cX7_borne 59 = .ok (.iload_n 2, 1) := by decide +kernel
theorem dX7_borne_60 : decode cX7_borne 60 = .ok (.if_icmp .lt 21, 3) := by decide +kernel
theorem dX7_borne_63 : decode cX7_borne 63 = .ok (.aload_n 0, 1) := by decide +kernel
theorem dX7_borne_64 : decode cX7_borne 64 = .ok (.iload 5, 2) := by decide +kernel
theorem dX7_borne_66 : decode cX7_borne 66 = .ok (.iload_n 2, 1) := by decide +kernel
theorem dX7_borne_67 : decode cX7_borne 67 = .ok (.invokevirtual 312, 3) := by decide +kernel
theorem dX7_borne_70 : decode cX7_borne 70 = .ok (.iload_n 3, 1) := by decide +kernel
theorem dX7_borne_71 : decode cX7_borne 71 = .ok (.if_icmp .ne 10, 3) := by decide +kernel
theorem dX7_borne_74 : decode cX7_borne 74 = .ok (.iconst 1, 1) := by decide +kernel
theorem dX7_borne_75 : decode cX7_borne 75 = .ok (.iload 5, 2) := by decide +kernel
theorem dX7_borne_77 : decode cX7_borne 77 = .ok (.ishl, 1) := by decide +kernel
theorem dX7_borne_78 : decode cX7_borne 78 = .ok (.goto 4, 3) := by decide +kernel
theorem dX7_borne_81 : decode cX7_borne 81 = .ok (.iconst 0, 1) := by decide +kernel
theorem dX7_borne_82 : decode cX7_borne 82 = .ok (.ior, 1) := by decide +kernel
theorem dX7_borne_83 : decode cX7_borne 83 = .ok (.istore 4, 2) := by decide +kernel
theorem dX7_borne_85 : decode cX7_borne 85 = .ok (.iinc 5 1, 3) := by decide +kernel
theorem dX7_borne_88 : decode cX7_borne 88 = .ok (.goto (-47), 3) := by decide +kernel
theorem dX7_borne_91 : decode cX7_borne 91 = .ok (.iload 4, 2) := by decide +kernel
theorem dX7_borne_93 : decode cX7_borne 93 = .ok (.ireturn, 1) := by decide +kernel
set_option maxRecDepth 20000 in
theorem ggX7_costs_X7_within : GoodIn wsX7_costs wsX7_within := goodIn_r _ [9] (by decide +kernel) (by decide +kernel)
set_option maxRecDepth 20000 in
theorem gX7_costs_X7_within : GoodIn wsX7_costs (va_wsS RX7 92 yX7_within wsX7_within) := goodIn_app (goodIn_of _ (by decide +kernel)) ggX7_costs_X7_within
set_option maxRecDepth 20000 in
theorem ggX7_costs_X7_leastInk : GoodIn wsX7_costs wsX7_leastInk := goodIn_r _ [13, 2, 14, 15, 16, 17, 8, 18, 19, 5, 20, 21, 22, 23, 24, 25, 26, 27, 28, 29, 30, 31, 32, 33, 34, 35, 3, 4, 36, 37, 38, 39, 40, 41, 42, 43, 44, 45, 46, 47, 48, 49, 50, 51, 52, 53, 54, 55, 56, 57, 58, 59, 60, 61, 74, 75, 76, 77, 78, 79, 80, 81, 82, 83, 84, 85, 86, 87, 88, 89, 90, 91, 92, 93, 94, 95, 96, 97, 98, 99, 100, 101, 102, 103, 104, 105, 106, 107, 108] (by decide +kernel) (by decide +kernel)
set_option maxRecDepth 20000 in
theorem gX7_costs_X7_leastInk : GoodIn wsX7_costs (wsV RX7 261 RX7 yX7_leastInk wsX7_leastInk) := goodIn_app (goodIn_of _ (by decide +kernel)) ggX7_costs_X7_leastInk
set_option maxRecDepth 20000 in
theorem ggX7_costs_X7_goes : GoodIn wsX7_costs wsX7_goes := goodIn_r _ [65, 2, 3, 4, 5, 66, 67, 68, 8, 69, 74, 75, 76, 77, 78, 79, 80, 81, 82, 83, 84, 85, 86, 87, 88, 89, 90, 91, 92, 93, 94, 95, 96, 97, 98, 99, 100, 101, 102, 103, 104, 105, 106, 107, 108] (by decide +kernel) (by decide +kernel)
set_option maxRecDepth 20000 in
theorem gX7_costs_X7_goes : GoodIn wsX7_costs (wsV RX7 197 RX7 yX7_goes wsX7_goes) := goodIn_app (goodIn_of _ (by decide +kernel)) ggX7_costs_X7_goes
set_option maxRecDepth 20000 in
theorem ggX7_costs_X7_adds : GoodIn wsX7_costs wsX7_adds := goodIn_r _ [73, 2, 4, 3, 5, 66, 67, 68, 8, 69, 74, 75, 76, 77, 78, 79, 80, 81, 82, 83, 84, 85, 86, 87, 88, 89, 90, 91, 92, 93, 94, 95, 96, 97, 98, 99, 100, 101, 102, 103, 104, 105, 106, 107, 108] (by decide +kernel) (by decide +kernel)
set_option maxRecDepth 20000 in
theorem gX7_costs_X7_adds : GoodIn wsX7_costs (wsV RX7 193 RX7 yX7_adds wsX7_adds) := goodIn_app (goodIn_of _ (by decide +kernel)) ggX7_costs_X7_adds
theorem dX7_costs_0 : decode cX7_costs 0 = .ok (.aload_n 0, 1) := by decide +kernel
theorem dX7_costs_1 : decode cX7_costs 1 = .ok (.iconst 0, 1) := by decide +kernel
theorem dX7_costs_2 : decode cX7_costs 2 = .ok (.putfield 1, 3) := by decide +kernel
theorem dX7_costs_5 : decode cX7_costs 5 = .ok (.iload_n 1, 1) := by decide +kernel
theorem dX7_costs_6 : decode cX7_costs 6 = .ok (.iconst 0, 1) := by decide +kernel
theorem dX7_costs_7 : decode cX7_costs 7 = .ok (.aload_n 0, 1) := by decide +kernel
theorem dX7_costs_8 : decode cX7_costs 8 = .ok (.getfield 89, 3) := by decide +kernel
theorem dX7_costs_11 : decode cX7_costs 11 = .ok (.iconst 1, 1) := by decide +kernel
theorem dX7_costs_12 : decode cX7_costs 12 = .ok (.isub, 1) := by decide +kernel
theorem dX7_costs_13 : decode cX7_costs 13 = .ok (.invokestatic 92, 3) := by decide +kernel
theorem dX7_costs_16 : decode cX7_costs 16 = .ok (.ifCond .ne 5, 3) := by decide +kernel
theorem dX7_costs_19 : decode cX7_costs 19 = .ok (.iconst (-1), 1) := by decide +kernel
theorem dX7_costs_20 : decode cX7_costs 20 = .ok (.ireturn, 1) := by decide +kernel
theorem dX7_costs_21 : decode cX7_costs 21 = .ok (.aload_n 0, 1) := by decide +kernel
theorem dX7_costs_22 : decode cX7_costs 22 = .ok (.invokevirtual 261, 3) := by decide +kernel
theorem dX7_costs_25 : decode cX7_costs 25 = .ok (.istore_n 2, 1) := by decide +kernel
theorem dX7_costs_26 : decode cX7_costs 26 = .ok (.aload_n 0, 1) := by decide +kernel
theorem dX7_costs_27 : decode cX7_costs 27 = .ok (.getfield 13, 3) := by decide +kernel
theorem dX7_costs_30 : decode cX7_costs 30 = .ok (.iload_n 1, 1) := by decide +kernel
theorem dX7_costs_31 : decode cX7_costs 31 = .ok (.iaload, 1) := by decide +kernel
theorem dX7_costs_32 : decode cX7_costs 32 = .ok (.istore_n 3, 1) := by decide +kernel
theorem dX7_costs_33 : decode cX7_costs 33 = .ok (.aload_n 0, 1) := by decide +kernel
theorem dX7_costs_34 : decode cX7_costs 34 = .ok (.getfield 17, 3) := by decide +kernel
theorem dX7_costs_37 : decode cX7_costs 37 = .ok (.iload_n 1, 1) := by decide +kernel
theorem dX7_costs_38 : decode cX7_costs 38 = .ok (.iaload, 1) := by decide +kernel
theorem dX7_costs_39 : decode cX7_costs 39 = .ok (.istore 4, 2) := by decide +kernel
theorem dX7_costs_41 : decode cX7_costs 41 = .ok (.aload_n 0, 1) := by decide +kernel
theorem dX7_costs_42 : decode cX7_costs 42 = .ok (.getfield 20, 3) := by decide +kernel
theorem dX7_costs_45 : decode cX7_costs 45 = .ok (.iload_n 1, 1) := by decide +kernel
theorem dX7_costs_46 : decode cX7_costs 46 = .ok (.iaload, 1) := by decide +kernel
theorem dX7_costs_47 : decode cX7_costs 47 = .ok (.istore 5, 2) := by decide +kernel
theorem dX7_costs_49 : decode cX7_costs 49 = .ok (.aload_n 0, 1) := by decide +kernel
theorem dX7_costs_50 : decode cX7_costs 50 = .ok (.iload_n 1, 1) := by decide +kernel
theorem dX7_costs_51 : decode cX7_costs 51 = .ok (.invokevirtual 197, 3) := by decide +kernel
theorem dX7_costs_54 : decode cX7_costs 54 = .ok (.aload_n 0, 1) := by decide +kernel
theorem dX7_costs_55 : decode cX7_costs 55 = .ok (.invokevirtual 261, 3) := by decide +kernel
theorem dX7_costs_58 : decode cX7_costs 58 = .ok (.istore 6, 2) := by decide +kernel
theorem dX7_costs_60 : decode cX7_costs 60 = .ok (.aload_n 0, 1) := by decide +kernel
theorem dX7_costs_61 : decode cX7_costs 61 = .ok (.iload_n 3, 1) := by decide +kernel
theorem dX7_costs_62 : decode cX7_costs 62 = .ok (.iload 4, 2) := by decide +kernel
theorem dX7_costs_64 : decode cX7_costs 64 = .ok (.iload 5, 2) := by decide +kernel
theorem dX7_costs_66 : decode cX7_costs 66 = .ok (.invokevirtual 193, 3) := by decide +kernel
theorem dX7_costs_69 : decode cX7_costs 69 = .ok (.iload_n 2, 1) := by decide +kernel
theorem dX7_costs_70 : decode cX7_costs 70 = .ok (.bipush (-2), 2) := by decide +kernel
theorem dX7_costs_72 : decode cX7_costs 72 = .ok (.if_icmp .eq 10, 3) := by decide +kernel
theorem dX7_costs_75 : decode cX7_costs 75 = .ok (.iload 6, 2) := by decide +kernel
theorem dX7_costs_77 : decode cX7_costs 77 = .ok (.bipush (-2), 2) := by decide +kernel
theorem dX7_costs_79 : decode cX7_costs 79 = .ok (.if_icmp .ne 8, 3) := by decide +kernel
theorem dX7_costs_82 : decode cX7_costs 82 = .ok (.bipush (-2), 2) := by decide +kernel
theorem dX7_costs_84 : decode cX7_costs 84 = .ok (.goto 7, 3) := by decide +kernel
theorem dX7_costs_87 : decode cX7_costs 87 = .ok (.iload_n 2, 1) := by decide +kernel
theorem dX7_costs_88 : decode cX7_costs 88 = .ok (.iload 6, 2) := by decide +kernel
theorem dX7_costs_90 : decode cX7_costs 90 = .ok (.isub, 1) := by decide +kernel
theorem dX7_costs_91 : decode cX7_costs 91 = .ok (.ireturn, 1) := by decide +kernel
set_option maxRecDepth 20000 in
theorem ggX7_bars_X7_isCell : GoodIn wsX7_bars wsX7_isCell := goodIn_r _ [7, 8, 9, 10, 11, 6, 12, 66, 67, 68, 69, 70, 71, 72, 73, 74, 75, 76, 77, 78, 79, 80, 81, 82, 83, 84, 85, 86, 87, 88, 89, 90, 91, 92, 93, 94, 95, 96, 97, 98, 99, 100] (by decide +kernel) (by decide +kernel)
set_option maxRecDepth 20000 in
theorem gX7_bars_X7_isCell : GoodIn wsX7_bars (wsV RX7 96 RX7 yX7_isCell wsX7_isCell) := goodIn_app (goodIn_of _ (by decide +kernel)) ggX7_bars_X7_isCell
set_option maxRecDepth 20000 in
theorem ggX7_bars_X7_cell : GoodIn wsX7_bars wsX7_cell := goodIn_r _ [15] (by decide +kernel) (by decide +kernel)
set_option maxRecDepth 20000 in
theorem gX7_bars_X7_cell : GoodIn wsX7_bars (va_wsS RX7 170 yX7_cell wsX7_cell) := goodIn_app (goodIn_of _ (by decide +kernel)) ggX7_bars_X7_cell
set_option maxRecDepth 20000 in
theorem ggX7_bars_X7_leastInk : GoodIn wsX7_bars wsX7_leastInk := goodIn_r _ [19, 20, 21, 22, 23, 24, 6, 25, 26, 27, 8, 9, 28, 29, 30, 31, 32, 33, 2, 13, 14, 15, 34, 35, 36, 37, 38, 39, 40, 41, 42, 43, 44, 45, 46, 47, 48, 49, 50, 51, 52, 53, 54, 55, 56, 57, 58, 59, 60, 61, 62, 63, 64, 65, 66, 67, 68, 69, 70, 71, 72, 73, 74, 75, 76, 77, 78, 79, 80, 81, 82, 83, 84, 85, 86, 87, 88, 89, 90, 91, 92, 93, 94, 95, 96, 97, 98, 99, 100] (by decide +kernel) (by decide +kernel)
set_option maxRecDepth 20000 in
theorem gX7_bars_X7_leastInk : GoodIn wsX7_bars (wsV RX7 261 RX7 yX7_leastInk wsX7_leastInk) := goodIn_app (goodIn_of _ (by decide +kernel)) ggX7_bars_X7_leastInk
theorem dX7_bars_0 : decode cX7_bars 0 = .ok (.aload_n 0, 1) := by decide +kernel
theorem dX7_bars_1 : decode cX7_bars 1 = .ok (.iconst 0, 1) := by decide +kernel
theorem dX7_bars_2 : decode cX7_bars 2 = .ok (.putfield 1, 3) := by decide +kernel
theorem dX7_bars_5 : decode cX7_bars 5 = .ok (.aload_n 0, 1) := by decide +kernel
theorem dX7_bars_6 : decode cX7_bars 6 = .ok (.iload_n 1, 1) := by decide +kernel
theorem dX7_bars_7 : decode cX7_bars 7 = .ok (.iload_n 2, 1) := by decide +kernel
theorem dX7_bars_8 : decode cX7_bars 8 = .ok (.invokevirtual 96, 3) := by decide +kernel
theorem dX7_bars_11 : decode cX7_bars 11 = .ok (.ifCond .eq 16, 3) := by decide +kernel
theorem dX7_bars_14 : decode cX7_bars 14 = .ok (.aload_n 0, 1) := by decide +kernel
theorem dX7_bars_15 : decode cX7_bars 15 = .ok (.getfield 23, 3) := by decide +kernel
theorem dX7_bars_18 : decode cX7_bars 18 = .ok (.iload_n 1, 1) := by decide +kernel
theorem dX7_bars_19 : decode cX7_bars 19 = .ok (.iload_n 2, 1) := by decide +kernel
theorem dX7_bars_20 : decode cX7_bars 20 = .ok (.invokestatic 170, 3) := by decide +kernel
theorem dX7_bars_23 : decode cX7_bars 23 = .ok (.baload, 1) := by decide +kernel
theorem dX7_bars_24 : decode cX7_bars 24 = .ok (.ifCond .ne 5, 3) := by decide +kernel
theorem dX7_bars_27 : decode cX7_bars 27 = .ok (.iconst (-1), 1) := by decide +kernel
theorem dX7_bars_28 : decode cX7_bars 28 = .ok (.ireturn, 1) := by decide +kernel
theorem dX7_bars_29 : decode cX7_bars 29 = .ok (.aload_n 0, 1) := by decide +kernel
theorem dX7_bars_30 : decode cX7_bars 30 = .ok (.invokevirtual 261, 3) := by decide +kernel
theorem dX7_bars_33 : decode cX7_bars 33 = .ok (.istore_n 3, 1) := by decide +kernel
theorem dX7_bars_34 : decode cX7_bars 34 = .ok (.iload_n 3, 1) := by decide +kernel
theorem dX7_bars_35 : decode cX7_bars 35 = .ok (.bipush (-2), 2) := by decide +kernel
theorem dX7_bars_37 : decode cX7_bars 37 = .ok (.if_icmp .ne 6, 3) := by decide +kernel
theorem dX7_bars_40 : decode cX7_bars 40 = .ok (.bipush (-2), 2) := by decide +kernel
theorem dX7_bars_42 : decode cX7_bars 42 = .ok (.ireturn, 1) := by decide +kernel
theorem dX7_bars_43 : decode cX7_bars 43 = .ok (.aload_n 0, 1) := by decide +kernel
theorem dX7_bars_44 : decode cX7_bars 44 = .ok (.getfield 23, 3) := by decide +kernel
theorem dX7_bars_47 : decode cX7_bars 47 = .ok (.iload_n 1, 1) := by decide +kernel
theorem dX7_bars_48 : decode cX7_bars 48 = .ok (.iload_n 2, 1) := by decide +kernel
theorem dX7_bars_49 : decode cX7_bars 49 = .ok (.invokestatic 170, 3) := by decide +kernel
theorem dX7_bars_52 : decode cX7_bars 52 = .ok (.iconst 0, 1) := by decide +kernel
theorem dX7_bars_53 : decode cX7_bars 53 = .ok (.bastore, 1) := by decide +kernel
theorem dX7_bars_54 : decode cX7_bars 54 = .ok (.aload_n 0, 1) := by decide +kernel
theorem dX7_bars_55 : decode cX7_bars 55 = .ok (.invokevirtual 261, 3) := by decide +kernel
theorem dX7_bars_58 : decode cX7_bars 58 = .ok (.istore 4, 2) := by decide +kernel
theorem dX7_bars_60 : decode cX7_bars 60 = .ok (.aload_n 0, 1) := by decide +kernel
theorem dX7_bars_61 : decode cX7_bars 61 = .ok (.getfield 23, 3) := by decide +kernel
theorem dX7_bars_64 : decode cX7_bars 64 = .ok (.iload_n 1, 1) := by decide +kernel
theorem dX7_bars_65 : decode cX7_bars 65 = .ok (.iload_n 2, 1) := by decide +kernel
theorem dX7_bars_66 : decode cX7_bars 66 = .ok (.invokestatic 170, 3) := by decide +kernel
theorem dX7_bars_69 : decode cX7_bars 69 = .ok (.iconst 1, 1) := by decide +kernel
theorem dX7_bars_70 : decode cX7_bars 70 = .ok (.bastore, 1) := by decide +kernel
theorem dX7_bars_71 : decode cX7_bars 71 = .ok (.iload_n 3, 1) := by decide +kernel
theorem dX7_bars_72 : decode cX7_bars 72 = .ok (.iload 4, 2) := by decide +kernel
theorem dX7_bars_74 : decode cX7_bars 74 = .ok (.isub, 1) := by decide +kernel
theorem dX7_bars_75 : decode cX7_bars 75 = .ok (.ireturn, 1) := by decide +kernel
theorem dX7_isBefore_0 : decode cX7_isBefore 0 = .ok (.iload_n 1, 1) := by decide +kernel
theorem dX7_isBefore_1 : decode cX7_isBefore 1 = .ok (.aload_n 0, 1) := by decide +kernel
theorem dX7_isBefore_2 : decode cX7_isBefore 2 = .ok (.getfield 58, 3) := by decide +kernel
theorem dX7_isBefore_5 : decode cX7_isBefore 5 = .ok (.iload_n 3, 1) := by decide +kernel
theorem dX7_isBefore_6 : decode cX7_isBefore 6 = .ok (.iaload, 1) := by decide +kernel
theorem dX7_isBefore_7 : decode cX7_isBefore 7 = .ok (.if_icmp .eq 19, 3) := by decide +kernel
theorem dX7_isBefore_10 : decode cX7_isBefore 10 = .ok (.iload_n 1, 1) := by decide +kernel
theorem dX7_isBefore_11 : decode cX7_isBefore 11 = .ok (.aload_n 0, 1) := by decide +kernel
theorem dX7_isBefore_12 : decode cX7_isBefore 12 = .ok (.getfield 58, 3) := by decide +kernel
theorem dX7_isBefore_15 : decode cX7_isBefore 15 = .ok (.iload_n 3, 1) := by decide +kernel
theorem dX7_isBefore_16 : decode cX7_isBefore 16 = .ok (.iaload, 1) := by decide +kernel
theorem dX7_isBefore_17 : decode cX7_isBefore 17 = .ok (.if_icmp .ge 7, 3) := by decide +kernel
theorem dX7_isBefore_20 : decode cX7_isBefore 20 = .ok (.iconst 1, 1) := by decide +kernel
theorem dX7_isBefore_21 : decode cX7_isBefore 21 = .ok (.goto 4, 3) := by decide +kernel
theorem dX7_isBefore_24 : decode cX7_isBefore 24 = .ok (.iconst 0, 1) := by decide +kernel
theorem dX7_isBefore_25 : decode cX7_isBefore 25 = .ok (.ireturn, 1) := by decide +kernel
theorem dX7_isBefore_26 : decode cX7_isBefore 26 = .ok (.aload_n 0, 1) := by decide +kernel
theorem dX7_isBefore_27 : decode cX7_isBefore 27 = .ok (.getfield 61, 3) := by decide +kernel
theorem dX7_isBefore_30 : decode cX7_isBefore 30 = .ok (.iload_n 2, 1) := by decide +kernel
theorem dX7_isBefore_31 : decode cX7_isBefore 31 = .ok (.iaload, 1) := by decide +kernel
theorem dX7_isBefore_32 : decode cX7_isBefore 32 = .ok (.aload_n 0, 1) := by decide +kernel
theorem dX7_isBefore_33 : decode cX7_isBefore 33 = .ok (.getfield 61, 3) := by decide +kernel
theorem dX7_isBefore_36 : decode cX7_isBefore 36 = .ok (.iload_n 3, 1) := by decide +kernel
theorem dX7_isBefore_37 : decode cX7_isBefore 37 = .ok (.iaload, 1) := by decide +kernel
theorem dX7_isBefore_38 : decode cX7_isBefore 38 = .ok (.if_icmp .eq 26, 3) := by decide +kernel
theorem dX7_isBefore_41 : decode cX7_isBefore 41 = .ok (.aload_n 0, 1) := by decide +kernel
theorem dX7_isBefore_42 : decode cX7_isBefore 42 = .ok (.getfield 61, 3) := by decide +kernel
theorem dX7_isBefore_45 : decode cX7_isBefore 45 = .ok (.iload_n 2, 1) := by decide +kernel
theorem dX7_isBefore_46 : decode cX7_isBefore 46 = .ok (.iaload, 1) := by decide +kernel
theorem dX7_isBefore_47 : decode cX7_isBefore 47 = .ok (.aload_n 0, 1) := by decide +kernel
theorem dX7_isBefore_48 : decode cX7_isBefore 48 = .ok (.getfield 61, 3) := by decide +kernel
theorem dX7_isBefore_51 : decode cX7_isBefore 51 = .ok (.iload_n 3, 1) := by decide +kernel
theorem dX7_isBefore_52 : decode cX7_isBefore 52 = .ok (.iaload, 1) := by decide +kernel
theorem dX7_isBefore_53 : decode cX7_isBefore 53 = .ok (.if_icmp .ge 7, 3) := by decide +kernel
theorem dX7_isBefore_56 : decode cX7_isBefore 56 = .ok (.iconst 1, 1) := by decide +kernel
theorem dX7_isBefore_57 : decode cX7_isBefore 57 = .ok (.goto 27, 3) := by decide +kernel
theorem dX7_isBefore_60 : decode cX7_isBefore 60 = .ok (.iconst 0, 1) := by decide +kernel
theorem dX7_isBefore_61 : decode cX7_isBefore 61 = .ok (.goto 23, 3) := by decide +kernel
theorem dX7_isBefore_64 : decode cX7_isBefore 64 = .ok (.aload_n 0, 1) := by decide +kernel
theorem dX7_isBefore_65 : decode cX7_isBefore 65 = .ok (.getfield 64, 3) := by decide +kernel
theorem dX7_isBefore_68 : decode cX7_isBefore 68 = .ok (.iload_n 2, 1) := by decide +kernel
theorem dX7_isBefore_69 : decode cX7_isBefore 69 = .ok (.iaload, 1) := by decide +kernel
theorem dX7_isBefore_70 : decode cX7_isBefore 70 = .ok (.aload_n 0, 1) := by decide +kernel
theorem dX7_isBefore_71 : decode cX7_isBefore 71 = .ok (.getfield 64, 3) := by decide +kernel
theorem dX7_isBefore_74 : decode cX7_isBefore 74 = .ok (.iload_n 3, 1) := by decide +kernel
theorem dX7_isBefore_75 : decode cX7_isBefore 75 = .ok (.iaload, 1) := by decide +kernel
theorem dX7_isBefore_76 : decode cX7_isBefore 76 = .ok (.if_icmp .ge 7, 3) := by decide +kernel
theorem dX7_isBefore_79 : decode cX7_isBefore 79 = .ok (.iconst 1, 1) := by decide +kernel
theorem dX7_isBefore_80 : decode cX7_isBefore 80 = .ok (.goto 4, 3) := by decide +kernel
theorem dX7_isBefore_83 : decode cX7_isBefore 83 = .ok (.iconst 0, 1) := by decide +kernel
theorem dX7_isBefore_84 : decode cX7_isBefore 84 = .ok (.ireturn, 1) := by decide +kernel
set_option maxRecDepth 20000 in
theorem ggX7_laysMore_X7_cell : GoodIn wsX7_laysMore wsX7_cell := goodIn_r _ [11] (by decide +kernel) (by decide +kernel)
set_option maxRecDepth 20000 in
theorem gX7_laysMore_X7_cell : GoodIn wsX7_laysMore (va_wsS RX7 170 yX7_cell wsX7_cell) := goodIn_app (goodIn_of _ (by decide +kernel)) ggX7_laysMore_X7_cell
set_option maxRecDepth 20000 in
theorem ggX7_laysMore_X7_target : GoodIn wsX7_laysMore wsX7_target := goodIn_r _ [15, 16, 17, 18, 10, 19, 20, 21, 22, 23, 24, 8, 9, 11, 38, 39, 40, 41, 42, 43, 44, 45, 46, 47, 48, 49, 50, 51, 52, 53, 54, 55, 56, 57, 58, 59, 60, 61, 62, 63, 64, 65, 66, 67, 68, 69, 70, 71, 72] (by decide +kernel) (by decide +kernel)
set_option maxRecDepth 20000 in
theorem gX7_laysMore_X7_target : GoodIn wsX7_laysMore (wsV RX7 207 RX7 yX7_target wsX7_target) := goodIn_app (goodIn_of _ (by decide +kernel)) ggX7_laysMore_X7_target
set_option maxRecDepth 20000 in
theorem ggX7_laysMore_X7_lengthOf : GoodIn wsX7_laysMore wsX7_lengthOf := goodIn_r _ [28, 29, 38, 39, 40, 41, 42, 43, 44, 45, 46, 47, 48, 49, 50, 51, 52, 53, 54, 55, 56, 57, 58, 59, 60, 61, 62, 63, 64, 65, 66, 67, 68, 69, 70, 71, 72] (by decide +kernel) (by decide +kernel)
set_option maxRecDepth 20000 in
theorem gX7_laysMore_X7_lengthOf : GoodIn wsX7_laysMore (wsV RX7 238 RX7 yX7_lengthOf wsX7_lengthOf) := goodIn_app (goodIn_of _ (by decide +kernel)) ggX7_laysMore_X7_lengthOf
set_option maxRecDepth 20000 in
theorem ggX7_laysMore_X7_isFree : GoodIn wsX7_laysMore wsX7_isFree := goodIn_r _ [33, 6, 12, 13, 14, 10, 15, 16, 17, 18, 19, 20, 21, 22, 23, 24, 8, 9, 11, 38, 39, 40, 41, 42, 43, 44, 45, 46, 47, 48, 49, 50, 51, 52, 53, 54, 55, 56, 57, 58, 59, 60, 61, 62, 63, 64, 65, 66, 67, 68, 69, 70, 71, 72] (by decide +kernel) (by decide +kernel)
set_option maxRecDepth 20000 in
theorem gX7_laysMore_X7_isFree : GoodIn wsX7_laysMore (wsV RX7 210 RX7 yX7_isFree wsX7_isFree) := goodIn_app (goodIn_of _ (by decide +kernel)) ggX7_laysMore_X7_isFree
set_option maxRecDepth 20000 in
theorem ggX7_laysMore_X7_isBefore : GoodIn wsX7_laysMore wsX7_isBefore := goodIn_r _ [37, 1, 4, 5, 38, 39, 40, 41, 42, 43, 44, 45, 46, 47, 48, 49, 50, 51, 52, 53, 54, 55, 56, 57, 58, 59, 60, 61, 62, 63, 64, 65, 66, 67, 68, 69, 70, 71, 72] (by decide +kernel) (by decide +kernel)
set_option maxRecDepth 20000 in
theorem gX7_laysMore_X7_isBefore : GoodIn wsX7_laysMore (wsV RX7 315 RX7 yX7_isBefore wsX7_isBefore) := goodIn_app (goodIn_of _ (by decide +kernel)) ggX7_laysMore_X7_isBefore
theorem dX7_laysMore_0 : decode cX7_laysMore 0 = .ok (.iload_n 1, 1) := by decide +kernel
theorem dX7_laysMore_1 : decode cX7_laysMore 1 = .ok (.iload_n 2, 1) := by decide +kernel
theorem dX7_laysMore_2 : decode cX7_laysMore 2 = .ok (.invokestatic 170, 3) := by decide +kernel
theorem dX7_laysMore_5 : decode cX7_laysMore 5 = .ok (.istore 4, 2) := by decide +kernel
theorem dX7_laysMore_7 : decode cX7_laysMore 7 = .ok (.aload_n 0, 1) := by decide +kernel
theorem dX7_laysMore_8 : decode cX7_laysMore 8 = .ok (.getfield 58, 3) := by decide +kernel
theorem dX7_laysMore_11 : decode cX7_laysMore 11 = .ok (.iload 4, 2) := by decide +kernel
theorem dX7_laysMore_13 : decode cX7_laysMore 13 = .ok (.ldc 237, 2) := by decide +kernel
theorem dX7_laysMore_15 : decode cX7_laysMore 15 = .ok (.iastore, 1) := by decide +kernel
theorem dX7_laysMore_16 : decode cX7_laysMore 16 = .ok (.aload_n 0, 1) := by decide +kernel
theorem dX7_laysMore_17 : decode cX7_laysMore 17 = .ok (.getfield 40, 3) := by decide +kernel
theorem dX7_laysMore_20 : decode cX7_laysMore 20 = .ok (.iload 4, 2) := by decide +kernel
theorem dX7_laysMore_22 : decode cX7_laysMore 22 = .ok (.iaload, 1) := by decide +kernel
theorem dX7_laysMore_23 : decode cX7_laysMore 23 = .ok (.ifCond .lt 60, 3) := by decide +kernel
theorem dX7_laysMore_26 : decode cX7_laysMore 26 = .ok (.aload_n 0, 1) := by decide +kernel
theorem dX7_laysMore_27 : decode cX7_laysMore 27 = .ok (.getfield 58, 3) := by decide +kernel
theorem dX7_laysMore_30 : decode cX7_laysMore 30 = .ok (.iload 4, 2) := by decide +kernel
theorem dX7_laysMore_32 : decode cX7_laysMore 32 = .ok (.aload_n 0, 1) := by decide +kernel
theorem dX7_laysMore_33 : decode cX7_laysMore 33 = .ok (.getfield 58, 3) := by decide +kernel
theorem dX7_laysMore_36 : decode cX7_laysMore 36 = .ok (.aload_n 0, 1) := by decide +kernel
theorem dX7_laysMore_37 : decode cX7_laysMore 37 = .ok (.iload_n 1, 1) := by decide +kernel
theorem dX7_laysMore_38 : decode cX7_laysMore 38 = .ok (.iload_n 2, 1) := by decide +kernel
theorem dX7_laysMore_39 : decode cX7_laysMore 39 = .ok (.aload_n 0, 1) := by decide +kernel
theorem dX7_laysMore_40 : decode cX7_laysMore 40 = .ok (.getfield 40, 3) := by decide +kernel
theorem dX7_laysMore_43 : decode cX7_laysMore 43 = .ok (.iload 4, 2) := by decide +kernel
theorem dX7_laysMore_45 : decode cX7_laysMore 45 = .ok (.iaload, 1) := by decide +kernel
theorem dX7_laysMore_46 : decode cX7_laysMore 46 = .ok (.invokevirtual 207, 3) := by decide +kernel
theorem dX7_laysMore_49 : decode cX7_laysMore 49 = .ok (.iaload, 1) := by decide +kernel
theorem dX7_laysMore_50 : decode cX7_laysMore 50 = .ok (.aload_n 0, 1) := by decide +kernel
theorem dX7_laysMore_51 : decode cX7_laysMore 51 = .ok (.iload_n 1, 1) := by decide +kernel
theorem dX7_laysMore_52 : decode cX7_laysMore 52 = .ok (.aload_n 0, 1) := by decide +kernel
theorem dX7_laysMore_53 : decode cX7_laysMore 53 = .ok (.getfield 40, 3) := by decide +kernel
theorem dX7_laysMore_56 : decode cX7_laysMore 56 = .ok (.iload 4, 2) := by decide +kernel
theorem dX7_laysMore_58 : decode cX7_laysMore 58 = .ok (.iaload, 1) := by decide +kernel
theorem dX7_laysMore_59 : decode cX7_laysMore 59 = .ok (.invokevirtual 238, 3) := by decide +kernel
theorem dX7_laysMore_62 : decode cX7_laysMore 62 = .ok (.iload_n 3, 1) := by decide +kernel
theorem dX7_laysMore_63 : decode cX7_laysMore 63 = .ok (.imul, 1) := by decide +kernel
theorem dX7_laysMore_64 : decode cX7_laysMore 64 = .ok (.iadd, 1) := by decide +kernel
theorem dX7_laysMore_65 : decode cX7_laysMore 65 = .ok (.iastore, 1) := by decide +kernel
theorem dX7_laysMore_66 : decode cX7_laysMore 66 = .ok (.aload_n 0, 1) := by decide +kernel
theorem dX7_laysMore_67 : decode cX7_laysMore 67 = .ok (.getfield 61, 3) := by decide +kernel
theorem dX7_laysMore_70 : decode cX7_laysMore 70 = .ok (.iload 4, 2) := by decide +kernel
theorem dX7_laysMore_72 : decode cX7_laysMore 72 = .ok (.iload_n 1, 1) := by decide +kernel
theorem dX7_laysMore_73 : decode cX7_laysMore 73 = .ok (.iastore, 1) := by decide +kernel
theorem dX7_laysMore_74 : decode cX7_laysMore 74 = .ok (.aload_n 0, 1) := by decide +kernel
theorem dX7_laysMore_75 : decode cX7_laysMore 75 = .ok (.getfield 64, 3) := by decide +kernel
theorem dX7_laysMore_78 : decode cX7_laysMore 78 = .ok (.iload 4, 2) := by decide +kernel
theorem dX7_laysMore_80 : decode cX7_laysMore 80 = .ok (.iload_n 2, 1) := by decide +kernel
theorem dX7_laysMore_81 : decode cX7_laysMore 81 = .ok (.iastore, 1) := by decide +kernel
theorem dX7_laysMore_82 : decode cX7_laysMore 82 = .ok (.return_, 1) := by decide +kernel
theorem dX7_laysMore_83 : decode cX7_laysMore 83 = .ok (.aload_n 0, 1) := by decide +kernel
theorem dX7_laysMore_84 : decode cX7_laysMore 84 = .ok (.getfield 23, 3) := by decide +kernel
theorem dX7_laysMore_87 : decode cX7_laysMore 87 = .ok (.iload 4, 2) := by decide +kernel
theorem dX7_laysMore_89 : decode cX7_laysMore 89 = .ok (.baload, 1) := by decide +kernel
theorem dX7_laysMore_90 : decode cX7_laysMore 90 = .ok (.ifCond .eq 4, 3) := by decide +kernel
theorem dX7_laysMore_93 : decode cX7_laysMore 93 = .ok (.return_, 1) := by decide +kernel
theorem dX7_laysMore_94 : decode cX7_laysMore 94 = .ok (.iconst 0, 1) := by decide +kernel
theorem dX7_laysMore_95 : decode cX7_laysMore 95 = .ok (.istore 5, 2) := by decide +kernel
theorem dX7_laysMore_97 : decode cX7_laysMore 97 = .ok (.iload 5, 2) := by decide +kernel
theorem dX7_laysMore_99 : decode cX7_laysMore 99 = .ok (.iconst 2, 1) := by decide +kernel
theorem dX7_laysMore_100 : decode cX7_laysMore 100 = .ok (.if_icmp .gt 128, 3) := by decide +kernel
theorem dX7_laysMore_103 : decode cX7_laysMore 103 = .ok (.aload_n 0, 1) := by decide +kernel
theorem dX7_laysMore_104 : decode cX7_laysMore 104 = .ok (.iload_n 1, 1) := by decide +kernel
theorem dX7_laysMore_105 : decode cX7_laysMore 105 = .ok (.iload_n 2, 1) := by decide +kernel
theorem dX7_laysMore_106 : decode cX7_laysMore 106 = .ok (.iload 5, 2) := by decide +kernel
theorem dX7_laysMore_108 : decode cX7_laysMore 108 = .ok (.invokevirtual 207, 3) := by decide +kernel
theorem dX7_laysMore_111 : decode cX7_laysMore 111 = .ok (.istore 6, 2) := by decide +kernel
theorem dX7_laysMore_113 : decode cX7_laysMore 113 = .ok (.aload_n 0, 1) := by decide +kernel
theorem dX7_laysMore_114 : decode cX7_laysMore 114 = .ok (.iload_n 1, 1) := by decide +kernel
theorem dX7_laysMore_115 : decode cX7_laysMore 115 = .ok (.iload_n 2, 1) := by decide +kernel
theorem dX7_laysMore_116 : decode cX7_laysMore 116 = .ok (.iload 5, 2) := by decide +kernel
theorem dX7_laysMore_118 : decode cX7_laysMore 118 = .ok (.invokevirtual 210, 3) := by decide +kernel
theorem dX7_laysMore_121 : decode cX7_laysMore 121 = .ok (.ifCond .eq 101, 3) := by decide +kernel
theorem dX7_laysMore_124 : decode cX7_laysMore 124 = .ok (.aload_n 0, 1) := by decide +kernel
theorem dX7_laysMore_125 : decode cX7_laysMore 125 = .ok (.getfield 58, 3) := by decide +kernel
theorem dX7_laysMore_128 : decode cX7_laysMore 128 = .ok (.iload 6, 2) := by decide +kernel
theorem dX7_laysMore_130 : decode cX7_laysMore 130 = .ok (.iaload, 1) := by decide +kernel
theorem dX7_laysMore_131 : decode cX7_laysMore 131 = .ok (.ldc 237, 2) := by decide +kernel
theorem dX7_laysMore_133 : decode cX7_laysMore 133 = .ok (.if_icmp .ge 89, 3) := by decide +kernel
theorem dX7_laysMore_136 : decode cX7_laysMore 136 = .ok (.aload_n 0, 1) := by decide +kernel
theorem dX7_laysMore_137 : decode cX7_laysMore 137 = .ok (.getfield 58, 3) := by decide +kernel
theorem dX7_laysMore_140 : decode cX7_laysMore 140 = .ok (.iload 6, 2) := by decide +kernel
theorem dX7_laysMore_142 : decode cX7_laysMore 142 = .ok (.iaload, 1) := by decide +kernel
theorem dX7_laysMore_143 : decode cX7_laysMore 143 = .ok (.aload_n 0, 1) := by decide +kernel
theorem dX7_laysMore_144 : decode cX7_laysMore 144 = .ok (.iload_n 1, 1) := by decide +kernel
theorem dX7_laysMore_145 : decode cX7_laysMore 145 = .ok (.iload 5, 2) := by decide +kernel
theorem dX7_laysMore_147 : decode cX7_laysMore 147 = .ok (.invokevirtual 238, 3) := by decide +kernel
theorem dX7_laysMore_150 : decode cX7_laysMore 150 = .ok (.aload_n 0, 1) := by decide +kernel
theorem dX7_laysMore_151 : decode cX7_laysMore 151 = .ok (.getfield 74, 3) := by decide +kernel
theorem dX7_laysMore_154 : decode cX7_laysMore 154 = .ok (.iload_n 3, 1) := by decide +kernel
theorem dX7_laysMore_155 : decode cX7_laysMore 155 = .ok (.iadd, 1) := by decide +kernel
theorem dX7_laysMore_156 : decode cX7_laysMore 156 = .ok (.imul, 1) := by decide +kernel
theorem dX7_laysMore_157 : decode cX7_laysMore 157 = .ok (.iadd, 1) := by decide +kernel
theorem dX7_laysMore_158 : decode cX7_laysMore 158 = .ok (.istore 7, 2) := by decide +kernel
theorem dX7_laysMore_160 : decode cX7_laysMore 160 = .ok (.aload_n 0, 1) := by decide +kernel
theorem dX7_laysMore_161 : decode cX7_laysMore 161 = .ok (.getfield 58, 3) := by decide +kernel
theorem dX7_laysMore_164 : decode cX7_laysMore 164 = .ok (.iload 4, 2) := by decide +kernel
theorem dX7_laysMore_166 : decode cX7_laysMore 166 = .ok (.iaload, 1) := by decide +kernel
theorem dX7_laysMore_167 : decode cX7_laysMore 167 = .ok (.ldc 237, 2) := by decide +kernel
theorem dX7_laysMore_169 : decode cX7_laysMore 169 = .ok (.if_icmp .eq 16, 3) := by decide +kernel
theorem dX7_laysMore_172 : decode cX7_laysMore 172 = .ok (.aload_n 0, 1) := by decide +kernel
theorem dX7_laysMore_173 : decode cX7_laysMore 173 = .ok (.iload 7, 2) := by decide +kernel
theorem dX7_laysMore_175 : decode cX7_laysMore 175 = .ok (.iload 6, 2) := by decide +kernel
theorem dX7_laysMore_177 : decode cX7_laysMore 177 = .ok (.iload 4, 2) := by decide +kernel
theorem dX7_laysMore_179 : decode cX7_laysMore 179 = .ok (.invokevirtual 315, 3) := by decide +kernel
theorem dX7_laysMore_182 : decode cX7_laysMore 182 = .ok (.ifCond .eq 40, 3) := by decide +kernel
theorem dX7_laysMore_185 : decode cX7_laysMore 185 = .ok (.aload_n 0, 1) := by decide +kernel
theorem dX7_laysMore_186 : decode cX7_laysMore 186 = .ok (.getfield 58, 3) := by decide +kernel
theorem dX7_laysMore_189 : decode cX7_laysMore 189 = .ok (.iload 4, 2) := by decide +kernel
theorem dX7_laysMore_191 : decode cX7_laysMore 191 = .ok (.iload 7, 2) := by decide +kernel
theorem dX7_laysMore_193 : decode cX7_laysMore 193 = .ok (.iastore, 1) := by decide +kernel
theorem dX7_laysMore_194 : decode cX7_laysMore 194 = .ok (.aload_n 0, 1) := by decide +kernel
theorem dX7_laysMore_195 : decode cX7_laysMore 195 = .ok (.getfield 61, 3) := by decide +kernel
theorem dX7_laysMore_198 : decode cX7_laysMore 198 = .ok (.iload 4, 2) := by decide +kernel
theorem dX7_laysMore_200 : decode cX7_laysMore 200 = .ok (.aload_n 0, 1) := by decide +kernel
theorem dX7_laysMore_201 : decode cX7_laysMore 201 = .ok (.getfield 61, 3) := by decide +kernel
theorem dX7_laysMore_204 : decode cX7_laysMore 204 = .ok (.iload 6, 2) := by decide +kernel
theorem dX7_laysMore_206 : decode cX7_laysMore 206 = .ok (.iaload, 1) := by decide +kernel
theorem dX7_laysMore_207 : decode cX7_laysMore 207 = .ok (.iastore, 1) := by decide +kernel
theorem dX7_laysMore_208 : decode cX7_laysMore 208 = .ok (.aload_n 0, 1) := by decide +kernel
theorem dX7_laysMore_209 : decode cX7_laysMore 209 = .ok (.getfield 64, 3) := by decide +kernel
theorem dX7_laysMore_212 : decode cX7_laysMore 212 = .ok (.iload 4, 2) := by decide +kernel
theorem dX7_laysMore_214 : decode cX7_laysMore 214 = .ok (.aload_n 0, 1) := by decide +kernel
theorem dX7_laysMore_215 : decode cX7_laysMore 215 = .ok (.getfield 64, 3) := by decide +kernel
theorem dX7_laysMore_218 : decode cX7_laysMore 218 = .ok (.iload 6, 2) := by decide +kernel
theorem dX7_laysMore_220 : decode cX7_laysMore 220 = .ok (.iaload, 1) := by decide +kernel
theorem dX7_laysMore_221 : decode cX7_laysMore 221 = .ok (.iastore, 1) := by decide +kernel
theorem dX7_laysMore_222 : decode cX7_laysMore 222 = .ok (.iinc 5 1, 3) := by decide +kernel
theorem dX7_laysMore_225 : decode cX7_laysMore 225 = .ok (.goto (-128), 3) := by decide +kernel
theorem dX7_laysMore_228 : decode cX7_laysMore 228 = .ok (.return_, 1) := by decide +kernel
set_option maxRecDepth 20000 in
theorem ggX7_more_X7_isCell : GoodIn wsX7_more wsX7_isCell := goodIn_r _ [12, 13, 6, 14, 15, 11, 16, 143, 144, 145, 146, 147, 148, 149, 150, 151, 152, 153, 154, 155, 156, 157, 158, 159, 160, 161, 162, 163, 164, 165, 166, 167, 168, 169, 170, 171, 172, 173, 174, 175, 176, 177] (by decide +kernel) (by decide +kernel)
set_option maxRecDepth 20000 in
theorem gX7_more_X7_isCell : GoodIn wsX7_more (wsV RX7 96 RX7 yX7_isCell wsX7_isCell) := goodIn_app (goodIn_of _ (by decide +kernel)) ggX7_more_X7_isCell
set_option maxRecDepth 20000 in
theorem ggX7_more_X7_cell : GoodIn wsX7_more wsX7_cell := goodIn_r _ [19] (by decide +kernel) (by decide +kernel)
set_option maxRecDepth 20000 in
theorem gX7_more_X7_cell : GoodIn wsX7_more (va_wsS RX7 170 yX7_cell wsX7_cell) := goodIn_app (goodIn_of _ (by decide +kernel)) ggX7_more_X7_cell
set_option maxRecDepth 20000 in
theorem ggX7_more_X7_within : GoodIn wsX7_more wsX7_within := goodIn_r _ [16] (by decide +kernel) (by decide +kernel)
set_option maxRecDepth 20000 in
theorem gX7_more_X7_within : GoodIn wsX7_more (va_wsS RX7 92 yX7_within wsX7_within) := goodIn_app (goodIn_of _ (by decide +kernel)) ggX7_more_X7_within
set_option maxRecDepth 20000 in
theorem ggX7_more_X7_lays : GoodIn wsX7_more wsX7_lays := goodIn_r _ [23, 24, 25, 26, 11, 27, 28, 29, 30, 31, 32, 33, 17, 18, 19, 34, 35, 36, 37, 13, 6, 38, 39, 40, 41, 2, 42, 43, 44, 45, 46, 47, 48, 49, 50, 51, 52, 53, 54, 55, 56, 57, 58, 59, 60, 61, 62, 63, 64, 65, 66, 67, 68, 69, 70, 71, 72, 73, 74, 75, 76, 77, 78, 79, 80, 81, 82, 83, 84, 85, 86, 87, 88, 89, 90, 91, 92, 93, 94, 95, 96, 97, 98, 7, 99, 100, 101, 102, 103, 104, 105, 106, 107, 108, 109, 110, 111, 112, 113, 114, 115, 116, 117, 118, 119, 120, 121, 122, 123, 124, 125, 126, 127, 128, 129, 130, 131, 132, 133, 134, 143, 144, 145, 146, 147, 148, 149, 150, 151, 152, 153, 154, 155, 156, 157, 158, 159, 160, 161, 162, 163, 164, 165, 166, 167, 168, 169, 170, 171, 172, 173, 174, 175, 176, 177] (by decide +kernel) (by decide +kernel)
set_option maxRecDepth 20000 in
theorem gX7_more_X7_lays : GoodIn wsX7_more (wsV RX7 285 RX7 yX7_lays wsX7_lays) := goodIn_app (goodIn_of _ (by decide +kernel)) ggX7_more_X7_lays
set_option maxRecDepth 20000 in
theorem ggX7_more_X7_laysMore : GoodIn wsX7_more wsX7_laysMore := goodIn_r _ [138, 3, 7, 28, 4, 5, 2, 121, 17, 18, 11, 19, 42, 43, 44, 45, 46, 47, 48, 49, 50, 51, 52, 53, 6, 122, 123, 124, 125, 126, 38, 39, 40, 41, 139, 140, 141, 142, 143, 144, 145, 146, 147, 148, 149, 150, 151, 152, 153, 154, 155, 156, 157, 158, 159, 160, 161, 162, 163, 164, 165, 166, 167, 168, 169, 170, 171, 172, 173, 174, 175, 176, 177] (by decide +kernel) (by decide +kernel)
set_option maxRecDepth 20000 in
theorem gX7_more_X7_laysMore : GoodIn wsX7_more (wsV RX7 318 RX7 yX7_laysMore wsX7_laysMore) := goodIn_app (goodIn_of _ (by decide +kernel)) ggX7_more_X7_laysMore
theorem dX7_more_0 : decode cX7_more 0 = .ok (.aload_n 0, 1) := by decide +kernel
theorem dX7_more_1 : decode cX7_more 1 = .ok (.iconst 0, 1) := by decide +kernel
theorem dX7_more_2 : decode cX7_more 2 = .ok (.putfield 1, 3) := by decide +kernel
theorem dX7_more_5 : decode cX7_more 5 = .ok (.aload_n 0, 1) := by decide +kernel
theorem dX7_more_6 : decode cX7_more 6 = .ok (.iload_n 1, 1) := by decide +kernel
theorem dX7_more_7 : decode cX7_more 7 = .ok (.iload_n 2, 1) := by decide +kernel
theorem dX7_more_8 : decode cX7_more 8 = .ok (.invokevirtual 96, 3) := by decide +kernel
theorem dX7_more_11 : decode cX7_more 11 = .ok (.ifCond .eq 36, 3) := by decide +kernel
theorem dX7_more_14 : decode cX7_more 14 = .ok (.aload_n 0, 1) := by decide +kernel
theorem dX7_more_15 : decode cX7_more 15 = .ok (.getfield 23, 3) := by decide +kernel
theorem dX7_more_18 : decode cX7_more 18 = .ok (.iload_n 1, 1) := by decide +kernel
theorem dX7_more_19 : decode cX7_more 19 = .ok (.iload_n 2, 1) := by decide +kernel
theorem dX7_more_20 : decode cX7_more 20 = .ok (.invokestatic 170, 3) := by decide +kernel
theorem dX7_more_23 : decode cX7_more 23 = .ok (.baload, 1) := by decide +kernel
theorem dX7_more_24 : decode cX7_more 24 = .ok (.ifCond .ne 23, 3) := by decide +kernel
theorem dX7_more_27 : decode cX7_more 27 = .ok (.iload_n 3, 1) := by decide +kernel
theorem dX7_more_28 : decode cX7_more 28 = .ok (.iconst 1, 1) := by decide +kernel
theorem dX7_more_29 : decode cX7_more 29 = .ok (.bipush 99, 2) := by decide +kernel
theorem dX7_more_31 : decode cX7_more 31 = .ok (.invokestatic 92, 3) := by decide +kernel
theorem dX7_more_34 : decode cX7_more 34 = .ok (.ifCond .eq 13, 3) := by decide +kernel
