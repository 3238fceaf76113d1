theorem dX0_init_0 : decode cX0_init 0 = .ok (.aload_n 0, 1) := by decide +kernel
theorem dX0_init_1 : decode cX0_init 1 = .ok (.invokespecial 3, 3) := by decide +kernel
theorem dX0_init_4 : decode cX0_init 4 = .ok (.aload_n 0, 1) := by decide +kernel
theorem dX0_init_5 : decode cX0_init 5 = .ok (.sipush 240, 3) := by decide +kernel
theorem dX0_init_8 : decode cX0_init 8 = .ok (.newarray .int, 2) := by decide +kernel
theorem dX0_init_10 : decode cX0_init 10 = .ok (.putfield 9, 3) := by decide +kernel
theorem dX0_init_13 : decode cX0_init 13 = .ok (.aload_n 0, 1) := by decide +kernel
theorem dX0_init_14 : decode cX0_init 14 = .ok (.sipush 240, 3) := by decide +kernel
theorem dX0_init_17 : decode cX0_init 17 = .ok (.newarray .int, 2) := by decide +kernel
theorem dX0_init_19 : decode cX0_init 19 = .ok (.putfield 15, 3) := by decide +kernel
theorem dX0_init_22 : decode cX0_init 22 = .ok (.aload_n 0, 1) := by decide +kernel
theorem dX0_init_23 : decode cX0_init 23 = .ok (.sipush 30720, 3) := by decide +kernel
theorem dX0_init_26 : decode cX0_init 26 = .ok (.newarray .int, 2) := by decide +kernel
theorem dX0_init_28 : decode cX0_init 28 = .ok (.putfield 18, 3) := by decide +kernel
theorem dX0_init_31 : decode cX0_init 31 = .ok (.aload_n 0, 1) := by decide +kernel
theorem dX0_init_32 : decode cX0_init 32 = .ok (.sipush 128, 3) := by decide +kernel
theorem dX0_init_35 : decode cX0_init 35 = .ok (.newarray .int, 2) := by decide +kernel
theorem dX0_init_37 : decode cX0_init 37 = .ok (.putfield 21, 3) := by decide +kernel
theorem dX0_init_40 : decode cX0_init 40 = .ok (.aload_n 0, 1) := by decide +kernel
theorem dX0_init_41 : decode cX0_init 41 = .ok (.sipush 128, 3) := by decide +kernel
theorem dX0_init_44 : decode cX0_init 44 = .ok (.newarray .int, 2) := by decide +kernel
theorem dX0_init_46 : decode cX0_init 46 = .ok (.putfield 24, 3) := by decide +kernel
theorem dX0_init_49 : decode cX0_init 49 = .ok (.aload_n 0, 1) := by decide +kernel
theorem dX0_init_50 : decode cX0_init 50 = .ok (.bipush 14, 2) := by decide +kernel
theorem dX0_init_52 : decode cX0_init 52 = .ok (.newarray .int, 2) := by decide +kernel
theorem dX0_init_54 : decode cX0_init 54 = .ok (.putfield 27, 3) := by decide +kernel
theorem dX0_init_57 : decode cX0_init 57 = .ok (.return_, 1) := by decide +kernel
set_option maxRecDepth 20000 in
theorem ggX0_fill_X0_notePlaces : GoodIn wsX0_fill wsX0_notePlaces := goodIn_r _ [11, 5, 12, 13, 14, 15, 16, 17, 18, 19, 20, 21, 108, 109, 110, 111, 112, 113, 114, 115, 116, 117, 118, 98, 99, 100, 101, 102, 103, 104, 105, 106, 107] (by decide +kernel) (by decide +kernel)
set_option maxRecDepth 20000 in
theorem gX0_fill_X0_notePlaces : GoodIn wsX0_fill (wsV RX0 30 RX0 yX0_notePlaces wsX0_notePlaces) := goodIn_app (goodIn_of _ (by decide +kernel)) ggX0_fill_X0_notePlaces
set_option maxRecDepth 20000 in
theorem ggX0_fill_X0_noteSteps : GoodIn wsX0_fill wsX0_noteSteps := goodIn_r _ [25, 26, 27, 28, 29, 30, 31, 32, 33, 34, 35, 36, 37, 38, 39, 40, 41, 42, 43, 44, 45, 46, 47, 48, 108, 109, 110, 111, 112, 113, 114, 115, 116, 117, 118, 98, 99, 100, 101, 102, 103, 104, 105, 106, 107] (by decide +kernel) (by decide +kernel)
set_option maxRecDepth 20000 in
theorem gX0_fill_X0_noteSteps : GoodIn wsX0_fill (wsV RX0 34 RX0 yX0_noteSteps wsX0_noteSteps) := goodIn_app (goodIn_of _ (by decide +kernel)) ggX0_fill_X0_noteSteps
set_option maxRecDepth 20000 in
theorem ggX0_fill_X6_cellOf : GoodIn wsX0_fill wsX6_cellOf := goodIn_r _ [21] (by decide +kernel) (by decide +kernel)
set_option maxRecDepth 20000 in
theorem gX0_fill_X6_cellOf_n46 : GoodIn wsX0_fill (wsX6_cellOf) := ggX0_fill_X6_cellOf
set_option maxRecDepth 20000 in
theorem ggX0_fill_X0_reachingFromOutside : GoodIn wsX0_fill wsX0_reachingFromOutside := goodIn_r _ [52, 1, 3, 19, 20, 21, 53, 54, 55, 31, 56, 57, 98, 99, 100, 101, 102, 103, 104, 105, 106, 107, 108, 109, 110, 111, 112, 113, 114, 115, 116, 117, 118] (by decide +kernel) (by decide +kernel)
set_option maxRecDepth 20000 in
theorem gX0_fill_X0_reachingFromOutside : GoodIn wsX0_fill (wsV RX0 54 RX0 yX0_reachingFromOutside wsX0_reachingFromOutside) := goodIn_app (goodIn_of _ (by decide +kernel)) ggX0_fill_X0_reachingFromOutside
set_option maxRecDepth 20000 in
theorem ggX0_fill_X0_fillCell : GoodIn wsX0_fill wsX0_fillCell := goodIn_r _ [61, 3, 62, 63, 19, 20, 21, 64, 65, 66, 67, 68, 69, 70, 71, 72, 10, 73, 74, 75, 76, 77, 78, 79, 80, 81, 5, 2, 1, 82, 83, 84, 85, 86, 87, 88, 89, 26, 27, 90, 91, 92, 93, 53, 54, 55, 31, 56, 57, 108, 109, 110, 111, 112, 113, 114, 115, 116, 117, 118, 98, 99, 100, 101, 102, 103, 104, 105, 106, 107] (by decide +kernel) (by decide +kernel)
set_option maxRecDepth 20000 in
theorem gX0_fill_X0_fillCell : GoodIn wsX0_fill (wsV RX0 58 RX0 yX0_fillCell wsX0_fillCell) := goodIn_app (goodIn_of _ (by decide +kernel)) ggX0_fill_X0_fillCell
set_option maxRecDepth 20000 in
theorem ggX0_fill_X0_reachingSource : GoodIn wsX0_fill wsX0_reachingSource := goodIn_r _ [97, 2, 3, 19, 20, 21, 98, 99, 100, 101, 102, 103, 104, 105, 106, 107, 108, 109, 110, 111, 112, 113, 114, 115, 116, 117, 118] (by decide +kernel) (by decide +kernel)
set_option maxRecDepth 20000 in
theorem gX0_fill_X0_reachingSource : GoodIn wsX0_fill (wsV RX0 62 RX0 yX0_reachingSource wsX0_reachingSource) := goodIn_app (goodIn_of _ (by decide +kernel)) ggX0_fill_X0_reachingSource
theorem dX0_fill_0 : decode cX0_fill 0 = .ok (.aload_n 0, 1) := by decide +kernel
theorem dX0_fill_1 : decode cX0_fill 1 = .ok (.aload_n 1, 1) := by decide +kernel
theorem dX0_fill_2 : decode cX0_fill 2 = .ok (.invokevirtual 30, 3) := by decide +kernel
theorem dX0_fill_5 : decode cX0_fill 5 = .ok (.aload_n 0, 1) := by decide +kernel
theorem dX0_fill_6 : decode cX0_fill 6 = .ok (.aload_n 1, 1) := by decide +kernel
theorem dX0_fill_7 : decode cX0_fill 7 = .ok (.invokevirtual 34, 3) := by decide +kernel
theorem dX0_fill_10 : decode cX0_fill 10 = .ok (.aload_n 1, 1) := by decide +kernel
theorem dX0_fill_11 : decode cX0_fill 11 = .ok (.getfield 37, 3) := by decide +kernel
theorem dX0_fill_14 : decode cX0_fill 14 = .ok (.istore_n 2, 1) := by decide +kernel
theorem dX0_fill_15 : decode cX0_fill 15 = .ok (.iload_n 2, 1) := by decide +kernel
theorem dX0_fill_16 : decode cX0_fill 16 = .ok (.iconst 1, 1) := by decide +kernel
theorem dX0_fill_17 : decode cX0_fill 17 = .ok (.if_icmp .lt 75, 3) := by decide +kernel
theorem dX0_fill_20 : decode cX0_fill 20 = .ok (.iconst 0, 1) := by decide +kernel
theorem dX0_fill_21 : decode cX0_fill 21 = .ok (.istore_n 3, 1) := by decide +kernel
theorem dX0_fill_22 : decode cX0_fill 22 = .ok (.iload_n 3, 1) := by decide +kernel
theorem dX0_fill_23 : decode cX0_fill 23 = .ok (.aload_n 1, 1) := by decide +kernel
theorem dX0_fill_24 : decode cX0_fill 24 = .ok (.getfield 43, 3) := by decide +kernel
theorem dX0_fill_27 : decode cX0_fill 27 = .ok (.if_icmp .ge 59, 3) := by decide +kernel
theorem dX0_fill_30 : decode cX0_fill 30 = .ok (.iload_n 2, 1) := by decide +kernel
theorem dX0_fill_31 : decode cX0_fill 31 = .ok (.iload_n 3, 1) := by decide +kernel
theorem dX0_fill_32 : decode cX0_fill 32 = .ok (.invokestatic 46, 3) := by decide +kernel
theorem dX0_fill_35 : decode cX0_fill 35 = .ok (.istore 4, 2) := by decide +kernel
theorem dX0_fill_37 : decode cX0_fill 37 = .ok (.aload_n 0, 1) := by decide +kernel
theorem dX0_fill_38 : decode cX0_fill 38 = .ok (.getfield 9, 3) := by decide +kernel
theorem dX0_fill_41 : decode cX0_fill 41 = .ok (.iload 4, 2) := by decide +kernel
theorem dX0_fill_43 : decode cX0_fill 43 = .ok (.aload_n 1, 1) := by decide +kernel
theorem dX0_fill_44 : decode cX0_fill 44 = .ok (.getfield 50, 3) := by decide +kernel
theorem dX0_fill_47 : decode cX0_fill 47 = .ok (.iload 4, 2) := by decide +kernel
theorem dX0_fill_49 : decode cX0_fill 49 = .ok (.baload, 1) := by decide +kernel
theorem dX0_fill_50 : decode cX0_fill 50 = .ok (.ifCond .eq 7, 3) := by decide +kernel
theorem dX0_fill_53 : decode cX0_fill 53 = .ok (.iconst 0, 1) := by decide +kernel
theorem dX0_fill_54 : decode cX0_fill 54 = .ok (.goto 18, 3) := by decide +kernel
theorem dX0_fill_57 : decode cX0_fill 57 = .ok (.aload_n 0, 1) := by decide +kernel
theorem dX0_fill_58 : decode cX0_fill 58 = .ok (.getfield 15, 3) := by decide +kernel
theorem dX0_fill_61 : decode cX0_fill 61 = .ok (.iload 4, 2) := by decide +kernel
theorem dX0_fill_63 : decode cX0_fill 63 = .ok (.iaload, 1) := by decide +kernel
theorem dX0_fill_64 : decode cX0_fill 64 = .ok (.aload_n 0, 1) := by decide +kernel
theorem dX0_fill_65 : decode cX0_fill 65 = .ok (.aload_n 1, 1) := by decide +kernel
theorem dX0_fill_66 : decode cX0_fill 66 = .ok (.iload_n 2, 1) := by decide +kernel
theorem dX0_fill_67 : decode cX0_fill 67 = .ok (.iload_n 3, 1) := by decide +kernel
theorem dX0_fill_68 : decode cX0_fill 68 = .ok (.invokevirtual 54, 3) := by decide +kernel
theorem dX0_fill_71 : decode cX0_fill 71 = .ok (.ior, 1) := by decide +kernel
theorem dX0_fill_72 : decode cX0_fill 72 = .ok (.iastore, 1) := by decide +kernel
theorem dX0_fill_73 : decode cX0_fill 73 = .ok (.aload_n 0, 1) := by decide +kernel
theorem dX0_fill_74 : decode cX0_fill 74 = .ok (.aload_n 1, 1) := by decide +kernel
theorem dX0_fill_75 : decode cX0_fill 75 = .ok (.iload_n 2, 1) := by decide +kernel
theorem dX0_fill_76 : decode cX0_fill 76 = .ok (.iload_n 3, 1) := by decide +kernel
theorem dX0_fill_77 : decode cX0_fill 77 = .ok (.invokevirtual 58, 3) := by decide +kernel
theorem dX0_fill_80 : decode cX0_fill 80 = .ok (.iinc 3 1, 3) := by decide +kernel
theorem dX0_fill_83 : decode cX0_fill 83 = .ok (.goto (-61), 3) := by decide +kernel
theorem dX0_fill_86 : decode cX0_fill 86 = .ok (.iinc 2 (-1), 3) := by decide +kernel
theorem dX0_fill_89 : decode cX0_fill 89 = .ok (.goto (-74), 3) := by decide +kernel
theorem dX0_fill_92 : decode cX0_fill 92 = .ok (.aload_n 0, 1) := by decide +kernel
theorem dX0_fill_93 : decode cX0_fill 93 = .ok (.getfield 9, 3) := by decide +kernel
theorem dX0_fill_96 : decode cX0_fill 96 = .ok (.iconst 0, 1) := by decide +kernel
theorem dX0_fill_97 : decode cX0_fill 97 = .ok (.aload_n 0, 1) := by decide +kernel
theorem dX0_fill_98 : decode cX0_fill 98 = .ok (.aload_n 1, 1) := by decide +kernel
theorem dX0_fill_99 : decode cX0_fill 99 = .ok (.invokevirtual 62, 3) := by decide +kernel
theorem dX0_fill_102 : decode cX0_fill 102 = .ok (.iastore, 1) := by decide +kernel
theorem dX0_fill_103 : decode cX0_fill 103 = .ok (.aload_n 0, 1) := by decide +kernel
theorem dX0_fill_104 : decode cX0_fill 104 = .ok (.aload_n 1, 1) := by decide +kernel
theorem dX0_fill_105 : decode cX0_fill 105 = .ok (.iconst 0, 1) := by decide +kernel
theorem dX0_fill_106 : decode cX0_fill 106 = .ok (.iconst 0, 1) := by decide +kernel
theorem dX0_fill_107 : decode cX0_fill 107 = .ok (.invokevirtual 58, 3) := by decide +kernel
theorem dX0_fill_110 : decode cX0_fill 110 = .ok (.aload_n 0, 1) := by decide +kernel
theorem dX0_fill_111 : decode cX0_fill 111 = .ok (.iconst 1, 1) := by decide +kernel
theorem dX0_fill_112 : decode cX0_fill 112 = .ok (.putfield 66, 3) := by decide +kernel
theorem dX0_fill_115 : decode cX0_fill 115 = .ok (.return_, 1) := by decide +kernel
set_option maxRecDepth 20000 in
theorem ggX0_inkOf_X0_comesTo : GoodIn wsX0_inkOf wsX0_comesTo := goodIn_r _ [6, 7, 8, 9, 10, 11, 12, 13, 14, 15, 16, 17, 18] (by decide +kernel) (by decide +kernel)
set_option maxRecDepth 20000 in
theorem gX0_inkOf_X0_comesTo : GoodIn wsX0_inkOf (wsV RX0 70 RX0 yX0_comesTo wsX0_comesTo) := goodIn_app (goodIn_of _ (by decide +kernel)) ggX0_inkOf_X0_comesTo
theorem dX0_inkOf_0 : decode cX0_inkOf 0 = .ok (.iload_n 2, 1) := by decide +kernel
theorem dX0_inkOf_1 : decode cX0_inkOf 1 = .ok (.ifCond .ne 5, 3) := by decide +kernel
theorem dX0_inkOf_4 : decode cX0_inkOf 4 = .ok (.iconst 0, 1) := by decide +kernel
theorem dX0_inkOf_5 : decode cX0_inkOf 5 = .ok (.ireturn, 1) := by decide +kernel
theorem dX0_inkOf_6 : decode cX0_inkOf 6 = .ok (.aload_n 0, 1) := by decide +kernel
theorem dX0_inkOf_7 : decode cX0_inkOf 7 = .ok (.iload_n 1, 1) := by decide +kernel
theorem dX0_inkOf_8 : decode cX0_inkOf 8 = .ok (.iload_n 2, 1) := by decide +kernel
theorem dX0_inkOf_9 : decode cX0_inkOf 9 = .ok (.invokevirtual 70, 3) := by decide +kernel
theorem dX0_inkOf_12 : decode cX0_inkOf 12 = .ok (.ifCond .eq 18, 3) := by decide +kernel
theorem dX0_inkOf_15 : decode cX0_inkOf 15 = .ok (.aload_n 0, 1) := by decide +kernel
theorem dX0_inkOf_16 : decode cX0_inkOf 16 = .ok (.getfield 18, 3) := by decide +kernel
theorem dX0_inkOf_19 : decode cX0_inkOf 19 = .ok (.iload_n 1, 1) := by decide +kernel
theorem dX0_inkOf_20 : decode cX0_inkOf 20 = .ok (.sipush 128, 3) := by decide +kernel
theorem dX0_inkOf_23 : decode cX0_inkOf 23 = .ok (.imul, 1) := by decide +kernel
theorem dX0_inkOf_24 : decode cX0_inkOf 24 = .ok (.iload_n 2, 1) := by decide +kernel
theorem dX0_inkOf_25 : decode cX0_inkOf 25 = .ok (.iadd, 1) := by decide +kernel
theorem dX0_inkOf_26 : decode cX0_inkOf 26 = .ok (.iaload, 1) := by decide +kernel
theorem dX0_inkOf_27 : decode cX0_inkOf 27 = .ok (.goto 5, 3) := by decide +kernel
theorem dX0_inkOf_30 : decode cX0_inkOf 30 = .ok (.bipush (-2), 2) := by decide +kernel
theorem dX0_inkOf_32 : decode cX0_inkOf 32 = .ok (.ireturn, 1) := by decide +kernel
theorem dX0_comesTo_0 : decode cX0_comesTo 0 = .ok (.iload_n 2, 1) := by decide +kernel
theorem dX0_comesTo_1 : decode cX0_comesTo 1 = .ok (.aload_n 0, 1) := by decide +kernel
theorem dX0_comesTo_2 : decode cX0_comesTo 2 = .ok (.getfield 9, 3) := by decide +kernel
theorem dX0_comesTo_5 : decode cX0_comesTo 5 = .ok (.iload_n 1, 1) := by decide +kernel
theorem dX0_comesTo_6 : decode cX0_comesTo 6 = .ok (.iaload, 1) := by decide +kernel
theorem dX0_comesTo_7 : decode cX0_comesTo 7 = .ok (.iconst (-1), 1) := by decide +kernel
theorem dX0_comesTo_8 : decode cX0_comesTo 8 = .ok (.ixor, 1) := by decide +kernel
theorem dX0_comesTo_9 : decode cX0_comesTo 9 = .ok (.iand, 1) := by decide +kernel
theorem dX0_comesTo_10 : decode cX0_comesTo 10 = .ok (.ifCond .ne 7, 3) := by decide +kernel
theorem dX0_comesTo_13 : decode cX0_comesTo 13 = .ok (.iconst 1, 1) := by decide +kernel
theorem dX0_comesTo_14 : decode cX0_comesTo 14 = .ok (.goto 4, 3) := by decide +kernel
theorem dX0_comesTo_17 : decode cX0_comesTo 17 = .ok (.iconst 0, 1) := by decide +kernel
theorem dX0_comesTo_18 : decode cX0_comesTo 18 = .ok (.ireturn, 1) := by decide +kernel
set_option maxRecDepth 20000 in
theorem ggX0_inkOfAllAlone_X0_inkOf : GoodIn wsX0_inkOfAllAlone wsX0_inkOf := goodIn_r _ [6, 7, 8, 9, 10, 5, 11, 12, 23, 24, 25, 26, 27, 28, 29, 30, 31, 32, 33] (by decide +kernel) (by decide +kernel)
set_option maxRecDepth 20000 in
theorem gX0_inkOfAllAlone_X0_inkOf : GoodIn wsX0_inkOfAllAlone (wsV RX0 77 RX0 yX0_inkOf wsX0_inkOf) := goodIn_app (goodIn_of _ (by decide +kernel)) ggX0_inkOfAllAlone_X0_inkOf
theorem dX0_inkOfAllAlone_0 : decode cX0_inkOfAllAlone 0 = .ok (.iconst 0, 1) := by decide +kernel
theorem dX0_inkOfAllAlone_1 : decode cX0_inkOfAllAlone 1 = .ok (.istore_n 2, 1) := by decide +kernel
theorem dX0_inkOfAllAlone_2 : decode cX0_inkOfAllAlone 2 = .ok (.iconst 0, 1) := by decide +kernel
theorem dX0_inkOfAllAlone_3 : decode cX0_inkOfAllAlone 3 = .ok (.istore_n 3, 1) := by decide +kernel
theorem dX0_inkOfAllAlone_4 : decode cX0_inkOfAllAlone 4 = .ok (.iload_n 3, 1) := by decide +kernel
theorem dX0_inkOfAllAlone_5 : decode cX0_inkOfAllAlone 5 = .ok (.aload_n 1, 1) := by decide +kernel
theorem dX0_inkOfAllAlone_6 : decode cX0_inkOfAllAlone 6 = .ok (.getfield 74, 3) := by decide +kernel
theorem dX0_inkOfAllAlone_9 : decode cX0_inkOfAllAlone 9 = .ok (.if_icmp .ge 34, 3) := by decide +kernel
theorem dX0_inkOfAllAlone_12 : decode cX0_inkOfAllAlone 12 = .ok (.aload_n 0, 1) := by decide +kernel
theorem dX0_inkOfAllAlone_13 : decode cX0_inkOfAllAlone 13 = .ok (.iconst 0, 1) := by decide +kernel
theorem dX0_inkOfAllAlone_14 : decode cX0_inkOfAllAlone 14 = .ok (.iconst 1, 1) := by decide +kernel
theorem dX0_inkOfAllAlone_15 : decode cX0_inkOfAllAlone 15 = .ok (.iload_n 3, 1) := by decide +kernel
theorem dX0_inkOfAllAlone_16 : decode cX0_inkOfAllAlone 16 = .ok (.ishl, 1) := by decide +kernel
theorem dX0_inkOfAllAlone_17 : decode cX0_inkOfAllAlone 17 = .ok (.invokevirtual 77, 3) := by decide +kernel
theorem dX0_inkOfAllAlone_20 : decode cX0_inkOfAllAlone 20 = .ok (.istore 4, 2) := by decide +kernel
theorem dX0_inkOfAllAlone_22 : decode cX0_inkOfAllAlone 22 = .ok (.iload 4, 2) := by decide +kernel
theorem dX0_inkOfAllAlone_24 : decode cX0_inkOfAllAlone 24 = .ok (.bipush (-2), 2) := by decide +kernel
theorem dX0_inkOfAllAlone_26 : decode cX0_inkOfAllAlone 26 = .ok (.if_icmp .ne 6, 3) := by decide +kernel
theorem dX0_inkOfAllAlone_29 : decode cX0_inkOfAllAlone 29 = .ok (.bipush (-2), 2) := by decide +kernel
theorem dX0_inkOfAllAlone_31 : decode cX0_inkOfAllAlone 31 = .ok (.ireturn, 1) := by decide +kernel
theorem dX0_inkOfAllAlone_32 : decode cX0_inkOfAllAlone 32 = .ok (.iload_n 2, 1) := by decide +kernel
theorem dX0_inkOfAllAlone_33 : decode cX0_inkOfAllAlone 33 = .ok (.iload 4, 2) := by decide +kernel
theorem dX0_inkOfAllAlone_35 : decode cX0_inkOfAllAlone 35 = .ok (.iadd, 1) := by decide +kernel
theorem dX0_inkOfAllAlone_36 : decode cX0_inkOfAllAlone 36 = .ok (.istore_n 2, 1) := by decide +kernel
theorem dX0_inkOfAllAlone_37 : decode cX0_inkOfAllAlone 37 = .ok (.iinc 3 1, 3) := by decide +kernel
theorem dX0_inkOfAllAlone_40 : decode cX0_inkOfAllAlone 40 = .ok (.goto (-36), 3) := by decide +kernel
theorem dX0_inkOfAllAlone_43 : decode cX0_inkOfAllAlone 43 = .ok (.iload_n 2, 1) := by decide +kernel
theorem dX0_inkOfAllAlone_44 : decode cX0_inkOfAllAlone 44 = .ok (.ireturn, 1) := by decide +kernel
set_option maxRecDepth 20000 in
theorem ggX0_inkSavedByLeast_X0_inkOfAllAlone : GoodIn wsX0_inkSavedByLeast wsX0_inkOfAllAlone := goodIn_r _ [5, 6, 7, 8, 9, 4, 10, 11, 12, 13, 14, 15, 16, 23, 24, 25, 26, 27, 28, 29, 30, 31, 32, 33, 34, 35, 36, 37, 38, 39, 40, 41, 42, 43] (by decide +kernel) (by decide +kernel)
set_option maxRecDepth 20000 in
theorem gX0_inkSavedByLeast_X0_inkOfAllAlone : GoodIn wsX0_inkSavedByLeast (wsV RX0 80 RX0 yX0_inkOfAllAlone wsX0_inkOfAllAlone) := goodIn_app (goodIn_of _ (by decide +kernel)) ggX0_inkSavedByLeast_X0_inkOfAllAlone
set_option maxRecDepth 20000 in
theorem ggX0_inkSavedByLeast_X1_allPlaces : GoodIn wsX0_inkSavedByLeast wsX1_allPlaces := goodIn_r _ [21, 22, 23, 24, 25, 26, 27, 28, 29, 30, 31, 32] (by decide +kernel) (by decide +kernel)
set_option maxRecDepth 20000 in
theorem gX0_inkSavedByLeast_X1_allPlaces : GoodIn wsX0_inkSavedByLeast (wsV RX0 83 RX1 yX1_allPlaces wsX1_allPlaces) := goodIn_app (goodIn_of _ (by decide +kernel)) ggX0_inkSavedByLeast_X1_allPlaces
set_option maxRecDepth 20000 in
theorem ggX0_inkSavedByLeast_X0_inkOf : GoodIn wsX0_inkSavedByLeast wsX0_inkOf := goodIn_r _ [10, 11, 12, 13, 14, 4, 15, 16, 33, 34, 35, 36, 37, 38, 39, 40, 41, 42, 43] (by decide +kernel) (by decide +kernel)
set_option maxRecDepth 20000 in
theorem gX0_inkSavedByLeast_X0_inkOf : GoodIn wsX0_inkSavedByLeast (wsV RX0 77 RX0 yX0_inkOf wsX0_inkOf) := goodIn_app (goodIn_of _ (by decide +kernel)) ggX0_inkSavedByLeast_X0_inkOf
theorem dX0_inkSavedByLeast_0 : decode cX0_inkSavedByLeast 0 = .ok (.aload_n 0, 1) := by decide +kernel
theorem dX0_inkSavedByLeast_1 : decode cX0_inkSavedByLeast 1 = .ok (.aload_n 1, 1) := by decide +kernel
theorem dX0_inkSavedByLeast_2 : decode cX0_inkSavedByLeast 2 = .ok (.invokevirtual 80, 3) := by decide +kernel
theorem dX0_inkSavedByLeast_5 : decode cX0_inkSavedByLeast 5 = .ok (.istore_n 2, 1) := by decide +kernel
theorem dX0_inkSavedByLeast_6 : decode cX0_inkSavedByLeast 6 = .ok (.iload_n 2, 1) := by decide +kernel
theorem dX0_inkSavedByLeast_7 : decode cX0_inkSavedByLeast 7 = .ok (.bipush (-2), 2) := by decide +kernel
theorem dX0_inkSavedByLeast_9 : decode cX0_inkSavedByLeast 9 = .ok (.if_icmp .ne 8, 3) := by decide +kernel
theorem dX0_inkSavedByLeast_12 : decode cX0_inkSavedByLeast 12 = .ok (.bipush (-2), 2) := by decide +kernel
theorem dX0_inkSavedByLeast_14 : decode cX0_inkSavedByLeast 14 = .ok (.goto 14, 3) := by decide +kernel
theorem dX0_inkSavedByLeast_17 : decode cX0_inkSavedByLeast 17 = .ok (.iload_n 2, 1) := by decide +kernel
theorem dX0_inkSavedByLeast_18 : decode cX0_inkSavedByLeast 18 = .ok (.aload_n 0, 1) := by decide +kernel
theorem dX0_inkSavedByLeast_19 : decode cX0_inkSavedByLeast 19 = .ok (.iconst 0, 1) := by decide +kernel
theorem dX0_inkSavedByLeast_20 : decode cX0_inkSavedByLeast 20 = .ok (.aload_n 1, 1) := by decide +kernel
theorem dX0_inkSavedByLeast_21 : decode cX0_inkSavedByLeast 21 = .ok (.invokevirtual 83, 3) := by decide +kernel
theorem dX0_inkSavedByLeast_24 : decode cX0_inkSavedByLeast 24 = .ok (.invokevirtual 77, 3) := by decide +kernel
theorem dX0_inkSavedByLeast_27 : decode cX0_inkSavedByLeast 27 = .ok (.isub, 1) := by decide +kernel
theorem dX0_inkSavedByLeast_28 : decode cX0_inkSavedByLeast 28 = .ok (.ireturn, 1) := by decide +kernel
set_option maxRecDepth 20000 in
theorem ggX0_choose_X6_cellOf : GoodIn wsX0_choose wsX6_cellOf := goodIn_r _ [11] (by decide +kernel) (by decide +kernel)
set_option maxRecDepth 20000 in
theorem gX0_choose_X6_cellOf_n46 : GoodIn wsX0_choose (wsX6_cellOf) := ggX0_choose_X6_cellOf
set_option maxRecDepth 20000 in
theorem ggX0_choose_X0_tryParts : GoodIn wsX0_choose wsX0_tryParts := goodIn_r _ [16, 17, 2, 3, 18, 19, 20, 21, 22, 23, 24, 25, 26, 15, 27, 45, 46, 47, 48, 49, 50, 51, 52, 53, 54, 55] (by decide +kernel) (by decide +kernel)
set_option maxRecDepth 20000 in
theorem gX0_choose_X0_tryParts : GoodIn wsX0_choose (wsV RX0 100 RX0 yX0_tryParts wsX0_tryParts) := goodIn_app (goodIn_of _ (by decide +kernel)) ggX0_choose_X0_tryParts
set_option maxRecDepth 20000 in
theorem ggX0_choose_X0_tryStep : GoodIn wsX0_choose wsX0_tryStep := goodIn_r _ [31, 17, 32, 33, 2, 3, 4, 5, 34, 35, 36, 15, 37, 38, 45, 46, 47, 48, 49, 50, 51, 52, 53, 54, 55] (by decide +kernel) (by decide +kernel)
set_option maxRecDepth 20000 in
theorem gX0_choose_X0_tryStep : GoodIn wsX0_choose (wsV RX0 104 RX0 yX0_tryStep wsX0_tryStep) := goodIn_app (goodIn_of _ (by decide +kernel)) ggX0_choose_X0_tryStep
set_option maxRecDepth 20000 in
theorem ggX0_choose_X1_turnBeside : GoodIn wsX0_choose wsX1_turnBeside := goodIn_r _ [43, 44, 56, 57, 58, 59, 60, 61, 62, 63, 64, 65] (by decide +kernel) (by decide +kernel)
set_option maxRecDepth 20000 in
theorem gX0_choose_X1_turnBeside : GoodIn wsX0_choose (wsV RX0 108 RX1 yX1_turnBeside wsX1_turnBeside) := goodIn_app (goodIn_of _ (by decide +kernel)) ggX0_choose_X1_turnBeside
theorem dX0_choose_0 : decode cX0_choose 0 = .ok (.iload_n 2, 1) := by decide +kernel
theorem dX0_choose_1 : decode cX0_choose 1 = .ok (.iload_n 3, 1) := by decide +kernel
theorem dX0_choose_2 : decode cX0_choose 2 = .ok (.invokestatic 46, 3) := by decide +kernel
theorem dX0_choose_5 : decode cX0_choose 5 = .ok (.istore 5, 2) := by decide +kernel
theorem dX0_choose_7 : decode cX0_choose 7 = .ok (.aload_n 0, 1) := by decide +kernel
theorem dX0_choose_8 : decode cX0_choose 8 = .ok (.ldc 87, 2) := by decide +kernel
theorem dX0_choose_10 : decode cX0_choose 10 = .ok (.putfield 88, 3) := by decide +kernel
theorem dX0_choose_13 : decode cX0_choose 13 = .ok (.aload_n 0, 1) := by decide +kernel
theorem dX0_choose_14 : decode cX0_choose 14 = .ok (.iconst 0, 1) := by decide +kernel
theorem dX0_choose_15 : decode cX0_choose 15 = .ok (.putfield 91, 3) := by decide +kernel
theorem dX0_choose_18 : decode cX0_choose 18 = .ok (.aload_n 0, 1) := by decide +kernel
theorem dX0_choose_19 : decode cX0_choose 19 = .ok (.iconst (-1), 1) := by decide +kernel
theorem dX0_choose_20 : decode cX0_choose 20 = .ok (.putfield 94, 3) := by decide +kernel
theorem dX0_choose_23 : decode cX0_choose 23 = .ok (.aload_n 0, 1) := by decide +kernel
theorem dX0_choose_24 : decode cX0_choose 24 = .ok (.iconst (-1), 1) := by decide +kernel
theorem dX0_choose_25 : decode cX0_choose 25 = .ok (.putfield 97, 3) := by decide +kernel
theorem dX0_choose_28 : decode cX0_choose 28 = .ok (.iload 4, 2) := by decide +kernel
theorem dX0_choose_30 : decode cX0_choose 30 = .ok (.aload_n 0, 1) := by decide +kernel
theorem dX0_choose_31 : decode cX0_choose 31 = .ok (.getfield 15, 3) := by decide +kernel
theorem dX0_choose_34 : decode cX0_choose 34 = .ok (.iload 5, 2) := by decide +kernel
theorem dX0_choose_36 : decode cX0_choose 36 = .ok (.iaload, 1) := by decide +kernel
theorem dX0_choose_37 : decode cX0_choose 37 = .ok (.if_icmp .ne 9, 3) := by decide +kernel
theorem dX0_choose_40 : decode cX0_choose 40 = .ok (.aload_n 0, 1) := by decide +kernel
theorem dX0_choose_41 : decode cX0_choose 41 = .ok (.iconst 0, 1) := by decide +kernel
theorem dX0_choose_42 : decode cX0_choose 42 = .ok (.putfield 88, 3) := by decide +kernel
theorem dX0_choose_45 : decode cX0_choose 45 = .ok (.return_, 1) := by decide +kernel
theorem dX0_choose_46 : decode cX0_choose 46 = .ok (.aload_n 0, 1) := by decide +kernel
theorem dX0_choose_47 : decode cX0_choose 47 = .ok (.iload 5, 2) := by decide +kernel
theorem dX0_choose_49 : decode cX0_choose 49 = .ok (.iload 4, 2) := by decide +kernel
theorem dX0_choose_51 : decode cX0_choose 51 = .ok (.invokevirtual 100, 3) := by decide +kernel
theorem dX0_choose_54 : decode cX0_choose 54 = .ok (.iload_n 2, 1) := by decide +kernel
theorem dX0_choose_55 : decode cX0_choose 55 = .ok (.ifCond .ne 37, 3) := by decide +kernel
theorem dX0_choose_58 : decode cX0_choose 58 = .ok (.iconst 0, 1) := by decide +kernel
theorem dX0_choose_59 : decode cX0_choose 59 = .ok (.istore 6, 2) := by decide +kernel
theorem dX0_choose_61 : decode cX0_choose 61 = .ok (.iload 6, 2) := by decide +kernel
theorem dX0_choose_63 : decode cX0_choose 63 = .ok (.aload_n 1, 1) := by decide +kernel
theorem dX0_choose_64 : decode cX0_choose 64 = .ok (.getfield 43, 3) := by decide +kernel
theorem dX0_choose_67 : decode cX0_choose 67 = .ok (.if_icmp .ge 22, 3) := by decide +kernel
theorem dX0_choose_70 : decode cX0_choose 70 = .ok (.aload_n 0, 1) := by decide +kernel
theorem dX0_choose_71 : decode cX0_choose 71 = .ok (.iconst 1, 1) := by decide +kernel
theorem dX0_choose_72 : decode cX0_choose 72 = .ok (.iload 6, 2) := by decide +kernel
theorem dX0_choose_74 : decode cX0_choose 74 = .ok (.invokestatic 46, 3) := by decide +kernel
theorem dX0_choose_77 : decode cX0_choose 77 = .ok (.iconst 0, 1) := by decide +kernel
theorem dX0_choose_78 : decode cX0_choose 78 = .ok (.iload 4, 2) := by decide +kernel
theorem dX0_choose_80 : decode cX0_choose 80 = .ok (.invokevirtual 104, 3) := by decide +kernel
theorem dX0_choose_83 : decode cX0_choose 83 = .ok (.iinc 6 1, 3) := by decide +kernel
theorem dX0_choose_86 : decode cX0_choose 86 = .ok (.goto (-25), 3) := by decide +kernel
theorem dX0_choose_89 : decode cX0_choose 89 = .ok (.goto 63, 3) := by decide +kernel
theorem dX0_choose_92 : decode cX0_choose 92 = .ok (.iload_n 2, 1) := by decide +kernel
theorem dX0_choose_93 : decode cX0_choose 93 = .ok (.aload_n 1, 1) := by decide +kernel
theorem dX0_choose_94 : decode cX0_choose 94 = .ok (.getfield 37, 3) := by decide +kernel
theorem dX0_choose_97 : decode cX0_choose 97 = .ok (.if_icmp .ge 55, 3) := by decide +kernel
theorem dX0_choose_100 : decode cX0_choose 100 = .ok (.aload_n 0, 1) := by decide +kernel
theorem dX0_choose_101 : decode cX0_choose 101 = .ok (.iload_n 2, 1) := by decide +kernel
theorem dX0_choose_102 : decode cX0_choose 102 = .ok (.iconst 1, 1) := by decide +kernel
theorem dX0_choose_103 : decode cX0_choose 103 = .ok (.iadd, 1) := by decide +kernel
theorem dX0_choose_104 : decode cX0_choose 104 = .ok (.iload_n 3, 1) := by decide +kernel
theorem dX0_choose_105 : decode cX0_choose 105 = .ok (.invokestatic 46, 3) := by decide +kernel
theorem dX0_choose_108 : decode cX0_choose 108 = .ok (.iconst 0, 1) := by decide +kernel
theorem dX0_choose_109 : decode cX0_choose 109 = .ok (.iload 4, 2) := by decide +kernel
theorem dX0_choose_111 : decode cX0_choose 111 = .ok (.invokevirtual 104, 3) := by decide +kernel
theorem dX0_choose_114 : decode cX0_choose 114 = .ok (.aload_n 0, 1) := by decide +kernel
theorem dX0_choose_115 : decode cX0_choose 115 = .ok (.iload_n 2, 1) := by decide +kernel
theorem dX0_choose_116 : decode cX0_choose 116 = .ok (.iconst 1, 1) := by decide +kernel
theorem dX0_choose_117 : decode cX0_choose 117 = .ok (.iadd, 1) := by decide +kernel
theorem dX0_choose_118 : decode cX0_choose 118 = .ok (.aload_n 1, 1) := by decide +kernel
theorem dX0_choose_119 : decode cX0_choose 119 = .ok (.iload_n 3, 1) := by decide +kernel
theorem dX0_choose_120 : decode cX0_choose 120 = .ok (.iconst 1, 1) := by decide +kernel
theorem dX0_choose_121 : decode cX0_choose 121 = .ok (.invokevirtual 108, 3) := by decide +kernel
theorem dX0_choose_124 : decode cX0_choose 124 = .ok (.invokestatic 46, 3) := by decide +kernel
theorem dX0_choose_127 : decode cX0_choose 127 = .ok (.iconst 2, 1) := by decide +kernel
theorem dX0_choose_128 : decode cX0_choose 128 = .ok (.iload 4, 2) := by decide +kernel
theorem dX0_choose_130 : decode cX0_choose 130 = .ok (.invokevirtual 104, 3) := by decide +kernel
theorem dX0_choose_133 : decode cX0_choose 133 = .ok (.aload_n 0, 1) := by decide +kernel
theorem dX0_choose_134 : decode cX0_choose 134 = .ok (.iload_n 2, 1) := by decide +kernel
theorem dX0_choose_135 : decode cX0_choose 135 = .ok (.iconst 1, 1) := by decide +kernel
theorem dX0_choose_136 : decode cX0_choose 136 = .ok (.iadd, 1) := by decide +kernel
theorem dX0_choose_137 : decode cX0_choose 137 = .ok (.aload_n 1, 1) := by decide +kernel
theorem dX0_choose_138 : decode cX0_choose 138 = .ok (.iload_n 3, 1) := by decide +kernel
theorem dX0_choose_139 : decode cX0_choose 139 = .ok (.iconst 2, 1) := by decide +kernel
theorem dX0_choose_140 : decode cX0_choose 140 = .ok (.invokevirtual 108, 3) := by decide +kernel
theorem dX0_choose_143 : decode cX0_choose 143 = .ok (.invokestatic 46, 3) := by decide +kernel
theorem dX0_choose_146 : decode cX0_choose 146 = .ok (.iconst 1, 1) := by decide +kernel
theorem dX0_choose_147 : decode cX0_choose 147 = .ok (.iload 4, 2) := by decide +kernel
theorem dX0_choose_149 : decode cX0_choose 149 = .ok (.invokevirtual 104, 3) := by decide +kernel
theorem dX0_choose_152 : decode cX0_choose 152 = .ok (.return_, 1) := by decide +kernel
set_option maxRecDepth 20000 in
theorem ggX0_tryParts_J6_bitCount_0f7a4 : GoodIn wsX0_tryParts wsJ6_bitCount_0f7a4 := goodIn_r _ [7, 8, 9, 10] (by decide +kernel) (by decide +kernel)
set_option maxRecDepth 20000 in
theorem gX0_tryParts_J6_bitCount_0f7a4 : GoodIn wsX0_tryParts (va_wsS RX0 111 yJ6_bitCount_0f7a4 wsJ6_bitCount_0f7a4) := goodIn_app (goodIn_of _ (by decide +kernel)) ggX0_tryParts_J6_bitCount_0f7a4
set_option maxRecDepth 20000 in
theorem ggX0_tryParts_X0_nextSubset : GoodIn wsX0_tryParts wsX0_nextSubset := goodIn_r _ [14] (by decide +kernel) (by decide +kernel)
set_option maxRecDepth 20000 in
theorem gX0_tryParts_X0_nextSubset : GoodIn wsX0_tryParts (va_wsS RX0 117 yX0_nextSubset wsX0_nextSubset) := goodIn_app (goodIn_of _ (by decide +kernel)) ggX0_tryParts_X0_nextSubset
theorem dX0_tryParts_0 : decode cX0_tryParts 0 = .ok (.iload_n 1, 1) := by decide +kernel
theorem dX0_tryParts_1 : decode cX0_tryParts 1 = .ok (.sipush 128, 3) := by decide +kernel
theorem dX0_tryParts_4 : decode cX0_tryParts 4 = .ok (.imul, 1) := by decide +kernel
theorem dX0_tryParts_5 : decode cX0_tryParts 5 = .ok (.istore_n 3, 1) := by decide +kernel
theorem dX0_tryParts_6 : decode cX0_tryParts 6 = .ok (.iload_n 2, 1) := by decide +kernel
theorem dX0_tryParts_7 : decode cX0_tryParts 7 = .ok (.iload_n 2, 1) := by decide +kernel
theorem dX0_tryParts_8 : decode cX0_tryParts 8 = .ok (.ineg, 1) := by decide +kernel
theorem dX0_tryParts_9 : decode cX0_tryParts 9 = .ok (.iand, 1) := by decide +kernel
theorem dX0_tryParts_10 : decode cX0_tryParts 10 = .ok (.istore 4, 2) := by decide +kernel
theorem dX0_tryParts_12 : decode cX0_tryParts 12 = .ok (.iload_n 2, 1) := by decide +kernel
theorem dX0_tryParts_13 : decode cX0_tryParts 13 = .ok (.iload 4, 2) := by decide +kernel
theorem dX0_tryParts_15 : decode cX0_tryParts 15 = .ok (.ixor, 1) := by decide +kernel
theorem dX0_tryParts_16 : decode cX0_tryParts 16 = .ok (.istore 5, 2) := by decide +kernel
theorem dX0_tryParts_18 : decode cX0_tryParts 18 = .ok (.iconst 1, 1) := by decide +kernel
theorem dX0_tryParts_19 : decode cX0_tryParts 19 = .ok (.iload 5, 2) := by decide +kernel
theorem dX0_tryParts_21 : decode cX0_tryParts 21 = .ok (.invokestatic 111, 3) := by decide +kernel
theorem dX0_tryParts_24 : decode cX0_tryParts 24 = .ok (.ishl, 1) := by decide +kernel
theorem dX0_tryParts_25 : decode cX0_tryParts 25 = .ok (.istore 6, 2) := by decide +kernel
theorem dX0_tryParts_27 : decode cX0_tryParts 27 = .ok (.iconst 0, 1) := by decide +kernel
theorem dX0_tryParts_28 : decode cX0_tryParts 28 = .ok (.istore 7, 2) := by decide +kernel
theorem dX0_tryParts_30 : decode cX0_tryParts 30 = .ok (.iconst 1, 1) := by decide +kernel
theorem dX0_tryParts_31 : decode cX0_tryParts 31 = .ok (.istore 8, 2) := by decide +kernel
theorem dX0_tryParts_33 : decode cX0_tryParts 33 = .ok (.iload 8, 2) := by decide +kernel
theorem dX0_tryParts_35 : decode cX0_tryParts 35 = .ok (.iload 6, 2) := by decide +kernel
theorem dX0_tryParts_37 : decode cX0_tryParts 37 = .ok (.if_icmp .ge 69, 3) := by decide +kernel
theorem dX0_tryParts_40 : decode cX0_tryParts 40 = .ok (.iload 4, 2) := by decide +kernel
theorem dX0_tryParts_42 : decode cX0_tryParts 42 = .ok (.iload 7, 2) := by decide +kernel
theorem dX0_tryParts_44 : decode cX0_tryParts 44 = .ok (.ior, 1) := by decide +kernel
theorem dX0_tryParts_45 : decode cX0_tryParts 45 = .ok (.istore 9, 2) := by decide +kernel
theorem dX0_tryParts_47 : decode cX0_tryParts 47 = .ok (.aload_n 0, 1) := by decide +kernel
theorem dX0_tryParts_48 : decode cX0_tryParts 48 = .ok (.getfield 18, 3) := by decide +kernel
theorem dX0_tryParts_51 : decode cX0_tryParts 51 = .ok (.iload_n 3, 1) := by decide +kernel
theorem dX0_tryParts_52 : decode cX0_tryParts 52 = .ok (.iload 9, 2) := by decide +kernel
theorem dX0_tryParts_54 : decode cX0_tryParts 54 = .ok (.iadd, 1) := by decide +kernel
theorem dX0_tryParts_55 : decode cX0_tryParts 55 = .ok (.iaload, 1) := by decide +kernel
theorem dX0_tryParts_56 : decode cX0_tryParts 56 = .ok (.aload_n 0, 1) := by decide +kernel
theorem dX0_tryParts_57 : decode cX0_tryParts 57 = .ok (.getfield 18, 3) := by decide +kernel
theorem dX0_tryParts_60 : decode cX0_tryParts 60 = .ok (.iload_n 3, 1) := by decide +kernel
theorem dX0_tryParts_61 : decode cX0_tryParts 61 = .ok (.iload_n 2, 1) := by decide +kernel
theorem dX0_tryParts_62 : decode cX0_tryParts 62 = .ok (.iload 9, 2) := by decide +kernel
theorem dX0_tryParts_64 : decode cX0_tryParts 64 = .ok (.ixor, 1) := by decide +kernel
theorem dX0_tryParts_65 : decode cX0_tryParts 65 = .ok (.iadd, 1) := by decide +kernel
theorem dX0_tryParts_66 : decode cX0_tryParts 66 = .ok (.iaload, 1) := by decide +kernel
theorem dX0_tryParts_67 : decode cX0_tryParts 67 = .ok (.iadd, 1) := by decide +kernel
theorem dX0_tryParts_68 : decode cX0_tryParts 68 = .ok (.istore 10, 2) := by decide +kernel
theorem dX0_tryParts_70 : decode cX0_tryParts 70 = .ok (.iload 10, 2) := by decide +kernel
theorem dX0_tryParts_72 : decode cX0_tryParts 72 = .ok (.aload_n 0, 1) := by decide +kernel
theorem dX0_tryParts_73 : decode cX0_tryParts 73 = .ok (.getfield 88, 3) := by decide +kernel
theorem dX0_tryParts_76 : decode cX0_tryParts 76 = .ok (.if_icmp .ge 15, 3) := by decide +kernel
theorem dX0_tryParts_79 : decode cX0_tryParts 79 = .ok (.aload_n 0, 1) := by decide +kernel
theorem dX0_tryParts_80 : decode cX0_tryParts 80 = .ok (.iload 10, 2) := by decide +kernel
theorem dX0_tryParts_82 : decode cX0_tryParts 82 = .ok (.putfield 88, 3) := by decide +kernel
theorem dX0_tryParts_85 : decode cX0_tryParts 85 = .ok (.aload_n 0, 1) := by decide +kernel
theorem dX0_tryParts_86 : decode cX0_tryParts 86 = .ok (.iload 9, 2) := by decide +kernel
theorem dX0_tryParts_88 : decode cX0_tryParts 88 = .ok (.putfield 91, 3) := by decide +kernel
theorem dX0_tryParts_91 : decode cX0_tryParts 91 = .ok (.iload 7, 2) := by decide +kernel
theorem dX0_tryParts_93 : decode cX0_tryParts 93 = .ok (.iload 5, 2) := by decide +kernel
theorem dX0_tryParts_95 : decode cX0_tryParts 95 = .ok (.invokestatic 117, 3) := by decide +kernel
theorem dX0_tryParts_98 : decode cX0_tryParts 98 = .ok (.istore 7, 2) := by decide +kernel
theorem dX0_tryParts_100 : decode cX0_tryParts 100 = .ok (.iinc 8 1, 3) := by decide +kernel
theorem dX0_tryParts_103 : decode cX0_tryParts 103 = .ok (.goto (-70), 3) := by decide +kernel
theorem dX0_tryParts_106 : decode cX0_tryParts 106 = .ok (.return_, 1) := by decide +kernel
set_option maxRecDepth 20000 in
theorem ggX0_tryStep_X0_comesTo : GoodIn wsX0_tryStep wsX0_comesTo := goodIn_r _ [12, 13, 14, 15, 16, 17, 18, 19, 20, 21, 22, 23, 24] (by decide +kernel) (by decide +kernel)
set_option maxRecDepth 20000 in
theorem gX0_tryStep_X0_comesTo : GoodIn wsX0_tryStep (wsV RX0 70 RX0 yX0_comesTo wsX0_comesTo) := goodIn_app (goodIn_of _ (by decide +kernel)) ggX0_tryStep_X0_comesTo
theorem dX0_tryStep_0 : decode cX0_tryStep 0 = .ok (.aload_n 0, 1) := by decide +kernel
theorem dX0_tryStep_1 : decode cX0_tryStep 1 = .ok (.iload_n 1, 1) := by decide +kernel
theorem dX0_tryStep_2 : decode cX0_tryStep 2 = .ok (.iload_n 3, 1) := by decide +kernel
theorem dX0_tryStep_3 : decode cX0_tryStep 3 = .ok (.invokevirtual 70, 3) := by decide +kernel
theorem dX0_tryStep_6 : decode cX0_tryStep 6 = .ok (.ifCond .ne 4, 3) := by decide +kernel
theorem dX0_tryStep_9 : decode cX0_tryStep 9 = .ok (.return_, 1) := by decide +kernel
theorem dX0_tryStep_10 : decode cX0_tryStep 10 = .ok (.aload_n 0, 1) := by decide +kernel
theorem dX0_tryStep_11 : decode cX0_tryStep 11 = .ok (.getfield 18, 3) := by decide +kernel
theorem dX0_tryStep_14 : decode cX0_tryStep 14 = .ok (.iload_n 1, 1) := by decide +kernel
theorem dX0_tryStep_15 : decode cX0_tryStep 15 = .ok (.sipush 128, 3) := by decide +kernel
theorem dX0_tryStep_18 : decode cX0_tryStep 18 = .ok (.imul, 1) := by decide +kernel
theorem dX0_tryStep_19 : decode cX0_tryStep 19 = .ok (.iload_n 3, 1) := by decide +kernel
theorem dX0_tryStep_20 : decode cX0_tryStep 20 = .ok (.iadd, 1) := by decide +kernel
theorem dX0_tryStep_21 : decode cX0_tryStep 21 = .ok (.iaload, 1) := by decide +kernel
theorem dX0_tryStep_22 : decode cX0_tryStep 22 = .ok (.iload_n 2, 1) := by decide +kernel
theorem dX0_tryStep_23 : decode cX0_tryStep 23 = .ok (.ifCond .ne 12, 3) := by decide +kernel
theorem dX0_tryStep_26 : decode cX0_tryStep 26 = .ok (.aload_n 0, 1) := by decide +kernel
theorem dX0_tryStep_27 : decode cX0_tryStep 27 = .ok (.getfield 21, 3) := by decide +kernel
theorem dX0_tryStep_30 : decode cX0_tryStep 30 = .ok (.iload_n 3, 1) := by decide +kernel
theorem dX0_tryStep_31 : decode cX0_tryStep 31 = .ok (.iaload, 1) := by decide +kernel
theorem dX0_tryStep_32 : decode cX0_tryStep 32 = .ok (.goto 9, 3) := by decide +kernel
theorem dX0_tryStep_35 : decode cX0_tryStep 35 = .ok (.aload_n 0, 1) := by decide +kernel
theorem dX0_tryStep_36 : decode cX0_tryStep 36 = .ok (.getfield 24, 3) := by decide +kernel
theorem dX0_tryStep_39 : decode cX0_tryStep 39 = .ok (.iload_n 3, 1) := by decide +kernel
theorem dX0_tryStep_40 : decode cX0_tryStep 40 = .ok (.iaload, 1) := by decide +kernel
theorem dX0_tryStep_41 : decode cX0_tryStep 41 = .ok (.iadd, 1) := by decide +kernel
theorem dX0_tryStep_42 : decode cX0_tryStep 42 = .ok (.istore 4, 2) := by decide +kernel
theorem dX0_tryStep_44 : decode cX0_tryStep 44 = .ok (.iload 4, 2) := by decide +kernel
theorem dX0_tryStep_46 : decode cX0_tryStep 46 = .ok (.aload_n 0, 1) := by decide +kernel
theorem dX0_tryStep_47 : decode cX0_tryStep 47 = .ok (.getfield 88, 3) := by decide +kernel
theorem dX0_tryStep_50 : decode cX0_tryStep 50 = .ok (.if_icmp .ge 24, 3) := by decide +kernel
theorem dX0_tryStep_53 : decode cX0_tryStep 53 = .ok (.aload_n 0, 1) := by decide +kernel
theorem dX0_tryStep_54 : decode cX0_tryStep 54 = .ok (.iload 4, 2) := by decide +kernel
theorem dX0_tryStep_56 : decode cX0_tryStep 56 = .ok (.putfield 88, 3) := by decide +kernel
theorem dX0_tryStep_59 : decode cX0_tryStep 59 = .ok (.aload_n 0, 1) := by decide +kernel
theorem dX0_tryStep_60 : decode cX0_tryStep 60 = .ok (.iconst 0, 1) := by decide +kernel
theorem dX0_tryStep_61 : decode cX0_tryStep 61 = .ok (.putfield 91, 3) := by decide +kernel
theorem dX0_tryStep_64 : decode cX0_tryStep 64 = .ok (.aload_n 0, 1) := by decide +kernel
theorem dX0_tryStep_65 : decode cX0_tryStep 65 = .ok (.iload_n 1, 1) := by decide +kernel
theorem dX0_tryStep_66 : decode cX0_tryStep 66 = .ok (.putfield 94, 3) := by decide +kernel
theorem dX0_tryStep_69 : decode cX0_tryStep 69 = .ok (.aload_n 0, 1) := by decide +kernel
theorem dX0_tryStep_70 : decode cX0_tryStep 70 = .ok (.iload_n 2, 1) := by decide +kernel
theorem dX0_tryStep_71 : decode cX0_tryStep 71 = .ok (.putfield 97, 3) := by decide +kernel
theorem dX0_tryStep_74 : decode cX0_tryStep 74 = .ok (.return_, 1) := by decide +kernel
set_option maxRecDepth 20000 in
theorem ggX0_notePlaces_J7_fill_53178 : GoodIn wsX0_notePlaces wsJ7_fill_53178 := goodIn_r _ [8] (by decide +kernel) (by decide +kernel)
set_option maxRecDepth 20000 in
theorem gX0_notePlaces_J7_fill_53178 : GoodIn wsX0_notePlaces (va_wsS RX0 120 yJ7_fill_53178 wsJ7_fill_53178) := goodIn_app (goodIn_of _ (by decide +kernel)) ggX0_notePlaces_J7_fill_53178
set_option maxRecDepth 20000 in
theorem ggX0_notePlaces_X6_cellOf : GoodIn wsX0_notePlaces wsX6_cellOf := goodIn_r _ [11] (by decide +kernel) (by decide +kernel)
set_option maxRecDepth 20000 in
theorem gX0_notePlaces_X6_cellOf_n46 : GoodIn wsX0_notePlaces (wsX6_cellOf) := ggX0_notePlaces_X6_cellOf
theorem dX0_notePlaces_0 : decode cX0_notePlaces 0 = .ok (.aload_n 0, 1) := by decide +kernel
theorem dX0_notePlaces_1 : decode cX0_notePlaces 1 = .ok (.getfield 15, 3) := by decide +kernel
theorem dX0_notePlaces_4 : decode cX0_notePlaces 4 = .ok (.iconst 0, 1) := by decide +kernel
theorem dX0_notePlaces_5 : decode cX0_notePlaces 5 = .ok (.invokestatic 120, 3) := by decide +kernel
theorem dX0_notePlaces_8 : decode cX0_notePlaces 8 = .ok (.iconst 0, 1) := by decide +kernel
theorem dX0_notePlaces_9 : decode cX0_notePlaces 9 = .ok (.istore_n 2, 1) := by decide +kernel
theorem dX0_notePlaces_10 : decode cX0_notePlaces 10 = .ok (.iload_n 2, 1) := by decide +kernel
theorem dX0_notePlaces_11 : decode cX0_notePlaces 11 = .ok (.aload_n 1, 1) := by decide +kernel
theorem dX0_notePlaces_12 : decode cX0_notePlaces 12 = .ok (.getfield 74, 3) := by decide +kernel
theorem dX0_notePlaces_15 : decode cX0_notePlaces 15 = .ok (.if_icmp .ge 32, 3) := by decide +kernel
theorem dX0_notePlaces_18 : decode cX0_notePlaces 18 = .ok (.aload_n 0, 1) := by decide +kernel
theorem dX0_notePlaces_19 : decode cX0_notePlaces 19 = .ok (.getfield 15, 3) := by decide +kernel
theorem dX0_notePlaces_22 : decode cX0_notePlaces 22 = .ok (.aload_n 1, 1) := by decide +kernel
theorem dX0_notePlaces_23 : decode cX0_notePlaces 23 = .ok (.getfield 126, 3) := by decide +kernel
theorem dX0_notePlaces_26 : decode cX0_notePlaces 26 = .ok (.iload_n 2, 1) := by decide +kernel
theorem dX0_notePlaces_27 : decode cX0_notePlaces 27 = .ok (.iaload, 1) := by decide +kernel
theorem dX0_notePlaces_28 : decode cX0_notePlaces 28 = .ok (.aload_n 1, 1) := by decide +kernel
theorem dX0_notePlaces_29 : decode cX0_notePlaces 29 = .ok (.getfield 129, 3) := by decide +kernel
theorem dX0_notePlaces_32 : decode cX0_notePlaces 32 = .ok (.iload_n 2, 1) := by decide +kernel
theorem dX0_notePlaces_33 : decode cX0_notePlaces 33 = .ok (.iaload, 1) := by decide +kernel
theorem dX0_notePlaces_34 : decode cX0_notePlaces 34 = .ok (.invokestatic 46, 3) := by decide +kernel
theorem dX0_notePlaces_37 : decode cX0_notePlaces 37 = .ok (.iconst 1, 1) := by decide +kernel
theorem dX0_notePlaces_38 : decode cX0_notePlaces 38 = .ok (.iload_n 2, 1) := by decide +kernel
theorem dX0_notePlaces_39 : decode cX0_notePlaces 39 = .ok (.ishl, 1) := by decide +kernel
theorem dX0_notePlaces_40 : decode cX0_notePlaces 40 = .ok (.iastore, 1) := by decide +kernel
theorem dX0_notePlaces_41 : decode cX0_notePlaces 41 = .ok (.iinc 2 1, 3) := by decide +kernel
theorem dX0_notePlaces_44 : decode cX0_notePlaces 44 = .ok (.goto (-34), 3) := by decide +kernel
theorem dX0_notePlaces_47 : decode cX0_notePlaces 47 = .ok (.return_, 1) := by decide +kernel
set_option maxRecDepth 20000 in
theorem ggX0_noteSteps_X1_allPlaces : GoodIn wsX0_noteSteps wsX1_allPlaces := goodIn_r _ [7, 8, 35, 36, 37, 38, 39, 40, 41, 42, 43, 44] (by decide +kernel) (by decide +kernel)
set_option maxRecDepth 20000 in
theorem gX0_noteSteps_X1_allPlaces : GoodIn wsX0_noteSteps (wsV RX0 83 RX1 yX1_allPlaces wsX1_allPlaces) := goodIn_app (goodIn_of _ (by decide +kernel)) ggX0_noteSteps_X1_allPlaces
set_option maxRecDepth 20000 in
theorem ggX0_noteSteps_X1_amountOf : GoodIn wsX0_noteSteps wsX1_amountOf := goodIn_r _ [12, 8, 13, 35, 36, 37, 38, 39, 40, 41, 42, 43, 44] (by decide +kernel) (by decide +kernel)
set_option maxRecDepth 20000 in
theorem gX0_noteSteps_X1_amountOf : GoodIn wsX0_noteSteps (wsV RX0 132 RX1 yX1_amountOf wsX1_amountOf) := goodIn_app (goodIn_of _ (by decide +kernel)) ggX0_noteSteps_X1_amountOf
set_option maxRecDepth 20000 in
theorem ggX0_noteSteps_X1_inkOfStep : GoodIn wsX0_noteSteps wsX1_inkOfStep := goodIn_r _ [17, 18, 19, 20, 21, 6, 22, 23, 35, 36, 37, 38, 39, 40, 41, 42, 43, 44] (by decide +kernel) (by decide +kernel)
set_option maxRecDepth 20000 in
theorem gX0_noteSteps_X1_inkOfStep : GoodIn wsX0_noteSteps (wsV RX0 135 RX1 yX1_inkOfStep wsX1_inkOfStep) := goodIn_app (goodIn_of _ (by decide +kernel)) ggX0_noteSteps_X1_inkOfStep
theorem dX0_noteSteps_0 : decode cX0_noteSteps 0 = .ok (.iconst 1, 1) := by decide +kernel
theorem dX0_noteSteps_1 : decode cX0_noteSteps 1 = .ok (.istore_n 2, 1) := by decide +kernel
theorem dX0_noteSteps_2 : decode cX0_noteSteps 2 = .ok (.iload_n 2, 1) := by decide +kernel
theorem dX0_noteSteps_3 : decode cX0_noteSteps 3 = .ok (.aload_n 1, 1) := by decide +kernel
theorem dX0_noteSteps_4 : decode cX0_noteSteps 4 = .ok (.invokevirtual 83, 3) := by decide +kernel
theorem dX0_noteSteps_7 : decode cX0_noteSteps 7 = .ok (.if_icmp .gt 46, 3) := by decide +kernel
theorem dX0_noteSteps_10 : decode cX0_noteSteps 10 = .ok (.iload_n 2, 1) := by decide +kernel
theorem dX0_noteSteps_11 : decode cX0_noteSteps 11 = .ok (.sipush 128, 3) := by decide +kernel
theorem dX0_noteSteps_14 : decode cX0_noteSteps 14 = .ok (.if_icmp .ge 39, 3) := by decide +kernel
theorem dX0_noteSteps_17 : decode cX0_noteSteps 17 = .ok (.aload_n 1, 1) := by decide +kernel
theorem dX0_noteSteps_18 : decode cX0_noteSteps 18 = .ok (.iload_n 2, 1) := by decide +kernel
theorem dX0_noteSteps_19 : decode cX0_noteSteps 19 = .ok (.invokevirtual 132, 3) := by decide +kernel
theorem dX0_noteSteps_22 : decode cX0_noteSteps 22 = .ok (.istore_n 3, 1) := by decide +kernel
theorem dX0_noteSteps_23 : decode cX0_noteSteps 23 = .ok (.aload_n 0, 1) := by decide +kernel
theorem dX0_noteSteps_24 : decode cX0_noteSteps 24 = .ok (.getfield 21, 3) := by decide +kernel
theorem dX0_noteSteps_27 : decode cX0_noteSteps 27 = .ok (.iload_n 2, 1) := by decide +kernel
theorem dX0_noteSteps_28 : decode cX0_noteSteps 28 = .ok (.aload_n 1, 1) := by decide +kernel
theorem dX0_noteSteps_29 : decode cX0_noteSteps 29 = .ok (.iconst 0, 1) := by decide +kernel
theorem dX0_noteSteps_30 : decode cX0_noteSteps 30 = .ok (.iload_n 3, 1) := by decide +kernel
theorem dX0_noteSteps_31 : decode cX0_noteSteps 31 = .ok (.invokevirtual 135, 3) := by decide +kernel
theorem dX0_noteSteps_34 : decode cX0_noteSteps 34 = .ok (.iastore, 1) := by decide +kernel
theorem dX0_noteSteps_35 : decode cX0_noteSteps 35 = .ok (.aload_n 0, 1) := by decide +kernel
theorem dX0_noteSteps_36 : decode cX0_noteSteps 36 = .ok (.getfield 24, 3) := by decide +kernel
theorem dX0_noteSteps_39 : decode cX0_noteSteps 39 = .ok (.iload_n 2, 1) := by decide +kernel
theorem dX0_noteSteps_40 : decode cX0_noteSteps 40 = .ok (.aload_n 1, 1) := by decide +kernel
theorem dX0_noteSteps_41 : decode cX0_noteSteps 41 = .ok (.iconst 1, 1) := by decide +kernel
theorem dX0_noteSteps_42 : decode cX0_noteSteps 42 = .ok (.iload_n 3, 1) := by decide +kernel
theorem dX0_noteSteps_43 : decode cX0_noteSteps 43 = .ok (.invokevirtual 135, 3) := by decide +kernel
theorem dX0_noteSteps_46 : decode cX0_noteSteps 46 = .ok (.iastore, 1) := by decide +kernel
theorem dX0_noteSteps_47 : decode cX0_noteSteps 47 = .ok (.iinc 2 1, 3) := by decide +kernel
theorem dX0_noteSteps_50 : decode cX0_noteSteps 50 = .ok (.goto (-48), 3) := by decide +kernel
theorem dX0_noteSteps_53 : decode cX0_noteSteps 53 = .ok (.return_, 1) := by decide +kernel
set_option maxRecDepth 20000 in
theorem ggX0_reachingFromOutside_X6_cellOf : GoodIn wsX0_reachingFromOutside wsX6_cellOf := goodIn_r _ [5] (by decide +kernel) (by decide +kernel)
set_option maxRecDepth 20000 in
theorem gX0_reachingFromOutside_X6_cellOf_n46 : GoodIn wsX0_reachingFromOutside (wsX6_cellOf) := ggX0_reachingFromOutside_X6_cellOf
set_option maxRecDepth 20000 in
theorem ggX0_reachingFromOutside_X1_turnBeside : GoodIn wsX0_reachingFromOutside wsX1_turnBeside := goodIn_r _ [10, 11, 12, 13, 14, 15, 16, 17, 18, 19, 20, 21] (by decide +kernel) (by decide +kernel)
set_option maxRecDepth 20000 in
theorem gX0_reachingFromOutside_X1_turnBeside : GoodIn wsX0_reachingFromOutside (wsV RX0 108 RX1 yX1_turnBeside wsX1_turnBeside) := goodIn_app (goodIn_of _ (by decide +kernel)) ggX0_reachingFromOutside_X1_turnBeside
theorem dX0_reachingFromOutside_0 : decode cX0_reachingFromOutside 0 = .ok (.iload_n 2, 1) := by decide +kernel
theorem dX0_reachingFromOutside_1 : decode cX0_reachingFromOutside 1 = .ok (.aload_n 1, 1) := by decide +kernel
theorem dX0_reachingFromOutside_2 : decode cX0_reachingFromOutside 2 = .ok (.getfield 37, 3) := by decide +kernel
theorem dX0_reachingFromOutside_5 : decode cX0_reachingFromOutside 5 = .ok (.if_icmp .lt 5, 3) := by decide +kernel
theorem dX0_reachingFromOutside_8 : decode cX0_reachingFromOutside 8 = .ok (.iconst 0, 1) := by decide +kernel
theorem dX0_reachingFromOutside_9 : decode cX0_reachingFromOutside 9 = .ok (.ireturn, 1) := by decide +kernel
theorem dX0_reachingFromOutside_10 : decode cX0_reachingFromOutside 10 = .ok (.aload_n 0, 1) := by decide +kernel
theorem dX0_reachingFromOutside_11 : decode cX0_reachingFromOutside 11 = .ok (.getfield 9, 3) := by decide +kernel
theorem dX0_reachingFromOutside_14 : decode cX0_reachingFromOutside 14 = .ok (.iload_n 2, 1) := by decide +kernel
theorem dX0_reachingFromOutside_15 : decode cX0_reachingFromOutside 15 = .ok (.iconst 1, 1) := by decide +kernel
theorem dX0_reachingFromOutside_16 : decode cX0_reachingFromOutside 16 = .ok (.iadd, 1) := by decide +kernel
theorem dX0_reachingFromOutside_17 : decode cX0_reachingFromOutside 17 = .ok (.iload_n 3, 1) := by decide +kernel
theorem dX0_reachingFromOutside_18 : decode cX0_reachingFromOutside 18 = .ok (.invokestatic 46, 3) := by decide +kernel
theorem dX0_reachingFromOutside_21 : decode cX0_reachingFromOutside 21 = .ok (.iaload, 1) := by decide +kernel
theorem dX0_reachingFromOutside_22 : decode cX0_reachingFromOutside 22 = .ok (.aload_n 0, 1) := by decide +kernel
theorem dX0_reachingFromOutside_23 : decode cX0_reachingFromOutside 23 = .ok (.getfield 9, 3) := by decide +kernel
theorem dX0_reachingFromOutside_26 : decode cX0_reachingFromOutside 26 = .ok (.iload_n 2, 1) := by decide +kernel
theorem dX0_reachingFromOutside_27 : decode cX0_reachingFromOutside 27 = .ok (.iconst 1, 1) := by decide +kernel
theorem dX0_reachingFromOutside_28 : decode cX0_reachingFromOutside 28 = .ok (.iadd, 1) := by decide +kernel
theorem dX0_reachingFromOutside_29 : decode cX0_reachingFromOutside 29 = .ok (.aload_n 1, 1) := by decide +kernel
theorem dX0_reachingFromOutside_30 : decode cX0_reachingFromOutside 30 = .ok (.iload_n 3, 1) := by decide +kernel
theorem dX0_reachingFromOutside_31 : decode cX0_reachingFromOutside 31 = .ok (.iconst 1, 1) := by decide +kernel
theorem dX0_reachingFromOutside_32 : decode cX0_reachingFromOutside 32 = .ok (.invokevirtual 108, 3) := by decide +kernel
theorem dX0_reachingFromOutside_35 : decode cX0_reachingFromOutside 35 = .ok (.invokestatic 46, 3) := by decide +kernel
theorem dX0_reachingFromOutside_38 : decode cX0_reachingFromOutside 38 = .ok (.iaload, 1) := by decide +kernel
theorem dX0_reachingFromOutside_39 : decode cX0_reachingFromOutside 39 = .ok (.ior, 1) := by decide +kernel
theorem dX0_reachingFromOutside_40 : decode cX0_reachingFromOutside 40 = .ok (.aload_n 0, 1) := by decide +kernel
theorem dX0_reachingFromOutside_41 : decode cX0_reachingFromOutside 41 = .ok (.getfield 9, 3) := by decide +kernel
theorem dX0_reachingFromOutside_44 : decode cX0_reachingFromOutside 44 = .ok (.iload_n 2, 1) := by decide +kernel
theorem dX0_reachingFromOutside_45 : decode cX0_reachingFromOutside 45 = .ok (.iconst 1, 1) := by decide +kernel
theorem dX0_reachingFromOutside_46 : decode cX0_reachingFromOutside 46 = .ok (.iadd, 1) := by decide +kernel
theorem dX0_reachingFromOutside_47 : decode cX0_reachingFromOutside 47 = .ok (.aload_n 1, 1) := by decide +kernel
theorem dX0_reachingFromOutside_48 : decode cX0_reachingFromOutside 48 = .ok (.iload_n 3, 1) := by decide +kernel
theorem dX0_reachingFromOutside_49 : decode cX0_reachingFromOutside 49 = .ok (.iconst 2, 1) := by decide +kernel
theorem dX0_reachingFromOutside_50 : decode cX0_reachingFromOutside 50 = .ok (.invokevirtual 108, 3) := by decide +kernel
theorem dX0_reachingFromOutside_53 : decode cX0_reachingFromOutside 53 = .ok (.invokestatic 46, 3) := by decide +kernel
theorem dX0_reachingFromOutside_56 : decode cX0_reachingFromOutside 56 = .ok (.iaload, 1) := by decide +kernel
theorem dX0_reachingFromOutside_57 : decode cX0_reachingFromOutside 57 = .ok (.ior, 1) := by decide +kernel
theorem dX0_reachingFromOutside_58 : decode cX0_reachingFromOutside 58 = .ok (.ireturn, 1) := by decide +kernel
set_option maxRecDepth 20000 in
theorem ggX0_reachingSource_X6_cellOf : GoodIn wsX0_reachingSource wsX6_cellOf := goodIn_r _ [5] (by decide +kernel) (by decide +kernel)
set_option maxRecDepth 20000 in
theorem gX0_reachingSource_X6_cellOf_n46 : GoodIn wsX0_reachingSource (wsX6_cellOf) := ggX0_reachingSource_X6_cellOf
theorem dX0_reachingSource_0 : decode cX0_reachingSource 0 = .ok (.iconst 0, 1) := by decide +kernel
theorem dX0_reachingSource_1 : decode cX0_reachingSource 1 = .ok (.istore_n 2, 1) := by decide +kernel
theorem dX0_reachingSource_2 : decode cX0_reachingSource 2 = .ok (.iconst 0, 1) := by decide +kernel
theorem dX0_reachingSource_3 : decode cX0_reachingSource 3 = .ok (.istore_n 3, 1) := by decide +kernel
theorem dX0_reachingSource_4 : decode cX0_reachingSource 4 = .ok (.iload_n 3, 1) := by decide +kernel
theorem dX0_reachingSource_5 : decode cX0_reachingSource 5 = .ok (.aload_n 1, 1) := by decide +kernel
theorem dX0_reachingSource_6 : decode cX0_reachingSource 6 = .ok (.getfield 43, 3) := by decide +kernel
theorem dX0_reachingSource_9 : decode cX0_reachingSource 9 = .ok (.if_icmp .ge 22, 3) := by decide +kernel
theorem dX0_reachingSource_12 : decode cX0_reachingSource 12 = .ok (.iload_n 2, 1) := by decide +kernel
theorem dX0_reachingSource_13 : decode cX0_reachingSource 13 = .ok (.aload_n 0, 1) := by decide +kernel
theorem dX0_reachingSource_14 : decode cX0_reachingSource 14 = .ok (.getfield 9, 3) := by decide +kernel
theorem dX0_reachingSource_17 : decode cX0_reachingSource 17 = .ok (.iconst 1, 1) := by decide +kernel
theorem dX0_reachingSource_18 : decode cX0_reachingSource 18 = .ok (.iload_n 3, 1) := by decide +kernel
theorem dX0_reachingSource_19 : decode cX0_reachingSource 19 = .ok (.invokestatic 46, 3) := by decide +kernel
theorem dX0_reachingSource_22 : decode cX0_reachingSource 22 = .ok (.iaload, 1) := by decide +kernel
theorem dX0_reachingSource_23 : decode cX0_reachingSource 23 = .ok (.ior, 1) := by decide +kernel
theorem dX0_reachingSource_24 : decode cX0_reachingSource 24 = .ok (.istore_n 2, 1) := by decide +kernel
theorem dX0_reachingSource_25 : decode cX0_reachingSource 25 = .ok (.iinc 3 1, 3) := by decide +kernel
theorem dX0_reachingSource_28 : decode cX0_reachingSource 28 = .ok (.goto (-24), 3) := by decide +kernel
theorem dX0_reachingSource_31 : decode cX0_reachingSource 31 = .ok (.iload_n 2, 1) := by decide +kernel
theorem dX0_reachingSource_32 : decode cX0_reachingSource 32 = .ok (.ireturn, 1) := by decide +kernel
set_option maxRecDepth 20000 in
theorem ggX0_fillCell_X6_cellOf : GoodIn wsX0_fillCell wsX6_cellOf := goodIn_r _ [6] (by decide +kernel) (by decide +kernel)
set_option maxRecDepth 20000 in
theorem gX0_fillCell_X6_cellOf_n46 : GoodIn wsX0_fillCell (wsX6_cellOf) := ggX0_fillCell_X6_cellOf
set_option maxRecDepth 20000 in
theorem ggX0_fillCell_J6_bitCount_0f7a4 : GoodIn wsX0_fillCell wsJ6_bitCount_0f7a4 := goodIn_r _ [10, 11, 12, 13] (by decide +kernel) (by decide +kernel)
set_option maxRecDepth 20000 in
theorem gX0_fillCell_J6_bitCount_0f7a4 : GoodIn wsX0_fillCell (va_wsS RX0 111 yJ6_bitCount_0f7a4 wsJ6_bitCount_0f7a4) := goodIn_app (goodIn_of _ (by decide +kernel)) ggX0_fillCell_J6_bitCount_0f7a4
set_option maxRecDepth 20000 in
theorem ggX0_fillCell_X0_nextSubset : GoodIn wsX0_fillCell wsX0_nextSubset := goodIn_r _ [17] (by decide +kernel) (by decide +kernel)
set_option maxRecDepth 20000 in
theorem gX0_fillCell_X0_nextSubset : GoodIn wsX0_fillCell (va_wsS RX0 117 yX0_nextSubset wsX0_nextSubset) := goodIn_app (goodIn_of _ (by decide +kernel)) ggX0_fillCell_X0_nextSubset
set_option maxRecDepth 20000 in
theorem ggX0_fillCell_X0_choose : GoodIn wsX0_fillCell wsX0_choose := goodIn_r _ [21, 22, 3, 23, 24, 25, 26, 27, 28, 4, 5, 6, 29, 30, 31, 16, 32, 2, 7, 8, 9, 10, 11, 12, 13, 14, 15, 17, 33, 34, 35, 36, 37, 38, 39, 40, 41, 42, 1, 43, 44, 45, 46, 47, 48, 49, 50, 51, 52, 53, 54, 55, 56, 57, 58, 59, 60, 61, 62, 63, 64, 65, 66, 67, 68, 69] (by decide +kernel) (by decide +kernel)
set_option maxRecDepth 20000 in
theorem gX0_fillCell_X0_choose : GoodIn wsX0_fillCell (wsV RX0 138 RX0 yX0_choose wsX0_choose) := goodIn_app (goodIn_of _ (by decide +kernel)) ggX0_fillCell_X0_choose
theorem dX0_fillCell_0 : decode cX0_fillCell 0 = .ok (.iload_n 2, 1) := by decide +kernel
theorem dX0_fillCell_1 : decode cX0_fillCell 1 = .ok (.iload_n 3, 1) := by decide +kernel
theorem dX0_fillCell_2 : decode cX0_fillCell 2 = .ok (.invokestatic 46, 3) := by decide +kernel
theorem dX0_fillCell_5 : decode cX0_fillCell 5 = .ok (.istore 4, 2) := by decide +kernel
theorem dX0_fillCell_7 : decode cX0_fillCell 7 = .ok (.iconst 1, 1) := by decide +kernel
theorem dX0_fillCell_8 : decode cX0_fillCell 8 = .ok (.aload_n 0, 1) := by decide +kernel
theorem dX0_fillCell_9 : decode cX0_fillCell 9 = .ok (.getfield 9, 3) := by decide +kernel
theorem dX0_fillCell_12 : decode cX0_fillCell 12 = .ok (.iload 4, 2) := by decide +kernel
theorem dX0_fillCell_14 : decode cX0_fillCell 14 = .ok (.iaload, 1) := by decide +kernel
theorem dX0_fillCell_15 : decode cX0_fillCell 15 = .ok (.invokestatic 111, 3) := by decide +kernel
theorem dX0_fillCell_18 : decode cX0_fillCell 18 = .ok (.ishl, 1) := by decide +kernel
theorem dX0_fillCell_19 : decode cX0_fillCell 19 = .ok (.istore 5, 2) := by decide +kernel
theorem dX0_fillCell_21 : decode cX0_fillCell 21 = .ok (.iconst 0, 1) := by decide +kernel
theorem dX0_fillCell_22 : decode cX0_fillCell 22 = .ok (.istore 6, 2) := by decide +kernel
theorem dX0_fillCell_24 : decode cX0_fillCell 24 = .ok (.iconst 1, 1) := by decide +kernel
theorem dX0_fillCell_25 : decode cX0_fillCell 25 = .ok (.istore 7, 2) := by decide +kernel
theorem dX0_fillCell_27 : decode cX0_fillCell 27 = .ok (.iload 7, 2) := by decide +kernel
theorem dX0_fillCell_29 : decode cX0_fillCell 29 = .ok (.iload 5, 2) := by decide +kernel
theorem dX0_fillCell_31 : decode cX0_fillCell 31 = .ok (.if_icmp .ge 50, 3) := by decide +kernel
theorem dX0_fillCell_34 : decode cX0_fillCell 34 = .ok (.iload 6, 2) := by decide +kernel
theorem dX0_fillCell_36 : decode cX0_fillCell 36 = .ok (.aload_n 0, 1) := by decide +kernel
theorem dX0_fillCell_37 : decode cX0_fillCell 37 = .ok (.getfield 9, 3) := by decide +kernel
theorem dX0_fillCell_40 : decode cX0_fillCell 40 = .ok (.iload 4, 2) := by decide +kernel
theorem dX0_fillCell_42 : decode cX0_fillCell 42 = .ok (.iaload, 1) := by decide +kernel
theorem dX0_fillCell_43 : decode cX0_fillCell 43 = .ok (.invokestatic 117, 3) := by decide +kernel
theorem dX0_fillCell_46 : decode cX0_fillCell 46 = .ok (.istore 6, 2) := by decide +kernel
theorem dX0_fillCell_48 : decode cX0_fillCell 48 = .ok (.aload_n 0, 1) := by decide +kernel
theorem dX0_fillCell_49 : decode cX0_fillCell 49 = .ok (.aload_n 1, 1) := by decide +kernel
theorem dX0_fillCell_50 : decode cX0_fillCell 50 = .ok (.iload_n 2, 1) := by decide +kernel
theorem dX0_fillCell_51 : decode cX0_fillCell 51 = .ok (.iload_n 3, 1) := by decide +kernel
theorem dX0_fillCell_52 : decode cX0_fillCell 52 = .ok (.iload 6, 2) := by decide +kernel
theorem dX0_fillCell_54 : decode cX0_fillCell 54 = .ok (.invokevirtual 138, 3) := by decide +kernel
theorem dX0_fillCell_57 : decode cX0_fillCell 57 = .ok (.aload_n 0, 1) := by decide +kernel
theorem dX0_fillCell_58 : decode cX0_fillCell 58 = .ok (.getfield 18, 3) := by decide +kernel
theorem dX0_fillCell_61 : decode cX0_fillCell 61 = .ok (.iload 4, 2) := by decide +kernel
theorem dX0_fillCell_63 : decode cX0_fillCell 63 = .ok (.sipush 128, 3) := by decide +kernel
theorem dX0_fillCell_66 : decode cX0_fillCell 66 = .ok (.imul, 1) := by decide +kernel
theorem dX0_fillCell_67 : decode cX0_fillCell 67 = .ok (.iload 6, 2) := by decide +kernel
theorem dX0_fillCell_69 : decode cX0_fillCell 69 = .ok (.iadd, 1) := by decide +kernel
theorem dX0_fillCell_70 : decode cX0_fillCell 70 = .ok (.aload_n 0, 1) := by decide +kernel
theorem dX0_fillCell_71 : decode cX0_fillCell 71 = .ok (.getfield 88, 3) := by decide +kernel
theorem dX0_fillCell_74 : decode cX0_fillCell 74 = .ok (.iastore, 1) := by decide +kernel
theorem dX0_fillCell_75 : decode cX0_fillCell 75 = .ok (.iinc 7 1, 3) := by decide +kernel
theorem dX0_fillCell_78 : decode cX0_fillCell 78 = .ok (.goto (-51), 3) := by decide +kernel
theorem dX0_fillCell_81 : decode cX0_fillCell 81 = .ok (.return_, 1) := by decide +kernel
set_option maxRecDepth 20000 in
theorem ggX0_unfold_X6_cellOf : GoodIn wsX0_unfold wsX6_cellOf := goodIn_r _ [9] (by decide +kernel) (by decide +kernel)
set_option maxRecDepth 20000 in
theorem gX0_unfold_X6_cellOf_n46 : GoodIn wsX0_unfold (wsX6_cellOf) := ggX0_unfold_X6_cellOf
set_option maxRecDepth 20000 in
theorem ggX0_unfold_X0_choose : GoodIn wsX0_unfold wsX0_choose := goodIn_r _ [14, 15, 16, 3, 4, 6, 17, 18, 19, 7, 8, 9, 20, 21, 22, 13, 23, 24, 25, 26, 27, 28, 29, 30, 31, 32, 33, 34, 35, 36, 37, 38, 39, 40, 41, 42, 43, 44, 45, 46, 47, 48, 49, 50, 51, 52, 53, 54, 55, 56, 57, 58, 59, 60, 61, 62, 68, 69, 70, 71, 72, 73, 74, 75, 76, 77] (by decide +kernel) (by decide +kernel)
set_option maxRecDepth 20000 in
theorem gX0_unfold_X0_choose : GoodIn wsX0_unfold (wsV RX0 138 RX0 yX0_choose wsX0_choose) := goodIn_app (goodIn_of _ (by decide +kernel)) ggX0_unfold_X0_choose
theorem dX0_unfold_0 : decode cX0_unfold 0 = .ok (.aload_n 0, 1) := by decide +kernel
theorem dX0_unfold_1 : decode cX0_unfold 1 = .ok (.getfield 27, 3) := by decide +kernel
theorem dX0_unfold_4 : decode cX0_unfold 4 = .ok (.iconst 0, 1) := by decide +kernel
theorem dX0_unfold_5 : decode cX0_unfold 5 = .ok (.aload_n 2, 1) := by decide +kernel
theorem dX0_unfold_6 : decode cX0_unfold 6 = .ok (.getfield 142, 3) := by decide +kernel
theorem dX0_unfold_9 : decode cX0_unfold 9 = .ok (.iload_n 3, 1) := by decide +kernel
theorem dX0_unfold_10 : decode cX0_unfold 10 = .ok (.iload 4, 2) := by decide +kernel
theorem dX0_unfold_12 : decode cX0_unfold 12 = .ok (.invokestatic 46, 3) := by decide +kernel
theorem dX0_unfold_15 : decode cX0_unfold 15 = .ok (.iaload, 1) := by decide +kernel
theorem dX0_unfold_16 : decode cX0_unfold 16 = .ok (.iastore, 1) := by decide +kernel
theorem dX0_unfold_17 : decode cX0_unfold 17 = .ok (.aload_n 0, 1) := by decide +kernel
theorem dX0_unfold_18 : decode cX0_unfold 18 = .ok (.getfield 27, 3) := by decide +kernel
theorem dX0_unfold_21 : decode cX0_unfold 21 = .ok (.iconst 0, 1) := by decide +kernel
theorem dX0_unfold_22 : decode cX0_unfold 22 = .ok (.iaload, 1) := by decide +kernel
theorem dX0_unfold_23 : decode cX0_unfold 23 = .ok (.ifCond .ne 7, 3) := by decide +kernel
theorem dX0_unfold_26 : decode cX0_unfold 26 = .ok (.iconst 0, 1) := by decide +kernel
theorem dX0_unfold_27 : decode cX0_unfold 27 = .ok (.goto 4, 3) := by decide +kernel
theorem dX0_unfold_30 : decode cX0_unfold 30 = .ok (.iconst 1, 1) := by decide +kernel
theorem dX0_unfold_31 : decode cX0_unfold 31 = .ok (.istore 5, 2) := by decide +kernel
theorem dX0_unfold_33 : decode cX0_unfold 33 = .ok (.iconst 0, 1) := by decide +kernel
theorem dX0_unfold_34 : decode cX0_unfold 34 = .ok (.istore 6, 2) := by decide +kernel
theorem dX0_unfold_36 : decode cX0_unfold 36 = .ok (.iload 6, 2) := by decide +kernel
theorem dX0_unfold_38 : decode cX0_unfold 38 = .ok (.bipush 14, 2) := by decide +kernel
theorem dX0_unfold_40 : decode cX0_unfold 40 = .ok (.if_icmp .ge 120, 3) := by decide +kernel
theorem dX0_unfold_43 : decode cX0_unfold 43 = .ok (.iload 5, 2) := by decide +kernel
theorem dX0_unfold_45 : decode cX0_unfold 45 = .ok (.ifCond .le 115, 3) := by decide +kernel
theorem dX0_unfold_48 : decode cX0_unfold 48 = .ok (.iinc 5 (-1), 3) := by decide +kernel
theorem dX0_unfold_51 : decode cX0_unfold 51 = .ok (.aload_n 0, 1) := by decide +kernel
theorem dX0_unfold_52 : decode cX0_unfold 52 = .ok (.getfield 27, 3) := by decide +kernel
theorem dX0_unfold_55 : decode cX0_unfold 55 = .ok (.iload 5, 2) := by decide +kernel
theorem dX0_unfold_57 : decode cX0_unfold 57 = .ok (.iaload, 1) := by decide +kernel
theorem dX0_unfold_58 : decode cX0_unfold 58 = .ok (.istore 7, 2) := by decide +kernel
theorem dX0_unfold_60 : decode cX0_unfold 60 = .ok (.aload_n 0, 1) := by decide +kernel
theorem dX0_unfold_61 : decode cX0_unfold 61 = .ok (.aload_n 1, 1) := by decide +kernel
theorem dX0_unfold_62 : decode cX0_unfold 62 = .ok (.iload_n 3, 1) := by decide +kernel
theorem dX0_unfold_63 : decode cX0_unfold 63 = .ok (.iload 4, 2) := by decide +kernel
theorem dX0_unfold_65 : decode cX0_unfold 65 = .ok (.iload 7, 2) := by decide +kernel
theorem dX0_unfold_67 : decode cX0_unfold 67 = .ok (.invokevirtual 138, 3) := by decide +kernel
theorem dX0_unfold_70 : decode cX0_unfold 70 = .ok (.aload_n 0, 1) := by decide +kernel
theorem dX0_unfold_71 : decode cX0_unfold 71 = .ok (.getfield 91, 3) := by decide +kernel
theorem dX0_unfold_74 : decode cX0_unfold 74 = .ok (.ifCond .eq 48, 3) := by decide +kernel
theorem dX0_unfold_77 : decode cX0_unfold 77 = .ok (.iload 5, 2) := by decide +kernel
theorem dX0_unfold_79 : decode cX0_unfold 79 = .ok (.iconst 2, 1) := by decide +kernel
theorem dX0_unfold_80 : decode cX0_unfold 80 = .ok (.iadd, 1) := by decide +kernel
theorem dX0_unfold_81 : decode cX0_unfold 81 = .ok (.aload_n 0, 1) := by decide +kernel
theorem dX0_unfold_82 : decode cX0_unfold 82 = .ok (.getfield 27, 3) := by decide +kernel
theorem dX0_unfold_85 : decode cX0_unfold 85 = .ok (.arraylength, 1) := by decide +kernel
theorem dX0_unfold_86 : decode cX0_unfold 86 = .ok (.if_icmp .gt 36, 3) := by decide +kernel
theorem dX0_unfold_89 : decode cX0_unfold 89 = .ok (.aload_n 0, 1) := by decide +kernel
theorem dX0_unfold_90 : decode cX0_unfold 90 = .ok (.getfield 27, 3) := by decide +kernel
theorem dX0_unfold_93 : decode cX0_unfold 93 = .ok (.iload 5, 2) := by decide +kernel
theorem dX0_unfold_95 : decode cX0_unfold 95 = .ok (.aload_n 0, 1) := by decide +kernel
theorem dX0_unfold_96 : decode cX0_unfold 96 = .ok (.getfield 91, 3) := by decide +kernel
theorem dX0_unfold_99 : decode cX0_unfold 99 = .ok (.iastore, 1) := by decide +kernel
theorem dX0_unfold_100 : decode cX0_unfold 100 = .ok (.aload_n 0, 1) := by decide +kernel
theorem dX0_unfold_101 : decode cX0_unfold 101 = .ok (.getfield 27, 3) := by decide +kernel
theorem dX0_unfold_104 : decode cX0_unfold 104 = .ok (.iload 5, 2) := by decide +kernel
theorem dX0_unfold_106 : decode cX0_unfold 106 = .ok (.iconst 1, 1) := by decide +kernel
theorem dX0_unfold_107 : decode cX0_unfold 107 = .ok (.iadd, 1) := by decide +kernel
theorem dX0_unfold_108 : decode cX0_unfold 108 = .ok (.iload 7, 2) := by decide +kernel
theorem dX0_unfold_110 : decode cX0_unfold 110 = .ok (.aload_n 0, 1) := by decide +kernel
theorem dX0_unfold_111 : decode cX0_unfold 111 = .ok (.getfield 91, 3) := by decide +kernel
theorem dX0_unfold_114 : decode cX0_unfold 114 = .ok (.ixor, 1) := by decide +kernel
theorem dX0_unfold_115 : decode cX0_unfold 115 = .ok (.iastore, 1) := by decide +kernel
theorem dX0_unfold_116 : decode cX0_unfold 116 = .ok (.iinc 5 2, 3) := by decide +kernel
theorem dX0_unfold_119 : decode cX0_unfold 119 = .ok (.goto 35, 3) := by decide +kernel
theorem dX0_unfold_122 : decode cX0_unfold 122 = .ok (.aload_n 0, 1) := by decide +kernel
theorem dX0_unfold_123 : decode cX0_unfold 123 = .ok (.getfield 94, 3) := by decide +kernel
theorem dX0_unfold_126 : decode cX0_unfold 126 = .ok (.iconst (-1), 1) := by decide +kernel
theorem dX0_unfold_127 : decode cX0_unfold 127 = .ok (.if_icmp .eq 27, 3) := by decide +kernel
theorem dX0_unfold_130 : decode cX0_unfold 130 = .ok (.aload_n 2, 1) := by decide +kernel
theorem dX0_unfold_131 : decode cX0_unfold 131 = .ok (.getfield 142, 3) := by decide +kernel
theorem dX0_unfold_134 : decode cX0_unfold 134 = .ok (.aload_n 0, 1) := by decide +kernel
theorem dX0_unfold_135 : decode cX0_unfold 135 = .ok (.getfield 94, 3) := by decide +kernel
theorem dX0_unfold_138 : decode cX0_unfold 138 = .ok (.iload 7, 2) := by decide +kernel
theorem dX0_unfold_140 : decode cX0_unfold 140 = .ok (.iastore, 1) := by decide +kernel
theorem dX0_unfold_141 : decode cX0_unfold 141 = .ok (.aload_n 2, 1) := by decide +kernel
theorem dX0_unfold_142 : decode cX0_unfold 142 = .ok (.getfield 147, 3) := by decide +kernel
theorem dX0_unfold_145 : decode cX0_unfold 145 = .ok (.aload_n 0, 1) := by decide +kernel
theorem dX0_unfold_146 : decode cX0_unfold 146 = .ok (.getfield 94, 3) := by decide +kernel
theorem dX0_unfold_149 : decode cX0_unfold 149 = .ok (.aload_n 0, 1) := by decide +kernel
theorem dX0_unfold_150 : decode cX0_unfold 150 = .ok (.getfield 97, 3) := by decide +kernel
theorem dX0_unfold_153 : decode cX0_unfold 153 = .ok (.iastore, 1) := by decide +kernel
theorem dX0_unfold_154 : decode cX0_unfold 154 = .ok (.iinc 6 1, 3) := by decide +kernel
theorem dX0_unfold_157 : decode cX0_unfold 157 = .ok (.goto (-121), 3) := by decide +kernel
theorem dX0_unfold_160 : decode cX0_unfold 160 = .ok (.return_, 1) := by decide +kernel
theorem dX0_nextSubset_0 : decode cX0_nextSubset 0 = .ok (.iload_n 0, 1) := by decide +kernel
theorem dX0_nextSubset_1 : decode cX0_nextSubset 1 = .ok (.iload_n 1, 1) := by decide +kernel
theorem dX0_nextSubset_2 : decode cX0_nextSubset 2 = .ok (.isub, 1) := by decide +kernel
theorem dX0_nextSubset_3 : decode cX0_nextSubset 3 = .ok (.iload_n 1, 1) := by decide +kernel
theorem dX0_nextSubset_4 : decode cX0_nextSubset 4 = .ok (.iand, 1) := by decide +kernel
theorem dX0_nextSubset_5 : decode cX0_nextSubset 5 = .ok (.ireturn, 1) := by decide +kernel
set_option maxRecDepth 20000 in
theorem ggX1_init_X1_beginAnew : GoodIn wsX1_init wsX1_beginAnew := goodIn_r _ [14, 15, 16, 17, 18, 19, 20, 13, 21, 22, 23, 24, 9, 25, 26, 27, 28, 29, 30, 31, 32, 33, 34] (by decide +kernel) (by decide +kernel)
set_option maxRecDepth 20000 in
theorem gX1_init_X1_beginAnew : GoodIn wsX1_init (wsV RX1 25 RX1 yX1_beginAnew wsX1_beginAnew) := goodIn_app (goodIn_of _ (by decide +kernel)) ggX1_init_X1_beginAnew
theorem dX1_init_0 : decode cX1_init 0 = .ok (.aload_n 0, 1) := by decide +kernel
theorem dX1_init_1 : decode cX1_init 1 = .ok (.invokespecial 3, 3) := by decide +kernel
theorem dX1_init_4 : decode cX1_init 4 = .ok (.aload_n 0, 1) := by decide +kernel
theorem dX1_init_5 : decode cX1_init 5 = .ok (.bipush 7, 2) := by decide +kernel
theorem dX1_init_7 : decode cX1_init 7 = .ok (.newarray .int, 2) := by decide +kernel
theorem dX1_init_9 : decode cX1_init 9 = .ok (.putfield 9, 3) := by decide +kernel
theorem dX1_init_12 : decode cX1_init 12 = .ok (.aload_n 0, 1) := by decide +kernel
theorem dX1_init_13 : decode cX1_init 13 = .ok (.bipush 7, 2) := by decide +kernel
theorem dX1_init_15 : decode cX1_init 15 = .ok (.newarray .int, 2) := by decide +kernel
theorem dX1_init_17 : decode cX1_init 17 = .ok (.putfield 15, 3) := by decide +kernel
theorem dX1_init_20 : decode cX1_init 20 = .ok (.aload_n 0, 1) := by decide +kernel
theorem dX1_init_21 : decode cX1_init 21 = .ok (.bipush 7, 2) := by decide +kernel
theorem dX1_init_23 : decode cX1_init 23 = .ok (.newarray .int, 2) := by decide +kernel
theorem dX1_init_25 : decode cX1_init 25 = .ok (.putfield 18, 3) := by decide +kernel
theorem dX1_init_28 : decode cX1_init 28 = .ok (.aload_n 0, 1) := by decide +kernel
theorem dX1_init_29 : decode cX1_init 29 = .ok (.sipush 240, 3) := by decide +kernel
theorem dX1_init_32 : decode cX1_init 32 = .ok (.newarray .boolean, 2) := by decide +kernel
theorem dX1_init_34 : decode cX1_init 34 = .ok (.putfield 21, 3) := by decide +kernel
theorem dX1_init_37 : decode cX1_init 37 = .ok (.aload_n 0, 1) := by decide +kernel
theorem dX1_init_38 : decode cX1_init 38 = .ok (.iconst 5, 1) := by decide +kernel
theorem dX1_init_39 : decode cX1_init 39 = .ok (.bipush 12, 2) := by decide +kernel
theorem dX1_init_41 : decode cX1_init 41 = .ok (.invokevirtual 25, 3) := by decide +kernel
theorem dX1_init_44 : decode cX1_init 44 = .ok (.return_, 1) := by decide +kernel
set_option maxRecDepth 20000 in
theorem ggX1_beginAnew_X1_clear : GoodIn wsX1_beginAnew wsX1_clear := goodIn_r _ [8, 9, 10, 11, 12, 13, 14, 15, 16, 17, 18, 19, 20, 21, 22] (by decide +kernel) (by decide +kernel)
set_option maxRecDepth 20000 in
theorem gX1_beginAnew_X1_clear : GoodIn wsX1_beginAnew (wsV RX1 29 RX1 yX1_clear wsX1_clear) := goodIn_app (goodIn_of _ (by decide +kernel)) ggX1_beginAnew_X1_clear
theorem dX1_beginAnew_0 : decode cX1_beginAnew 0 = .ok (.aload_n 0, 1) := by decide +kernel
theorem dX1_beginAnew_1 : decode cX1_beginAnew 1 = .ok (.iload_n 1, 1) := by decide +kernel
theorem dX1_beginAnew_2 : decode cX1_beginAnew 2 = .ok (.iload_n 2, 1) := by decide +kernel
theorem dX1_beginAnew_3 : decode cX1_beginAnew 3 = .ok (.invokevirtual 29, 3) := by decide +kernel
theorem dX1_beginAnew_6 : decode cX1_beginAnew 6 = .ok (.aload_n 0, 1) := by decide +kernel
theorem dX1_beginAnew_7 : decode cX1_beginAnew 7 = .ok (.bipush 10, 2) := by decide +kernel
theorem dX1_beginAnew_9 : decode cX1_beginAnew 9 = .ok (.putfield 32, 3) := by decide +kernel
theorem dX1_beginAnew_12 : decode cX1_beginAnew 12 = .ok (.aload_n 0, 1) := by decide +kernel
theorem dX1_beginAnew_13 : decode cX1_beginAnew 13 = .ok (.iconst 4, 1) := by decide +kernel
theorem dX1_beginAnew_14 : decode cX1_beginAnew 14 = .ok (.putfield 36, 3) := by decide +kernel
theorem dX1_beginAnew_17 : decode cX1_beginAnew 17 = .ok (.aload_n 0, 1) := by decide +kernel
theorem dX1_beginAnew_18 : decode cX1_beginAnew 18 = .ok (.iconst 3, 1) := by decide +kernel
theorem dX1_beginAnew_19 : decode cX1_beginAnew 19 = .ok (.putfield 39, 3) := by decide +kernel
theorem dX1_beginAnew_22 : decode cX1_beginAnew 22 = .ok (.return_, 1) := by decide +kernel
theorem dX1_clear_0 : decode cX1_clear 0 = .ok (.aload_n 0, 1) := by decide +kernel
theorem dX1_clear_1 : decode cX1_clear 1 = .ok (.iload_n 1, 1) := by decide +kernel
theorem dX1_clear_2 : decode cX1_clear 2 = .ok (.putfield 42, 3) := by decide +kernel
theorem dX1_clear_5 : decode cX1_clear 5 = .ok (.aload_n 0, 1) := by decide +kernel
theorem dX1_clear_6 : decode cX1_clear 6 = .ok (.iload_n 2, 1) := by decide +kernel
theorem dX1_clear_7 : decode cX1_clear 7 = .ok (.putfield 45, 3) := by decide +kernel
theorem dX1_clear_10 : decode cX1_clear 10 = .ok (.aload_n 0, 1) := by decide +kernel
theorem dX1_clear_11 : decode cX1_clear 11 = .ok (.iconst 0, 1) := by decide +kernel
theorem dX1_clear_12 : decode cX1_clear 12 = .ok (.putfield 48, 3) := by decide +kernel
theorem dX1_clear_15 : decode cX1_clear 15 = .ok (.iconst 0, 1) := by decide +kernel
theorem dX1_clear_16 : decode cX1_clear 16 = .ok (.istore_n 3, 1) := by decide +kernel
theorem dX1_clear_17 : decode cX1_clear 17 = .ok (.iload_n 3, 1) := by decide +kernel
theorem dX1_clear_18 : decode cX1_clear 18 = .ok (.sipush 240, 3) := by decide +kernel
theorem dX1_clear_21 : decode cX1_clear 21 = .ok (.if_icmp .ge 16, 3) := by decide +kernel
theorem dX1_clear_24 : decode cX1_clear 24 = .ok (.aload_n 0, 1) := by decide +kernel
theorem dX1_clear_25 : decode cX1_clear 25 = .ok (.getfield 21, 3) := by decide +kernel
theorem dX1_clear_28 : decode cX1_clear 28 = .ok (.iload_n 3, 1) := by decide +kernel
theorem dX1_clear_29 : decode cX1_clear 29 = .ok (.iconst 0, 1) := by decide +kernel
theorem dX1_clear_30 : decode cX1_clear 30 = .ok (.bastore, 1) := by decide +kernel
theorem dX1_clear_31 : decode cX1_clear 31 = .ok (.iinc 3 1, 3) := by decide +kernel
theorem dX1_clear_34 : decode cX1_clear 34 = .ok (.goto (-17), 3) := by decide +kernel
theorem dX1_clear_37 : decode cX1_clear 37 = .ok (.return_, 1) := by decide +kernel
set_option maxRecDepth 20000 in
theorem ggX1_hasCell_X6_isWithin : GoodIn wsX1_hasCell wsX6_isWithin := goodIn_r _ [5] (by decide +kernel) (by decide +kernel)
set_option maxRecDepth 20000 in
theorem gX1_hasCell_X6_isWithin_n51 : GoodIn wsX1_hasCell (wsX6_isWithin) := ggX1_hasCell_X6_isWithin
theorem dX1_hasCell_0 : decode cX1_hasCell 0 = .ok (.iload_n 1, 1) := by decide +kernel
theorem dX1_hasCell_1 : decode cX1_hasCell 1 = .ok (.iconst 1, 1) := by decide +kernel
theorem dX1_hasCell_2 : decode cX1_hasCell 2 = .ok (.aload_n 0, 1) := by decide +kernel
theorem dX1_hasCell_3 : decode cX1_hasCell 3 = .ok (.getfield 42, 3) := by decide +kernel
theorem dX1_hasCell_6 : decode cX1_hasCell 6 = .ok (.invokestatic 51, 3) := by decide +kernel
theorem dX1_hasCell_9 : decode cX1_hasCell 9 = .ok (.ifCond .eq 21, 3) := by decide +kernel
theorem dX1_hasCell_12 : decode cX1_hasCell 12 = .ok (.iload_n 2, 1) := by decide +kernel
theorem dX1_hasCell_13 : decode cX1_hasCell 13 = .ok (.iconst 0, 1) := by decide +kernel
theorem dX1_hasCell_14 : decode cX1_hasCell 14 = .ok (.aload_n 0, 1) := by decide +kernel
theorem dX1_hasCell_15 : decode cX1_hasCell 15 = .ok (.getfield 45, 3) := by decide +kernel
theorem dX1_hasCell_18 : decode cX1_hasCell 18 = .ok (.iconst 1, 1) := by decide +kernel
theorem dX1_hasCell_19 : decode cX1_hasCell 19 = .ok (.isub, 1) := by decide +kernel
theorem dX1_hasCell_20 : decode cX1_hasCell 20 = .ok (.invokestatic 51, 3) := by decide +kernel
theorem dX1_hasCell_23 : decode cX1_hasCell 23 = .ok (.ifCond .eq 7, 3) := by decide +kernel
theorem dX1_hasCell_26 : decode cX1_hasCell 26 = .ok (.iconst 1, 1) := by decide +kernel
theorem dX1_hasCell_27 : decode cX1_hasCell 27 = .ok (.goto 4, 3) := by decide +kernel
theorem dX1_hasCell_30 : decode cX1_hasCell 30 = .ok (.iconst 0, 1) := by decide +kernel
theorem dX1_hasCell_31 : decode cX1_hasCell 31 = .ok (.ireturn, 1) := by decide +kernel
set_option maxRecDepth 20000 in
theorem ggX1_hasCellOrSource_X1_hasCell : GoodIn wsX1_hasCellOrSource wsX1_hasCell := goodIn_r _ [5, 6, 7, 8, 9, 10, 11, 12, 13, 14, 15, 16, 17, 18, 19, 20] (by decide +kernel) (by decide +kernel)
set_option maxRecDepth 20000 in
theorem gX1_hasCellOrSource_X1_hasCell : GoodIn wsX1_hasCellOrSource (wsV RX1 55 RX1 yX1_hasCell wsX1_hasCell) := goodIn_app (goodIn_of _ (by decide +kernel)) ggX1_hasCellOrSource_X1_hasCell
theorem dX1_hasCellOrSource_0 : decode cX1_hasCellOrSource 0 = .ok (.aload_n 0, 1) := by decide +kernel
theorem dX1_hasCellOrSource_1 : decode cX1_hasCellOrSource 1 = .ok (.iload_n 1, 1) := by decide +kernel
theorem dX1_hasCellOrSource_2 : decode cX1_hasCellOrSource 2 = .ok (.iload_n 2, 1) := by decide +kernel
theorem dX1_hasCellOrSource_3 : decode cX1_hasCellOrSource 3 = .ok (.invokevirtual 55, 3) := by decide +kernel
theorem dX1_hasCellOrSource_6 : decode cX1_hasCellOrSource 6 = .ok (.ifCond .ne 11, 3) := by decide +kernel
theorem dX1_hasCellOrSource_9 : decode cX1_hasCellOrSource 9 = .ok (.iload_n 1, 1) := by decide +kernel
theorem dX1_hasCellOrSource_10 : decode cX1_hasCellOrSource 10 = .ok (.ifCond .ne 11, 3) := by decide +kernel
theorem dX1_hasCellOrSource_13 : decode cX1_hasCellOrSource 13 = .ok (.iload_n 2, 1) := by decide +kernel
theorem dX1_hasCellOrSource_14 : decode cX1_hasCellOrSource 14 = .ok (.ifCond .ne 7, 3) := by decide +kernel
theorem dX1_hasCellOrSource_17 : decode cX1_hasCellOrSource 17 = .ok (.iconst 1, 1) := by decide +kernel
theorem dX1_hasCellOrSource_18 : decode cX1_hasCellOrSource 18 = .ok (.goto 4, 3) := by decide +kernel
theorem dX1_hasCellOrSource_21 : decode cX1_hasCellOrSource 21 = .ok (.iconst 0, 1) := by decide +kernel
theorem dX1_hasCellOrSource_22 : decode cX1_hasCellOrSource 22 = .ok (.ireturn, 1) := by decide +kernel
theorem dX1_placeAt_0 : decode cX1_placeAt 0 = .ok (.iconst 0, 1) := by decide +kernel
theorem dX1_placeAt_1 : decode cX1_placeAt 1 = .ok (.istore_n 3, 1) := by decide +kernel
theorem dX1_placeAt_2 : decode cX1_placeAt 2 = .ok (.iload_n 3, 1) := by decide +kernel
theorem dX1_placeAt_3 : decode cX1_placeAt 3 = .ok (.aload_n 0, 1) := by decide +kernel
theorem dX1_placeAt_4 : decode cX1_placeAt 4 = .ok (.getfield 48, 3) := by decide +kernel
theorem dX1_placeAt_7 : decode cX1_placeAt 7 = .ok (.if_icmp .ge 31, 3) := by decide +kernel
theorem dX1_placeAt_10 : decode cX1_placeAt 10 = .ok (.aload_n 0, 1) := by decide +kernel
theorem dX1_placeAt_11 : decode cX1_placeAt 11 = .ok (.getfield 9, 3) := by decide +kernel
theorem dX1_placeAt_14 : decode cX1_placeAt 14 = .ok (.iload_n 3, 1) := by decide +kernel
theorem dX1_placeAt_15 : decode cX1_placeAt 15 = .ok (.iaload, 1) := by decide +kernel
theorem dX1_placeAt_16 : decode cX1_placeAt 16 = .ok (.iload_n 1, 1) := by decide +kernel
theorem dX1_placeAt_17 : decode cX1_placeAt 17 = .ok (.if_icmp .ne 15, 3) := by decide +kernel
theorem dX1_placeAt_20 : decode cX1_placeAt 20 = .ok (.aload_n 0, 1) := by decide +kernel
theorem dX1_placeAt_21 : decode cX1_placeAt 21 = .ok (.getfield 15, 3) := by decide +kernel
theorem dX1_placeAt_24 : decode cX1_placeAt 24 = .ok (.iload_n 3, 1) := by decide +kernel
theorem dX1_placeAt_25 : decode cX1_placeAt 25 = .ok (.iaload, 1) := by decide +kernel
theorem dX1_placeAt_26 : decode cX1_placeAt 26 = .ok (.iload_n 2, 1) := by decide +kernel
theorem dX1_placeAt_27 : decode cX1_placeAt 27 = .ok (.if_icmp .ne 5, 3) := by decide +kernel
theorem dX1_placeAt_30 : decode cX1_placeAt 30 = .ok (.iload_n 3, 1) := by decide +kernel
theorem dX1_placeAt_31 : decode cX1_placeAt 31 = .ok (.ireturn, 1) := by decide +kernel
theorem dX1_placeAt_32 : decode cX1_placeAt 32 = .ok (.iinc 3 1, 3) := by decide +kernel
theorem dX1_placeAt_35 : decode cX1_placeAt 35 = .ok (.goto (-33), 3) := by decide +kernel
theorem dX1_placeAt_38 : decode cX1_placeAt 38 = .ok (.iconst (-1), 1) := by decide +kernel
theorem dX1_placeAt_39 : decode cX1_placeAt 39 = .ok (.ireturn, 1) := by decide +kernel
theorem dX1_isPlaceBehind_0 : decode cX1_isPlaceBehind 0 = .ok (.aload_n 0, 1) := by decide +kernel
theorem dX1_isPlaceBehind_1 : decode cX1_isPlaceBehind 1 = .ok (.getfield 15, 3) := by decide +kernel
theorem dX1_isPlaceBehind_4 : decode cX1_isPlaceBehind 4 = .ok (.iload_n 1, 1) := by decide +kernel
theorem dX1_isPlaceBehind_5 : decode cX1_isPlaceBehind 5 = .ok (.iaload, 1) := by decide +kernel
theorem dX1_isPlaceBehind_6 : decode cX1_isPlaceBehind 6 = .ok (.iload_n 3, 1) := by decide +kernel
theorem dX1_isPlaceBehind_7 : decode cX1_isPlaceBehind 7 = .ok (.if_icmp .gt 23, 3) := by decide +kernel
theorem dX1_isPlaceBehind_10 : decode cX1_isPlaceBehind 10 = .ok (.aload_n 0, 1) := by decide +kernel
theorem dX1_isPlaceBehind_11 : decode cX1_isPlaceBehind 11 = .ok (.getfield 15, 3) := by decide +kernel
theorem dX1_isPlaceBehind_14 : decode cX1_isPlaceBehind 14 = .ok (.iload_n 1, 1) := by decide +kernel
theorem dX1_isPlaceBehind_15 : decode cX1_isPlaceBehind 15 = .ok (.iaload, 1) := by decide +kernel
theorem dX1_isPlaceBehind_16 : decode cX1_isPlaceBehind 16 = .ok (.iload_n 3, 1) := by decide +kernel
theorem dX1_isPlaceBehind_17 : decode cX1_isPlaceBehind 17 = .ok (.if_icmp .ne 17, 3) := by decide +kernel
theorem dX1_isPlaceBehind_20 : decode cX1_isPlaceBehind 20 = .ok (.aload_n 0, 1) := by decide +kernel
theorem dX1_isPlaceBehind_21 : decode cX1_isPlaceBehind 21 = .ok (.getfield 9, 3) := by decide +kernel
theorem dX1_isPlaceBehind_24 : decode cX1_isPlaceBehind 24 = .ok (.iload_n 1, 1) := by decide +kernel
theorem dX1_isPlaceBehind_25 : decode cX1_isPlaceBehind 25 = .ok (.iaload, 1) := by decide +kernel
theorem dX1_isPlaceBehind_26 : decode cX1_isPlaceBehind 26 = .ok (.iload_n 2, 1) := by decide +kernel
theorem dX1_isPlaceBehind_27 : decode cX1_isPlaceBehind 27 = .ok (.if_icmp .le 7, 3) := by decide +kernel
theorem dX1_isPlaceBehind_30 : decode cX1_isPlaceBehind 30 = .ok (.iconst 1, 1) := by decide +kernel
theorem dX1_isPlaceBehind_31 : decode cX1_isPlaceBehind 31 = .ok (.goto 4, 3) := by decide +kernel
theorem dX1_isPlaceBehind_34 : decode cX1_isPlaceBehind 34 = .ok (.iconst 0, 1) := by decide +kernel
theorem dX1_isPlaceBehind_35 : decode cX1_isPlaceBehind 35 = .ok (.ireturn, 1) := by decide +kernel
set_option maxRecDepth 20000 in
theorem ggX1_addPlace_X1_isPlaceBehind : GoodIn wsX1_addPlace wsX1_isPlaceBehind := goodIn_r _ [9, 3, 2, 14, 15, 16, 17, 18, 19, 20, 21, 22, 23] (by decide +kernel) (by decide +kernel)
set_option maxRecDepth 20000 in
theorem gX1_addPlace_X1_isPlaceBehind : GoodIn wsX1_addPlace (wsV RX1 59 RX1 yX1_isPlaceBehind wsX1_isPlaceBehind) := goodIn_app (goodIn_of _ (by decide +kernel)) ggX1_addPlace_X1_isPlaceBehind
set_option maxRecDepth 20000 in
theorem ggX1_addPlace_X1_movePlace : GoodIn wsX1_addPlace wsX1_movePlace := goodIn_r _ [13, 2, 3, 4, 14, 15, 16, 17, 18, 19, 20, 21, 22, 23] (by decide +kernel) (by decide +kernel)
set_option maxRecDepth 20000 in
theorem gX1_addPlace_X1_movePlace : GoodIn wsX1_addPlace (wsV RX1 62 RX1 yX1_movePlace wsX1_movePlace) := goodIn_app (goodIn_of _ (by decide +kernel)) ggX1_addPlace_X1_movePlace
theorem dX1_addPlace_0 : decode cX1_addPlace 0 = .ok (.aload_n 0, 1) := by decide +kernel
theorem dX1_addPlace_1 : decode cX1_addPlace 1 = .ok (.getfield 48, 3) := by decide +kernel
theorem dX1_addPlace_4 : decode cX1_addPlace 4 = .ok (.bipush 7, 2) := by decide +kernel
theorem dX1_addPlace_6 : decode cX1_addPlace 6 = .ok (.if_icmp .lt 4, 3) := by decide +kernel
theorem dX1_addPlace_9 : decode cX1_addPlace 9 = .ok (.return_, 1) := by decide +kernel
theorem dX1_addPlace_10 : decode cX1_addPlace 10 = .ok (.aload_n 0, 1) := by decide +kernel
theorem dX1_addPlace_11 : decode cX1_addPlace 11 = .ok (.getfield 48, 3) := by decide +kernel
theorem dX1_addPlace_14 : decode cX1_addPlace 14 = .ok (.istore 4, 2) := by decide +kernel
theorem dX1_addPlace_16 : decode cX1_addPlace 16 = .ok (.iload 4, 2) := by decide +kernel
theorem dX1_addPlace_18 : decode cX1_addPlace 18 = .ok (.ifCond .le 32, 3) := by decide +kernel
theorem dX1_addPlace_21 : decode cX1_addPlace 21 = .ok (.aload_n 0, 1) := by decide +kernel
theorem dX1_addPlace_22 : decode cX1_addPlace 22 = .ok (.iload 4, 2) := by decide +kernel
theorem dX1_addPlace_24 : decode cX1_addPlace 24 = .ok (.iconst 1, 1) := by decide +kernel
theorem dX1_addPlace_25 : decode cX1_addPlace 25 = .ok (.isub, 1) := by decide +kernel
theorem dX1_addPlace_26 : decode cX1_addPlace 26 = .ok (.iload_n 1, 1) := by decide +kernel
theorem dX1_addPlace_27 : decode cX1_addPlace 27 = .ok (.iload_n 2, 1) := by decide +kernel
theorem dX1_addPlace_28 : decode cX1_addPlace 28 = .ok (.invokevirtual 59, 3) := by decide +kernel
theorem dX1_addPlace_31 : decode cX1_addPlace 31 = .ok (.ifCond .eq 19, 3) := by decide +kernel
theorem dX1_addPlace_34 : decode cX1_addPlace 34 = .ok (.aload_n 0, 1) := by decide +kernel
theorem dX1_addPlace_35 : decode cX1_addPlace 35 = .ok (.iload 4, 2) := by decide +kernel
theorem dX1_addPlace_37 : decode cX1_addPlace 37 = .ok (.iconst 1, 1) := by decide +kernel
theorem dX1_addPlace_38 : decode cX1_addPlace 38 = .ok (.isub, 1) := by decide +kernel
theorem dX1_addPlace_39 : decode cX1_addPlace 39 = .ok (.iload 4, 2) := by decide +kernel
theorem dX1_addPlace_41 : decode cX1_addPlace 41 = .ok (.invokevirtual 62, 3) := by decide +kernel
theorem dX1_addPlace_44 : decode cX1_addPlace 44 = .ok (.iinc 4 (-1), 3) := by decide +kernel
theorem dX1_addPlace_47 : decode cX1_addPlace 47 = .ok (.goto (-31), 3) := by decide +kernel
theorem dX1_addPlace_50 : decode cX1_addPlace 50 = .ok (.aload_n 0, 1) := by decide +kernel
theorem dX1_addPlace_51 : decode cX1_addPlace 51 = .ok (.getfield 9, 3) := by decide +kernel
theorem dX1_addPlace_54 : decode cX1_addPlace 54 = .ok (.iload 4, 2) := by decide +kernel
theorem dX1_addPlace_56 : decode cX1_addPlace 56 = .ok (.iload_n 1, 1) := by decide +kernel
theorem dX1_addPlace_57 : decode cX1_addPlace 57 = .ok (.iastore, 1) := by decide +kernel
theorem dX1_addPlace_58 : decode cX1_addPlace 58 = .ok (.aload_n 0, 1) := by decide +kernel
theorem dX1_addPlace_59 : decode cX1_addPlace 59 = .ok (.getfield 15, 3) := by decide +kernel
theorem dX1_addPlace_62 : decode cX1_addPlace 62 = .ok (.iload 4, 2) := by decide +kernel
theorem dX1_addPlace_64 : decode cX1_addPlace 64 = .ok (.iload_n 2, 1) := by decide +kernel
theorem dX1_addPlace_65 : decode cX1_addPlace 65 = .ok (.iastore, 1) := by decide +kernel
theorem dX1_addPlace_66 : decode cX1_addPlace 66 = .ok (.aload_n 0, 1) := by decide +kernel
theorem dX1_addPlace_67 : decode cX1_addPlace 67 = .ok (.getfield 18, 3) := by decide +kernel
theorem dX1_addPlace_70 : decode cX1_addPlace 70 = .ok (.iload 4, 2) := by decide +kernel
theorem dX1_addPlace_72 : decode cX1_addPlace 72 = .ok (.iload_n 3, 1) := by decide +kernel
theorem dX1_addPlace_73 : decode cX1_addPlace 73 = .ok (.iastore, 1) := by decide +kernel
theorem dX1_addPlace_74 : decode cX1_addPlace 74 = .ok (.aload_n 0, 1) := by decide +kernel
theorem dX1_addPlace_75 : decode cX1_addPlace 75 = .ok (.dup, 1) := by decide +kernel
theorem dX1_addPlace_76 : decode cX1_addPlace 76 = .ok (.getfield 48, 3) := by decide +kernel
theorem dX1_addPlace_79 : decode cX1_addPlace 79 = .ok (.iconst 1, 1) := by decide +kernel
theorem dX1_addPlace_80 : decode cX1_addPlace 80 = .ok (.iadd, 1) := by decide +kernel
theorem dX1_addPlace_81 : decode cX1_addPlace 81 = .ok (.putfield 48, 3) := by decide +kernel
theorem dX1_addPlace_84 : decode cX1_addPlace 84 = .ok (.return_, 1) := by decide +kernel
set_option maxRecDepth 20000 in
theorem ggX1_removePlace_X1_movePlace : GoodIn wsX1_removePlace wsX1_movePlace := goodIn_r _ [6, 7, 8, 9, 10, 11, 12, 13, 14, 15, 16, 17, 18, 19] (by decide +kernel) (by decide +kernel)
set_option maxRecDepth 20000 in
theorem gX1_removePlace_X1_movePlace : GoodIn wsX1_removePlace (wsV RX1 62 RX1 yX1_movePlace wsX1_movePlace) := goodIn_app (goodIn_of _ (by decide +kernel)) ggX1_removePlace_X1_movePlace
theorem dX1_removePlace_0 : decode cX1_removePlace 0 = .ok (.iload_n 1, 1) := by decide +kernel
theorem dX1_removePlace_1 : decode cX1_removePlace 1 = .ok (.iconst 1, 1) := by decide +kernel
theorem dX1_removePlace_2 : decode cX1_removePlace 2 = .ok (.iadd, 1) := by decide +kernel
theorem dX1_removePlace_3 : decode cX1_removePlace 3 = .ok (.istore_n 2, 1) := by decide +kernel
theorem dX1_removePlace_4 : decode cX1_removePlace 4 = .ok (.iload_n 2, 1) := by decide +kernel
theorem dX1_removePlace_5 : decode cX1_removePlace 5 = .ok (.aload_n 0, 1) := by decide +kernel
theorem dX1_removePlace_6 : decode cX1_removePlace 6 = .ok (.getfield 48, 3) := by decide +kernel
theorem dX1_removePlace_9 : decode cX1_removePlace 9 = .ok (.if_icmp .ge 17, 3) := by decide +kernel
theorem dX1_removePlace_12 : decode cX1_removePlace 12 = .ok (.aload_n 0, 1) := by decide +kernel
theorem dX1_removePlace_13 : decode cX1_removePlace 13 = .ok (.iload_n 2, 1) := by decide +kernel
theorem dX1_removePlace_14 : decode cX1_removePlace 14 = .ok (.iload_n 2, 1) := by decide +kernel
theorem dX1_removePlace_15 : decode cX1_removePlace 15 = .ok (.iconst 1, 1) := by decide +kernel
theorem dX1_removePlace_16 : decode cX1_removePlace 16 = .ok (.isub, 1) := by decide +kernel
theorem dX1_removePlace_17 : decode cX1_removePlace 17 = .ok (.invokevirtual 62, 3) := by decide +kernel
theorem dX1_removePlace_20 : decode cX1_removePlace 20 = .ok (.iinc 2 1, 3) := by decide +kernel
theorem dX1_removePlace_23 : decode cX1_removePlace 23 = .ok (.goto (-19), 3) := by decide +kernel
theorem dX1_removePlace_26 : decode cX1_removePlace 26 = .ok (.aload_n 0, 1) := by decide +kernel
theorem dX1_removePlace_27 : decode cX1_removePlace 27 = .ok (.dup, 1) := by decide +kernel
theorem dX1_removePlace_28 : decode cX1_removePlace 28 = .ok (.getfield 48, 3) := by decide +kernel
theorem dX1_removePlace_31 : decode cX1_removePlace 31 = .ok (.iconst 1, 1) := by decide +kernel
theorem dX1_removePlace_32 : decode cX1_removePlace 32 = .ok (.isub, 1) := by decide +kernel
theorem dX1_removePlace_33 : decode cX1_removePlace 33 = .ok (.putfield 48, 3) := by decide +kernel
theorem dX1_removePlace_36 : decode cX1_removePlace 36 = .ok (.return_, 1) := by decide +kernel
theorem dX1_movePlace_0 : decode cX1_movePlace 0 = .ok (.aload_n 0, 1) := by decide +kernel
theorem dX1_movePlace_1 : decode cX1_movePlace 1 = .ok (.getfield 9, 3) := by decide +kernel
theorem dX1_movePlace_4 : decode cX1_movePlace 4 = .ok (.iload_n 2, 1) := by decide +kernel
theorem dX1_movePlace_5 : decode cX1_movePlace 5 = .ok (.aload_n 0, 1) := by decide +kernel
theorem dX1_movePlace_6 : decode cX1_movePlace 6 = .ok (.getfield 9, 3) := by decide +kernel
theorem dX1_movePlace_9 : decode cX1_movePlace 9 = .ok (.iload_n 1, 1) := by decide +kernel
theorem dX1_movePlace_10 : decode cX1_movePlace 10 = .ok (.iaload, 1) := by decide +kernel
theorem dX1_movePlace_11 : decode cX1_movePlace 11 = .ok (.iastore, 1) := by decide +kernel
theorem dX1_movePlace_12 : decode cX1_movePlace 12 = .ok (.aload_n 0, 1) := by decide +kernel
theorem dX1_movePlace_13 : decode cX1_movePlace 13 = .ok (.getfield 15, 3) := by decide +kernel
theorem dX1_movePlace_16 : decode cX1_movePlace 16 = .ok (.iload_n 2, 1) := by decide +kernel
theorem dX1_movePlace_17 : decode cX1_movePlace 17 = .ok (.aload_n 0, 1) := by decide +kernel
theorem dX1_movePlace_18 : decode cX1_movePlace 18 = .ok (.getfield 15, 3) := by decide +kernel
theorem dX1_movePlace_21 : decode cX1_movePlace 21 = .ok (.iload_n 1, 1) := by decide +kernel
theorem dX1_movePlace_22 : decode cX1_movePlace 22 = .ok (.iaload, 1) := by decide +kernel
theorem dX1_movePlace_23 : decode cX1_movePlace 23 = .ok (.iastore, 1) := by decide +kernel
theorem dX1_movePlace_24 : decode cX1_movePlace 24 = .ok (.aload_n 0, 1) := by decide +kernel
theorem dX1_movePlace_25 : decode cX1_movePlace 25 = .ok (.getfield 18, 3) := by decide +kernel
theorem dX1_movePlace_28 : decode cX1_movePlace 28 = .ok (.iload_n 2, 1) := by decide +kernel
theorem dX1_movePlace_29 : decode cX1_movePlace 29 = .ok (.aload_n 0, 1) := by decide +kernel
theorem dX1_movePlace_30 : decode cX1_movePlace 30 = .ok (.getfield 18, 3) := by decide +kernel
theorem dX1_movePlace_33 : decode cX1_movePlace 33 = .ok (.iload_n 1, 1) := by decide +kernel
theorem dX1_movePlace_34 : decode cX1_movePlace 34 = .ok (.iaload, 1) := by decide +kernel
theorem dX1_movePlace_35 : decode cX1_movePlace 35 = .ok (.iastore, 1) := by decide +kernel
theorem dX1_movePlace_36 : decode cX1_movePlace 36 = .ok (.return_, 1) := by decide +kernel
theorem dX1_allPlaces_0 : decode cX1_allPlaces 0 = .ok (.iconst 1, 1) := by decide +kernel
theorem dX1_allPlaces_1 : decode cX1_allPlaces 1 = .ok (.aload_n 0, 1) := by decide +kernel
theorem dX1_allPlaces_2 : decode cX1_allPlaces 2 = .ok (.getfield 48, 3) := by decide +kernel
theorem dX1_allPlaces_5 : decode cX1_allPlaces 5 = .ok (.ishl, 1) := by decide +kernel
theorem dX1_allPlaces_6 : decode cX1_allPlaces 6 = .ok (.iconst 1, 1) := by decide +kernel
theorem dX1_allPlaces_7 : decode cX1_allPlaces 7 = .ok (.isub, 1) := by decide +kernel
theorem dX1_allPlaces_8 : decode cX1_allPlaces 8 = .ok (.ireturn, 1) := by decide +kernel
theorem dX1_amountOf_0 : decode cX1_amountOf 0 = .ok (.iconst 0, 1) := by decide +kernel
theorem dX1_amountOf_1 : decode cX1_amountOf 1 = .ok (.istore_n 2, 1) := by decide +kernel
theorem dX1_amountOf_2 : decode cX1_amountOf 2 = .ok (.iconst 0, 1) := by decide +kernel
theorem dX1_amountOf_3 : decode cX1_amountOf 3 = .ok (.istore_n 3, 1) := by decide +kernel
theorem dX1_amountOf_4 : decode cX1_amountOf 4 = .ok (.iload_n 3, 1) := by decide +kernel
theorem dX1_amountOf_5 : decode cX1_amountOf 5 = .ok (.aload_n 0, 1) := by decide +kernel
theorem dX1_amountOf_6 : decode cX1_amountOf 6 = .ok (.getfield 48, 3) := by decide +kernel
theorem dX1_amountOf_9 : decode cX1_amountOf 9 = .ok (.if_icmp .ge 26, 3) := by decide +kernel
theorem dX1_amountOf_12 : decode cX1_amountOf 12 = .ok (.iload_n 1, 1) := by decide +kernel
theorem dX1_amountOf_13 : decode cX1_amountOf 13 = .ok (.iconst 1, 1) := by decide +kernel
theorem dX1_amountOf_14 : decode cX1_amountOf 14 = .ok (.iload_n 3, 1) := by decide +kernel
theorem dX1_amountOf_15 : decode cX1_amountOf 15 = .ok (.ishl, 1) := by decide +kernel
theorem dX1_amountOf_16 : decode cX1_amountOf 16 = .ok (.iand, 1) := by decide +kernel
theorem dX1_amountOf_17 : decode cX1_amountOf 17 = .ok (.ifCond .eq 12, 3) := by decide +kernel
theorem dX1_amountOf_20 : decode cX1_amountOf 20 = .ok (.iload_n 2, 1) := by decide +kernel
theorem dX1_amountOf_21 : decode cX1_amountOf 21 = .ok (.aload_n 0, 1) := by decide +kernel
theorem dX1_amountOf_22 : decode cX1_amountOf 22 = .ok (.getfield 18, 3) := by decide +kernel
theorem dX1_amountOf_25 : decode cX1_amountOf 25 = .ok (.iload_n 3, 1) := by decide +kernel
theorem dX1_amountOf_26 : decode cX1_amountOf 26 = .ok (.iaload, 1) := by decide +kernel
theorem dX1_amountOf_27 : decode cX1_amountOf 27 = .ok (.iadd, 1) := by decide +kernel
theorem dX1_amountOf_28 : decode cX1_amountOf 28 = .ok (.istore_n 2, 1) := by decide +kernel
theorem dX1_amountOf_29 : decode cX1_amountOf 29 = .ok (.iinc 3 1, 3) := by decide +kernel
theorem dX1_amountOf_32 : decode cX1_amountOf 32 = .ok (.goto (-28), 3) := by decide +kernel
theorem dX1_amountOf_35 : decode cX1_amountOf 35 = .ok (.iload_n 2, 1) := by decide +kernel
theorem dX1_amountOf_36 : decode cX1_amountOf 36 = .ok (.ireturn, 1) := by decide +kernel
theorem dX1_rocks_0 : decode cX1_rocks 0 = .ok (.iconst 0, 1) := by decide +kernel
theorem dX1_rocks_1 : decode cX1_rocks 1 = .ok (.istore_n 1, 1) := by decide +kernel
theorem dX1_rocks_2 : decode cX1_rocks 2 = .ok (.iconst 0, 1) := by decide +kernel
theorem dX1_rocks_3 : decode cX1_rocks 3 = .ok (.istore_n 2, 1) := by decide +kernel
theorem dX1_rocks_4 : decode cX1_rocks 4 = .ok (.iload_n 2, 1) := by decide +kernel
theorem dX1_rocks_5 : decode cX1_rocks 5 = .ok (.sipush 240, 3) := by decide +kernel
theorem dX1_rocks_8 : decode cX1_rocks 8 = .ok (.if_icmp .ge 21, 3) := by decide +kernel
theorem dX1_rocks_11 : decode cX1_rocks 11 = .ok (.aload_n 0, 1) := by decide +kernel
theorem dX1_rocks_12 : decode cX1_rocks 12 = .ok (.getfield 21, 3) := by decide +kernel
theorem dX1_rocks_15 : decode cX1_rocks 15 = .ok (.iload_n 2, 1) := by decide +kernel
theorem dX1_rocks_16 : decode cX1_rocks 16 = .ok (.baload, 1) := by decide +kernel
theorem dX1_rocks_17 : decode cX1_rocks 17 = .ok (.ifCond .eq 6, 3) := by decide +kernel
theorem dX1_rocks_20 : decode cX1_rocks 20 = .ok (.iinc 1 1, 3) := by decide +kernel
theorem dX1_rocks_23 : decode cX1_rocks 23 = .ok (.iinc 2 1, 3) := by decide +kernel
theorem dX1_rocks_26 : decode cX1_rocks 26 = .ok (.goto (-22), 3) := by decide +kernel
theorem dX1_rocks_29 : decode cX1_rocks 29 = .ok (.iload_n 1, 1) := by decide +kernel
theorem dX1_rocks_30 : decode cX1_rocks 30 = .ok (.ireturn, 1) := by decide +kernel
theorem dX1_turnsOf_0 : decode cX1_turnsOf 0 = .ok (.iload_n 1, 1) := by decide +kernel
theorem dX1_turnsOf_1 : decode cX1_turnsOf 1 = .ok (.ifCond .ne 7, 3) := by decide +kernel
theorem dX1_turnsOf_4 : decode cX1_turnsOf 4 = .ok (.iconst 1, 1) := by decide +kernel
theorem dX1_turnsOf_5 : decode cX1_turnsOf 5 = .ok (.goto 7, 3) := by decide +kernel
theorem dX1_turnsOf_8 : decode cX1_turnsOf 8 = .ok (.aload_n 0, 1) := by decide +kernel
theorem dX1_turnsOf_9 : decode cX1_turnsOf 9 = .ok (.getfield 45, 3) := by decide +kernel
theorem dX1_turnsOf_12 : decode cX1_turnsOf 12 = .ok (.ireturn, 1) := by decide +kernel
theorem dX1_turnBeside_0 : decode cX1_turnBeside 0 = .ok (.iload_n 2, 1) := by decide +kernel
theorem dX1_turnBeside_1 : decode cX1_turnBeside 1 = .ok (.iconst 1, 1) := by decide +kernel
theorem dX1_turnBeside_2 : decode cX1_turnBeside 2 = .ok (.if_icmp .ne 20, 3) := by decide +kernel
theorem dX1_turnBeside_5 : decode cX1_turnBeside 5 = .ok (.iload_n 1, 1) := by decide +kernel
theorem dX1_turnBeside_6 : decode cX1_turnBeside 6 = .ok (.ifCond .ne 12, 3) := by decide +kernel
theorem dX1_turnBeside_9 : decode cX1_turnBeside 9 = .ok (.aload_n 0, 1) := by decide +kernel
theorem dX1_turnBeside_10 : decode cX1_turnBeside 10 = .ok (.getfield 45, 3) := by decide +kernel
theorem dX1_turnBeside_13 : decode cX1_turnBeside 13 = .ok (.iconst 1, 1) := by decide +kernel
theorem dX1_turnBeside_14 : decode cX1_turnBeside 14 = .ok (.isub, 1) := by decide +kernel
theorem dX1_turnBeside_15 : decode cX1_turnBeside 15 = .ok (.goto 6, 3) := by decide +kernel
theorem dX1_turnBeside_18 : decode cX1_turnBeside 18 = .ok (.iload_n 1, 1) := by decide +kernel
theorem dX1_turnBeside_19 : decode cX1_turnBeside 19 = .ok (.iconst 1, 1) := by decide +kernel
theorem dX1_turnBeside_20 : decode cX1_turnBeside 20 = .ok (.isub, 1) := by decide +kernel
theorem dX1_turnBeside_21 : decode cX1_turnBeside 21 = .ok (.ireturn, 1) := by decide +kernel
theorem dX1_turnBeside_22 : decode cX1_turnBeside 22 = .ok (.iload_n 2, 1) := by decide +kernel
theorem dX1_turnBeside_23 : decode cX1_turnBeside 23 = .ok (.iconst 2, 1) := by decide +kernel
theorem dX1_turnBeside_24 : decode cX1_turnBeside 24 = .ok (.if_icmp .ne 21, 3) := by decide +kernel
theorem dX1_turnBeside_27 : decode cX1_turnBeside 27 = .ok (.iload_n 1, 1) := by decide +kernel
theorem dX1_turnBeside_28 : decode cX1_turnBeside 28 = .ok (.aload_n 0, 1) := by decide +kernel
theorem dX1_turnBeside_29 : decode cX1_turnBeside 29 = .ok (.getfield 45, 3) := by decide +kernel
theorem dX1_turnBeside_32 : decode cX1_turnBeside 32 = .ok (.iconst 1, 1) := by decide +kernel
theorem dX1_turnBeside_33 : decode cX1_turnBeside 33 = .ok (.isub, 1) := by decide +kernel
theorem dX1_turnBeside_34 : decode cX1_turnBeside 34 = .ok (.if_icmp .ne 7, 3) := by decide +kernel
theorem dX1_turnBeside_37 : decode cX1_turnBeside 37 = .ok (.iconst 0, 1) := by decide +kernel
theorem dX1_turnBeside_38 : decode cX1_turnBeside 38 = .ok (.goto 6, 3) := by decide +kernel
theorem dX1_turnBeside_41 : decode cX1_turnBeside 41 = .ok (.iload_n 1, 1) := by decide +kernel
theorem dX1_turnBeside_42 : decode cX1_turnBeside 42 = .ok (.iconst 1, 1) := by decide +kernel
theorem dX1_turnBeside_43 : decode cX1_turnBeside 43 = .ok (.iadd, 1) := by decide +kernel
theorem dX1_turnBeside_44 : decode cX1_turnBeside 44 = .ok (.ireturn, 1) := by decide +kernel
theorem dX1_turnBeside_45 : decode cX1_turnBeside 45 = .ok (.iload_n 1, 1) := by decide +kernel
theorem dX1_turnBeside_46 : decode cX1_turnBeside 46 = .ok (.ireturn, 1) := by decide +kernel
set_option maxRecDepth 20000 in
theorem ggX1_cellInwards_X1_turnBeside : GoodIn wsX1_cellInwards wsX1_turnBeside := goodIn_r _ [5, 6, 10, 11, 12, 13, 14, 15, 16, 17, 18, 19] (by decide +kernel) (by decide +kernel)
set_option maxRecDepth 20000 in
theorem gX1_cellInwards_X1_turnBeside : GoodIn wsX1_cellInwards (wsV RX1 65 RX1 yX1_turnBeside wsX1_turnBeside) := goodIn_app (goodIn_of _ (by decide +kernel)) ggX1_cellInwards_X1_turnBeside
set_option maxRecDepth 20000 in
theorem ggX1_cellInwards_X6_cellOf : GoodIn wsX1_cellInwards wsX6_cellOf := goodIn_r _ [9] (by decide +kernel) (by decide +kernel)
set_option maxRecDepth 20000 in
theorem gX1_cellInwards_X6_cellOf_n69 : GoodIn wsX1_cellInwards (wsX6_cellOf) := ggX1_cellInwards_X6_cellOf
theorem dX1_cellInwards_0 : decode cX1_cellInwards 0 = .ok (.iload_n 1, 1) := by decide +kernel
theorem dX1_cellInwards_1 : decode cX1_cellInwards 1 = .ok (.iconst 1, 1) := by decide +kernel
theorem dX1_cellInwards_2 : decode cX1_cellInwards 2 = .ok (.if_icmp .gt 7, 3) := by decide +kernel
theorem dX1_cellInwards_5 : decode cX1_cellInwards 5 = .ok (.iconst 0, 1) := by decide +kernel
theorem dX1_cellInwards_6 : decode cX1_cellInwards 6 = .ok (.goto 15, 3) := by decide +kernel
theorem dX1_cellInwards_9 : decode cX1_cellInwards 9 = .ok (.iload_n 1, 1) := by decide +kernel
theorem dX1_cellInwards_10 : decode cX1_cellInwards 10 = .ok (.iconst 1, 1) := by decide +kernel
theorem dX1_cellInwards_11 : decode cX1_cellInwards 11 = .ok (.isub, 1) := by decide +kernel
theorem dX1_cellInwards_12 : decode cX1_cellInwards 12 = .ok (.aload_n 0, 1) := by decide +kernel
theorem dX1_cellInwards_13 : decode cX1_cellInwards 13 = .ok (.iload_n 2, 1) := by decide +kernel
theorem dX1_cellInwards_14 : decode cX1_cellInwards 14 = .ok (.iload_n 3, 1) := by decide +kernel
theorem dX1_cellInwards_15 : decode cX1_cellInwards 15 = .ok (.invokevirtual 65, 3) := by decide +kernel
theorem dX1_cellInwards_18 : decode cX1_cellInwards 18 = .ok (.invokestatic 69, 3) := by decide +kernel
theorem dX1_cellInwards_21 : decode cX1_cellInwards 21 = .ok (.ireturn, 1) := by decide +kernel
theorem dX1_lengthOf_0 : decode cX1_lengthOf 0 = .ok (.iload_n 1, 1) := by decide +kernel
theorem dX1_lengthOf_1 : decode cX1_lengthOf 1 = .ok (.ifCond .ne 8, 3) := by decide +kernel
theorem dX1_lengthOf_4 : decode cX1_lengthOf 4 = .ok (.bipush 10, 2) := by decide +kernel
theorem dX1_lengthOf_6 : decode cX1_lengthOf 6 = .ok (.goto 10, 3) := by decide +kernel
theorem dX1_lengthOf_9 : decode cX1_lengthOf 9 = .ok (.bipush 10, 2) := by decide +kernel
theorem dX1_lengthOf_11 : decode cX1_lengthOf 11 = .ok (.aload_n 0, 1) := by decide +kernel
theorem dX1_lengthOf_12 : decode cX1_lengthOf 12 = .ok (.getfield 36, 3) := by decide +kernel
theorem dX1_lengthOf_15 : decode cX1_lengthOf 15 = .ok (.iadd, 1) := by decide +kernel
theorem dX1_lengthOf_16 : decode cX1_lengthOf 16 = .ok (.ireturn, 1) := by decide +kernel
set_option maxRecDepth 20000 in
theorem ggX1_inkOfStep_X1_lengthOf : GoodIn wsX1_inkOfStep wsX1_lengthOf := goodIn_r _ [6, 7, 8, 9, 10, 11, 12, 13, 14, 15, 16, 17] (by decide +kernel) (by decide +kernel)
set_option maxRecDepth 20000 in
theorem gX1_inkOfStep_X1_lengthOf : GoodIn wsX1_inkOfStep (wsV RX1 72 RX1 yX1_lengthOf wsX1_lengthOf) := goodIn_app (goodIn_of _ (by decide +kernel)) ggX1_inkOfStep_X1_lengthOf
theorem dX1_inkOfStep_0 : decode cX1_inkOfStep 0 = .ok (.aload_n 0, 1) := by decide +kernel
theorem dX1_inkOfStep_1 : decode cX1_inkOfStep 1 = .ok (.iload_n 1, 1) := by decide +kernel
theorem dX1_inkOfStep_2 : decode cX1_inkOfStep 2 = .ok (.invokevirtual 72, 3) := by decide +kernel
theorem dX1_inkOfStep_5 : decode cX1_inkOfStep 5 = .ok (.aload_n 0, 1) := by decide +kernel
theorem dX1_inkOfStep_6 : decode cX1_inkOfStep 6 = .ok (.getfield 32, 3) := by decide +kernel
theorem dX1_inkOfStep_9 : decode cX1_inkOfStep 9 = .ok (.iload_n 2, 1) := by decide +kernel
theorem dX1_inkOfStep_10 : decode cX1_inkOfStep 10 = .ok (.iadd, 1) := by decide +kernel
theorem dX1_inkOfStep_11 : decode cX1_inkOfStep 11 = .ok (.imul, 1) := by decide +kernel
theorem dX1_inkOfStep_12 : decode cX1_inkOfStep 12 = .ok (.ireturn, 1) := by decide +kernel
set_option maxRecDepth 20000 in
theorem ggX2_drawStraight_X5_clearButPlaces : GoodIn wsX2_drawStraight wsX5_clearButPlaces := goodIn_r _ [9, 10, 11, 12, 13, 14, 15, 16, 8, 17, 18, 19, 20, 21, 22, 23, 24, 25, 70, 71, 72, 73, 74, 75, 76, 77, 78, 79, 80, 81, 82, 83, 84] (by decide +kernel) (by decide +kernel)
set_option maxRecDepth 20000 in
theorem gX2_drawStraight_X5_clearButPlaces : GoodIn wsX2_drawStraight (wsV RX2 9 RX5 yX5_clearButPlaces wsX5_clearButPlaces) := goodIn_app (goodIn_of _ (by decide +kernel)) ggX2_drawStraight_X5_clearButPlaces
set_option maxRecDepth 20000 in
theorem ggX2_drawStraight_X6_cellOf : GoodIn wsX2_drawStraight wsX6_cellOf := goodIn_r _ [25] (by decide +kernel) (by decide +kernel)
set_option maxRecDepth 20000 in
theorem gX2_drawStraight_X6_cellOf_n28 : GoodIn wsX2_drawStraight (wsX6_cellOf) := ggX2_drawStraight_X6_cellOf
set_option maxRecDepth 20000 in
theorem ggX2_drawStraight_X1_cellInwards : GoodIn wsX2_drawStraight wsX1_cellInwards := goodIn_r _ [30, 31, 32, 33, 29, 34, 35, 23, 24, 25, 70, 71, 72, 73, 74, 75, 76, 77, 78, 79] (by decide +kernel) (by decide +kernel)
set_option maxRecDepth 20000 in
theorem gX2_drawStraight_X1_cellInwards : GoodIn wsX2_drawStraight (wsV RX2 36 RX1 yX1_cellInwards wsX1_cellInwards) := goodIn_app (goodIn_of _ (by decide +kernel)) ggX2_drawStraight_X1_cellInwards
set_option maxRecDepth 20000 in
theorem ggX2_drawStraight_X2_go : GoodIn wsX2_drawStraight wsX2_go := goodIn_r _ [39, 3, 40, 23, 24, 25, 26, 27, 28, 29, 30, 31, 32, 33, 34, 35, 80, 81, 82, 83, 84, 70, 71, 72, 73, 74, 75, 76, 77, 78, 79] (by decide +kernel) (by decide +kernel)
set_option maxRecDepth 20000 in
theorem gX2_drawStraight_X2_go : GoodIn wsX2_drawStraight (va_wsS RX2 40 yX2_go wsX2_go) := goodIn_app (goodIn_of _ (by decide +kernel)) ggX2_drawStraight_X2_go
set_option maxRecDepth 20000 in
theorem ggX2_drawStraight_X5_finish : GoodIn wsX2_drawStraight wsX5_finish := goodIn_r _ [44, 45, 46, 47, 48, 49, 50, 8, 51, 52, 53, 11, 18, 23, 24, 25, 54, 55, 56, 29, 57, 58, 59, 60, 61, 62, 63, 64, 65, 66, 67, 68, 69, 80, 81, 82, 83, 84, 70, 71, 72, 73, 74, 75, 76, 77, 78, 79] (by decide +kernel) (by decide +kernel)
set_option maxRecDepth 20000 in
theorem gX2_drawStraight_X5_finish : GoodIn wsX2_drawStraight (wsV RX2 46 RX5 yX5_finish wsX5_finish) := goodIn_app (goodIn_of _ (by decide +kernel)) ggX2_drawStraight_X5_finish
theorem dX2_drawStraight_0 : decode cX2_drawStraight 0 = .ok (.aload_n 1, 1) := by decide +kernel
theorem dX2_drawStraight_1 : decode cX2_drawStraight 1 = .ok (.aload_n 0, 1) := by decide +kernel
theorem dX2_drawStraight_2 : decode cX2_drawStraight 2 = .ok (.invokevirtual 9, 3) := by decide +kernel
theorem dX2_drawStraight_5 : decode cX2_drawStraight 5 = .ok (.iconst 1, 1) := by decide +kernel
theorem dX2_drawStraight_6 : decode cX2_drawStraight 6 = .ok (.istore_n 2, 1) := by decide +kernel
theorem dX2_drawStraight_7 : decode cX2_drawStraight 7 = .ok (.aload_n 0, 1) := by decide +kernel
theorem dX2_drawStraight_8 : decode cX2_drawStraight 8 = .ok (.getfield 15, 3) := by decide +kernel
theorem dX2_drawStraight_11 : decode cX2_drawStraight 11 = .ok (.istore_n 3, 1) := by decide +kernel
theorem dX2_drawStraight_12 : decode cX2_drawStraight 12 = .ok (.iload_n 3, 1) := by decide +kernel
theorem dX2_drawStraight_13 : decode cX2_drawStraight 13 = .ok (.iconst 1, 1) := by decide +kernel
theorem dX2_drawStraight_14 : decode cX2_drawStraight 14 = .ok (.if_icmp .lt 72, 3) := by decide +kernel
theorem dX2_drawStraight_17 : decode cX2_drawStraight 17 = .ok (.iload_n 2, 1) := by decide +kernel
theorem dX2_drawStraight_18 : decode cX2_drawStraight 18 = .ok (.ifCond .eq 68, 3) := by decide +kernel
theorem dX2_drawStraight_21 : decode cX2_drawStraight 21 = .ok (.iconst 0, 1) := by decide +kernel
theorem dX2_drawStraight_22 : decode cX2_drawStraight 22 = .ok (.istore 4, 2) := by decide +kernel
theorem dX2_drawStraight_24 : decode cX2_drawStraight 24 = .ok (.iload 4, 2) := by decide +kernel
theorem dX2_drawStraight_26 : decode cX2_drawStraight 26 = .ok (.aload_n 0, 1) := by decide +kernel
theorem dX2_drawStraight_27 : decode cX2_drawStraight 27 = .ok (.getfield 21, 3) := by decide +kernel
theorem dX2_drawStraight_30 : decode cX2_drawStraight 30 = .ok (.if_icmp .ge 50, 3) := by decide +kernel
theorem dX2_drawStraight_33 : decode cX2_drawStraight 33 = .ok (.aload_n 1, 1) := by decide +kernel
theorem dX2_drawStraight_34 : decode cX2_drawStraight 34 = .ok (.getfield 24, 3) := by decide +kernel
theorem dX2_drawStraight_37 : decode cX2_drawStraight 37 = .ok (.iload_n 3, 1) := by decide +kernel
theorem dX2_drawStraight_38 : decode cX2_drawStraight 38 = .ok (.iload 4, 2) := by decide +kernel
theorem dX2_drawStraight_40 : decode cX2_drawStraight 40 = .ok (.invokestatic 28, 3) := by decide +kernel
theorem dX2_drawStraight_43 : decode cX2_drawStraight 43 = .ok (.iaload, 1) := by decide +kernel
theorem dX2_drawStraight_44 : decode cX2_drawStraight 44 = .ok (.ifCond .eq 21, 3) := by decide +kernel
theorem dX2_drawStraight_47 : decode cX2_drawStraight 47 = .ok (.aload_n 0, 1) := by decide +kernel
theorem dX2_drawStraight_48 : decode cX2_drawStraight 48 = .ok (.getfield 32, 3) := by decide +kernel
theorem dX2_drawStraight_51 : decode cX2_drawStraight 51 = .ok (.aload_n 0, 1) := by decide +kernel
theorem dX2_drawStraight_52 : decode cX2_drawStraight 52 = .ok (.iload_n 3, 1) := by decide +kernel
theorem dX2_drawStraight_53 : decode cX2_drawStraight 53 = .ok (.iload 4, 2) := by decide +kernel
theorem dX2_drawStraight_55 : decode cX2_drawStraight 55 = .ok (.iconst 0, 1) := by decide +kernel
theorem dX2_drawStraight_56 : decode cX2_drawStraight 56 = .ok (.invokevirtual 36, 3) := by decide +kernel
theorem dX2_drawStraight_59 : decode cX2_drawStraight 59 = .ok (.baload, 1) := by decide +kernel
theorem dX2_drawStraight_60 : decode cX2_drawStraight 60 = .ok (.ifCond .eq 5, 3) := by decide +kernel
theorem dX2_drawStraight_63 : decode cX2_drawStraight 63 = .ok (.iconst 0, 1) := by decide +kernel
theorem dX2_drawStraight_64 : decode cX2_drawStraight 64 = .ok (.istore_n 2, 1) := by decide +kernel
theorem dX2_drawStraight_65 : decode cX2_drawStraight 65 = .ok (.aload_n 0, 1) := by decide +kernel
theorem dX2_drawStraight_66 : decode cX2_drawStraight 66 = .ok (.aload_n 1, 1) := by decide +kernel
theorem dX2_drawStraight_67 : decode cX2_drawStraight 67 = .ok (.iload_n 3, 1) := by decide +kernel
theorem dX2_drawStraight_68 : decode cX2_drawStraight 68 = .ok (.iload 4, 2) := by decide +kernel
theorem dX2_drawStraight_70 : decode cX2_drawStraight 70 = .ok (.iconst 0, 1) := by decide +kernel
theorem dX2_drawStraight_71 : decode cX2_drawStraight 71 = .ok (.invokestatic 40, 3) := by decide +kernel
theorem dX2_drawStraight_74 : decode cX2_drawStraight 74 = .ok (.iinc 4 1, 3) := by decide +kernel
theorem dX2_drawStraight_77 : decode cX2_drawStraight 77 = .ok (.goto (-53), 3) := by decide +kernel
theorem dX2_drawStraight_80 : decode cX2_drawStraight 80 = .ok (.iinc 3 (-1), 3) := by decide +kernel
theorem dX2_drawStraight_83 : decode cX2_drawStraight 83 = .ok (.goto (-71), 3) := by decide +kernel
theorem dX2_drawStraight_86 : decode cX2_drawStraight 86 = .ok (.aload_n 1, 1) := by decide +kernel
theorem dX2_drawStraight_87 : decode cX2_drawStraight 87 = .ok (.aload_n 0, 1) := by decide +kernel
theorem dX2_drawStraight_88 : decode cX2_drawStraight 88 = .ok (.iload_n 2, 1) := by decide +kernel
theorem dX2_drawStraight_89 : decode cX2_drawStraight 89 = .ok (.invokevirtual 46, 3) := by decide +kernel
theorem dX2_drawStraight_92 : decode cX2_drawStraight 92 = .ok (.return_, 1) := by decide +kernel
set_option maxRecDepth 20000 in
theorem ggX2_drawLean_X5_clearButPlaces : GoodIn wsX2_drawLean wsX5_clearButPlaces := goodIn_r _ [6, 7, 8, 9, 10, 11, 12, 13, 5, 14, 15, 16, 17, 18, 19, 20, 21, 22, 89, 90, 91, 92, 93, 94, 95, 96, 97, 98, 99, 100, 101, 102, 103] (by decide +kernel) (by decide +kernel)
set_option maxRecDepth 20000 in
theorem gX2_drawLean_X5_clearButPlaces : GoodIn wsX2_drawLean (wsV RX2 9 RX5 yX5_clearButPlaces wsX5_clearButPlaces) := goodIn_app (goodIn_of _ (by decide +kernel)) ggX2_drawLean_X5_clearButPlaces
set_option maxRecDepth 20000 in
theorem ggX2_drawLean_X2_leanRing : GoodIn wsX2_drawLean wsX2_leanRing := goodIn_r _ [26, 27, 28, 20, 21, 22, 29, 30, 25, 31, 32, 33, 34, 35, 36, 37, 38, 39, 40, 41, 42, 43, 44, 45, 46, 47, 48, 49, 50, 51, 52, 53, 54, 55, 56, 57, 58, 59, 60, 61, 62, 63, 64, 89, 90, 91, 92, 93, 94, 95, 96, 97, 98, 99, 100, 101, 102, 103] (by decide +kernel) (by decide +kernel)
set_option maxRecDepth 20000 in
theorem gX2_drawLean_X2_leanRing : GoodIn wsX2_drawLean (va_wsS RX2 50 yX2_leanRing wsX2_leanRing) := goodIn_app (goodIn_of _ (by decide +kernel)) ggX2_drawLean_X2_leanRing
set_option maxRecDepth 20000 in
theorem ggX2_drawLean_X5_finish : GoodIn wsX2_drawLean wsX5_finish := goodIn_r _ [68, 69, 70, 71, 72, 73, 74, 5, 75, 76, 77, 8, 15, 20, 21, 22, 78, 47, 48, 43, 49, 50, 51, 79, 80, 81, 82, 83, 84, 85, 86, 87, 88, 99, 100, 101, 102, 103, 89, 90, 91, 92, 93, 94, 95, 96, 97, 98] (by decide +kernel) (by decide +kernel)
set_option maxRecDepth 20000 in
theorem gX2_drawLean_X5_finish : GoodIn wsX2_drawLean (wsV RX2 46 RX5 yX5_finish wsX5_finish) := goodIn_app (goodIn_of _ (by decide +kernel)) ggX2_drawLean_X5_finish
theorem dX2_drawLean_0 : decode cX2_drawLean 0 = .ok (.aload_n 1, 1) := by decide +kernel
theorem dX2_drawLean_1 : decode cX2_drawLean 1 = .ok (.aload_n 0, 1) := by decide +kernel
theorem dX2_drawLean_2 : decode cX2_drawLean 2 = .ok (.invokevirtual 9, 3) := by decide +kernel
theorem dX2_drawLean_5 : decode cX2_drawLean 5 = .ok (.iconst 1, 1) := by decide +kernel
theorem dX2_drawLean_6 : decode cX2_drawLean 6 = .ok (.istore_n 2, 1) := by decide +kernel
theorem dX2_drawLean_7 : decode cX2_drawLean 7 = .ok (.aload_n 0, 1) := by decide +kernel
theorem dX2_drawLean_8 : decode cX2_drawLean 8 = .ok (.getfield 15, 3) := by decide +kernel
theorem dX2_drawLean_11 : decode cX2_drawLean 11 = .ok (.istore_n 3, 1) := by decide +kernel
theorem dX2_drawLean_12 : decode cX2_drawLean 12 = .ok (.iload_n 3, 1) := by decide +kernel
theorem dX2_drawLean_13 : decode cX2_drawLean 13 = .ok (.iconst 1, 1) := by decide +kernel
theorem dX2_drawLean_14 : decode cX2_drawLean 14 = .ok (.if_icmp .lt 20, 3) := by decide +kernel
theorem dX2_drawLean_17 : decode cX2_drawLean 17 = .ok (.iload_n 2, 1) := by decide +kernel
theorem dX2_drawLean_18 : decode cX2_drawLean 18 = .ok (.ifCond .eq 16, 3) := by decide +kernel
theorem dX2_drawLean_21 : decode cX2_drawLean 21 = .ok (.aload_n 0, 1) := by decide +kernel
theorem dX2_drawLean_22 : decode cX2_drawLean 22 = .ok (.aload_n 1, 1) := by decide +kernel
theorem dX2_drawLean_23 : decode cX2_drawLean 23 = .ok (.iload_n 3, 1) := by decide +kernel
theorem dX2_drawLean_24 : decode cX2_drawLean 24 = .ok (.invokestatic 50, 3) := by decide +kernel
theorem dX2_drawLean_27 : decode cX2_drawLean 27 = .ok (.istore_n 2, 1) := by decide +kernel
theorem dX2_drawLean_28 : decode cX2_drawLean 28 = .ok (.iinc 3 (-1), 3) := by decide +kernel
theorem dX2_drawLean_31 : decode cX2_drawLean 31 = .ok (.goto (-19), 3) := by decide +kernel
theorem dX2_drawLean_34 : decode cX2_drawLean 34 = .ok (.aload_n 1, 1) := by decide +kernel
theorem dX2_drawLean_35 : decode cX2_drawLean 35 = .ok (.aload_n 0, 1) := by decide +kernel
theorem dX2_drawLean_36 : decode cX2_drawLean 36 = .ok (.iload_n 2, 1) := by decide +kernel
theorem dX2_drawLean_37 : decode cX2_drawLean 37 = .ok (.invokevirtual 46, 3) := by decide +kernel
theorem dX2_drawLean_40 : decode cX2_drawLean 40 = .ok (.return_, 1) := by decide +kernel
set_option maxRecDepth 20000 in
theorem ggX2_leanRing_X6_cellOf : GoodIn wsX2_leanRing wsX6_cellOf := goodIn_r _ [5] (by decide +kernel) (by decide +kernel)
set_option maxRecDepth 20000 in
theorem gX2_leanRing_X6_cellOf_n28 : GoodIn wsX2_leanRing (wsX6_cellOf) := ggX2_leanRing_X6_cellOf
set_option maxRecDepth 20000 in
theorem ggX2_leanRing_X2_wantedSide : GoodIn wsX2_leanRing wsX2_wantedSide := goodIn_r _ [9, 10, 11, 12, 13, 1, 14, 2, 15, 16, 8, 17, 18, 19, 20, 21, 22, 23, 3, 4, 5, 24, 25, 26, 27, 28, 29, 43, 44, 45, 46, 47, 48, 49, 50, 51, 52, 53, 54, 55, 56, 57] (by decide +kernel) (by decide +kernel)
set_option maxRecDepth 20000 in
theorem gX2_leanRing_X2_wantedSide : GoodIn wsX2_leanRing (va_wsS RX2 54 yX2_wantedSide wsX2_wantedSide) := goodIn_app (goodIn_of _ (by decide +kernel)) ggX2_leanRing_X2_wantedSide
set_option maxRecDepth 20000 in
theorem ggX2_leanRing_X2_passableSide : GoodIn wsX2_leanRing wsX2_passableSide := goodIn_r _ [32, 33, 34, 35, 36, 21, 37, 38, 19, 20, 22, 23, 3, 4, 5, 43, 44, 45, 46, 47, 48, 49, 50, 51, 52] (by decide +kernel) (by decide +kernel)
set_option maxRecDepth 20000 in
theorem gX2_leanRing_X2_passableSide : GoodIn wsX2_leanRing (va_wsS RX2 58 yX2_passableSide wsX2_passableSide) := goodIn_app (goodIn_of _ (by decide +kernel)) ggX2_leanRing_X2_passableSide
set_option maxRecDepth 20000 in
theorem ggX2_leanRing_X2_go : GoodIn wsX2_leanRing wsX2_go := goodIn_r _ [41, 2, 42, 3, 4, 5, 34, 35, 36, 21, 37, 38, 19, 20, 22, 23, 53, 54, 55, 56, 57, 43, 44, 45, 46, 47, 48, 49, 50, 51, 52] (by decide +kernel) (by decide +kernel)
set_option maxRecDepth 20000 in
theorem gX2_leanRing_X2_go : GoodIn wsX2_leanRing (va_wsS RX2 40 yX2_go wsX2_go) := goodIn_app (goodIn_of _ (by decide +kernel)) ggX2_leanRing_X2_go
theorem dX2_leanRing_0 : decode cX2_leanRing 0 = .ok (.iconst 0, 1) := by decide +kernel
theorem dX2_leanRing_1 : decode cX2_leanRing 1 = .ok (.istore_n 3, 1) := by decide +kernel
theorem dX2_leanRing_2 : decode cX2_leanRing 2 = .ok (.iload_n 3, 1) := by decide +kernel
theorem dX2_leanRing_3 : decode cX2_leanRing 3 = .ok (.aload_n 0, 1) := by decide +kernel
theorem dX2_leanRing_4 : decode cX2_leanRing 4 = .ok (.getfield 21, 3) := by decide +kernel
theorem dX2_leanRing_7 : decode cX2_leanRing 7 = .ok (.if_icmp .ge 70, 3) := by decide +kernel
theorem dX2_leanRing_10 : decode cX2_leanRing 10 = .ok (.aload_n 1, 1) := by decide +kernel
theorem dX2_leanRing_11 : decode cX2_leanRing 11 = .ok (.getfield 24, 3) := by decide +kernel
theorem dX2_leanRing_14 : decode cX2_leanRing 14 = .ok (.iload_n 2, 1) := by decide +kernel
theorem dX2_leanRing_15 : decode cX2_leanRing 15 = .ok (.iload_n 3, 1) := by decide +kernel
theorem dX2_leanRing_16 : decode cX2_leanRing 16 = .ok (.invokestatic 28, 3) := by decide +kernel
theorem dX2_leanRing_19 : decode cX2_leanRing 19 = .ok (.iaload, 1) := by decide +kernel
theorem dX2_leanRing_20 : decode cX2_leanRing 20 = .ok (.ifCond .ne 6, 3) := by decide +kernel
theorem dX2_leanRing_23 : decode cX2_leanRing 23 = .ok (.goto 48, 3) := by decide +kernel
theorem dX2_leanRing_26 : decode cX2_leanRing 26 = .ok (.iload_n 2, 1) := by decide +kernel
theorem dX2_leanRing_27 : decode cX2_leanRing 27 = .ok (.iconst 1, 1) := by decide +kernel
theorem dX2_leanRing_28 : decode cX2_leanRing 28 = .ok (.if_icmp .ne 7, 3) := by decide +kernel
theorem dX2_leanRing_31 : decode cX2_leanRing 31 = .ok (.iconst 0, 1) := by decide +kernel
theorem dX2_leanRing_32 : decode cX2_leanRing 32 = .ok (.goto 10, 3) := by decide +kernel
theorem dX2_leanRing_35 : decode cX2_leanRing 35 = .ok (.aload_n 0, 1) := by decide +kernel
theorem dX2_leanRing_36 : decode cX2_leanRing 36 = .ok (.aload_n 1, 1) := by decide +kernel
theorem dX2_leanRing_37 : decode cX2_leanRing 37 = .ok (.iload_n 2, 1) := by decide +kernel
theorem dX2_leanRing_38 : decode cX2_leanRing 38 = .ok (.iload_n 3, 1) := by decide +kernel
theorem dX2_leanRing_39 : decode cX2_leanRing 39 = .ok (.invokestatic 54, 3) := by decide +kernel
theorem dX2_leanRing_42 : decode cX2_leanRing 42 = .ok (.istore 4, 2) := by decide +kernel
theorem dX2_leanRing_44 : decode cX2_leanRing 44 = .ok (.aload_n 0, 1) := by decide +kernel
theorem dX2_leanRing_45 : decode cX2_leanRing 45 = .ok (.iload_n 2, 1) := by decide +kernel
theorem dX2_leanRing_46 : decode cX2_leanRing 46 = .ok (.iload_n 3, 1) := by decide +kernel
theorem dX2_leanRing_47 : decode cX2_leanRing 47 = .ok (.iload 4, 2) := by decide +kernel
theorem dX2_leanRing_49 : decode cX2_leanRing 49 = .ok (.invokestatic 58, 3) := by decide +kernel
theorem dX2_leanRing_52 : decode cX2_leanRing 52 = .ok (.istore 5, 2) := by decide +kernel
theorem dX2_leanRing_54 : decode cX2_leanRing 54 = .ok (.iload 5, 2) := by decide +kernel
theorem dX2_leanRing_56 : decode cX2_leanRing 56 = .ok (.iconst (-1), 1) := by decide +kernel
theorem dX2_leanRing_57 : decode cX2_leanRing 57 = .ok (.if_icmp .ne 5, 3) := by decide +kernel
theorem dX2_leanRing_60 : decode cX2_leanRing 60 = .ok (.iconst 0, 1) := by decide +kernel
theorem dX2_leanRing_61 : decode cX2_leanRing 61 = .ok (.ireturn, 1) := by decide +kernel
theorem dX2_leanRing_62 : decode cX2_leanRing 62 = .ok (.aload_n 0, 1) := by decide +kernel
theorem dX2_leanRing_63 : decode cX2_leanRing 63 = .ok (.aload_n 1, 1) := by decide +kernel
theorem dX2_leanRing_64 : decode cX2_leanRing 64 = .ok (.iload_n 2, 1) := by decide +kernel
theorem dX2_leanRing_65 : decode cX2_leanRing 65 = .ok (.iload_n 3, 1) := by decide +kernel
theorem dX2_leanRing_66 : decode cX2_leanRing 66 = .ok (.iload 5, 2) := by decide +kernel
theorem dX2_leanRing_68 : decode cX2_leanRing 68 = .ok (.invokestatic 40, 3) := by decide +kernel
theorem dX2_leanRing_71 : decode cX2_leanRing 71 = .ok (.iinc 3 1, 3) := by decide +kernel
theorem dX2_leanRing_74 : decode cX2_leanRing 74 = .ok (.goto (-72), 3) := by decide +kernel
theorem dX2_leanRing_77 : decode cX2_leanRing 77 = .ok (.iconst 1, 1) := by decide +kernel
