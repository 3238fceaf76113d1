theorem dX2_leanRing_78 : decode cX2_leanRing 78 = .ok (.ireturn, 1) := by decide +kernel
set_option maxRecDepth 20000 in
theorem ggX2_wantedSide_X2_turnsToNext : GoodIn wsX2_wantedSide wsX2_turnsToNext := goodIn_r _ [11, 5, 7, 12, 13, 14, 15, 16, 17, 18, 19, 20, 27, 28, 29, 30, 31, 32, 33, 34, 35, 36, 37, 38, 39, 40, 41] (by decide +kernel) (by decide +kernel)
set_option maxRecDepth 20000 in
theorem gX2_wantedSide_X2_turnsToNext : GoodIn wsX2_wantedSide (va_wsS RX2 62 yX2_turnsToNext wsX2_turnsToNext) := goodIn_app (goodIn_of _ (by decide +kernel)) ggX2_wantedSide_X2_turnsToNext
set_option maxRecDepth 20000 in
theorem ggX2_wantedSide_X6_cellOf : GoodIn wsX2_wantedSide wsX6_cellOf := goodIn_r _ [20] (by decide +kernel) (by decide +kernel)
set_option maxRecDepth 20000 in
theorem gX2_wantedSide_X6_cellOf_n28 : GoodIn wsX2_wantedSide (wsX6_cellOf) := ggX2_wantedSide_X6_cellOf
set_option maxRecDepth 20000 in
theorem ggX2_wantedSide_X1_amountOf : GoodIn wsX2_wantedSide wsX1_amountOf := goodIn_r _ [24, 25, 26, 27, 28, 29, 30, 31, 32, 33, 34, 35, 36] (by decide +kernel) (by decide +kernel)
set_option maxRecDepth 20000 in
theorem gX2_wantedSide_X1_amountOf : GoodIn wsX2_wantedSide (wsV RX2 74 RX1 yX1_amountOf wsX1_amountOf) := goodIn_app (goodIn_of _ (by decide +kernel)) ggX2_wantedSide_X1_amountOf
set_option maxRecDepth 20000 in
theorem ggX2_wantedSide_X1_turnBeside : GoodIn wsX2_wantedSide wsX1_turnBeside := goodIn_r _ [16, 17, 27, 28, 29, 30, 31, 32, 33, 34, 35, 36] (by decide +kernel) (by decide +kernel)
set_option maxRecDepth 20000 in
theorem gX2_wantedSide_X1_turnBeside : GoodIn wsX2_wantedSide (wsV RX2 78 RX1 yX1_turnBeside wsX1_turnBeside) := goodIn_app (goodIn_of _ (by decide +kernel)) ggX2_wantedSide_X1_turnBeside
theorem dX2_wantedSide_0 : decode cX2_wantedSide 0 = .ok (.aload_n 0, 1) := by decide +kernel
theorem dX2_wantedSide_1 : decode cX2_wantedSide 1 = .ok (.aload_n 1, 1) := by decide +kernel
theorem dX2_wantedSide_2 : decode cX2_wantedSide 2 = .ok (.iload_n 2, 1) := by decide +kernel
theorem dX2_wantedSide_3 : decode cX2_wantedSide 3 = .ok (.iload_n 3, 1) := by decide +kernel
theorem dX2_wantedSide_4 : decode cX2_wantedSide 4 = .ok (.iconst 2, 1) := by decide +kernel
theorem dX2_wantedSide_5 : decode cX2_wantedSide 5 = .ok (.invokestatic 62, 3) := by decide +kernel
theorem dX2_wantedSide_8 : decode cX2_wantedSide 8 = .ok (.istore 4, 2) := by decide +kernel
theorem dX2_wantedSide_10 : decode cX2_wantedSide 10 = .ok (.aload_n 0, 1) := by decide +kernel
theorem dX2_wantedSide_11 : decode cX2_wantedSide 11 = .ok (.aload_n 1, 1) := by decide +kernel
theorem dX2_wantedSide_12 : decode cX2_wantedSide 12 = .ok (.iload_n 2, 1) := by decide +kernel
theorem dX2_wantedSide_13 : decode cX2_wantedSide 13 = .ok (.iload_n 3, 1) := by decide +kernel
theorem dX2_wantedSide_14 : decode cX2_wantedSide 14 = .ok (.iconst 1, 1) := by decide +kernel
theorem dX2_wantedSide_15 : decode cX2_wantedSide 15 = .ok (.invokestatic 62, 3) := by decide +kernel
theorem dX2_wantedSide_18 : decode cX2_wantedSide 18 = .ok (.istore 5, 2) := by decide +kernel
theorem dX2_wantedSide_20 : decode cX2_wantedSide 20 = .ok (.iload 4, 2) := by decide +kernel
theorem dX2_wantedSide_22 : decode cX2_wantedSide 22 = .ok (.iload 5, 2) := by decide +kernel
theorem dX2_wantedSide_24 : decode cX2_wantedSide 24 = .ok (.invokestatic 66, 3) := by decide +kernel
theorem dX2_wantedSide_27 : decode cX2_wantedSide 27 = .ok (.istore 6, 2) := by decide +kernel
theorem dX2_wantedSide_29 : decode cX2_wantedSide 29 = .ok (.iload 6, 2) := by decide +kernel
theorem dX2_wantedSide_31 : decode cX2_wantedSide 31 = .ok (.aload_n 0, 1) := by decide +kernel
theorem dX2_wantedSide_32 : decode cX2_wantedSide 32 = .ok (.getfield 21, 3) := by decide +kernel
theorem dX2_wantedSide_35 : decode cX2_wantedSide 35 = .ok (.if_icmp .ge 12, 3) := by decide +kernel
theorem dX2_wantedSide_38 : decode cX2_wantedSide 38 = .ok (.iload 6, 2) := by decide +kernel
theorem dX2_wantedSide_40 : decode cX2_wantedSide 40 = .ok (.aload_n 0, 1) := by decide +kernel
theorem dX2_wantedSide_41 : decode cX2_wantedSide 41 = .ok (.getfield 71, 3) := by decide +kernel
theorem dX2_wantedSide_44 : decode cX2_wantedSide 44 = .ok (.if_icmp .le 5, 3) := by decide +kernel
theorem dX2_wantedSide_47 : decode cX2_wantedSide 47 = .ok (.iconst 0, 1) := by decide +kernel
theorem dX2_wantedSide_48 : decode cX2_wantedSide 48 = .ok (.ireturn, 1) := by decide +kernel
theorem dX2_wantedSide_49 : decode cX2_wantedSide 49 = .ok (.iload 4, 2) := by decide +kernel
theorem dX2_wantedSide_51 : decode cX2_wantedSide 51 = .ok (.iload 5, 2) := by decide +kernel
theorem dX2_wantedSide_53 : decode cX2_wantedSide 53 = .ok (.if_icmp .gt 7, 3) := by decide +kernel
theorem dX2_wantedSide_56 : decode cX2_wantedSide 56 = .ok (.iconst 2, 1) := by decide +kernel
theorem dX2_wantedSide_57 : decode cX2_wantedSide 57 = .ok (.goto 4, 3) := by decide +kernel
theorem dX2_wantedSide_60 : decode cX2_wantedSide 60 = .ok (.iconst 1, 1) := by decide +kernel
theorem dX2_wantedSide_61 : decode cX2_wantedSide 61 = .ok (.istore 7, 2) := by decide +kernel
theorem dX2_wantedSide_63 : decode cX2_wantedSide 63 = .ok (.iload 6, 2) := by decide +kernel
theorem dX2_wantedSide_65 : decode cX2_wantedSide 65 = .ok (.iconst 2, 1) := by decide +kernel
theorem dX2_wantedSide_66 : decode cX2_wantedSide 66 = .ok (.if_icmp .lt 6, 3) := by decide +kernel
theorem dX2_wantedSide_69 : decode cX2_wantedSide 69 = .ok (.iload 7, 2) := by decide +kernel
theorem dX2_wantedSide_71 : decode cX2_wantedSide 71 = .ok (.ireturn, 1) := by decide +kernel
theorem dX2_wantedSide_72 : decode cX2_wantedSide 72 = .ok (.aload_n 0, 1) := by decide +kernel
theorem dX2_wantedSide_73 : decode cX2_wantedSide 73 = .ok (.aload_n 1, 1) := by decide +kernel
theorem dX2_wantedSide_74 : decode cX2_wantedSide 74 = .ok (.getfield 24, 3) := by decide +kernel
theorem dX2_wantedSide_77 : decode cX2_wantedSide 77 = .ok (.iload_n 2, 1) := by decide +kernel
theorem dX2_wantedSide_78 : decode cX2_wantedSide 78 = .ok (.iload_n 3, 1) := by decide +kernel
theorem dX2_wantedSide_79 : decode cX2_wantedSide 79 = .ok (.invokestatic 28, 3) := by decide +kernel
theorem dX2_wantedSide_82 : decode cX2_wantedSide 82 = .ok (.iaload, 1) := by decide +kernel
theorem dX2_wantedSide_83 : decode cX2_wantedSide 83 = .ok (.invokevirtual 74, 3) := by decide +kernel
theorem dX2_wantedSide_86 : decode cX2_wantedSide 86 = .ok (.istore 8, 2) := by decide +kernel
theorem dX2_wantedSide_88 : decode cX2_wantedSide 88 = .ok (.aload_n 0, 1) := by decide +kernel
theorem dX2_wantedSide_89 : decode cX2_wantedSide 89 = .ok (.aload_n 1, 1) := by decide +kernel
theorem dX2_wantedSide_90 : decode cX2_wantedSide 90 = .ok (.getfield 24, 3) := by decide +kernel
theorem dX2_wantedSide_93 : decode cX2_wantedSide 93 = .ok (.iload_n 2, 1) := by decide +kernel
theorem dX2_wantedSide_94 : decode cX2_wantedSide 94 = .ok (.aload_n 0, 1) := by decide +kernel
theorem dX2_wantedSide_95 : decode cX2_wantedSide 95 = .ok (.iload_n 3, 1) := by decide +kernel
theorem dX2_wantedSide_96 : decode cX2_wantedSide 96 = .ok (.iload 7, 2) := by decide +kernel
theorem dX2_wantedSide_98 : decode cX2_wantedSide 98 = .ok (.invokevirtual 78, 3) := by decide +kernel
theorem dX2_wantedSide_101 : decode cX2_wantedSide 101 = .ok (.invokestatic 28, 3) := by decide +kernel
theorem dX2_wantedSide_104 : decode cX2_wantedSide 104 = .ok (.iaload, 1) := by decide +kernel
theorem dX2_wantedSide_105 : decode cX2_wantedSide 105 = .ok (.invokevirtual 74, 3) := by decide +kernel
theorem dX2_wantedSide_108 : decode cX2_wantedSide 108 = .ok (.istore 9, 2) := by decide +kernel
theorem dX2_wantedSide_110 : decode cX2_wantedSide 110 = .ok (.iload 8, 2) := by decide +kernel
theorem dX2_wantedSide_112 : decode cX2_wantedSide 112 = .ok (.iload 9, 2) := by decide +kernel
theorem dX2_wantedSide_114 : decode cX2_wantedSide 114 = .ok (.if_icmp .lt 16, 3) := by decide +kernel
theorem dX2_wantedSide_117 : decode cX2_wantedSide 117 = .ok (.iload 8, 2) := by decide +kernel
theorem dX2_wantedSide_119 : decode cX2_wantedSide 119 = .ok (.iload 9, 2) := by decide +kernel
theorem dX2_wantedSide_121 : decode cX2_wantedSide 121 = .ok (.if_icmp .ne 13, 3) := by decide +kernel
theorem dX2_wantedSide_124 : decode cX2_wantedSide 124 = .ok (.iload 7, 2) := by decide +kernel
theorem dX2_wantedSide_126 : decode cX2_wantedSide 126 = .ok (.iconst 2, 1) := by decide +kernel
theorem dX2_wantedSide_127 : decode cX2_wantedSide 127 = .ok (.if_icmp .ne 7, 3) := by decide +kernel
theorem dX2_wantedSide_130 : decode cX2_wantedSide 130 = .ok (.iconst 1, 1) := by decide +kernel
theorem dX2_wantedSide_131 : decode cX2_wantedSide 131 = .ok (.goto 4, 3) := by decide +kernel
theorem dX2_wantedSide_134 : decode cX2_wantedSide 134 = .ok (.iconst 0, 1) := by decide +kernel
theorem dX2_wantedSide_135 : decode cX2_wantedSide 135 = .ok (.istore 10, 2) := by decide +kernel
theorem dX2_wantedSide_137 : decode cX2_wantedSide 137 = .ok (.iload 10, 2) := by decide +kernel
theorem dX2_wantedSide_139 : decode cX2_wantedSide 139 = .ok (.ifCond .eq 8, 3) := by decide +kernel
theorem dX2_wantedSide_142 : decode cX2_wantedSide 142 = .ok (.iload 7, 2) := by decide +kernel
theorem dX2_wantedSide_144 : decode cX2_wantedSide 144 = .ok (.goto 4, 3) := by decide +kernel
theorem dX2_wantedSide_147 : decode cX2_wantedSide 147 = .ok (.iconst 0, 1) := by decide +kernel
theorem dX2_wantedSide_148 : decode cX2_wantedSide 148 = .ok (.ireturn, 1) := by decide +kernel
set_option maxRecDepth 20000 in
theorem ggX2_turnsToNext_X1_turnBeside : GoodIn wsX2_turnsToNext wsX1_turnBeside := goodIn_r _ [7, 8, 12, 13, 14, 15, 16, 17, 18, 19, 20, 21] (by decide +kernel) (by decide +kernel)
set_option maxRecDepth 20000 in
theorem gX2_turnsToNext_X1_turnBeside : GoodIn wsX2_turnsToNext (wsV RX2 78 RX1 yX1_turnBeside wsX1_turnBeside) := goodIn_app (goodIn_of _ (by decide +kernel)) ggX2_turnsToNext_X1_turnBeside
set_option maxRecDepth 20000 in
theorem ggX2_turnsToNext_X6_cellOf : GoodIn wsX2_turnsToNext wsX6_cellOf := goodIn_r _ [11] (by decide +kernel) (by decide +kernel)
set_option maxRecDepth 20000 in
theorem gX2_turnsToNext_X6_cellOf_n28 : GoodIn wsX2_turnsToNext (wsX6_cellOf) := ggX2_turnsToNext_X6_cellOf
theorem dX2_turnsToNext_0 : decode cX2_turnsToNext 0 = .ok (.iload_n 3, 1) := by decide +kernel
theorem dX2_turnsToNext_1 : decode cX2_turnsToNext 1 = .ok (.istore 5, 2) := by decide +kernel
theorem dX2_turnsToNext_3 : decode cX2_turnsToNext 3 = .ok (.iconst 1, 1) := by decide +kernel
theorem dX2_turnsToNext_4 : decode cX2_turnsToNext 4 = .ok (.istore 6, 2) := by decide +kernel
theorem dX2_turnsToNext_6 : decode cX2_turnsToNext 6 = .ok (.iload 6, 2) := by decide +kernel
theorem dX2_turnsToNext_8 : decode cX2_turnsToNext 8 = .ok (.aload_n 0, 1) := by decide +kernel
theorem dX2_turnsToNext_9 : decode cX2_turnsToNext 9 = .ok (.getfield 21, 3) := by decide +kernel
theorem dX2_turnsToNext_12 : decode cX2_turnsToNext 12 = .ok (.if_icmp .ge 36, 3) := by decide +kernel
theorem dX2_turnsToNext_15 : decode cX2_turnsToNext 15 = .ok (.aload_n 0, 1) := by decide +kernel
theorem dX2_turnsToNext_16 : decode cX2_turnsToNext 16 = .ok (.iload 5, 2) := by decide +kernel
theorem dX2_turnsToNext_18 : decode cX2_turnsToNext 18 = .ok (.iload 4, 2) := by decide +kernel
theorem dX2_turnsToNext_20 : decode cX2_turnsToNext 20 = .ok (.invokevirtual 78, 3) := by decide +kernel
theorem dX2_turnsToNext_23 : decode cX2_turnsToNext 23 = .ok (.istore 5, 2) := by decide +kernel
theorem dX2_turnsToNext_25 : decode cX2_turnsToNext 25 = .ok (.aload_n 1, 1) := by decide +kernel
theorem dX2_turnsToNext_26 : decode cX2_turnsToNext 26 = .ok (.getfield 24, 3) := by decide +kernel
theorem dX2_turnsToNext_29 : decode cX2_turnsToNext 29 = .ok (.iload_n 2, 1) := by decide +kernel
theorem dX2_turnsToNext_30 : decode cX2_turnsToNext 30 = .ok (.iload 5, 2) := by decide +kernel
theorem dX2_turnsToNext_32 : decode cX2_turnsToNext 32 = .ok (.invokestatic 28, 3) := by decide +kernel
theorem dX2_turnsToNext_35 : decode cX2_turnsToNext 35 = .ok (.iaload, 1) := by decide +kernel
theorem dX2_turnsToNext_36 : decode cX2_turnsToNext 36 = .ok (.ifCond .eq 6, 3) := by decide +kernel
theorem dX2_turnsToNext_39 : decode cX2_turnsToNext 39 = .ok (.iload 6, 2) := by decide +kernel
theorem dX2_turnsToNext_41 : decode cX2_turnsToNext 41 = .ok (.ireturn, 1) := by decide +kernel
theorem dX2_turnsToNext_42 : decode cX2_turnsToNext 42 = .ok (.iinc 6 1, 3) := by decide +kernel
theorem dX2_turnsToNext_45 : decode cX2_turnsToNext 45 = .ok (.goto (-39), 3) := by decide +kernel
theorem dX2_turnsToNext_48 : decode cX2_turnsToNext 48 = .ok (.aload_n 0, 1) := by decide +kernel
theorem dX2_turnsToNext_49 : decode cX2_turnsToNext 49 = .ok (.getfield 21, 3) := by decide +kernel
theorem dX2_turnsToNext_52 : decode cX2_turnsToNext 52 = .ok (.ireturn, 1) := by decide +kernel
set_option maxRecDepth 20000 in
theorem ggX2_passableSide_X1_cellInwards : GoodIn wsX2_passableSide wsX1_cellInwards := goodIn_r _ [6, 7, 8, 9, 5, 10, 11, 12, 13, 14, 15, 16, 17, 18, 19, 20, 21, 22, 23, 24] (by decide +kernel) (by decide +kernel)
set_option maxRecDepth 20000 in
theorem gX2_passableSide_X1_cellInwards : GoodIn wsX2_passableSide (wsV RX2 36 RX1 yX1_cellInwards wsX1_cellInwards) := goodIn_app (goodIn_of _ (by decide +kernel)) ggX2_passableSide_X1_cellInwards
theorem dX2_passableSide_0 : decode cX2_passableSide 0 = .ok (.aload_n 0, 1) := by decide +kernel
theorem dX2_passableSide_1 : decode cX2_passableSide 1 = .ok (.getfield 32, 3) := by decide +kernel
theorem dX2_passableSide_4 : decode cX2_passableSide 4 = .ok (.aload_n 0, 1) := by decide +kernel
theorem dX2_passableSide_5 : decode cX2_passableSide 5 = .ok (.iload_n 1, 1) := by decide +kernel
theorem dX2_passableSide_6 : decode cX2_passableSide 6 = .ok (.iload_n 2, 1) := by decide +kernel
theorem dX2_passableSide_7 : decode cX2_passableSide 7 = .ok (.iload_n 3, 1) := by decide +kernel
theorem dX2_passableSide_8 : decode cX2_passableSide 8 = .ok (.invokevirtual 36, 3) := by decide +kernel
theorem dX2_passableSide_11 : decode cX2_passableSide 11 = .ok (.baload, 1) := by decide +kernel
theorem dX2_passableSide_12 : decode cX2_passableSide 12 = .ok (.ifCond .ne 5, 3) := by decide +kernel
theorem dX2_passableSide_15 : decode cX2_passableSide 15 = .ok (.iload_n 3, 1) := by decide +kernel
theorem dX2_passableSide_16 : decode cX2_passableSide 16 = .ok (.ireturn, 1) := by decide +kernel
theorem dX2_passableSide_17 : decode cX2_passableSide 17 = .ok (.iconst 0, 1) := by decide +kernel
theorem dX2_passableSide_18 : decode cX2_passableSide 18 = .ok (.istore 4, 2) := by decide +kernel
theorem dX2_passableSide_20 : decode cX2_passableSide 20 = .ok (.iload 4, 2) := by decide +kernel
theorem dX2_passableSide_22 : decode cX2_passableSide 22 = .ok (.iconst 2, 1) := by decide +kernel
theorem dX2_passableSide_23 : decode cX2_passableSide 23 = .ok (.if_icmp .gt 28, 3) := by decide +kernel
theorem dX2_passableSide_26 : decode cX2_passableSide 26 = .ok (.aload_n 0, 1) := by decide +kernel
theorem dX2_passableSide_27 : decode cX2_passableSide 27 = .ok (.getfield 32, 3) := by decide +kernel
theorem dX2_passableSide_30 : decode cX2_passableSide 30 = .ok (.aload_n 0, 1) := by decide +kernel
theorem dX2_passableSide_31 : decode cX2_passableSide 31 = .ok (.iload_n 1, 1) := by decide +kernel
theorem dX2_passableSide_32 : decode cX2_passableSide 32 = .ok (.iload_n 2, 1) := by decide +kernel
theorem dX2_passableSide_33 : decode cX2_passableSide 33 = .ok (.iload 4, 2) := by decide +kernel
theorem dX2_passableSide_35 : decode cX2_passableSide 35 = .ok (.invokevirtual 36, 3) := by decide +kernel
theorem dX2_passableSide_38 : decode cX2_passableSide 38 = .ok (.baload, 1) := by decide +kernel
theorem dX2_passableSide_39 : decode cX2_passableSide 39 = .ok (.ifCond .ne 6, 3) := by decide +kernel
theorem dX2_passableSide_42 : decode cX2_passableSide 42 = .ok (.iload 4, 2) := by decide +kernel
theorem dX2_passableSide_44 : decode cX2_passableSide 44 = .ok (.ireturn, 1) := by decide +kernel
theorem dX2_passableSide_45 : decode cX2_passableSide 45 = .ok (.iinc 4 1, 3) := by decide +kernel
theorem dX2_passableSide_48 : decode cX2_passableSide 48 = .ok (.goto (-28), 3) := by decide +kernel
theorem dX2_passableSide_51 : decode cX2_passableSide 51 = .ok (.iconst (-1), 1) := by decide +kernel
theorem dX2_passableSide_52 : decode cX2_passableSide 52 = .ok (.ireturn, 1) := by decide +kernel
set_option maxRecDepth 20000 in
theorem ggX2_go_X6_cellOf : GoodIn wsX2_go wsX6_cellOf := goodIn_r _ [5] (by decide +kernel) (by decide +kernel)
set_option maxRecDepth 20000 in
theorem gX2_go_X6_cellOf_n28 : GoodIn wsX2_go (wsX6_cellOf) := ggX2_go_X6_cellOf
set_option maxRecDepth 20000 in
theorem ggX2_go_X1_cellInwards : GoodIn wsX2_go wsX1_cellInwards := goodIn_r _ [10, 11, 12, 13, 9, 14, 15, 3, 4, 5, 21, 22, 23, 24, 25, 26, 27, 28, 29, 30] (by decide +kernel) (by decide +kernel)
set_option maxRecDepth 20000 in
theorem gX2_go_X1_cellInwards : GoodIn wsX2_go (wsV RX2 36 RX1 yX1_cellInwards wsX1_cellInwards) := goodIn_app (goodIn_of _ (by decide +kernel)) ggX2_go_X1_cellInwards
theorem dX2_go_0 : decode cX2_go 0 = .ok (.iload_n 2, 1) := by decide +kernel
theorem dX2_go_1 : decode cX2_go 1 = .ok (.iload_n 3, 1) := by decide +kernel
theorem dX2_go_2 : decode cX2_go 2 = .ok (.invokestatic 28, 3) := by decide +kernel
theorem dX2_go_5 : decode cX2_go 5 = .ok (.istore 5, 2) := by decide +kernel
theorem dX2_go_7 : decode cX2_go 7 = .ok (.aload_n 1, 1) := by decide +kernel
theorem dX2_go_8 : decode cX2_go 8 = .ok (.getfield 24, 3) := by decide +kernel
theorem dX2_go_11 : decode cX2_go 11 = .ok (.iload 5, 2) := by decide +kernel
theorem dX2_go_13 : decode cX2_go 13 = .ok (.iaload, 1) := by decide +kernel
theorem dX2_go_14 : decode cX2_go 14 = .ok (.ifCond .eq 35, 3) := by decide +kernel
theorem dX2_go_17 : decode cX2_go 17 = .ok (.aload_n 1, 1) := by decide +kernel
theorem dX2_go_18 : decode cX2_go 18 = .ok (.getfield 81, 3) := by decide +kernel
theorem dX2_go_21 : decode cX2_go 21 = .ok (.iload 5, 2) := by decide +kernel
theorem dX2_go_23 : decode cX2_go 23 = .ok (.iload 4, 2) := by decide +kernel
theorem dX2_go_25 : decode cX2_go 25 = .ok (.iastore, 1) := by decide +kernel
theorem dX2_go_26 : decode cX2_go 26 = .ok (.aload_n 1, 1) := by decide +kernel
theorem dX2_go_27 : decode cX2_go 27 = .ok (.getfield 24, 3) := by decide +kernel
theorem dX2_go_30 : decode cX2_go 30 = .ok (.aload_n 0, 1) := by decide +kernel
theorem dX2_go_31 : decode cX2_go 31 = .ok (.iload_n 2, 1) := by decide +kernel
theorem dX2_go_32 : decode cX2_go 32 = .ok (.iload_n 3, 1) := by decide +kernel
theorem dX2_go_33 : decode cX2_go 33 = .ok (.iload 4, 2) := by decide +kernel
theorem dX2_go_35 : decode cX2_go 35 = .ok (.invokevirtual 36, 3) := by decide +kernel
theorem dX2_go_38 : decode cX2_go 38 = .ok (.dup2, 1) := by decide +kernel
theorem dX2_go_39 : decode cX2_go 39 = .ok (.iaload, 1) := by decide +kernel
theorem dX2_go_40 : decode cX2_go 40 = .ok (.aload_n 1, 1) := by decide +kernel
theorem dX2_go_41 : decode cX2_go 41 = .ok (.getfield 24, 3) := by decide +kernel
theorem dX2_go_44 : decode cX2_go 44 = .ok (.iload 5, 2) := by decide +kernel
theorem dX2_go_46 : decode cX2_go 46 = .ok (.iaload, 1) := by decide +kernel
theorem dX2_go_47 : decode cX2_go 47 = .ok (.ior, 1) := by decide +kernel
theorem dX2_go_48 : decode cX2_go 48 = .ok (.iastore, 1) := by decide +kernel
theorem dX2_go_49 : decode cX2_go 49 = .ok (.return_, 1) := by decide +kernel
set_option maxRecDepth 20000 in
theorem ggX2_drawStraightened_X5_copyFrom : GoodIn wsX2_drawStraightened wsX5_copyFrom := goodIn_r _ [6, 7, 8, 9, 10, 11, 12, 90, 91, 92, 93, 94] (by decide +kernel) (by decide +kernel)
set_option maxRecDepth 20000 in
theorem gX2_drawStraightened_X5_copyFrom : GoodIn wsX2_drawStraightened (wsV RX2 84 RX5 yX5_copyFrom wsX5_copyFrom) := goodIn_app (goodIn_of _ (by decide +kernel)) ggX2_drawStraightened_X5_copyFrom
set_option maxRecDepth 20000 in
theorem ggX2_drawStraightened_X2_straightenOnce : GoodIn wsX2_drawStraightened wsX2_straightenOnce := goodIn_r _ [16, 17, 18, 19, 20, 15, 21, 22, 23, 24, 25, 26, 27, 28, 29, 30, 5, 31, 12, 32, 33, 34, 35, 36, 37, 38, 39, 40, 41, 42, 43, 44, 45, 46, 47, 48, 49, 50, 51, 52, 53, 54, 55, 56, 57, 58, 59, 60, 61, 62, 95, 96, 97, 98, 99, 100, 101, 102, 103, 104, 90, 91, 92, 93, 94] (by decide +kernel) (by decide +kernel)
set_option maxRecDepth 20000 in
theorem gX2_drawStraightened_X2_straightenOnce : GoodIn wsX2_drawStraightened (va_wsS RX2 92 yX2_straightenOnce wsX2_straightenOnce) := goodIn_app (goodIn_of _ (by decide +kernel)) ggX2_drawStraightened_X2_straightenOnce
set_option maxRecDepth 20000 in
theorem ggX2_drawStraightened_X5_finish : GoodIn wsX2_drawStraightened wsX5_finish := goodIn_r _ [66, 67, 68, 69, 70, 71, 72, 5, 73, 49, 74, 7, 12, 25, 26, 27, 75, 76, 77, 35, 78, 42, 79, 80, 81, 82, 83, 84, 85, 86, 87, 88, 89, 90, 91, 92, 93, 94, 95, 96, 97, 98, 99, 100, 101, 102, 103, 104] (by decide +kernel) (by decide +kernel)
set_option maxRecDepth 20000 in
theorem gX2_drawStraightened_X5_finish : GoodIn wsX2_drawStraightened (wsV RX2 46 RX5 yX5_finish wsX5_finish) := goodIn_app (goodIn_of _ (by decide +kernel)) ggX2_drawStraightened_X5_finish
theorem dX2_drawStraightened_0 : decode cX2_drawStraightened 0 = .ok (.aload_n 2, 1) := by decide +kernel
theorem dX2_drawStraightened_1 : decode cX2_drawStraightened 1 = .ok (.aload_n 1, 1) := by decide +kernel
theorem dX2_drawStraightened_2 : decode cX2_drawStraightened 2 = .ok (.invokevirtual 84, 3) := by decide +kernel
theorem dX2_drawStraightened_5 : decode cX2_drawStraightened 5 = .ok (.aload_n 1, 1) := by decide +kernel
theorem dX2_drawStraightened_6 : decode cX2_drawStraightened 6 = .ok (.getfield 88, 3) := by decide +kernel
theorem dX2_drawStraightened_9 : decode cX2_drawStraightened 9 = .ok (.istore_n 3, 1) := by decide +kernel
theorem dX2_drawStraightened_10 : decode cX2_drawStraightened 10 = .ok (.iconst 0, 1) := by decide +kernel
theorem dX2_drawStraightened_11 : decode cX2_drawStraightened 11 = .ok (.istore 4, 2) := by decide +kernel
theorem dX2_drawStraightened_13 : decode cX2_drawStraightened 13 = .ok (.iload 4, 2) := by decide +kernel
theorem dX2_drawStraightened_15 : decode cX2_drawStraightened 15 = .ok (.sipush 240, 3) := by decide +kernel
theorem dX2_drawStraightened_18 : decode cX2_drawStraightened 18 = .ok (.if_icmp .ge 19, 3) := by decide +kernel
theorem dX2_drawStraightened_21 : decode cX2_drawStraightened 21 = .ok (.iload_n 3, 1) := by decide +kernel
theorem dX2_drawStraightened_22 : decode cX2_drawStraightened 22 = .ok (.ifCond .eq 15, 3) := by decide +kernel
theorem dX2_drawStraightened_25 : decode cX2_drawStraightened 25 = .ok (.aload_n 0, 1) := by decide +kernel
theorem dX2_drawStraightened_26 : decode cX2_drawStraightened 26 = .ok (.aload_n 2, 1) := by decide +kernel
theorem dX2_drawStraightened_27 : decode cX2_drawStraightened 27 = .ok (.invokestatic 92, 3) := by decide +kernel
theorem dX2_drawStraightened_30 : decode cX2_drawStraightened 30 = .ok (.istore_n 3, 1) := by decide +kernel
theorem dX2_drawStraightened_31 : decode cX2_drawStraightened 31 = .ok (.iinc 4 1, 3) := by decide +kernel
theorem dX2_drawStraightened_34 : decode cX2_drawStraightened 34 = .ok (.goto (-21), 3) := by decide +kernel
theorem dX2_drawStraightened_37 : decode cX2_drawStraightened 37 = .ok (.aload_n 2, 1) := by decide +kernel
theorem dX2_drawStraightened_38 : decode cX2_drawStraightened 38 = .ok (.aload_n 0, 1) := by decide +kernel
theorem dX2_drawStraightened_39 : decode cX2_drawStraightened 39 = .ok (.aload_n 1, 1) := by decide +kernel
theorem dX2_drawStraightened_40 : decode cX2_drawStraightened 40 = .ok (.getfield 88, 3) := by decide +kernel
theorem dX2_drawStraightened_43 : decode cX2_drawStraightened 43 = .ok (.invokevirtual 46, 3) := by decide +kernel
theorem dX2_drawStraightened_46 : decode cX2_drawStraightened 46 = .ok (.return_, 1) := by decide +kernel
set_option maxRecDepth 20000 in
theorem ggX2_straightenOnce_X2_isDetour : GoodIn wsX2_straightenOnce wsX2_isDetour := goodIn_r _ [6, 7, 8, 9, 10, 11, 12, 13, 14, 15, 16, 17, 18, 19, 20, 21, 22, 23, 24, 25, 26, 27, 28, 29, 30, 31, 32, 33, 34, 35, 36, 37, 38, 39, 40, 5, 41, 60, 61, 62, 63, 64, 50, 51, 52, 53, 54, 55, 56, 57, 58, 59] (by decide +kernel) (by decide +kernel)
set_option maxRecDepth 20000 in
theorem gX2_straightenOnce_X2_isDetour : GoodIn wsX2_straightenOnce (va_wsS RX2 96 yX2_isDetour wsX2_isDetour) := goodIn_app (goodIn_of _ (by decide +kernel)) ggX2_straightenOnce_X2_isDetour
set_option maxRecDepth 20000 in
theorem ggX2_straightenOnce_X2_straighten : GoodIn wsX2_straightenOnce wsX2_straighten := goodIn_r _ [44, 7, 9, 10, 11, 12, 45, 46, 47, 22, 48, 49, 20, 21, 23, 24, 60, 61, 62, 63, 64, 50, 51, 52, 53, 54, 55, 56, 57, 58, 59] (by decide +kernel) (by decide +kernel)
set_option maxRecDepth 20000 in
theorem gX2_straightenOnce_X2_straighten : GoodIn wsX2_straightenOnce (va_wsS RX2 100 yX2_straighten wsX2_straighten) := goodIn_app (goodIn_of _ (by decide +kernel)) ggX2_straightenOnce_X2_straighten
theorem dX2_straightenOnce_0 : decode cX2_straightenOnce 0 = .ok (.iconst 0, 1) := by decide +kernel
theorem dX2_straightenOnce_1 : decode cX2_straightenOnce 1 = .ok (.istore_n 2, 1) := by decide +kernel
theorem dX2_straightenOnce_2 : decode cX2_straightenOnce 2 = .ok (.aload_n 0, 1) := by decide +kernel
theorem dX2_straightenOnce_3 : decode cX2_straightenOnce 3 = .ok (.getfield 15, 3) := by decide +kernel
theorem dX2_straightenOnce_6 : decode cX2_straightenOnce 6 = .ok (.istore_n 3, 1) := by decide +kernel
theorem dX2_straightenOnce_7 : decode cX2_straightenOnce 7 = .ok (.iload_n 3, 1) := by decide +kernel
theorem dX2_straightenOnce_8 : decode cX2_straightenOnce 8 = .ok (.iconst 3, 1) := by decide +kernel
theorem dX2_straightenOnce_9 : decode cX2_straightenOnce 9 = .ok (.if_icmp .lt 48, 3) := by decide +kernel
theorem dX2_straightenOnce_12 : decode cX2_straightenOnce 12 = .ok (.iconst 0, 1) := by decide +kernel
theorem dX2_straightenOnce_13 : decode cX2_straightenOnce 13 = .ok (.istore 4, 2) := by decide +kernel
theorem dX2_straightenOnce_15 : decode cX2_straightenOnce 15 = .ok (.iload 4, 2) := by decide +kernel
theorem dX2_straightenOnce_17 : decode cX2_straightenOnce 17 = .ok (.aload_n 0, 1) := by decide +kernel
theorem dX2_straightenOnce_18 : decode cX2_straightenOnce 18 = .ok (.getfield 21, 3) := by decide +kernel
theorem dX2_straightenOnce_21 : decode cX2_straightenOnce 21 = .ok (.if_icmp .ge 30, 3) := by decide +kernel
theorem dX2_straightenOnce_24 : decode cX2_straightenOnce 24 = .ok (.aload_n 0, 1) := by decide +kernel
theorem dX2_straightenOnce_25 : decode cX2_straightenOnce 25 = .ok (.aload_n 1, 1) := by decide +kernel
theorem dX2_straightenOnce_26 : decode cX2_straightenOnce 26 = .ok (.iload_n 3, 1) := by decide +kernel
theorem dX2_straightenOnce_27 : decode cX2_straightenOnce 27 = .ok (.iload 4, 2) := by decide +kernel
theorem dX2_straightenOnce_29 : decode cX2_straightenOnce 29 = .ok (.invokestatic 96, 3) := by decide +kernel
theorem dX2_straightenOnce_32 : decode cX2_straightenOnce 32 = .ok (.ifCond .eq 13, 3) := by decide +kernel
theorem dX2_straightenOnce_35 : decode cX2_straightenOnce 35 = .ok (.aload_n 0, 1) := by decide +kernel
theorem dX2_straightenOnce_36 : decode cX2_straightenOnce 36 = .ok (.aload_n 1, 1) := by decide +kernel
theorem dX2_straightenOnce_37 : decode cX2_straightenOnce 37 = .ok (.iload_n 3, 1) := by decide +kernel
theorem dX2_straightenOnce_38 : decode cX2_straightenOnce 38 = .ok (.iload 4, 2) := by decide +kernel
theorem dX2_straightenOnce_40 : decode cX2_straightenOnce 40 = .ok (.invokestatic 100, 3) := by decide +kernel
theorem dX2_straightenOnce_43 : decode cX2_straightenOnce 43 = .ok (.iconst 1, 1) := by decide +kernel
theorem dX2_straightenOnce_44 : decode cX2_straightenOnce 44 = .ok (.istore_n 2, 1) := by decide +kernel
theorem dX2_straightenOnce_45 : decode cX2_straightenOnce 45 = .ok (.iinc 4 1, 3) := by decide +kernel
theorem dX2_straightenOnce_48 : decode cX2_straightenOnce 48 = .ok (.goto (-33), 3) := by decide +kernel
theorem dX2_straightenOnce_51 : decode cX2_straightenOnce 51 = .ok (.iinc 3 (-1), 3) := by decide +kernel
theorem dX2_straightenOnce_54 : decode cX2_straightenOnce 54 = .ok (.goto (-47), 3) := by decide +kernel
theorem dX2_straightenOnce_57 : decode cX2_straightenOnce 57 = .ok (.iload_n 2, 1) := by decide +kernel
theorem dX2_straightenOnce_58 : decode cX2_straightenOnce 58 = .ok (.ireturn, 1) := by decide +kernel
set_option maxRecDepth 20000 in
theorem ggX2_isDetour_X6_cellOf : GoodIn wsX2_isDetour wsX6_cellOf := goodIn_r _ [6] (by decide +kernel) (by decide +kernel)
set_option maxRecDepth 20000 in
theorem gX2_isDetour_X6_cellOf_n28 : GoodIn wsX2_isDetour (wsX6_cellOf) := ggX2_isDetour_X6_cellOf
set_option maxRecDepth 20000 in
theorem ggX2_isDetour_X5_bendsAt : GoodIn wsX2_isDetour wsX5_bendsAt := goodIn_r _ [11, 12, 37, 38, 39, 40, 41] (by decide +kernel) (by decide +kernel)
set_option maxRecDepth 20000 in
theorem gX2_isDetour_X5_bendsAt : GoodIn wsX2_isDetour (wsV RX2 104 RX5 yX5_bendsAt wsX5_bendsAt) := goodIn_app (goodIn_of _ (by decide +kernel)) ggX2_isDetour_X5_bendsAt
set_option maxRecDepth 20000 in
theorem ggX2_isDetour_X1_turnBeside : GoodIn wsX2_isDetour wsX1_turnBeside := goodIn_r _ [17, 18, 42, 43, 44, 45, 46, 47, 48, 49, 50, 51] (by decide +kernel) (by decide +kernel)
set_option maxRecDepth 20000 in
theorem gX2_isDetour_X1_turnBeside : GoodIn wsX2_isDetour (wsV RX2 78 RX1 yX1_turnBeside wsX1_turnBeside) := goodIn_app (goodIn_of _ (by decide +kernel)) ggX2_isDetour_X1_turnBeside
set_option maxRecDepth 20000 in
theorem ggX2_isDetour_X1_placeAt : GoodIn wsX2_isDetour wsX1_placeAt := goodIn_r _ [22, 23, 24, 25, 42, 43, 44, 45, 46, 47, 48, 49, 50, 51] (by decide +kernel) (by decide +kernel)
set_option maxRecDepth 20000 in
theorem gX2_isDetour_X1_placeAt : GoodIn wsX2_isDetour (wsV RX2 108 RX1 yX1_placeAt wsX1_placeAt) := goodIn_app (goodIn_of _ (by decide +kernel)) ggX2_isDetour_X1_placeAt
set_option maxRecDepth 20000 in
theorem ggX2_isDetour_X5_comersToCell : GoodIn wsX2_isDetour wsX5_comersToCell := goodIn_r _ [29, 30, 12, 31, 20, 21, 16, 22, 23, 24, 25, 4, 5, 6, 32, 14, 15, 17, 18, 42, 43, 44, 45, 46, 47, 48, 49, 50, 51, 37, 38, 39, 40, 41] (by decide +kernel) (by decide +kernel)
set_option maxRecDepth 20000 in
theorem gX2_isDetour_X5_comersToCell : GoodIn wsX2_isDetour (wsV RX2 111 RX5 yX5_comersToCell wsX5_comersToCell) := goodIn_app (goodIn_of _ (by decide +kernel)) ggX2_isDetour_X5_comersToCell
set_option maxRecDepth 20000 in
theorem ggX2_isDetour_X2_otherSide : GoodIn wsX2_isDetour wsX2_otherSide := goodIn_r _ [36] (by decide +kernel) (by decide +kernel)
set_option maxRecDepth 20000 in
theorem gX2_isDetour_X2_otherSide : GoodIn wsX2_isDetour (va_wsS RX2 115 yX2_otherSide wsX2_otherSide) := goodIn_app (goodIn_of _ (by decide +kernel)) ggX2_isDetour_X2_otherSide
theorem dX2_isDetour_0 : decode cX2_isDetour 0 = .ok (.iload_n 2, 1) := by decide +kernel
theorem dX2_isDetour_1 : decode cX2_isDetour 1 = .ok (.iload_n 3, 1) := by decide +kernel
theorem dX2_isDetour_2 : decode cX2_isDetour 2 = .ok (.invokestatic 28, 3) := by decide +kernel
theorem dX2_isDetour_5 : decode cX2_isDetour 5 = .ok (.istore 4, 2) := by decide +kernel
theorem dX2_isDetour_7 : decode cX2_isDetour 7 = .ok (.aload_n 1, 1) := by decide +kernel
theorem dX2_isDetour_8 : decode cX2_isDetour 8 = .ok (.iload 4, 2) := by decide +kernel
theorem dX2_isDetour_10 : decode cX2_isDetour 10 = .ok (.invokevirtual 104, 3) := by decide +kernel
theorem dX2_isDetour_13 : decode cX2_isDetour 13 = .ok (.ifCond .ne 5, 3) := by decide +kernel
theorem dX2_isDetour_16 : decode cX2_isDetour 16 = .ok (.iconst 0, 1) := by decide +kernel
theorem dX2_isDetour_17 : decode cX2_isDetour 17 = .ok (.ireturn, 1) := by decide +kernel
theorem dX2_isDetour_18 : decode cX2_isDetour 18 = .ok (.aload_n 0, 1) := by decide +kernel
theorem dX2_isDetour_19 : decode cX2_isDetour 19 = .ok (.iload_n 3, 1) := by decide +kernel
theorem dX2_isDetour_20 : decode cX2_isDetour 20 = .ok (.aload_n 1, 1) := by decide +kernel
theorem dX2_isDetour_21 : decode cX2_isDetour 21 = .ok (.getfield 81, 3) := by decide +kernel
theorem dX2_isDetour_24 : decode cX2_isDetour 24 = .ok (.iload 4, 2) := by decide +kernel
theorem dX2_isDetour_26 : decode cX2_isDetour 26 = .ok (.iaload, 1) := by decide +kernel
theorem dX2_isDetour_27 : decode cX2_isDetour 27 = .ok (.invokevirtual 78, 3) := by decide +kernel
theorem dX2_isDetour_30 : decode cX2_isDetour 30 = .ok (.istore 5, 2) := by decide +kernel
theorem dX2_isDetour_32 : decode cX2_isDetour 32 = .ok (.iload_n 2, 1) := by decide +kernel
theorem dX2_isDetour_33 : decode cX2_isDetour 33 = .ok (.iconst 1, 1) := by decide +kernel
theorem dX2_isDetour_34 : decode cX2_isDetour 34 = .ok (.isub, 1) := by decide +kernel
theorem dX2_isDetour_35 : decode cX2_isDetour 35 = .ok (.iload_n 3, 1) := by decide +kernel
theorem dX2_isDetour_36 : decode cX2_isDetour 36 = .ok (.invokestatic 28, 3) := by decide +kernel
theorem dX2_isDetour_39 : decode cX2_isDetour 39 = .ok (.istore 6, 2) := by decide +kernel
theorem dX2_isDetour_41 : decode cX2_isDetour 41 = .ok (.aload_n 0, 1) := by decide +kernel
theorem dX2_isDetour_42 : decode cX2_isDetour 42 = .ok (.iload_n 2, 1) := by decide +kernel
theorem dX2_isDetour_43 : decode cX2_isDetour 43 = .ok (.iconst 1, 1) := by decide +kernel
theorem dX2_isDetour_44 : decode cX2_isDetour 44 = .ok (.isub, 1) := by decide +kernel
theorem dX2_isDetour_45 : decode cX2_isDetour 45 = .ok (.iload 5, 2) := by decide +kernel
theorem dX2_isDetour_47 : decode cX2_isDetour 47 = .ok (.invokevirtual 108, 3) := by decide +kernel
theorem dX2_isDetour_50 : decode cX2_isDetour 50 = .ok (.iconst (-1), 1) := by decide +kernel
theorem dX2_isDetour_51 : decode cX2_isDetour 51 = .ok (.if_icmp .ne 67, 3) := by decide +kernel
theorem dX2_isDetour_54 : decode cX2_isDetour 54 = .ok (.aload_n 1, 1) := by decide +kernel
theorem dX2_isDetour_55 : decode cX2_isDetour 55 = .ok (.aload_n 0, 1) := by decide +kernel
theorem dX2_isDetour_56 : decode cX2_isDetour 56 = .ok (.iload_n 2, 1) := by decide +kernel
theorem dX2_isDetour_57 : decode cX2_isDetour 57 = .ok (.iconst 1, 1) := by decide +kernel
theorem dX2_isDetour_58 : decode cX2_isDetour 58 = .ok (.isub, 1) := by decide +kernel
theorem dX2_isDetour_59 : decode cX2_isDetour 59 = .ok (.iload 5, 2) := by decide +kernel
theorem dX2_isDetour_61 : decode cX2_isDetour 61 = .ok (.invokevirtual 111, 3) := by decide +kernel
theorem dX2_isDetour_64 : decode cX2_isDetour 64 = .ok (.iconst 1, 1) := by decide +kernel
theorem dX2_isDetour_65 : decode cX2_isDetour 65 = .ok (.if_icmp .ne 53, 3) := by decide +kernel
theorem dX2_isDetour_68 : decode cX2_isDetour 68 = .ok (.aload_n 1, 1) := by decide +kernel
theorem dX2_isDetour_69 : decode cX2_isDetour 69 = .ok (.getfield 81, 3) := by decide +kernel
theorem dX2_isDetour_72 : decode cX2_isDetour 72 = .ok (.iload_n 2, 1) := by decide +kernel
theorem dX2_isDetour_73 : decode cX2_isDetour 73 = .ok (.iconst 1, 1) := by decide +kernel
theorem dX2_isDetour_74 : decode cX2_isDetour 74 = .ok (.isub, 1) := by decide +kernel
theorem dX2_isDetour_75 : decode cX2_isDetour 75 = .ok (.iload 5, 2) := by decide +kernel
theorem dX2_isDetour_77 : decode cX2_isDetour 77 = .ok (.invokestatic 28, 3) := by decide +kernel
theorem dX2_isDetour_80 : decode cX2_isDetour 80 = .ok (.iaload, 1) := by decide +kernel
theorem dX2_isDetour_81 : decode cX2_isDetour 81 = .ok (.aload_n 1, 1) := by decide +kernel
theorem dX2_isDetour_82 : decode cX2_isDetour 82 = .ok (.getfield 81, 3) := by decide +kernel
theorem dX2_isDetour_85 : decode cX2_isDetour 85 = .ok (.iload 4, 2) := by decide +kernel
theorem dX2_isDetour_87 : decode cX2_isDetour 87 = .ok (.iaload, 1) := by decide +kernel
theorem dX2_isDetour_88 : decode cX2_isDetour 88 = .ok (.invokestatic 115, 3) := by decide +kernel
theorem dX2_isDetour_91 : decode cX2_isDetour 91 = .ok (.if_icmp .ne 27, 3) := by decide +kernel
theorem dX2_isDetour_94 : decode cX2_isDetour 94 = .ok (.aload_n 0, 1) := by decide +kernel
theorem dX2_isDetour_95 : decode cX2_isDetour 95 = .ok (.getfield 32, 3) := by decide +kernel
theorem dX2_isDetour_98 : decode cX2_isDetour 98 = .ok (.iload 6, 2) := by decide +kernel
theorem dX2_isDetour_100 : decode cX2_isDetour 100 = .ok (.baload, 1) := by decide +kernel
theorem dX2_isDetour_101 : decode cX2_isDetour 101 = .ok (.ifCond .ne 17, 3) := by decide +kernel
theorem dX2_isDetour_104 : decode cX2_isDetour 104 = .ok (.aload_n 1, 1) := by decide +kernel
theorem dX2_isDetour_105 : decode cX2_isDetour 105 = .ok (.getfield 24, 3) := by decide +kernel
theorem dX2_isDetour_108 : decode cX2_isDetour 108 = .ok (.iload 6, 2) := by decide +kernel
theorem dX2_isDetour_110 : decode cX2_isDetour 110 = .ok (.iaload, 1) := by decide +kernel
theorem dX2_isDetour_111 : decode cX2_isDetour 111 = .ok (.ifCond .ne 7, 3) := by decide +kernel
theorem dX2_isDetour_114 : decode cX2_isDetour 114 = .ok (.iconst 1, 1) := by decide +kernel
theorem dX2_isDetour_115 : decode cX2_isDetour 115 = .ok (.goto 4, 3) := by decide +kernel
theorem dX2_isDetour_118 : decode cX2_isDetour 118 = .ok (.iconst 0, 1) := by decide +kernel
theorem dX2_isDetour_119 : decode cX2_isDetour 119 = .ok (.ireturn, 1) := by decide +kernel
set_option maxRecDepth 20000 in
theorem ggX2_straighten_X6_cellOf : GoodIn wsX2_straighten wsX6_cellOf := goodIn_r _ [5] (by decide +kernel) (by decide +kernel)
set_option maxRecDepth 20000 in
theorem gX2_straighten_X6_cellOf_n28 : GoodIn wsX2_straighten (wsX6_cellOf) := ggX2_straighten_X6_cellOf
set_option maxRecDepth 20000 in
theorem ggX2_straighten_X1_cellInwards : GoodIn wsX2_straighten wsX1_cellInwards := goodIn_r _ [10, 11, 12, 13, 9, 14, 15, 3, 4, 5, 21, 22, 23, 24, 25, 26, 27, 28, 29, 30] (by decide +kernel) (by decide +kernel)
set_option maxRecDepth 20000 in
theorem gX2_straighten_X1_cellInwards : GoodIn wsX2_straighten (wsV RX2 36 RX1 yX1_cellInwards wsX1_cellInwards) := goodIn_app (goodIn_of _ (by decide +kernel)) ggX2_straighten_X1_cellInwards
theorem dX2_straighten_0 : decode cX2_straighten 0 = .ok (.iload_n 2, 1) := by decide +kernel
theorem dX2_straighten_1 : decode cX2_straighten 1 = .ok (.iload_n 3, 1) := by decide +kernel
theorem dX2_straighten_2 : decode cX2_straighten 2 = .ok (.invokestatic 28, 3) := by decide +kernel
theorem dX2_straighten_5 : decode cX2_straighten 5 = .ok (.istore 4, 2) := by decide +kernel
theorem dX2_straighten_7 : decode cX2_straighten 7 = .ok (.aload_n 0, 1) := by decide +kernel
theorem dX2_straighten_8 : decode cX2_straighten 8 = .ok (.iload_n 2, 1) := by decide +kernel
theorem dX2_straighten_9 : decode cX2_straighten 9 = .ok (.iload_n 3, 1) := by decide +kernel
theorem dX2_straighten_10 : decode cX2_straighten 10 = .ok (.aload_n 1, 1) := by decide +kernel
theorem dX2_straighten_11 : decode cX2_straighten 11 = .ok (.getfield 81, 3) := by decide +kernel
theorem dX2_straighten_14 : decode cX2_straighten 14 = .ok (.iload 4, 2) := by decide +kernel
theorem dX2_straighten_16 : decode cX2_straighten 16 = .ok (.iaload, 1) := by decide +kernel
theorem dX2_straighten_17 : decode cX2_straighten 17 = .ok (.invokevirtual 36, 3) := by decide +kernel
theorem dX2_straighten_20 : decode cX2_straighten 20 = .ok (.istore 5, 2) := by decide +kernel
theorem dX2_straighten_22 : decode cX2_straighten 22 = .ok (.iload_n 2, 1) := by decide +kernel
theorem dX2_straighten_23 : decode cX2_straighten 23 = .ok (.iconst 1, 1) := by decide +kernel
theorem dX2_straighten_24 : decode cX2_straighten 24 = .ok (.isub, 1) := by decide +kernel
theorem dX2_straighten_25 : decode cX2_straighten 25 = .ok (.iload_n 3, 1) := by decide +kernel
theorem dX2_straighten_26 : decode cX2_straighten 26 = .ok (.invokestatic 28, 3) := by decide +kernel
theorem dX2_straighten_29 : decode cX2_straighten 29 = .ok (.istore 6, 2) := by decide +kernel
theorem dX2_straighten_31 : decode cX2_straighten 31 = .ok (.aload_n 1, 1) := by decide +kernel
theorem dX2_straighten_32 : decode cX2_straighten 32 = .ok (.getfield 24, 3) := by decide +kernel
theorem dX2_straighten_35 : decode cX2_straighten 35 = .ok (.iload 5, 2) := by decide +kernel
theorem dX2_straighten_37 : decode cX2_straighten 37 = .ok (.iconst 0, 1) := by decide +kernel
theorem dX2_straighten_38 : decode cX2_straighten 38 = .ok (.iastore, 1) := by decide +kernel
theorem dX2_straighten_39 : decode cX2_straighten 39 = .ok (.aload_n 1, 1) := by decide +kernel
theorem dX2_straighten_40 : decode cX2_straighten 40 = .ok (.getfield 81, 3) := by decide +kernel
theorem dX2_straighten_43 : decode cX2_straighten 43 = .ok (.iload 5, 2) := by decide +kernel
theorem dX2_straighten_45 : decode cX2_straighten 45 = .ok (.iconst (-1), 1) := by decide +kernel
theorem dX2_straighten_46 : decode cX2_straighten 46 = .ok (.iastore, 1) := by decide +kernel
theorem dX2_straighten_47 : decode cX2_straighten 47 = .ok (.aload_n 1, 1) := by decide +kernel
theorem dX2_straighten_48 : decode cX2_straighten 48 = .ok (.getfield 24, 3) := by decide +kernel
theorem dX2_straighten_51 : decode cX2_straighten 51 = .ok (.iload 6, 2) := by decide +kernel
theorem dX2_straighten_53 : decode cX2_straighten 53 = .ok (.aload_n 1, 1) := by decide +kernel
theorem dX2_straighten_54 : decode cX2_straighten 54 = .ok (.getfield 24, 3) := by decide +kernel
theorem dX2_straighten_57 : decode cX2_straighten 57 = .ok (.iload 4, 2) := by decide +kernel
theorem dX2_straighten_59 : decode cX2_straighten 59 = .ok (.iaload, 1) := by decide +kernel
theorem dX2_straighten_60 : decode cX2_straighten 60 = .ok (.iastore, 1) := by decide +kernel
theorem dX2_straighten_61 : decode cX2_straighten 61 = .ok (.aload_n 1, 1) := by decide +kernel
theorem dX2_straighten_62 : decode cX2_straighten 62 = .ok (.getfield 81, 3) := by decide +kernel
theorem dX2_straighten_65 : decode cX2_straighten 65 = .ok (.iload 6, 2) := by decide +kernel
theorem dX2_straighten_67 : decode cX2_straighten 67 = .ok (.iconst 0, 1) := by decide +kernel
theorem dX2_straighten_68 : decode cX2_straighten 68 = .ok (.iastore, 1) := by decide +kernel
theorem dX2_straighten_69 : decode cX2_straighten 69 = .ok (.aload_n 1, 1) := by decide +kernel
theorem dX2_straighten_70 : decode cX2_straighten 70 = .ok (.getfield 81, 3) := by decide +kernel
theorem dX2_straighten_73 : decode cX2_straighten 73 = .ok (.iload 4, 2) := by decide +kernel
theorem dX2_straighten_75 : decode cX2_straighten 75 = .ok (.iconst 0, 1) := by decide +kernel
theorem dX2_straighten_76 : decode cX2_straighten 76 = .ok (.iastore, 1) := by decide +kernel
theorem dX2_straighten_77 : decode cX2_straighten 77 = .ok (.return_, 1) := by decide +kernel
theorem dX2_otherSide_0 : decode cX2_otherSide 0 = .ok (.iload_n 0, 1) := by decide +kernel
theorem dX2_otherSide_1 : decode cX2_otherSide 1 = .ok (.iconst 1, 1) := by decide +kernel
theorem dX2_otherSide_2 : decode cX2_otherSide 2 = .ok (.if_icmp .ne 7, 3) := by decide +kernel
theorem dX2_otherSide_5 : decode cX2_otherSide 5 = .ok (.iconst 2, 1) := by decide +kernel
theorem dX2_otherSide_6 : decode cX2_otherSide 6 = .ok (.goto 4, 3) := by decide +kernel
theorem dX2_otherSide_9 : decode cX2_otherSide 9 = .ok (.iconst 1, 1) := by decide +kernel
theorem dX2_otherSide_10 : decode cX2_otherSide 10 = .ok (.ireturn, 1) := by decide +kernel
set_option maxRecDepth 20000 in
theorem ggX2_drawLeast_X5_clear : GoodIn wsX2_drawLeast wsX5_clear := goodIn_r _ [7, 8, 9, 10, 11, 12, 13, 107, 108, 109, 110, 111] (by decide +kernel) (by decide +kernel)
set_option maxRecDepth 20000 in
theorem gX2_drawLeast_X5_clear : GoodIn wsX2_drawLeast (wsV RX2 118 RX5 yX5_clear wsX5_clear) := goodIn_app (goodIn_of _ (by decide +kernel)) ggX2_drawLeast_X5_clear
set_option maxRecDepth 20000 in
theorem ggX2_drawLeast_X1_allPlaces : GoodIn wsX2_drawLeast wsX1_allPlaces := goodIn_r _ [18, 19, 112, 113, 114, 115, 116, 117, 118, 119, 120, 121] (by decide +kernel) (by decide +kernel)
set_option maxRecDepth 20000 in
theorem gX2_drawLeast_X1_allPlaces : GoodIn wsX2_drawLeast (wsV RX2 121 RX1 yX1_allPlaces wsX1_allPlaces) := goodIn_app (goodIn_of _ (by decide +kernel)) ggX2_drawLeast_X1_allPlaces
set_option maxRecDepth 20000 in
theorem ggX2_drawLeast_X0_comesTo : GoodIn wsX2_drawLeast wsX0_comesTo := goodIn_r _ [24, 25, 122, 123, 124, 125, 126, 127, 128, 129, 130, 131, 132] (by decide +kernel) (by decide +kernel)
set_option maxRecDepth 20000 in
theorem gX2_drawLeast_X0_comesTo : GoodIn wsX2_drawLeast (wsV RX2 125 RX0 yX0_comesTo wsX0_comesTo) := goodIn_app (goodIn_of _ (by decide +kernel)) ggX2_drawLeast_X0_comesTo
set_option maxRecDepth 20000 in
theorem ggX2_drawLeast_X1_turnsOf : GoodIn wsX2_drawLeast wsX1_turnsOf := goodIn_r _ [29, 30, 112, 113, 114, 115, 116, 117, 118, 119, 120, 121] (by decide +kernel) (by decide +kernel)
set_option maxRecDepth 20000 in
theorem gX2_drawLeast_X1_turnsOf : GoodIn wsX2_drawLeast (wsV RX2 131 RX1 yX1_turnsOf wsX1_turnsOf) := goodIn_app (goodIn_of _ (by decide +kernel)) ggX2_drawLeast_X1_turnsOf
set_option maxRecDepth 20000 in
theorem ggX2_drawLeast_X0_unfold : GoodIn wsX2_drawLeast wsX0_unfold := goodIn_r _ [34, 35, 36, 37, 38, 39, 40, 41, 42, 43, 44, 45, 46, 23, 47, 48, 49, 50, 51, 52, 53, 54, 55, 56, 57, 58, 59, 60, 61, 62, 63, 64, 65, 66, 67, 68, 69, 70, 71, 72, 73, 74, 21, 22, 24, 25, 75, 76, 77, 17, 78, 30, 122, 123, 124, 125, 126, 127, 128, 129, 130, 131, 132, 107, 108, 109, 110, 111, 112, 113, 114, 115, 116, 117, 118, 119, 120, 121] (by decide +kernel) (by decide +kernel)
set_option maxRecDepth 20000 in
theorem gX2_drawLeast_X0_unfold : GoodIn wsX2_drawLeast (wsV RX2 134 RX0 yX0_unfold wsX0_unfold) := goodIn_app (goodIn_of _ (by decide +kernel)) ggX2_drawLeast_X0_unfold
set_option maxRecDepth 20000 in
theorem ggX2_drawLeast_X5_finish : GoodIn wsX2_drawLeast wsX5_finish := goodIn_r _ [82, 83, 84, 85, 86, 87, 88, 6, 89, 90, 91, 8, 9, 41, 42, 43, 92, 93, 94, 17, 95, 19, 96, 97, 98, 99, 100, 101, 102, 103, 104, 105, 106, 107, 108, 109, 110, 111, 112, 113, 114, 115, 116, 117, 118, 119, 120, 121] (by decide +kernel) (by decide +kernel)
set_option maxRecDepth 20000 in
theorem gX2_drawLeast_X5_finish : GoodIn wsX2_drawLeast (wsV RX2 46 RX5 yX5_finish wsX5_finish) := goodIn_app (goodIn_of _ (by decide +kernel)) ggX2_drawLeast_X5_finish
theorem dX2_drawLeast_0 : decode cX2_drawLeast 0 = .ok (.aload_n 2, 1) := by decide +kernel
theorem dX2_drawLeast_1 : decode cX2_drawLeast 1 = .ok (.invokevirtual 118, 3) := by decide +kernel
theorem dX2_drawLeast_4 : decode cX2_drawLeast 4 = .ok (.aload_n 1, 1) := by decide +kernel
theorem dX2_drawLeast_5 : decode cX2_drawLeast 5 = .ok (.iconst 0, 1) := by decide +kernel
theorem dX2_drawLeast_6 : decode cX2_drawLeast 6 = .ok (.aload_n 0, 1) := by decide +kernel
theorem dX2_drawLeast_7 : decode cX2_drawLeast 7 = .ok (.invokevirtual 121, 3) := by decide +kernel
theorem dX2_drawLeast_10 : decode cX2_drawLeast 10 = .ok (.invokevirtual 125, 3) := by decide +kernel
theorem dX2_drawLeast_13 : decode cX2_drawLeast 13 = .ok (.istore_n 3, 1) := by decide +kernel
theorem dX2_drawLeast_14 : decode cX2_drawLeast 14 = .ok (.iload_n 3, 1) := by decide +kernel
theorem dX2_drawLeast_15 : decode cX2_drawLeast 15 = .ok (.ifCond .eq 61, 3) := by decide +kernel
theorem dX2_drawLeast_18 : decode cX2_drawLeast 18 = .ok (.aload_n 2, 1) := by decide +kernel
theorem dX2_drawLeast_19 : decode cX2_drawLeast 19 = .ok (.getfield 24, 3) := by decide +kernel
theorem dX2_drawLeast_22 : decode cX2_drawLeast 22 = .ok (.iconst 0, 1) := by decide +kernel
theorem dX2_drawLeast_23 : decode cX2_drawLeast 23 = .ok (.aload_n 0, 1) := by decide +kernel
theorem dX2_drawLeast_24 : decode cX2_drawLeast 24 = .ok (.invokevirtual 121, 3) := by decide +kernel
theorem dX2_drawLeast_27 : decode cX2_drawLeast 27 = .ok (.iastore, 1) := by decide +kernel
theorem dX2_drawLeast_28 : decode cX2_drawLeast 28 = .ok (.iconst 0, 1) := by decide +kernel
theorem dX2_drawLeast_29 : decode cX2_drawLeast 29 = .ok (.istore 4, 2) := by decide +kernel
theorem dX2_drawLeast_31 : decode cX2_drawLeast 31 = .ok (.iload 4, 2) := by decide +kernel
theorem dX2_drawLeast_33 : decode cX2_drawLeast 33 = .ok (.aload_n 0, 1) := by decide +kernel
theorem dX2_drawLeast_34 : decode cX2_drawLeast 34 = .ok (.getfield 15, 3) := by decide +kernel
theorem dX2_drawLeast_37 : decode cX2_drawLeast 37 = .ok (.if_icmp .ge 39, 3) := by decide +kernel
theorem dX2_drawLeast_40 : decode cX2_drawLeast 40 = .ok (.iconst 0, 1) := by decide +kernel
theorem dX2_drawLeast_41 : decode cX2_drawLeast 41 = .ok (.istore 5, 2) := by decide +kernel
theorem dX2_drawLeast_43 : decode cX2_drawLeast 43 = .ok (.iload 5, 2) := by decide +kernel
theorem dX2_drawLeast_45 : decode cX2_drawLeast 45 = .ok (.aload_n 0, 1) := by decide +kernel
theorem dX2_drawLeast_46 : decode cX2_drawLeast 46 = .ok (.iload 4, 2) := by decide +kernel
theorem dX2_drawLeast_48 : decode cX2_drawLeast 48 = .ok (.invokevirtual 131, 3) := by decide +kernel
theorem dX2_drawLeast_51 : decode cX2_drawLeast 51 = .ok (.if_icmp .ge 19, 3) := by decide +kernel
theorem dX2_drawLeast_54 : decode cX2_drawLeast 54 = .ok (.aload_n 1, 1) := by decide +kernel
theorem dX2_drawLeast_55 : decode cX2_drawLeast 55 = .ok (.aload_n 0, 1) := by decide +kernel
theorem dX2_drawLeast_56 : decode cX2_drawLeast 56 = .ok (.aload_n 2, 1) := by decide +kernel
theorem dX2_drawLeast_57 : decode cX2_drawLeast 57 = .ok (.iload 4, 2) := by decide +kernel
theorem dX2_drawLeast_59 : decode cX2_drawLeast 59 = .ok (.iload 5, 2) := by decide +kernel
theorem dX2_drawLeast_61 : decode cX2_drawLeast 61 = .ok (.invokevirtual 134, 3) := by decide +kernel
theorem dX2_drawLeast_64 : decode cX2_drawLeast 64 = .ok (.iinc 5 1, 3) := by decide +kernel
theorem dX2_drawLeast_67 : decode cX2_drawLeast 67 = .ok (.goto (-24), 3) := by decide +kernel
theorem dX2_drawLeast_70 : decode cX2_drawLeast 70 = .ok (.iinc 4 1, 3) := by decide +kernel
theorem dX2_drawLeast_73 : decode cX2_drawLeast 73 = .ok (.goto (-42), 3) := by decide +kernel
theorem dX2_drawLeast_76 : decode cX2_drawLeast 76 = .ok (.aload_n 2, 1) := by decide +kernel
theorem dX2_drawLeast_77 : decode cX2_drawLeast 77 = .ok (.aload_n 0, 1) := by decide +kernel
theorem dX2_drawLeast_78 : decode cX2_drawLeast 78 = .ok (.iload_n 3, 1) := by decide +kernel
theorem dX2_drawLeast_79 : decode cX2_drawLeast 79 = .ok (.invokevirtual 46, 3) := by decide +kernel
theorem dX2_drawLeast_82 : decode cX2_drawLeast 82 = .ok (.return_, 1) := by decide +kernel
theorem dX3_init_0 : decode cX3_init 0 = .ok (.aload_n 0, 1) := by decide +kernel
theorem dX3_init_1 : decode cX3_init 1 = .ok (.invokespecial 3, 3) := by decide +kernel
theorem dX3_init_4 : decode cX3_init 4 = .ok (.aload_n 0, 1) := by decide +kernel
theorem dX3_init_5 : decode cX3_init 5 = .ok (.sipush 240, 3) := by decide +kernel
theorem dX3_init_8 : decode cX3_init 8 = .ok (.newarray .int, 2) := by decide +kernel
theorem dX3_init_10 : decode cX3_init 10 = .ok (.putfield 9, 3) := by decide +kernel
theorem dX3_init_13 : decode cX3_init 13 = .ok (.return_, 1) := by decide +kernel
set_option maxRecDepth 20000 in
theorem ggX3_findWay_X6_cellOf : GoodIn wsX3_findWay wsX6_cellOf := goodIn_r _ [7] (by decide +kernel) (by decide +kernel)
set_option maxRecDepth 20000 in
theorem gX3_findWay_X6_cellOf_n19 : GoodIn wsX3_findWay (wsX6_cellOf) := ggX3_findWay_X6_cellOf
set_option maxRecDepth 20000 in
theorem ggX3_findWay_X5_lengthFrom : GoodIn wsX3_findWay wsX5_lengthFrom := goodIn_r _ [12, 13, 5, 6, 7, 14, 15, 16, 17, 18, 19, 20, 21, 22, 23, 24, 50, 51, 52, 53, 54, 55, 56, 57, 58, 59, 60, 61, 62, 63, 64] (by decide +kernel) (by decide +kernel)
set_option maxRecDepth 20000 in
theorem gX3_findWay_X5_lengthFrom : GoodIn wsX3_findWay (wsV RX3 28 RX5 yX5_lengthFrom wsX5_lengthFrom) := goodIn_app (goodIn_of _ (by decide +kernel)) ggX3_findWay_X5_lengthFrom
set_option maxRecDepth 20000 in
theorem ggX3_findWay_X3_offer : GoodIn wsX3_findWay wsX3_offer := goodIn_r _ [29, 30, 31, 1, 32, 45, 46, 47, 48, 49] (by decide +kernel) (by decide +kernel)
set_option maxRecDepth 20000 in
theorem gX3_findWay_X3_offer : GoodIn wsX3_findWay (wsV RX3 32 RX3 yX3_offer wsX3_offer) := goodIn_app (goodIn_of _ (by decide +kernel)) ggX3_findWay_X3_offer
set_option maxRecDepth 20000 in
theorem ggX3_findWay_J7_fill_53178 : GoodIn wsX3_findWay wsJ7_fill_53178 := goodIn_r _ [36] (by decide +kernel) (by decide +kernel)
set_option maxRecDepth 20000 in
theorem gX3_findWay_J7_fill_53178 : GoodIn wsX3_findWay (va_wsS RX3 36 yJ7_fill_53178 wsJ7_fill_53178) := goodIn_app (goodIn_of _ (by decide +kernel)) ggX3_findWay_J7_fill_53178
set_option maxRecDepth 20000 in
theorem ggX3_findWay_X3_goOn : GoodIn wsX3_findWay wsX3_goOn := goodIn_r _ [40, 3, 41, 2, 42, 5, 6, 7, 25, 26, 27, 28, 29, 30, 31, 1, 32, 43, 21, 22, 17, 23, 24, 44, 15, 16, 18, 19, 8, 9, 10, 11, 12, 13, 14, 20, 45, 46, 47, 48, 49, 55, 56, 57, 58, 59, 60, 61, 62, 63, 64, 50, 51, 52, 53, 54] (by decide +kernel) (by decide +kernel)
set_option maxRecDepth 20000 in
theorem gX3_findWay_X3_goOn : GoodIn wsX3_findWay (wsV RX3 48 RX3 yX3_goOn wsX3_goOn) := goodIn_app (goodIn_of _ (by decide +kernel)) ggX3_findWay_X3_goOn
theorem dX3_findWay_0 : decode cX3_findWay 0 = .ok (.aload_n 0, 1) := by decide +kernel
theorem dX3_findWay_1 : decode cX3_findWay 1 = .ok (.iconst 0, 1) := by decide +kernel
theorem dX3_findWay_2 : decode cX3_findWay 2 = .ok (.putfield 15, 3) := by decide +kernel
theorem dX3_findWay_5 : decode cX3_findWay 5 = .ok (.iload_n 3, 1) := by decide +kernel
theorem dX3_findWay_6 : decode cX3_findWay 6 = .ok (.iload 4, 2) := by decide +kernel
theorem dX3_findWay_8 : decode cX3_findWay 8 = .ok (.invokestatic 19, 3) := by decide +kernel
theorem dX3_findWay_11 : decode cX3_findWay 11 = .ok (.istore 6, 2) := by decide +kernel
theorem dX3_findWay_13 : decode cX3_findWay 13 = .ok (.aload_n 2, 1) := by decide +kernel
theorem dX3_findWay_14 : decode cX3_findWay 14 = .ok (.getfield 23, 3) := by decide +kernel
theorem dX3_findWay_17 : decode cX3_findWay 17 = .ok (.iload 6, 2) := by decide +kernel
theorem dX3_findWay_19 : decode cX3_findWay 19 = .ok (.iaload, 1) := by decide +kernel
theorem dX3_findWay_20 : decode cX3_findWay 20 = .ok (.ifCond .eq 23, 3) := by decide +kernel
theorem dX3_findWay_23 : decode cX3_findWay 23 = .ok (.aload_n 0, 1) := by decide +kernel
theorem dX3_findWay_24 : decode cX3_findWay 24 = .ok (.iload_n 3, 1) := by decide +kernel
theorem dX3_findWay_25 : decode cX3_findWay 25 = .ok (.iload 4, 2) := by decide +kernel
theorem dX3_findWay_27 : decode cX3_findWay 27 = .ok (.iload 5, 2) := by decide +kernel
theorem dX3_findWay_29 : decode cX3_findWay 29 = .ok (.aload_n 2, 1) := by decide +kernel
theorem dX3_findWay_30 : decode cX3_findWay 30 = .ok (.aload_n 1, 1) := by decide +kernel
theorem dX3_findWay_31 : decode cX3_findWay 31 = .ok (.iload_n 3, 1) := by decide +kernel
theorem dX3_findWay_32 : decode cX3_findWay 32 = .ok (.iload 4, 2) := by decide +kernel
theorem dX3_findWay_34 : decode cX3_findWay 34 = .ok (.invokevirtual 28, 3) := by decide +kernel
theorem dX3_findWay_37 : decode cX3_findWay 37 = .ok (.imul, 1) := by decide +kernel
theorem dX3_findWay_38 : decode cX3_findWay 38 = .ok (.invokevirtual 32, 3) := by decide +kernel
theorem dX3_findWay_41 : decode cX3_findWay 41 = .ok (.iconst 1, 1) := by decide +kernel
theorem dX3_findWay_42 : decode cX3_findWay 42 = .ok (.ireturn, 1) := by decide +kernel
theorem dX3_findWay_43 : decode cX3_findWay 43 = .ok (.aload_n 0, 1) := by decide +kernel
theorem dX3_findWay_44 : decode cX3_findWay 44 = .ok (.getfield 9, 3) := by decide +kernel
theorem dX3_findWay_47 : decode cX3_findWay 47 = .ok (.iconst (-1), 1) := by decide +kernel
theorem dX3_findWay_48 : decode cX3_findWay 48 = .ok (.invokestatic 36, 3) := by decide +kernel
theorem dX3_findWay_51 : decode cX3_findWay 51 = .ok (.aload_n 0, 1) := by decide +kernel
theorem dX3_findWay_52 : decode cX3_findWay 52 = .ok (.getfield 9, 3) := by decide +kernel
theorem dX3_findWay_55 : decode cX3_findWay 55 = .ok (.iload 6, 2) := by decide +kernel
theorem dX3_findWay_57 : decode cX3_findWay 57 = .ok (.iconst 0, 1) := by decide +kernel
theorem dX3_findWay_58 : decode cX3_findWay 58 = .ok (.iastore, 1) := by decide +kernel
theorem dX3_findWay_59 : decode cX3_findWay 59 = .ok (.iload_n 3, 1) := by decide +kernel
theorem dX3_findWay_60 : decode cX3_findWay 60 = .ok (.istore 7, 2) := by decide +kernel
theorem dX3_findWay_62 : decode cX3_findWay 62 = .ok (.iload 7, 2) := by decide +kernel
theorem dX3_findWay_64 : decode cX3_findWay 64 = .ok (.iconst 1, 1) := by decide +kernel
theorem dX3_findWay_65 : decode cX3_findWay 65 = .ok (.if_icmp .lt 55, 3) := by decide +kernel
theorem dX3_findWay_68 : decode cX3_findWay 68 = .ok (.iconst 0, 1) := by decide +kernel
theorem dX3_findWay_69 : decode cX3_findWay 69 = .ok (.istore 8, 2) := by decide +kernel
theorem dX3_findWay_71 : decode cX3_findWay 71 = .ok (.iload 8, 2) := by decide +kernel
theorem dX3_findWay_73 : decode cX3_findWay 73 = .ok (.aload_n 1, 1) := by decide +kernel
theorem dX3_findWay_74 : decode cX3_findWay 74 = .ok (.getfield 42, 3) := by decide +kernel
theorem dX3_findWay_77 : decode cX3_findWay 77 = .ok (.if_icmp .ge 37, 3) := by decide +kernel
theorem dX3_findWay_80 : decode cX3_findWay 80 = .ok (.aload_n 0, 1) := by decide +kernel
theorem dX3_findWay_81 : decode cX3_findWay 81 = .ok (.getfield 9, 3) := by decide +kernel
theorem dX3_findWay_84 : decode cX3_findWay 84 = .ok (.iload 7, 2) := by decide +kernel
theorem dX3_findWay_86 : decode cX3_findWay 86 = .ok (.iload 8, 2) := by decide +kernel
theorem dX3_findWay_88 : decode cX3_findWay 88 = .ok (.invokestatic 19, 3) := by decide +kernel
theorem dX3_findWay_91 : decode cX3_findWay 91 = .ok (.iaload, 1) := by decide +kernel
theorem dX3_findWay_92 : decode cX3_findWay 92 = .ok (.iconst (-1), 1) := by decide +kernel
theorem dX3_findWay_93 : decode cX3_findWay 93 = .ok (.if_icmp .eq 15, 3) := by decide +kernel
theorem dX3_findWay_96 : decode cX3_findWay 96 = .ok (.aload_n 0, 1) := by decide +kernel
theorem dX3_findWay_97 : decode cX3_findWay 97 = .ok (.aload_n 1, 1) := by decide +kernel
theorem dX3_findWay_98 : decode cX3_findWay 98 = .ok (.aload_n 2, 1) := by decide +kernel
theorem dX3_findWay_99 : decode cX3_findWay 99 = .ok (.iload 7, 2) := by decide +kernel
theorem dX3_findWay_101 : decode cX3_findWay 101 = .ok (.iload 8, 2) := by decide +kernel
theorem dX3_findWay_103 : decode cX3_findWay 103 = .ok (.iload 5, 2) := by decide +kernel
theorem dX3_findWay_105 : decode cX3_findWay 105 = .ok (.invokevirtual 48, 3) := by decide +kernel
theorem dX3_findWay_108 : decode cX3_findWay 108 = .ok (.iinc 8 1, 3) := by decide +kernel
theorem dX3_findWay_111 : decode cX3_findWay 111 = .ok (.goto (-40), 3) := by decide +kernel
theorem dX3_findWay_114 : decode cX3_findWay 114 = .ok (.iinc 7 (-1), 3) := by decide +kernel
theorem dX3_findWay_117 : decode cX3_findWay 117 = .ok (.goto (-55), 3) := by decide +kernel
theorem dX3_findWay_120 : decode cX3_findWay 120 = .ok (.aload_n 0, 1) := by decide +kernel
theorem dX3_findWay_121 : decode cX3_findWay 121 = .ok (.getfield 15, 3) := by decide +kernel
theorem dX3_findWay_124 : decode cX3_findWay 124 = .ok (.ireturn, 1) := by decide +kernel
set_option maxRecDepth 20000 in
theorem ggX3_goOn_X6_cellOf : GoodIn wsX3_goOn wsX6_cellOf := goodIn_r _ [7] (by decide +kernel) (by decide +kernel)
set_option maxRecDepth 20000 in
theorem gX3_goOn_X6_cellOf_n19 : GoodIn wsX3_goOn (wsX6_cellOf) := ggX3_goOn_X6_cellOf
set_option maxRecDepth 20000 in
theorem ggX3_goOn_X3_offer : GoodIn wsX3_goOn wsX3_offer := goodIn_r _ [12, 13, 14, 15, 16, 36, 37, 38, 39, 40] (by decide +kernel) (by decide +kernel)
set_option maxRecDepth 20000 in
theorem gX3_goOn_X3_offer : GoodIn wsX3_goOn (wsV RX3 32 RX3 yX3_offer wsX3_offer) := goodIn_app (goodIn_of _ (by decide +kernel)) ggX3_goOn_X3_offer
set_option maxRecDepth 20000 in
theorem ggX3_goOn_X1_turnBeside : GoodIn wsX3_goOn wsX1_turnBeside := goodIn_r _ [21, 22, 41, 42, 43, 44, 45, 46, 47, 48, 49, 50] (by decide +kernel) (by decide +kernel)
set_option maxRecDepth 20000 in
theorem gX3_goOn_X1_turnBeside : GoodIn wsX3_goOn (wsV RX3 55 RX1 yX1_turnBeside wsX1_turnBeside) := goodIn_app (goodIn_of _ (by decide +kernel)) ggX3_goOn_X1_turnBeside
set_option maxRecDepth 20000 in
theorem ggX3_goOn_X1_lengthOf : GoodIn wsX3_goOn wsX1_lengthOf := goodIn_r _ [26, 27, 41, 42, 43, 44, 45, 46, 47, 48, 49, 50] (by decide +kernel) (by decide +kernel)
set_option maxRecDepth 20000 in
theorem gX3_goOn_X1_lengthOf : GoodIn wsX3_goOn (wsV RX3 58 RX1 yX1_lengthOf wsX1_lengthOf) := goodIn_app (goodIn_of _ (by decide +kernel)) ggX3_goOn_X1_lengthOf
set_option maxRecDepth 20000 in
theorem ggX3_goOn_X5_lengthFrom : GoodIn wsX3_goOn wsX5_lengthFrom := goodIn_r _ [32, 33, 5, 6, 7, 34, 24, 25, 20, 26, 27, 35, 18, 19, 21, 22, 51, 52, 53, 54, 55, 41, 42, 43, 44, 45, 46, 47, 48, 49, 50] (by decide +kernel) (by decide +kernel)
set_option maxRecDepth 20000 in
theorem gX3_goOn_X5_lengthFrom : GoodIn wsX3_goOn (wsV RX3 28 RX5 yX5_lengthFrom wsX5_lengthFrom) := goodIn_app (goodIn_of _ (by decide +kernel)) ggX3_goOn_X5_lengthFrom
theorem dX3_goOn_0 : decode cX3_goOn 0 = .ok (.aload_n 0, 1) := by decide +kernel
theorem dX3_goOn_1 : decode cX3_goOn 1 = .ok (.getfield 9, 3) := by decide +kernel
theorem dX3_goOn_4 : decode cX3_goOn 4 = .ok (.iload_n 3, 1) := by decide +kernel
theorem dX3_goOn_5 : decode cX3_goOn 5 = .ok (.iload 4, 2) := by decide +kernel
theorem dX3_goOn_7 : decode cX3_goOn 7 = .ok (.invokestatic 19, 3) := by decide +kernel
theorem dX3_goOn_10 : decode cX3_goOn 10 = .ok (.iaload, 1) := by decide +kernel
theorem dX3_goOn_11 : decode cX3_goOn 11 = .ok (.istore 6, 2) := by decide +kernel
theorem dX3_goOn_13 : decode cX3_goOn 13 = .ok (.iload_n 3, 1) := by decide +kernel
theorem dX3_goOn_14 : decode cX3_goOn 14 = .ok (.iconst 1, 1) := by decide +kernel
theorem dX3_goOn_15 : decode cX3_goOn 15 = .ok (.if_icmp .ne 23, 3) := by decide +kernel
theorem dX3_goOn_18 : decode cX3_goOn 18 = .ok (.aload_n 0, 1) := by decide +kernel
theorem dX3_goOn_19 : decode cX3_goOn 19 = .ok (.iconst 0, 1) := by decide +kernel
theorem dX3_goOn_20 : decode cX3_goOn 20 = .ok (.iconst 0, 1) := by decide +kernel
theorem dX3_goOn_21 : decode cX3_goOn 21 = .ok (.iload 6, 2) := by decide +kernel
theorem dX3_goOn_23 : decode cX3_goOn 23 = .ok (.bipush 10, 2) := by decide +kernel
theorem dX3_goOn_25 : decode cX3_goOn 25 = .ok (.iadd, 1) := by decide +kernel
theorem dX3_goOn_26 : decode cX3_goOn 26 = .ok (.aload_n 1, 1) := by decide +kernel
theorem dX3_goOn_27 : decode cX3_goOn 27 = .ok (.getfield 52, 3) := by decide +kernel
theorem dX3_goOn_30 : decode cX3_goOn 30 = .ok (.iload 5, 2) := by decide +kernel
theorem dX3_goOn_32 : decode cX3_goOn 32 = .ok (.iadd, 1) := by decide +kernel
theorem dX3_goOn_33 : decode cX3_goOn 33 = .ok (.imul, 1) := by decide +kernel
theorem dX3_goOn_34 : decode cX3_goOn 34 = .ok (.invokevirtual 32, 3) := by decide +kernel
theorem dX3_goOn_37 : decode cX3_goOn 37 = .ok (.return_, 1) := by decide +kernel
theorem dX3_goOn_38 : decode cX3_goOn 38 = .ok (.iconst 0, 1) := by decide +kernel
theorem dX3_goOn_39 : decode cX3_goOn 39 = .ok (.istore 7, 2) := by decide +kernel
theorem dX3_goOn_41 : decode cX3_goOn 41 = .ok (.iload 7, 2) := by decide +kernel
theorem dX3_goOn_43 : decode cX3_goOn 43 = .ok (.iconst 2, 1) := by decide +kernel
theorem dX3_goOn_44 : decode cX3_goOn 44 = .ok (.if_icmp .gt 132, 3) := by decide +kernel
theorem dX3_goOn_47 : decode cX3_goOn 47 = .ok (.aload_n 1, 1) := by decide +kernel
theorem dX3_goOn_48 : decode cX3_goOn 48 = .ok (.iload 4, 2) := by decide +kernel
theorem dX3_goOn_50 : decode cX3_goOn 50 = .ok (.iload 7, 2) := by decide +kernel
theorem dX3_goOn_52 : decode cX3_goOn 52 = .ok (.invokevirtual 55, 3) := by decide +kernel
theorem dX3_goOn_55 : decode cX3_goOn 55 = .ok (.istore 8, 2) := by decide +kernel
theorem dX3_goOn_57 : decode cX3_goOn 57 = .ok (.iload_n 3, 1) := by decide +kernel
theorem dX3_goOn_58 : decode cX3_goOn 58 = .ok (.iconst 1, 1) := by decide +kernel
theorem dX3_goOn_59 : decode cX3_goOn 59 = .ok (.isub, 1) := by decide +kernel
theorem dX3_goOn_60 : decode cX3_goOn 60 = .ok (.iload 8, 2) := by decide +kernel
theorem dX3_goOn_62 : decode cX3_goOn 62 = .ok (.invokestatic 19, 3) := by decide +kernel
theorem dX3_goOn_65 : decode cX3_goOn 65 = .ok (.istore 9, 2) := by decide +kernel
theorem dX3_goOn_67 : decode cX3_goOn 67 = .ok (.iload 6, 2) := by decide +kernel
theorem dX3_goOn_69 : decode cX3_goOn 69 = .ok (.aload_n 1, 1) := by decide +kernel
theorem dX3_goOn_70 : decode cX3_goOn 70 = .ok (.iload 7, 2) := by decide +kernel
theorem dX3_goOn_72 : decode cX3_goOn 72 = .ok (.invokevirtual 58, 3) := by decide +kernel
theorem dX3_goOn_75 : decode cX3_goOn 75 = .ok (.iadd, 1) := by decide +kernel
theorem dX3_goOn_76 : decode cX3_goOn 76 = .ok (.istore 10, 2) := by decide +kernel
theorem dX3_goOn_78 : decode cX3_goOn 78 = .ok (.aload_n 2, 1) := by decide +kernel
theorem dX3_goOn_79 : decode cX3_goOn 79 = .ok (.getfield 23, 3) := by decide +kernel
theorem dX3_goOn_82 : decode cX3_goOn 82 = .ok (.iload 9, 2) := by decide +kernel
theorem dX3_goOn_84 : decode cX3_goOn 84 = .ok (.iaload, 1) := by decide +kernel
theorem dX3_goOn_85 : decode cX3_goOn 85 = .ok (.ifCond .eq 43, 3) := by decide +kernel
theorem dX3_goOn_88 : decode cX3_goOn 88 = .ok (.iload 5, 2) := by decide +kernel
theorem dX3_goOn_90 : decode cX3_goOn 90 = .ok (.aload_n 2, 1) := by decide +kernel
theorem dX3_goOn_91 : decode cX3_goOn 91 = .ok (.aload_n 1, 1) := by decide +kernel
theorem dX3_goOn_92 : decode cX3_goOn 92 = .ok (.iload_n 3, 1) := by decide +kernel
theorem dX3_goOn_93 : decode cX3_goOn 93 = .ok (.iconst 1, 1) := by decide +kernel
theorem dX3_goOn_94 : decode cX3_goOn 94 = .ok (.isub, 1) := by decide +kernel
theorem dX3_goOn_95 : decode cX3_goOn 95 = .ok (.iload 8, 2) := by decide +kernel
theorem dX3_goOn_97 : decode cX3_goOn 97 = .ok (.invokevirtual 28, 3) := by decide +kernel
theorem dX3_goOn_100 : decode cX3_goOn 100 = .ok (.imul, 1) := by decide +kernel
theorem dX3_goOn_101 : decode cX3_goOn 101 = .ok (.istore 11, 2) := by decide +kernel
theorem dX3_goOn_103 : decode cX3_goOn 103 = .ok (.aload_n 0, 1) := by decide +kernel
theorem dX3_goOn_104 : decode cX3_goOn 104 = .ok (.iload_n 3, 1) := by decide +kernel
theorem dX3_goOn_105 : decode cX3_goOn 105 = .ok (.iconst 1, 1) := by decide +kernel
theorem dX3_goOn_106 : decode cX3_goOn 106 = .ok (.isub, 1) := by decide +kernel
theorem dX3_goOn_107 : decode cX3_goOn 107 = .ok (.iload 8, 2) := by decide +kernel
theorem dX3_goOn_109 : decode cX3_goOn 109 = .ok (.iload 10, 2) := by decide +kernel
theorem dX3_goOn_111 : decode cX3_goOn 111 = .ok (.aload_n 1, 1) := by decide +kernel
theorem dX3_goOn_112 : decode cX3_goOn 112 = .ok (.getfield 52, 3) := by decide +kernel
theorem dX3_goOn_115 : decode cX3_goOn 115 = .ok (.iload 5, 2) := by decide +kernel
theorem dX3_goOn_117 : decode cX3_goOn 117 = .ok (.iadd, 1) := by decide +kernel
theorem dX3_goOn_118 : decode cX3_goOn 118 = .ok (.imul, 1) := by decide +kernel
theorem dX3_goOn_119 : decode cX3_goOn 119 = .ok (.iload 11, 2) := by decide +kernel
theorem dX3_goOn_121 : decode cX3_goOn 121 = .ok (.iadd, 1) := by decide +kernel
theorem dX3_goOn_122 : decode cX3_goOn 122 = .ok (.invokevirtual 32, 3) := by decide +kernel
theorem dX3_goOn_125 : decode cX3_goOn 125 = .ok (.goto 45, 3) := by decide +kernel
theorem dX3_goOn_128 : decode cX3_goOn 128 = .ok (.aload_n 1, 1) := by decide +kernel
theorem dX3_goOn_129 : decode cX3_goOn 129 = .ok (.getfield 62, 3) := by decide +kernel
theorem dX3_goOn_132 : decode cX3_goOn 132 = .ok (.iload 9, 2) := by decide +kernel
theorem dX3_goOn_134 : decode cX3_goOn 134 = .ok (.baload, 1) := by decide +kernel
theorem dX3_goOn_135 : decode cX3_goOn 135 = .ok (.ifCond .ne 35, 3) := by decide +kernel
theorem dX3_goOn_138 : decode cX3_goOn 138 = .ok (.aload_n 0, 1) := by decide +kernel
theorem dX3_goOn_139 : decode cX3_goOn 139 = .ok (.getfield 9, 3) := by decide +kernel
theorem dX3_goOn_142 : decode cX3_goOn 142 = .ok (.iload 9, 2) := by decide +kernel
theorem dX3_goOn_144 : decode cX3_goOn 144 = .ok (.iaload, 1) := by decide +kernel
theorem dX3_goOn_145 : decode cX3_goOn 145 = .ok (.iconst (-1), 1) := by decide +kernel
theorem dX3_goOn_146 : decode cX3_goOn 146 = .ok (.if_icmp .eq 15, 3) := by decide +kernel
theorem dX3_goOn_149 : decode cX3_goOn 149 = .ok (.iload 10, 2) := by decide +kernel
theorem dX3_goOn_151 : decode cX3_goOn 151 = .ok (.aload_n 0, 1) := by decide +kernel
theorem dX3_goOn_152 : decode cX3_goOn 152 = .ok (.getfield 9, 3) := by decide +kernel
theorem dX3_goOn_155 : decode cX3_goOn 155 = .ok (.iload 9, 2) := by decide +kernel
theorem dX3_goOn_157 : decode cX3_goOn 157 = .ok (.iaload, 1) := by decide +kernel
theorem dX3_goOn_158 : decode cX3_goOn 158 = .ok (.if_icmp .ge 12, 3) := by decide +kernel
theorem dX3_goOn_161 : decode cX3_goOn 161 = .ok (.aload_n 0, 1) := by decide +kernel
theorem dX3_goOn_162 : decode cX3_goOn 162 = .ok (.getfield 9, 3) := by decide +kernel
theorem dX3_goOn_165 : decode cX3_goOn 165 = .ok (.iload 9, 2) := by decide +kernel
theorem dX3_goOn_167 : decode cX3_goOn 167 = .ok (.iload 10, 2) := by decide +kernel
theorem dX3_goOn_169 : decode cX3_goOn 169 = .ok (.iastore, 1) := by decide +kernel
theorem dX3_goOn_170 : decode cX3_goOn 170 = .ok (.iinc 7 1, 3) := by decide +kernel
theorem dX3_goOn_173 : decode cX3_goOn 173 = .ok (.goto (-132), 3) := by decide +kernel
theorem dX3_goOn_176 : decode cX3_goOn 176 = .ok (.return_, 1) := by decide +kernel
theorem dX3_offer_0 : decode cX3_offer 0 = .ok (.iload_n 1, 1) := by decide +kernel
theorem dX3_offer_1 : decode cX3_offer 1 = .ok (.aload_n 0, 1) := by decide +kernel
theorem dX3_offer_2 : decode cX3_offer 2 = .ok (.getfield 66, 3) := by decide +kernel
theorem dX3_offer_5 : decode cX3_offer 5 = .ok (.if_icmp .lt 19, 3) := by decide +kernel
theorem dX3_offer_8 : decode cX3_offer 8 = .ok (.iload_n 1, 1) := by decide +kernel
theorem dX3_offer_9 : decode cX3_offer 9 = .ok (.aload_n 0, 1) := by decide +kernel
theorem dX3_offer_10 : decode cX3_offer 10 = .ok (.getfield 66, 3) := by decide +kernel
theorem dX3_offer_13 : decode cX3_offer 13 = .ok (.if_icmp .ne 15, 3) := by decide +kernel
theorem dX3_offer_16 : decode cX3_offer 16 = .ok (.iload_n 2, 1) := by decide +kernel
theorem dX3_offer_17 : decode cX3_offer 17 = .ok (.aload_n 0, 1) := by decide +kernel
theorem dX3_offer_18 : decode cX3_offer 18 = .ok (.getfield 69, 3) := by decide +kernel
theorem dX3_offer_21 : decode cX3_offer 21 = .ok (.if_icmp .ge 7, 3) := by decide +kernel
theorem dX3_offer_24 : decode cX3_offer 24 = .ok (.iconst 1, 1) := by decide +kernel
theorem dX3_offer_25 : decode cX3_offer 25 = .ok (.goto 4, 3) := by decide +kernel
theorem dX3_offer_28 : decode cX3_offer 28 = .ok (.iconst 0, 1) := by decide +kernel
theorem dX3_offer_29 : decode cX3_offer 29 = .ok (.istore 4, 2) := by decide +kernel
theorem dX3_offer_31 : decode cX3_offer 31 = .ok (.aload_n 0, 1) := by decide +kernel
theorem dX3_offer_32 : decode cX3_offer 32 = .ok (.getfield 15, 3) := by decide +kernel
theorem dX3_offer_35 : decode cX3_offer 35 = .ok (.ifCond .eq 24, 3) := by decide +kernel
theorem dX3_offer_38 : decode cX3_offer 38 = .ok (.iload_n 3, 1) := by decide +kernel
theorem dX3_offer_39 : decode cX3_offer 39 = .ok (.aload_n 0, 1) := by decide +kernel
theorem dX3_offer_40 : decode cX3_offer 40 = .ok (.getfield 72, 3) := by decide +kernel
theorem dX3_offer_43 : decode cX3_offer 43 = .ok (.if_icmp .lt 16, 3) := by decide +kernel
theorem dX3_offer_46 : decode cX3_offer 46 = .ok (.iload_n 3, 1) := by decide +kernel
theorem dX3_offer_47 : decode cX3_offer 47 = .ok (.aload_n 0, 1) := by decide +kernel
theorem dX3_offer_48 : decode cX3_offer 48 = .ok (.getfield 72, 3) := by decide +kernel
theorem dX3_offer_51 : decode cX3_offer 51 = .ok (.if_icmp .ne 28, 3) := by decide +kernel
theorem dX3_offer_54 : decode cX3_offer 54 = .ok (.iload 4, 2) := by decide +kernel
theorem dX3_offer_56 : decode cX3_offer 56 = .ok (.ifCond .eq 23, 3) := by decide +kernel
theorem dX3_offer_59 : decode cX3_offer 59 = .ok (.aload_n 0, 1) := by decide +kernel
theorem dX3_offer_60 : decode cX3_offer 60 = .ok (.iconst 1, 1) := by decide +kernel
theorem dX3_offer_61 : decode cX3_offer 61 = .ok (.putfield 15, 3) := by decide +kernel
theorem dX3_offer_64 : decode cX3_offer 64 = .ok (.aload_n 0, 1) := by decide +kernel
theorem dX3_offer_65 : decode cX3_offer 65 = .ok (.iload_n 3, 1) := by decide +kernel
theorem dX3_offer_66 : decode cX3_offer 66 = .ok (.putfield 72, 3) := by decide +kernel
theorem dX3_offer_69 : decode cX3_offer 69 = .ok (.aload_n 0, 1) := by decide +kernel
theorem dX3_offer_70 : decode cX3_offer 70 = .ok (.iload_n 1, 1) := by decide +kernel
theorem dX3_offer_71 : decode cX3_offer 71 = .ok (.putfield 66, 3) := by decide +kernel
theorem dX3_offer_74 : decode cX3_offer 74 = .ok (.aload_n 0, 1) := by decide +kernel
theorem dX3_offer_75 : decode cX3_offer 75 = .ok (.iload_n 2, 1) := by decide +kernel
theorem dX3_offer_76 : decode cX3_offer 76 = .ok (.putfield 69, 3) := by decide +kernel
theorem dX3_offer_79 : decode cX3_offer 79 = .ok (.return_, 1) := by decide +kernel
theorem dX4_init_0 : decode cX4_init 0 = .ok (.aload_n 0, 1) := by decide +kernel
theorem dX4_init_1 : decode cX4_init 1 = .ok (.invokespecial 3, 3) := by decide +kernel
theorem dX4_init_4 : decode cX4_init 4 = .ok (.aload_n 0, 1) := by decide +kernel
theorem dX4_init_5 : decode cX4_init 5 = .ok (.sipush 500, 3) := by decide +kernel
theorem dX4_init_8 : decode cX4_init 8 = .ok (.newarray .int, 2) := by decide +kernel
theorem dX4_init_10 : decode cX4_init 10 = .ok (.putfield 9, 3) := by decide +kernel
theorem dX4_init_13 : decode cX4_init 13 = .ok (.return_, 1) := by decide +kernel
theorem dX4_putNumber_0 : decode cX4_putNumber 0 = .ok (.bipush 24, 2) := by decide +kernel
theorem dX4_putNumber_2 : decode cX4_putNumber 2 = .ok (.istore_n 2, 1) := by decide +kernel
theorem dX4_putNumber_3 : decode cX4_putNumber 3 = .ok (.iload_n 2, 1) := by decide +kernel
theorem dX4_putNumber_4 : decode cX4_putNumber 4 = .ok (.ifCond .lt 45, 3) := by decide +kernel
theorem dX4_putNumber_7 : decode cX4_putNumber 7 = .ok (.aload_n 0, 1) := by decide +kernel
theorem dX4_putNumber_8 : decode cX4_putNumber 8 = .ok (.getfield 15, 3) := by decide +kernel
theorem dX4_putNumber_11 : decode cX4_putNumber 11 = .ok (.sipush 500, 3) := by decide +kernel
theorem dX4_putNumber_14 : decode cX4_putNumber 14 = .ok (.if_icmp .ge 35, 3) := by decide +kernel
theorem dX4_putNumber_17 : decode cX4_putNumber 17 = .ok (.aload_n 0, 1) := by decide +kernel
theorem dX4_putNumber_18 : decode cX4_putNumber 18 = .ok (.getfield 9, 3) := by decide +kernel
theorem dX4_putNumber_21 : decode cX4_putNumber 21 = .ok (.aload_n 0, 1) := by decide +kernel
theorem dX4_putNumber_22 : decode cX4_putNumber 22 = .ok (.getfield 15, 3) := by decide +kernel
theorem dX4_putNumber_25 : decode cX4_putNumber 25 = .ok (.iload_n 1, 1) := by decide +kernel
theorem dX4_putNumber_26 : decode cX4_putNumber 26 = .ok (.iload_n 2, 1) := by decide +kernel
theorem dX4_putNumber_27 : decode cX4_putNumber 27 = .ok (.iushr, 1) := by decide +kernel
theorem dX4_putNumber_28 : decode cX4_putNumber 28 = .ok (.sipush 255, 3) := by decide +kernel
theorem dX4_putNumber_31 : decode cX4_putNumber 31 = .ok (.iand, 1) := by decide +kernel
theorem dX4_putNumber_32 : decode cX4_putNumber 32 = .ok (.iastore, 1) := by decide +kernel
theorem dX4_putNumber_33 : decode cX4_putNumber 33 = .ok (.aload_n 0, 1) := by decide +kernel
theorem dX4_putNumber_34 : decode cX4_putNumber 34 = .ok (.dup, 1) := by decide +kernel
theorem dX4_putNumber_35 : decode cX4_putNumber 35 = .ok (.getfield 15, 3) := by decide +kernel
theorem dX4_putNumber_38 : decode cX4_putNumber 38 = .ok (.iconst 1, 1) := by decide +kernel
theorem dX4_putNumber_39 : decode cX4_putNumber 39 = .ok (.iadd, 1) := by decide +kernel
theorem dX4_putNumber_40 : decode cX4_putNumber 40 = .ok (.putfield 15, 3) := by decide +kernel
theorem dX4_putNumber_43 : decode cX4_putNumber 43 = .ok (.iinc 2 (-8), 3) := by decide +kernel
theorem dX4_putNumber_46 : decode cX4_putNumber 46 = .ok (.goto (-43), 3) := by decide +kernel
theorem dX4_putNumber_49 : decode cX4_putNumber 49 = .ok (.return_, 1) := by decide +kernel
set_option maxRecDepth 20000 in
theorem ggX4_readText_X4_readHead : GoodIn wsX4_readText wsX4_readHead := goodIn_r _ [14, 8, 15, 16, 17, 13, 18, 7, 6, 19, 20, 21, 9, 22, 23, 24, 25, 26, 27, 28, 29, 30, 31, 32, 33, 34, 35, 36, 37, 38, 39, 40, 41, 42, 43, 44, 45, 46, 47, 48, 49, 50, 51, 52, 53, 54, 55, 56, 57, 58, 59, 60, 61, 62, 63, 64, 65, 66, 67, 68, 69, 70, 71, 72, 73, 74, 75, 76, 77, 78, 79, 80, 81, 82, 83, 84, 85, 86, 87, 88, 89, 90, 91, 92, 93, 94, 95, 96, 97, 98, 99, 100, 101, 102, 103, 104, 149, 150, 151, 152, 153, 154, 155, 156, 157, 158, 159, 160, 161, 162, 163, 164, 165, 166] (by decide +kernel) (by decide +kernel)
set_option maxRecDepth 20000 in
theorem gX4_readText_X4_readHead : GoodIn wsX4_readText (wsV RX4 34 RX4 yX4_readHead wsX4_readHead) := goodIn_app (goodIn_of _ (by decide +kernel)) ggX4_readText_X4_readHead
set_option maxRecDepth 20000 in
theorem ggX4_readText_X4_readToken : GoodIn wsX4_readText wsX4_readToken := goodIn_r _ [18, 7, 6, 19, 20, 21, 9, 22, 23, 13, 24, 149, 150, 151, 152, 153, 154, 155, 156] (by decide +kernel) (by decide +kernel)
set_option maxRecDepth 20000 in
theorem gX4_readText_X4_readToken : GoodIn wsX4_readText (wsV RX4 38 RX4 yX4_readToken wsX4_readToken) := goodIn_app (goodIn_of _ (by decide +kernel)) ggX4_readText_X4_readToken
set_option maxRecDepth 20000 in
theorem ggX4_readText_X4_readLine : GoodIn wsX4_readText wsX4_readLine := goodIn_r _ [108, 109, 110, 111, 15, 16, 17, 13, 18, 7, 6, 19, 20, 21, 9, 22, 23, 24, 25, 26, 27, 28, 29, 30, 31, 32, 33, 34, 35, 36, 37, 38, 39, 40, 41, 42, 43, 44, 45, 46, 47, 48, 49, 50, 51, 52, 53, 54, 55, 56, 57, 58, 59, 60, 61, 62, 63, 64, 65, 66, 67, 68, 69, 70, 71, 72, 73, 74, 75, 76, 77, 112, 113, 114, 115, 116, 117, 118, 8, 119, 78, 79, 80, 81, 82, 83, 84, 85, 86, 87, 88, 120, 121, 122, 123, 124, 92, 125, 103, 126, 127, 128, 129, 130, 131, 132, 133, 134, 135, 136, 137, 138, 139, 140, 141, 142, 143, 144, 145, 146, 147, 148, 102, 157, 158, 159, 160, 161, 162, 163, 164, 165, 166, 149, 150, 151, 152, 153, 154, 155, 156] (by decide +kernel) (by decide +kernel)
set_option maxRecDepth 20000 in
theorem gX4_readText_X4_readLine : GoodIn wsX4_readText (wsV RX4 44 RX4 yX4_readLine wsX4_readLine) := goodIn_app (goodIn_of _ (by decide +kernel)) ggX4_readText_X4_readLine
set_option maxRecDepth 20000 in
theorem ggX4_readText_X4_fail : GoodIn wsX4_readText wsX4_fail := goodIn_r _ [81, 8, 20, 149, 150, 151, 152, 153, 154, 155, 156] (by decide +kernel) (by decide +kernel)
set_option maxRecDepth 20000 in
theorem gX4_readText_X4_fail : GoodIn wsX4_readText (wsV RX4 47 RX4 yX4_fail wsX4_fail) := goodIn_app (goodIn_of _ (by decide +kernel)) ggX4_readText_X4_fail
theorem dX4_readText_0 : decode cX4_readText 0 = .ok (.aload_n 0, 1) := by decide +kernel
theorem dX4_readText_1 : decode cX4_readText 1 = .ok (.iload_n 1, 1) := by decide +kernel
theorem dX4_readText_2 : decode cX4_readText 2 = .ok (.aload_n 0, 1) := by decide +kernel
theorem dX4_readText_3 : decode cX4_readText 3 = .ok (.getfield 15, 3) := by decide +kernel
theorem dX4_readText_6 : decode cX4_readText 6 = .ok (.invokestatic 19, 3) := by decide +kernel
theorem dX4_readText_9 : decode cX4_readText 9 = .ok (.putfield 25, 3) := by decide +kernel
theorem dX4_readText_12 : decode cX4_readText 12 = .ok (.aload_n 0, 1) := by decide +kernel
theorem dX4_readText_13 : decode cX4_readText 13 = .ok (.iconst 0, 1) := by decide +kernel
theorem dX4_readText_14 : decode cX4_readText 14 = .ok (.putfield 28, 3) := by decide +kernel
theorem dX4_readText_17 : decode cX4_readText 17 = .ok (.aload_n 0, 1) := by decide +kernel
theorem dX4_readText_18 : decode cX4_readText 18 = .ok (.iconst 0, 1) := by decide +kernel
theorem dX4_readText_19 : decode cX4_readText 19 = .ok (.putfield 31, 3) := by decide +kernel
theorem dX4_readText_22 : decode cX4_readText 22 = .ok (.aload_n 0, 1) := by decide +kernel
theorem dX4_readText_23 : decode cX4_readText 23 = .ok (.aload_n 2, 1) := by decide +kernel
theorem dX4_readText_24 : decode cX4_readText 24 = .ok (.invokevirtual 34, 3) := by decide +kernel
theorem dX4_readText_27 : decode cX4_readText 27 = .ok (.iconst 0, 1) := by decide +kernel
theorem dX4_readText_28 : decode cX4_readText 28 = .ok (.istore_n 3, 1) := by decide +kernel
theorem dX4_readText_29 : decode cX4_readText 29 = .ok (.iload_n 3, 1) := by decide +kernel
theorem dX4_readText_30 : decode cX4_readText 30 = .ok (.aload_n 0, 1) := by decide +kernel
theorem dX4_readText_31 : decode cX4_readText 31 = .ok (.getfield 25, 3) := by decide +kernel
theorem dX4_readText_34 : decode cX4_readText 34 = .ok (.if_icmp .gt 51, 3) := by decide +kernel
theorem dX4_readText_37 : decode cX4_readText 37 = .ok (.aload_n 0, 1) := by decide +kernel
theorem dX4_readText_38 : decode cX4_readText 38 = .ok (.getfield 31, 3) := by decide +kernel
theorem dX4_readText_41 : decode cX4_readText 41 = .ok (.ifCond .ne 44, 3) := by decide +kernel
theorem dX4_readText_44 : decode cX4_readText 44 = .ok (.aload_n 0, 1) := by decide +kernel
theorem dX4_readText_45 : decode cX4_readText 45 = .ok (.invokevirtual 38, 3) := by decide +kernel
theorem dX4_readText_48 : decode cX4_readText 48 = .ok (.aload_n 0, 1) := by decide +kernel
theorem dX4_readText_49 : decode cX4_readText 49 = .ok (.getfield 41, 3) := by decide +kernel
theorem dX4_readText_52 : decode cX4_readText 52 = .ok (.ifCond .ne 6, 3) := by decide +kernel
theorem dX4_readText_55 : decode cX4_readText 55 = .ok (.goto 30, 3) := by decide +kernel
theorem dX4_readText_58 : decode cX4_readText 58 = .ok (.aload_n 0, 1) := by decide +kernel
theorem dX4_readText_59 : decode cX4_readText 59 = .ok (.getfield 41, 3) := by decide +kernel
theorem dX4_readText_62 : decode cX4_readText 62 = .ok (.iconst 3, 1) := by decide +kernel
theorem dX4_readText_63 : decode cX4_readText 63 = .ok (.if_icmp .ne 11, 3) := by decide +kernel
theorem dX4_readText_66 : decode cX4_readText 66 = .ok (.aload_n 0, 1) := by decide +kernel
theorem dX4_readText_67 : decode cX4_readText 67 = .ok (.aload_n 2, 1) := by decide +kernel
theorem dX4_readText_68 : decode cX4_readText 68 = .ok (.invokevirtual 44, 3) := by decide +kernel
theorem dX4_readText_71 : decode cX4_readText 71 = .ok (.goto 8, 3) := by decide +kernel
theorem dX4_readText_74 : decode cX4_readText 74 = .ok (.aload_n 0, 1) := by decide +kernel
theorem dX4_readText_75 : decode cX4_readText 75 = .ok (.iconst 1, 1) := by decide +kernel
theorem dX4_readText_76 : decode cX4_readText 76 = .ok (.invokevirtual 47, 3) := by decide +kernel
theorem dX4_readText_79 : decode cX4_readText 79 = .ok (.iinc 3 1, 3) := by decide +kernel
theorem dX4_readText_82 : decode cX4_readText 82 = .ok (.goto (-53), 3) := by decide +kernel
theorem dX4_readText_85 : decode cX4_readText 85 = .ok (.aload_n 0, 1) := by decide +kernel
theorem dX4_readText_86 : decode cX4_readText 86 = .ok (.getfield 31, 3) := by decide +kernel
theorem dX4_readText_89 : decode cX4_readText 89 = .ok (.ireturn, 1) := by decide +kernel
set_option maxRecDepth 20000 in
theorem ggX4_readHead_X4_readToken : GoodIn wsX4_readHead wsX4_readToken := goodIn_r _ [6, 7, 8, 9, 10, 11, 12, 13, 14, 5, 15, 96, 97, 98, 99, 100, 101, 102, 103] (by decide +kernel) (by decide +kernel)
set_option maxRecDepth 20000 in
theorem gX4_readHead_X4_readToken : GoodIn wsX4_readHead (wsV RX4 38 RX4 yX4_readToken wsX4_readToken) := goodIn_app (goodIn_of _ (by decide +kernel)) ggX4_readHead_X4_readToken
set_option maxRecDepth 20000 in
theorem ggX4_readHead_X4_isWord : GoodIn wsX4_readHead wsX4_isWord := goodIn_r _ [19, 12, 7, 10, 9, 20, 21, 22, 23, 24, 25, 26, 27, 28, 29, 30, 31, 32, 33, 34, 35, 36, 37, 38, 39, 40, 41, 42, 43, 44, 45, 46, 47, 48, 49, 50, 51, 52, 53, 54, 55, 56, 57, 58, 59, 60, 61, 62, 63, 64, 65, 66, 67, 68, 96, 97, 98, 99, 100, 101, 102, 103] (by decide +kernel) (by decide +kernel)
set_option maxRecDepth 20000 in
theorem gX4_readHead_X4_isWord : GoodIn wsX4_readHead (wsV RX4 53 RX4 yX4_isWord wsX4_isWord) := goodIn_app (goodIn_of _ (by decide +kernel)) ggX4_readHead_X4_isWord
set_option maxRecDepth 20000 in
theorem ggX4_readHead_X4_fail : GoodIn wsX4_readHead wsX4_fail := goodIn_r _ [72, 1, 10, 96, 97, 98, 99, 100, 101, 102, 103] (by decide +kernel) (by decide +kernel)
set_option maxRecDepth 20000 in
theorem gX4_readHead_X4_fail : GoodIn wsX4_readHead (wsV RX4 47 RX4 yX4_fail wsX4_fail) := goodIn_app (goodIn_of _ (by decide +kernel)) ggX4_readHead_X4_fail
set_option maxRecDepth 20000 in
theorem ggX4_readHead_X4_readNumber : GoodIn wsX4_readHead wsX4_readNumber := goodIn_r _ [76, 1, 12, 11, 2, 3, 4, 5, 6, 7, 8, 9, 10, 13, 14, 15, 69, 70, 71, 72, 77, 78, 79, 96, 97, 98, 99, 100, 101, 102, 103] (by decide +kernel) (by decide +kernel)
set_option maxRecDepth 20000 in
theorem gX4_readHead_X4_readNumber : GoodIn wsX4_readHead (wsV RX4 57 RX4 yX4_readNumber wsX4_readNumber) := goodIn_app (goodIn_of _ (by decide +kernel)) ggX4_readHead_X4_readNumber
set_option maxRecDepth 20000 in
theorem ggX4_readHead_X1_beginAnew : GoodIn wsX4_readHead wsX1_beginAnew := goodIn_r _ [84, 85, 86, 87, 88, 89, 90, 83, 91, 92, 93, 94, 95, 104, 105, 106, 107, 108, 109, 110, 111, 112, 113] (by decide +kernel) (by decide +kernel)
set_option maxRecDepth 20000 in
theorem gX4_readHead_X1_beginAnew : GoodIn wsX4_readHead (wsV RX4 60 RX1 yX1_beginAnew wsX1_beginAnew) := goodIn_app (goodIn_of _ (by decide +kernel)) ggX4_readHead_X1_beginAnew
theorem dX4_readHead_0 : decode cX4_readHead 0 = .ok (.aload_n 0, 1) := by decide +kernel
theorem dX4_readHead_1 : decode cX4_readHead 1 = .ok (.invokevirtual 38, 3) := by decide +kernel
theorem dX4_readHead_4 : decode cX4_readHead 4 = .ok (.aload_n 0, 1) := by decide +kernel
theorem dX4_readHead_5 : decode cX4_readHead 5 = .ok (.ldc 51, 2) := by decide +kernel
theorem dX4_readHead_7 : decode cX4_readHead 7 = .ok (.invokevirtual 53, 3) := by decide +kernel
theorem dX4_readHead_10 : decode cX4_readHead 10 = .ok (.ifCond .ne 8, 3) := by decide +kernel
theorem dX4_readHead_13 : decode cX4_readHead 13 = .ok (.aload_n 0, 1) := by decide +kernel
theorem dX4_readHead_14 : decode cX4_readHead 14 = .ok (.iconst 1, 1) := by decide +kernel
theorem dX4_readHead_15 : decode cX4_readHead 15 = .ok (.invokevirtual 47, 3) := by decide +kernel
theorem dX4_readHead_18 : decode cX4_readHead 18 = .ok (.aload_n 0, 1) := by decide +kernel
theorem dX4_readHead_19 : decode cX4_readHead 19 = .ok (.iconst 2, 1) := by decide +kernel
theorem dX4_readHead_20 : decode cX4_readHead 20 = .ok (.bipush 9, 2) := by decide +kernel
theorem dX4_readHead_22 : decode cX4_readHead 22 = .ok (.invokevirtual 57, 3) := by decide +kernel
theorem dX4_readHead_25 : decode cX4_readHead 25 = .ok (.istore_n 2, 1) := by decide +kernel
theorem dX4_readHead_26 : decode cX4_readHead 26 = .ok (.aload_n 0, 1) := by decide +kernel
theorem dX4_readHead_27 : decode cX4_readHead 27 = .ok (.bipush 6, 2) := by decide +kernel
theorem dX4_readHead_29 : decode cX4_readHead 29 = .ok (.bipush 24, 2) := by decide +kernel
theorem dX4_readHead_31 : decode cX4_readHead 31 = .ok (.invokevirtual 57, 3) := by decide +kernel
theorem dX4_readHead_34 : decode cX4_readHead 34 = .ok (.istore_n 3, 1) := by decide +kernel
theorem dX4_readHead_35 : decode cX4_readHead 35 = .ok (.aload_n 0, 1) := by decide +kernel
theorem dX4_readHead_36 : decode cX4_readHead 36 = .ok (.getfield 31, 3) := by decide +kernel
theorem dX4_readHead_39 : decode cX4_readHead 39 = .ok (.ifCond .ne 9, 3) := by decide +kernel
theorem dX4_readHead_42 : decode cX4_readHead 42 = .ok (.aload_n 1, 1) := by decide +kernel
theorem dX4_readHead_43 : decode cX4_readHead 43 = .ok (.iload_n 2, 1) := by decide +kernel
theorem dX4_readHead_44 : decode cX4_readHead 44 = .ok (.iload_n 3, 1) := by decide +kernel
theorem dX4_readHead_45 : decode cX4_readHead 45 = .ok (.invokevirtual 60, 3) := by decide +kernel
theorem dX4_readHead_48 : decode cX4_readHead 48 = .ok (.return_, 1) := by decide +kernel
set_option maxRecDepth 20000 in
theorem ggX4_readLine_X4_readToken : GoodIn wsX4_readLine wsX4_readToken := goodIn_r _ [8, 9, 10, 11, 12, 13, 14, 15, 16, 7, 17, 133, 134, 135, 136, 137, 138, 139, 140] (by decide +kernel) (by decide +kernel)
set_option maxRecDepth 20000 in
theorem gX4_readLine_X4_readToken : GoodIn wsX4_readLine (wsV RX4 38 RX4 yX4_readToken wsX4_readToken) := goodIn_app (goodIn_of _ (by decide +kernel)) ggX4_readLine_X4_readToken
set_option maxRecDepth 20000 in
theorem ggX4_readLine_X4_isWord : GoodIn wsX4_readLine wsX4_isWord := goodIn_r _ [21, 14, 9, 12, 11, 22, 23, 24, 25, 26, 27, 28, 29, 30, 31, 32, 33, 34, 35, 36, 37, 38, 39, 40, 41, 42, 43, 44, 45, 46, 47, 48, 49, 50, 51, 52, 53, 54, 55, 56, 57, 58, 59, 60, 61, 62, 63, 64, 65, 66, 67, 68, 69, 70, 133, 134, 135, 136, 137, 138, 139, 140] (by decide +kernel) (by decide +kernel)
set_option maxRecDepth 20000 in
theorem gX4_readLine_X4_isWord : GoodIn wsX4_readLine (wsV RX4 53 RX4 yX4_isWord wsX4_isWord) := goodIn_app (goodIn_of _ (by decide +kernel)) ggX4_readLine_X4_isWord
set_option maxRecDepth 20000 in
theorem ggX4_readLine_X4_readPlace : GoodIn wsX4_readLine wsX4_readPlace := goodIn_r _ [74, 75, 76, 77, 78, 79, 80, 81, 82, 7, 83, 12, 84, 85, 86, 87, 14, 13, 4, 5, 6, 8, 9, 10, 11, 15, 16, 17, 88, 89, 90, 91, 92, 93, 94, 95, 96, 97, 98, 99, 100, 101, 102, 103, 104, 105, 106, 107, 108, 109, 110, 111, 112, 113, 123, 124, 125, 126, 127, 128, 129, 130, 131, 132, 133, 134, 135, 136, 137, 138, 139, 140] (by decide +kernel) (by decide +kernel)
set_option maxRecDepth 20000 in
theorem gX4_readLine_X4_readPlace : GoodIn wsX4_readLine (wsV RX4 68 RX4 yX4_readPlace wsX4_readPlace) := goodIn_app (goodIn_of _ (by decide +kernel)) ggX4_readLine_X4_readPlace
set_option maxRecDepth 20000 in
theorem ggX4_readLine_X4_readRocks : GoodIn wsX4_readLine wsX4_readRocks := goodIn_r _ [117, 76, 77, 78, 79, 84, 85, 86, 7, 87, 14, 13, 4, 5, 6, 8, 9, 10, 11, 12, 15, 16, 17, 80, 81, 82, 83, 88, 89, 90, 93, 94, 95, 96, 97, 98, 99, 100, 91, 92, 118, 119, 120, 121, 122, 123, 124, 125, 126, 127, 128, 129, 130, 131, 132, 133, 134, 135, 136, 137, 138, 139, 140] (by decide +kernel) (by decide +kernel)
set_option maxRecDepth 20000 in
theorem gX4_readLine_X4_readRocks : GoodIn wsX4_readLine (wsV RX4 73 RX4 yX4_readRocks wsX4_readRocks) := goodIn_app (goodIn_of _ (by decide +kernel)) ggX4_readLine_X4_readRocks
set_option maxRecDepth 20000 in
theorem ggX4_readLine_X4_readNumber : GoodIn wsX4_readLine wsX4_readNumber := goodIn_r _ [87, 78, 14, 13, 4, 5, 6, 7, 8, 9, 10, 11, 12, 15, 16, 17, 80, 81, 82, 83, 88, 89, 90, 133, 134, 135, 136, 137, 138, 139, 140] (by decide +kernel) (by decide +kernel)
set_option maxRecDepth 20000 in
theorem gX4_readLine_X4_readNumber : GoodIn wsX4_readLine (wsV RX4 57 RX4 yX4_readNumber wsX4_readNumber) := goodIn_app (goodIn_of _ (by decide +kernel)) ggX4_readLine_X4_readNumber
set_option maxRecDepth 20000 in
theorem ggX4_readLine_X4_fail : GoodIn wsX4_readLine wsX4_fail := goodIn_r _ [83, 78, 12, 133, 134, 135, 136, 137, 138, 139, 140] (by decide +kernel) (by decide +kernel)
set_option maxRecDepth 20000 in
theorem gX4_readLine_X4_fail : GoodIn wsX4_readLine (wsV RX4 47 RX4 yX4_fail wsX4_fail) := goodIn_app (goodIn_of _ (by decide +kernel)) ggX4_readLine_X4_fail
theorem dX4_readLine_0 : decode cX4_readLine 0 = .ok (.aload_n 0, 1) := by decide +kernel
theorem dX4_readLine_1 : decode cX4_readLine 1 = .ok (.invokevirtual 38, 3) := by decide +kernel
theorem dX4_readLine_4 : decode cX4_readLine 4 = .ok (.aload_n 0, 1) := by decide +kernel
theorem dX4_readLine_5 : decode cX4_readLine 5 = .ok (.ldc 66, 2) := by decide +kernel
theorem dX4_readLine_7 : decode cX4_readLine 7 = .ok (.invokevirtual 53, 3) := by decide +kernel
theorem dX4_readLine_10 : decode cX4_readLine 10 = .ok (.ifCond .eq 11, 3) := by decide +kernel
theorem dX4_readLine_13 : decode cX4_readLine 13 = .ok (.aload_n 0, 1) := by decide +kernel
theorem dX4_readLine_14 : decode cX4_readLine 14 = .ok (.aload_n 1, 1) := by decide +kernel
theorem dX4_readLine_15 : decode cX4_readLine 15 = .ok (.invokevirtual 68, 3) := by decide +kernel
theorem dX4_readLine_18 : decode cX4_readLine 18 = .ok (.goto 94, 3) := by decide +kernel
theorem dX4_readLine_21 : decode cX4_readLine 21 = .ok (.aload_n 0, 1) := by decide +kernel
theorem dX4_readLine_22 : decode cX4_readLine 22 = .ok (.ldc 71, 2) := by decide +kernel
theorem dX4_readLine_24 : decode cX4_readLine 24 = .ok (.invokevirtual 53, 3) := by decide +kernel
theorem dX4_readLine_27 : decode cX4_readLine 27 = .ok (.ifCond .eq 11, 3) := by decide +kernel
theorem dX4_readLine_30 : decode cX4_readLine 30 = .ok (.aload_n 0, 1) := by decide +kernel
theorem dX4_readLine_31 : decode cX4_readLine 31 = .ok (.aload_n 1, 1) := by decide +kernel
theorem dX4_readLine_32 : decode cX4_readLine 32 = .ok (.invokevirtual 73, 3) := by decide +kernel
theorem dX4_readLine_35 : decode cX4_readLine 35 = .ok (.goto 77, 3) := by decide +kernel
theorem dX4_readLine_38 : decode cX4_readLine 38 = .ok (.aload_n 0, 1) := by decide +kernel
theorem dX4_readLine_39 : decode cX4_readLine 39 = .ok (.ldc 76, 2) := by decide +kernel
theorem dX4_readLine_41 : decode cX4_readLine 41 = .ok (.invokevirtual 53, 3) := by decide +kernel
theorem dX4_readLine_44 : decode cX4_readLine 44 = .ok (.ifCond .eq 17, 3) := by decide +kernel
theorem dX4_readLine_47 : decode cX4_readLine 47 = .ok (.aload_n 1, 1) := by decide +kernel
theorem dX4_readLine_48 : decode cX4_readLine 48 = .ok (.aload_n 0, 1) := by decide +kernel
theorem dX4_readLine_49 : decode cX4_readLine 49 = .ok (.iconst 1, 1) := by decide +kernel
theorem dX4_readLine_50 : decode cX4_readLine 50 = .ok (.bipush 99, 2) := by decide +kernel
theorem dX4_readLine_52 : decode cX4_readLine 52 = .ok (.invokevirtual 57, 3) := by decide +kernel
theorem dX4_readLine_55 : decode cX4_readLine 55 = .ok (.putfield 78, 3) := by decide +kernel
theorem dX4_readLine_58 : decode cX4_readLine 58 = .ok (.goto 54, 3) := by decide +kernel
theorem dX4_readLine_61 : decode cX4_readLine 61 = .ok (.aload_n 0, 1) := by decide +kernel
theorem dX4_readLine_62 : decode cX4_readLine 62 = .ok (.ldc 80, 2) := by decide +kernel
theorem dX4_readLine_64 : decode cX4_readLine 64 = .ok (.invokevirtual 53, 3) := by decide +kernel
theorem dX4_readLine_67 : decode cX4_readLine 67 = .ok (.ifCond .eq 17, 3) := by decide +kernel
theorem dX4_readLine_70 : decode cX4_readLine 70 = .ok (.aload_n 1, 1) := by decide +kernel
theorem dX4_readLine_71 : decode cX4_readLine 71 = .ok (.aload_n 0, 1) := by decide +kernel
theorem dX4_readLine_72 : decode cX4_readLine 72 = .ok (.iconst 0, 1) := by decide +kernel
theorem dX4_readLine_73 : decode cX4_readLine 73 = .ok (.bipush 40, 2) := by decide +kernel
theorem dX4_readLine_75 : decode cX4_readLine 75 = .ok (.invokevirtual 57, 3) := by decide +kernel
theorem dX4_readLine_78 : decode cX4_readLine 78 = .ok (.putfield 82, 3) := by decide +kernel
theorem dX4_readLine_81 : decode cX4_readLine 81 = .ok (.goto 31, 3) := by decide +kernel
theorem dX4_readLine_84 : decode cX4_readLine 84 = .ok (.aload_n 0, 1) := by decide +kernel
theorem dX4_readLine_85 : decode cX4_readLine 85 = .ok (.ldc 84, 2) := by decide +kernel
theorem dX4_readLine_87 : decode cX4_readLine 87 = .ok (.invokevirtual 53, 3) := by decide +kernel
theorem dX4_readLine_90 : decode cX4_readLine 90 = .ok (.ifCond .eq 17, 3) := by decide +kernel
theorem dX4_readLine_93 : decode cX4_readLine 93 = .ok (.aload_n 1, 1) := by decide +kernel
theorem dX4_readLine_94 : decode cX4_readLine 94 = .ok (.aload_n 0, 1) := by decide +kernel
theorem dX4_readLine_95 : decode cX4_readLine 95 = .ok (.iconst 0, 1) := by decide +kernel
theorem dX4_readLine_96 : decode cX4_readLine 96 = .ok (.bipush 6, 2) := by decide +kernel
theorem dX4_readLine_98 : decode cX4_readLine 98 = .ok (.invokevirtual 57, 3) := by decide +kernel
theorem dX4_readLine_101 : decode cX4_readLine 101 = .ok (.putfield 86, 3) := by decide +kernel
theorem dX4_readLine_104 : decode cX4_readLine 104 = .ok (.goto 8, 3) := by decide +kernel
theorem dX4_readLine_107 : decode cX4_readLine 107 = .ok (.aload_n 0, 1) := by decide +kernel
theorem dX4_readLine_108 : decode cX4_readLine 108 = .ok (.iconst 1, 1) := by decide +kernel
theorem dX4_readLine_109 : decode cX4_readLine 109 = .ok (.invokevirtual 47, 3) := by decide +kernel
theorem dX4_readLine_112 : decode cX4_readLine 112 = .ok (.return_, 1) := by decide +kernel
set_option maxRecDepth 20000 in
theorem ggX4_readPlace_X4_fail : GoodIn wsX4_readPlace wsX4_fail := goodIn_r _ [10, 4, 11, 64, 65, 66, 67, 68, 69, 70, 71] (by decide +kernel) (by decide +kernel)
set_option maxRecDepth 20000 in
theorem gX4_readPlace_X4_fail : GoodIn wsX4_readPlace (wsV RX4 47 RX4 yX4_fail wsX4_fail) := goodIn_app (goodIn_of _ (by decide +kernel)) ggX4_readPlace_X4_fail
set_option maxRecDepth 20000 in
theorem ggX4_readPlace_X4_readNumber : GoodIn wsX4_readPlace wsX4_readNumber := goodIn_r _ [15, 4, 16, 17, 18, 19, 20, 9, 21, 22, 23, 24, 11, 25, 26, 27, 6, 7, 8, 10, 28, 29, 30, 64, 65, 66, 67, 68, 69, 70, 71] (by decide +kernel) (by decide +kernel)
set_option maxRecDepth 20000 in
theorem gX4_readPlace_X4_readNumber : GoodIn wsX4_readPlace (wsV RX4 57 RX4 yX4_readNumber wsX4_readNumber) := goodIn_app (goodIn_of _ (by decide +kernel)) ggX4_readPlace_X4_readNumber
set_option maxRecDepth 20000 in
theorem ggX4_readPlace_X6_cellOf : GoodIn wsX4_readPlace wsX6_cellOf := goodIn_r _ [32] (by decide +kernel) (by decide +kernel)
set_option maxRecDepth 20000 in
theorem gX4_readPlace_X6_cellOf_n101 : GoodIn wsX4_readPlace (wsX6_cellOf) := ggX4_readPlace_X6_cellOf
set_option maxRecDepth 20000 in
theorem ggX4_readPlace_X1_placeAt : GoodIn wsX4_readPlace wsX1_placeAt := goodIn_r _ [37, 38, 39, 40, 54, 55, 56, 57, 58, 59, 60, 61, 62, 63] (by decide +kernel) (by decide +kernel)
set_option maxRecDepth 20000 in
theorem gX4_readPlace_X1_placeAt : GoodIn wsX4_readPlace (wsV RX4 104 RX1 yX1_placeAt wsX1_placeAt) := goodIn_app (goodIn_of _ (by decide +kernel)) ggX4_readPlace_X1_placeAt
set_option maxRecDepth 20000 in
theorem ggX4_readPlace_X1_addPlace : GoodIn wsX4_readPlace wsX1_addPlace := goodIn_r _ [44, 38, 39, 40, 45, 46, 47, 48, 36, 49, 50, 51, 52, 53, 54, 55, 56, 57, 58, 59, 60, 61, 62, 63] (by decide +kernel) (by decide +kernel)
set_option maxRecDepth 20000 in
theorem gX4_readPlace_X1_addPlace : GoodIn wsX4_readPlace (wsV RX4 107 RX1 yX1_addPlace wsX1_addPlace) := goodIn_app (goodIn_of _ (by decide +kernel)) ggX4_readPlace_X1_addPlace
theorem dX4_readPlace_0 : decode cX4_readPlace 0 = .ok (.aload_n 1, 1) := by decide +kernel
theorem dX4_readPlace_1 : decode cX4_readPlace 1 = .ok (.getfield 88, 3) := by decide +kernel
theorem dX4_readPlace_4 : decode cX4_readPlace 4 = .ok (.bipush 7, 2) := by decide +kernel
theorem dX4_readPlace_6 : decode cX4_readPlace 6 = .ok (.if_icmp .lt 8, 3) := by decide +kernel
theorem dX4_readPlace_9 : decode cX4_readPlace 9 = .ok (.aload_n 0, 1) := by decide +kernel
theorem dX4_readPlace_10 : decode cX4_readPlace 10 = .ok (.iconst 4, 1) := by decide +kernel
theorem dX4_readPlace_11 : decode cX4_readPlace 11 = .ok (.invokevirtual 47, 3) := by decide +kernel
theorem dX4_readPlace_14 : decode cX4_readPlace 14 = .ok (.aload_n 0, 1) := by decide +kernel
theorem dX4_readPlace_15 : decode cX4_readPlace 15 = .ok (.iconst 1, 1) := by decide +kernel
theorem dX4_readPlace_16 : decode cX4_readPlace 16 = .ok (.aload_n 1, 1) := by decide +kernel
theorem dX4_readPlace_17 : decode cX4_readPlace 17 = .ok (.getfield 91, 3) := by decide +kernel
theorem dX4_readPlace_20 : decode cX4_readPlace 20 = .ok (.invokevirtual 57, 3) := by decide +kernel
theorem dX4_readPlace_23 : decode cX4_readPlace 23 = .ok (.istore_n 2, 1) := by decide +kernel
theorem dX4_readPlace_24 : decode cX4_readPlace 24 = .ok (.aload_n 0, 1) := by decide +kernel
theorem dX4_readPlace_25 : decode cX4_readPlace 25 = .ok (.iconst 0, 1) := by decide +kernel
theorem dX4_readPlace_26 : decode cX4_readPlace 26 = .ok (.aload_n 1, 1) := by decide +kernel
theorem dX4_readPlace_27 : decode cX4_readPlace 27 = .ok (.getfield 94, 3) := by decide +kernel
theorem dX4_readPlace_30 : decode cX4_readPlace 30 = .ok (.iconst 1, 1) := by decide +kernel
theorem dX4_readPlace_31 : decode cX4_readPlace 31 = .ok (.isub, 1) := by decide +kernel
theorem dX4_readPlace_32 : decode cX4_readPlace 32 = .ok (.invokevirtual 57, 3) := by decide +kernel
theorem dX4_readPlace_35 : decode cX4_readPlace 35 = .ok (.istore_n 3, 1) := by decide +kernel
theorem dX4_readPlace_36 : decode cX4_readPlace 36 = .ok (.aload_n 0, 1) := by decide +kernel
theorem dX4_readPlace_37 : decode cX4_readPlace 37 = .ok (.getfield 31, 3) := by decide +kernel
theorem dX4_readPlace_40 : decode cX4_readPlace 40 = .ok (.ifCond .ne 31, 3) := by decide +kernel
theorem dX4_readPlace_43 : decode cX4_readPlace 43 = .ok (.aload_n 1, 1) := by decide +kernel
theorem dX4_readPlace_44 : decode cX4_readPlace 44 = .ok (.getfield 97, 3) := by decide +kernel
theorem dX4_readPlace_47 : decode cX4_readPlace 47 = .ok (.iload_n 2, 1) := by decide +kernel
theorem dX4_readPlace_48 : decode cX4_readPlace 48 = .ok (.iload_n 3, 1) := by decide +kernel
theorem dX4_readPlace_49 : decode cX4_readPlace 49 = .ok (.invokestatic 101, 3) := by decide +kernel
theorem dX4_readPlace_52 : decode cX4_readPlace 52 = .ok (.baload, 1) := by decide +kernel
theorem dX4_readPlace_53 : decode cX4_readPlace 53 = .ok (.ifCond .ne 13, 3) := by decide +kernel
theorem dX4_readPlace_56 : decode cX4_readPlace 56 = .ok (.aload_n 1, 1) := by decide +kernel
theorem dX4_readPlace_57 : decode cX4_readPlace 57 = .ok (.iload_n 2, 1) := by decide +kernel
theorem dX4_readPlace_58 : decode cX4_readPlace 58 = .ok (.iload_n 3, 1) := by decide +kernel
theorem dX4_readPlace_59 : decode cX4_readPlace 59 = .ok (.invokevirtual 104, 3) := by decide +kernel
theorem dX4_readPlace_62 : decode cX4_readPlace 62 = .ok (.iconst (-1), 1) := by decide +kernel
theorem dX4_readPlace_63 : decode cX4_readPlace 63 = .ok (.if_icmp .eq 8, 3) := by decide +kernel
theorem dX4_readPlace_66 : decode cX4_readPlace 66 = .ok (.aload_n 0, 1) := by decide +kernel
theorem dX4_readPlace_67 : decode cX4_readPlace 67 = .ok (.iconst 3, 1) := by decide +kernel
theorem dX4_readPlace_68 : decode cX4_readPlace 68 = .ok (.invokevirtual 47, 3) := by decide +kernel
theorem dX4_readPlace_71 : decode cX4_readPlace 71 = .ok (.aload_n 0, 1) := by decide +kernel
theorem dX4_readPlace_72 : decode cX4_readPlace 72 = .ok (.iconst 1, 1) := by decide +kernel
theorem dX4_readPlace_73 : decode cX4_readPlace 73 = .ok (.bipush 99, 2) := by decide +kernel
theorem dX4_readPlace_75 : decode cX4_readPlace 75 = .ok (.invokevirtual 57, 3) := by decide +kernel
theorem dX4_readPlace_78 : decode cX4_readPlace 78 = .ok (.istore 4, 2) := by decide +kernel
theorem dX4_readPlace_80 : decode cX4_readPlace 80 = .ok (.aload_n 0, 1) := by decide +kernel
theorem dX4_readPlace_81 : decode cX4_readPlace 81 = .ok (.getfield 31, 3) := by decide +kernel
theorem dX4_readPlace_84 : decode cX4_readPlace 84 = .ok (.ifCond .ne 11, 3) := by decide +kernel
theorem dX4_readPlace_87 : decode cX4_readPlace 87 = .ok (.aload_n 1, 1) := by decide +kernel
theorem dX4_readPlace_88 : decode cX4_readPlace 88 = .ok (.iload_n 2, 1) := by decide +kernel
theorem dX4_readPlace_89 : decode cX4_readPlace 89 = .ok (.iload_n 3, 1) := by decide +kernel
theorem dX4_readPlace_90 : decode cX4_readPlace 90 = .ok (.iload 4, 2) := by decide +kernel
theorem dX4_readPlace_92 : decode cX4_readPlace 92 = .ok (.invokevirtual 107, 3) := by decide +kernel
theorem dX4_readPlace_95 : decode cX4_readPlace 95 = .ok (.return_, 1) := by decide +kernel
set_option maxRecDepth 20000 in
theorem ggX4_readRocks_X4_readNumber : GoodIn wsX4_readRocks wsX4_readNumber := goodIn_r _ [9, 3, 10, 11, 12, 13, 14, 8, 15, 16, 17, 18, 19, 20, 21, 22, 23, 24, 25, 26, 27, 28, 29, 55, 56, 57, 58, 59, 60, 61, 62] (by decide +kernel) (by decide +kernel)
set_option maxRecDepth 20000 in
theorem gX4_readRocks_X4_readNumber : GoodIn wsX4_readRocks (wsV RX4 57 RX4 yX4_readNumber wsX4_readNumber) := goodIn_app (goodIn_of _ (by decide +kernel)) ggX4_readRocks_X4_readNumber
set_option maxRecDepth 20000 in
theorem ggX4_readRocks_X1_placeAt : GoodIn wsX4_readRocks wsX1_placeAt := goodIn_r _ [34, 35, 36, 37, 45, 46, 47, 48, 49, 50, 51, 52, 53, 54] (by decide +kernel) (by decide +kernel)
set_option maxRecDepth 20000 in
theorem gX4_readRocks_X1_placeAt : GoodIn wsX4_readRocks (wsV RX4 104 RX1 yX1_placeAt wsX1_placeAt) := goodIn_app (goodIn_of _ (by decide +kernel)) ggX4_readRocks_X1_placeAt
set_option maxRecDepth 20000 in
theorem ggX4_readRocks_X4_fail : GoodIn wsX4_readRocks wsX4_fail := goodIn_r _ [26, 3, 19, 55, 56, 57, 58, 59, 60, 61, 62] (by decide +kernel) (by decide +kernel)
set_option maxRecDepth 20000 in
theorem gX4_readRocks_X4_fail : GoodIn wsX4_readRocks (wsV RX4 47 RX4 yX4_fail wsX4_fail) := goodIn_app (goodIn_of _ (by decide +kernel)) ggX4_readRocks_X4_fail
set_option maxRecDepth 20000 in
theorem ggX4_readRocks_X6_cellOf : GoodIn wsX4_readRocks wsX6_cellOf := goodIn_r _ [39] (by decide +kernel) (by decide +kernel)
set_option maxRecDepth 20000 in
theorem gX4_readRocks_X6_cellOf_n101 : GoodIn wsX4_readRocks (wsX6_cellOf) := ggX4_readRocks_X6_cellOf
set_option maxRecDepth 20000 in
theorem ggX4_readRocks_X1_turnBeside : GoodIn wsX4_readRocks wsX1_turnBeside := goodIn_r _ [43, 44, 45, 46, 47, 48, 49, 50, 51, 52, 53, 54] (by decide +kernel) (by decide +kernel)
set_option maxRecDepth 20000 in
theorem gX4_readRocks_X1_turnBeside : GoodIn wsX4_readRocks (wsV RX4 111 RX1 yX1_turnBeside wsX1_turnBeside) := goodIn_app (goodIn_of _ (by decide +kernel)) ggX4_readRocks_X1_turnBeside
theorem dX4_readRocks_0 : decode cX4_readRocks 0 = .ok (.aload_n 0, 1) := by decide +kernel
theorem dX4_readRocks_1 : decode cX4_readRocks 1 = .ok (.iconst 1, 1) := by decide +kernel
theorem dX4_readRocks_2 : decode cX4_readRocks 2 = .ok (.aload_n 1, 1) := by decide +kernel
theorem dX4_readRocks_3 : decode cX4_readRocks 3 = .ok (.getfield 91, 3) := by decide +kernel
theorem dX4_readRocks_6 : decode cX4_readRocks 6 = .ok (.invokevirtual 57, 3) := by decide +kernel
theorem dX4_readRocks_9 : decode cX4_readRocks 9 = .ok (.istore_n 2, 1) := by decide +kernel
theorem dX4_readRocks_10 : decode cX4_readRocks 10 = .ok (.aload_n 0, 1) := by decide +kernel
theorem dX4_readRocks_11 : decode cX4_readRocks 11 = .ok (.iconst 0, 1) := by decide +kernel
theorem dX4_readRocks_12 : decode cX4_readRocks 12 = .ok (.aload_n 1, 1) := by decide +kernel
theorem dX4_readRocks_13 : decode cX4_readRocks 13 = .ok (.getfield 94, 3) := by decide +kernel
theorem dX4_readRocks_16 : decode cX4_readRocks 16 = .ok (.iconst 1, 1) := by decide +kernel
theorem dX4_readRocks_17 : decode cX4_readRocks 17 = .ok (.isub, 1) := by decide +kernel
theorem dX4_readRocks_18 : decode cX4_readRocks 18 = .ok (.invokevirtual 57, 3) := by decide +kernel
theorem dX4_readRocks_21 : decode cX4_readRocks 21 = .ok (.istore_n 3, 1) := by decide +kernel
theorem dX4_readRocks_22 : decode cX4_readRocks 22 = .ok (.aload_n 0, 1) := by decide +kernel
theorem dX4_readRocks_23 : decode cX4_readRocks 23 = .ok (.iconst 1, 1) := by decide +kernel
theorem dX4_readRocks_24 : decode cX4_readRocks 24 = .ok (.aload_n 1, 1) := by decide +kernel
theorem dX4_readRocks_25 : decode cX4_readRocks 25 = .ok (.getfield 94, 3) := by decide +kernel
theorem dX4_readRocks_28 : decode cX4_readRocks 28 = .ok (.invokevirtual 57, 3) := by decide +kernel
theorem dX4_readRocks_31 : decode cX4_readRocks 31 = .ok (.istore 4, 2) := by decide +kernel
theorem dX4_readRocks_33 : decode cX4_readRocks 33 = .ok (.iconst 0, 1) := by decide +kernel
theorem dX4_readRocks_34 : decode cX4_readRocks 34 = .ok (.istore 5, 2) := by decide +kernel
theorem dX4_readRocks_36 : decode cX4_readRocks 36 = .ok (.iload 5, 2) := by decide +kernel
theorem dX4_readRocks_38 : decode cX4_readRocks 38 = .ok (.iload 4, 2) := by decide +kernel
theorem dX4_readRocks_40 : decode cX4_readRocks 40 = .ok (.if_icmp .ge 49, 3) := by decide +kernel
theorem dX4_readRocks_43 : decode cX4_readRocks 43 = .ok (.aload_n 0, 1) := by decide +kernel
theorem dX4_readRocks_44 : decode cX4_readRocks 44 = .ok (.getfield 31, 3) := by decide +kernel
theorem dX4_readRocks_47 : decode cX4_readRocks 47 = .ok (.ifCond .ne 42, 3) := by decide +kernel
theorem dX4_readRocks_50 : decode cX4_readRocks 50 = .ok (.aload_n 1, 1) := by decide +kernel
theorem dX4_readRocks_51 : decode cX4_readRocks 51 = .ok (.iload_n 2, 1) := by decide +kernel
theorem dX4_readRocks_52 : decode cX4_readRocks 52 = .ok (.iload_n 3, 1) := by decide +kernel
theorem dX4_readRocks_53 : decode cX4_readRocks 53 = .ok (.invokevirtual 104, 3) := by decide +kernel
theorem dX4_readRocks_56 : decode cX4_readRocks 56 = .ok (.iconst (-1), 1) := by decide +kernel
theorem dX4_readRocks_57 : decode cX4_readRocks 57 = .ok (.if_icmp .eq 8, 3) := by decide +kernel
theorem dX4_readRocks_60 : decode cX4_readRocks 60 = .ok (.aload_n 0, 1) := by decide +kernel
theorem dX4_readRocks_61 : decode cX4_readRocks 61 = .ok (.iconst 3, 1) := by decide +kernel
theorem dX4_readRocks_62 : decode cX4_readRocks 62 = .ok (.invokevirtual 47, 3) := by decide +kernel
theorem dX4_readRocks_65 : decode cX4_readRocks 65 = .ok (.aload_n 1, 1) := by decide +kernel
theorem dX4_readRocks_66 : decode cX4_readRocks 66 = .ok (.getfield 97, 3) := by decide +kernel
theorem dX4_readRocks_69 : decode cX4_readRocks 69 = .ok (.iload_n 2, 1) := by decide +kernel
theorem dX4_readRocks_70 : decode cX4_readRocks 70 = .ok (.iload_n 3, 1) := by decide +kernel
theorem dX4_readRocks_71 : decode cX4_readRocks 71 = .ok (.invokestatic 101, 3) := by decide +kernel
theorem dX4_readRocks_74 : decode cX4_readRocks 74 = .ok (.iconst 1, 1) := by decide +kernel
theorem dX4_readRocks_75 : decode cX4_readRocks 75 = .ok (.bastore, 1) := by decide +kernel
theorem dX4_readRocks_76 : decode cX4_readRocks 76 = .ok (.aload_n 1, 1) := by decide +kernel
theorem dX4_readRocks_77 : decode cX4_readRocks 77 = .ok (.iload_n 3, 1) := by decide +kernel
theorem dX4_readRocks_78 : decode cX4_readRocks 78 = .ok (.iconst 2, 1) := by decide +kernel
theorem dX4_readRocks_79 : decode cX4_readRocks 79 = .ok (.invokevirtual 111, 3) := by decide +kernel
theorem dX4_readRocks_82 : decode cX4_readRocks 82 = .ok (.istore_n 3, 1) := by decide +kernel
theorem dX4_readRocks_83 : decode cX4_readRocks 83 = .ok (.iinc 5 1, 3) := by decide +kernel
theorem dX4_readRocks_86 : decode cX4_readRocks 86 = .ok (.goto (-50), 3) := by decide +kernel
theorem dX4_readRocks_89 : decode cX4_readRocks 89 = .ok (.return_, 1) := by decide +kernel
set_option maxRecDepth 20000 in
theorem ggX4_readNumber_X4_readToken : GoodIn wsX4_readNumber wsX4_readToken := goodIn_r _ [8, 9, 10, 11, 12, 3, 2, 13, 14, 7, 15, 23, 24, 25, 26, 27, 28, 29, 30] (by decide +kernel) (by decide +kernel)
set_option maxRecDepth 20000 in
theorem gX4_readNumber_X4_readToken : GoodIn wsX4_readNumber (wsV RX4 38 RX4 yX4_readToken wsX4_readToken) := goodIn_app (goodIn_of _ (by decide +kernel)) ggX4_readNumber_X4_readToken
set_option maxRecDepth 20000 in
theorem ggX4_readNumber_X4_fail : GoodIn wsX4_readNumber wsX4_fail := goodIn_r _ [19, 1, 12, 23, 24, 25, 26, 27, 28, 29, 30] (by decide +kernel) (by decide +kernel)
set_option maxRecDepth 20000 in
theorem gX4_readNumber_X4_fail : GoodIn wsX4_readNumber (wsV RX4 47 RX4 yX4_fail wsX4_fail) := goodIn_app (goodIn_of _ (by decide +kernel)) ggX4_readNumber_X4_fail
set_option maxRecDepth 20000 in
theorem ggX4_readNumber_X6_isWithin : GoodIn wsX4_readNumber wsX6_isWithin := goodIn_r _ [22] (by decide +kernel) (by decide +kernel)
set_option maxRecDepth 20000 in
theorem gX4_readNumber_X6_isWithin_n117 : GoodIn wsX4_readNumber (wsX6_isWithin) := ggX4_readNumber_X6_isWithin
theorem dX4_readNumber_0 : decode cX4_readNumber 0 = .ok (.aload_n 0, 1) := by decide +kernel
theorem dX4_readNumber_1 : decode cX4_readNumber 1 = .ok (.getfield 31, 3) := by decide +kernel
theorem dX4_readNumber_4 : decode cX4_readNumber 4 = .ok (.ifCond .eq 5, 3) := by decide +kernel
theorem dX4_readNumber_7 : decode cX4_readNumber 7 = .ok (.iload_n 1, 1) := by decide +kernel
theorem dX4_readNumber_8 : decode cX4_readNumber 8 = .ok (.ireturn, 1) := by decide +kernel
theorem dX4_readNumber_9 : decode cX4_readNumber 9 = .ok (.aload_n 0, 1) := by decide +kernel
theorem dX4_readNumber_10 : decode cX4_readNumber 10 = .ok (.invokevirtual 38, 3) := by decide +kernel
theorem dX4_readNumber_13 : decode cX4_readNumber 13 = .ok (.aload_n 0, 1) := by decide +kernel
theorem dX4_readNumber_14 : decode cX4_readNumber 14 = .ok (.getfield 41, 3) := by decide +kernel
theorem dX4_readNumber_17 : decode cX4_readNumber 17 = .ok (.iconst 2, 1) := by decide +kernel
theorem dX4_readNumber_18 : decode cX4_readNumber 18 = .ok (.if_icmp .eq 10, 3) := by decide +kernel
theorem dX4_readNumber_21 : decode cX4_readNumber 21 = .ok (.aload_n 0, 1) := by decide +kernel
theorem dX4_readNumber_22 : decode cX4_readNumber 22 = .ok (.iconst 1, 1) := by decide +kernel
theorem dX4_readNumber_23 : decode cX4_readNumber 23 = .ok (.invokevirtual 47, 3) := by decide +kernel
theorem dX4_readNumber_26 : decode cX4_readNumber 26 = .ok (.iload_n 1, 1) := by decide +kernel
theorem dX4_readNumber_27 : decode cX4_readNumber 27 = .ok (.ireturn, 1) := by decide +kernel
theorem dX4_readNumber_28 : decode cX4_readNumber 28 = .ok (.aload_n 0, 1) := by decide +kernel
theorem dX4_readNumber_29 : decode cX4_readNumber 29 = .ok (.getfield 114, 3) := by decide +kernel
theorem dX4_readNumber_32 : decode cX4_readNumber 32 = .ok (.iload_n 1, 1) := by decide +kernel
theorem dX4_readNumber_33 : decode cX4_readNumber 33 = .ok (.iload_n 2, 1) := by decide +kernel
theorem dX4_readNumber_34 : decode cX4_readNumber 34 = .ok (.invokestatic 117, 3) := by decide +kernel
theorem dX4_readNumber_37 : decode cX4_readNumber 37 = .ok (.ifCond .ne 10, 3) := by decide +kernel
theorem dX4_readNumber_40 : decode cX4_readNumber 40 = .ok (.aload_n 0, 1) := by decide +kernel
theorem dX4_readNumber_41 : decode cX4_readNumber 41 = .ok (.iconst 2, 1) := by decide +kernel
theorem dX4_readNumber_42 : decode cX4_readNumber 42 = .ok (.invokevirtual 47, 3) := by decide +kernel
theorem dX4_readNumber_45 : decode cX4_readNumber 45 = .ok (.iload_n 1, 1) := by decide +kernel
theorem dX4_readNumber_46 : decode cX4_readNumber 46 = .ok (.ireturn, 1) := by decide +kernel
theorem dX4_readNumber_47 : decode cX4_readNumber 47 = .ok (.aload_n 0, 1) := by decide +kernel
theorem dX4_readNumber_48 : decode cX4_readNumber 48 = .ok (.getfield 114, 3) := by decide +kernel
theorem dX4_readNumber_51 : decode cX4_readNumber 51 = .ok (.ireturn, 1) := by decide +kernel
theorem dX4_fail_0 : decode cX4_fail 0 = .ok (.aload_n 0, 1) := by decide +kernel
theorem dX4_fail_1 : decode cX4_fail 1 = .ok (.getfield 31, 3) := by decide +kernel
theorem dX4_fail_4 : decode cX4_fail 4 = .ok (.ifCond .ne 16, 3) := by decide +kernel
theorem dX4_fail_7 : decode cX4_fail 7 = .ok (.aload_n 0, 1) := by decide +kernel
theorem dX4_fail_8 : decode cX4_fail 8 = .ok (.bipush 8, 2) := by decide +kernel
theorem dX4_fail_10 : decode cX4_fail 10 = .ok (.aload_n 0, 1) := by decide +kernel
theorem dX4_fail_11 : decode cX4_fail 11 = .ok (.getfield 121, 3) := by decide +kernel
theorem dX4_fail_14 : decode cX4_fail 14 = .ok (.imul, 1) := by decide +kernel
theorem dX4_fail_15 : decode cX4_fail 15 = .ok (.iload_n 1, 1) := by decide +kernel
theorem dX4_fail_16 : decode cX4_fail 16 = .ok (.iadd, 1) := by decide +kernel
theorem dX4_fail_17 : decode cX4_fail 17 = .ok (.putfield 31, 3) := by decide +kernel
theorem dX4_fail_20 : decode cX4_fail 20 = .ok (.return_, 1) := by decide +kernel
set_option maxRecDepth 20000 in
theorem ggX4_readToken_X4_kindOf : GoodIn wsX4_readToken wsX4_kindOf := goodIn_r _ [10] (by decide +kernel) (by decide +kernel)
set_option maxRecDepth 20000 in
theorem gX4_readToken_X4_kindOf : GoodIn wsX4_readToken (va_wsS RX4 124 yX4_kindOf wsX4_kindOf) := goodIn_app (goodIn_of _ (by decide +kernel)) ggX4_readToken_X4_kindOf
theorem dX4_readToken_0 : decode cX4_readToken 0 = .ok (.aload_n 0, 1) := by decide +kernel
theorem dX4_readToken_1 : decode cX4_readToken 1 = .ok (.getfield 28, 3) := by decide +kernel
theorem dX4_readToken_4 : decode cX4_readToken 4 = .ok (.aload_n 0, 1) := by decide +kernel
theorem dX4_readToken_5 : decode cX4_readToken 5 = .ok (.getfield 25, 3) := by decide +kernel
theorem dX4_readToken_8 : decode cX4_readToken 8 = .ok (.if_icmp .ge 44, 3) := by decide +kernel
theorem dX4_readToken_11 : decode cX4_readToken 11 = .ok (.aload_n 0, 1) := by decide +kernel
theorem dX4_readToken_12 : decode cX4_readToken 12 = .ok (.getfield 9, 3) := by decide +kernel
theorem dX4_readToken_15 : decode cX4_readToken 15 = .ok (.aload_n 0, 1) := by decide +kernel
theorem dX4_readToken_16 : decode cX4_readToken 16 = .ok (.getfield 28, 3) := by decide +kernel
theorem dX4_readToken_19 : decode cX4_readToken 19 = .ok (.iaload, 1) := by decide +kernel
theorem dX4_readToken_20 : decode cX4_readToken 20 = .ok (.bipush 32, 2) := by decide +kernel
theorem dX4_readToken_22 : decode cX4_readToken 22 = .ok (.if_icmp .eq 17, 3) := by decide +kernel
theorem dX4_readToken_25 : decode cX4_readToken 25 = .ok (.aload_n 0, 1) := by decide +kernel
theorem dX4_readToken_26 : decode cX4_readToken 26 = .ok (.getfield 9, 3) := by decide +kernel
theorem dX4_readToken_29 : decode cX4_readToken 29 = .ok (.aload_n 0, 1) := by decide +kernel
theorem dX4_readToken_30 : decode cX4_readToken 30 = .ok (.getfield 28, 3) := by decide +kernel
theorem dX4_readToken_33 : decode cX4_readToken 33 = .ok (.iaload, 1) := by decide +kernel
theorem dX4_readToken_34 : decode cX4_readToken 34 = .ok (.bipush 10, 2) := by decide +kernel
theorem dX4_readToken_36 : decode cX4_readToken 36 = .ok (.if_icmp .ne 16, 3) := by decide +kernel
theorem dX4_readToken_39 : decode cX4_readToken 39 = .ok (.aload_n 0, 1) := by decide +kernel
theorem dX4_readToken_40 : decode cX4_readToken 40 = .ok (.dup, 1) := by decide +kernel
theorem dX4_readToken_41 : decode cX4_readToken 41 = .ok (.getfield 28, 3) := by decide +kernel
theorem dX4_readToken_44 : decode cX4_readToken 44 = .ok (.iconst 1, 1) := by decide +kernel
theorem dX4_readToken_45 : decode cX4_readToken 45 = .ok (.iadd, 1) := by decide +kernel
theorem dX4_readToken_46 : decode cX4_readToken 46 = .ok (.putfield 28, 3) := by decide +kernel
theorem dX4_readToken_49 : decode cX4_readToken 49 = .ok (.goto (-49), 3) := by decide +kernel
theorem dX4_readToken_52 : decode cX4_readToken 52 = .ok (.aload_n 0, 1) := by decide +kernel
theorem dX4_readToken_53 : decode cX4_readToken 53 = .ok (.aload_n 0, 1) := by decide +kernel
theorem dX4_readToken_54 : decode cX4_readToken 54 = .ok (.getfield 28, 3) := by decide +kernel
theorem dX4_readToken_57 : decode cX4_readToken 57 = .ok (.putfield 121, 3) := by decide +kernel
theorem dX4_readToken_60 : decode cX4_readToken 60 = .ok (.aload_n 0, 1) := by decide +kernel
theorem dX4_readToken_61 : decode cX4_readToken 61 = .ok (.iconst 0, 1) := by decide +kernel
theorem dX4_readToken_62 : decode cX4_readToken 62 = .ok (.putfield 114, 3) := by decide +kernel
theorem dX4_readToken_65 : decode cX4_readToken 65 = .ok (.aload_n 0, 1) := by decide +kernel
theorem dX4_readToken_66 : decode cX4_readToken 66 = .ok (.aload_n 0, 1) := by decide +kernel
theorem dX4_readToken_67 : decode cX4_readToken 67 = .ok (.getfield 28, 3) := by decide +kernel
theorem dX4_readToken_70 : decode cX4_readToken 70 = .ok (.aload_n 0, 1) := by decide +kernel
theorem dX4_readToken_71 : decode cX4_readToken 71 = .ok (.getfield 25, 3) := by decide +kernel
theorem dX4_readToken_74 : decode cX4_readToken 74 = .ok (.if_icmp .ge 18, 3) := by decide +kernel
theorem dX4_readToken_77 : decode cX4_readToken 77 = .ok (.aload_n 0, 1) := by decide +kernel
theorem dX4_readToken_78 : decode cX4_readToken 78 = .ok (.getfield 9, 3) := by decide +kernel
theorem dX4_readToken_81 : decode cX4_readToken 81 = .ok (.aload_n 0, 1) := by decide +kernel
theorem dX4_readToken_82 : decode cX4_readToken 82 = .ok (.getfield 28, 3) := by decide +kernel
theorem dX4_readToken_85 : decode cX4_readToken 85 = .ok (.iaload, 1) := by decide +kernel
theorem dX4_readToken_86 : decode cX4_readToken 86 = .ok (.invokestatic 124, 3) := by decide +kernel
theorem dX4_readToken_89 : decode cX4_readToken 89 = .ok (.goto 4, 3) := by decide +kernel
theorem dX4_readToken_92 : decode cX4_readToken 92 = .ok (.iconst 0, 1) := by decide +kernel
theorem dX4_readToken_93 : decode cX4_readToken 93 = .ok (.putfield 41, 3) := by decide +kernel
theorem dX4_readToken_96 : decode cX4_readToken 96 = .ok (.aload_n 0, 1) := by decide +kernel
theorem dX4_readToken_97 : decode cX4_readToken 97 = .ok (.getfield 41, 3) := by decide +kernel
theorem dX4_readToken_100 : decode cX4_readToken 100 = .ok (.iconst 1, 1) := by decide +kernel
theorem dX4_readToken_101 : decode cX4_readToken 101 = .ok (.if_icmp .eq 11, 3) := by decide +kernel
theorem dX4_readToken_104 : decode cX4_readToken 104 = .ok (.aload_n 0, 1) := by decide +kernel
theorem dX4_readToken_105 : decode cX4_readToken 105 = .ok (.getfield 41, 3) := by decide +kernel
theorem dX4_readToken_108 : decode cX4_readToken 108 = .ok (.iconst 2, 1) := by decide +kernel
theorem dX4_readToken_109 : decode cX4_readToken 109 = .ok (.if_icmp .ne 7, 3) := by decide +kernel
theorem dX4_readToken_112 : decode cX4_readToken 112 = .ok (.iconst 1, 1) := by decide +kernel
theorem dX4_readToken_113 : decode cX4_readToken 113 = .ok (.goto 4, 3) := by decide +kernel
theorem dX4_readToken_116 : decode cX4_readToken 116 = .ok (.iconst 0, 1) := by decide +kernel
theorem dX4_readToken_117 : decode cX4_readToken 117 = .ok (.istore_n 1, 1) := by decide +kernel
theorem dX4_readToken_118 : decode cX4_readToken 118 = .ok (.iload_n 1, 1) := by decide +kernel
