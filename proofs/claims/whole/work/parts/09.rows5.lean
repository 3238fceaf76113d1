theorem dX7_set_140 : decode cX7_set 140 = .ok (.iload 4, 2) := by decide +kernel
theorem dX7_set_142 : decode cX7_set 142 = .ok (.ireturn, 1) := by decide +kernel
set_option maxRecDepth 20000 in
theorem ggX7_at_X7_within : GoodIn wsX7_at wsX7_within := goodIn_r _ [9] (by decide +kernel) (by decide +kernel)
set_option maxRecDepth 20000 in
theorem gX7_at_X7_within : GoodIn wsX7_at (va_wsS RX7 92 yX7_within wsX7_within) := goodIn_app (goodIn_of _ (by decide +kernel)) ggX7_at_X7_within
theorem dX7_at_0 : decode cX7_at 0 = .ok (.aload_n 0, 1) := by decide +kernel
theorem dX7_at_1 : decode cX7_at 1 = .ok (.iload_n 1, 1) := by decide +kernel
theorem dX7_at_2 : decode cX7_at 2 = .ok (.iconst 0, 1) := by decide +kernel
theorem dX7_at_3 : decode cX7_at 3 = .ok (.aload_n 0, 1) := by decide +kernel
theorem dX7_at_4 : decode cX7_at 4 = .ok (.getfield 89, 3) := by decide +kernel
theorem dX7_at_7 : decode cX7_at 7 = .ok (.iconst 1, 1) := by decide +kernel
theorem dX7_at_8 : decode cX7_at 8 = .ok (.isub, 1) := by decide +kernel
theorem dX7_at_9 : decode cX7_at 9 = .ok (.invokestatic 92, 3) := by decide +kernel
theorem dX7_at_12 : decode cX7_at 12 = .ok (.ifCond .eq 16, 3) := by decide +kernel
theorem dX7_at_15 : decode cX7_at 15 = .ok (.iload_n 2, 1) := by decide +kernel
theorem dX7_at_16 : decode cX7_at 16 = .ok (.iconst 0, 1) := by decide +kernel
theorem dX7_at_17 : decode cX7_at 17 = .ok (.iconst 2, 1) := by decide +kernel
theorem dX7_at_18 : decode cX7_at 18 = .ok (.invokestatic 92, 3) := by decide +kernel
theorem dX7_at_21 : decode cX7_at 21 = .ok (.ifCond .eq 7, 3) := by decide +kernel
theorem dX7_at_24 : decode cX7_at 24 = .ok (.iconst 0, 1) := by decide +kernel
theorem dX7_at_25 : decode cX7_at 25 = .ok (.goto 4, 3) := by decide +kernel
theorem dX7_at_28 : decode cX7_at 28 = .ok (.iconst 1, 1) := by decide +kernel
theorem dX7_at_29 : decode cX7_at 29 = .ok (.putfield 1, 3) := by decide +kernel
theorem dX7_at_32 : decode cX7_at 32 = .ok (.aload_n 0, 1) := by decide +kernel
theorem dX7_at_33 : decode cX7_at 33 = .ok (.getfield 1, 3) := by decide +kernel
theorem dX7_at_36 : decode cX7_at 36 = .ok (.ifCond .le 7, 3) := by decide +kernel
theorem dX7_at_39 : decode cX7_at 39 = .ok (.iconst 0, 1) := by decide +kernel
theorem dX7_at_40 : decode cX7_at 40 = .ok (.goto 36, 3) := by decide +kernel
theorem dX7_at_43 : decode cX7_at 43 = .ok (.iload_n 2, 1) := by decide +kernel
theorem dX7_at_44 : decode cX7_at 44 = .ok (.ifCond .ne 12, 3) := by decide +kernel
theorem dX7_at_47 : decode cX7_at 47 = .ok (.aload_n 0, 1) := by decide +kernel
theorem dX7_at_48 : decode cX7_at 48 = .ok (.getfield 13, 3) := by decide +kernel
theorem dX7_at_51 : decode cX7_at 51 = .ok (.iload_n 1, 1) := by decide +kernel
theorem dX7_at_52 : decode cX7_at 52 = .ok (.iaload, 1) := by decide +kernel
theorem dX7_at_53 : decode cX7_at 53 = .ok (.goto 23, 3) := by decide +kernel
theorem dX7_at_56 : decode cX7_at 56 = .ok (.iload_n 2, 1) := by decide +kernel
theorem dX7_at_57 : decode cX7_at 57 = .ok (.iconst 1, 1) := by decide +kernel
theorem dX7_at_58 : decode cX7_at 58 = .ok (.if_icmp .ne 12, 3) := by decide +kernel
theorem dX7_at_61 : decode cX7_at 61 = .ok (.aload_n 0, 1) := by decide +kernel
theorem dX7_at_62 : decode cX7_at 62 = .ok (.getfield 17, 3) := by decide +kernel
theorem dX7_at_65 : decode cX7_at 65 = .ok (.iload_n 1, 1) := by decide +kernel
theorem dX7_at_66 : decode cX7_at 66 = .ok (.iaload, 1) := by decide +kernel
theorem dX7_at_67 : decode cX7_at 67 = .ok (.goto 9, 3) := by decide +kernel
theorem dX7_at_70 : decode cX7_at 70 = .ok (.aload_n 0, 1) := by decide +kernel
theorem dX7_at_71 : decode cX7_at 71 = .ok (.getfield 20, 3) := by decide +kernel
theorem dX7_at_74 : decode cX7_at 74 = .ok (.iload_n 1, 1) := by decide +kernel
theorem dX7_at_75 : decode cX7_at 75 = .ok (.iaload, 1) := by decide +kernel
theorem dX7_at_76 : decode cX7_at 76 = .ok (.ireturn, 1) := by decide +kernel
set_option maxRecDepth 20000 in
theorem ggX7_targetTurn_X7_around : GoodIn wsX7_targetTurn wsX7_around := goodIn_r _ [5, 6, 7, 8, 9, 10, 11, 12, 13, 14, 15, 16, 17, 18, 19, 20, 21, 22, 23, 24, 25, 26, 27, 28, 29, 30, 31, 32, 33, 34, 35, 36, 37, 38, 39, 40, 41] (by decide +kernel) (by decide +kernel)
set_option maxRecDepth 20000 in
theorem gX7_targetTurn_X7_around : GoodIn wsX7_targetTurn (wsV RX7 200 RX7 yX7_around wsX7_around) := goodIn_app (goodIn_of _ (by decide +kernel)) ggX7_targetTurn_X7_around
theorem dX7_targetTurn_0 : decode cX7_targetTurn 0 = .ok (.iload_n 1, 1) := by decide +kernel
theorem dX7_targetTurn_1 : decode cX7_targetTurn 1 = .ok (.iconst 1, 1) := by decide +kernel
theorem dX7_targetTurn_2 : decode cX7_targetTurn 2 = .ok (.if_icmp .ne 7, 3) := by decide +kernel
theorem dX7_targetTurn_5 : decode cX7_targetTurn 5 = .ok (.iconst 0, 1) := by decide +kernel
theorem dX7_targetTurn_6 : decode cX7_targetTurn 6 = .ok (.goto 28, 3) := by decide +kernel
theorem dX7_targetTurn_9 : decode cX7_targetTurn 9 = .ok (.aload_n 0, 1) := by decide +kernel
theorem dX7_targetTurn_10 : decode cX7_targetTurn 10 = .ok (.iload_n 2, 1) := by decide +kernel
theorem dX7_targetTurn_11 : decode cX7_targetTurn 11 = .ok (.iload_n 3, 1) := by decide +kernel
theorem dX7_targetTurn_12 : decode cX7_targetTurn 12 = .ok (.iconst 1, 1) := by decide +kernel
theorem dX7_targetTurn_13 : decode cX7_targetTurn 13 = .ok (.if_icmp .ne 7, 3) := by decide +kernel
theorem dX7_targetTurn_16 : decode cX7_targetTurn 16 = .ok (.iconst (-1), 1) := by decide +kernel
theorem dX7_targetTurn_17 : decode cX7_targetTurn 17 = .ok (.goto 13, 3) := by decide +kernel
theorem dX7_targetTurn_20 : decode cX7_targetTurn 20 = .ok (.iload_n 3, 1) := by decide +kernel
theorem dX7_targetTurn_21 : decode cX7_targetTurn 21 = .ok (.iconst 2, 1) := by decide +kernel
theorem dX7_targetTurn_22 : decode cX7_targetTurn 22 = .ok (.if_icmp .ne 7, 3) := by decide +kernel
theorem dX7_targetTurn_25 : decode cX7_targetTurn 25 = .ok (.iconst 1, 1) := by decide +kernel
theorem dX7_targetTurn_26 : decode cX7_targetTurn 26 = .ok (.goto 4, 3) := by decide +kernel
theorem dX7_targetTurn_29 : decode cX7_targetTurn 29 = .ok (.iconst 0, 1) := by decide +kernel
theorem dX7_targetTurn_30 : decode cX7_targetTurn 30 = .ok (.iadd, 1) := by decide +kernel
theorem dX7_targetTurn_31 : decode cX7_targetTurn 31 = .ok (.invokevirtual 200, 3) := by decide +kernel
theorem dX7_targetTurn_34 : decode cX7_targetTurn 34 = .ok (.ireturn, 1) := by decide +kernel
set_option maxRecDepth 20000 in
theorem ggX7_target_X7_targetTurn : GoodIn wsX7_target wsX7_targetTurn := goodIn_r _ [5, 6, 7, 8, 4, 9, 10, 14, 15, 16, 17, 18, 19, 20, 21, 22, 23, 24, 25, 26, 27, 28, 29, 30, 31, 32, 33, 34, 35, 36, 37, 38, 39, 40, 41, 42, 43, 44, 45, 46, 47, 48] (by decide +kernel) (by decide +kernel)
set_option maxRecDepth 20000 in
theorem gX7_target_X7_targetTurn : GoodIn wsX7_target (wsV RX7 203 RX7 yX7_targetTurn wsX7_targetTurn) := goodIn_app (goodIn_of _ (by decide +kernel)) ggX7_target_X7_targetTurn
set_option maxRecDepth 20000 in
theorem ggX7_target_X7_cell : GoodIn wsX7_target wsX7_cell := goodIn_r _ [13] (by decide +kernel) (by decide +kernel)
set_option maxRecDepth 20000 in
theorem gX7_target_X7_cell : GoodIn wsX7_target (va_wsS RX7 170 yX7_cell wsX7_cell) := goodIn_app (goodIn_of _ (by decide +kernel)) ggX7_target_X7_cell
theorem dX7_target_0 : decode cX7_target 0 = .ok (.iload_n 1, 1) := by decide +kernel
theorem dX7_target_1 : decode cX7_target 1 = .ok (.iconst 1, 1) := by decide +kernel
theorem dX7_target_2 : decode cX7_target 2 = .ok (.isub, 1) := by decide +kernel
theorem dX7_target_3 : decode cX7_target 3 = .ok (.aload_n 0, 1) := by decide +kernel
theorem dX7_target_4 : decode cX7_target 4 = .ok (.iload_n 1, 1) := by decide +kernel
theorem dX7_target_5 : decode cX7_target 5 = .ok (.iload_n 2, 1) := by decide +kernel
theorem dX7_target_6 : decode cX7_target 6 = .ok (.iload_n 3, 1) := by decide +kernel
theorem dX7_target_7 : decode cX7_target 7 = .ok (.invokevirtual 203, 3) := by decide +kernel
theorem dX7_target_10 : decode cX7_target 10 = .ok (.invokestatic 170, 3) := by decide +kernel
theorem dX7_target_13 : decode cX7_target 13 = .ok (.ireturn, 1) := by decide +kernel
set_option maxRecDepth 20000 in
theorem ggX7_isFree_X7_target : GoodIn wsX7_isFree wsX7_target := goodIn_r _ [6, 7, 8, 9, 5, 10, 11, 12, 13, 14, 15, 16, 17, 18, 19, 20, 21, 22, 23, 24, 25, 26, 27, 28, 29, 30, 31, 32, 33, 34, 35, 36, 37, 38, 39, 40, 41, 42, 43, 44, 45, 46, 47, 48, 49, 50, 51, 52, 53] (by decide +kernel) (by decide +kernel)
set_option maxRecDepth 20000 in
theorem gX7_isFree_X7_target : GoodIn wsX7_isFree (wsV RX7 207 RX7 yX7_target wsX7_target) := goodIn_app (goodIn_of _ (by decide +kernel)) ggX7_isFree_X7_target
theorem dX7_isFree_0 : decode cX7_isFree 0 = .ok (.iload_n 1, 1) := by decide +kernel
theorem dX7_isFree_1 : decode cX7_isFree 1 = .ok (.iconst 1, 1) := by decide +kernel
theorem dX7_isFree_2 : decode cX7_isFree 2 = .ok (.if_icmp .eq 18, 3) := by decide +kernel
theorem dX7_isFree_5 : decode cX7_isFree 5 = .ok (.aload_n 0, 1) := by decide +kernel
theorem dX7_isFree_6 : decode cX7_isFree 6 = .ok (.getfield 23, 3) := by decide +kernel
theorem dX7_isFree_9 : decode cX7_isFree 9 = .ok (.aload_n 0, 1) := by decide +kernel
theorem dX7_isFree_10 : decode cX7_isFree 10 = .ok (.iload_n 1, 1) := by decide +kernel
theorem dX7_isFree_11 : decode cX7_isFree 11 = .ok (.iload_n 2, 1) := by decide +kernel
theorem dX7_isFree_12 : decode cX7_isFree 12 = .ok (.iload_n 3, 1) := by decide +kernel
theorem dX7_isFree_13 : decode cX7_isFree 13 = .ok (.invokevirtual 207, 3) := by decide +kernel
theorem dX7_isFree_16 : decode cX7_isFree 16 = .ok (.baload, 1) := by decide +kernel
theorem dX7_isFree_17 : decode cX7_isFree 17 = .ok (.ifCond .ne 7, 3) := by decide +kernel
theorem dX7_isFree_20 : decode cX7_isFree 20 = .ok (.iconst 1, 1) := by decide +kernel
theorem dX7_isFree_21 : decode cX7_isFree 21 = .ok (.goto 4, 3) := by decide +kernel
theorem dX7_isFree_24 : decode cX7_isFree 24 = .ok (.iconst 0, 1) := by decide +kernel
theorem dX7_isFree_25 : decode cX7_isFree 25 = .ok (.ireturn, 1) := by decide +kernel
theorem dX7_lengthOf_0 : decode cX7_lengthOf 0 = .ok (.iload_n 1, 1) := by decide +kernel
theorem dX7_lengthOf_1 : decode cX7_lengthOf 1 = .ok (.iconst 1, 1) := by decide +kernel
theorem dX7_lengthOf_2 : decode cX7_lengthOf 2 = .ok (.if_icmp .eq 7, 3) := by decide +kernel
theorem dX7_lengthOf_5 : decode cX7_lengthOf 5 = .ok (.iload_n 2, 1) := by decide +kernel
theorem dX7_lengthOf_6 : decode cX7_lengthOf 6 = .ok (.ifCond .ne 8, 3) := by decide +kernel
theorem dX7_lengthOf_9 : decode cX7_lengthOf 9 = .ok (.bipush 10, 2) := by decide +kernel
theorem dX7_lengthOf_11 : decode cX7_lengthOf 11 = .ok (.goto 10, 3) := by decide +kernel
theorem dX7_lengthOf_14 : decode cX7_lengthOf 14 = .ok (.bipush 10, 2) := by decide +kernel
theorem dX7_lengthOf_16 : decode cX7_lengthOf 16 = .ok (.aload_n 0, 1) := by decide +kernel
theorem dX7_lengthOf_17 : decode cX7_lengthOf 17 = .ok (.getfield 77, 3) := by decide +kernel
theorem dX7_lengthOf_20 : decode cX7_lengthOf 20 = .ok (.iadd, 1) := by decide +kernel
theorem dX7_lengthOf_21 : decode cX7_lengthOf 21 = .ok (.ireturn, 1) := by decide +kernel
set_option maxRecDepth 20000 in
theorem ggX7_clears_X7_cell : GoodIn wsX7_clears wsX7_cell := goodIn_r _ [10] (by decide +kernel) (by decide +kernel)
set_option maxRecDepth 20000 in
theorem gX7_clears_X7_cell : GoodIn wsX7_clears (va_wsS RX7 170 yX7_cell wsX7_cell) := goodIn_app (goodIn_of _ (by decide +kernel)) ggX7_clears_X7_cell
theorem dX7_clears_0 : decode cX7_clears 0 = .ok (.iconst 0, 1) := by decide +kernel
theorem dX7_clears_1 : decode cX7_clears 1 = .ok (.istore_n 1, 1) := by decide +kernel
theorem dX7_clears_2 : decode cX7_clears 2 = .ok (.iload_n 1, 1) := by decide +kernel
theorem dX7_clears_3 : decode cX7_clears 3 = .ok (.sipush 240, 3) := by decide +kernel
theorem dX7_clears_6 : decode cX7_clears 6 = .ok (.if_icmp .ge 23, 3) := by decide +kernel
theorem dX7_clears_9 : decode cX7_clears 9 = .ok (.aload_n 0, 1) := by decide +kernel
theorem dX7_clears_10 : decode cX7_clears 10 = .ok (.getfield 40, 3) := by decide +kernel
theorem dX7_clears_13 : decode cX7_clears 13 = .ok (.iload_n 1, 1) := by decide +kernel
theorem dX7_clears_14 : decode cX7_clears 14 = .ok (.iconst (-1), 1) := by decide +kernel
theorem dX7_clears_15 : decode cX7_clears 15 = .ok (.iastore, 1) := by decide +kernel
theorem dX7_clears_16 : decode cX7_clears 16 = .ok (.aload_n 0, 1) := by decide +kernel
theorem dX7_clears_17 : decode cX7_clears 17 = .ok (.getfield 43, 3) := by decide +kernel
theorem dX7_clears_20 : decode cX7_clears 20 = .ok (.iload_n 1, 1) := by decide +kernel
theorem dX7_clears_21 : decode cX7_clears 21 = .ok (.iconst 0, 1) := by decide +kernel
theorem dX7_clears_22 : decode cX7_clears 22 = .ok (.iastore, 1) := by decide +kernel
theorem dX7_clears_23 : decode cX7_clears 23 = .ok (.iinc 1 1, 3) := by decide +kernel
theorem dX7_clears_26 : decode cX7_clears 26 = .ok (.goto (-24), 3) := by decide +kernel
theorem dX7_clears_29 : decode cX7_clears 29 = .ok (.iconst 0, 1) := by decide +kernel
theorem dX7_clears_30 : decode cX7_clears 30 = .ok (.istore_n 1, 1) := by decide +kernel
theorem dX7_clears_31 : decode cX7_clears 31 = .ok (.iload_n 1, 1) := by decide +kernel
theorem dX7_clears_32 : decode cX7_clears 32 = .ok (.aload_n 0, 1) := by decide +kernel
theorem dX7_clears_33 : decode cX7_clears 33 = .ok (.getfield 89, 3) := by decide +kernel
theorem dX7_clears_36 : decode cX7_clears 36 = .ok (.if_icmp .ge 35, 3) := by decide +kernel
theorem dX7_clears_39 : decode cX7_clears 39 = .ok (.aload_n 0, 1) := by decide +kernel
theorem dX7_clears_40 : decode cX7_clears 40 = .ok (.getfield 43, 3) := by decide +kernel
theorem dX7_clears_43 : decode cX7_clears 43 = .ok (.aload_n 0, 1) := by decide +kernel
theorem dX7_clears_44 : decode cX7_clears 44 = .ok (.getfield 13, 3) := by decide +kernel
theorem dX7_clears_47 : decode cX7_clears 47 = .ok (.iload_n 1, 1) := by decide +kernel
theorem dX7_clears_48 : decode cX7_clears 48 = .ok (.iaload, 1) := by decide +kernel
theorem dX7_clears_49 : decode cX7_clears 49 = .ok (.aload_n 0, 1) := by decide +kernel
theorem dX7_clears_50 : decode cX7_clears 50 = .ok (.getfield 17, 3) := by decide +kernel
theorem dX7_clears_53 : decode cX7_clears 53 = .ok (.iload_n 1, 1) := by decide +kernel
theorem dX7_clears_54 : decode cX7_clears 54 = .ok (.iaload, 1) := by decide +kernel
theorem dX7_clears_55 : decode cX7_clears 55 = .ok (.invokestatic 170, 3) := by decide +kernel
theorem dX7_clears_58 : decode cX7_clears 58 = .ok (.aload_n 0, 1) := by decide +kernel
theorem dX7_clears_59 : decode cX7_clears 59 = .ok (.getfield 20, 3) := by decide +kernel
theorem dX7_clears_62 : decode cX7_clears 62 = .ok (.iload_n 1, 1) := by decide +kernel
theorem dX7_clears_63 : decode cX7_clears 63 = .ok (.iaload, 1) := by decide +kernel
theorem dX7_clears_64 : decode cX7_clears 64 = .ok (.iastore, 1) := by decide +kernel
theorem dX7_clears_65 : decode cX7_clears 65 = .ok (.iinc 1 1, 3) := by decide +kernel
theorem dX7_clears_68 : decode cX7_clears 68 = .ok (.goto (-37), 3) := by decide +kernel
theorem dX7_clears_71 : decode cX7_clears 71 = .ok (.return_, 1) := by decide +kernel
set_option maxRecDepth 20000 in
theorem ggX7_steps_X7_cell : GoodIn wsX7_steps wsX7_cell := goodIn_r _ [6] (by decide +kernel) (by decide +kernel)
set_option maxRecDepth 20000 in
theorem gX7_steps_X7_cell : GoodIn wsX7_steps (va_wsS RX7 170 yX7_cell wsX7_cell) := goodIn_app (goodIn_of _ (by decide +kernel)) ggX7_steps_X7_cell
set_option maxRecDepth 20000 in
theorem ggX7_steps_X7_target : GoodIn wsX7_steps wsX7_target := goodIn_r _ [10, 11, 12, 13, 5, 14, 15, 16, 17, 18, 19, 3, 4, 6, 20, 21, 22, 23, 24, 25, 26, 27, 28, 29, 30, 31, 32, 33, 34, 35, 36, 37, 38, 39, 40, 41, 42, 43, 44, 45, 46, 47, 48, 49, 50, 51, 52, 53, 54] (by decide +kernel) (by decide +kernel)
set_option maxRecDepth 20000 in
theorem gX7_steps_X7_target : GoodIn wsX7_steps (wsV RX7 207 RX7 yX7_target wsX7_target) := goodIn_app (goodIn_of _ (by decide +kernel)) ggX7_steps_X7_target
theorem dX7_steps_0 : decode cX7_steps 0 = .ok (.aload_n 0, 1) := by decide +kernel
theorem dX7_steps_1 : decode cX7_steps 1 = .ok (.getfield 40, 3) := by decide +kernel
theorem dX7_steps_4 : decode cX7_steps 4 = .ok (.iload_n 1, 1) := by decide +kernel
theorem dX7_steps_5 : decode cX7_steps 5 = .ok (.iload_n 2, 1) := by decide +kernel
theorem dX7_steps_6 : decode cX7_steps 6 = .ok (.invokestatic 170, 3) := by decide +kernel
theorem dX7_steps_9 : decode cX7_steps 9 = .ok (.iload_n 3, 1) := by decide +kernel
theorem dX7_steps_10 : decode cX7_steps 10 = .ok (.iastore, 1) := by decide +kernel
theorem dX7_steps_11 : decode cX7_steps 11 = .ok (.aload_n 0, 1) := by decide +kernel
theorem dX7_steps_12 : decode cX7_steps 12 = .ok (.getfield 43, 3) := by decide +kernel
theorem dX7_steps_15 : decode cX7_steps 15 = .ok (.aload_n 0, 1) := by decide +kernel
theorem dX7_steps_16 : decode cX7_steps 16 = .ok (.iload_n 1, 1) := by decide +kernel
theorem dX7_steps_17 : decode cX7_steps 17 = .ok (.iload_n 2, 1) := by decide +kernel
theorem dX7_steps_18 : decode cX7_steps 18 = .ok (.iload_n 3, 1) := by decide +kernel
theorem dX7_steps_19 : decode cX7_steps 19 = .ok (.invokevirtual 207, 3) := by decide +kernel
theorem dX7_steps_22 : decode cX7_steps 22 = .ok (.dup2, 1) := by decide +kernel
theorem dX7_steps_23 : decode cX7_steps 23 = .ok (.iaload, 1) := by decide +kernel
theorem dX7_steps_24 : decode cX7_steps 24 = .ok (.aload_n 0, 1) := by decide +kernel
theorem dX7_steps_25 : decode cX7_steps 25 = .ok (.getfield 43, 3) := by decide +kernel
theorem dX7_steps_28 : decode cX7_steps 28 = .ok (.iload_n 1, 1) := by decide +kernel
theorem dX7_steps_29 : decode cX7_steps 29 = .ok (.iload_n 2, 1) := by decide +kernel
theorem dX7_steps_30 : decode cX7_steps 30 = .ok (.invokestatic 170, 3) := by decide +kernel
theorem dX7_steps_33 : decode cX7_steps 33 = .ok (.iaload, 1) := by decide +kernel
theorem dX7_steps_34 : decode cX7_steps 34 = .ok (.iadd, 1) := by decide +kernel
theorem dX7_steps_35 : decode cX7_steps 35 = .ok (.iastore, 1) := by decide +kernel
theorem dX7_steps_36 : decode cX7_steps 36 = .ok (.return_, 1) := by decide +kernel
set_option maxRecDepth 20000 in
theorem ggX7_laysStraight_X7_cell : GoodIn wsX7_laysStraight wsX7_cell := goodIn_r _ [7] (by decide +kernel) (by decide +kernel)
set_option maxRecDepth 20000 in
theorem gX7_laysStraight_X7_cell : GoodIn wsX7_laysStraight (va_wsS RX7 170 yX7_cell wsX7_cell) := goodIn_app (goodIn_of _ (by decide +kernel)) ggX7_laysStraight_X7_cell
set_option maxRecDepth 20000 in
theorem ggX7_laysStraight_X7_isFree : GoodIn wsX7_laysStraight wsX7_isFree := goodIn_r _ [11, 12, 13, 14, 15, 6, 16, 17, 18, 19, 20, 21, 22, 23, 24, 2, 4, 5, 7, 30, 31, 32, 33, 34, 35, 36, 37, 38, 39, 40, 41, 42, 43, 44, 45, 46, 47, 48, 49, 50, 51, 52, 53, 54, 55, 56, 57, 58, 59, 60, 61, 62, 63, 64] (by decide +kernel) (by decide +kernel)
set_option maxRecDepth 20000 in
theorem gX7_laysStraight_X7_isFree : GoodIn wsX7_laysStraight (wsV RX7 210 RX7 yX7_isFree wsX7_isFree) := goodIn_app (goodIn_of _ (by decide +kernel)) ggX7_laysStraight_X7_isFree
set_option maxRecDepth 20000 in
theorem ggX7_laysStraight_X7_steps : GoodIn wsX7_laysStraight wsX7_steps := goodIn_r _ [28, 29, 3, 4, 5, 6, 7, 13, 14, 15, 16, 17, 18, 19, 20, 21, 22, 23, 24, 2, 30, 31, 32, 33, 34, 35, 36, 37, 38, 39, 40, 41, 42, 43, 44, 45, 46, 47, 48, 49, 50, 51, 52, 53, 54, 55, 56, 57, 58, 59, 60, 61, 62, 63, 64] (by decide +kernel) (by decide +kernel)
set_option maxRecDepth 20000 in
theorem gX7_laysStraight_X7_steps : GoodIn wsX7_laysStraight (wsV RX7 213 RX7 yX7_steps wsX7_steps) := goodIn_app (goodIn_of _ (by decide +kernel)) ggX7_laysStraight_X7_steps
theorem dX7_laysStraight_0 : decode cX7_laysStraight 0 = .ok (.aload_n 0, 1) := by decide +kernel
theorem dX7_laysStraight_1 : decode cX7_laysStraight 1 = .ok (.getfield 83, 3) := by decide +kernel
theorem dX7_laysStraight_4 : decode cX7_laysStraight 4 = .ok (.istore_n 1, 1) := by decide +kernel
theorem dX7_laysStraight_5 : decode cX7_laysStraight 5 = .ok (.iload_n 1, 1) := by decide +kernel
theorem dX7_laysStraight_6 : decode cX7_laysStraight 6 = .ok (.ifCond .le 57, 3) := by decide +kernel
theorem dX7_laysStraight_9 : decode cX7_laysStraight 9 = .ok (.iconst 0, 1) := by decide +kernel
theorem dX7_laysStraight_10 : decode cX7_laysStraight 10 = .ok (.istore_n 2, 1) := by decide +kernel
theorem dX7_laysStraight_11 : decode cX7_laysStraight 11 = .ok (.iload_n 2, 1) := by decide +kernel
theorem dX7_laysStraight_12 : decode cX7_laysStraight 12 = .ok (.aload_n 0, 1) := by decide +kernel
theorem dX7_laysStraight_13 : decode cX7_laysStraight 13 = .ok (.getfield 86, 3) := by decide +kernel
theorem dX7_laysStraight_16 : decode cX7_laysStraight 16 = .ok (.if_icmp .ge 41, 3) := by decide +kernel
theorem dX7_laysStraight_19 : decode cX7_laysStraight 19 = .ok (.aload_n 0, 1) := by decide +kernel
theorem dX7_laysStraight_20 : decode cX7_laysStraight 20 = .ok (.getfield 43, 3) := by decide +kernel
theorem dX7_laysStraight_23 : decode cX7_laysStraight 23 = .ok (.iload_n 1, 1) := by decide +kernel
theorem dX7_laysStraight_24 : decode cX7_laysStraight 24 = .ok (.iload_n 2, 1) := by decide +kernel
theorem dX7_laysStraight_25 : decode cX7_laysStraight 25 = .ok (.invokestatic 170, 3) := by decide +kernel
theorem dX7_laysStraight_28 : decode cX7_laysStraight 28 = .ok (.iaload, 1) := by decide +kernel
theorem dX7_laysStraight_29 : decode cX7_laysStraight 29 = .ok (.ifCond .le 22, 3) := by decide +kernel
theorem dX7_laysStraight_32 : decode cX7_laysStraight 32 = .ok (.aload_n 0, 1) := by decide +kernel
theorem dX7_laysStraight_33 : decode cX7_laysStraight 33 = .ok (.iload_n 1, 1) := by decide +kernel
theorem dX7_laysStraight_34 : decode cX7_laysStraight 34 = .ok (.iload_n 2, 1) := by decide +kernel
theorem dX7_laysStraight_35 : decode cX7_laysStraight 35 = .ok (.iconst 0, 1) := by decide +kernel
theorem dX7_laysStraight_36 : decode cX7_laysStraight 36 = .ok (.invokevirtual 210, 3) := by decide +kernel
theorem dX7_laysStraight_39 : decode cX7_laysStraight 39 = .ok (.ifCond .ne 5, 3) := by decide +kernel
theorem dX7_laysStraight_42 : decode cX7_laysStraight 42 = .ok (.iconst 0, 1) := by decide +kernel
theorem dX7_laysStraight_43 : decode cX7_laysStraight 43 = .ok (.ireturn, 1) := by decide +kernel
theorem dX7_laysStraight_44 : decode cX7_laysStraight 44 = .ok (.aload_n 0, 1) := by decide +kernel
theorem dX7_laysStraight_45 : decode cX7_laysStraight 45 = .ok (.iload_n 1, 1) := by decide +kernel
theorem dX7_laysStraight_46 : decode cX7_laysStraight 46 = .ok (.iload_n 2, 1) := by decide +kernel
theorem dX7_laysStraight_47 : decode cX7_laysStraight 47 = .ok (.iconst 0, 1) := by decide +kernel
theorem dX7_laysStraight_48 : decode cX7_laysStraight 48 = .ok (.invokevirtual 213, 3) := by decide +kernel
theorem dX7_laysStraight_51 : decode cX7_laysStraight 51 = .ok (.iinc 2 1, 3) := by decide +kernel
theorem dX7_laysStraight_54 : decode cX7_laysStraight 54 = .ok (.goto (-43), 3) := by decide +kernel
theorem dX7_laysStraight_57 : decode cX7_laysStraight 57 = .ok (.iinc 1 (-1), 3) := by decide +kernel
theorem dX7_laysStraight_60 : decode cX7_laysStraight 60 = .ok (.goto (-55), 3) := by decide +kernel
theorem dX7_laysStraight_63 : decode cX7_laysStraight 63 = .ok (.iconst 1, 1) := by decide +kernel
theorem dX7_laysStraight_64 : decode cX7_laysStraight 64 = .ok (.ireturn, 1) := by decide +kernel
set_option maxRecDepth 20000 in
theorem ggX7_wants_X7_around : GoodIn wsX7_wants wsX7_around := goodIn_r _ [8, 1, 15, 16, 17, 18, 19, 20, 21, 22, 23, 24, 25, 26, 27, 28, 29, 30, 31, 32, 33, 34, 35, 36, 37, 38, 39, 40, 41, 42, 43, 44, 45, 46, 47, 48, 49] (by decide +kernel) (by decide +kernel)
set_option maxRecDepth 20000 in
theorem gX7_wants_X7_around : GoodIn wsX7_wants (wsV RX7 200 RX7 yX7_around wsX7_around) := goodIn_app (goodIn_of _ (by decide +kernel)) ggX7_wants_X7_around
set_option maxRecDepth 20000 in
theorem ggX7_wants_X7_cell : GoodIn wsX7_wants wsX7_cell := goodIn_r _ [11] (by decide +kernel) (by decide +kernel)
set_option maxRecDepth 20000 in
theorem gX7_wants_X7_cell : GoodIn wsX7_wants (va_wsS RX7 170 yX7_cell wsX7_cell) := goodIn_app (goodIn_of _ (by decide +kernel)) ggX7_wants_X7_cell
set_option maxRecDepth 20000 in
theorem ggX7_wants_X7_wantsBeside : GoodIn wsX7_wants wsX7_wantsBeside := goodIn_r _ [14] (by decide +kernel) (by decide +kernel)
set_option maxRecDepth 20000 in
theorem gX7_wants_X7_wantsBeside : GoodIn wsX7_wants (va_wsS RX7 216 yX7_wantsBeside wsX7_wantsBeside) := goodIn_app (goodIn_of _ (by decide +kernel)) ggX7_wants_X7_wantsBeside
theorem dX7_wants_0 : decode cX7_wants 0 = .ok (.iconst 1, 1) := by decide +kernel
theorem dX7_wants_1 : decode cX7_wants 1 = .ok (.istore_n 3, 1) := by decide +kernel
theorem dX7_wants_2 : decode cX7_wants 2 = .ok (.iload_n 3, 1) := by decide +kernel
theorem dX7_wants_3 : decode cX7_wants 3 = .ok (.aload_n 0, 1) := by decide +kernel
theorem dX7_wants_4 : decode cX7_wants 4 = .ok (.getfield 86, 3) := by decide +kernel
theorem dX7_wants_7 : decode cX7_wants 7 = .ok (.if_icmp .ge 113, 3) := by decide +kernel
theorem dX7_wants_10 : decode cX7_wants 10 = .ok (.iconst 2, 1) := by decide +kernel
theorem dX7_wants_11 : decode cX7_wants 11 = .ok (.istore 4, 2) := by decide +kernel
theorem dX7_wants_13 : decode cX7_wants 13 = .ok (.iload 4, 2) := by decide +kernel
theorem dX7_wants_15 : decode cX7_wants 15 = .ok (.iconst 1, 1) := by decide +kernel
theorem dX7_wants_16 : decode cX7_wants 16 = .ok (.if_icmp .lt 98, 3) := by decide +kernel
theorem dX7_wants_19 : decode cX7_wants 19 = .ok (.iload_n 1, 1) := by decide +kernel
theorem dX7_wants_20 : decode cX7_wants 20 = .ok (.aload_n 0, 1) := by decide +kernel
theorem dX7_wants_21 : decode cX7_wants 21 = .ok (.iload_n 2, 1) := by decide +kernel
theorem dX7_wants_22 : decode cX7_wants 22 = .ok (.iload 4, 2) := by decide +kernel
theorem dX7_wants_24 : decode cX7_wants 24 = .ok (.iconst 2, 1) := by decide +kernel
theorem dX7_wants_25 : decode cX7_wants 25 = .ok (.if_icmp .ne 7, 3) := by decide +kernel
theorem dX7_wants_28 : decode cX7_wants 28 = .ok (.iload_n 3, 1) := by decide +kernel
theorem dX7_wants_29 : decode cX7_wants 29 = .ok (.goto 5, 3) := by decide +kernel
theorem dX7_wants_32 : decode cX7_wants 32 = .ok (.iload_n 3, 1) := by decide +kernel
theorem dX7_wants_33 : decode cX7_wants 33 = .ok (.ineg, 1) := by decide +kernel
theorem dX7_wants_34 : decode cX7_wants 34 = .ok (.iadd, 1) := by decide +kernel
theorem dX7_wants_35 : decode cX7_wants 35 = .ok (.invokevirtual 200, 3) := by decide +kernel
theorem dX7_wants_38 : decode cX7_wants 38 = .ok (.invokestatic 170, 3) := by decide +kernel
theorem dX7_wants_41 : decode cX7_wants 41 = .ok (.istore 5, 2) := by decide +kernel
theorem dX7_wants_43 : decode cX7_wants 43 = .ok (.iconst 2, 1) := by decide +kernel
theorem dX7_wants_44 : decode cX7_wants 44 = .ok (.iload_n 3, 1) := by decide +kernel
theorem dX7_wants_45 : decode cX7_wants 45 = .ok (.imul, 1) := by decide +kernel
theorem dX7_wants_46 : decode cX7_wants 46 = .ok (.aload_n 0, 1) := by decide +kernel
theorem dX7_wants_47 : decode cX7_wants 47 = .ok (.getfield 86, 3) := by decide +kernel
theorem dX7_wants_50 : decode cX7_wants 50 = .ok (.if_icmp .gt 58, 3) := by decide +kernel
theorem dX7_wants_53 : decode cX7_wants 53 = .ok (.aload_n 0, 1) := by decide +kernel
theorem dX7_wants_54 : decode cX7_wants 54 = .ok (.getfield 43, 3) := by decide +kernel
theorem dX7_wants_57 : decode cX7_wants 57 = .ok (.iload 5, 2) := by decide +kernel
theorem dX7_wants_59 : decode cX7_wants 59 = .ok (.iaload, 1) := by decide +kernel
theorem dX7_wants_60 : decode cX7_wants 60 = .ok (.ifCond .le 48, 3) := by decide +kernel
theorem dX7_wants_63 : decode cX7_wants 63 = .ok (.iload_n 3, 1) := by decide +kernel
theorem dX7_wants_64 : decode cX7_wants 64 = .ok (.aload_n 0, 1) := by decide +kernel
theorem dX7_wants_65 : decode cX7_wants 65 = .ok (.getfield 80, 3) := by decide +kernel
theorem dX7_wants_68 : decode cX7_wants 68 = .ok (.if_icmp .le 7, 3) := by decide +kernel
theorem dX7_wants_71 : decode cX7_wants 71 = .ok (.iconst 0, 1) := by decide +kernel
theorem dX7_wants_72 : decode cX7_wants 72 = .ok (.goto 35, 3) := by decide +kernel
theorem dX7_wants_75 : decode cX7_wants 75 = .ok (.iload_n 3, 1) := by decide +kernel
theorem dX7_wants_76 : decode cX7_wants 76 = .ok (.iconst 1, 1) := by decide +kernel
theorem dX7_wants_77 : decode cX7_wants 77 = .ok (.if_icmp .le 8, 3) := by decide +kernel
theorem dX7_wants_80 : decode cX7_wants 80 = .ok (.iload 4, 2) := by decide +kernel
theorem dX7_wants_82 : decode cX7_wants 82 = .ok (.goto 25, 3) := by decide +kernel
theorem dX7_wants_85 : decode cX7_wants 85 = .ok (.aload_n 0, 1) := by decide +kernel
theorem dX7_wants_86 : decode cX7_wants 86 = .ok (.getfield 43, 3) := by decide +kernel
theorem dX7_wants_89 : decode cX7_wants 89 = .ok (.iload_n 1, 1) := by decide +kernel
theorem dX7_wants_90 : decode cX7_wants 90 = .ok (.iload_n 2, 1) := by decide +kernel
theorem dX7_wants_91 : decode cX7_wants 91 = .ok (.invokestatic 170, 3) := by decide +kernel
theorem dX7_wants_94 : decode cX7_wants 94 = .ok (.iaload, 1) := by decide +kernel
theorem dX7_wants_95 : decode cX7_wants 95 = .ok (.aload_n 0, 1) := by decide +kernel
theorem dX7_wants_96 : decode cX7_wants 96 = .ok (.getfield 43, 3) := by decide +kernel
theorem dX7_wants_99 : decode cX7_wants 99 = .ok (.iload 5, 2) := by decide +kernel
theorem dX7_wants_101 : decode cX7_wants 101 = .ok (.iaload, 1) := by decide +kernel
theorem dX7_wants_102 : decode cX7_wants 102 = .ok (.iload 4, 2) := by decide +kernel
theorem dX7_wants_104 : decode cX7_wants 104 = .ok (.invokestatic 216, 3) := by decide +kernel
theorem dX7_wants_107 : decode cX7_wants 107 = .ok (.ireturn, 1) := by decide +kernel
theorem dX7_wants_108 : decode cX7_wants 108 = .ok (.iinc 4 (-1), 3) := by decide +kernel
theorem dX7_wants_111 : decode cX7_wants 111 = .ok (.goto (-98), 3) := by decide +kernel
theorem dX7_wants_114 : decode cX7_wants 114 = .ok (.iinc 3 1, 3) := by decide +kernel
theorem dX7_wants_117 : decode cX7_wants 117 = .ok (.goto (-115), 3) := by decide +kernel
theorem dX7_wants_120 : decode cX7_wants 120 = .ok (.iconst 0, 1) := by decide +kernel
theorem dX7_wants_121 : decode cX7_wants 121 = .ok (.ireturn, 1) := by decide +kernel
theorem dX7_wantsBeside_0 : decode cX7_wantsBeside 0 = .ok (.iload_n 0, 1) := by decide +kernel
theorem dX7_wantsBeside_1 : decode cX7_wantsBeside 1 = .ok (.iload_n 1, 1) := by decide +kernel
theorem dX7_wantsBeside_2 : decode cX7_wantsBeside 2 = .ok (.if_icmp .lt 13, 3) := by decide +kernel
theorem dX7_wantsBeside_5 : decode cX7_wantsBeside 5 = .ok (.iload_n 0, 1) := by decide +kernel
theorem dX7_wantsBeside_6 : decode cX7_wantsBeside 6 = .ok (.iload_n 1, 1) := by decide +kernel
theorem dX7_wantsBeside_7 : decode cX7_wantsBeside 7 = .ok (.if_icmp .ne 12, 3) := by decide +kernel
theorem dX7_wantsBeside_10 : decode cX7_wantsBeside 10 = .ok (.iload_n 2, 1) := by decide +kernel
theorem dX7_wantsBeside_11 : decode cX7_wantsBeside 11 = .ok (.iconst 2, 1) := by decide +kernel
theorem dX7_wantsBeside_12 : decode cX7_wantsBeside 12 = .ok (.if_icmp .ne 7, 3) := by decide +kernel
theorem dX7_wantsBeside_15 : decode cX7_wantsBeside 15 = .ok (.iload_n 2, 1) := by decide +kernel
theorem dX7_wantsBeside_16 : decode cX7_wantsBeside 16 = .ok (.goto 4, 3) := by decide +kernel
theorem dX7_wantsBeside_19 : decode cX7_wantsBeside 19 = .ok (.iconst 0, 1) := by decide +kernel
theorem dX7_wantsBeside_20 : decode cX7_wantsBeside 20 = .ok (.ireturn, 1) := by decide +kernel
set_option maxRecDepth 20000 in
theorem ggX7_goesBy_X7_isFree : GoodIn wsX7_goesBy wsX7_isFree := goodIn_r _ [5, 6, 7, 8, 9, 4, 10, 11, 12, 13, 14, 15, 16, 17, 18, 19, 20, 21, 22, 23, 24, 25, 26, 27, 28, 29, 30, 31, 32, 33, 34, 35, 36, 37, 38, 39, 40, 41, 42, 43, 44, 45, 46, 47, 48, 49, 50, 51, 52, 53, 54, 55, 56, 57] (by decide +kernel) (by decide +kernel)
set_option maxRecDepth 20000 in
theorem gX7_goesBy_X7_isFree : GoodIn wsX7_goesBy (wsV RX7 210 RX7 yX7_isFree wsX7_isFree) := goodIn_app (goodIn_of _ (by decide +kernel)) ggX7_goesBy_X7_isFree
theorem dX7_goesBy_0 : decode cX7_goesBy 0 = .ok (.aload_n 0, 1) := by decide +kernel
theorem dX7_goesBy_1 : decode cX7_goesBy 1 = .ok (.iload_n 1, 1) := by decide +kernel
theorem dX7_goesBy_2 : decode cX7_goesBy 2 = .ok (.iload_n 2, 1) := by decide +kernel
theorem dX7_goesBy_3 : decode cX7_goesBy 3 = .ok (.iload_n 3, 1) := by decide +kernel
theorem dX7_goesBy_4 : decode cX7_goesBy 4 = .ok (.invokevirtual 210, 3) := by decide +kernel
theorem dX7_goesBy_7 : decode cX7_goesBy 7 = .ok (.ifCond .eq 5, 3) := by decide +kernel
theorem dX7_goesBy_10 : decode cX7_goesBy 10 = .ok (.iload_n 3, 1) := by decide +kernel
theorem dX7_goesBy_11 : decode cX7_goesBy 11 = .ok (.ireturn, 1) := by decide +kernel
theorem dX7_goesBy_12 : decode cX7_goesBy 12 = .ok (.iconst 0, 1) := by decide +kernel
theorem dX7_goesBy_13 : decode cX7_goesBy 13 = .ok (.istore 4, 2) := by decide +kernel
theorem dX7_goesBy_15 : decode cX7_goesBy 15 = .ok (.iload 4, 2) := by decide +kernel
theorem dX7_goesBy_17 : decode cX7_goesBy 17 = .ok (.iconst 2, 1) := by decide +kernel
theorem dX7_goesBy_18 : decode cX7_goesBy 18 = .ok (.if_icmp .gt 23, 3) := by decide +kernel
theorem dX7_goesBy_21 : decode cX7_goesBy 21 = .ok (.aload_n 0, 1) := by decide +kernel
theorem dX7_goesBy_22 : decode cX7_goesBy 22 = .ok (.iload_n 1, 1) := by decide +kernel
theorem dX7_goesBy_23 : decode cX7_goesBy 23 = .ok (.iload_n 2, 1) := by decide +kernel
theorem dX7_goesBy_24 : decode cX7_goesBy 24 = .ok (.iload 4, 2) := by decide +kernel
theorem dX7_goesBy_26 : decode cX7_goesBy 26 = .ok (.invokevirtual 210, 3) := by decide +kernel
theorem dX7_goesBy_29 : decode cX7_goesBy 29 = .ok (.ifCond .eq 6, 3) := by decide +kernel
theorem dX7_goesBy_32 : decode cX7_goesBy 32 = .ok (.iload 4, 2) := by decide +kernel
theorem dX7_goesBy_34 : decode cX7_goesBy 34 = .ok (.ireturn, 1) := by decide +kernel
theorem dX7_goesBy_35 : decode cX7_goesBy 35 = .ok (.iinc 4 1, 3) := by decide +kernel
theorem dX7_goesBy_38 : decode cX7_goesBy 38 = .ok (.goto (-23), 3) := by decide +kernel
theorem dX7_goesBy_41 : decode cX7_goesBy 41 = .ok (.iconst (-1), 1) := by decide +kernel
theorem dX7_goesBy_42 : decode cX7_goesBy 42 = .ok (.ireturn, 1) := by decide +kernel
set_option maxRecDepth 20000 in
theorem ggX7_laysLean_X7_cell : GoodIn wsX7_laysLean wsX7_cell := goodIn_r _ [7] (by decide +kernel) (by decide +kernel)
set_option maxRecDepth 20000 in
theorem gX7_laysLean_X7_cell : GoodIn wsX7_laysLean (va_wsS RX7 170 yX7_cell wsX7_cell) := goodIn_app (goodIn_of _ (by decide +kernel)) ggX7_laysLean_X7_cell
set_option maxRecDepth 20000 in
theorem ggX7_laysLean_X7_wants : GoodIn wsX7_laysLean wsX7_wants := goodIn_r _ [11, 2, 3, 12, 13, 14, 15, 6, 16, 4, 5, 7, 17, 18, 19, 42, 43, 44, 45, 46, 47, 48, 49, 50, 51, 52, 53, 54, 55, 56, 57, 58, 59, 60, 61, 62, 63, 64, 65, 66, 67, 68, 69, 70, 71, 72, 73, 74, 75, 76] (by decide +kernel) (by decide +kernel)
set_option maxRecDepth 20000 in
theorem gX7_laysLean_X7_wants : GoodIn wsX7_laysLean (wsV RX7 219 RX7 yX7_wants wsX7_wants) := goodIn_app (goodIn_of _ (by decide +kernel)) ggX7_laysLean_X7_wants
set_option maxRecDepth 20000 in
theorem ggX7_laysLean_X7_goesBy : GoodIn wsX7_laysLean wsX7_goesBy := goodIn_r _ [23, 24, 25, 26, 6, 27, 28, 29, 30, 31, 32, 33, 34, 35, 36, 13, 14, 15, 16, 2, 4, 5, 7, 42, 43, 44, 45, 46, 47, 48, 49, 50, 51, 52, 53, 54, 55, 56, 57, 58, 59, 60, 61, 62, 63, 64, 65, 66, 67, 68, 69, 70, 71, 72, 73, 74, 75, 76] (by decide +kernel) (by decide +kernel)
set_option maxRecDepth 20000 in
theorem gX7_laysLean_X7_goesBy : GoodIn wsX7_laysLean (wsV RX7 222 RX7 yX7_goesBy wsX7_goesBy) := goodIn_app (goodIn_of _ (by decide +kernel)) ggX7_laysLean_X7_goesBy
set_option maxRecDepth 20000 in
theorem ggX7_laysLean_X7_steps : GoodIn wsX7_laysLean wsX7_steps := goodIn_r _ [40, 41, 3, 4, 5, 6, 7, 29, 30, 31, 32, 33, 34, 35, 36, 13, 14, 15, 16, 2, 42, 43, 44, 45, 46, 47, 48, 49, 50, 51, 52, 53, 54, 55, 56, 57, 58, 59, 60, 61, 62, 63, 64, 65, 66, 67, 68, 69, 70, 71, 72, 73, 74, 75, 76] (by decide +kernel) (by decide +kernel)
set_option maxRecDepth 20000 in
theorem gX7_laysLean_X7_steps : GoodIn wsX7_laysLean (wsV RX7 213 RX7 yX7_steps wsX7_steps) := goodIn_app (goodIn_of _ (by decide +kernel)) ggX7_laysLean_X7_steps
theorem dX7_laysLean_0 : decode cX7_laysLean 0 = .ok (.aload_n 0, 1) := by decide +kernel
theorem dX7_laysLean_1 : decode cX7_laysLean 1 = .ok (.getfield 83, 3) := by decide +kernel
theorem dX7_laysLean_4 : decode cX7_laysLean 4 = .ok (.istore_n 1, 1) := by decide +kernel
theorem dX7_laysLean_5 : decode cX7_laysLean 5 = .ok (.iload_n 1, 1) := by decide +kernel
theorem dX7_laysLean_6 : decode cX7_laysLean 6 = .ok (.ifCond .le 73, 3) := by decide +kernel
theorem dX7_laysLean_9 : decode cX7_laysLean 9 = .ok (.iconst 0, 1) := by decide +kernel
theorem dX7_laysLean_10 : decode cX7_laysLean 10 = .ok (.istore_n 2, 1) := by decide +kernel
theorem dX7_laysLean_11 : decode cX7_laysLean 11 = .ok (.iload_n 2, 1) := by decide +kernel
theorem dX7_laysLean_12 : decode cX7_laysLean 12 = .ok (.aload_n 0, 1) := by decide +kernel
theorem dX7_laysLean_13 : decode cX7_laysLean 13 = .ok (.getfield 86, 3) := by decide +kernel
theorem dX7_laysLean_16 : decode cX7_laysLean 16 = .ok (.if_icmp .ge 57, 3) := by decide +kernel
theorem dX7_laysLean_19 : decode cX7_laysLean 19 = .ok (.aload_n 0, 1) := by decide +kernel
theorem dX7_laysLean_20 : decode cX7_laysLean 20 = .ok (.getfield 43, 3) := by decide +kernel
theorem dX7_laysLean_23 : decode cX7_laysLean 23 = .ok (.iload_n 1, 1) := by decide +kernel
theorem dX7_laysLean_24 : decode cX7_laysLean 24 = .ok (.iload_n 2, 1) := by decide +kernel
theorem dX7_laysLean_25 : decode cX7_laysLean 25 = .ok (.invokestatic 170, 3) := by decide +kernel
theorem dX7_laysLean_28 : decode cX7_laysLean 28 = .ok (.iaload, 1) := by decide +kernel
theorem dX7_laysLean_29 : decode cX7_laysLean 29 = .ok (.ifCond .le 38, 3) := by decide +kernel
theorem dX7_laysLean_32 : decode cX7_laysLean 32 = .ok (.iload_n 1, 1) := by decide +kernel
theorem dX7_laysLean_33 : decode cX7_laysLean 33 = .ok (.iconst 1, 1) := by decide +kernel
theorem dX7_laysLean_34 : decode cX7_laysLean 34 = .ok (.if_icmp .ne 7, 3) := by decide +kernel
theorem dX7_laysLean_37 : decode cX7_laysLean 37 = .ok (.iconst 0, 1) := by decide +kernel
theorem dX7_laysLean_38 : decode cX7_laysLean 38 = .ok (.goto 15, 3) := by decide +kernel
theorem dX7_laysLean_41 : decode cX7_laysLean 41 = .ok (.aload_n 0, 1) := by decide +kernel
theorem dX7_laysLean_42 : decode cX7_laysLean 42 = .ok (.iload_n 1, 1) := by decide +kernel
theorem dX7_laysLean_43 : decode cX7_laysLean 43 = .ok (.iload_n 2, 1) := by decide +kernel
theorem dX7_laysLean_44 : decode cX7_laysLean 44 = .ok (.aload_n 0, 1) := by decide +kernel
theorem dX7_laysLean_45 : decode cX7_laysLean 45 = .ok (.iload_n 1, 1) := by decide +kernel
theorem dX7_laysLean_46 : decode cX7_laysLean 46 = .ok (.iload_n 2, 1) := by decide +kernel
theorem dX7_laysLean_47 : decode cX7_laysLean 47 = .ok (.invokevirtual 219, 3) := by decide +kernel
theorem dX7_laysLean_50 : decode cX7_laysLean 50 = .ok (.invokevirtual 222, 3) := by decide +kernel
theorem dX7_laysLean_53 : decode cX7_laysLean 53 = .ok (.istore_n 3, 1) := by decide +kernel
theorem dX7_laysLean_54 : decode cX7_laysLean 54 = .ok (.iload_n 3, 1) := by decide +kernel
theorem dX7_laysLean_55 : decode cX7_laysLean 55 = .ok (.ifCond .ge 5, 3) := by decide +kernel
theorem dX7_laysLean_58 : decode cX7_laysLean 58 = .ok (.iconst 0, 1) := by decide +kernel
theorem dX7_laysLean_59 : decode cX7_laysLean 59 = .ok (.ireturn, 1) := by decide +kernel
theorem dX7_laysLean_60 : decode cX7_laysLean 60 = .ok (.aload_n 0, 1) := by decide +kernel
theorem dX7_laysLean_61 : decode cX7_laysLean 61 = .ok (.iload_n 1, 1) := by decide +kernel
theorem dX7_laysLean_62 : decode cX7_laysLean 62 = .ok (.iload_n 2, 1) := by decide +kernel
theorem dX7_laysLean_63 : decode cX7_laysLean 63 = .ok (.iload_n 3, 1) := by decide +kernel
theorem dX7_laysLean_64 : decode cX7_laysLean 64 = .ok (.invokevirtual 213, 3) := by decide +kernel
theorem dX7_laysLean_67 : decode cX7_laysLean 67 = .ok (.iinc 2 1, 3) := by decide +kernel
theorem dX7_laysLean_70 : decode cX7_laysLean 70 = .ok (.goto (-59), 3) := by decide +kernel
theorem dX7_laysLean_73 : decode cX7_laysLean 73 = .ok (.iinc 1 (-1), 3) := by decide +kernel
theorem dX7_laysLean_76 : decode cX7_laysLean 76 = .ok (.goto (-71), 3) := by decide +kernel
theorem dX7_laysLean_79 : decode cX7_laysLean 79 = .ok (.iconst 1, 1) := by decide +kernel
theorem dX7_laysLean_80 : decode cX7_laysLean 80 = .ok (.ireturn, 1) := by decide +kernel
set_option maxRecDepth 20000 in
theorem ggX7_manyTo_X7_placeAt : GoodIn wsX7_manyTo wsX7_placeAt := goodIn_r _ [8, 9, 10, 11, 27, 28, 29, 30, 31, 32, 33, 34, 35, 36, 37, 38, 39, 40, 41, 42, 43, 44, 45, 46, 47, 48, 49, 50, 51, 52, 53, 54, 55, 56, 57, 58, 59, 60, 61] (by decide +kernel) (by decide +kernel)
set_option maxRecDepth 20000 in
theorem gX7_manyTo_X7_placeAt : GoodIn wsX7_manyTo (wsV RX7 100 RX7 yX7_placeAt wsX7_placeAt) := goodIn_app (goodIn_of _ (by decide +kernel)) ggX7_manyTo_X7_placeAt
set_option maxRecDepth 20000 in
theorem ggX7_manyTo_X7_cell : GoodIn wsX7_manyTo wsX7_cell := goodIn_r _ [14] (by decide +kernel) (by decide +kernel)
set_option maxRecDepth 20000 in
theorem gX7_manyTo_X7_cell : GoodIn wsX7_manyTo (va_wsS RX7 170 yX7_cell wsX7_cell) := goodIn_app (goodIn_of _ (by decide +kernel)) ggX7_manyTo_X7_cell
set_option maxRecDepth 20000 in
theorem ggX7_manyTo_X7_target : GoodIn wsX7_manyTo wsX7_target := goodIn_r _ [18, 19, 20, 21, 7, 22, 23, 24, 25, 26, 1, 12, 13, 14, 27, 28, 29, 30, 31, 32, 33, 34, 35, 36, 37, 38, 39, 40, 41, 42, 43, 44, 45, 46, 47, 48, 49, 50, 51, 52, 53, 54, 55, 56, 57, 58, 59, 60, 61] (by decide +kernel) (by decide +kernel)
set_option maxRecDepth 20000 in
theorem gX7_manyTo_X7_target : GoodIn wsX7_manyTo (wsV RX7 207 RX7 yX7_target wsX7_target) := goodIn_app (goodIn_of _ (by decide +kernel)) ggX7_manyTo_X7_target
theorem dX7_manyTo_0 : decode cX7_manyTo 0 = .ok (.iload_n 1, 1) := by decide +kernel
theorem dX7_manyTo_1 : decode cX7_manyTo 1 = .ok (.ifCond .le 16, 3) := by decide +kernel
theorem dX7_manyTo_4 : decode cX7_manyTo 4 = .ok (.aload_n 0, 1) := by decide +kernel
theorem dX7_manyTo_5 : decode cX7_manyTo 5 = .ok (.iload_n 1, 1) := by decide +kernel
theorem dX7_manyTo_6 : decode cX7_manyTo 6 = .ok (.iload_n 2, 1) := by decide +kernel
theorem dX7_manyTo_7 : decode cX7_manyTo 7 = .ok (.invokevirtual 100, 3) := by decide +kernel
theorem dX7_manyTo_10 : decode cX7_manyTo 10 = .ok (.ifCond .lt 7, 3) := by decide +kernel
theorem dX7_manyTo_13 : decode cX7_manyTo 13 = .ok (.iconst 1, 1) := by decide +kernel
theorem dX7_manyTo_14 : decode cX7_manyTo 14 = .ok (.goto 4, 3) := by decide +kernel
theorem dX7_manyTo_17 : decode cX7_manyTo 17 = .ok (.iconst 0, 1) := by decide +kernel
theorem dX7_manyTo_18 : decode cX7_manyTo 18 = .ok (.istore_n 3, 1) := by decide +kernel
theorem dX7_manyTo_19 : decode cX7_manyTo 19 = .ok (.iconst 0, 1) := by decide +kernel
theorem dX7_manyTo_20 : decode cX7_manyTo 20 = .ok (.istore 4, 2) := by decide +kernel
theorem dX7_manyTo_22 : decode cX7_manyTo 22 = .ok (.iload 4, 2) := by decide +kernel
theorem dX7_manyTo_24 : decode cX7_manyTo 24 = .ok (.aload_n 0, 1) := by decide +kernel
theorem dX7_manyTo_25 : decode cX7_manyTo 25 = .ok (.getfield 86, 3) := by decide +kernel
theorem dX7_manyTo_28 : decode cX7_manyTo 28 = .ok (.if_icmp .ge 69, 3) := by decide +kernel
theorem dX7_manyTo_31 : decode cX7_manyTo 31 = .ok (.iload_n 1, 1) := by decide +kernel
theorem dX7_manyTo_32 : decode cX7_manyTo 32 = .ok (.aload_n 0, 1) := by decide +kernel
theorem dX7_manyTo_33 : decode cX7_manyTo 33 = .ok (.getfield 83, 3) := by decide +kernel
theorem dX7_manyTo_36 : decode cX7_manyTo 36 = .ok (.if_icmp .ge 61, 3) := by decide +kernel
theorem dX7_manyTo_39 : decode cX7_manyTo 39 = .ok (.iload_n 1, 1) := by decide +kernel
theorem dX7_manyTo_40 : decode cX7_manyTo 40 = .ok (.iconst 1, 1) := by decide +kernel
theorem dX7_manyTo_41 : decode cX7_manyTo 41 = .ok (.iadd, 1) := by decide +kernel
theorem dX7_manyTo_42 : decode cX7_manyTo 42 = .ok (.iload 4, 2) := by decide +kernel
theorem dX7_manyTo_44 : decode cX7_manyTo 44 = .ok (.invokestatic 170, 3) := by decide +kernel
theorem dX7_manyTo_47 : decode cX7_manyTo 47 = .ok (.istore 5, 2) := by decide +kernel
theorem dX7_manyTo_49 : decode cX7_manyTo 49 = .ok (.iload_n 3, 1) := by decide +kernel
theorem dX7_manyTo_50 : decode cX7_manyTo 50 = .ok (.aload_n 0, 1) := by decide +kernel
theorem dX7_manyTo_51 : decode cX7_manyTo 51 = .ok (.getfield 40, 3) := by decide +kernel
theorem dX7_manyTo_54 : decode cX7_manyTo 54 = .ok (.iload 5, 2) := by decide +kernel
theorem dX7_manyTo_56 : decode cX7_manyTo 56 = .ok (.iaload, 1) := by decide +kernel
theorem dX7_manyTo_57 : decode cX7_manyTo 57 = .ok (.ifCond .lt 31, 3) := by decide +kernel
theorem dX7_manyTo_60 : decode cX7_manyTo 60 = .ok (.aload_n 0, 1) := by decide +kernel
theorem dX7_manyTo_61 : decode cX7_manyTo 61 = .ok (.iload_n 1, 1) := by decide +kernel
theorem dX7_manyTo_62 : decode cX7_manyTo 62 = .ok (.iconst 1, 1) := by decide +kernel
theorem dX7_manyTo_63 : decode cX7_manyTo 63 = .ok (.iadd, 1) := by decide +kernel
theorem dX7_manyTo_64 : decode cX7_manyTo 64 = .ok (.iload 4, 2) := by decide +kernel
theorem dX7_manyTo_66 : decode cX7_manyTo 66 = .ok (.aload_n 0, 1) := by decide +kernel
theorem dX7_manyTo_67 : decode cX7_manyTo 67 = .ok (.getfield 40, 3) := by decide +kernel
theorem dX7_manyTo_70 : decode cX7_manyTo 70 = .ok (.iload 5, 2) := by decide +kernel
theorem dX7_manyTo_72 : decode cX7_manyTo 72 = .ok (.iaload, 1) := by decide +kernel
theorem dX7_manyTo_73 : decode cX7_manyTo 73 = .ok (.invokevirtual 207, 3) := by decide +kernel
theorem dX7_manyTo_76 : decode cX7_manyTo 76 = .ok (.iload_n 1, 1) := by decide +kernel
theorem dX7_manyTo_77 : decode cX7_manyTo 77 = .ok (.iload_n 2, 1) := by decide +kernel
theorem dX7_manyTo_78 : decode cX7_manyTo 78 = .ok (.invokestatic 170, 3) := by decide +kernel
theorem dX7_manyTo_81 : decode cX7_manyTo 81 = .ok (.if_icmp .ne 7, 3) := by decide +kernel
theorem dX7_manyTo_84 : decode cX7_manyTo 84 = .ok (.iconst 1, 1) := by decide +kernel
theorem dX7_manyTo_85 : decode cX7_manyTo 85 = .ok (.goto 4, 3) := by decide +kernel
theorem dX7_manyTo_88 : decode cX7_manyTo 88 = .ok (.iconst 0, 1) := by decide +kernel
theorem dX7_manyTo_89 : decode cX7_manyTo 89 = .ok (.iadd, 1) := by decide +kernel
theorem dX7_manyTo_90 : decode cX7_manyTo 90 = .ok (.istore_n 3, 1) := by decide +kernel
theorem dX7_manyTo_91 : decode cX7_manyTo 91 = .ok (.iinc 4 1, 3) := by decide +kernel
theorem dX7_manyTo_94 : decode cX7_manyTo 94 = .ok (.goto (-72), 3) := by decide +kernel
theorem dX7_manyTo_97 : decode cX7_manyTo 97 = .ok (.iload_n 3, 1) := by decide +kernel
theorem dX7_manyTo_98 : decode cX7_manyTo 98 = .ok (.ireturn, 1) := by decide +kernel
set_option maxRecDepth 20000 in
theorem ggX7_straightens_X7_cell : GoodIn wsX7_straightens wsX7_cell := goodIn_r _ [7] (by decide +kernel) (by decide +kernel)
set_option maxRecDepth 20000 in
theorem gX7_straightens_X7_cell : GoodIn wsX7_straightens (va_wsS RX7 170 yX7_cell wsX7_cell) := goodIn_app (goodIn_of _ (by decide +kernel)) ggX7_straightens_X7_cell
set_option maxRecDepth 20000 in
theorem ggX7_straightens_X7_targetTurn : GoodIn wsX7_straightens wsX7_targetTurn := goodIn_r _ [11, 12, 13, 14, 6, 15, 16, 33, 34, 35, 36, 37, 38, 39, 40, 41, 42, 43, 44, 45, 46, 47, 48, 49, 50, 51, 52, 53, 54, 55, 56, 57, 58, 59, 60, 61, 62, 63, 64, 65, 66, 67] (by decide +kernel) (by decide +kernel)
set_option maxRecDepth 20000 in
theorem gX7_straightens_X7_targetTurn : GoodIn wsX7_straightens (wsV RX7 203 RX7 yX7_targetTurn wsX7_targetTurn) := goodIn_app (goodIn_of _ (by decide +kernel)) ggX7_straightens_X7_targetTurn
set_option maxRecDepth 20000 in
theorem ggX7_straightens_X7_placeAt : GoodIn wsX7_straightens wsX7_placeAt := goodIn_r _ [20, 21, 22, 23, 33, 34, 35, 36, 37, 38, 39, 40, 41, 42, 43, 44, 45, 46, 47, 48, 49, 50, 51, 52, 53, 54, 55, 56, 57, 58, 59, 60, 61, 62, 63, 64, 65, 66, 67] (by decide +kernel) (by decide +kernel)
set_option maxRecDepth 20000 in
theorem gX7_straightens_X7_placeAt : GoodIn wsX7_straightens (wsV RX7 100 RX7 yX7_placeAt wsX7_placeAt) := goodIn_app (goodIn_of _ (by decide +kernel)) ggX7_straightens_X7_placeAt
set_option maxRecDepth 20000 in
theorem ggX7_straightens_X7_manyTo : GoodIn wsX7_straightens wsX7_manyTo := goodIn_r _ [27, 16, 28, 1, 17, 18, 19, 6, 20, 21, 22, 23, 4, 5, 7, 29, 30, 31, 32, 8, 9, 10, 11, 12, 13, 14, 15, 33, 34, 35, 36, 37, 38, 39, 40, 41, 42, 43, 44, 45, 46, 47, 48, 49, 50, 51, 52, 53, 54, 55, 56, 57, 58, 59, 60, 61, 62, 63, 64, 65, 66, 67] (by decide +kernel) (by decide +kernel)
set_option maxRecDepth 20000 in
theorem gX7_straightens_X7_manyTo : GoodIn wsX7_straightens (wsV RX7 225 RX7 yX7_manyTo wsX7_manyTo) := goodIn_app (goodIn_of _ (by decide +kernel)) ggX7_straightens_X7_manyTo
theorem dX7_straightens_0 : decode cX7_straightens 0 = .ok (.aload_n 0, 1) := by decide +kernel
theorem dX7_straightens_1 : decode cX7_straightens 1 = .ok (.getfield 40, 3) := by decide +kernel
theorem dX7_straightens_4 : decode cX7_straightens 4 = .ok (.iload_n 1, 1) := by decide +kernel
theorem dX7_straightens_5 : decode cX7_straightens 5 = .ok (.iload_n 2, 1) := by decide +kernel
theorem dX7_straightens_6 : decode cX7_straightens 6 = .ok (.invokestatic 170, 3) := by decide +kernel
theorem dX7_straightens_9 : decode cX7_straightens 9 = .ok (.iaload, 1) := by decide +kernel
theorem dX7_straightens_10 : decode cX7_straightens 10 = .ok (.istore_n 3, 1) := by decide +kernel
theorem dX7_straightens_11 : decode cX7_straightens 11 = .ok (.iload_n 3, 1) := by decide +kernel
theorem dX7_straightens_12 : decode cX7_straightens 12 = .ok (.iconst 1, 1) := by decide +kernel
theorem dX7_straightens_13 : decode cX7_straightens 13 = .ok (.if_icmp .eq 10, 3) := by decide +kernel
theorem dX7_straightens_16 : decode cX7_straightens 16 = .ok (.iload_n 3, 1) := by decide +kernel
theorem dX7_straightens_17 : decode cX7_straightens 17 = .ok (.iconst 2, 1) := by decide +kernel
theorem dX7_straightens_18 : decode cX7_straightens 18 = .ok (.if_icmp .eq 5, 3) := by decide +kernel
theorem dX7_straightens_21 : decode cX7_straightens 21 = .ok (.iconst 0, 1) := by decide +kernel
theorem dX7_straightens_22 : decode cX7_straightens 22 = .ok (.ireturn, 1) := by decide +kernel
theorem dX7_straightens_23 : decode cX7_straightens 23 = .ok (.aload_n 0, 1) := by decide +kernel
theorem dX7_straightens_24 : decode cX7_straightens 24 = .ok (.iload_n 1, 1) := by decide +kernel
theorem dX7_straightens_25 : decode cX7_straightens 25 = .ok (.iload_n 2, 1) := by decide +kernel
theorem dX7_straightens_26 : decode cX7_straightens 26 = .ok (.iload_n 3, 1) := by decide +kernel
theorem dX7_straightens_27 : decode cX7_straightens 27 = .ok (.invokevirtual 203, 3) := by decide +kernel
theorem dX7_straightens_30 : decode cX7_straightens 30 = .ok (.istore 4, 2) := by decide +kernel
theorem dX7_straightens_32 : decode cX7_straightens 32 = .ok (.iload_n 1, 1) := by decide +kernel
theorem dX7_straightens_33 : decode cX7_straightens 33 = .ok (.iconst 1, 1) := by decide +kernel
theorem dX7_straightens_34 : decode cX7_straightens 34 = .ok (.isub, 1) := by decide +kernel
theorem dX7_straightens_35 : decode cX7_straightens 35 = .ok (.iload_n 2, 1) := by decide +kernel
theorem dX7_straightens_36 : decode cX7_straightens 36 = .ok (.invokestatic 170, 3) := by decide +kernel
theorem dX7_straightens_39 : decode cX7_straightens 39 = .ok (.istore 5, 2) := by decide +kernel
theorem dX7_straightens_41 : decode cX7_straightens 41 = .ok (.aload_n 0, 1) := by decide +kernel
theorem dX7_straightens_42 : decode cX7_straightens 42 = .ok (.iload_n 1, 1) := by decide +kernel
theorem dX7_straightens_43 : decode cX7_straightens 43 = .ok (.iconst 1, 1) := by decide +kernel
theorem dX7_straightens_44 : decode cX7_straightens 44 = .ok (.isub, 1) := by decide +kernel
theorem dX7_straightens_45 : decode cX7_straightens 45 = .ok (.iload 4, 2) := by decide +kernel
theorem dX7_straightens_47 : decode cX7_straightens 47 = .ok (.invokevirtual 100, 3) := by decide +kernel
theorem dX7_straightens_50 : decode cX7_straightens 50 = .ok (.ifCond .ge 20, 3) := by decide +kernel
theorem dX7_straightens_53 : decode cX7_straightens 53 = .ok (.aload_n 0, 1) := by decide +kernel
theorem dX7_straightens_54 : decode cX7_straightens 54 = .ok (.iload_n 1, 1) := by decide +kernel
theorem dX7_straightens_55 : decode cX7_straightens 55 = .ok (.iconst 1, 1) := by decide +kernel
theorem dX7_straightens_56 : decode cX7_straightens 56 = .ok (.isub, 1) := by decide +kernel
theorem dX7_straightens_57 : decode cX7_straightens 57 = .ok (.iload 4, 2) := by decide +kernel
theorem dX7_straightens_59 : decode cX7_straightens 59 = .ok (.invokevirtual 225, 3) := by decide +kernel
theorem dX7_straightens_62 : decode cX7_straightens 62 = .ok (.iconst 1, 1) := by decide +kernel
theorem dX7_straightens_63 : decode cX7_straightens 63 = .ok (.if_icmp .ne 7, 3) := by decide +kernel
theorem dX7_straightens_66 : decode cX7_straightens 66 = .ok (.iconst 1, 1) := by decide +kernel
theorem dX7_straightens_67 : decode cX7_straightens 67 = .ok (.goto 4, 3) := by decide +kernel
theorem dX7_straightens_70 : decode cX7_straightens 70 = .ok (.iconst 0, 1) := by decide +kernel
theorem dX7_straightens_71 : decode cX7_straightens 71 = .ok (.istore 6, 2) := by decide +kernel
theorem dX7_straightens_73 : decode cX7_straightens 73 = .ok (.iload 6, 2) := by decide +kernel
theorem dX7_straightens_75 : decode cX7_straightens 75 = .ok (.ifCond .eq 42, 3) := by decide +kernel
theorem dX7_straightens_78 : decode cX7_straightens 78 = .ok (.aload_n 0, 1) := by decide +kernel
theorem dX7_straightens_79 : decode cX7_straightens 79 = .ok (.getfield 40, 3) := by decide +kernel
theorem dX7_straightens_82 : decode cX7_straightens 82 = .ok (.iload_n 1, 1) := by decide +kernel
theorem dX7_straightens_83 : decode cX7_straightens 83 = .ok (.iconst 1, 1) := by decide +kernel
theorem dX7_straightens_84 : decode cX7_straightens 84 = .ok (.isub, 1) := by decide +kernel
theorem dX7_straightens_85 : decode cX7_straightens 85 = .ok (.iload 4, 2) := by decide +kernel
theorem dX7_straightens_87 : decode cX7_straightens 87 = .ok (.invokestatic 170, 3) := by decide +kernel
theorem dX7_straightens_90 : decode cX7_straightens 90 = .ok (.iaload, 1) := by decide +kernel
theorem dX7_straightens_91 : decode cX7_straightens 91 = .ok (.iconst 3, 1) := by decide +kernel
theorem dX7_straightens_92 : decode cX7_straightens 92 = .ok (.iload_n 3, 1) := by decide +kernel
theorem dX7_straightens_93 : decode cX7_straightens 93 = .ok (.isub, 1) := by decide +kernel
theorem dX7_straightens_94 : decode cX7_straightens 94 = .ok (.if_icmp .ne 23, 3) := by decide +kernel
theorem dX7_straightens_97 : decode cX7_straightens 97 = .ok (.aload_n 0, 1) := by decide +kernel
theorem dX7_straightens_98 : decode cX7_straightens 98 = .ok (.getfield 23, 3) := by decide +kernel
theorem dX7_straightens_101 : decode cX7_straightens 101 = .ok (.iload 5, 2) := by decide +kernel
theorem dX7_straightens_103 : decode cX7_straightens 103 = .ok (.baload, 1) := by decide +kernel
theorem dX7_straightens_104 : decode cX7_straightens 104 = .ok (.ifCond .ne 13, 3) := by decide +kernel
theorem dX7_straightens_107 : decode cX7_straightens 107 = .ok (.aload_n 0, 1) := by decide +kernel
theorem dX7_straightens_108 : decode cX7_straightens 108 = .ok (.getfield 43, 3) := by decide +kernel
theorem dX7_straightens_111 : decode cX7_straightens 111 = .ok (.iload 5, 2) := by decide +kernel
theorem dX7_straightens_113 : decode cX7_straightens 113 = .ok (.iaload, 1) := by decide +kernel
theorem dX7_straightens_114 : decode cX7_straightens 114 = .ok (.ifCond .le 5, 3) := by decide +kernel
theorem dX7_straightens_117 : decode cX7_straightens 117 = .ok (.iconst 0, 1) := by decide +kernel
theorem dX7_straightens_118 : decode cX7_straightens 118 = .ok (.ireturn, 1) := by decide +kernel
theorem dX7_straightens_119 : decode cX7_straightens 119 = .ok (.aload_n 0, 1) := by decide +kernel
theorem dX7_straightens_120 : decode cX7_straightens 120 = .ok (.getfield 40, 3) := by decide +kernel
theorem dX7_straightens_123 : decode cX7_straightens 123 = .ok (.iload_n 1, 1) := by decide +kernel
theorem dX7_straightens_124 : decode cX7_straightens 124 = .ok (.iload_n 2, 1) := by decide +kernel
theorem dX7_straightens_125 : decode cX7_straightens 125 = .ok (.invokestatic 170, 3) := by decide +kernel
theorem dX7_straightens_128 : decode cX7_straightens 128 = .ok (.iconst 0, 1) := by decide +kernel
theorem dX7_straightens_129 : decode cX7_straightens 129 = .ok (.iastore, 1) := by decide +kernel
theorem dX7_straightens_130 : decode cX7_straightens 130 = .ok (.aload_n 0, 1) := by decide +kernel
theorem dX7_straightens_131 : decode cX7_straightens 131 = .ok (.getfield 40, 3) := by decide +kernel
theorem dX7_straightens_134 : decode cX7_straightens 134 = .ok (.iload 5, 2) := by decide +kernel
theorem dX7_straightens_136 : decode cX7_straightens 136 = .ok (.iconst 0, 1) := by decide +kernel
theorem dX7_straightens_137 : decode cX7_straightens 137 = .ok (.iastore, 1) := by decide +kernel
theorem dX7_straightens_138 : decode cX7_straightens 138 = .ok (.aload_n 0, 1) := by decide +kernel
theorem dX7_straightens_139 : decode cX7_straightens 139 = .ok (.getfield 43, 3) := by decide +kernel
theorem dX7_straightens_142 : decode cX7_straightens 142 = .ok (.iload 5, 2) := by decide +kernel
theorem dX7_straightens_144 : decode cX7_straightens 144 = .ok (.aload_n 0, 1) := by decide +kernel
theorem dX7_straightens_145 : decode cX7_straightens 145 = .ok (.getfield 43, 3) := by decide +kernel
theorem dX7_straightens_148 : decode cX7_straightens 148 = .ok (.iload_n 1, 1) := by decide +kernel
theorem dX7_straightens_149 : decode cX7_straightens 149 = .ok (.iload_n 2, 1) := by decide +kernel
theorem dX7_straightens_150 : decode cX7_straightens 150 = .ok (.invokestatic 170, 3) := by decide +kernel
theorem dX7_straightens_153 : decode cX7_straightens 153 = .ok (.iaload, 1) := by decide +kernel
theorem dX7_straightens_154 : decode cX7_straightens 154 = .ok (.iastore, 1) := by decide +kernel
theorem dX7_straightens_155 : decode cX7_straightens 155 = .ok (.aload_n 0, 1) := by decide +kernel
theorem dX7_straightens_156 : decode cX7_straightens 156 = .ok (.getfield 40, 3) := by decide +kernel
theorem dX7_straightens_159 : decode cX7_straightens 159 = .ok (.iload_n 1, 1) := by decide +kernel
theorem dX7_straightens_160 : decode cX7_straightens 160 = .ok (.iconst 1, 1) := by decide +kernel
theorem dX7_straightens_161 : decode cX7_straightens 161 = .ok (.isub, 1) := by decide +kernel
theorem dX7_straightens_162 : decode cX7_straightens 162 = .ok (.iload 4, 2) := by decide +kernel
theorem dX7_straightens_164 : decode cX7_straightens 164 = .ok (.invokestatic 170, 3) := by decide +kernel
theorem dX7_straightens_167 : decode cX7_straightens 167 = .ok (.iconst (-1), 1) := by decide +kernel
theorem dX7_straightens_168 : decode cX7_straightens 168 = .ok (.iastore, 1) := by decide +kernel
theorem dX7_straightens_169 : decode cX7_straightens 169 = .ok (.aload_n 0, 1) := by decide +kernel
theorem dX7_straightens_170 : decode cX7_straightens 170 = .ok (.getfield 43, 3) := by decide +kernel
theorem dX7_straightens_173 : decode cX7_straightens 173 = .ok (.iload_n 1, 1) := by decide +kernel
theorem dX7_straightens_174 : decode cX7_straightens 174 = .ok (.iconst 1, 1) := by decide +kernel
theorem dX7_straightens_175 : decode cX7_straightens 175 = .ok (.isub, 1) := by decide +kernel
theorem dX7_straightens_176 : decode cX7_straightens 176 = .ok (.iload 4, 2) := by decide +kernel
theorem dX7_straightens_178 : decode cX7_straightens 178 = .ok (.invokestatic 170, 3) := by decide +kernel
theorem dX7_straightens_181 : decode cX7_straightens 181 = .ok (.iconst 0, 1) := by decide +kernel
theorem dX7_straightens_182 : decode cX7_straightens 182 = .ok (.iastore, 1) := by decide +kernel
theorem dX7_straightens_183 : decode cX7_straightens 183 = .ok (.iconst 1, 1) := by decide +kernel
theorem dX7_straightens_184 : decode cX7_straightens 184 = .ok (.ireturn, 1) := by decide +kernel
set_option maxRecDepth 20000 in
theorem ggX7_laysStraightened_X7_laysLean : GoodIn wsX7_laysStraightened wsX7_laysLean := goodIn_r _ [7, 1, 2, 8, 9, 10, 6, 11, 12, 13, 14, 15, 16, 17, 18, 19, 20, 21, 22, 23, 24, 25, 26, 27, 28, 29, 30, 31, 32, 33, 34, 35, 36, 37, 38, 39, 40, 41, 42, 43, 44, 45, 61, 62, 63, 64, 65, 66, 67, 68, 69, 70, 71, 72, 73, 74, 75, 76, 77, 78, 79, 80, 81, 82, 83, 84, 85, 86, 87, 88, 89, 90, 91, 92, 93, 94, 95] (by decide +kernel) (by decide +kernel)
set_option maxRecDepth 20000 in
theorem gX7_laysStraightened_X7_laysLean : GoodIn wsX7_laysStraightened (wsV RX7 228 RX7 yX7_laysLean wsX7_laysLean) := goodIn_app (goodIn_of _ (by decide +kernel)) ggX7_laysStraightened_X7_laysLean
set_option maxRecDepth 20000 in
theorem ggX7_laysStraightened_X7_straightens : GoodIn wsX7_laysStraightened wsX7_straightens := goodIn_r _ [49, 45, 32, 8, 9, 10, 6, 11, 37, 38, 39, 40, 17, 18, 19, 20, 2, 50, 51, 52, 53, 54, 55, 56, 57, 58, 59, 60, 1, 33, 34, 35, 36, 61, 62, 63, 64, 65, 66, 67, 68, 69, 70, 71, 72, 73, 74, 75, 76, 77, 78, 79, 80, 81, 82, 83, 84, 85, 86, 87, 88, 89, 90, 91, 92, 93, 94, 95] (by decide +kernel) (by decide +kernel)
set_option maxRecDepth 20000 in
theorem gX7_laysStraightened_X7_straightens : GoodIn wsX7_laysStraightened (wsV RX7 231 RX7 yX7_straightens wsX7_straightens) := goodIn_app (goodIn_of _ (by decide +kernel)) ggX7_laysStraightened_X7_straightens
theorem dX7_laysStraightened_0 : decode cX7_laysStraightened 0 = .ok (.aload_n 0, 1) := by decide +kernel
theorem dX7_laysStraightened_1 : decode cX7_laysStraightened 1 = .ok (.invokevirtual 228, 3) := by decide +kernel
theorem dX7_laysStraightened_4 : decode cX7_laysStraightened 4 = .ok (.ifCond .ne 5, 3) := by decide +kernel
theorem dX7_laysStraightened_7 : decode cX7_laysStraightened 7 = .ok (.iconst 0, 1) := by decide +kernel
theorem dX7_laysStraightened_8 : decode cX7_laysStraightened 8 = .ok (.ireturn, 1) := by decide +kernel
theorem dX7_laysStraightened_9 : decode cX7_laysStraightened 9 = .ok (.iconst 1, 1) := by decide +kernel
theorem dX7_laysStraightened_10 : decode cX7_laysStraightened 10 = .ok (.istore_n 1, 1) := by decide +kernel
theorem dX7_laysStraightened_11 : decode cX7_laysStraightened 11 = .ok (.iload_n 1, 1) := by decide +kernel
theorem dX7_laysStraightened_12 : decode cX7_laysStraightened 12 = .ok (.ifCond .eq 59, 3) := by decide +kernel
theorem dX7_laysStraightened_15 : decode cX7_laysStraightened 15 = .ok (.iconst 0, 1) := by decide +kernel
theorem dX7_laysStraightened_16 : decode cX7_laysStraightened 16 = .ok (.istore_n 1, 1) := by decide +kernel
theorem dX7_laysStraightened_17 : decode cX7_laysStraightened 17 = .ok (.aload_n 0, 1) := by decide +kernel
theorem dX7_laysStraightened_18 : decode cX7_laysStraightened 18 = .ok (.getfield 83, 3) := by decide +kernel
theorem dX7_laysStraightened_21 : decode cX7_laysStraightened 21 = .ok (.istore_n 2, 1) := by decide +kernel
theorem dX7_laysStraightened_22 : decode cX7_laysStraightened 22 = .ok (.iload_n 2, 1) := by decide +kernel
theorem dX7_laysStraightened_23 : decode cX7_laysStraightened 23 = .ok (.iconst 2, 1) := by decide +kernel
theorem dX7_laysStraightened_24 : decode cX7_laysStraightened 24 = .ok (.if_icmp .le 44, 3) := by decide +kernel
theorem dX7_laysStraightened_27 : decode cX7_laysStraightened 27 = .ok (.iconst 0, 1) := by decide +kernel
theorem dX7_laysStraightened_28 : decode cX7_laysStraightened 28 = .ok (.istore_n 3, 1) := by decide +kernel
theorem dX7_laysStraightened_29 : decode cX7_laysStraightened 29 = .ok (.iload_n 3, 1) := by decide +kernel
theorem dX7_laysStraightened_30 : decode cX7_laysStraightened 30 = .ok (.aload_n 0, 1) := by decide +kernel
theorem dX7_laysStraightened_31 : decode cX7_laysStraightened 31 = .ok (.getfield 86, 3) := by decide +kernel
theorem dX7_laysStraightened_34 : decode cX7_laysStraightened 34 = .ok (.if_icmp .ge 28, 3) := by decide +kernel
theorem dX7_laysStraightened_37 : decode cX7_laysStraightened 37 = .ok (.aload_n 0, 1) := by decide +kernel
theorem dX7_laysStraightened_38 : decode cX7_laysStraightened 38 = .ok (.iload_n 2, 1) := by decide +kernel
theorem dX7_laysStraightened_39 : decode cX7_laysStraightened 39 = .ok (.iload_n 3, 1) := by decide +kernel
theorem dX7_laysStraightened_40 : decode cX7_laysStraightened 40 = .ok (.invokevirtual 231, 3) := by decide +kernel
theorem dX7_laysStraightened_43 : decode cX7_laysStraightened 43 = .ok (.ifCond .ne 7, 3) := by decide +kernel
theorem dX7_laysStraightened_46 : decode cX7_laysStraightened 46 = .ok (.iload_n 1, 1) := by decide +kernel
theorem dX7_laysStraightened_47 : decode cX7_laysStraightened 47 = .ok (.ifCond .eq 7, 3) := by decide +kernel
theorem dX7_laysStraightened_50 : decode cX7_laysStraightened 50 = .ok (.iconst 1, 1) := by decide +kernel
theorem dX7_laysStraightened_51 : decode cX7_laysStraightened 51 = .ok (.goto 4, 3) := by decide +kernel
theorem dX7_laysStraightened_54 : decode cX7_laysStraightened 54 = .ok (.iconst 0, 1) := by decide +kernel
theorem dX7_laysStraightened_55 : decode cX7_laysStraightened 55 = .ok (.istore_n 1, 1) := by decide +kernel
theorem dX7_laysStraightened_56 : decode cX7_laysStraightened 56 = .ok (.iinc 3 1, 3) := by decide +kernel
theorem dX7_laysStraightened_59 : decode cX7_laysStraightened 59 = .ok (.goto (-30), 3) := by decide +kernel
theorem dX7_laysStraightened_62 : decode cX7_laysStraightened 62 = .ok (.iinc 2 (-1), 3) := by decide +kernel
theorem dX7_laysStraightened_65 : decode cX7_laysStraightened 65 = .ok (.goto (-43), 3) := by decide +kernel
theorem dX7_laysStraightened_68 : decode cX7_laysStraightened 68 = .ok (.goto (-57), 3) := by decide +kernel
theorem dX7_laysStraightened_71 : decode cX7_laysStraightened 71 = .ok (.iconst 1, 1) := by decide +kernel
theorem dX7_laysStraightened_72 : decode cX7_laysStraightened 72 = .ok (.ireturn, 1) := by decide +kernel
theorem dX7_bestOf_0 : decode cX7_bestOf 0 = .ok (.aload_n 0, 1) := by decide +kernel
theorem dX7_bestOf_1 : decode cX7_bestOf 1 = .ok (.getfield 46, 3) := by decide +kernel
theorem dX7_bestOf_4 : decode cX7_bestOf 4 = .ok (.sipush 128, 3) := by decide +kernel
theorem dX7_bestOf_7 : decode cX7_bestOf 7 = .ok (.iload_n 1, 1) := by decide +kernel
theorem dX7_bestOf_8 : decode cX7_bestOf 8 = .ok (.imul, 1) := by decide +kernel
theorem dX7_bestOf_9 : decode cX7_bestOf 9 = .ok (.iload_n 2, 1) := by decide +kernel
theorem dX7_bestOf_10 : decode cX7_bestOf 10 = .ok (.iadd, 1) := by decide +kernel
theorem dX7_bestOf_11 : decode cX7_bestOf 11 = .ok (.iaload, 1) := by decide +kernel
theorem dX7_bestOf_12 : decode cX7_bestOf 12 = .ok (.ireturn, 1) := by decide +kernel
theorem dX7_offers_0 : decode cX7_offers 0 = .ok (.iload_n 2, 1) := by decide +kernel
theorem dX7_offers_1 : decode cX7_offers 1 = .ok (.aload_n 0, 1) := by decide +kernel
theorem dX7_offers_2 : decode cX7_offers 2 = .ok (.getfield 46, 3) := by decide +kernel
theorem dX7_offers_5 : decode cX7_offers 5 = .ok (.iload_n 1, 1) := by decide +kernel
theorem dX7_offers_6 : decode cX7_offers 6 = .ok (.iaload, 1) := by decide +kernel
theorem dX7_offers_7 : decode cX7_offers 7 = .ok (.if_icmp .ge 17, 3) := by decide +kernel
theorem dX7_offers_10 : decode cX7_offers 10 = .ok (.aload_n 0, 1) := by decide +kernel
theorem dX7_offers_11 : decode cX7_offers 11 = .ok (.getfield 46, 3) := by decide +kernel
theorem dX7_offers_14 : decode cX7_offers 14 = .ok (.iload_n 1, 1) := by decide +kernel
theorem dX7_offers_15 : decode cX7_offers 15 = .ok (.iload_n 2, 1) := by decide +kernel
theorem dX7_offers_16 : decode cX7_offers 16 = .ok (.iastore, 1) := by decide +kernel
theorem dX7_offers_17 : decode cX7_offers 17 = .ok (.aload_n 0, 1) := by decide +kernel
theorem dX7_offers_18 : decode cX7_offers 18 = .ok (.getfield 49, 3) := by decide +kernel
theorem dX7_offers_21 : decode cX7_offers 21 = .ok (.iload_n 1, 1) := by decide +kernel
theorem dX7_offers_22 : decode cX7_offers 22 = .ok (.iload_n 3, 1) := by decide +kernel
theorem dX7_offers_23 : decode cX7_offers 23 = .ok (.iastore, 1) := by decide +kernel
theorem dX7_offers_24 : decode cX7_offers 24 = .ok (.return_, 1) := by decide +kernel
set_option maxRecDepth 20000 in
theorem ggX7_offersFrom_X7_cell : GoodIn wsX7_offersFrom wsX7_cell := goodIn_r _ [7] (by decide +kernel) (by decide +kernel)
set_option maxRecDepth 20000 in
theorem gX7_offersFrom_X7_cell : GoodIn wsX7_offersFrom (va_wsS RX7 170 yX7_cell wsX7_cell) := goodIn_app (goodIn_of _ (by decide +kernel)) ggX7_offersFrom_X7_cell
set_option maxRecDepth 20000 in
theorem ggX7_offersFrom_X7_bestOf : GoodIn wsX7_offersFrom wsX7_bestOf := goodIn_r _ [11, 12, 23, 24, 25, 26, 27, 28, 29, 30, 31, 32, 33, 34, 35, 36, 37, 38, 39, 40, 41, 42, 43, 44, 45, 46, 47, 48, 49, 50, 51, 52, 53, 54, 55, 56, 57] (by decide +kernel) (by decide +kernel)
set_option maxRecDepth 20000 in
theorem gX7_offersFrom_X7_bestOf : GoodIn wsX7_offersFrom (wsV RX7 234 RX7 yX7_bestOf wsX7_bestOf) := goodIn_app (goodIn_of _ (by decide +kernel)) ggX7_offersFrom_X7_bestOf
set_option maxRecDepth 20000 in
theorem ggX7_offersFrom_X7_lengthOf : GoodIn wsX7_offersFrom wsX7_lengthOf := goodIn_r _ [16, 17, 23, 24, 25, 26, 27, 28, 29, 30, 31, 32, 33, 34, 35, 36, 37, 38, 39, 40, 41, 42, 43, 44, 45, 46, 47, 48, 49, 50, 51, 52, 53, 54, 55, 56, 57] (by decide +kernel) (by decide +kernel)
set_option maxRecDepth 20000 in
theorem gX7_offersFrom_X7_lengthOf : GoodIn wsX7_offersFrom (wsV RX7 238 RX7 yX7_lengthOf wsX7_lengthOf) := goodIn_app (goodIn_of _ (by decide +kernel)) ggX7_offersFrom_X7_lengthOf
set_option maxRecDepth 20000 in
theorem ggX7_offersFrom_X7_offers : GoodIn wsX7_offersFrom wsX7_offers := goodIn_r _ [21, 12, 22, 23, 24, 25, 26, 27, 28, 29, 30, 31, 32, 33, 34, 35, 36, 37, 38, 39, 40, 41, 42, 43, 44, 45, 46, 47, 48, 49, 50, 51, 52, 53, 54, 55, 56, 57] (by decide +kernel) (by decide +kernel)
set_option maxRecDepth 20000 in
theorem gX7_offersFrom_X7_offers : GoodIn wsX7_offersFrom (wsV RX7 241 RX7 yX7_offers wsX7_offers) := goodIn_app (goodIn_of _ (by decide +kernel)) ggX7_offersFrom_X7_offers
theorem dX7_offersFrom_0 : decode cX7_offersFrom 0 = .ok (.aload_n 0, 1) := by decide +kernel
theorem dX7_offersFrom_1 : decode cX7_offersFrom 1 = .ok (.iload_n 3, 1) := by decide +kernel
theorem dX7_offersFrom_2 : decode cX7_offersFrom 2 = .ok (.iload 4, 2) := by decide +kernel
theorem dX7_offersFrom_4 : decode cX7_offersFrom 4 = .ok (.invokestatic 170, 3) := by decide +kernel
theorem dX7_offersFrom_7 : decode cX7_offersFrom 7 = .ok (.iload_n 2, 1) := by decide +kernel
theorem dX7_offersFrom_8 : decode cX7_offersFrom 8 = .ok (.invokevirtual 234, 3) := by decide +kernel
theorem dX7_offersFrom_11 : decode cX7_offersFrom 11 = .ok (.istore 7, 2) := by decide +kernel
theorem dX7_offersFrom_13 : decode cX7_offersFrom 13 = .ok (.iload 7, 2) := by decide +kernel
theorem dX7_offersFrom_15 : decode cX7_offersFrom 15 = .ok (.ldc 237, 2) := by decide +kernel
theorem dX7_offersFrom_17 : decode cX7_offersFrom 17 = .ok (.if_icmp .ge 32, 3) := by decide +kernel
theorem dX7_offersFrom_20 : decode cX7_offersFrom 20 = .ok (.aload_n 0, 1) := by decide +kernel
theorem dX7_offersFrom_21 : decode cX7_offersFrom 21 = .ok (.iload_n 1, 1) := by decide +kernel
theorem dX7_offersFrom_22 : decode cX7_offersFrom 22 = .ok (.iload 7, 2) := by decide +kernel
theorem dX7_offersFrom_24 : decode cX7_offersFrom 24 = .ok (.aload_n 0, 1) := by decide +kernel
theorem dX7_offersFrom_25 : decode cX7_offersFrom 25 = .ok (.iload_n 3, 1) := by decide +kernel
theorem dX7_offersFrom_26 : decode cX7_offersFrom 26 = .ok (.iload 5, 2) := by decide +kernel
theorem dX7_offersFrom_28 : decode cX7_offersFrom 28 = .ok (.invokevirtual 238, 3) := by decide +kernel
theorem dX7_offersFrom_31 : decode cX7_offersFrom 31 = .ok (.aload_n 0, 1) := by decide +kernel
theorem dX7_offersFrom_32 : decode cX7_offersFrom 32 = .ok (.getfield 74, 3) := by decide +kernel
theorem dX7_offersFrom_35 : decode cX7_offersFrom 35 = .ok (.aload_n 0, 1) := by decide +kernel
theorem dX7_offersFrom_36 : decode cX7_offersFrom 36 = .ok (.getfield 52, 3) := by decide +kernel
theorem dX7_offersFrom_39 : decode cX7_offersFrom 39 = .ok (.iload_n 2, 1) := by decide +kernel
theorem dX7_offersFrom_40 : decode cX7_offersFrom 40 = .ok (.iaload, 1) := by decide +kernel
theorem dX7_offersFrom_41 : decode cX7_offersFrom 41 = .ok (.iadd, 1) := by decide +kernel
theorem dX7_offersFrom_42 : decode cX7_offersFrom 42 = .ok (.imul, 1) := by decide +kernel
theorem dX7_offersFrom_43 : decode cX7_offersFrom 43 = .ok (.iadd, 1) := by decide +kernel
theorem dX7_offersFrom_44 : decode cX7_offersFrom 44 = .ok (.iload 6, 2) := by decide +kernel
theorem dX7_offersFrom_46 : decode cX7_offersFrom 46 = .ok (.invokevirtual 241, 3) := by decide +kernel
theorem dX7_offersFrom_49 : decode cX7_offersFrom 49 = .ok (.return_, 1) := by decide +kernel
set_option maxRecDepth 20000 in
theorem ggX7_laysBest_X7_cell : GoodIn wsX7_laysBest wsX7_cell := goodIn_r _ [10] (by decide +kernel) (by decide +kernel)
set_option maxRecDepth 20000 in
theorem gX7_laysBest_X7_cell : GoodIn wsX7_laysBest (va_wsS RX7 170 yX7_cell wsX7_cell) := goodIn_app (goodIn_of _ (by decide +kernel)) ggX7_laysBest_X7_cell
set_option maxRecDepth 20000 in
theorem ggX7_laysBest_X7_placeAt : GoodIn wsX7_laysBest wsX7_placeAt := goodIn_r _ [14, 15, 16, 17, 41, 42, 43, 44, 45, 46, 47, 48, 49, 50, 51, 52, 53, 54, 55, 56, 57, 58, 59, 60, 61, 62, 63, 64, 65, 66, 67, 68, 69, 70, 71, 72, 73, 74, 75] (by decide +kernel) (by decide +kernel)
set_option maxRecDepth 20000 in
theorem gX7_laysBest_X7_placeAt : GoodIn wsX7_laysBest (wsV RX7 100 RX7 yX7_placeAt wsX7_placeAt) := goodIn_app (goodIn_of _ (by decide +kernel)) ggX7_laysBest_X7_placeAt
set_option maxRecDepth 20000 in
theorem ggX7_laysBest_X7_bestOf : GoodIn wsX7_laysBest wsX7_bestOf := goodIn_r _ [21, 1, 41, 42, 43, 44, 45, 46, 47, 48, 49, 50, 51, 52, 53, 54, 55, 56, 57, 58, 59, 60, 61, 62, 63, 64, 65, 66, 67, 68, 69, 70, 71, 72, 73, 74, 75] (by decide +kernel) (by decide +kernel)
set_option maxRecDepth 20000 in
theorem gX7_laysBest_X7_bestOf : GoodIn wsX7_laysBest (wsV RX7 234 RX7 yX7_bestOf wsX7_bestOf) := goodIn_app (goodIn_of _ (by decide +kernel)) ggX7_laysBest_X7_bestOf
set_option maxRecDepth 20000 in
theorem ggX7_laysBest_X7_offers : GoodIn wsX7_laysBest wsX7_offers := goodIn_r _ [25, 1, 3, 41, 42, 43, 44, 45, 46, 47, 48, 49, 50, 51, 52, 53, 54, 55, 56, 57, 58, 59, 60, 61, 62, 63, 64, 65, 66, 67, 68, 69, 70, 71, 72, 73, 74, 75] (by decide +kernel) (by decide +kernel)
set_option maxRecDepth 20000 in
theorem gX7_laysBest_X7_offers : GoodIn wsX7_laysBest (wsV RX7 241 RX7 yX7_offers wsX7_offers) := goodIn_app (goodIn_of _ (by decide +kernel)) ggX7_laysBest_X7_offers
set_option maxRecDepth 20000 in
theorem ggX7_laysBest_X7_offersFrom : GoodIn wsX7_laysBest wsX7_offersFrom := goodIn_r _ [29, 2, 30, 31, 7, 8, 9, 10, 18, 19, 20, 21, 1, 32, 33, 34, 35, 36, 22, 23, 24, 25, 3, 41, 42, 43, 44, 45, 46, 47, 48, 49, 50, 51, 52, 53, 54, 55, 56, 57, 58, 59, 60, 61, 62, 63, 64, 65, 66, 67, 68, 69, 70, 71, 72, 73, 74, 75] (by decide +kernel) (by decide +kernel)
set_option maxRecDepth 20000 in
theorem gX7_laysBest_X7_offersFrom : GoodIn wsX7_laysBest (wsV RX7 244 RX7 yX7_offersFrom wsX7_offersFrom) := goodIn_app (goodIn_of _ (by decide +kernel)) ggX7_laysBest_X7_offersFrom
set_option maxRecDepth 20000 in
theorem ggX7_laysBest_X7_around : GoodIn wsX7_laysBest wsX7_around := goodIn_r _ [40, 5, 41, 42, 43, 44, 45, 46, 47, 48, 49, 50, 51, 52, 53, 54, 55, 56, 57, 58, 59, 60, 61, 62, 63, 64, 65, 66, 67, 68, 69, 70, 71, 72, 73, 74, 75] (by decide +kernel) (by decide +kernel)
set_option maxRecDepth 20000 in
theorem gX7_laysBest_X7_around : GoodIn wsX7_laysBest (wsV RX7 200 RX7 yX7_around wsX7_around) := goodIn_app (goodIn_of _ (by decide +kernel)) ggX7_laysBest_X7_around
theorem dX7_laysBest_0 : decode cX7_laysBest 0 = .ok (.iload_n 1, 1) := by decide +kernel
theorem dX7_laysBest_1 : decode cX7_laysBest 1 = .ok (.iload_n 2, 1) := by decide +kernel
theorem dX7_laysBest_2 : decode cX7_laysBest 2 = .ok (.invokestatic 170, 3) := by decide +kernel
theorem dX7_laysBest_5 : decode cX7_laysBest 5 = .ok (.istore 4, 2) := by decide +kernel
theorem dX7_laysBest_7 : decode cX7_laysBest 7 = .ok (.sipush 128, 3) := by decide +kernel
theorem dX7_laysBest_10 : decode cX7_laysBest 10 = .ok (.iload 4, 2) := by decide +kernel
theorem dX7_laysBest_12 : decode cX7_laysBest 12 = .ok (.imul, 1) := by decide +kernel
theorem dX7_laysBest_13 : decode cX7_laysBest 13 = .ok (.iload_n 3, 1) := by decide +kernel
theorem dX7_laysBest_14 : decode cX7_laysBest 14 = .ok (.iadd, 1) := by decide +kernel
theorem dX7_laysBest_15 : decode cX7_laysBest 15 = .ok (.istore 5, 2) := by decide +kernel
theorem dX7_laysBest_17 : decode cX7_laysBest 17 = .ok (.aload_n 0, 1) := by decide +kernel
theorem dX7_laysBest_18 : decode cX7_laysBest 18 = .ok (.getfield 46, 3) := by decide +kernel
theorem dX7_laysBest_21 : decode cX7_laysBest 21 = .ok (.iload 5, 2) := by decide +kernel
theorem dX7_laysBest_23 : decode cX7_laysBest 23 = .ok (.ldc 237, 2) := by decide +kernel
theorem dX7_laysBest_25 : decode cX7_laysBest 25 = .ok (.iastore, 1) := by decide +kernel
theorem dX7_laysBest_26 : decode cX7_laysBest 26 = .ok (.aload_n 0, 1) := by decide +kernel
theorem dX7_laysBest_27 : decode cX7_laysBest 27 = .ok (.getfield 49, 3) := by decide +kernel
theorem dX7_laysBest_30 : decode cX7_laysBest 30 = .ok (.iload 5, 2) := by decide +kernel
theorem dX7_laysBest_32 : decode cX7_laysBest 32 = .ok (.iconst (-1), 1) := by decide +kernel
theorem dX7_laysBest_33 : decode cX7_laysBest 33 = .ok (.iastore, 1) := by decide +kernel
theorem dX7_laysBest_34 : decode cX7_laysBest 34 = .ok (.iload_n 1, 1) := by decide +kernel
theorem dX7_laysBest_35 : decode cX7_laysBest 35 = .ok (.ifCond .le 14, 3) := by decide +kernel
theorem dX7_laysBest_38 : decode cX7_laysBest 38 = .ok (.aload_n 0, 1) := by decide +kernel
theorem dX7_laysBest_39 : decode cX7_laysBest 39 = .ok (.getfield 23, 3) := by decide +kernel
theorem dX7_laysBest_42 : decode cX7_laysBest 42 = .ok (.iload 4, 2) := by decide +kernel
theorem dX7_laysBest_44 : decode cX7_laysBest 44 = .ok (.baload, 1) := by decide +kernel
theorem dX7_laysBest_45 : decode cX7_laysBest 45 = .ok (.ifCond .eq 4, 3) := by decide +kernel
theorem dX7_laysBest_48 : decode cX7_laysBest 48 = .ok (.return_, 1) := by decide +kernel
theorem dX7_laysBest_49 : decode cX7_laysBest 49 = .ok (.aload_n 0, 1) := by decide +kernel
theorem dX7_laysBest_50 : decode cX7_laysBest 50 = .ok (.iload_n 1, 1) := by decide +kernel
theorem dX7_laysBest_51 : decode cX7_laysBest 51 = .ok (.iload_n 2, 1) := by decide +kernel
theorem dX7_laysBest_52 : decode cX7_laysBest 52 = .ok (.invokevirtual 100, 3) := by decide +kernel
theorem dX7_laysBest_55 : decode cX7_laysBest 55 = .ok (.istore 6, 2) := by decide +kernel
theorem dX7_laysBest_57 : decode cX7_laysBest 57 = .ok (.iload_n 1, 1) := by decide +kernel
theorem dX7_laysBest_58 : decode cX7_laysBest 58 = .ok (.ifCond .le 33, 3) := by decide +kernel
theorem dX7_laysBest_61 : decode cX7_laysBest 61 = .ok (.iload 6, 2) := by decide +kernel
theorem dX7_laysBest_63 : decode cX7_laysBest 63 = .ok (.ifCond .lt 28, 3) := by decide +kernel
theorem dX7_laysBest_66 : decode cX7_laysBest 66 = .ok (.iload_n 3, 1) := by decide +kernel
theorem dX7_laysBest_67 : decode cX7_laysBest 67 = .ok (.iconst 1, 1) := by decide +kernel
theorem dX7_laysBest_68 : decode cX7_laysBest 68 = .ok (.iload 6, 2) := by decide +kernel
theorem dX7_laysBest_70 : decode cX7_laysBest 70 = .ok (.ishl, 1) := by decide +kernel
theorem dX7_laysBest_71 : decode cX7_laysBest 71 = .ok (.if_icmp .ne 20, 3) := by decide +kernel
theorem dX7_laysBest_74 : decode cX7_laysBest 74 = .ok (.aload_n 0, 1) := by decide +kernel
theorem dX7_laysBest_75 : decode cX7_laysBest 75 = .ok (.getfield 46, 3) := by decide +kernel
theorem dX7_laysBest_78 : decode cX7_laysBest 78 = .ok (.iload 5, 2) := by decide +kernel
theorem dX7_laysBest_80 : decode cX7_laysBest 80 = .ok (.iconst 0, 1) := by decide +kernel
theorem dX7_laysBest_81 : decode cX7_laysBest 81 = .ok (.iastore, 1) := by decide +kernel
theorem dX7_laysBest_82 : decode cX7_laysBest 82 = .ok (.aload_n 0, 1) := by decide +kernel
theorem dX7_laysBest_83 : decode cX7_laysBest 83 = .ok (.getfield 49, 3) := by decide +kernel
theorem dX7_laysBest_86 : decode cX7_laysBest 86 = .ok (.iload 5, 2) := by decide +kernel
theorem dX7_laysBest_88 : decode cX7_laysBest 88 = .ok (.iconst 0, 1) := by decide +kernel
theorem dX7_laysBest_89 : decode cX7_laysBest 89 = .ok (.iastore, 1) := by decide +kernel
theorem dX7_laysBest_90 : decode cX7_laysBest 90 = .ok (.return_, 1) := by decide +kernel
theorem dX7_laysBest_91 : decode cX7_laysBest 91 = .ok (.iload_n 3, 1) := by decide +kernel
theorem dX7_laysBest_92 : decode cX7_laysBest 92 = .ok (.iload_n 3, 1) := by decide +kernel
theorem dX7_laysBest_93 : decode cX7_laysBest 93 = .ok (.ineg, 1) := by decide +kernel
theorem dX7_laysBest_94 : decode cX7_laysBest 94 = .ok (.iand, 1) := by decide +kernel
theorem dX7_laysBest_95 : decode cX7_laysBest 95 = .ok (.istore 7, 2) := by decide +kernel
theorem dX7_laysBest_97 : decode cX7_laysBest 97 = .ok (.iload 7, 2) := by decide +kernel
theorem dX7_laysBest_99 : decode cX7_laysBest 99 = .ok (.istore 8, 2) := by decide +kernel
theorem dX7_laysBest_101 : decode cX7_laysBest 101 = .ok (.iload 8, 2) := by decide +kernel
theorem dX7_laysBest_103 : decode cX7_laysBest 103 = .ok (.iload_n 3, 1) := by decide +kernel
theorem dX7_laysBest_104 : decode cX7_laysBest 104 = .ok (.if_icmp .ge 94, 3) := by decide +kernel
theorem dX7_laysBest_107 : decode cX7_laysBest 107 = .ok (.iload 8, 2) := by decide +kernel
theorem dX7_laysBest_109 : decode cX7_laysBest 109 = .ok (.iload_n 3, 1) := by decide +kernel
theorem dX7_laysBest_110 : decode cX7_laysBest 110 = .ok (.iconst (-1), 1) := by decide +kernel
theorem dX7_laysBest_111 : decode cX7_laysBest 111 = .ok (.ixor, 1) := by decide +kernel
theorem dX7_laysBest_112 : decode cX7_laysBest 112 = .ok (.iand, 1) := by decide +kernel
theorem dX7_laysBest_113 : decode cX7_laysBest 113 = .ok (.ifCond .ne 15, 3) := by decide +kernel
theorem dX7_laysBest_116 : decode cX7_laysBest 116 = .ok (.iload 8, 2) := by decide +kernel
theorem dX7_laysBest_118 : decode cX7_laysBest 118 = .ok (.iload 7, 2) := by decide +kernel
theorem dX7_laysBest_120 : decode cX7_laysBest 120 = .ok (.iand, 1) := by decide +kernel
theorem dX7_laysBest_121 : decode cX7_laysBest 121 = .ok (.ifCond .eq 7, 3) := by decide +kernel
theorem dX7_laysBest_124 : decode cX7_laysBest 124 = .ok (.iconst 1, 1) := by decide +kernel
theorem dX7_laysBest_125 : decode cX7_laysBest 125 = .ok (.goto 4, 3) := by decide +kernel
theorem dX7_laysBest_128 : decode cX7_laysBest 128 = .ok (.iconst 0, 1) := by decide +kernel
theorem dX7_laysBest_129 : decode cX7_laysBest 129 = .ok (.istore 9, 2) := by decide +kernel
theorem dX7_laysBest_131 : decode cX7_laysBest 131 = .ok (.iload 9, 2) := by decide +kernel
theorem dX7_laysBest_133 : decode cX7_laysBest 133 = .ok (.ifCond .eq 59, 3) := by decide +kernel
theorem dX7_laysBest_136 : decode cX7_laysBest 136 = .ok (.aload_n 0, 1) := by decide +kernel
theorem dX7_laysBest_137 : decode cX7_laysBest 137 = .ok (.iload 4, 2) := by decide +kernel
theorem dX7_laysBest_139 : decode cX7_laysBest 139 = .ok (.iload 8, 2) := by decide +kernel
theorem dX7_laysBest_141 : decode cX7_laysBest 141 = .ok (.invokevirtual 234, 3) := by decide +kernel
theorem dX7_laysBest_144 : decode cX7_laysBest 144 = .ok (.ldc 237, 2) := by decide +kernel
theorem dX7_laysBest_146 : decode cX7_laysBest 146 = .ok (.if_icmp .ge 46, 3) := by decide +kernel
theorem dX7_laysBest_149 : decode cX7_laysBest 149 = .ok (.aload_n 0, 1) := by decide +kernel
theorem dX7_laysBest_150 : decode cX7_laysBest 150 = .ok (.iload 4, 2) := by decide +kernel
theorem dX7_laysBest_152 : decode cX7_laysBest 152 = .ok (.iload_n 3, 1) := by decide +kernel
theorem dX7_laysBest_153 : decode cX7_laysBest 153 = .ok (.iload 8, 2) := by decide +kernel
theorem dX7_laysBest_155 : decode cX7_laysBest 155 = .ok (.isub, 1) := by decide +kernel
theorem dX7_laysBest_156 : decode cX7_laysBest 156 = .ok (.invokevirtual 234, 3) := by decide +kernel
theorem dX7_laysBest_159 : decode cX7_laysBest 159 = .ok (.ldc 237, 2) := by decide +kernel
theorem dX7_laysBest_161 : decode cX7_laysBest 161 = .ok (.if_icmp .ge 31, 3) := by decide +kernel
theorem dX7_laysBest_164 : decode cX7_laysBest 164 = .ok (.aload_n 0, 1) := by decide +kernel
theorem dX7_laysBest_165 : decode cX7_laysBest 165 = .ok (.iload 5, 2) := by decide +kernel
theorem dX7_laysBest_167 : decode cX7_laysBest 167 = .ok (.aload_n 0, 1) := by decide +kernel
theorem dX7_laysBest_168 : decode cX7_laysBest 168 = .ok (.iload 4, 2) := by decide +kernel
theorem dX7_laysBest_170 : decode cX7_laysBest 170 = .ok (.iload 8, 2) := by decide +kernel
theorem dX7_laysBest_172 : decode cX7_laysBest 172 = .ok (.invokevirtual 234, 3) := by decide +kernel
theorem dX7_laysBest_175 : decode cX7_laysBest 175 = .ok (.aload_n 0, 1) := by decide +kernel
theorem dX7_laysBest_176 : decode cX7_laysBest 176 = .ok (.iload 4, 2) := by decide +kernel
theorem dX7_laysBest_178 : decode cX7_laysBest 178 = .ok (.iload_n 3, 1) := by decide +kernel
theorem dX7_laysBest_179 : decode cX7_laysBest 179 = .ok (.iload 8, 2) := by decide +kernel
theorem dX7_laysBest_181 : decode cX7_laysBest 181 = .ok (.isub, 1) := by decide +kernel
theorem dX7_laysBest_182 : decode cX7_laysBest 182 = .ok (.invokevirtual 234, 3) := by decide +kernel
theorem dX7_laysBest_185 : decode cX7_laysBest 185 = .ok (.iadd, 1) := by decide +kernel
theorem dX7_laysBest_186 : decode cX7_laysBest 186 = .ok (.iload 8, 2) := by decide +kernel
theorem dX7_laysBest_188 : decode cX7_laysBest 188 = .ok (.ineg, 1) := by decide +kernel
theorem dX7_laysBest_189 : decode cX7_laysBest 189 = .ok (.invokevirtual 241, 3) := by decide +kernel
theorem dX7_laysBest_192 : decode cX7_laysBest 192 = .ok (.iinc 8 1, 3) := by decide +kernel
theorem dX7_laysBest_195 : decode cX7_laysBest 195 = .ok (.goto (-94), 3) := by decide +kernel
theorem dX7_laysBest_198 : decode cX7_laysBest 198 = .ok (.iload_n 1, 1) := by decide +kernel
theorem dX7_laysBest_199 : decode cX7_laysBest 199 = .ok (.ifCond .ne 39, 3) := by decide +kernel
theorem dX7_laysBest_202 : decode cX7_laysBest 202 = .ok (.iconst 0, 1) := by decide +kernel
theorem dX7_laysBest_203 : decode cX7_laysBest 203 = .ok (.istore 8, 2) := by decide +kernel
theorem dX7_laysBest_205 : decode cX7_laysBest 205 = .ok (.iload 8, 2) := by decide +kernel
theorem dX7_laysBest_207 : decode cX7_laysBest 207 = .ok (.aload_n 0, 1) := by decide +kernel
theorem dX7_laysBest_208 : decode cX7_laysBest 208 = .ok (.getfield 86, 3) := by decide +kernel
theorem dX7_laysBest_211 : decode cX7_laysBest 211 = .ok (.if_icmp .ge 24, 3) := by decide +kernel
theorem dX7_laysBest_214 : decode cX7_laysBest 214 = .ok (.aload_n 0, 1) := by decide +kernel
theorem dX7_laysBest_215 : decode cX7_laysBest 215 = .ok (.iload 5, 2) := by decide +kernel
theorem dX7_laysBest_217 : decode cX7_laysBest 217 = .ok (.iload_n 3, 1) := by decide +kernel
theorem dX7_laysBest_218 : decode cX7_laysBest 218 = .ok (.iconst 1, 1) := by decide +kernel
theorem dX7_laysBest_219 : decode cX7_laysBest 219 = .ok (.iload 8, 2) := by decide +kernel
theorem dX7_laysBest_221 : decode cX7_laysBest 221 = .ok (.iconst 0, 1) := by decide +kernel
theorem dX7_laysBest_222 : decode cX7_laysBest 222 = .ok (.iconst 1, 1) := by decide +kernel
theorem dX7_laysBest_223 : decode cX7_laysBest 223 = .ok (.iload 8, 2) := by decide +kernel
theorem dX7_laysBest_225 : decode cX7_laysBest 225 = .ok (.iadd, 1) := by decide +kernel
theorem dX7_laysBest_226 : decode cX7_laysBest 226 = .ok (.invokevirtual 244, 3) := by decide +kernel
theorem dX7_laysBest_229 : decode cX7_laysBest 229 = .ok (.iinc 8 1, 3) := by decide +kernel
theorem dX7_laysBest_232 : decode cX7_laysBest 232 = .ok (.goto (-27), 3) := by decide +kernel
theorem dX7_laysBest_235 : decode cX7_laysBest 235 = .ok (.goto 62, 3) := by decide +kernel
theorem dX7_laysBest_238 : decode cX7_laysBest 238 = .ok (.iload_n 1, 1) := by decide +kernel
theorem dX7_laysBest_239 : decode cX7_laysBest 239 = .ok (.aload_n 0, 1) := by decide +kernel
theorem dX7_laysBest_240 : decode cX7_laysBest 240 = .ok (.getfield 83, 3) := by decide +kernel
theorem dX7_laysBest_243 : decode cX7_laysBest 243 = .ok (.if_icmp .ge 54, 3) := by decide +kernel
theorem dX7_laysBest_246 : decode cX7_laysBest 246 = .ok (.aload_n 0, 1) := by decide +kernel
theorem dX7_laysBest_247 : decode cX7_laysBest 247 = .ok (.iload 5, 2) := by decide +kernel
theorem dX7_laysBest_249 : decode cX7_laysBest 249 = .ok (.iload_n 3, 1) := by decide +kernel
theorem dX7_laysBest_250 : decode cX7_laysBest 250 = .ok (.iload_n 1, 1) := by decide +kernel
theorem dX7_laysBest_251 : decode cX7_laysBest 251 = .ok (.iconst 1, 1) := by decide +kernel
theorem dX7_laysBest_252 : decode cX7_laysBest 252 = .ok (.iadd, 1) := by decide +kernel
theorem dX7_laysBest_253 : decode cX7_laysBest 253 = .ok (.iload_n 2, 1) := by decide +kernel
theorem dX7_laysBest_254 : decode cX7_laysBest 254 = .ok (.iconst 0, 1) := by decide +kernel
theorem dX7_laysBest_255 : decode cX7_laysBest 255 = .ok (.iconst 1, 1) := by decide +kernel
theorem dX7_laysBest_256 : decode cX7_laysBest 256 = .ok (.invokevirtual 244, 3) := by decide +kernel
theorem dX7_laysBest_259 : decode cX7_laysBest 259 = .ok (.aload_n 0, 1) := by decide +kernel
theorem dX7_laysBest_260 : decode cX7_laysBest 260 = .ok (.iload 5, 2) := by decide +kernel
theorem dX7_laysBest_262 : decode cX7_laysBest 262 = .ok (.iload_n 3, 1) := by decide +kernel
theorem dX7_laysBest_263 : decode cX7_laysBest 263 = .ok (.iload_n 1, 1) := by decide +kernel
theorem dX7_laysBest_264 : decode cX7_laysBest 264 = .ok (.iconst 1, 1) := by decide +kernel
theorem dX7_laysBest_265 : decode cX7_laysBest 265 = .ok (.iadd, 1) := by decide +kernel
theorem dX7_laysBest_266 : decode cX7_laysBest 266 = .ok (.aload_n 0, 1) := by decide +kernel
theorem dX7_laysBest_267 : decode cX7_laysBest 267 = .ok (.iload_n 2, 1) := by decide +kernel
theorem dX7_laysBest_268 : decode cX7_laysBest 268 = .ok (.iconst 1, 1) := by decide +kernel
theorem dX7_laysBest_269 : decode cX7_laysBest 269 = .ok (.isub, 1) := by decide +kernel
theorem dX7_laysBest_270 : decode cX7_laysBest 270 = .ok (.invokevirtual 200, 3) := by decide +kernel
theorem dX7_laysBest_273 : decode cX7_laysBest 273 = .ok (.iconst 2, 1) := by decide +kernel
theorem dX7_laysBest_274 : decode cX7_laysBest 274 = .ok (.iconst 2, 1) := by decide +kernel
theorem dX7_laysBest_275 : decode cX7_laysBest 275 = .ok (.invokevirtual 244, 3) := by decide +kernel
theorem dX7_laysBest_278 : decode cX7_laysBest 278 = .ok (.aload_n 0, 1) := by decide +kernel
theorem dX7_laysBest_279 : decode cX7_laysBest 279 = .ok (.iload 5, 2) := by decide +kernel
theorem dX7_laysBest_281 : decode cX7_laysBest 281 = .ok (.iload_n 3, 1) := by decide +kernel
theorem dX7_laysBest_282 : decode cX7_laysBest 282 = .ok (.iload_n 1, 1) := by decide +kernel
theorem dX7_laysBest_283 : decode cX7_laysBest 283 = .ok (.iconst 1, 1) := by decide +kernel
theorem dX7_laysBest_284 : decode cX7_laysBest 284 = .ok (.iadd, 1) := by decide +kernel
theorem dX7_laysBest_285 : decode cX7_laysBest 285 = .ok (.aload_n 0, 1) := by decide +kernel
theorem dX7_laysBest_286 : decode cX7_laysBest 286 = .ok (.iload_n 2, 1) := by decide +kernel
theorem dX7_laysBest_287 : decode cX7_laysBest 287 = .ok (.iconst 1, 1) := by decide +kernel
theorem dX7_laysBest_288 : decode cX7_laysBest 288 = .ok (.iadd, 1) := by decide +kernel
theorem dX7_laysBest_289 : decode cX7_laysBest 289 = .ok (.invokevirtual 200, 3) := by decide +kernel
theorem dX7_laysBest_292 : decode cX7_laysBest 292 = .ok (.iconst 1, 1) := by decide +kernel
theorem dX7_laysBest_293 : decode cX7_laysBest 293 = .ok (.iconst 3, 1) := by decide +kernel
theorem dX7_laysBest_294 : decode cX7_laysBest 294 = .ok (.invokevirtual 244, 3) := by decide +kernel
theorem dX7_laysBest_297 : decode cX7_laysBest 297 = .ok (.return_, 1) := by decide +kernel
set_option maxRecDepth 20000 in
theorem ggX7_laysAllBest_X7_laysBest : GoodIn wsX7_laysAllBest wsX7_laysBest := goodIn_r _ [10, 11, 12, 13, 14, 5, 4, 15, 16, 9, 17, 18, 19, 20, 21, 2, 22, 23, 24, 25, 26, 27, 28, 29, 30, 31, 32, 33, 34, 35, 36, 1, 37, 38, 39, 40, 41, 42, 43, 44, 45, 46, 47, 48, 49, 50, 51, 52, 53, 54, 55, 56, 57, 58, 59, 60, 61, 62, 63, 64, 65, 66, 67, 68, 69, 70, 71, 72, 73, 74, 75, 76, 77, 78, 79, 80] (by decide +kernel) (by decide +kernel)
set_option maxRecDepth 20000 in
theorem gX7_laysAllBest_X7_laysBest : GoodIn wsX7_laysAllBest (wsV RX7 248 RX7 yX7_laysBest wsX7_laysBest) := goodIn_app (goodIn_of _ (by decide +kernel)) ggX7_laysAllBest_X7_laysBest
theorem dX7_laysAllBest_0 : decode cX7_laysAllBest 0 = .ok (.iconst 0, 1) := by decide +kernel
theorem dX7_laysAllBest_1 : decode cX7_laysAllBest 1 = .ok (.istore_n 1, 1) := by decide +kernel
theorem dX7_laysAllBest_2 : decode cX7_laysAllBest 2 = .ok (.iload_n 1, 1) := by decide +kernel
theorem dX7_laysAllBest_3 : decode cX7_laysAllBest 3 = .ok (.sipush 128, 3) := by decide +kernel
theorem dX7_laysAllBest_6 : decode cX7_laysAllBest 6 = .ok (.if_icmp .ge 60, 3) := by decide +kernel
theorem dX7_laysAllBest_9 : decode cX7_laysAllBest 9 = .ok (.aload_n 0, 1) := by decide +kernel
theorem dX7_laysAllBest_10 : decode cX7_laysAllBest 10 = .ok (.getfield 52, 3) := by decide +kernel
theorem dX7_laysAllBest_13 : decode cX7_laysAllBest 13 = .ok (.iload_n 1, 1) := by decide +kernel
theorem dX7_laysAllBest_14 : decode cX7_laysAllBest 14 = .ok (.iconst 0, 1) := by decide +kernel
theorem dX7_laysAllBest_15 : decode cX7_laysAllBest 15 = .ok (.iastore, 1) := by decide +kernel
theorem dX7_laysAllBest_16 : decode cX7_laysAllBest 16 = .ok (.iconst 0, 1) := by decide +kernel
theorem dX7_laysAllBest_17 : decode cX7_laysAllBest 17 = .ok (.istore_n 2, 1) := by decide +kernel
theorem dX7_laysAllBest_18 : decode cX7_laysAllBest 18 = .ok (.iload_n 2, 1) := by decide +kernel
theorem dX7_laysAllBest_19 : decode cX7_laysAllBest 19 = .ok (.aload_n 0, 1) := by decide +kernel
theorem dX7_laysAllBest_20 : decode cX7_laysAllBest 20 = .ok (.getfield 89, 3) := by decide +kernel
theorem dX7_laysAllBest_23 : decode cX7_laysAllBest 23 = .ok (.if_icmp .ge 37, 3) := by decide +kernel
theorem dX7_laysAllBest_26 : decode cX7_laysAllBest 26 = .ok (.aload_n 0, 1) := by decide +kernel
theorem dX7_laysAllBest_27 : decode cX7_laysAllBest 27 = .ok (.getfield 52, 3) := by decide +kernel
theorem dX7_laysAllBest_30 : decode cX7_laysAllBest 30 = .ok (.iload_n 1, 1) := by decide +kernel
theorem dX7_laysAllBest_31 : decode cX7_laysAllBest 31 = .ok (.dup2, 1) := by decide +kernel
theorem dX7_laysAllBest_32 : decode cX7_laysAllBest 32 = .ok (.iaload, 1) := by decide +kernel
theorem dX7_laysAllBest_33 : decode cX7_laysAllBest 33 = .ok (.iload_n 1, 1) := by decide +kernel
theorem dX7_laysAllBest_34 : decode cX7_laysAllBest 34 = .ok (.iload_n 2, 1) := by decide +kernel
theorem dX7_laysAllBest_35 : decode cX7_laysAllBest 35 = .ok (.ishr, 1) := by decide +kernel
theorem dX7_laysAllBest_36 : decode cX7_laysAllBest 36 = .ok (.iconst 1, 1) := by decide +kernel
theorem dX7_laysAllBest_37 : decode cX7_laysAllBest 37 = .ok (.iand, 1) := by decide +kernel
theorem dX7_laysAllBest_38 : decode cX7_laysAllBest 38 = .ok (.iconst 1, 1) := by decide +kernel
theorem dX7_laysAllBest_39 : decode cX7_laysAllBest 39 = .ok (.if_icmp .ne 12, 3) := by decide +kernel
theorem dX7_laysAllBest_42 : decode cX7_laysAllBest 42 = .ok (.aload_n 0, 1) := by decide +kernel
theorem dX7_laysAllBest_43 : decode cX7_laysAllBest 43 = .ok (.getfield 20, 3) := by decide +kernel
theorem dX7_laysAllBest_46 : decode cX7_laysAllBest 46 = .ok (.iload_n 2, 1) := by decide +kernel
theorem dX7_laysAllBest_47 : decode cX7_laysAllBest 47 = .ok (.iaload, 1) := by decide +kernel
theorem dX7_laysAllBest_48 : decode cX7_laysAllBest 48 = .ok (.goto 4, 3) := by decide +kernel
theorem dX7_laysAllBest_51 : decode cX7_laysAllBest 51 = .ok (.iconst 0, 1) := by decide +kernel
theorem dX7_laysAllBest_52 : decode cX7_laysAllBest 52 = .ok (.iadd, 1) := by decide +kernel
theorem dX7_laysAllBest_53 : decode cX7_laysAllBest 53 = .ok (.iastore, 1) := by decide +kernel
theorem dX7_laysAllBest_54 : decode cX7_laysAllBest 54 = .ok (.iinc 2 1, 3) := by decide +kernel
theorem dX7_laysAllBest_57 : decode cX7_laysAllBest 57 = .ok (.goto (-39), 3) := by decide +kernel
theorem dX7_laysAllBest_60 : decode cX7_laysAllBest 60 = .ok (.iinc 1 1, 3) := by decide +kernel
theorem dX7_laysAllBest_63 : decode cX7_laysAllBest 63 = .ok (.goto (-61), 3) := by decide +kernel
theorem dX7_laysAllBest_66 : decode cX7_laysAllBest 66 = .ok (.aload_n 0, 1) := by decide +kernel
theorem dX7_laysAllBest_67 : decode cX7_laysAllBest 67 = .ok (.getfield 83, 3) := by decide +kernel
theorem dX7_laysAllBest_70 : decode cX7_laysAllBest 70 = .ok (.istore_n 1, 1) := by decide +kernel
theorem dX7_laysAllBest_71 : decode cX7_laysAllBest 71 = .ok (.iload_n 1, 1) := by decide +kernel
theorem dX7_laysAllBest_72 : decode cX7_laysAllBest 72 = .ok (.ifCond .lt 58, 3) := by decide +kernel
theorem dX7_laysAllBest_75 : decode cX7_laysAllBest 75 = .ok (.iconst 0, 1) := by decide +kernel
theorem dX7_laysAllBest_76 : decode cX7_laysAllBest 76 = .ok (.istore_n 2, 1) := by decide +kernel
theorem dX7_laysAllBest_77 : decode cX7_laysAllBest 77 = .ok (.iload_n 2, 1) := by decide +kernel
theorem dX7_laysAllBest_78 : decode cX7_laysAllBest 78 = .ok (.iload_n 1, 1) := by decide +kernel
theorem dX7_laysAllBest_79 : decode cX7_laysAllBest 79 = .ok (.ifCond .ne 7, 3) := by decide +kernel
theorem dX7_laysAllBest_82 : decode cX7_laysAllBest 82 = .ok (.iconst 1, 1) := by decide +kernel
theorem dX7_laysAllBest_83 : decode cX7_laysAllBest 83 = .ok (.goto 7, 3) := by decide +kernel
theorem dX7_laysAllBest_86 : decode cX7_laysAllBest 86 = .ok (.aload_n 0, 1) := by decide +kernel
theorem dX7_laysAllBest_87 : decode cX7_laysAllBest 87 = .ok (.getfield 86, 3) := by decide +kernel
theorem dX7_laysAllBest_90 : decode cX7_laysAllBest 90 = .ok (.if_icmp .ge 34, 3) := by decide +kernel
theorem dX7_laysAllBest_93 : decode cX7_laysAllBest 93 = .ok (.iconst 1, 1) := by decide +kernel
theorem dX7_laysAllBest_94 : decode cX7_laysAllBest 94 = .ok (.istore_n 3, 1) := by decide +kernel
theorem dX7_laysAllBest_95 : decode cX7_laysAllBest 95 = .ok (.iload_n 3, 1) := by decide +kernel
theorem dX7_laysAllBest_96 : decode cX7_laysAllBest 96 = .ok (.iconst 1, 1) := by decide +kernel
theorem dX7_laysAllBest_97 : decode cX7_laysAllBest 97 = .ok (.aload_n 0, 1) := by decide +kernel
theorem dX7_laysAllBest_98 : decode cX7_laysAllBest 98 = .ok (.getfield 89, 3) := by decide +kernel
theorem dX7_laysAllBest_101 : decode cX7_laysAllBest 101 = .ok (.ishl, 1) := by decide +kernel
theorem dX7_laysAllBest_102 : decode cX7_laysAllBest 102 = .ok (.if_icmp .ge 16, 3) := by decide +kernel
theorem dX7_laysAllBest_105 : decode cX7_laysAllBest 105 = .ok (.aload_n 0, 1) := by decide +kernel
theorem dX7_laysAllBest_106 : decode cX7_laysAllBest 106 = .ok (.iload_n 1, 1) := by decide +kernel
theorem dX7_laysAllBest_107 : decode cX7_laysAllBest 107 = .ok (.iload_n 2, 1) := by decide +kernel
theorem dX7_laysAllBest_108 : decode cX7_laysAllBest 108 = .ok (.iload_n 3, 1) := by decide +kernel
theorem dX7_laysAllBest_109 : decode cX7_laysAllBest 109 = .ok (.invokevirtual 248, 3) := by decide +kernel
theorem dX7_laysAllBest_112 : decode cX7_laysAllBest 112 = .ok (.iinc 3 1, 3) := by decide +kernel
theorem dX7_laysAllBest_115 : decode cX7_laysAllBest 115 = .ok (.goto (-20), 3) := by decide +kernel
theorem dX7_laysAllBest_118 : decode cX7_laysAllBest 118 = .ok (.iinc 2 1, 3) := by decide +kernel
theorem dX7_laysAllBest_121 : decode cX7_laysAllBest 121 = .ok (.goto (-44), 3) := by decide +kernel
theorem dX7_laysAllBest_124 : decode cX7_laysAllBest 124 = .ok (.iinc 1 (-1), 3) := by decide +kernel
theorem dX7_laysAllBest_127 : decode cX7_laysAllBest 127 = .ok (.goto (-56), 3) := by decide +kernel
theorem dX7_laysAllBest_130 : decode cX7_laysAllBest 130 = .ok (.return_, 1) := by decide +kernel
theorem dX7_all_0 : decode cX7_all 0 = .ok (.iconst 1, 1) := by decide +kernel
theorem dX7_all_1 : decode cX7_all 1 = .ok (.aload_n 0, 1) := by decide +kernel
theorem dX7_all_2 : decode cX7_all 2 = .ok (.getfield 89, 3) := by decide +kernel
theorem dX7_all_5 : decode cX7_all 5 = .ok (.ishl, 1) := by decide +kernel
theorem dX7_all_6 : decode cX7_all 6 = .ok (.iconst 1, 1) := by decide +kernel
theorem dX7_all_7 : decode cX7_all 7 = .ok (.isub, 1) := by decide +kernel
theorem dX7_all_8 : decode cX7_all 8 = .ok (.ireturn, 1) := by decide +kernel
set_option maxRecDepth 20000 in
theorem ggX7_leastInk_X7_laysAllBest : GoodIn wsX7_leastInk wsX7_laysAllBest := goodIn_r _ [7, 8, 1, 9, 10, 11, 12, 13, 14, 6, 15, 16, 2, 17, 18, 19, 20, 21, 22, 23, 24, 25, 26, 27, 28, 29, 30, 31, 32, 33, 34, 35, 36, 37, 38, 39, 40, 41, 42, 43, 44, 45, 46, 47, 48, 49, 54, 55, 56, 57, 58, 59, 60, 61, 62, 63, 64, 65, 66, 67, 68, 69, 70, 71, 72, 73, 74, 75, 76, 77, 78, 79, 80, 81, 82, 83, 84, 85, 86, 87, 88] (by decide +kernel) (by decide +kernel)
set_option maxRecDepth 20000 in
theorem gX7_leastInk_X7_laysAllBest : GoodIn wsX7_leastInk (wsV RX7 251 RX7 yX7_laysAllBest wsX7_laysAllBest) := goodIn_app (goodIn_of _ (by decide +kernel)) ggX7_leastInk_X7_laysAllBest
set_option maxRecDepth 20000 in
theorem ggX7_leastInk_X7_all : GoodIn wsX7_leastInk wsX7_all := goodIn_r _ [53, 1, 54, 55, 56, 57, 58, 59, 60, 61, 62, 63, 64, 65, 66, 67, 68, 69, 70, 71, 72, 73, 74, 75, 76, 77, 78, 79, 80, 81, 82, 83, 84, 85, 86, 87, 88] (by decide +kernel) (by decide +kernel)
set_option maxRecDepth 20000 in
theorem gX7_leastInk_X7_all : GoodIn wsX7_leastInk (wsV RX7 254 RX7 yX7_all wsX7_all) := goodIn_app (goodIn_of _ (by decide +kernel)) ggX7_leastInk_X7_all
set_option maxRecDepth 20000 in
theorem ggX7_leastInk_X7_bestOf : GoodIn wsX7_leastInk wsX7_bestOf := goodIn_r _ [31, 16, 54, 55, 56, 57, 58, 59, 60, 61, 62, 63, 64, 65, 66, 67, 68, 69, 70, 71, 72, 73, 74, 75, 76, 77, 78, 79, 80, 81, 82, 83, 84, 85, 86, 87, 88] (by decide +kernel) (by decide +kernel)
set_option maxRecDepth 20000 in
theorem gX7_leastInk_X7_bestOf : GoodIn wsX7_leastInk (wsV RX7 234 RX7 yX7_bestOf wsX7_bestOf) := goodIn_app (goodIn_of _ (by decide +kernel)) ggX7_leastInk_X7_bestOf
theorem dX7_leastInk_0 : decode cX7_leastInk 0 = .ok (.aload_n 0, 1) := by decide +kernel
theorem dX7_leastInk_1 : decode cX7_leastInk 1 = .ok (.invokevirtual 251, 3) := by decide +kernel
theorem dX7_leastInk_4 : decode cX7_leastInk 4 = .ok (.aload_n 0, 1) := by decide +kernel
theorem dX7_leastInk_5 : decode cX7_leastInk 5 = .ok (.getfield 89, 3) := by decide +kernel
theorem dX7_leastInk_8 : decode cX7_leastInk 8 = .ok (.ifCond .ne 7, 3) := by decide +kernel
theorem dX7_leastInk_11 : decode cX7_leastInk 11 = .ok (.iconst 0, 1) := by decide +kernel
theorem dX7_leastInk_12 : decode cX7_leastInk 12 = .ok (.goto 31, 3) := by decide +kernel
theorem dX7_leastInk_15 : decode cX7_leastInk 15 = .ok (.aload_n 0, 1) := by decide +kernel
theorem dX7_leastInk_16 : decode cX7_leastInk 16 = .ok (.iconst 0, 1) := by decide +kernel
theorem dX7_leastInk_17 : decode cX7_leastInk 17 = .ok (.aload_n 0, 1) := by decide +kernel
theorem dX7_leastInk_18 : decode cX7_leastInk 18 = .ok (.invokevirtual 254, 3) := by decide +kernel
theorem dX7_leastInk_21 : decode cX7_leastInk 21 = .ok (.invokevirtual 234, 3) := by decide +kernel
theorem dX7_leastInk_24 : decode cX7_leastInk 24 = .ok (.ldc 237, 2) := by decide +kernel
theorem dX7_leastInk_26 : decode cX7_leastInk 26 = .ok (.if_icmp .ge 15, 3) := by decide +kernel
theorem dX7_leastInk_29 : decode cX7_leastInk 29 = .ok (.aload_n 0, 1) := by decide +kernel
theorem dX7_leastInk_30 : decode cX7_leastInk 30 = .ok (.iconst 0, 1) := by decide +kernel
theorem dX7_leastInk_31 : decode cX7_leastInk 31 = .ok (.aload_n 0, 1) := by decide +kernel
theorem dX7_leastInk_32 : decode cX7_leastInk 32 = .ok (.invokevirtual 254, 3) := by decide +kernel
theorem dX7_leastInk_35 : decode cX7_leastInk 35 = .ok (.invokevirtual 234, 3) := by decide +kernel
theorem dX7_leastInk_38 : decode cX7_leastInk 38 = .ok (.goto 5, 3) := by decide +kernel
theorem dX7_leastInk_41 : decode cX7_leastInk 41 = .ok (.bipush (-2), 2) := by decide +kernel
theorem dX7_leastInk_43 : decode cX7_leastInk 43 = .ok (.ireturn, 1) := by decide +kernel
set_option maxRecDepth 20000 in
theorem ggX7_follows_X7_cell : GoodIn wsX7_follows wsX7_cell := goodIn_r _ [8] (by decide +kernel) (by decide +kernel)
set_option maxRecDepth 20000 in
theorem gX7_follows_X7_cell : GoodIn wsX7_follows (va_wsS RX7 170 yX7_cell wsX7_cell) := goodIn_app (goodIn_of _ (by decide +kernel)) ggX7_follows_X7_cell
set_option maxRecDepth 20000 in
theorem ggX7_follows_X7_follows : GoodIn wsX7_follows wsX7_follows := goodIn_r _ [0, 1, 2, 3, 4, 5, 6, 7, 8, 9, 10, 11, 12, 13, 14, 15, 16, 17, 18, 19, 20, 21, 22, 23, 24, 25, 26, 27, 28, 29, 30, 31, 32, 33, 34, 35, 36, 37, 38, 39, 40, 41, 42, 43, 44, 45, 46, 47, 48, 49, 50, 51] (by decide +kernel) (by decide +kernel)
set_option maxRecDepth 20000 in
theorem gX7_follows_X7_follows : GoodIn wsX7_follows (wsV RX7 258 RX7 yX7_follows wsX7_follows) := goodIn_app (goodIn_of _ (by decide +kernel)) ggX7_follows_X7_follows
set_option maxRecDepth 20000 in
theorem ggX7_follows_X7_around : GoodIn wsX7_follows wsX7_around := goodIn_r _ [15, 16, 17, 18, 19, 20, 21, 22, 23, 24, 25, 26, 27, 28, 29, 30, 31, 32, 33, 34, 35, 36, 37, 38, 39, 40, 41, 42, 43, 44, 45, 46, 47, 48, 49, 50, 51] (by decide +kernel) (by decide +kernel)
set_option maxRecDepth 20000 in
theorem gX7_follows_X7_around : GoodIn wsX7_follows (wsV RX7 200 RX7 yX7_around wsX7_around) := goodIn_app (goodIn_of _ (by decide +kernel)) ggX7_follows_X7_around
theorem dX7_follows_0 : decode cX7_follows 0 = .ok (.aload_n 0, 1) := by decide +kernel
theorem dX7_follows_1 : decode cX7_follows 1 = .ok (.getfield 49, 3) := by decide +kernel
theorem dX7_follows_4 : decode cX7_follows 4 = .ok (.sipush 128, 3) := by decide +kernel
theorem dX7_follows_7 : decode cX7_follows 7 = .ok (.iload_n 1, 1) := by decide +kernel
theorem dX7_follows_8 : decode cX7_follows 8 = .ok (.iload_n 2, 1) := by decide +kernel
theorem dX7_follows_9 : decode cX7_follows 9 = .ok (.invokestatic 170, 3) := by decide +kernel
theorem dX7_follows_12 : decode cX7_follows 12 = .ok (.imul, 1) := by decide +kernel
theorem dX7_follows_13 : decode cX7_follows 13 = .ok (.iload_n 3, 1) := by decide +kernel
theorem dX7_follows_14 : decode cX7_follows 14 = .ok (.iadd, 1) := by decide +kernel
theorem dX7_follows_15 : decode cX7_follows 15 = .ok (.iaload, 1) := by decide +kernel
theorem dX7_follows_16 : decode cX7_follows 16 = .ok (.istore 4, 2) := by decide +kernel
theorem dX7_follows_18 : decode cX7_follows 18 = .ok (.iload 4, 2) := by decide +kernel
theorem dX7_follows_20 : decode cX7_follows 20 = .ok (.ifCond .ge 25, 3) := by decide +kernel
theorem dX7_follows_23 : decode cX7_follows 23 = .ok (.aload_n 0, 1) := by decide +kernel
theorem dX7_follows_24 : decode cX7_follows 24 = .ok (.iload_n 1, 1) := by decide +kernel
theorem dX7_follows_25 : decode cX7_follows 25 = .ok (.iload_n 2, 1) := by decide +kernel
theorem dX7_follows_26 : decode cX7_follows 26 = .ok (.iload 4, 2) := by decide +kernel
theorem dX7_follows_28 : decode cX7_follows 28 = .ok (.ineg, 1) := by decide +kernel
theorem dX7_follows_29 : decode cX7_follows 29 = .ok (.invokevirtual 258, 3) := by decide +kernel
theorem dX7_follows_32 : decode cX7_follows 32 = .ok (.aload_n 0, 1) := by decide +kernel
theorem dX7_follows_33 : decode cX7_follows 33 = .ok (.iload_n 1, 1) := by decide +kernel
theorem dX7_follows_34 : decode cX7_follows 34 = .ok (.iload_n 2, 1) := by decide +kernel
theorem dX7_follows_35 : decode cX7_follows 35 = .ok (.iload_n 3, 1) := by decide +kernel
theorem dX7_follows_36 : decode cX7_follows 36 = .ok (.iload 4, 2) := by decide +kernel
theorem dX7_follows_38 : decode cX7_follows 38 = .ok (.iadd, 1) := by decide +kernel
theorem dX7_follows_39 : decode cX7_follows 39 = .ok (.invokevirtual 258, 3) := by decide +kernel
theorem dX7_follows_42 : decode cX7_follows 42 = .ok (.goto 115, 3) := by decide +kernel
theorem dX7_follows_45 : decode cX7_follows 45 = .ok (.iload 4, 2) := by decide +kernel
theorem dX7_follows_47 : decode cX7_follows 47 = .ok (.ifCond .le 110, 3) := by decide +kernel
theorem dX7_follows_50 : decode cX7_follows 50 = .ok (.iload_n 1, 1) := by decide +kernel
theorem dX7_follows_51 : decode cX7_follows 51 = .ok (.ifCond .ne 10, 3) := by decide +kernel
theorem dX7_follows_54 : decode cX7_follows 54 = .ok (.iload 4, 2) := by decide +kernel
theorem dX7_follows_56 : decode cX7_follows 56 = .ok (.iconst 1, 1) := by decide +kernel
theorem dX7_follows_57 : decode cX7_follows 57 = .ok (.isub, 1) := by decide +kernel
theorem dX7_follows_58 : decode cX7_follows 58 = .ok (.goto 32, 3) := by decide +kernel
theorem dX7_follows_61 : decode cX7_follows 61 = .ok (.iload 4, 2) := by decide +kernel
theorem dX7_follows_63 : decode cX7_follows 63 = .ok (.iconst 1, 1) := by decide +kernel
theorem dX7_follows_64 : decode cX7_follows 64 = .ok (.if_icmp .ne 7, 3) := by decide +kernel
theorem dX7_follows_67 : decode cX7_follows 67 = .ok (.iload_n 2, 1) := by decide +kernel
theorem dX7_follows_68 : decode cX7_follows 68 = .ok (.goto 22, 3) := by decide +kernel
theorem dX7_follows_71 : decode cX7_follows 71 = .ok (.aload_n 0, 1) := by decide +kernel
theorem dX7_follows_72 : decode cX7_follows 72 = .ok (.iload 4, 2) := by decide +kernel
theorem dX7_follows_74 : decode cX7_follows 74 = .ok (.iconst 2, 1) := by decide +kernel
theorem dX7_follows_75 : decode cX7_follows 75 = .ok (.if_icmp .ne 9, 3) := by decide +kernel
theorem dX7_follows_78 : decode cX7_follows 78 = .ok (.iload_n 2, 1) := by decide +kernel
theorem dX7_follows_79 : decode cX7_follows 79 = .ok (.iconst 1, 1) := by decide +kernel
theorem dX7_follows_80 : decode cX7_follows 80 = .ok (.isub, 1) := by decide +kernel
theorem dX7_follows_81 : decode cX7_follows 81 = .ok (.goto 6, 3) := by decide +kernel
theorem dX7_follows_84 : decode cX7_follows 84 = .ok (.iload_n 2, 1) := by decide +kernel
theorem dX7_follows_85 : decode cX7_follows 85 = .ok (.iconst 1, 1) := by decide +kernel
theorem dX7_follows_86 : decode cX7_follows 86 = .ok (.iadd, 1) := by decide +kernel
theorem dX7_follows_87 : decode cX7_follows 87 = .ok (.invokevirtual 200, 3) := by decide +kernel
theorem dX7_follows_90 : decode cX7_follows 90 = .ok (.istore 5, 2) := by decide +kernel
theorem dX7_follows_92 : decode cX7_follows 92 = .ok (.iload_n 1, 1) := by decide +kernel
theorem dX7_follows_93 : decode cX7_follows 93 = .ok (.iconst 1, 1) := by decide +kernel
theorem dX7_follows_94 : decode cX7_follows 94 = .ok (.iadd, 1) := by decide +kernel
theorem dX7_follows_95 : decode cX7_follows 95 = .ok (.iload 5, 2) := by decide +kernel
theorem dX7_follows_97 : decode cX7_follows 97 = .ok (.invokestatic 170, 3) := by decide +kernel
theorem dX7_follows_100 : decode cX7_follows 100 = .ok (.istore 6, 2) := by decide +kernel
theorem dX7_follows_102 : decode cX7_follows 102 = .ok (.aload_n 0, 1) := by decide +kernel
theorem dX7_follows_103 : decode cX7_follows 103 = .ok (.getfield 40, 3) := by decide +kernel
theorem dX7_follows_106 : decode cX7_follows 106 = .ok (.iload 6, 2) := by decide +kernel
theorem dX7_follows_108 : decode cX7_follows 108 = .ok (.iload_n 1, 1) := by decide +kernel
theorem dX7_follows_109 : decode cX7_follows 109 = .ok (.ifCond .eq 9, 3) := by decide +kernel
theorem dX7_follows_112 : decode cX7_follows 112 = .ok (.iload 4, 2) := by decide +kernel
theorem dX7_follows_114 : decode cX7_follows 114 = .ok (.iconst 1, 1) := by decide +kernel
theorem dX7_follows_115 : decode cX7_follows 115 = .ok (.if_icmp .ne 7, 3) := by decide +kernel
theorem dX7_follows_118 : decode cX7_follows 118 = .ok (.iconst 0, 1) := by decide +kernel
theorem dX7_follows_119 : decode cX7_follows 119 = .ok (.goto 14, 3) := by decide +kernel
theorem dX7_follows_122 : decode cX7_follows 122 = .ok (.iload 4, 2) := by decide +kernel
theorem dX7_follows_124 : decode cX7_follows 124 = .ok (.iconst 2, 1) := by decide +kernel
theorem dX7_follows_125 : decode cX7_follows 125 = .ok (.if_icmp .ne 7, 3) := by decide +kernel
theorem dX7_follows_128 : decode cX7_follows 128 = .ok (.iconst 2, 1) := by decide +kernel
theorem dX7_follows_129 : decode cX7_follows 129 = .ok (.goto 4, 3) := by decide +kernel
theorem dX7_follows_132 : decode cX7_follows 132 = .ok (.iconst 1, 1) := by decide +kernel
theorem dX7_follows_133 : decode cX7_follows 133 = .ok (.iastore, 1) := by decide +kernel
theorem dX7_follows_134 : decode cX7_follows 134 = .ok (.aload_n 0, 1) := by decide +kernel
theorem dX7_follows_135 : decode cX7_follows 135 = .ok (.getfield 43, 3) := by decide +kernel
theorem dX7_follows_138 : decode cX7_follows 138 = .ok (.iload 6, 2) := by decide +kernel
theorem dX7_follows_140 : decode cX7_follows 140 = .ok (.aload_n 0, 1) := by decide +kernel
theorem dX7_follows_141 : decode cX7_follows 141 = .ok (.getfield 52, 3) := by decide +kernel
theorem dX7_follows_144 : decode cX7_follows 144 = .ok (.iload_n 3, 1) := by decide +kernel
theorem dX7_follows_145 : decode cX7_follows 145 = .ok (.iaload, 1) := by decide +kernel
theorem dX7_follows_146 : decode cX7_follows 146 = .ok (.iastore, 1) := by decide +kernel
theorem dX7_follows_147 : decode cX7_follows 147 = .ok (.aload_n 0, 1) := by decide +kernel
theorem dX7_follows_148 : decode cX7_follows 148 = .ok (.iload_n 1, 1) := by decide +kernel
theorem dX7_follows_149 : decode cX7_follows 149 = .ok (.iconst 1, 1) := by decide +kernel
theorem dX7_follows_150 : decode cX7_follows 150 = .ok (.iadd, 1) := by decide +kernel
theorem dX7_follows_151 : decode cX7_follows 151 = .ok (.iload 5, 2) := by decide +kernel
theorem dX7_follows_153 : decode cX7_follows 153 = .ok (.iload_n 3, 1) := by decide +kernel
theorem dX7_follows_154 : decode cX7_follows 154 = .ok (.invokevirtual 258, 3) := by decide +kernel
theorem dX7_follows_157 : decode cX7_follows 157 = .ok (.return_, 1) := by decide +kernel
set_option maxRecDepth 20000 in
theorem ggX7_laysLeast_X7_leastInk : GoodIn wsX7_laysLeast wsX7_leastInk := goodIn_r _ [8, 1, 9, 10, 11, 12, 7, 13, 3, 14, 15, 16, 17, 18, 19, 20, 21, 22, 23, 24, 25, 26, 27, 28, 29, 30, 31, 32, 33, 34, 35, 36, 37, 38, 39, 40, 41, 42, 43, 44, 45, 46, 47, 48, 49, 50, 51, 52, 53, 54, 55, 56, 57, 58, 64, 65, 66, 67, 68, 69, 70, 71, 72, 73, 74, 75, 76, 77, 78, 79, 80, 81, 82, 83, 84, 85, 86, 87, 88, 89, 90, 91, 92, 93, 94, 95, 96, 97, 98] (by decide +kernel) (by decide +kernel)
set_option maxRecDepth 20000 in
theorem gX7_laysLeast_X7_leastInk : GoodIn wsX7_laysLeast (wsV RX7 261 RX7 yX7_leastInk wsX7_leastInk) := goodIn_app (goodIn_of _ (by decide +kernel)) ggX7_laysLeast_X7_leastInk
set_option maxRecDepth 20000 in
theorem ggX7_laysLeast_X7_all : GoodIn wsX7_laysLeast wsX7_all := goodIn_r _ [58, 1, 64, 65, 66, 67, 68, 69, 70, 71, 72, 73, 74, 75, 76, 77, 78, 79, 80, 81, 82, 83, 84, 85, 86, 87, 88, 89, 90, 91, 92, 93, 94, 95, 96, 97, 98] (by decide +kernel) (by decide +kernel)
set_option maxRecDepth 20000 in
theorem gX7_laysLeast_X7_all : GoodIn wsX7_laysLeast (wsV RX7 254 RX7 yX7_all wsX7_all) := goodIn_app (goodIn_of _ (by decide +kernel)) ggX7_laysLeast_X7_all
set_option maxRecDepth 20000 in
theorem ggX7_laysLeast_X7_follows : GoodIn wsX7_laysLeast wsX7_follows := goodIn_r _ [62, 22, 63, 2, 3, 24, 25, 7, 26, 59, 60, 61, 51, 52, 53, 54, 16, 64, 65, 66, 67, 68, 69, 70, 71, 72, 73, 74, 75, 76, 77, 78, 79, 80, 81, 82, 83, 84, 85, 86, 87, 88, 89, 90, 91, 92, 93, 94, 95, 96, 97, 98] (by decide +kernel) (by decide +kernel)
set_option maxRecDepth 20000 in
theorem gX7_laysLeast_X7_follows : GoodIn wsX7_laysLeast (wsV RX7 258 RX7 yX7_follows wsX7_follows) := goodIn_app (goodIn_of _ (by decide +kernel)) ggX7_laysLeast_X7_follows
theorem dX7_laysLeast_0 : decode cX7_laysLeast 0 = .ok (.aload_n 0, 1) := by decide +kernel
theorem dX7_laysLeast_1 : decode cX7_laysLeast 1 = .ok (.invokevirtual 261, 3) := by decide +kernel
theorem dX7_laysLeast_4 : decode cX7_laysLeast 4 = .ok (.bipush (-2), 2) := by decide +kernel
theorem dX7_laysLeast_6 : decode cX7_laysLeast 6 = .ok (.if_icmp .ne 5, 3) := by decide +kernel
theorem dX7_laysLeast_9 : decode cX7_laysLeast 9 = .ok (.iconst 0, 1) := by decide +kernel
theorem dX7_laysLeast_10 : decode cX7_laysLeast 10 = .ok (.ireturn, 1) := by decide +kernel
theorem dX7_laysLeast_11 : decode cX7_laysLeast 11 = .ok (.aload_n 0, 1) := by decide +kernel
theorem dX7_laysLeast_12 : decode cX7_laysLeast 12 = .ok (.getfield 89, 3) := by decide +kernel
theorem dX7_laysLeast_15 : decode cX7_laysLeast 15 = .ok (.ifCond .le 28, 3) := by decide +kernel
theorem dX7_laysLeast_18 : decode cX7_laysLeast 18 = .ok (.aload_n 0, 1) := by decide +kernel
theorem dX7_laysLeast_19 : decode cX7_laysLeast 19 = .ok (.iconst 0, 1) := by decide +kernel
theorem dX7_laysLeast_20 : decode cX7_laysLeast 20 = .ok (.iconst 0, 1) := by decide +kernel
theorem dX7_laysLeast_21 : decode cX7_laysLeast 21 = .ok (.aload_n 0, 1) := by decide +kernel
theorem dX7_laysLeast_22 : decode cX7_laysLeast 22 = .ok (.invokevirtual 254, 3) := by decide +kernel
theorem dX7_laysLeast_25 : decode cX7_laysLeast 25 = .ok (.invokevirtual 258, 3) := by decide +kernel
theorem dX7_laysLeast_28 : decode cX7_laysLeast 28 = .ok (.aload_n 0, 1) := by decide +kernel
theorem dX7_laysLeast_29 : decode cX7_laysLeast 29 = .ok (.getfield 43, 3) := by decide +kernel
theorem dX7_laysLeast_32 : decode cX7_laysLeast 32 = .ok (.iconst 0, 1) := by decide +kernel
theorem dX7_laysLeast_33 : decode cX7_laysLeast 33 = .ok (.aload_n 0, 1) := by decide +kernel
theorem dX7_laysLeast_34 : decode cX7_laysLeast 34 = .ok (.getfield 52, 3) := by decide +kernel
theorem dX7_laysLeast_37 : decode cX7_laysLeast 37 = .ok (.aload_n 0, 1) := by decide +kernel
theorem dX7_laysLeast_38 : decode cX7_laysLeast 38 = .ok (.invokevirtual 254, 3) := by decide +kernel
theorem dX7_laysLeast_41 : decode cX7_laysLeast 41 = .ok (.iaload, 1) := by decide +kernel
theorem dX7_laysLeast_42 : decode cX7_laysLeast 42 = .ok (.iastore, 1) := by decide +kernel
theorem dX7_laysLeast_43 : decode cX7_laysLeast 43 = .ok (.iconst 1, 1) := by decide +kernel
theorem dX7_laysLeast_44 : decode cX7_laysLeast 44 = .ok (.ireturn, 1) := by decide +kernel
set_option maxRecDepth 20000 in
theorem ggX7_lays_X7_clears : GoodIn wsX7_lays wsX7_clears := goodIn_r _ [5, 6, 7, 8, 9, 10, 11, 12, 13, 4, 14, 120, 121, 122, 123, 124, 125, 126, 127, 128, 129, 130, 131, 132, 133, 134, 135, 136, 137, 138, 139, 140, 141, 142, 143, 144, 145, 146, 147, 148, 149, 150, 151, 152, 153, 154] (by decide +kernel) (by decide +kernel)
set_option maxRecDepth 20000 in
theorem gX7_lays_X7_clears : GoodIn wsX7_lays (wsV RX7 264 RX7 yX7_clears wsX7_clears) := goodIn_app (goodIn_of _ (by decide +kernel)) ggX7_lays_X7_clears
set_option maxRecDepth 20000 in
theorem ggX7_lays_X7_laysStraight : GoodIn wsX7_lays wsX7_laysStraight := goodIn_r _ [18, 19, 20, 7, 12, 13, 4, 14, 21, 22, 23, 24, 25, 26, 27, 28, 29, 30, 31, 32, 33, 34, 35, 36, 37, 38, 39, 40, 41, 6, 120, 121, 122, 123, 124, 125, 126, 127, 128, 129, 130, 131, 132, 133, 134, 135, 136, 137, 138, 139, 140, 141, 142, 143, 144, 145, 146, 147, 148, 149, 150, 151, 152, 153, 154] (by decide +kernel) (by decide +kernel)
set_option maxRecDepth 20000 in
theorem gX7_lays_X7_laysStraight : GoodIn wsX7_lays (wsV RX7 267 RX7 yX7_laysStraight wsX7_laysStraight) := goodIn_app (goodIn_of _ (by decide +kernel)) ggX7_lays_X7_laysStraight
set_option maxRecDepth 20000 in
theorem ggX7_lays_X7_laysLean : GoodIn wsX7_lays wsX7_laysLean := goodIn_r _ [45, 19, 20, 7, 12, 13, 4, 14, 46, 47, 48, 49, 50, 34, 35, 36, 37, 51, 52, 53, 54, 55, 56, 57, 21, 22, 23, 24, 25, 26, 27, 28, 29, 30, 31, 32, 33, 38, 39, 40, 41, 6, 120, 121, 122, 123, 124, 125, 126, 127, 128, 129, 130, 131, 132, 133, 134, 135, 136, 137, 138, 139, 140, 141, 142, 143, 144, 145, 146, 147, 148, 149, 150, 151, 152, 153, 154] (by decide +kernel) (by decide +kernel)
set_option maxRecDepth 20000 in
theorem gX7_lays_X7_laysLean : GoodIn wsX7_lays (wsV RX7 228 RX7 yX7_laysLean wsX7_laysLean) := goodIn_app (goodIn_of _ (by decide +kernel)) ggX7_lays_X7_laysLean
set_option maxRecDepth 20000 in
theorem ggX7_lays_X7_laysStraightened : GoodIn wsX7_lays wsX7_laysStraightened := goodIn_r _ [61, 19, 20, 42, 43, 44, 4, 45, 7, 12, 13, 14, 46, 47, 48, 49, 50, 34, 35, 36, 37, 51, 52, 53, 54, 55, 56, 57, 21, 22, 23, 24, 25, 26, 27, 28, 29, 30, 31, 32, 33, 38, 39, 40, 41, 6, 62, 63, 64, 65, 66, 67, 68, 69, 8, 9, 10, 70, 71, 72, 73, 120, 121, 122, 123, 124, 125, 126, 127, 128, 129, 130, 131, 132, 133, 134, 135, 136, 137, 138, 139, 140, 141, 142, 143, 144, 145, 146, 147, 148, 149, 150, 151, 152, 153, 154] (by decide +kernel) (by decide +kernel)
set_option maxRecDepth 20000 in
theorem gX7_lays_X7_laysStraightened : GoodIn wsX7_lays (wsV RX7 270 RX7 yX7_laysStraightened wsX7_laysStraightened) := goodIn_app (goodIn_of _ (by decide +kernel)) ggX7_lays_X7_laysStraightened
set_option maxRecDepth 20000 in
theorem ggX7_lays_X7_laysLeast : GoodIn wsX7_lays wsX7_laysLeast := goodIn_r _ [77, 8, 7, 78, 79, 80, 81, 4, 82, 83, 84, 85, 86, 87, 11, 19, 20, 88, 89, 90, 91, 92, 93, 25, 12, 13, 14, 66, 67, 68, 69, 9, 10, 94, 95, 96, 97, 98, 99, 100, 101, 102, 103, 104, 105, 106, 107, 108, 109, 110, 111, 34, 35, 36, 37, 112, 113, 114, 115, 116, 117, 118, 119, 6, 120, 121, 122, 123, 124, 125, 126, 127, 128, 129, 130, 131, 132, 133, 134, 135, 136, 137, 138, 139, 140, 141, 142, 143, 144, 145, 146, 147, 148, 149, 150, 151, 152, 153, 154] (by decide +kernel) (by decide +kernel)
set_option maxRecDepth 20000 in
theorem gX7_lays_X7_laysLeast : GoodIn wsX7_lays (wsV RX7 273 RX7 yX7_laysLeast wsX7_laysLeast) := goodIn_app (goodIn_of _ (by decide +kernel)) ggX7_lays_X7_laysLeast
theorem dX7_lays_0 : decode cX7_lays 0 = .ok (.aload_n 0, 1) := by decide +kernel
theorem dX7_lays_1 : decode cX7_lays 1 = .ok (.invokevirtual 264, 3) := by decide +kernel
theorem dX7_lays_4 : decode cX7_lays 4 = .ok (.iload_n 1, 1) := by decide +kernel
theorem dX7_lays_5 : decode cX7_lays 5 = .ok (.tableswitch 42 1 3 #[27, 32, 37], 27) := by decide +kernel
theorem dX7_lays_32 : decode cX7_lays 32 = .ok (.aload_n 0, 1) := by decide +kernel
theorem dX7_lays_33 : decode cX7_lays 33 = .ok (.invokevirtual 267, 3) := by decide +kernel
theorem dX7_lays_36 : decode cX7_lays 36 = .ok (.ireturn, 1) := by decide +kernel
theorem dX7_lays_37 : decode cX7_lays 37 = .ok (.aload_n 0, 1) := by decide +kernel
theorem dX7_lays_38 : decode cX7_lays 38 = .ok (.invokevirtual 228, 3) := by decide +kernel
theorem dX7_lays_41 : decode cX7_lays 41 = .ok (.ireturn, 1) := by decide +kernel
theorem dX7_lays_42 : decode cX7_lays 42 = .ok (.aload_n 0, 1) := by decide +kernel
theorem dX7_lays_43 : decode cX7_lays 43 = .ok (.invokevirtual 270, 3) := by decide +kernel
theorem dX7_lays_46 : decode cX7_lays 46 = .ok (.ireturn, 1) := by decide +kernel
theorem dX7_lays_47 : decode cX7_lays 47 = .ok (.aload_n 0, 1) := by decide +kernel
theorem dX7_lays_48 : decode cX7_lays 48 = .ok (.invokevirtual 273, 3) := by decide +kernel
theorem dX7_lays_51 : decode cX7_lays 51 = .ok (.ireturn, 1) := by decide +kernel
