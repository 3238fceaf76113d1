set_option maxRecDepth 20000 in
theorem gX6_width_X1_hasCellOrSource : GoodIn wsX6_width (wsV RX6 156 RX1 yX1_hasCellOrSource wsX1_hasCellOrSource) := goodIn_app (goodIn_of _ (by decide +kernel)) ggX6_width_X1_hasCellOrSource
set_option maxRecDepth 20000 in
theorem ggX6_width_X6_treeOf : GoodIn wsX6_width wsX6_treeOf := goodIn_r _ [25, 26, 27, 1, 28, 29, 30, 31, 32, 33, 34, 35, 36, 37, 38, 39, 40, 41, 42, 43, 44, 45, 46, 47, 48, 49, 50, 51, 52, 53, 54, 55, 56, 57, 58, 59, 6, 60, 61, 62, 63, 14, 64, 65, 66, 67, 68, 21, 69, 70, 71, 72, 73, 74, 75, 76, 77, 78, 79, 80, 81, 82, 83, 84, 85, 86, 87, 88, 89, 90, 91, 92, 93, 94, 95, 96, 97, 98, 99, 100, 101, 102, 103, 104, 105, 106, 107, 108, 109, 110, 111, 112, 113, 114, 115, 116, 117, 118, 119, 120, 121, 122, 123, 124, 125, 126, 127, 128, 129, 130, 131, 132, 133, 134, 135, 136, 137, 138, 139, 140, 141, 142, 143, 144, 145, 146, 147, 148, 149, 150, 151, 152, 153, 154, 155, 156, 157, 158, 159, 160, 161, 162, 163, 164, 165, 166, 167, 168, 169, 170, 171, 172, 173, 174, 175, 176, 177, 178, 179, 180, 181, 182, 183, 184, 185, 186, 187, 188, 189, 190, 191, 192, 193, 194, 195, 196, 197, 198, 199, 200, 201, 202, 203, 204, 205, 206, 207, 208, 209, 210, 211, 212, 213, 214, 215, 216, 217, 218, 219, 220, 221, 222, 223, 224, 225, 226, 227, 228, 229, 230, 231, 232, 233, 234, 235, 236, 237, 238, 239, 240, 241, 242, 243, 244, 245, 246, 247, 248, 249, 250, 251, 252, 253, 254, 255, 256, 259, 260, 261, 262, 263, 264, 265, 266, 267, 268, 269, 270, 271, 272, 283, 284, 285, 286, 287, 288, 289, 290, 291, 292, 293, 273, 274, 275, 276, 277, 278, 279, 280, 281, 282] (by decide +kernel) (by decide +kernel)
set_option maxRecDepth 20000 in
theorem gX6_width_X6_treeOf : GoodIn wsX6_width (wsV RX6 145 RX6 yX6_treeOf wsX6_treeOf) := goodIn_app (goodIn_of _ (by decide +kernel)) ggX6_width_X6_treeOf
set_option maxRecDepth 20000 in
theorem ggX6_width_X6_cellOf : GoodIn wsX6_width wsX6_cellOf := goodIn_r _ [60] (by decide +kernel) (by decide +kernel)
set_option maxRecDepth 20000 in
theorem gX6_width_X6_cellOf : GoodIn wsX6_width (va_wsS RX6 90 yX6_cellOf wsX6_cellOf) := goodIn_app (goodIn_of _ (by decide +kernel)) ggX6_width_X6_cellOf
set_option maxRecDepth 20000 in
theorem ggX6_width_X1_amountOf : GoodIn wsX6_width wsX1_amountOf := goodIn_r _ [89, 90, 91, 273, 274, 275, 276, 277, 278, 279, 280, 281, 282] (by decide +kernel) (by decide +kernel)
set_option maxRecDepth 20000 in
theorem gX6_width_X1_amountOf : GoodIn wsX6_width (wsV RX6 162 RX1 yX1_amountOf wsX1_amountOf) := goodIn_app (goodIn_of _ (by decide +kernel)) ggX6_width_X1_amountOf
theorem dX6_width_0 : decode cX6_width 0 = .ok (.iload_n 1, 1) := by decide +kernel
theorem dX6_width_1 : decode cX6_width 1 = .ok (.invokestatic 142, 3) := by decide +kernel
theorem dX6_width_4 : decode cX6_width 4 = .ok (.ifCond .eq 15, 3) := by decide +kernel
theorem dX6_width_7 : decode cX6_width 7 = .ok (.aload_n 0, 1) := by decide +kernel
theorem dX6_width_8 : decode cX6_width 8 = .ok (.getfield 19, 3) := by decide +kernel
theorem dX6_width_11 : decode cX6_width 11 = .ok (.iload_n 2, 1) := by decide +kernel
theorem dX6_width_12 : decode cX6_width 12 = .ok (.iload_n 3, 1) := by decide +kernel
theorem dX6_width_13 : decode cX6_width 13 = .ok (.invokevirtual 156, 3) := by decide +kernel
theorem dX6_width_16 : decode cX6_width 16 = .ok (.ifCond .ne 5, 3) := by decide +kernel
theorem dX6_width_19 : decode cX6_width 19 = .ok (.iconst (-1), 1) := by decide +kernel
theorem dX6_width_20 : decode cX6_width 20 = .ok (.ireturn, 1) := by decide +kernel
theorem dX6_width_21 : decode cX6_width 21 = .ok (.aload_n 0, 1) := by decide +kernel
theorem dX6_width_22 : decode cX6_width 22 = .ok (.iload_n 1, 1) := by decide +kernel
theorem dX6_width_23 : decode cX6_width 23 = .ok (.invokevirtual 145, 3) := by decide +kernel
theorem dX6_width_26 : decode cX6_width 26 = .ok (.astore 4, 2) := by decide +kernel
theorem dX6_width_28 : decode cX6_width 28 = .ok (.aload 4, 2) := by decide +kernel
theorem dX6_width_30 : decode cX6_width 30 = .ok (.getfield 149, 3) := by decide +kernel
theorem dX6_width_33 : decode cX6_width 33 = .ok (.ifCond .eq 24, 3) := by decide +kernel
theorem dX6_width_36 : decode cX6_width 36 = .ok (.aload_n 0, 1) := by decide +kernel
theorem dX6_width_37 : decode cX6_width 37 = .ok (.getfield 19, 3) := by decide +kernel
theorem dX6_width_40 : decode cX6_width 40 = .ok (.aload 4, 2) := by decide +kernel
theorem dX6_width_42 : decode cX6_width 42 = .ok (.getfield 159, 3) := by decide +kernel
theorem dX6_width_45 : decode cX6_width 45 = .ok (.iload_n 2, 1) := by decide +kernel
theorem dX6_width_46 : decode cX6_width 46 = .ok (.iload_n 3, 1) := by decide +kernel
theorem dX6_width_47 : decode cX6_width 47 = .ok (.invokestatic 90, 3) := by decide +kernel
theorem dX6_width_50 : decode cX6_width 50 = .ok (.iaload, 1) := by decide +kernel
theorem dX6_width_51 : decode cX6_width 51 = .ok (.invokevirtual 162, 3) := by decide +kernel
theorem dX6_width_54 : decode cX6_width 54 = .ok (.goto 5, 3) := by decide +kernel
theorem dX6_width_57 : decode cX6_width 57 = .ok (.bipush (-2), 2) := by decide +kernel
theorem dX6_width_59 : decode cX6_width 59 = .ok (.ireturn, 1) := by decide +kernel
set_option maxRecDepth 20000 in
theorem ggX6_step_X6_isTreeManner : GoodIn wsX6_step wsX6_isTreeManner := goodIn_r _ [7, 8, 9, 6, 10] (by decide +kernel) (by decide +kernel)
set_option maxRecDepth 20000 in
theorem gX6_step_X6_isTreeManner : GoodIn wsX6_step (va_wsS RX6 142 yX6_isTreeManner wsX6_isTreeManner) := goodIn_app (goodIn_of _ (by decide +kernel)) ggX6_step_X6_isTreeManner
set_option maxRecDepth 20000 in
theorem ggX6_step_X1_hasCellOrSource : GoodIn wsX6_step wsX1_hasCellOrSource := goodIn_r _ [15, 16, 17, 18, 14, 19, 20, 21, 9, 6, 10, 272, 273, 274, 275, 276, 277, 278, 279, 280, 281] (by decide +kernel) (by decide +kernel)
set_option maxRecDepth 20000 in
theorem gX6_step_X1_hasCellOrSource : GoodIn wsX6_step (wsV RX6 156 RX1 yX1_hasCellOrSource wsX1_hasCellOrSource) := goodIn_app (goodIn_of _ (by decide +kernel)) ggX6_step_X1_hasCellOrSource
set_option maxRecDepth 20000 in
theorem ggX6_step_X6_treeOf : GoodIn wsX6_step wsX6_treeOf := goodIn_r _ [25, 26, 27, 1, 28, 29, 30, 31, 32, 33, 34, 35, 36, 37, 38, 39, 40, 41, 42, 43, 44, 45, 46, 47, 48, 49, 50, 51, 52, 53, 54, 55, 56, 57, 58, 59, 6, 60, 61, 62, 63, 14, 64, 65, 66, 67, 68, 21, 69, 70, 71, 72, 73, 74, 75, 76, 77, 78, 79, 80, 81, 82, 83, 84, 85, 86, 87, 88, 89, 90, 91, 92, 93, 94, 95, 96, 97, 98, 99, 100, 101, 102, 103, 104, 105, 106, 107, 108, 109, 110, 111, 112, 113, 114, 115, 116, 117, 118, 119, 120, 121, 122, 123, 124, 125, 126, 127, 128, 129, 130, 131, 132, 133, 134, 135, 136, 137, 138, 139, 140, 141, 142, 143, 144, 145, 146, 147, 148, 149, 150, 151, 152, 153, 154, 155, 156, 157, 158, 159, 160, 161, 162, 163, 164, 165, 166, 167, 168, 169, 170, 171, 172, 173, 174, 175, 176, 177, 178, 179, 180, 181, 182, 183, 184, 185, 186, 187, 188, 189, 190, 191, 192, 193, 194, 195, 196, 197, 198, 199, 200, 201, 202, 203, 204, 205, 206, 207, 208, 209, 210, 211, 212, 213, 214, 215, 216, 217, 218, 219, 220, 221, 222, 223, 224, 225, 226, 227, 228, 229, 230, 231, 232, 233, 234, 235, 236, 237, 238, 239, 240, 241, 242, 243, 244, 245, 246, 247, 248, 249, 250, 251, 252, 253, 254, 255, 256, 258, 259, 260, 261, 262, 263, 264, 265, 266, 267, 268, 269, 270, 271, 282, 283, 284, 285, 286, 287, 288, 289, 290, 291, 292, 272, 273, 274, 275, 276, 277, 278, 279, 280, 281] (by decide +kernel) (by decide +kernel)
set_option maxRecDepth 20000 in
theorem gX6_step_X6_treeOf : GoodIn wsX6_step (wsV RX6 145 RX6 yX6_treeOf wsX6_treeOf) := goodIn_app (goodIn_of _ (by decide +kernel)) ggX6_step_X6_treeOf
set_option maxRecDepth 20000 in
theorem ggX6_step_X6_cellOf : GoodIn wsX6_step wsX6_cellOf := goodIn_r _ [60] (by decide +kernel) (by decide +kernel)
set_option maxRecDepth 20000 in
theorem gX6_step_X6_cellOf : GoodIn wsX6_step (va_wsS RX6 90 yX6_cellOf wsX6_cellOf) := goodIn_app (goodIn_of _ (by decide +kernel)) ggX6_step_X6_cellOf
theorem dX6_step_0 : decode cX6_step 0 = .ok (.iload_n 1, 1) := by decide +kernel
theorem dX6_step_1 : decode cX6_step 1 = .ok (.invokestatic 142, 3) := by decide +kernel
theorem dX6_step_4 : decode cX6_step 4 = .ok (.ifCond .eq 15, 3) := by decide +kernel
theorem dX6_step_7 : decode cX6_step 7 = .ok (.aload_n 0, 1) := by decide +kernel
theorem dX6_step_8 : decode cX6_step 8 = .ok (.getfield 19, 3) := by decide +kernel
theorem dX6_step_11 : decode cX6_step 11 = .ok (.iload_n 2, 1) := by decide +kernel
theorem dX6_step_12 : decode cX6_step 12 = .ok (.iload_n 3, 1) := by decide +kernel
theorem dX6_step_13 : decode cX6_step 13 = .ok (.invokevirtual 156, 3) := by decide +kernel
theorem dX6_step_16 : decode cX6_step 16 = .ok (.ifCond .ne 5, 3) := by decide +kernel
theorem dX6_step_19 : decode cX6_step 19 = .ok (.iconst (-1), 1) := by decide +kernel
theorem dX6_step_20 : decode cX6_step 20 = .ok (.ireturn, 1) := by decide +kernel
theorem dX6_step_21 : decode cX6_step 21 = .ok (.aload_n 0, 1) := by decide +kernel
theorem dX6_step_22 : decode cX6_step 22 = .ok (.iload_n 1, 1) := by decide +kernel
theorem dX6_step_23 : decode cX6_step 23 = .ok (.invokevirtual 145, 3) := by decide +kernel
theorem dX6_step_26 : decode cX6_step 26 = .ok (.astore 4, 2) := by decide +kernel
theorem dX6_step_28 : decode cX6_step 28 = .ok (.aload 4, 2) := by decide +kernel
theorem dX6_step_30 : decode cX6_step 30 = .ok (.getfield 149, 3) := by decide +kernel
theorem dX6_step_33 : decode cX6_step 33 = .ok (.ifCond .eq 17, 3) := by decide +kernel
theorem dX6_step_36 : decode cX6_step 36 = .ok (.aload 4, 2) := by decide +kernel
theorem dX6_step_38 : decode cX6_step 38 = .ok (.getfield 166, 3) := by decide +kernel
theorem dX6_step_41 : decode cX6_step 41 = .ok (.iload_n 2, 1) := by decide +kernel
theorem dX6_step_42 : decode cX6_step 42 = .ok (.iload_n 3, 1) := by decide +kernel
theorem dX6_step_43 : decode cX6_step 43 = .ok (.invokestatic 90, 3) := by decide +kernel
theorem dX6_step_46 : decode cX6_step 46 = .ok (.iaload, 1) := by decide +kernel
theorem dX6_step_47 : decode cX6_step 47 = .ok (.goto 5, 3) := by decide +kernel
theorem dX6_step_50 : decode cX6_step 50 = .ok (.bipush (-2), 2) := by decide +kernel
theorem dX6_step_52 : decode cX6_step 52 = .ok (.ireturn, 1) := by decide +kernel
set_option maxRecDepth 20000 in
theorem ggX6_join_X6_isTreeManner : GoodIn wsX6_join wsX6_isTreeManner := goodIn_r _ [6, 7, 8, 5, 9] (by decide +kernel) (by decide +kernel)
set_option maxRecDepth 20000 in
theorem gX6_join_X6_isTreeManner : GoodIn wsX6_join (va_wsS RX6 142 yX6_isTreeManner wsX6_isTreeManner) := goodIn_app (goodIn_of _ (by decide +kernel)) ggX6_join_X6_isTreeManner
set_option maxRecDepth 20000 in
theorem ggX6_join_X6_isWithin : GoodIn wsX6_join wsX6_isWithin := goodIn_r _ [9] (by decide +kernel) (by decide +kernel)
set_option maxRecDepth 20000 in
theorem gX6_join_X6_isWithin : GoodIn wsX6_join (va_wsS RX6 74 yX6_isWithin wsX6_isWithin) := goodIn_app (goodIn_of _ (by decide +kernel)) ggX6_join_X6_isWithin
set_option maxRecDepth 20000 in
theorem ggX6_join_X6_treeOf : GoodIn wsX6_join wsX6_treeOf := goodIn_r _ [13, 14, 15, 2, 16, 17, 18, 19, 20, 21, 22, 23, 24, 25, 26, 27, 28, 29, 30, 31, 32, 33, 34, 35, 36, 37, 38, 39, 40, 41, 42, 43, 44, 45, 46, 47, 5, 48, 49, 50, 51, 52, 53, 54, 55, 56, 57, 58, 59, 60, 61, 62, 63, 64, 65, 66, 67, 68, 69, 70, 71, 72, 73, 74, 75, 76, 77, 78, 79, 80, 81, 82, 83, 84, 85, 86, 87, 88, 89, 90, 91, 92, 93, 94, 95, 96, 97, 98, 99, 100, 101, 102, 103, 104, 105, 106, 107, 108, 109, 110, 111, 112, 113, 114, 115, 116, 117, 118, 119, 120, 121, 122, 123, 124, 125, 126, 127, 128, 129, 130, 131, 132, 133, 134, 135, 136, 137, 138, 139, 140, 141, 142, 143, 144, 145, 146, 147, 148, 149, 150, 151, 152, 153, 154, 155, 156, 157, 158, 159, 160, 161, 162, 163, 164, 165, 166, 167, 168, 169, 170, 171, 172, 173, 174, 175, 176, 177, 178, 179, 180, 181, 182, 183, 184, 185, 186, 187, 188, 189, 190, 191, 192, 193, 194, 195, 196, 197, 198, 199, 200, 201, 202, 203, 204, 205, 206, 207, 208, 209, 210, 211, 212, 213, 214, 215, 216, 217, 218, 219, 220, 221, 222, 223, 224, 225, 226, 227, 228, 229, 230, 231, 232, 233, 234, 235, 236, 237, 238, 239, 240, 241, 242, 243, 244, 245, 246, 270, 271, 272, 273, 274, 275, 276, 277, 278, 265, 266, 267, 268, 269, 279, 280, 281, 282, 283, 284, 285, 286, 287, 288, 289, 290, 291, 292, 293, 294, 295, 296, 297, 298, 299] (by decide +kernel) (by decide +kernel)
set_option maxRecDepth 20000 in
theorem gX6_join_X6_treeOf : GoodIn wsX6_join (wsV RX6 145 RX6 yX6_treeOf wsX6_treeOf) := goodIn_app (goodIn_of _ (by decide +kernel)) ggX6_join_X6_treeOf
set_option maxRecDepth 20000 in
theorem ggX6_join_X5_joins : GoodIn wsX6_join wsX5_joins := goodIn_r _ [250, 74, 251, 175, 176, 52, 177, 58, 252, 253, 254, 32, 255, 256, 257, 258, 259, 75, 35, 47, 5, 48, 260, 236, 237, 238, 42, 239, 230, 231, 232, 80, 233, 234, 240, 55, 56, 57, 290, 291, 292, 293, 294, 295, 296, 297, 298, 299, 265, 266, 267, 268, 269] (by decide +kernel) (by decide +kernel)
set_option maxRecDepth 20000 in
theorem gX6_join_X5_joins : GoodIn wsX6_join (wsV RX6 169 RX5 yX5_joins wsX5_joins) := goodIn_app (goodIn_of _ (by decide +kernel)) ggX6_join_X5_joins
set_option maxRecDepth 20000 in
theorem ggX6_join_X5_tellJoin : GoodIn wsX6_join wsX5_tellJoin := goodIn_r _ [264, 74, 251, 175, 176, 52, 177, 58, 252, 253, 254, 32, 255, 256, 257, 258, 259, 75, 35, 47, 5, 48, 260, 236, 237, 238, 42, 239, 230, 231, 232, 80, 233, 234, 240, 55, 56, 57, 290, 291, 292, 293, 294, 295, 296, 297, 298, 299, 265, 266, 267, 268, 269] (by decide +kernel) (by decide +kernel)
set_option maxRecDepth 20000 in
theorem gX6_join_X5_tellJoin : GoodIn wsX6_join (wsV RX6 172 RX5 yX5_tellJoin wsX5_tellJoin) := goodIn_app (goodIn_of _ (by decide +kernel)) ggX6_join_X5_tellJoin
theorem dX6_join_0 : decode cX6_join 0 = .ok (.iload_n 1, 1) := by decide +kernel
theorem dX6_join_1 : decode cX6_join 1 = .ok (.invokestatic 142, 3) := by decide +kernel
theorem dX6_join_4 : decode cX6_join 4 = .ok (.ifCond .eq 17, 3) := by decide +kernel
theorem dX6_join_7 : decode cX6_join 7 = .ok (.iload_n 2, 1) := by decide +kernel
theorem dX6_join_8 : decode cX6_join 8 = .ok (.iconst (-1), 1) := by decide +kernel
theorem dX6_join_9 : decode cX6_join 9 = .ok (.if_icmp .lt 12, 3) := by decide +kernel
theorem dX6_join_12 : decode cX6_join 12 = .ok (.iload_n 3, 1) := by decide +kernel
theorem dX6_join_13 : decode cX6_join 13 = .ok (.iconst 0, 1) := by decide +kernel
theorem dX6_join_14 : decode cX6_join 14 = .ok (.iconst 2, 1) := by decide +kernel
theorem dX6_join_15 : decode cX6_join 15 = .ok (.invokestatic 74, 3) := by decide +kernel
theorem dX6_join_18 : decode cX6_join 18 = .ok (.ifCond .ne 5, 3) := by decide +kernel
theorem dX6_join_21 : decode cX6_join 21 = .ok (.iconst (-1), 1) := by decide +kernel
theorem dX6_join_22 : decode cX6_join 22 = .ok (.ireturn, 1) := by decide +kernel
theorem dX6_join_23 : decode cX6_join 23 = .ok (.aload_n 0, 1) := by decide +kernel
theorem dX6_join_24 : decode cX6_join 24 = .ok (.iload_n 1, 1) := by decide +kernel
theorem dX6_join_25 : decode cX6_join 25 = .ok (.invokevirtual 145, 3) := by decide +kernel
theorem dX6_join_28 : decode cX6_join 28 = .ok (.astore 4, 2) := by decide +kernel
theorem dX6_join_30 : decode cX6_join 30 = .ok (.aload 4, 2) := by decide +kernel
theorem dX6_join_32 : decode cX6_join 32 = .ok (.getfield 149, 3) := by decide +kernel
theorem dX6_join_35 : decode cX6_join 35 = .ok (.ifCond .ne 6, 3) := by decide +kernel
theorem dX6_join_38 : decode cX6_join 38 = .ok (.bipush (-2), 2) := by decide +kernel
theorem dX6_join_40 : decode cX6_join 40 = .ok (.ireturn, 1) := by decide +kernel
theorem dX6_join_41 : decode cX6_join 41 = .ok (.iload_n 2, 1) := by decide +kernel
theorem dX6_join_42 : decode cX6_join 42 = .ok (.iconst (-1), 1) := by decide +kernel
theorem dX6_join_43 : decode cX6_join 43 = .ok (.if_icmp .ne 15, 3) := by decide +kernel
theorem dX6_join_46 : decode cX6_join 46 = .ok (.aload 4, 2) := by decide +kernel
theorem dX6_join_48 : decode cX6_join 48 = .ok (.aload_n 0, 1) := by decide +kernel
theorem dX6_join_49 : decode cX6_join 49 = .ok (.getfield 19, 3) := by decide +kernel
theorem dX6_join_52 : decode cX6_join 52 = .ok (.invokevirtual 169, 3) := by decide +kernel
theorem dX6_join_55 : decode cX6_join 55 = .ok (.goto 14, 3) := by decide +kernel
theorem dX6_join_58 : decode cX6_join 58 = .ok (.aload 4, 2) := by decide +kernel
theorem dX6_join_60 : decode cX6_join 60 = .ok (.aload_n 0, 1) := by decide +kernel
theorem dX6_join_61 : decode cX6_join 61 = .ok (.getfield 19, 3) := by decide +kernel
theorem dX6_join_64 : decode cX6_join 64 = .ok (.iload_n 2, 1) := by decide +kernel
theorem dX6_join_65 : decode cX6_join 65 = .ok (.iload_n 3, 1) := by decide +kernel
theorem dX6_join_66 : decode cX6_join 66 = .ok (.invokevirtual 172, 3) := by decide +kernel
theorem dX6_join_69 : decode cX6_join 69 = .ok (.ireturn, 1) := by decide +kernel
set_option maxRecDepth 20000 in
theorem ggX6_drawn_X6_isTreeManner : GoodIn wsX6_drawn wsX6_isTreeManner := goodIn_r _ [6, 7, 8, 5, 9] (by decide +kernel) (by decide +kernel)
set_option maxRecDepth 20000 in
theorem gX6_drawn_X6_isTreeManner : GoodIn wsX6_drawn (va_wsS RX6 142 yX6_isTreeManner wsX6_isTreeManner) := goodIn_app (goodIn_of _ (by decide +kernel)) ggX6_drawn_X6_isTreeManner
set_option maxRecDepth 20000 in
theorem ggX6_drawn_X6_isWithin : GoodIn wsX6_drawn wsX6_isWithin := goodIn_r _ [9] (by decide +kernel) (by decide +kernel)
set_option maxRecDepth 20000 in
theorem gX6_drawn_X6_isWithin : GoodIn wsX6_drawn (va_wsS RX6 74 yX6_isWithin wsX6_isWithin) := goodIn_app (goodIn_of _ (by decide +kernel)) ggX6_drawn_X6_isWithin
set_option maxRecDepth 20000 in
theorem ggX6_drawn_X6_treeOf : GoodIn wsX6_drawn wsX6_treeOf := goodIn_r _ [13, 14, 15, 2, 16, 17, 18, 19, 20, 21, 22, 23, 24, 25, 26, 27, 28, 29, 30, 31, 32, 33, 34, 35, 36, 37, 38, 39, 40, 41, 42, 43, 44, 45, 46, 47, 5, 48, 49, 50, 51, 52, 53, 54, 55, 56, 57, 58, 59, 60, 61, 62, 63, 64, 65, 66, 67, 68, 69, 70, 71, 72, 73, 74, 75, 76, 77, 78, 79, 80, 81, 82, 83, 84, 85, 86, 87, 88, 89, 90, 91, 92, 93, 94, 95, 96, 97, 98, 99, 100, 101, 102, 103, 104, 105, 106, 107, 108, 109, 110, 111, 112, 113, 114, 115, 116, 117, 118, 119, 120, 121, 122, 123, 124, 125, 126, 127, 128, 129, 130, 131, 132, 133, 134, 135, 136, 137, 138, 139, 140, 141, 142, 143, 144, 145, 146, 147, 148, 149, 150, 151, 152, 153, 154, 155, 156, 157, 158, 159, 160, 161, 162, 163, 164, 165, 166, 167, 168, 169, 170, 171, 172, 173, 174, 175, 176, 177, 178, 179, 180, 181, 182, 183, 184, 185, 186, 187, 188, 189, 190, 191, 192, 193, 194, 195, 196, 197, 198, 199, 200, 201, 202, 203, 204, 205, 206, 207, 208, 209, 210, 211, 212, 213, 214, 215, 216, 217, 218, 219, 220, 221, 222, 223, 224, 225, 226, 227, 228, 229, 230, 231, 232, 233, 234, 235, 236, 237, 238, 239, 240, 241, 242, 243, 244, 245, 246, 280, 281, 282, 283, 284, 285, 286, 287, 288, 275, 276, 277, 278, 279, 289, 290, 291, 292, 293, 294, 295, 296, 297, 298, 299, 300, 301, 302, 303, 304, 305, 306, 307, 308, 309] (by decide +kernel) (by decide +kernel)
set_option maxRecDepth 20000 in
theorem gX6_drawn_X6_treeOf : GoodIn wsX6_drawn (wsV RX6 145 RX6 yX6_treeOf wsX6_treeOf) := goodIn_app (goodIn_of _ (by decide +kernel)) ggX6_drawn_X6_treeOf
set_option maxRecDepth 20000 in
theorem ggX6_drawn_X5_bends : GoodIn wsX6_drawn wsX5_bends := goodIn_r _ [250, 251, 226, 227, 32, 228, 42, 275, 276, 277, 278, 279] (by decide +kernel) (by decide +kernel)
set_option maxRecDepth 20000 in
theorem gX6_drawn_X5_bends : GoodIn wsX6_drawn (wsV RX6 176 RX5 yX5_bends wsX5_bends) := goodIn_app (goodIn_of _ (by decide +kernel)) ggX6_drawn_X5_bends
set_option maxRecDepth 20000 in
theorem ggX6_drawn_X5_couplesAcross : GoodIn wsX6_drawn wsX5_couplesAcross := goodIn_r _ [255, 74, 75, 42, 240, 55, 56, 52, 57, 58, 47, 5, 48, 300, 301, 302, 303, 304, 305, 306, 307, 308, 309, 275, 276, 277, 278, 279] (by decide +kernel) (by decide +kernel)
set_option maxRecDepth 20000 in
theorem gX6_drawn_X5_couplesAcross : GoodIn wsX6_drawn (wsV RX6 180 RX5 yX5_couplesAcross wsX5_couplesAcross) := goodIn_app (goodIn_of _ (by decide +kernel)) ggX6_drawn_X5_couplesAcross
set_option maxRecDepth 20000 in
theorem ggX6_drawn_X5_steps : GoodIn wsX6_drawn wsX5_steps := goodIn_r _ [259, 74, 260, 261, 262, 32, 263, 75, 35, 47, 5, 48, 300, 301, 302, 303, 304, 305, 306, 307, 308, 309, 275, 276, 277, 278, 279] (by decide +kernel) (by decide +kernel)
set_option maxRecDepth 20000 in
theorem gX6_drawn_X5_steps : GoodIn wsX6_drawn (wsV RX6 183 RX5 yX5_steps wsX5_steps) := goodIn_app (goodIn_of _ (by decide +kernel)) ggX6_drawn_X5_steps
set_option maxRecDepth 20000 in
theorem ggX6_drawn_X5_mostOfOneRing : GoodIn wsX6_drawn wsX5_mostOfOneRing := goodIn_r _ [267, 74, 268, 269, 196, 270, 260, 261, 262, 32, 263, 75, 35, 47, 5, 48, 300, 301, 302, 303, 304, 305, 306, 307, 308, 309, 275, 276, 277, 278, 279] (by decide +kernel) (by decide +kernel)
set_option maxRecDepth 20000 in
theorem gX6_drawn_X5_mostOfOneRing : GoodIn wsX6_drawn (wsV RX6 186 RX5 yX5_mostOfOneRing wsX5_mostOfOneRing) := goodIn_app (goodIn_of _ (by decide +kernel)) ggX6_drawn_X5_mostOfOneRing
set_option maxRecDepth 20000 in
theorem ggX6_drawn_X5_greatestWidth : GoodIn wsX6_drawn wsX5_greatestWidth := goodIn_r _ [274, 74, 75, 35, 268, 269, 196, 270, 47, 5, 48, 76, 77, 78, 52, 79, 80, 81, 300, 301, 302, 303, 304, 305, 306, 307, 308, 309, 275, 276, 277, 278, 279] (by decide +kernel) (by decide +kernel)
set_option maxRecDepth 20000 in
theorem gX6_drawn_X5_greatestWidth : GoodIn wsX6_drawn (wsV RX6 189 RX5 yX5_greatestWidth wsX5_greatestWidth) := goodIn_app (goodIn_of _ (by decide +kernel)) ggX6_drawn_X5_greatestWidth
theorem dX6_drawn_0 : decode cX6_drawn 0 = .ok (.iload_n 1, 1) := by decide +kernel
theorem dX6_drawn_1 : decode cX6_drawn 1 = .ok (.invokestatic 142, 3) := by decide +kernel
theorem dX6_drawn_4 : decode cX6_drawn 4 = .ok (.ifCond .eq 12, 3) := by decide +kernel
theorem dX6_drawn_7 : decode cX6_drawn 7 = .ok (.iload_n 2, 1) := by decide +kernel
theorem dX6_drawn_8 : decode cX6_drawn 8 = .ok (.iconst 0, 1) := by decide +kernel
theorem dX6_drawn_9 : decode cX6_drawn 9 = .ok (.iconst 4, 1) := by decide +kernel
theorem dX6_drawn_10 : decode cX6_drawn 10 = .ok (.invokestatic 74, 3) := by decide +kernel
theorem dX6_drawn_13 : decode cX6_drawn 13 = .ok (.ifCond .ne 5, 3) := by decide +kernel
theorem dX6_drawn_16 : decode cX6_drawn 16 = .ok (.iconst (-1), 1) := by decide +kernel
theorem dX6_drawn_17 : decode cX6_drawn 17 = .ok (.ireturn, 1) := by decide +kernel
theorem dX6_drawn_18 : decode cX6_drawn 18 = .ok (.aload_n 0, 1) := by decide +kernel
theorem dX6_drawn_19 : decode cX6_drawn 19 = .ok (.iload_n 1, 1) := by decide +kernel
theorem dX6_drawn_20 : decode cX6_drawn 20 = .ok (.invokevirtual 145, 3) := by decide +kernel
theorem dX6_drawn_23 : decode cX6_drawn 23 = .ok (.astore_n 3, 1) := by decide +kernel
theorem dX6_drawn_24 : decode cX6_drawn 24 = .ok (.aload_n 3, 1) := by decide +kernel
theorem dX6_drawn_25 : decode cX6_drawn 25 = .ok (.getfield 149, 3) := by decide +kernel
theorem dX6_drawn_28 : decode cX6_drawn 28 = .ok (.ifCond .ne 6, 3) := by decide +kernel
theorem dX6_drawn_31 : decode cX6_drawn 31 = .ok (.bipush (-2), 2) := by decide +kernel
theorem dX6_drawn_33 : decode cX6_drawn 33 = .ok (.ireturn, 1) := by decide +kernel
theorem dX6_drawn_34 : decode cX6_drawn 34 = .ok (.iload_n 2, 1) := by decide +kernel
theorem dX6_drawn_35 : decode cX6_drawn 35 = .ok (.tableswitch 61 0 3 #[29, 34, 43, 52], 29) := by decide +kernel
theorem dX6_drawn_64 : decode cX6_drawn 64 = .ok (.aload_n 3, 1) := by decide +kernel
theorem dX6_drawn_65 : decode cX6_drawn 65 = .ok (.invokevirtual 176, 3) := by decide +kernel
theorem dX6_drawn_68 : decode cX6_drawn 68 = .ok (.ireturn, 1) := by decide +kernel
theorem dX6_drawn_69 : decode cX6_drawn 69 = .ok (.aload_n 3, 1) := by decide +kernel
theorem dX6_drawn_70 : decode cX6_drawn 70 = .ok (.aload_n 0, 1) := by decide +kernel
theorem dX6_drawn_71 : decode cX6_drawn 71 = .ok (.getfield 19, 3) := by decide +kernel
theorem dX6_drawn_74 : decode cX6_drawn 74 = .ok (.invokevirtual 180, 3) := by decide +kernel
theorem dX6_drawn_77 : decode cX6_drawn 77 = .ok (.ireturn, 1) := by decide +kernel
theorem dX6_drawn_78 : decode cX6_drawn 78 = .ok (.aload_n 3, 1) := by decide +kernel
theorem dX6_drawn_79 : decode cX6_drawn 79 = .ok (.aload_n 0, 1) := by decide +kernel
theorem dX6_drawn_80 : decode cX6_drawn 80 = .ok (.getfield 19, 3) := by decide +kernel
theorem dX6_drawn_83 : decode cX6_drawn 83 = .ok (.invokevirtual 183, 3) := by decide +kernel
theorem dX6_drawn_86 : decode cX6_drawn 86 = .ok (.ireturn, 1) := by decide +kernel
theorem dX6_drawn_87 : decode cX6_drawn 87 = .ok (.aload_n 3, 1) := by decide +kernel
theorem dX6_drawn_88 : decode cX6_drawn 88 = .ok (.aload_n 0, 1) := by decide +kernel
theorem dX6_drawn_89 : decode cX6_drawn 89 = .ok (.getfield 19, 3) := by decide +kernel
theorem dX6_drawn_92 : decode cX6_drawn 92 = .ok (.invokevirtual 186, 3) := by decide +kernel
theorem dX6_drawn_95 : decode cX6_drawn 95 = .ok (.ireturn, 1) := by decide +kernel
theorem dX6_drawn_96 : decode cX6_drawn 96 = .ok (.aload_n 3, 1) := by decide +kernel
theorem dX6_drawn_97 : decode cX6_drawn 97 = .ok (.aload_n 0, 1) := by decide +kernel
theorem dX6_drawn_98 : decode cX6_drawn 98 = .ok (.getfield 19, 3) := by decide +kernel
theorem dX6_drawn_101 : decode cX6_drawn 101 = .ok (.invokevirtual 189, 3) := by decide +kernel
theorem dX6_drawn_104 : decode cX6_drawn 104 = .ok (.ireturn, 1) := by decide +kernel
set_option maxRecDepth 20000 in
theorem ggX6_way_X6_isTreeManner : GoodIn wsX6_way wsX6_isTreeManner := goodIn_r _ [8, 9, 10, 7, 11] (by decide +kernel) (by decide +kernel)
set_option maxRecDepth 20000 in
theorem gX6_way_X6_isTreeManner : GoodIn wsX6_way (va_wsS RX6 142 yX6_isTreeManner wsX6_isTreeManner) := goodIn_app (goodIn_of _ (by decide +kernel)) ggX6_way_X6_isTreeManner
set_option maxRecDepth 20000 in
theorem ggX6_way_X6_hasPlace : GoodIn wsX6_way wsX6_hasPlace := goodIn_r _ [15, 1, 16, 258, 259, 260, 261, 262, 263, 264, 265, 266, 267, 268, 269, 270, 271, 272, 273, 274, 275, 276] (by decide +kernel) (by decide +kernel)
set_option maxRecDepth 20000 in
theorem gX6_way_X6_hasPlace : GoodIn wsX6_way (wsV RX6 117 RX6 yX6_hasPlace wsX6_hasPlace) := goodIn_app (goodIn_of _ (by decide +kernel)) ggX6_way_X6_hasPlace
set_option maxRecDepth 20000 in
theorem ggX6_way_X6_isWithin : GoodIn wsX6_way wsX6_isWithin := goodIn_r _ [11] (by decide +kernel) (by decide +kernel)
set_option maxRecDepth 20000 in
theorem gX6_way_X6_isWithin : GoodIn wsX6_way (va_wsS RX6 74 yX6_isWithin wsX6_isWithin) := goodIn_app (goodIn_of _ (by decide +kernel)) ggX6_way_X6_isWithin
set_option maxRecDepth 20000 in
theorem ggX6_way_X6_treeOf : GoodIn wsX6_way wsX6_treeOf := goodIn_r _ [20, 21, 22, 1, 23, 24, 25, 26, 27, 28, 29, 30, 31, 32, 33, 34, 35, 36, 37, 38, 39, 40, 41, 42, 43, 44, 45, 46, 47, 48, 49, 50, 51, 52, 53, 54, 7, 55, 56, 57, 58, 59, 60, 61, 62, 63, 64, 65, 66, 67, 68, 69, 70, 71, 72, 73, 74, 75, 76, 77, 78, 79, 80, 81, 82, 83, 84, 85, 86, 87, 88, 89, 90, 91, 92, 93, 94, 95, 96, 97, 98, 99, 100, 101, 102, 103, 104, 105, 106, 107, 108, 109, 110, 111, 112, 113, 114, 115, 116, 117, 118, 119, 120, 121, 122, 123, 124, 125, 126, 127, 128, 129, 130, 131, 132, 133, 134, 135, 136, 137, 138, 139, 140, 141, 142, 143, 144, 145, 146, 147, 148, 149, 150, 151, 152, 153, 154, 155, 156, 157, 158, 159, 160, 161, 162, 163, 164, 165, 166, 167, 168, 169, 170, 171, 172, 173, 174, 175, 176, 177, 178, 179, 180, 181, 182, 183, 184, 185, 186, 187, 188, 189, 190, 191, 192, 193, 194, 195, 196, 197, 198, 199, 200, 201, 202, 203, 204, 205, 206, 207, 208, 209, 210, 211, 212, 213, 214, 215, 216, 217, 218, 219, 220, 221, 222, 223, 224, 225, 226, 227, 228, 229, 230, 231, 232, 233, 234, 235, 236, 237, 238, 239, 240, 241, 242, 243, 244, 245, 246, 247, 248, 249, 250, 251, 252, 253, 258, 259, 260, 261, 262, 263, 264, 265, 266, 277, 278, 279, 280, 281, 282, 283, 284, 285, 286, 287, 288, 289, 290, 291, 292, 267, 268, 269, 270, 271, 272, 273, 274, 275, 276] (by decide +kernel) (by decide +kernel)
set_option maxRecDepth 20000 in
theorem gX6_way_X6_treeOf : GoodIn wsX6_way (wsV RX6 145 RX6 yX6_treeOf wsX6_treeOf) := goodIn_app (goodIn_of _ (by decide +kernel)) ggX6_way_X6_treeOf
set_option maxRecDepth 20000 in
theorem ggX6_way_X5_turnOnWay : GoodIn wsX6_way wsX5_turnOnWay := goodIn_r _ [257, 44, 43, 49, 54, 7, 55, 247, 62, 63, 59, 64, 65, 267, 268, 269, 270, 271, 272, 273, 274, 275, 276, 277, 278, 279, 280, 281] (by decide +kernel) (by decide +kernel)
set_option maxRecDepth 20000 in
theorem gX6_way_X5_turnOnWay : GoodIn wsX6_way (wsV RX6 195 RX5 yX5_turnOnWay wsX5_turnOnWay) := goodIn_app (goodIn_of _ (by decide +kernel)) ggX6_way_X5_turnOnWay
theorem dX6_way_0 : decode cX6_way 0 = .ok (.iload_n 1, 1) := by decide +kernel
theorem dX6_way_1 : decode cX6_way 1 = .ok (.invokestatic 142, 3) := by decide +kernel
theorem dX6_way_4 : decode cX6_way 4 = .ok (.ifCond .eq 26, 3) := by decide +kernel
theorem dX6_way_7 : decode cX6_way 7 = .ok (.aload_n 0, 1) := by decide +kernel
theorem dX6_way_8 : decode cX6_way 8 = .ok (.iload_n 2, 1) := by decide +kernel
theorem dX6_way_9 : decode cX6_way 9 = .ok (.invokevirtual 117, 3) := by decide +kernel
theorem dX6_way_12 : decode cX6_way 12 = .ok (.ifCond .eq 18, 3) := by decide +kernel
theorem dX6_way_15 : decode cX6_way 15 = .ok (.iload_n 3, 1) := by decide +kernel
theorem dX6_way_16 : decode cX6_way 16 = .ok (.iconst 0, 1) := by decide +kernel
theorem dX6_way_17 : decode cX6_way 17 = .ok (.aload_n 0, 1) := by decide +kernel
theorem dX6_way_18 : decode cX6_way 18 = .ok (.getfield 19, 3) := by decide +kernel
theorem dX6_way_21 : decode cX6_way 21 = .ok (.getfield 192, 3) := by decide +kernel
theorem dX6_way_24 : decode cX6_way 24 = .ok (.invokestatic 74, 3) := by decide +kernel
theorem dX6_way_27 : decode cX6_way 27 = .ok (.ifCond .ne 5, 3) := by decide +kernel
theorem dX6_way_30 : decode cX6_way 30 = .ok (.iconst (-1), 1) := by decide +kernel
theorem dX6_way_31 : decode cX6_way 31 = .ok (.ireturn, 1) := by decide +kernel
theorem dX6_way_32 : decode cX6_way 32 = .ok (.aload_n 0, 1) := by decide +kernel
theorem dX6_way_33 : decode cX6_way 33 = .ok (.iload_n 1, 1) := by decide +kernel
theorem dX6_way_34 : decode cX6_way 34 = .ok (.invokevirtual 145, 3) := by decide +kernel
theorem dX6_way_37 : decode cX6_way 37 = .ok (.astore 4, 2) := by decide +kernel
theorem dX6_way_39 : decode cX6_way 39 = .ok (.aload 4, 2) := by decide +kernel
theorem dX6_way_41 : decode cX6_way 41 = .ok (.getfield 149, 3) := by decide +kernel
theorem dX6_way_44 : decode cX6_way 44 = .ok (.ifCond .ne 6, 3) := by decide +kernel
theorem dX6_way_47 : decode cX6_way 47 = .ok (.bipush (-2), 2) := by decide +kernel
theorem dX6_way_49 : decode cX6_way 49 = .ok (.ireturn, 1) := by decide +kernel
theorem dX6_way_50 : decode cX6_way 50 = .ok (.iload_n 3, 1) := by decide +kernel
theorem dX6_way_51 : decode cX6_way 51 = .ok (.aload_n 0, 1) := by decide +kernel
theorem dX6_way_52 : decode cX6_way 52 = .ok (.getfield 19, 3) := by decide +kernel
theorem dX6_way_55 : decode cX6_way 55 = .ok (.getfield 128, 3) := by decide +kernel
theorem dX6_way_58 : decode cX6_way 58 = .ok (.iload_n 2, 1) := by decide +kernel
theorem dX6_way_59 : decode cX6_way 59 = .ok (.iaload, 1) := by decide +kernel
theorem dX6_way_60 : decode cX6_way 60 = .ok (.if_icmp .le 7, 3) := by decide +kernel
theorem dX6_way_63 : decode cX6_way 63 = .ok (.iconst (-1), 1) := by decide +kernel
theorem dX6_way_64 : decode cX6_way 64 = .ok (.goto 14, 3) := by decide +kernel
theorem dX6_way_67 : decode cX6_way 67 = .ok (.aload 4, 2) := by decide +kernel
theorem dX6_way_69 : decode cX6_way 69 = .ok (.aload_n 0, 1) := by decide +kernel
theorem dX6_way_70 : decode cX6_way 70 = .ok (.getfield 19, 3) := by decide +kernel
theorem dX6_way_73 : decode cX6_way 73 = .ok (.iload_n 2, 1) := by decide +kernel
theorem dX6_way_74 : decode cX6_way 74 = .ok (.iload_n 3, 1) := by decide +kernel
theorem dX6_way_75 : decode cX6_way 75 = .ok (.invokevirtual 195, 3) := by decide +kernel
theorem dX6_way_78 : decode cX6_way 78 = .ok (.ireturn, 1) := by decide +kernel
set_option maxRecDepth 20000 in
theorem ggX6_borne_X6_isTreeManner : GoodIn wsX6_borne wsX6_isTreeManner := goodIn_r _ [7, 8, 9, 6, 10] (by decide +kernel) (by decide +kernel)
set_option maxRecDepth 20000 in
theorem gX6_borne_X6_isTreeManner : GoodIn wsX6_borne (va_wsS RX6 142 yX6_isTreeManner wsX6_isTreeManner) := goodIn_app (goodIn_of _ (by decide +kernel)) ggX6_borne_X6_isTreeManner
set_option maxRecDepth 20000 in
theorem ggX6_borne_X1_hasCell : GoodIn wsX6_borne wsX1_hasCell := goodIn_r _ [15, 16, 17, 9, 6, 10, 268, 269, 270, 271, 272, 273, 274, 275, 276, 277] (by decide +kernel) (by decide +kernel)
set_option maxRecDepth 20000 in
theorem gX6_borne_X1_hasCell : GoodIn wsX6_borne (wsV RX6 82 RX1 yX1_hasCell wsX1_hasCell) := goodIn_app (goodIn_of _ (by decide +kernel)) ggX6_borne_X1_hasCell
set_option maxRecDepth 20000 in
theorem ggX6_borne_X6_treeOf : GoodIn wsX6_borne wsX6_treeOf := goodIn_r _ [21, 22, 23, 1, 24, 25, 26, 27, 28, 29, 30, 31, 32, 33, 34, 35, 36, 37, 38, 39, 40, 41, 42, 43, 44, 45, 46, 47, 48, 49, 50, 51, 52, 53, 54, 55, 6, 56, 57, 58, 59, 14, 60, 61, 62, 63, 64, 17, 65, 66, 67, 68, 69, 70, 71, 72, 73, 74, 75, 76, 77, 78, 79, 80, 81, 82, 83, 84, 85, 86, 87, 88, 89, 90, 91, 92, 93, 94, 95, 96, 97, 98, 99, 100, 101, 102, 103, 104, 105, 106, 107, 108, 109, 110, 111, 112, 113, 114, 115, 116, 117, 118, 119, 120, 121, 122, 123, 124, 125, 126, 127, 128, 129, 130, 131, 132, 133, 134, 135, 136, 137, 138, 139, 140, 141, 142, 143, 144, 145, 146, 147, 148, 149, 150, 151, 152, 153, 154, 155, 156, 157, 158, 159, 160, 161, 162, 163, 164, 165, 166, 167, 168, 169, 170, 171, 172, 173, 174, 175, 176, 177, 178, 179, 180, 181, 182, 183, 184, 185, 186, 187, 188, 189, 190, 191, 192, 193, 194, 195, 196, 197, 198, 199, 200, 201, 202, 203, 204, 205, 206, 207, 208, 209, 210, 211, 212, 213, 214, 215, 216, 217, 218, 219, 220, 221, 222, 223, 224, 225, 226, 227, 228, 229, 230, 231, 232, 233, 234, 235, 236, 237, 238, 239, 240, 241, 242, 243, 244, 245, 246, 247, 248, 249, 250, 251, 252, 254, 255, 256, 257, 258, 259, 260, 261, 262, 263, 264, 265, 266, 267, 278, 279, 280, 281, 282, 283, 284, 285, 286, 287, 288, 268, 269, 270, 271, 272, 273, 274, 275, 276, 277] (by decide +kernel) (by decide +kernel)
set_option maxRecDepth 20000 in
theorem gX6_borne_X6_treeOf : GoodIn wsX6_borne (wsV RX6 145 RX6 yX6_treeOf wsX6_treeOf) := goodIn_app (goodIn_of _ (by decide +kernel)) ggX6_borne_X6_treeOf
set_option maxRecDepth 20000 in
theorem ggX6_borne_X6_cellOf : GoodIn wsX6_borne wsX6_cellOf := goodIn_r _ [56] (by decide +kernel) (by decide +kernel)
set_option maxRecDepth 20000 in
theorem gX6_borne_X6_cellOf : GoodIn wsX6_borne (va_wsS RX6 90 yX6_cellOf wsX6_cellOf) := goodIn_app (goodIn_of _ (by decide +kernel)) ggX6_borne_X6_cellOf
theorem dX6_borne_0 : decode cX6_borne 0 = .ok (.iload_n 1, 1) := by decide +kernel
theorem dX6_borne_1 : decode cX6_borne 1 = .ok (.invokestatic 142, 3) := by decide +kernel
theorem dX6_borne_4 : decode cX6_borne 4 = .ok (.ifCond .eq 15, 3) := by decide +kernel
theorem dX6_borne_7 : decode cX6_borne 7 = .ok (.aload_n 0, 1) := by decide +kernel
theorem dX6_borne_8 : decode cX6_borne 8 = .ok (.getfield 19, 3) := by decide +kernel
theorem dX6_borne_11 : decode cX6_borne 11 = .ok (.iload_n 2, 1) := by decide +kernel
theorem dX6_borne_12 : decode cX6_borne 12 = .ok (.iload_n 3, 1) := by decide +kernel
theorem dX6_borne_13 : decode cX6_borne 13 = .ok (.invokevirtual 82, 3) := by decide +kernel
theorem dX6_borne_16 : decode cX6_borne 16 = .ok (.ifCond .ne 5, 3) := by decide +kernel
theorem dX6_borne_19 : decode cX6_borne 19 = .ok (.iconst (-1), 1) := by decide +kernel
theorem dX6_borne_20 : decode cX6_borne 20 = .ok (.ireturn, 1) := by decide +kernel
theorem dX6_borne_21 : decode cX6_borne 21 = .ok (.aload_n 0, 1) := by decide +kernel
theorem dX6_borne_22 : decode cX6_borne 22 = .ok (.iload_n 1, 1) := by decide +kernel
theorem dX6_borne_23 : decode cX6_borne 23 = .ok (.invokevirtual 145, 3) := by decide +kernel
theorem dX6_borne_26 : decode cX6_borne 26 = .ok (.astore 4, 2) := by decide +kernel
theorem dX6_borne_28 : decode cX6_borne 28 = .ok (.aload 4, 2) := by decide +kernel
theorem dX6_borne_30 : decode cX6_borne 30 = .ok (.getfield 149, 3) := by decide +kernel
theorem dX6_borne_33 : decode cX6_borne 33 = .ok (.ifCond .eq 17, 3) := by decide +kernel
theorem dX6_borne_36 : decode cX6_borne 36 = .ok (.aload 4, 2) := by decide +kernel
theorem dX6_borne_38 : decode cX6_borne 38 = .ok (.getfield 159, 3) := by decide +kernel
theorem dX6_borne_41 : decode cX6_borne 41 = .ok (.iload_n 2, 1) := by decide +kernel
theorem dX6_borne_42 : decode cX6_borne 42 = .ok (.iload_n 3, 1) := by decide +kernel
theorem dX6_borne_43 : decode cX6_borne 43 = .ok (.invokestatic 90, 3) := by decide +kernel
theorem dX6_borne_46 : decode cX6_borne 46 = .ok (.iaload, 1) := by decide +kernel
theorem dX6_borne_47 : decode cX6_borne 47 = .ok (.goto 5, 3) := by decide +kernel
theorem dX6_borne_50 : decode cX6_borne 50 = .ok (.bipush (-2), 2) := by decide +kernel
theorem dX6_borne_52 : decode cX6_borne 52 = .ok (.ireturn, 1) := by decide +kernel
set_option maxRecDepth 20000 in
theorem ggX6_alone_X6_hasPlace : GoodIn wsX6_alone wsX6_hasPlace := goodIn_r _ [5, 6, 7, 118, 119, 120, 121, 122, 123, 124, 125, 126, 127, 128, 129, 130, 131, 132, 133, 134, 135, 136] (by decide +kernel) (by decide +kernel)
set_option maxRecDepth 20000 in
theorem gX6_alone_X6_hasPlace : GoodIn wsX6_alone (wsV RX6 117 RX6 yX6_hasPlace wsX6_hasPlace) := goodIn_app (goodIn_of _ (by decide +kernel)) ggX6_alone_X6_hasPlace
set_option maxRecDepth 20000 in
theorem ggX6_alone_X6_knownBests : GoodIn wsX6_alone wsX6_knownBests := goodIn_r _ [11, 12, 13, 6, 14, 15, 16, 17, 18, 19, 20, 21, 22, 23, 24, 25, 26, 27, 28, 29, 30, 31, 32, 33, 34, 35, 36, 4, 37, 38, 39, 40, 41, 42, 43, 44, 45, 46, 47, 48, 49, 50, 51, 52, 53, 54, 55, 56, 57, 58, 59, 60, 61, 62, 63, 64, 65, 66, 67, 68, 69, 70, 71, 72, 73, 74, 75, 76, 77, 78, 79, 80, 81, 82, 83, 84, 85, 86, 87, 88, 89, 90, 91, 92, 93, 94, 95, 96, 97, 98, 99, 100, 101, 102, 103, 104, 105, 106, 107, 108, 109, 110, 111, 112, 113, 118, 119, 120, 121, 122, 123, 124, 125, 126, 137, 138, 139, 140, 141, 142, 143, 144, 145, 146, 147, 127, 128, 129, 130, 131, 132, 133, 134, 135, 136] (by decide +kernel) (by decide +kernel)
set_option maxRecDepth 20000 in
theorem gX6_alone_X6_knownBests : GoodIn wsX6_alone (wsV RX6 134 RX6 yX6_knownBests wsX6_knownBests) := goodIn_app (goodIn_of _ (by decide +kernel)) ggX6_alone_X6_knownBests
set_option maxRecDepth 20000 in
theorem ggX6_alone_X0_inkOf : GoodIn wsX6_alone wsX0_inkOf := goodIn_r _ [117, 78, 106, 107, 108, 17, 109, 21, 137, 138, 139, 140, 141, 142, 143, 144, 145, 146, 147] (by decide +kernel) (by decide +kernel)
set_option maxRecDepth 20000 in
theorem gX6_alone_X0_inkOf : GoodIn wsX6_alone (wsV RX6 198 RX0 yX0_inkOf wsX0_inkOf) := goodIn_app (goodIn_of _ (by decide +kernel)) ggX6_alone_X0_inkOf
theorem dX6_alone_0 : decode cX6_alone 0 = .ok (.aload_n 0, 1) := by decide +kernel
theorem dX6_alone_1 : decode cX6_alone 1 = .ok (.iload_n 1, 1) := by decide +kernel
theorem dX6_alone_2 : decode cX6_alone 2 = .ok (.invokevirtual 117, 3) := by decide +kernel
theorem dX6_alone_5 : decode cX6_alone 5 = .ok (.ifCond .ne 5, 3) := by decide +kernel
theorem dX6_alone_8 : decode cX6_alone 8 = .ok (.iconst (-1), 1) := by decide +kernel
theorem dX6_alone_9 : decode cX6_alone 9 = .ok (.ireturn, 1) := by decide +kernel
theorem dX6_alone_10 : decode cX6_alone 10 = .ok (.aload_n 0, 1) := by decide +kernel
theorem dX6_alone_11 : decode cX6_alone 11 = .ok (.invokevirtual 134, 3) := by decide +kernel
theorem dX6_alone_14 : decode cX6_alone 14 = .ok (.iconst 0, 1) := by decide +kernel
theorem dX6_alone_15 : decode cX6_alone 15 = .ok (.iconst 1, 1) := by decide +kernel
theorem dX6_alone_16 : decode cX6_alone 16 = .ok (.iload_n 1, 1) := by decide +kernel
theorem dX6_alone_17 : decode cX6_alone 17 = .ok (.ishl, 1) := by decide +kernel
theorem dX6_alone_18 : decode cX6_alone 18 = .ok (.invokevirtual 198, 3) := by decide +kernel
theorem dX6_alone_21 : decode cX6_alone 21 = .ok (.ireturn, 1) := by decide +kernel
set_option maxRecDepth 20000 in
theorem ggX6_costs_X6_hasPlace : GoodIn wsX6_costs wsX6_hasPlace := goodIn_r _ [7, 1, 8, 119, 120, 121, 122, 123, 124, 125, 126, 127, 128, 129, 130, 131, 132, 133, 134, 135, 136, 137] (by decide +kernel) (by decide +kernel)
set_option maxRecDepth 20000 in
theorem gX6_costs_X6_hasPlace : GoodIn wsX6_costs (wsV RX6 117 RX6 yX6_hasPlace wsX6_hasPlace) := goodIn_app (goodIn_of _ (by decide +kernel)) ggX6_costs_X6_hasPlace
set_option maxRecDepth 20000 in
theorem ggX6_costs_X1_allPlaces : GoodIn wsX6_costs wsX1_allPlaces := goodIn_r _ [13, 14, 128, 129, 130, 131, 132, 133, 134, 135, 136, 137] (by decide +kernel) (by decide +kernel)
set_option maxRecDepth 20000 in
theorem gX6_costs_X1_allPlaces : GoodIn wsX6_costs (wsV RX6 201 RX1 yX1_allPlaces wsX1_allPlaces) := goodIn_app (goodIn_of _ (by decide +kernel)) ggX6_costs_X1_allPlaces
set_option maxRecDepth 20000 in
theorem ggX6_costs_X6_knownBests : GoodIn wsX6_costs wsX6_knownBests := goodIn_r _ [18, 2, 19, 1, 20, 21, 22, 23, 24, 25, 26, 27, 28, 29, 30, 31, 32, 33, 34, 35, 36, 37, 38, 39, 40, 41, 42, 6, 43, 44, 45, 46, 47, 48, 49, 50, 10, 11, 12, 13, 14, 51, 52, 53, 54, 55, 56, 57, 58, 59, 60, 61, 62, 63, 64, 65, 66, 67, 68, 69, 70, 71, 72, 73, 74, 75, 76, 77, 78, 79, 80, 81, 82, 83, 84, 85, 86, 87, 88, 89, 90, 91, 92, 93, 94, 95, 96, 97, 98, 99, 100, 101, 102, 103, 104, 105, 106, 107, 108, 109, 110, 111, 112, 113, 114, 119, 120, 121, 122, 123, 124, 125, 126, 127, 138, 139, 140, 141, 142, 143, 144, 145, 146, 147, 148, 128, 129, 130, 131, 132, 133, 134, 135, 136, 137] (by decide +kernel) (by decide +kernel)
set_option maxRecDepth 20000 in
theorem gX6_costs_X6_knownBests : GoodIn wsX6_costs (wsV RX6 134 RX6 yX6_knownBests wsX6_knownBests) := goodIn_app (goodIn_of _ (by decide +kernel)) ggX6_costs_X6_knownBests
set_option maxRecDepth 20000 in
theorem ggX6_costs_X0_inkOf : GoodIn wsX6_costs wsX0_inkOf := goodIn_r _ [118, 79, 107, 108, 109, 23, 110, 27, 138, 139, 140, 141, 142, 143, 144, 145, 146, 147, 148] (by decide +kernel) (by decide +kernel)
set_option maxRecDepth 20000 in
theorem gX6_costs_X0_inkOf : GoodIn wsX6_costs (wsV RX6 198 RX0 yX0_inkOf wsX0_inkOf) := goodIn_app (goodIn_of _ (by decide +kernel)) ggX6_costs_X0_inkOf
theorem dX6_costs_0 : decode cX6_costs 0 = .ok (.aload_n 0, 1) := by decide +kernel
theorem dX6_costs_1 : decode cX6_costs 1 = .ok (.iload_n 1, 1) := by decide +kernel
theorem dX6_costs_2 : decode cX6_costs 2 = .ok (.invokevirtual 117, 3) := by decide +kernel
theorem dX6_costs_5 : decode cX6_costs 5 = .ok (.ifCond .ne 5, 3) := by decide +kernel
theorem dX6_costs_8 : decode cX6_costs 8 = .ok (.iconst (-1), 1) := by decide +kernel
theorem dX6_costs_9 : decode cX6_costs 9 = .ok (.ireturn, 1) := by decide +kernel
theorem dX6_costs_10 : decode cX6_costs 10 = .ok (.aload_n 0, 1) := by decide +kernel
theorem dX6_costs_11 : decode cX6_costs 11 = .ok (.getfield 19, 3) := by decide +kernel
theorem dX6_costs_14 : decode cX6_costs 14 = .ok (.invokevirtual 201, 3) := by decide +kernel
theorem dX6_costs_17 : decode cX6_costs 17 = .ok (.istore_n 2, 1) := by decide +kernel
theorem dX6_costs_18 : decode cX6_costs 18 = .ok (.aload_n 0, 1) := by decide +kernel
theorem dX6_costs_19 : decode cX6_costs 19 = .ok (.invokevirtual 134, 3) := by decide +kernel
theorem dX6_costs_22 : decode cX6_costs 22 = .ok (.iconst 0, 1) := by decide +kernel
theorem dX6_costs_23 : decode cX6_costs 23 = .ok (.iload_n 2, 1) := by decide +kernel
theorem dX6_costs_24 : decode cX6_costs 24 = .ok (.invokevirtual 198, 3) := by decide +kernel
theorem dX6_costs_27 : decode cX6_costs 27 = .ok (.istore_n 3, 1) := by decide +kernel
theorem dX6_costs_28 : decode cX6_costs 28 = .ok (.iload_n 3, 1) := by decide +kernel
theorem dX6_costs_29 : decode cX6_costs 29 = .ok (.bipush (-2), 2) := by decide +kernel
theorem dX6_costs_31 : decode cX6_costs 31 = .ok (.if_icmp .ne 8, 3) := by decide +kernel
theorem dX6_costs_34 : decode cX6_costs 34 = .ok (.bipush (-2), 2) := by decide +kernel
theorem dX6_costs_36 : decode cX6_costs 36 = .ok (.goto 18, 3) := by decide +kernel
theorem dX6_costs_39 : decode cX6_costs 39 = .ok (.iload_n 3, 1) := by decide +kernel
theorem dX6_costs_40 : decode cX6_costs 40 = .ok (.aload_n 0, 1) := by decide +kernel
theorem dX6_costs_41 : decode cX6_costs 41 = .ok (.getfield 29, 3) := by decide +kernel
theorem dX6_costs_44 : decode cX6_costs 44 = .ok (.iconst 0, 1) := by decide +kernel
theorem dX6_costs_45 : decode cX6_costs 45 = .ok (.iload_n 2, 1) := by decide +kernel
theorem dX6_costs_46 : decode cX6_costs 46 = .ok (.iconst 1, 1) := by decide +kernel
theorem dX6_costs_47 : decode cX6_costs 47 = .ok (.iload_n 1, 1) := by decide +kernel
theorem dX6_costs_48 : decode cX6_costs 48 = .ok (.ishl, 1) := by decide +kernel
theorem dX6_costs_49 : decode cX6_costs 49 = .ok (.ixor, 1) := by decide +kernel
theorem dX6_costs_50 : decode cX6_costs 50 = .ok (.invokevirtual 198, 3) := by decide +kernel
theorem dX6_costs_53 : decode cX6_costs 53 = .ok (.isub, 1) := by decide +kernel
theorem dX6_costs_54 : decode cX6_costs 54 = .ok (.ireturn, 1) := by decide +kernel
set_option maxRecDepth 20000 in
theorem ggX6_bars_X1_hasCell : GoodIn wsX6_bars wsX1_hasCell := goodIn_r _ [9, 10, 11, 12, 13, 14, 269, 270, 271, 272, 273, 274, 275, 276, 277, 278] (by decide +kernel) (by decide +kernel)
set_option maxRecDepth 20000 in
theorem gX6_bars_X1_hasCell : GoodIn wsX6_bars (wsV RX6 82 RX1 yX1_hasCell wsX1_hasCell) := goodIn_app (goodIn_of _ (by decide +kernel)) ggX6_bars_X1_hasCell
set_option maxRecDepth 20000 in
theorem ggX6_bars_X6_cellOf : GoodIn wsX6_bars wsX6_cellOf := goodIn_r _ [17] (by decide +kernel) (by decide +kernel)
set_option maxRecDepth 20000 in
theorem gX6_bars_X6_cellOf : GoodIn wsX6_bars (va_wsS RX6 90 yX6_cellOf wsX6_cellOf) := goodIn_app (goodIn_of _ (by decide +kernel)) ggX6_bars_X6_cellOf
set_option maxRecDepth 20000 in
theorem ggX6_bars_X6_treeOf : GoodIn wsX6_bars wsX6_treeOf := goodIn_r _ [21, 22, 23, 1, 24, 25, 26, 27, 28, 29, 30, 31, 32, 33, 34, 35, 36, 37, 38, 39, 40, 41, 42, 43, 44, 45, 46, 47, 48, 49, 50, 51, 52, 53, 54, 16, 13, 17, 55, 56, 57, 8, 58, 59, 60, 61, 62, 11, 63, 64, 65, 66, 67, 68, 69, 70, 71, 72, 73, 74, 75, 76, 77, 78, 79, 80, 81, 82, 83, 84, 85, 86, 87, 88, 89, 90, 91, 92, 93, 94, 95, 96, 97, 98, 99, 100, 101, 102, 103, 104, 105, 106, 107, 108, 109, 110, 111, 112, 113, 114, 115, 116, 117, 118, 119, 120, 121, 122, 123, 124, 125, 126, 127, 128, 129, 130, 131, 132, 133, 134, 135, 136, 137, 138, 139, 140, 141, 142, 143, 144, 145, 146, 147, 148, 149, 150, 151, 152, 153, 154, 155, 156, 157, 158, 159, 160, 161, 162, 163, 164, 165, 166, 167, 168, 169, 170, 171, 172, 173, 174, 175, 176, 177, 178, 179, 180, 181, 182, 183, 184, 185, 186, 187, 188, 189, 190, 191, 192, 193, 194, 195, 196, 197, 198, 199, 200, 201, 202, 203, 204, 205, 206, 207, 208, 209, 210, 211, 212, 213, 214, 215, 216, 217, 218, 219, 220, 221, 222, 223, 224, 225, 226, 227, 228, 229, 230, 231, 232, 233, 234, 235, 236, 237, 238, 239, 240, 241, 242, 243, 244, 245, 246, 247, 248, 249, 250, 260, 261, 262, 263, 264, 265, 266, 267, 268, 279, 280, 281, 282, 283, 284, 285, 286, 287, 288, 289, 290, 291, 292, 293, 294, 269, 270, 271, 272, 273, 274, 275, 276, 277, 278] (by decide +kernel) (by decide +kernel)
set_option maxRecDepth 20000 in
theorem gX6_bars_X6_treeOf : GoodIn wsX6_bars (wsV RX6 145 RX6 yX6_treeOf wsX6_treeOf) := goodIn_app (goodIn_of _ (by decide +kernel)) ggX6_bars_X6_treeOf
set_option maxRecDepth 20000 in
theorem ggX6_bars_X6_leastInkWithoutRock : GoodIn wsX6_bars wsX6_leastInkWithoutRock := goodIn_r _ [254, 1, 2, 24, 25, 96, 97, 98, 99, 100, 101, 102, 103, 104, 105, 106, 107, 108, 109, 110, 111, 112, 113, 114, 52, 53, 54, 16, 13, 17, 115, 116, 117, 118, 119, 120, 121, 122, 123, 8, 124, 84, 125, 81, 82, 83, 85, 126, 87, 88, 89, 90, 91, 92, 93, 94, 95, 127, 128, 129, 130, 131, 60, 61, 62, 11, 132, 133, 134, 135, 136, 137, 138, 139, 140, 141, 142, 143, 144, 145, 146, 147, 148, 149, 150, 151, 152, 153, 154, 155, 156, 157, 158, 159, 160, 161, 162, 163, 164, 165, 166, 167, 168, 169, 170, 171, 255, 256, 257, 258, 259, 260, 261, 262, 263, 264, 265, 266, 267, 268, 269, 270, 271, 272, 273, 274, 275, 276, 277, 278, 284, 285, 286, 287, 288, 289, 290, 291, 292, 293, 294] (by decide +kernel) (by decide +kernel)
set_option maxRecDepth 20000 in
theorem gX6_bars_X6_leastInkWithoutRock : GoodIn wsX6_bars (wsV RX6 204 RX6 yX6_leastInkWithoutRock wsX6_leastInkWithoutRock) := goodIn_app (goodIn_of _ (by decide +kernel)) ggX6_bars_X6_leastInkWithoutRock
theorem dX6_bars_0 : decode cX6_bars 0 = .ok (.aload_n 0, 1) := by decide +kernel
theorem dX6_bars_1 : decode cX6_bars 1 = .ok (.getfield 19, 3) := by decide +kernel
theorem dX6_bars_4 : decode cX6_bars 4 = .ok (.iload_n 1, 1) := by decide +kernel
theorem dX6_bars_5 : decode cX6_bars 5 = .ok (.iload_n 2, 1) := by decide +kernel
theorem dX6_bars_6 : decode cX6_bars 6 = .ok (.invokevirtual 82, 3) := by decide +kernel
theorem dX6_bars_9 : decode cX6_bars 9 = .ok (.ifCond .eq 19, 3) := by decide +kernel
theorem dX6_bars_12 : decode cX6_bars 12 = .ok (.aload_n 0, 1) := by decide +kernel
theorem dX6_bars_13 : decode cX6_bars 13 = .ok (.getfield 19, 3) := by decide +kernel
theorem dX6_bars_16 : decode cX6_bars 16 = .ok (.getfield 86, 3) := by decide +kernel
theorem dX6_bars_19 : decode cX6_bars 19 = .ok (.iload_n 1, 1) := by decide +kernel
theorem dX6_bars_20 : decode cX6_bars 20 = .ok (.iload_n 2, 1) := by decide +kernel
theorem dX6_bars_21 : decode cX6_bars 21 = .ok (.invokestatic 90, 3) := by decide +kernel
theorem dX6_bars_24 : decode cX6_bars 24 = .ok (.baload, 1) := by decide +kernel
theorem dX6_bars_25 : decode cX6_bars 25 = .ok (.ifCond .ne 5, 3) := by decide +kernel
theorem dX6_bars_28 : decode cX6_bars 28 = .ok (.iconst (-1), 1) := by decide +kernel
theorem dX6_bars_29 : decode cX6_bars 29 = .ok (.ireturn, 1) := by decide +kernel
theorem dX6_bars_30 : decode cX6_bars 30 = .ok (.aload_n 0, 1) := by decide +kernel
theorem dX6_bars_31 : decode cX6_bars 31 = .ok (.iconst 4, 1) := by decide +kernel
theorem dX6_bars_32 : decode cX6_bars 32 = .ok (.invokevirtual 145, 3) := by decide +kernel
theorem dX6_bars_35 : decode cX6_bars 35 = .ok (.astore_n 3, 1) := by decide +kernel
theorem dX6_bars_36 : decode cX6_bars 36 = .ok (.aload_n 3, 1) := by decide +kernel
theorem dX6_bars_37 : decode cX6_bars 37 = .ok (.getfield 149, 3) := by decide +kernel
theorem dX6_bars_40 : decode cX6_bars 40 = .ok (.ifCond .eq 20, 3) := by decide +kernel
theorem dX6_bars_43 : decode cX6_bars 43 = .ok (.aload_n 3, 1) := by decide +kernel
theorem dX6_bars_44 : decode cX6_bars 44 = .ok (.getfield 153, 3) := by decide +kernel
theorem dX6_bars_47 : decode cX6_bars 47 = .ok (.aload_n 0, 1) := by decide +kernel
theorem dX6_bars_48 : decode cX6_bars 48 = .ok (.iload_n 1, 1) := by decide +kernel
theorem dX6_bars_49 : decode cX6_bars 49 = .ok (.iload_n 2, 1) := by decide +kernel
theorem dX6_bars_50 : decode cX6_bars 50 = .ok (.invokestatic 90, 3) := by decide +kernel
theorem dX6_bars_53 : decode cX6_bars 53 = .ok (.invokevirtual 204, 3) := by decide +kernel
theorem dX6_bars_56 : decode cX6_bars 56 = .ok (.isub, 1) := by decide +kernel
theorem dX6_bars_57 : decode cX6_bars 57 = .ok (.goto 5, 3) := by decide +kernel
theorem dX6_bars_60 : decode cX6_bars 60 = .ok (.bipush (-2), 2) := by decide +kernel
theorem dX6_bars_62 : decode cX6_bars 62 = .ok (.ireturn, 1) := by decide +kernel
set_option maxRecDepth 20000 in
theorem ggX6_more_X1_hasCell : GoodIn wsX6_more wsX1_hasCell := goodIn_r _ [12, 13, 14, 15, 16, 17, 294, 295, 296, 297, 298, 299, 300, 301, 302, 303] (by decide +kernel) (by decide +kernel)
set_option maxRecDepth 20000 in
theorem gX6_more_X1_hasCell : GoodIn wsX6_more (wsV RX6 82 RX1 yX1_hasCell wsX1_hasCell) := goodIn_app (goodIn_of _ (by decide +kernel)) ggX6_more_X1_hasCell
set_option maxRecDepth 20000 in
theorem ggX6_more_X6_isWithin : GoodIn wsX6_more wsX6_isWithin := goodIn_r _ [17] (by decide +kernel) (by decide +kernel)
set_option maxRecDepth 20000 in
theorem gX6_more_X6_isWithin : GoodIn wsX6_more (va_wsS RX6 74 yX6_isWithin wsX6_isWithin) := goodIn_app (goodIn_of _ (by decide +kernel)) ggX6_more_X6_isWithin
set_option maxRecDepth 20000 in
theorem ggX6_more_X6_cellOf : GoodIn wsX6_more wsX6_cellOf := goodIn_r _ [21] (by decide +kernel) (by decide +kernel)
set_option maxRecDepth 20000 in
theorem gX6_more_X6_cellOf : GoodIn wsX6_more (va_wsS RX6 90 yX6_cellOf wsX6_cellOf) := goodIn_app (goodIn_of _ (by decide +kernel)) ggX6_more_X6_cellOf
set_option maxRecDepth 20000 in
theorem ggX6_more_X6_treeOf : GoodIn wsX6_more wsX6_treeOf := goodIn_r _ [25, 26, 27, 1, 28, 29, 30, 31, 32, 33, 34, 35, 36, 37, 38, 39, 40, 41, 42, 43, 44, 45, 46, 47, 48, 49, 50, 51, 52, 53, 54, 55, 56, 57, 58, 20, 16, 21, 59, 60, 61, 11, 62, 63, 64, 65, 66, 14, 67, 68, 69, 70, 71, 72, 73, 74, 75, 76, 77, 78, 79, 80, 81, 82, 83, 84, 85, 86, 87, 88, 89, 90, 91, 92, 93, 94, 95, 96, 97, 98, 99, 100, 101, 102, 103, 104, 105, 106, 107, 108, 109, 110, 111, 112, 113, 114, 115, 116, 117, 118, 119, 120, 121, 122, 123, 124, 125, 126, 127, 128, 129, 130, 131, 132, 133, 134, 135, 136, 137, 138, 139, 140, 141, 142, 143, 144, 145, 146, 147, 148, 149, 150, 151, 152, 153, 154, 155, 156, 157, 158, 159, 160, 161, 162, 163, 164, 165, 166, 167, 168, 169, 170, 171, 172, 173, 174, 175, 176, 177, 178, 179, 180, 181, 182, 183, 184, 185, 186, 187, 188, 189, 190, 191, 192, 193, 194, 195, 196, 197, 198, 199, 200, 201, 202, 203, 204, 205, 206, 207, 208, 209, 210, 211, 212, 213, 214, 215, 216, 217, 218, 219, 220, 221, 222, 223, 224, 225, 226, 227, 228, 229, 230, 231, 232, 233, 234, 235, 236, 237, 238, 239, 240, 241, 242, 243, 244, 245, 246, 247, 248, 249, 250, 251, 252, 253, 254, 285, 286, 287, 288, 289, 290, 291, 292, 293, 304, 305, 306, 307, 308, 314, 315, 316, 317, 318, 319, 320, 321, 322, 323, 324, 294, 295, 296, 297, 298, 299, 300, 301, 302, 303] (by decide +kernel) (by decide +kernel)
set_option maxRecDepth 20000 in
theorem gX6_more_X6_treeOf : GoodIn wsX6_more (wsV RX6 145 RX6 yX6_treeOf wsX6_treeOf) := goodIn_app (goodIn_of _ (by decide +kernel)) ggX6_more_X6_treeOf
set_option maxRecDepth 20000 in
theorem ggX6_more_X3_findWay : GoodIn wsX6_more wsX3_findWay := goodIn_r _ [259, 260, 261, 262, 263, 20, 16, 21, 264, 265, 266, 44, 267, 54, 268, 96, 97, 11, 98, 99, 248, 64, 65, 66, 14, 269, 270, 271, 258, 272, 273, 274, 275, 276, 56, 57, 58, 277, 278, 279, 280, 281, 282, 283, 284, 309, 310, 311, 312, 313, 304, 305, 306, 307, 308, 294, 295, 296, 297, 298, 299, 300, 301, 302, 303] (by decide +kernel) (by decide +kernel)
set_option maxRecDepth 20000 in
theorem gX6_more_X3_findWay : GoodIn wsX6_more (wsV RX6 207 RX3 yX3_findWay wsX3_findWay) := goodIn_app (goodIn_of _ (by decide +kernel)) ggX6_more_X3_findWay
theorem dX6_more_0 : decode cX6_more 0 = .ok (.aload_n 0, 1) := by decide +kernel
theorem dX6_more_1 : decode cX6_more 1 = .ok (.getfield 19, 3) := by decide +kernel
theorem dX6_more_4 : decode cX6_more 4 = .ok (.iload_n 1, 1) := by decide +kernel
theorem dX6_more_5 : decode cX6_more 5 = .ok (.iload_n 2, 1) := by decide +kernel
theorem dX6_more_6 : decode cX6_more 6 = .ok (.invokevirtual 82, 3) := by decide +kernel
theorem dX6_more_9 : decode cX6_more 9 = .ok (.ifCond .eq 39, 3) := by decide +kernel
theorem dX6_more_12 : decode cX6_more 12 = .ok (.iload_n 3, 1) := by decide +kernel
theorem dX6_more_13 : decode cX6_more 13 = .ok (.iconst 1, 1) := by decide +kernel
theorem dX6_more_14 : decode cX6_more 14 = .ok (.bipush 99, 2) := by decide +kernel
theorem dX6_more_16 : decode cX6_more 16 = .ok (.invokestatic 74, 3) := by decide +kernel
theorem dX6_more_19 : decode cX6_more 19 = .ok (.ifCond .eq 29, 3) := by decide +kernel
theorem dX6_more_22 : decode cX6_more 22 = .ok (.iload 4, 2) := by decide +kernel
theorem dX6_more_24 : decode cX6_more 24 = .ok (.iconst 0, 1) := by decide +kernel
theorem dX6_more_25 : decode cX6_more 25 = .ok (.iconst 2, 1) := by decide +kernel
theorem dX6_more_26 : decode cX6_more 26 = .ok (.invokestatic 74, 3) := by decide +kernel
theorem dX6_more_29 : decode cX6_more 29 = .ok (.ifCond .eq 19, 3) := by decide +kernel
theorem dX6_more_32 : decode cX6_more 32 = .ok (.aload_n 0, 1) := by decide +kernel
theorem dX6_more_33 : decode cX6_more 33 = .ok (.getfield 19, 3) := by decide +kernel
theorem dX6_more_36 : decode cX6_more 36 = .ok (.getfield 86, 3) := by decide +kernel
theorem dX6_more_39 : decode cX6_more 39 = .ok (.iload_n 1, 1) := by decide +kernel
theorem dX6_more_40 : decode cX6_more 40 = .ok (.iload_n 2, 1) := by decide +kernel
theorem dX6_more_41 : decode cX6_more 41 = .ok (.invokestatic 90, 3) := by decide +kernel
theorem dX6_more_44 : decode cX6_more 44 = .ok (.baload, 1) := by decide +kernel
theorem dX6_more_45 : decode cX6_more 45 = .ok (.ifCond .eq 5, 3) := by decide +kernel
theorem dX6_more_48 : decode cX6_more 48 = .ok (.iconst (-1), 1) := by decide +kernel
theorem dX6_more_49 : decode cX6_more 49 = .ok (.ireturn, 1) := by decide +kernel
theorem dX6_more_50 : decode cX6_more 50 = .ok (.aload_n 0, 1) := by decide +kernel
theorem dX6_more_51 : decode cX6_more 51 = .ok (.iconst 4, 1) := by decide +kernel
theorem dX6_more_52 : decode cX6_more 52 = .ok (.invokevirtual 145, 3) := by decide +kernel
theorem dX6_more_55 : decode cX6_more 55 = .ok (.astore 5, 2) := by decide +kernel
theorem dX6_more_57 : decode cX6_more 57 = .ok (.aload 5, 2) := by decide +kernel
theorem dX6_more_59 : decode cX6_more 59 = .ok (.getfield 149, 3) := by decide +kernel
theorem dX6_more_62 : decode cX6_more 62 = .ok (.ifCond .eq 22, 3) := by decide +kernel
theorem dX6_more_65 : decode cX6_more 65 = .ok (.aload_n 0, 1) := by decide +kernel
theorem dX6_more_66 : decode cX6_more 66 = .ok (.getfield 52, 3) := by decide +kernel
theorem dX6_more_69 : decode cX6_more 69 = .ok (.aload_n 0, 1) := by decide +kernel
theorem dX6_more_70 : decode cX6_more 70 = .ok (.getfield 19, 3) := by decide +kernel
theorem dX6_more_73 : decode cX6_more 73 = .ok (.aload 5, 2) := by decide +kernel
theorem dX6_more_75 : decode cX6_more 75 = .ok (.iload_n 1, 1) := by decide +kernel
theorem dX6_more_76 : decode cX6_more 76 = .ok (.iload_n 2, 1) := by decide +kernel
theorem dX6_more_77 : decode cX6_more 77 = .ok (.iload_n 3, 1) := by decide +kernel
theorem dX6_more_78 : decode cX6_more 78 = .ok (.invokevirtual 207, 3) := by decide +kernel
theorem dX6_more_81 : decode cX6_more 81 = .ok (.ifCond .ne 6, 3) := by decide +kernel
theorem dX6_more_84 : decode cX6_more 84 = .ok (.bipush (-2), 2) := by decide +kernel
theorem dX6_more_86 : decode cX6_more 86 = .ok (.ireturn, 1) := by decide +kernel
theorem dX6_more_87 : decode cX6_more 87 = .ok (.iload 4, 2) := by decide +kernel
theorem dX6_more_89 : decode cX6_more 89 = .ok (.ifCond .ne 11, 3) := by decide +kernel
theorem dX6_more_92 : decode cX6_more 92 = .ok (.aload_n 0, 1) := by decide +kernel
theorem dX6_more_93 : decode cX6_more 93 = .ok (.getfield 52, 3) := by decide +kernel
theorem dX6_more_96 : decode cX6_more 96 = .ok (.getfield 211, 3) := by decide +kernel
theorem dX6_more_99 : decode cX6_more 99 = .ok (.ireturn, 1) := by decide +kernel
theorem dX6_more_100 : decode cX6_more 100 = .ok (.iload 4, 2) := by decide +kernel
theorem dX6_more_102 : decode cX6_more 102 = .ok (.iconst 1, 1) := by decide +kernel
theorem dX6_more_103 : decode cX6_more 103 = .ok (.if_icmp .ne 13, 3) := by decide +kernel
theorem dX6_more_106 : decode cX6_more 106 = .ok (.aload_n 0, 1) := by decide +kernel
theorem dX6_more_107 : decode cX6_more 107 = .ok (.getfield 52, 3) := by decide +kernel
theorem dX6_more_110 : decode cX6_more 110 = .ok (.getfield 214, 3) := by decide +kernel
theorem dX6_more_113 : decode cX6_more 113 = .ok (.goto 10, 3) := by decide +kernel
theorem dX6_more_116 : decode cX6_more 116 = .ok (.aload_n 0, 1) := by decide +kernel
theorem dX6_more_117 : decode cX6_more 117 = .ok (.getfield 52, 3) := by decide +kernel
theorem dX6_more_120 : decode cX6_more 120 = .ok (.getfield 217, 3) := by decide +kernel
theorem dX6_more_123 : decode cX6_more 123 = .ok (.ireturn, 1) := by decide +kernel
set_option maxRecDepth 20000 in
theorem ggX6_best_X1_hasCellOrSource : GoodIn wsX6_best wsX1_hasCellOrSource := goodIn_r _ [7, 8, 9, 10, 6, 11, 12, 13, 14, 15, 16, 137, 138, 139, 140, 141, 142, 143, 144, 145, 146] (by decide +kernel) (by decide +kernel)
set_option maxRecDepth 20000 in
theorem gX6_best_X1_hasCellOrSource : GoodIn wsX6_best (wsV RX6 156 RX1 yX1_hasCellOrSource wsX1_hasCellOrSource) := goodIn_app (goodIn_of _ (by decide +kernel)) ggX6_best_X1_hasCellOrSource
set_option maxRecDepth 20000 in
theorem ggX6_best_X1_allPlaces : GoodIn wsX6_best wsX1_allPlaces := goodIn_r _ [20, 21, 137, 138, 139, 140, 141, 142, 143, 144, 145, 146] (by decide +kernel) (by decide +kernel)
set_option maxRecDepth 20000 in
theorem gX6_best_X1_allPlaces : GoodIn wsX6_best (wsV RX6 201 RX1 yX1_allPlaces wsX1_allPlaces) := goodIn_app (goodIn_of _ (by decide +kernel)) ggX6_best_X1_allPlaces
set_option maxRecDepth 20000 in
theorem ggX6_best_X6_isWithin : GoodIn wsX6_best wsX6_isWithin := goodIn_r _ [16] (by decide +kernel) (by decide +kernel)
set_option maxRecDepth 20000 in
theorem gX6_best_X6_isWithin : GoodIn wsX6_best (va_wsS RX6 74 yX6_isWithin wsX6_isWithin) := goodIn_app (goodIn_of _ (by decide +kernel)) ggX6_best_X6_isWithin
set_option maxRecDepth 20000 in
theorem ggX6_best_X6_cellOf : GoodIn wsX6_best wsX6_cellOf := goodIn_r _ [25] (by decide +kernel) (by decide +kernel)
set_option maxRecDepth 20000 in
theorem gX6_best_X6_cellOf : GoodIn wsX6_best (va_wsS RX6 90 yX6_cellOf wsX6_cellOf) := goodIn_app (goodIn_of _ (by decide +kernel)) ggX6_best_X6_cellOf
set_option maxRecDepth 20000 in
theorem ggX6_best_X6_knownBests : GoodIn wsX6_best wsX6_knownBests := goodIn_r _ [29, 30, 31, 1, 32, 33, 34, 35, 36, 37, 38, 39, 40, 41, 42, 43, 44, 45, 46, 47, 48, 49, 50, 51, 52, 53, 24, 15, 25, 54, 55, 56, 57, 58, 59, 60, 18, 19, 6, 20, 21, 61, 62, 63, 64, 65, 66, 67, 68, 69, 70, 71, 72, 73, 74, 75, 76, 77, 78, 79, 80, 81, 82, 83, 13, 84, 85, 86, 87, 88, 89, 90, 91, 92, 93, 94, 95, 96, 97, 98, 99, 100, 101, 102, 103, 104, 105, 106, 107, 108, 109, 110, 111, 112, 113, 114, 115, 116, 117, 118, 119, 120, 121, 122, 123, 128, 129, 130, 131, 132, 133, 134, 135, 136, 147, 148, 149, 150, 151, 152, 153, 154, 155, 156, 157, 137, 138, 139, 140, 141, 142, 143, 144, 145, 146] (by decide +kernel) (by decide +kernel)
set_option maxRecDepth 20000 in
theorem gX6_best_X6_knownBests : GoodIn wsX6_best (wsV RX6 134 RX6 yX6_knownBests wsX6_knownBests) := goodIn_app (goodIn_of _ (by decide +kernel)) ggX6_best_X6_knownBests
set_option maxRecDepth 20000 in
theorem ggX6_best_X0_inkOf : GoodIn wsX6_best wsX0_inkOf := goodIn_r _ [127, 88, 116, 117, 118, 35, 119, 39, 147, 148, 149, 150, 151, 152, 153, 154, 155, 156, 157] (by decide +kernel) (by decide +kernel)
set_option maxRecDepth 20000 in
theorem gX6_best_X0_inkOf : GoodIn wsX6_best (wsV RX6 198 RX0 yX0_inkOf wsX0_inkOf) := goodIn_app (goodIn_of _ (by decide +kernel)) ggX6_best_X0_inkOf
theorem dX6_best_0 : decode cX6_best 0 = .ok (.aload_n 0, 1) := by decide +kernel
theorem dX6_best_1 : decode cX6_best 1 = .ok (.getfield 19, 3) := by decide +kernel
theorem dX6_best_4 : decode cX6_best 4 = .ok (.iload_n 1, 1) := by decide +kernel
theorem dX6_best_5 : decode cX6_best 5 = .ok (.iload_n 2, 1) := by decide +kernel
theorem dX6_best_6 : decode cX6_best 6 = .ok (.invokevirtual 156, 3) := by decide +kernel
theorem dX6_best_9 : decode cX6_best 9 = .ok (.ifCond .eq 34, 3) := by decide +kernel
theorem dX6_best_12 : decode cX6_best 12 = .ok (.iload_n 3, 1) := by decide +kernel
theorem dX6_best_13 : decode cX6_best 13 = .ok (.iconst 1, 1) := by decide +kernel
theorem dX6_best_14 : decode cX6_best 14 = .ok (.aload_n 0, 1) := by decide +kernel
theorem dX6_best_15 : decode cX6_best 15 = .ok (.getfield 19, 3) := by decide +kernel
theorem dX6_best_18 : decode cX6_best 18 = .ok (.invokevirtual 201, 3) := by decide +kernel
theorem dX6_best_21 : decode cX6_best 21 = .ok (.invokestatic 74, 3) := by decide +kernel
theorem dX6_best_24 : decode cX6_best 24 = .ok (.ifCond .eq 19, 3) := by decide +kernel
theorem dX6_best_27 : decode cX6_best 27 = .ok (.aload_n 0, 1) := by decide +kernel
theorem dX6_best_28 : decode cX6_best 28 = .ok (.getfield 19, 3) := by decide +kernel
theorem dX6_best_31 : decode cX6_best 31 = .ok (.getfield 86, 3) := by decide +kernel
theorem dX6_best_34 : decode cX6_best 34 = .ok (.iload_n 1, 1) := by decide +kernel
theorem dX6_best_35 : decode cX6_best 35 = .ok (.iload_n 2, 1) := by decide +kernel
theorem dX6_best_36 : decode cX6_best 36 = .ok (.invokestatic 90, 3) := by decide +kernel
theorem dX6_best_39 : decode cX6_best 39 = .ok (.baload, 1) := by decide +kernel
theorem dX6_best_40 : decode cX6_best 40 = .ok (.ifCond .eq 5, 3) := by decide +kernel
theorem dX6_best_43 : decode cX6_best 43 = .ok (.iconst (-1), 1) := by decide +kernel
theorem dX6_best_44 : decode cX6_best 44 = .ok (.ireturn, 1) := by decide +kernel
theorem dX6_best_45 : decode cX6_best 45 = .ok (.aload_n 0, 1) := by decide +kernel
theorem dX6_best_46 : decode cX6_best 46 = .ok (.invokevirtual 134, 3) := by decide +kernel
theorem dX6_best_49 : decode cX6_best 49 = .ok (.iload_n 1, 1) := by decide +kernel
theorem dX6_best_50 : decode cX6_best 50 = .ok (.iload_n 2, 1) := by decide +kernel
theorem dX6_best_51 : decode cX6_best 51 = .ok (.invokestatic 90, 3) := by decide +kernel
theorem dX6_best_54 : decode cX6_best 54 = .ok (.iload_n 3, 1) := by decide +kernel
theorem dX6_best_55 : decode cX6_best 55 = .ok (.invokevirtual 198, 3) := by decide +kernel
theorem dX6_best_58 : decode cX6_best 58 = .ok (.ireturn, 1) := by decide +kernel
set_option maxRecDepth 20000 in
theorem ggX6_count_X1_rocks : GoodIn wsX6_count wsX1_rocks := goodIn_r _ [14, 15, 145, 146, 147, 148, 149, 150, 151, 152, 153, 154] (by decide +kernel) (by decide +kernel)
set_option maxRecDepth 20000 in
theorem gX6_count_X1_rocks : GoodIn wsX6_count (wsV RX6 223 RX1 yX1_rocks wsX1_rocks) := goodIn_app (goodIn_of _ (by decide +kernel)) ggX6_count_X1_rocks
set_option maxRecDepth 20000 in
theorem ggX6_count_X1_allPlaces : GoodIn wsX6_count wsX1_allPlaces := goodIn_r _ [19, 20, 145, 146, 147, 148, 149, 150, 151, 152, 153, 154] (by decide +kernel) (by decide +kernel)
set_option maxRecDepth 20000 in
theorem gX6_count_X1_allPlaces : GoodIn wsX6_count (wsV RX6 201 RX1 yX1_allPlaces wsX1_allPlaces) := goodIn_app (goodIn_of _ (by decide +kernel)) ggX6_count_X1_allPlaces
set_option maxRecDepth 20000 in
theorem ggX6_count_X1_amountOf : GoodIn wsX6_count wsX1_amountOf := goodIn_r _ [24, 20, 25, 145, 146, 147, 148, 149, 150, 151, 152, 153, 154] (by decide +kernel) (by decide +kernel)
set_option maxRecDepth 20000 in
theorem gX6_count_X1_amountOf : GoodIn wsX6_count (wsV RX6 162 RX1 yX1_amountOf wsX1_amountOf) := goodIn_app (goodIn_of _ (by decide +kernel)) ggX6_count_X1_amountOf
set_option maxRecDepth 20000 in
theorem ggX6_count_X6_knownBests : GoodIn wsX6_count wsX6_knownBests := goodIn_r _ [30, 31, 32, 1, 33, 34, 35, 36, 37, 38, 39, 40, 41, 42, 43, 44, 45, 46, 47, 48, 49, 50, 51, 52, 53, 54, 55, 29, 56, 57, 58, 59, 60, 61, 62, 63, 17, 18, 13, 19, 20, 64, 22, 23, 24, 25, 65, 66, 67, 68, 69, 70, 71, 72, 73, 74, 75, 76, 77, 78, 79, 80, 81, 82, 83, 84, 85, 86, 87, 88, 89, 90, 91, 92, 93, 94, 95, 96, 97, 98, 99, 100, 101, 102, 103, 104, 105, 106, 107, 108, 109, 110, 111, 112, 113, 114, 115, 116, 117, 118, 119, 120, 121, 122, 123, 136, 137, 138, 139, 140, 141, 142, 143, 144, 163, 164, 165, 166, 167, 168, 169, 170, 171, 172, 173, 145, 146, 147, 148, 149, 150, 151, 152, 153, 154] (by decide +kernel) (by decide +kernel)
set_option maxRecDepth 20000 in
theorem gX6_count_X6_knownBests : GoodIn wsX6_count (wsV RX6 134 RX6 yX6_knownBests wsX6_knownBests) := goodIn_app (goodIn_of _ (by decide +kernel)) ggX6_count_X6_knownBests
set_option maxRecDepth 20000 in
theorem ggX6_count_X0_inkSavedByLeast : GoodIn wsX6_count wsX0_inkSavedByLeast := goodIn_r _ [127, 128, 129, 130, 36, 131, 48, 132, 133, 134, 135, 88, 116, 117, 118, 119, 40, 63, 17, 18, 13, 19, 20, 145, 146, 147, 148, 149, 150, 151, 152, 153, 154, 163, 164, 165, 166, 167, 168, 169, 170, 171, 172, 173] (by decide +kernel) (by decide +kernel)
set_option maxRecDepth 20000 in
theorem gX6_count_X0_inkSavedByLeast : GoodIn wsX6_count (wsV RX6 226 RX0 yX0_inkSavedByLeast wsX0_inkSavedByLeast) := goodIn_app (goodIn_of _ (by decide +kernel)) ggX6_count_X0_inkSavedByLeast
theorem dX6_count_0 : decode cX6_count 0 = .ok (.iload_n 1, 1) := by decide +kernel
theorem dX6_count_1 : decode cX6_count 1 = .ok (.tableswitch 146 0 9 #[55, 63, 71, 79, 87, 95, 103, 111, 126, 134], 55) := by decide +kernel
theorem dX6_count_56 : decode cX6_count 56 = .ok (.aload_n 0, 1) := by decide +kernel
theorem dX6_count_57 : decode cX6_count 57 = .ok (.getfield 19, 3) := by decide +kernel
theorem dX6_count_60 : decode cX6_count 60 = .ok (.getfield 192, 3) := by decide +kernel
theorem dX6_count_63 : decode cX6_count 63 = .ok (.ireturn, 1) := by decide +kernel
theorem dX6_count_64 : decode cX6_count 64 = .ok (.aload_n 0, 1) := by decide +kernel
theorem dX6_count_65 : decode cX6_count 65 = .ok (.getfield 19, 3) := by decide +kernel
theorem dX6_count_68 : decode cX6_count 68 = .ok (.getfield 220, 3) := by decide +kernel
theorem dX6_count_71 : decode cX6_count 71 = .ok (.ireturn, 1) := by decide +kernel
theorem dX6_count_72 : decode cX6_count 72 = .ok (.aload_n 0, 1) := by decide +kernel
theorem dX6_count_73 : decode cX6_count 73 = .ok (.getfield 19, 3) := by decide +kernel
theorem dX6_count_76 : decode cX6_count 76 = .ok (.getfield 71, 3) := by decide +kernel
theorem dX6_count_79 : decode cX6_count 79 = .ok (.ireturn, 1) := by decide +kernel
theorem dX6_count_80 : decode cX6_count 80 = .ok (.aload_n 0, 1) := by decide +kernel
theorem dX6_count_81 : decode cX6_count 81 = .ok (.getfield 19, 3) := by decide +kernel
theorem dX6_count_84 : decode cX6_count 84 = .ok (.invokevirtual 223, 3) := by decide +kernel
theorem dX6_count_87 : decode cX6_count 87 = .ok (.ireturn, 1) := by decide +kernel
theorem dX6_count_88 : decode cX6_count 88 = .ok (.aload_n 0, 1) := by decide +kernel
theorem dX6_count_89 : decode cX6_count 89 = .ok (.getfield 19, 3) := by decide +kernel
theorem dX6_count_92 : decode cX6_count 92 = .ok (.getfield 108, 3) := by decide +kernel
theorem dX6_count_95 : decode cX6_count 95 = .ok (.ireturn, 1) := by decide +kernel
theorem dX6_count_96 : decode cX6_count 96 = .ok (.aload_n 0, 1) := by decide +kernel
theorem dX6_count_97 : decode cX6_count 97 = .ok (.getfield 19, 3) := by decide +kernel
theorem dX6_count_100 : decode cX6_count 100 = .ok (.getfield 111, 3) := by decide +kernel
theorem dX6_count_103 : decode cX6_count 103 = .ok (.ireturn, 1) := by decide +kernel
theorem dX6_count_104 : decode cX6_count 104 = .ok (.aload_n 0, 1) := by decide +kernel
theorem dX6_count_105 : decode cX6_count 105 = .ok (.getfield 19, 3) := by decide +kernel
theorem dX6_count_108 : decode cX6_count 108 = .ok (.getfield 114, 3) := by decide +kernel
theorem dX6_count_111 : decode cX6_count 111 = .ok (.ireturn, 1) := by decide +kernel
theorem dX6_count_112 : decode cX6_count 112 = .ok (.aload_n 0, 1) := by decide +kernel
theorem dX6_count_113 : decode cX6_count 113 = .ok (.getfield 19, 3) := by decide +kernel
theorem dX6_count_116 : decode cX6_count 116 = .ok (.aload_n 0, 1) := by decide +kernel
theorem dX6_count_117 : decode cX6_count 117 = .ok (.getfield 19, 3) := by decide +kernel
theorem dX6_count_120 : decode cX6_count 120 = .ok (.invokevirtual 201, 3) := by decide +kernel
theorem dX6_count_123 : decode cX6_count 123 = .ok (.invokevirtual 162, 3) := by decide +kernel
theorem dX6_count_126 : decode cX6_count 126 = .ok (.ireturn, 1) := by decide +kernel
theorem dX6_count_127 : decode cX6_count 127 = .ok (.aload_n 0, 1) := by decide +kernel
theorem dX6_count_128 : decode cX6_count 128 = .ok (.getfield 12, 3) := by decide +kernel
theorem dX6_count_131 : decode cX6_count 131 = .ok (.getfield 56, 3) := by decide +kernel
theorem dX6_count_134 : decode cX6_count 134 = .ok (.ireturn, 1) := by decide +kernel
theorem dX6_count_135 : decode cX6_count 135 = .ok (.aload_n 0, 1) := by decide +kernel
theorem dX6_count_136 : decode cX6_count 136 = .ok (.invokevirtual 134, 3) := by decide +kernel
theorem dX6_count_139 : decode cX6_count 139 = .ok (.aload_n 0, 1) := by decide +kernel
theorem dX6_count_140 : decode cX6_count 140 = .ok (.getfield 19, 3) := by decide +kernel
theorem dX6_count_143 : decode cX6_count 143 = .ok (.invokevirtual 226, 3) := by decide +kernel
theorem dX6_count_146 : decode cX6_count 146 = .ok (.ireturn, 1) := by decide +kernel
theorem dX6_count_147 : decode cX6_count 147 = .ok (.iconst (-1), 1) := by decide +kernel
theorem dX6_count_148 : decode cX6_count 148 = .ok (.ireturn, 1) := by decide +kernel
theorem dX6_isWithin_0 : decode cX6_isWithin 0 = .ok (.iload_n 0, 1) := by decide +kernel
theorem dX6_isWithin_1 : decode cX6_isWithin 1 = .ok (.iload_n 1, 1) := by decide +kernel
theorem dX6_isWithin_2 : decode cX6_isWithin 2 = .ok (.if_icmp .lt 12, 3) := by decide +kernel
theorem dX6_isWithin_5 : decode cX6_isWithin 5 = .ok (.iload_n 0, 1) := by decide +kernel
theorem dX6_isWithin_6 : decode cX6_isWithin 6 = .ok (.iload_n 2, 1) := by decide +kernel
theorem dX6_isWithin_7 : decode cX6_isWithin 7 = .ok (.if_icmp .gt 7, 3) := by decide +kernel
theorem dX6_isWithin_10 : decode cX6_isWithin 10 = .ok (.iconst 1, 1) := by decide +kernel
theorem dX6_isWithin_11 : decode cX6_isWithin 11 = .ok (.goto 4, 3) := by decide +kernel
theorem dX6_isWithin_14 : decode cX6_isWithin 14 = .ok (.iconst 0, 1) := by decide +kernel
theorem dX6_isWithin_15 : decode cX6_isWithin 15 = .ok (.ireturn, 1) := by decide +kernel
theorem dX6_cellOf_0 : decode cX6_cellOf 0 = .ok (.iload_n 0, 1) := by decide +kernel
theorem dX6_cellOf_1 : decode cX6_cellOf 1 = .ok (.bipush 24, 2) := by decide +kernel
theorem dX6_cellOf_3 : decode cX6_cellOf 3 = .ok (.imul, 1) := by decide +kernel
theorem dX6_cellOf_4 : decode cX6_cellOf 4 = .ok (.iload_n 1, 1) := by decide +kernel
theorem dX6_cellOf_5 : decode cX6_cellOf 5 = .ok (.iadd, 1) := by decide +kernel
theorem dX6_cellOf_6 : decode cX6_cellOf 6 = .ok (.ireturn, 1) := by decide +kernel
set_option maxRecDepth 20000 in
theorem ggX6_isTreeManner_X6_isWithin : GoodIn wsX6_isTreeManner wsX6_isWithin := goodIn_r _ [4] (by decide +kernel) (by decide +kernel)
set_option maxRecDepth 20000 in
theorem gX6_isTreeManner_X6_isWithin : GoodIn wsX6_isTreeManner (va_wsS RX6 74 yX6_isWithin wsX6_isWithin) := goodIn_app (goodIn_of _ (by decide +kernel)) ggX6_isTreeManner_X6_isWithin
theorem dX6_isTreeManner_0 : decode cX6_isTreeManner 0 = .ok (.iload_n 0, 1) := by decide +kernel
theorem dX6_isTreeManner_1 : decode cX6_isTreeManner 1 = .ok (.iconst 1, 1) := by decide +kernel
theorem dX6_isTreeManner_2 : decode cX6_isTreeManner 2 = .ok (.iconst 4, 1) := by decide +kernel
theorem dX6_isTreeManner_3 : decode cX6_isTreeManner 3 = .ok (.invokestatic 74, 3) := by decide +kernel
theorem dX6_isTreeManner_6 : decode cX6_isTreeManner 6 = .ok (.ireturn, 1) := by decide +kernel
theorem dX6_hasPlace_0 : decode cX6_hasPlace 0 = .ok (.iload_n 1, 1) := by decide +kernel
theorem dX6_hasPlace_1 : decode cX6_hasPlace 1 = .ok (.ifCond .lt 18, 3) := by decide +kernel
theorem dX6_hasPlace_4 : decode cX6_hasPlace 4 = .ok (.iload_n 1, 1) := by decide +kernel
theorem dX6_hasPlace_5 : decode cX6_hasPlace 5 = .ok (.aload_n 0, 1) := by decide +kernel
theorem dX6_hasPlace_6 : decode cX6_hasPlace 6 = .ok (.getfield 19, 3) := by decide +kernel
theorem dX6_hasPlace_9 : decode cX6_hasPlace 9 = .ok (.getfield 71, 3) := by decide +kernel
theorem dX6_hasPlace_12 : decode cX6_hasPlace 12 = .ok (.if_icmp .ge 7, 3) := by decide +kernel
theorem dX6_hasPlace_15 : decode cX6_hasPlace 15 = .ok (.iconst 1, 1) := by decide +kernel
theorem dX6_hasPlace_16 : decode cX6_hasPlace 16 = .ok (.goto 4, 3) := by decide +kernel
theorem dX6_hasPlace_19 : decode cX6_hasPlace 19 = .ok (.iconst 0, 1) := by decide +kernel
theorem dX6_hasPlace_20 : decode cX6_hasPlace 20 = .ok (.ireturn, 1) := by decide +kernel
theorem dX6_forgetDrawings_0 : decode cX6_forgetDrawings 0 = .ok (.aload_n 0, 1) := by decide +kernel
theorem dX6_forgetDrawings_1 : decode cX6_forgetDrawings 1 = .ok (.getfield 29, 3) := by decide +kernel
theorem dX6_forgetDrawings_4 : decode cX6_forgetDrawings 4 = .ok (.iconst 0, 1) := by decide +kernel
theorem dX6_forgetDrawings_5 : decode cX6_forgetDrawings 5 = .ok (.putfield 229, 3) := by decide +kernel
theorem dX6_forgetDrawings_8 : decode cX6_forgetDrawings 8 = .ok (.aload_n 0, 1) := by decide +kernel
theorem dX6_forgetDrawings_9 : decode cX6_forgetDrawings 9 = .ok (.getfield 36, 3) := by decide +kernel
theorem dX6_forgetDrawings_12 : decode cX6_forgetDrawings 12 = .ok (.iconst 0, 1) := by decide +kernel
theorem dX6_forgetDrawings_13 : decode cX6_forgetDrawings 13 = .ok (.putfield 232, 3) := by decide +kernel
theorem dX6_forgetDrawings_16 : decode cX6_forgetDrawings 16 = .ok (.aload_n 0, 1) := by decide +kernel
theorem dX6_forgetDrawings_17 : decode cX6_forgetDrawings 17 = .ok (.getfield 40, 3) := by decide +kernel
theorem dX6_forgetDrawings_20 : decode cX6_forgetDrawings 20 = .ok (.iconst 0, 1) := by decide +kernel
theorem dX6_forgetDrawings_21 : decode cX6_forgetDrawings 21 = .ok (.putfield 232, 3) := by decide +kernel
theorem dX6_forgetDrawings_24 : decode cX6_forgetDrawings 24 = .ok (.aload_n 0, 1) := by decide +kernel
theorem dX6_forgetDrawings_25 : decode cX6_forgetDrawings 25 = .ok (.getfield 43, 3) := by decide +kernel
theorem dX6_forgetDrawings_28 : decode cX6_forgetDrawings 28 = .ok (.iconst 0, 1) := by decide +kernel
theorem dX6_forgetDrawings_29 : decode cX6_forgetDrawings 29 = .ok (.putfield 232, 3) := by decide +kernel
theorem dX6_forgetDrawings_32 : decode cX6_forgetDrawings 32 = .ok (.aload_n 0, 1) := by decide +kernel
theorem dX6_forgetDrawings_33 : decode cX6_forgetDrawings 33 = .ok (.getfield 46, 3) := by decide +kernel
theorem dX6_forgetDrawings_36 : decode cX6_forgetDrawings 36 = .ok (.iconst 0, 1) := by decide +kernel
theorem dX6_forgetDrawings_37 : decode cX6_forgetDrawings 37 = .ok (.putfield 232, 3) := by decide +kernel
theorem dX6_forgetDrawings_40 : decode cX6_forgetDrawings 40 = .ok (.return_, 1) := by decide +kernel
set_option maxRecDepth 20000 in
theorem ggX6_knownBests_X0_fill : GoodIn wsX6_knownBests wsX0_fill := goodIn_r _ [8, 9, 10, 11, 12, 13, 14, 15, 16, 17, 7, 18, 19, 20, 21, 22, 23, 24, 25, 26, 27, 28, 29, 30, 31, 32, 33, 34, 35, 36, 37, 38, 39, 40, 41, 42, 43, 44, 45, 46, 47, 48, 49, 50, 51, 52, 53, 54, 55, 56, 57, 58, 59, 60, 61, 62, 63, 64, 65, 66, 67, 68, 69, 70, 71, 72, 73, 74, 75, 76, 77, 78, 79, 80, 81, 82, 83, 84, 85, 86, 87, 88, 89, 90, 91, 92, 93, 94, 95, 96, 97, 98, 99, 100, 101, 102, 103, 104, 125, 126, 127, 128, 129, 130, 131, 132, 133, 134, 114, 115, 116, 117, 118, 119, 120, 121, 122, 123, 124] (by decide +kernel) (by decide +kernel)
set_option maxRecDepth 20000 in
theorem gX6_knownBests_X0_fill : GoodIn wsX6_knownBests (wsV RX6 233 RX0 yX0_fill wsX0_fill) := goodIn_app (goodIn_of _ (by decide +kernel)) ggX6_knownBests_X0_fill
theorem dX6_knownBests_0 : decode cX6_knownBests 0 = .ok (.aload_n 0, 1) := by decide +kernel
theorem dX6_knownBests_1 : decode cX6_knownBests 1 = .ok (.getfield 29, 3) := by decide +kernel
theorem dX6_knownBests_4 : decode cX6_knownBests 4 = .ok (.getfield 229, 3) := by decide +kernel
theorem dX6_knownBests_7 : decode cX6_knownBests 7 = .ok (.ifCond .ne 14, 3) := by decide +kernel
theorem dX6_knownBests_10 : decode cX6_knownBests 10 = .ok (.aload_n 0, 1) := by decide +kernel
theorem dX6_knownBests_11 : decode cX6_knownBests 11 = .ok (.getfield 29, 3) := by decide +kernel
theorem dX6_knownBests_14 : decode cX6_knownBests 14 = .ok (.aload_n 0, 1) := by decide +kernel
theorem dX6_knownBests_15 : decode cX6_knownBests 15 = .ok (.getfield 19, 3) := by decide +kernel
theorem dX6_knownBests_18 : decode cX6_knownBests 18 = .ok (.invokevirtual 233, 3) := by decide +kernel
theorem dX6_knownBests_21 : decode cX6_knownBests 21 = .ok (.aload_n 0, 1) := by decide +kernel
theorem dX6_knownBests_22 : decode cX6_knownBests 22 = .ok (.getfield 29, 3) := by decide +kernel
theorem dX6_knownBests_25 : decode cX6_knownBests 25 = .ok (.areturn, 1) := by decide +kernel
set_option maxRecDepth 20000 in
theorem ggX6_treeOf_X2_drawStraight : GoodIn wsX6_treeOf wsX2_drawStraight := goodIn_r _ [12, 13, 14, 15, 16, 17, 18, 19, 20, 21, 22, 23, 24, 25, 26, 27, 28, 29, 30, 31, 32, 33, 34, 35, 36, 37, 38, 39, 40, 41, 42, 43, 44, 45, 46, 47, 48, 49, 11, 50, 51, 52, 53, 54, 55, 56, 57, 58, 59, 60, 61, 62, 63, 64, 65, 66, 67, 68, 69, 70, 71, 72, 73, 74, 75, 76, 77, 78, 79, 80, 261, 262, 263, 264, 265, 266, 267, 268, 269, 270, 245, 246, 247, 248, 249] (by decide +kernel) (by decide +kernel)
set_option maxRecDepth 20000 in
theorem gX6_treeOf_X2_drawStraight : GoodIn wsX6_treeOf (va_wsS RX6 237 yX2_drawStraight wsX2_drawStraight) := goodIn_app (goodIn_of _ (by decide +kernel)) ggX6_treeOf_X2_drawStraight
set_option maxRecDepth 20000 in
theorem ggX6_treeOf_X0_fill : GoodIn wsX6_treeOf wsX0_fill := goodIn_r _ [85, 86, 87, 88, 89, 90, 91, 92, 93, 94, 84, 95, 96, 97, 98, 99, 32, 33, 34, 35, 36, 37, 100, 101, 102, 103, 104, 105, 106, 107, 108, 41, 109, 69, 110, 66, 67, 68, 70, 111, 72, 73, 74, 75, 76, 77, 78, 79, 80, 112, 113, 114, 115, 116, 44, 45, 46, 47, 117, 118, 119, 120, 121, 122, 123, 124, 125, 126, 127, 128, 129, 130, 131, 132, 133, 134, 135, 136, 137, 138, 139, 140, 141, 142, 143, 144, 145, 146, 147, 148, 149, 150, 151, 152, 153, 154, 155, 156, 261, 262, 263, 264, 265, 266, 267, 268, 269, 270, 250, 251, 252, 253, 254, 255, 256, 257, 258, 259, 260] (by decide +kernel) (by decide +kernel)
set_option maxRecDepth 20000 in
theorem gX6_treeOf_X0_fill : GoodIn wsX6_treeOf (wsV RX6 233 RX0 yX0_fill wsX0_fill) := goodIn_app (goodIn_of _ (by decide +kernel)) ggX6_treeOf_X0_fill
set_option maxRecDepth 20000 in
theorem ggX6_treeOf_X2_drawLeast : GoodIn wsX6_treeOf wsX2_drawLeast := goodIn_r _ [159, 15, 13, 160, 27, 28, 20, 29, 23, 30, 31, 32, 33, 34, 161, 107, 108, 41, 109, 69, 162, 150, 151, 84, 152, 88, 163, 164, 165, 166, 47, 167, 168, 169, 170, 171, 172, 138, 139, 173, 140, 35, 36, 37, 133, 134, 135, 136, 137, 122, 90, 87, 86, 141, 142, 143, 144, 121, 123, 124, 125, 126, 127, 128, 129, 130, 131, 132, 145, 146, 147, 148, 104, 105, 149, 116, 44, 45, 46, 52, 53, 54, 55, 56, 57, 58, 59, 60, 61, 62, 63, 64, 65, 66, 67, 68, 70, 71, 72, 73, 74, 75, 76, 77, 78, 79, 80, 245, 246, 247, 248, 249, 261, 262, 263, 264, 265, 266, 267, 268, 269, 270, 250, 251, 252, 253, 254, 255, 256, 257, 258, 259, 260] (by decide +kernel) (by decide +kernel)
set_option maxRecDepth 20000 in
theorem gX6_treeOf_X2_drawLeast : GoodIn wsX6_treeOf (va_wsS RX6 243 yX2_drawLeast wsX2_drawLeast) := goodIn_app (goodIn_of _ (by decide +kernel)) ggX6_treeOf_X2_drawLeast
set_option maxRecDepth 20000 in
theorem ggX6_treeOf_X2_drawLean : GoodIn wsX6_treeOf wsX2_drawLean := goodIn_r _ [176, 13, 17, 18, 19, 20, 21, 22, 23, 24, 25, 26, 27, 28, 29, 30, 31, 32, 33, 34, 35, 36, 37, 177, 178, 11, 179, 14, 15, 180, 181, 182, 183, 184, 185, 186, 187, 188, 189, 190, 191, 44, 45, 41, 46, 47, 192, 66, 67, 68, 69, 70, 193, 194, 195, 16, 38, 39, 40, 42, 43, 48, 49, 50, 51, 52, 53, 54, 55, 56, 57, 58, 59, 60, 61, 62, 63, 64, 65, 71, 72, 73, 74, 75, 76, 77, 78, 79, 80, 261, 262, 263, 264, 265, 266, 267, 268, 269, 270, 245, 246, 247, 248, 249] (by decide +kernel) (by decide +kernel)
set_option maxRecDepth 20000 in
theorem gX6_treeOf_X2_drawLean : GoodIn wsX6_treeOf (va_wsS RX6 247 yX2_drawLean wsX2_drawLean) := goodIn_app (goodIn_of _ (by decide +kernel)) ggX6_treeOf_X2_drawLean
set_option maxRecDepth 20000 in
theorem ggX6_treeOf_X2_drawStraightened : GoodIn wsX6_treeOf wsX2_drawStraightened := goodIn_r _ [198, 199, 200, 201, 202, 20, 203, 23, 204, 205, 206, 207, 30, 208, 209, 11, 210, 13, 14, 211, 212, 213, 51, 16, 15, 35, 36, 37, 214, 215, 216, 217, 191, 44, 45, 41, 46, 47, 218, 219, 220, 221, 69, 222, 223, 224, 225, 226, 227, 63, 228, 229, 230, 231, 232, 233, 234, 235, 38, 39, 40, 42, 43, 52, 53, 54, 55, 56, 57, 58, 59, 60, 61, 62, 64, 65, 66, 67, 68, 70, 71, 72, 73, 74, 75, 76, 77, 78, 79, 80, 245, 246, 247, 248, 249, 261, 262, 263, 264, 265, 266, 267, 268, 269, 270] (by decide +kernel) (by decide +kernel)
set_option maxRecDepth 20000 in
theorem gX6_treeOf_X2_drawStraightened : GoodIn wsX6_treeOf (va_wsS RX6 250 yX2_drawStraightened wsX2_drawStraightened) := goodIn_app (goodIn_of _ (by decide +kernel)) ggX6_treeOf_X2_drawStraightened
theorem dX6_treeOf_0 : decode cX6_treeOf 0 = .ok (.iload_n 1, 1) := by decide +kernel
theorem dX6_treeOf_1 : decode cX6_treeOf 1 = .ok (.iconst 1, 1) := by decide +kernel
theorem dX6_treeOf_2 : decode cX6_treeOf 2 = .ok (.if_icmp .ne 29, 3) := by decide +kernel
theorem dX6_treeOf_5 : decode cX6_treeOf 5 = .ok (.aload_n 0, 1) := by decide +kernel
theorem dX6_treeOf_6 : decode cX6_treeOf 6 = .ok (.getfield 36, 3) := by decide +kernel
theorem dX6_treeOf_9 : decode cX6_treeOf 9 = .ok (.getfield 232, 3) := by decide +kernel
theorem dX6_treeOf_12 : decode cX6_treeOf 12 = .ok (.ifCond .ne 14, 3) := by decide +kernel
theorem dX6_treeOf_15 : decode cX6_treeOf 15 = .ok (.aload_n 0, 1) := by decide +kernel
theorem dX6_treeOf_16 : decode cX6_treeOf 16 = .ok (.getfield 19, 3) := by decide +kernel
theorem dX6_treeOf_19 : decode cX6_treeOf 19 = .ok (.aload_n 0, 1) := by decide +kernel
theorem dX6_treeOf_20 : decode cX6_treeOf 20 = .ok (.getfield 36, 3) := by decide +kernel
theorem dX6_treeOf_23 : decode cX6_treeOf 23 = .ok (.invokestatic 237, 3) := by decide +kernel
theorem dX6_treeOf_26 : decode cX6_treeOf 26 = .ok (.aload_n 0, 1) := by decide +kernel
theorem dX6_treeOf_27 : decode cX6_treeOf 27 = .ok (.getfield 36, 3) := by decide +kernel
theorem dX6_treeOf_30 : decode cX6_treeOf 30 = .ok (.areturn, 1) := by decide +kernel
theorem dX6_treeOf_31 : decode cX6_treeOf 31 = .ok (.iload_n 1, 1) := by decide +kernel
theorem dX6_treeOf_32 : decode cX6_treeOf 32 = .ok (.iconst 4, 1) := by decide +kernel
theorem dX6_treeOf_33 : decode cX6_treeOf 33 = .ok (.if_icmp .ne 64, 3) := by decide +kernel
theorem dX6_treeOf_36 : decode cX6_treeOf 36 = .ok (.aload_n 0, 1) := by decide +kernel
theorem dX6_treeOf_37 : decode cX6_treeOf 37 = .ok (.getfield 29, 3) := by decide +kernel
theorem dX6_treeOf_40 : decode cX6_treeOf 40 = .ok (.getfield 229, 3) := by decide +kernel
theorem dX6_treeOf_43 : decode cX6_treeOf 43 = .ok (.ifCond .ne 24, 3) := by decide +kernel
theorem dX6_treeOf_46 : decode cX6_treeOf 46 = .ok (.aload_n 0, 1) := by decide +kernel
theorem dX6_treeOf_47 : decode cX6_treeOf 47 = .ok (.getfield 46, 3) := by decide +kernel
theorem dX6_treeOf_50 : decode cX6_treeOf 50 = .ok (.getfield 232, 3) := by decide +kernel
theorem dX6_treeOf_53 : decode cX6_treeOf 53 = .ok (.ifCond .ne 14, 3) := by decide +kernel
theorem dX6_treeOf_56 : decode cX6_treeOf 56 = .ok (.aload_n 0, 1) := by decide +kernel
theorem dX6_treeOf_57 : decode cX6_treeOf 57 = .ok (.getfield 29, 3) := by decide +kernel
theorem dX6_treeOf_60 : decode cX6_treeOf 60 = .ok (.aload_n 0, 1) := by decide +kernel
theorem dX6_treeOf_61 : decode cX6_treeOf 61 = .ok (.getfield 19, 3) := by decide +kernel
theorem dX6_treeOf_64 : decode cX6_treeOf 64 = .ok (.invokevirtual 233, 3) := by decide +kernel
theorem dX6_treeOf_67 : decode cX6_treeOf 67 = .ok (.aload_n 0, 1) := by decide +kernel
theorem dX6_treeOf_68 : decode cX6_treeOf 68 = .ok (.getfield 46, 3) := by decide +kernel
theorem dX6_treeOf_71 : decode cX6_treeOf 71 = .ok (.getfield 232, 3) := by decide +kernel
theorem dX6_treeOf_74 : decode cX6_treeOf 74 = .ok (.ifCond .ne 18, 3) := by decide +kernel
theorem dX6_treeOf_77 : decode cX6_treeOf 77 = .ok (.aload_n 0, 1) := by decide +kernel
theorem dX6_treeOf_78 : decode cX6_treeOf 78 = .ok (.getfield 19, 3) := by decide +kernel
theorem dX6_treeOf_81 : decode cX6_treeOf 81 = .ok (.aload_n 0, 1) := by decide +kernel
theorem dX6_treeOf_82 : decode cX6_treeOf 82 = .ok (.getfield 29, 3) := by decide +kernel
theorem dX6_treeOf_85 : decode cX6_treeOf 85 = .ok (.aload_n 0, 1) := by decide +kernel
theorem dX6_treeOf_86 : decode cX6_treeOf 86 = .ok (.getfield 46, 3) := by decide +kernel
theorem dX6_treeOf_89 : decode cX6_treeOf 89 = .ok (.invokestatic 243, 3) := by decide +kernel
theorem dX6_treeOf_92 : decode cX6_treeOf 92 = .ok (.aload_n 0, 1) := by decide +kernel
theorem dX6_treeOf_93 : decode cX6_treeOf 93 = .ok (.getfield 46, 3) := by decide +kernel
theorem dX6_treeOf_96 : decode cX6_treeOf 96 = .ok (.areturn, 1) := by decide +kernel
theorem dX6_treeOf_97 : decode cX6_treeOf 97 = .ok (.aload_n 0, 1) := by decide +kernel
theorem dX6_treeOf_98 : decode cX6_treeOf 98 = .ok (.getfield 40, 3) := by decide +kernel
theorem dX6_treeOf_101 : decode cX6_treeOf 101 = .ok (.getfield 232, 3) := by decide +kernel
theorem dX6_treeOf_104 : decode cX6_treeOf 104 = .ok (.ifCond .ne 14, 3) := by decide +kernel
theorem dX6_treeOf_107 : decode cX6_treeOf 107 = .ok (.aload_n 0, 1) := by decide +kernel
theorem dX6_treeOf_108 : decode cX6_treeOf 108 = .ok (.getfield 19, 3) := by decide +kernel
theorem dX6_treeOf_111 : decode cX6_treeOf 111 = .ok (.aload_n 0, 1) := by decide +kernel
theorem dX6_treeOf_112 : decode cX6_treeOf 112 = .ok (.getfield 40, 3) := by decide +kernel
theorem dX6_treeOf_115 : decode cX6_treeOf 115 = .ok (.invokestatic 247, 3) := by decide +kernel
theorem dX6_treeOf_118 : decode cX6_treeOf 118 = .ok (.iload_n 1, 1) := by decide +kernel
theorem dX6_treeOf_119 : decode cX6_treeOf 119 = .ok (.iconst 3, 1) := by decide +kernel
theorem dX6_treeOf_120 : decode cX6_treeOf 120 = .ok (.if_icmp .ne 28, 3) := by decide +kernel
theorem dX6_treeOf_123 : decode cX6_treeOf 123 = .ok (.aload_n 0, 1) := by decide +kernel
theorem dX6_treeOf_124 : decode cX6_treeOf 124 = .ok (.getfield 43, 3) := by decide +kernel
theorem dX6_treeOf_127 : decode cX6_treeOf 127 = .ok (.getfield 232, 3) := by decide +kernel
theorem dX6_treeOf_130 : decode cX6_treeOf 130 = .ok (.ifCond .ne 18, 3) := by decide +kernel
theorem dX6_treeOf_133 : decode cX6_treeOf 133 = .ok (.aload_n 0, 1) := by decide +kernel
theorem dX6_treeOf_134 : decode cX6_treeOf 134 = .ok (.getfield 19, 3) := by decide +kernel
theorem dX6_treeOf_137 : decode cX6_treeOf 137 = .ok (.aload_n 0, 1) := by decide +kernel
theorem dX6_treeOf_138 : decode cX6_treeOf 138 = .ok (.getfield 40, 3) := by decide +kernel
theorem dX6_treeOf_141 : decode cX6_treeOf 141 = .ok (.aload_n 0, 1) := by decide +kernel
theorem dX6_treeOf_142 : decode cX6_treeOf 142 = .ok (.getfield 43, 3) := by decide +kernel
theorem dX6_treeOf_145 : decode cX6_treeOf 145 = .ok (.invokestatic 250, 3) := by decide +kernel
theorem dX6_treeOf_148 : decode cX6_treeOf 148 = .ok (.iload_n 1, 1) := by decide +kernel
theorem dX6_treeOf_149 : decode cX6_treeOf 149 = .ok (.iconst 3, 1) := by decide +kernel
theorem dX6_treeOf_150 : decode cX6_treeOf 150 = .ok (.if_icmp .ne 10, 3) := by decide +kernel
theorem dX6_treeOf_153 : decode cX6_treeOf 153 = .ok (.aload_n 0, 1) := by decide +kernel
theorem dX6_treeOf_154 : decode cX6_treeOf 154 = .ok (.getfield 43, 3) := by decide +kernel
theorem dX6_treeOf_157 : decode cX6_treeOf 157 = .ok (.goto 7, 3) := by decide +kernel
theorem dX6_treeOf_160 : decode cX6_treeOf 160 = .ok (.aload_n 0, 1) := by decide +kernel
theorem dX6_treeOf_161 : decode cX6_treeOf 161 = .ok (.getfield 40, 3) := by decide +kernel
theorem dX6_treeOf_164 : decode cX6_treeOf 164 = .ok (.areturn, 1) := by decide +kernel
set_option maxRecDepth 20000 in
theorem ggX6_leastInkWithoutRock_X0_fill : GoodIn wsX6_leastInkWithoutRock wsX0_fill := goodIn_r _ [9, 10, 11, 12, 13, 14, 15, 16, 17, 18, 8, 19, 20, 21, 22, 23, 24, 25, 26, 27, 28, 29, 30, 31, 32, 33, 34, 35, 36, 37, 38, 39, 40, 41, 42, 43, 44, 45, 46, 47, 48, 49, 50, 51, 52, 53, 54, 55, 56, 57, 58, 59, 60, 61, 62, 63, 64, 65, 66, 67, 68, 69, 70, 71, 72, 73, 74, 75, 76, 77, 78, 79, 80, 81, 82, 83, 84, 85, 86, 87, 88, 89, 90, 91, 92, 93, 94, 95, 96, 97, 98, 99, 100, 101, 102, 103, 104, 105, 120, 121, 122, 123, 124, 125, 126, 127, 128, 129, 130, 131, 132, 133, 134, 135, 136, 137, 138, 139, 140] (by decide +kernel) (by decide +kernel)
set_option maxRecDepth 20000 in
theorem gX6_leastInkWithoutRock_X0_fill : GoodIn wsX6_leastInkWithoutRock (wsV RX6 233 RX0 yX0_fill wsX0_fill) := goodIn_app (goodIn_of _ (by decide +kernel)) ggX6_leastInkWithoutRock_X0_fill
set_option maxRecDepth 20000 in
theorem ggX6_leastInkWithoutRock_X1_allPlaces : GoodIn wsX6_leastInkWithoutRock wsX1_allPlaces := goodIn_r _ [40, 41, 120, 121, 122, 123, 124, 125, 126, 127, 128, 129] (by decide +kernel) (by decide +kernel)
set_option maxRecDepth 20000 in
theorem gX6_leastInkWithoutRock_X1_allPlaces : GoodIn wsX6_leastInkWithoutRock (wsV RX6 201 RX1 yX1_allPlaces wsX1_allPlaces) := goodIn_app (goodIn_of _ (by decide +kernel)) ggX6_leastInkWithoutRock_X1_allPlaces
set_option maxRecDepth 20000 in
theorem ggX6_leastInkWithoutRock_X0_inkOf : GoodIn wsX6_leastInkWithoutRock wsX0_inkOf := goodIn_r _ [110, 70, 98, 99, 100, 8, 101, 12, 130, 131, 132, 133, 134, 135, 136, 137, 138, 139, 140] (by decide +kernel) (by decide +kernel)
set_option maxRecDepth 20000 in
theorem gX6_leastInkWithoutRock_X0_inkOf : GoodIn wsX6_leastInkWithoutRock (wsV RX6 198 RX0 yX0_inkOf wsX0_inkOf) := goodIn_app (goodIn_of _ (by decide +kernel)) ggX6_leastInkWithoutRock_X0_inkOf
theorem dX6_leastInkWithoutRock_0 : decode cX6_leastInkWithoutRock 0 = .ok (.aload_n 0, 1) := by decide +kernel
theorem dX6_leastInkWithoutRock_1 : decode cX6_leastInkWithoutRock 1 = .ok (.getfield 19, 3) := by decide +kernel
theorem dX6_leastInkWithoutRock_4 : decode cX6_leastInkWithoutRock 4 = .ok (.getfield 86, 3) := by decide +kernel
theorem dX6_leastInkWithoutRock_7 : decode cX6_leastInkWithoutRock 7 = .ok (.iload_n 1, 1) := by decide +kernel
theorem dX6_leastInkWithoutRock_8 : decode cX6_leastInkWithoutRock 8 = .ok (.iconst 0, 1) := by decide +kernel
theorem dX6_leastInkWithoutRock_9 : decode cX6_leastInkWithoutRock 9 = .ok (.bastore, 1) := by decide +kernel
theorem dX6_leastInkWithoutRock_10 : decode cX6_leastInkWithoutRock 10 = .ok (.aload_n 0, 1) := by decide +kernel
theorem dX6_leastInkWithoutRock_11 : decode cX6_leastInkWithoutRock 11 = .ok (.getfield 29, 3) := by decide +kernel
theorem dX6_leastInkWithoutRock_14 : decode cX6_leastInkWithoutRock 14 = .ok (.aload_n 0, 1) := by decide +kernel
theorem dX6_leastInkWithoutRock_15 : decode cX6_leastInkWithoutRock 15 = .ok (.getfield 19, 3) := by decide +kernel
theorem dX6_leastInkWithoutRock_18 : decode cX6_leastInkWithoutRock 18 = .ok (.invokevirtual 233, 3) := by decide +kernel
theorem dX6_leastInkWithoutRock_21 : decode cX6_leastInkWithoutRock 21 = .ok (.aload_n 0, 1) := by decide +kernel
theorem dX6_leastInkWithoutRock_22 : decode cX6_leastInkWithoutRock 22 = .ok (.getfield 29, 3) := by decide +kernel
theorem dX6_leastInkWithoutRock_25 : decode cX6_leastInkWithoutRock 25 = .ok (.iconst 0, 1) := by decide +kernel
theorem dX6_leastInkWithoutRock_26 : decode cX6_leastInkWithoutRock 26 = .ok (.aload_n 0, 1) := by decide +kernel
theorem dX6_leastInkWithoutRock_27 : decode cX6_leastInkWithoutRock 27 = .ok (.getfield 19, 3) := by decide +kernel
theorem dX6_leastInkWithoutRock_30 : decode cX6_leastInkWithoutRock 30 = .ok (.invokevirtual 201, 3) := by decide +kernel
theorem dX6_leastInkWithoutRock_33 : decode cX6_leastInkWithoutRock 33 = .ok (.invokevirtual 198, 3) := by decide +kernel
theorem dX6_leastInkWithoutRock_36 : decode cX6_leastInkWithoutRock 36 = .ok (.istore_n 2, 1) := by decide +kernel
theorem dX6_leastInkWithoutRock_37 : decode cX6_leastInkWithoutRock 37 = .ok (.aload_n 0, 1) := by decide +kernel
theorem dX6_leastInkWithoutRock_38 : decode cX6_leastInkWithoutRock 38 = .ok (.getfield 19, 3) := by decide +kernel
theorem dX6_leastInkWithoutRock_41 : decode cX6_leastInkWithoutRock 41 = .ok (.getfield 86, 3) := by decide +kernel
theorem dX6_leastInkWithoutRock_44 : decode cX6_leastInkWithoutRock 44 = .ok (.iload_n 1, 1) := by decide +kernel
theorem dX6_leastInkWithoutRock_45 : decode cX6_leastInkWithoutRock 45 = .ok (.iconst 1, 1) := by decide +kernel
theorem dX6_leastInkWithoutRock_46 : decode cX6_leastInkWithoutRock 46 = .ok (.bastore, 1) := by decide +kernel
theorem dX6_leastInkWithoutRock_47 : decode cX6_leastInkWithoutRock 47 = .ok (.aload_n 0, 1) := by decide +kernel
theorem dX6_leastInkWithoutRock_48 : decode cX6_leastInkWithoutRock 48 = .ok (.getfield 29, 3) := by decide +kernel
theorem dX6_leastInkWithoutRock_51 : decode cX6_leastInkWithoutRock 51 = .ok (.iconst 0, 1) := by decide +kernel
theorem dX6_leastInkWithoutRock_52 : decode cX6_leastInkWithoutRock 52 = .ok (.putfield 229, 3) := by decide +kernel
theorem dX6_leastInkWithoutRock_55 : decode cX6_leastInkWithoutRock 55 = .ok (.iload_n 2, 1) := by decide +kernel
theorem dX6_leastInkWithoutRock_56 : decode cX6_leastInkWithoutRock 56 = .ok (.ireturn, 1) := by decide +kernel
theorem dX7_thrown_0 : decode cX7_thrown 0 = .ok (.aload_n 0, 1) := by decide +kernel
theorem dX7_thrown_1 : decode cX7_thrown 1 = .ok (.getfield 1, 3) := by decide +kernel
theorem dX7_thrown_4 : decode cX7_thrown 4 = .ok (.ireturn, 1) := by decide +kernel
theorem dX7_within_0 : decode cX7_within 0 = .ok (.iload_n 0, 1) := by decide +kernel
theorem dX7_within_1 : decode cX7_within 1 = .ok (.iload_n 1, 1) := by decide +kernel
theorem dX7_within_2 : decode cX7_within 2 = .ok (.if_icmp .lt 12, 3) := by decide +kernel
theorem dX7_within_5 : decode cX7_within 5 = .ok (.iload_n 0, 1) := by decide +kernel
theorem dX7_within_6 : decode cX7_within 6 = .ok (.iload_n 2, 1) := by decide +kernel
theorem dX7_within_7 : decode cX7_within 7 = .ok (.if_icmp .gt 7, 3) := by decide +kernel
theorem dX7_within_10 : decode cX7_within 10 = .ok (.iconst 1, 1) := by decide +kernel
theorem dX7_within_11 : decode cX7_within 11 = .ok (.goto 4, 3) := by decide +kernel
theorem dX7_within_14 : decode cX7_within 14 = .ok (.iconst 0, 1) := by decide +kernel
theorem dX7_within_15 : decode cX7_within 15 = .ok (.ireturn, 1) := by decide +kernel
set_option maxRecDepth 20000 in
theorem ggX7_init_X7_begins : GoodIn wsX7_init wsX7_begins := goodIn_r _ [28, 29, 30, 31, 9, 39, 40, 41, 42, 43, 44, 45, 46, 47, 48, 49, 50, 51, 52, 53, 54, 55, 56, 57, 58, 59, 60, 61, 62, 63, 64, 65, 66, 67, 68, 69, 70, 71, 72, 73] (by decide +kernel) (by decide +kernel)
set_option maxRecDepth 20000 in
theorem gX7_init_X7_begins : GoodIn wsX7_init (wsV RX7 67 RX7 yX7_begins wsX7_begins) := goodIn_app (goodIn_of _ (by decide +kernel)) ggX7_init_X7_begins
set_option maxRecDepth 20000 in
theorem ggX7_init_X7_asAtFirst : GoodIn wsX7_init wsX7_asAtFirst := goodIn_r _ [35, 36, 37, 38, 39, 40, 41, 42, 43, 44, 45, 46, 47, 48, 49, 50, 51, 52, 53, 54, 55, 56, 57, 58, 59, 60, 61, 62, 63, 64, 65, 66, 67, 68, 69, 70, 71, 72, 73] (by decide +kernel) (by decide +kernel)
set_option maxRecDepth 20000 in
theorem gX7_init_X7_asAtFirst : GoodIn wsX7_init (wsV RX7 71 RX7 yX7_asAtFirst wsX7_asAtFirst) := goodIn_app (goodIn_of _ (by decide +kernel)) ggX7_init_X7_asAtFirst
theorem dX7_init_0 : decode cX7_init 0 = .ok (.aload_n 0, 1) := by decide +kernel
theorem dX7_init_1 : decode cX7_init 1 = .ok (.invokespecial 7, 3) := by decide +kernel
theorem dX7_init_4 : decode cX7_init 4 = .ok (.aload_n 0, 1) := by decide +kernel
theorem dX7_init_5 : decode cX7_init 5 = .ok (.bipush 8, 2) := by decide +kernel
theorem dX7_init_7 : decode cX7_init 7 = .ok (.newarray .int, 2) := by decide +kernel
theorem dX7_init_9 : decode cX7_init 9 = .ok (.putfield 13, 3) := by decide +kernel
theorem dX7_init_12 : decode cX7_init 12 = .ok (.aload_n 0, 1) := by decide +kernel
theorem dX7_init_13 : decode cX7_init 13 = .ok (.bipush 8, 2) := by decide +kernel
theorem dX7_init_15 : decode cX7_init 15 = .ok (.newarray .int, 2) := by decide +kernel
theorem dX7_init_17 : decode cX7_init 17 = .ok (.putfield 17, 3) := by decide +kernel
theorem dX7_init_20 : decode cX7_init 20 = .ok (.aload_n 0, 1) := by decide +kernel
theorem dX7_init_21 : decode cX7_init 21 = .ok (.bipush 8, 2) := by decide +kernel
theorem dX7_init_23 : decode cX7_init 23 = .ok (.newarray .int, 2) := by decide +kernel
theorem dX7_init_25 : decode cX7_init 25 = .ok (.putfield 20, 3) := by decide +kernel
theorem dX7_init_28 : decode cX7_init 28 = .ok (.aload_n 0, 1) := by decide +kernel
theorem dX7_init_29 : decode cX7_init 29 = .ok (.sipush 240, 3) := by decide +kernel
theorem dX7_init_32 : decode cX7_init 32 = .ok (.newarray .boolean, 2) := by decide +kernel
theorem dX7_init_34 : decode cX7_init 34 = .ok (.putfield 23, 3) := by decide +kernel
theorem dX7_init_37 : decode cX7_init 37 = .ok (.aload_n 0, 1) := by decide +kernel
theorem dX7_init_38 : decode cX7_init 38 = .ok (.sipush 500, 3) := by decide +kernel
theorem dX7_init_41 : decode cX7_init 41 = .ok (.newarray .byte, 2) := by decide +kernel
theorem dX7_init_43 : decode cX7_init 43 = .ok (.putfield 27, 3) := by decide +kernel
theorem dX7_init_46 : decode cX7_init 46 = .ok (.aload_n 0, 1) := by decide +kernel
theorem dX7_init_47 : decode cX7_init 47 = .ok (.bipush 21, 2) := by decide +kernel
theorem dX7_init_49 : decode cX7_init 49 = .ok (.newarray .int, 2) := by decide +kernel
theorem dX7_init_51 : decode cX7_init 51 = .ok (.putfield 31, 3) := by decide +kernel
theorem dX7_init_54 : decode cX7_init 54 = .ok (.aload_n 0, 1) := by decide +kernel
theorem dX7_init_55 : decode cX7_init 55 = .ok (.sipush 240, 3) := by decide +kernel
theorem dX7_init_58 : decode cX7_init 58 = .ok (.newarray .boolean, 2) := by decide +kernel
theorem dX7_init_60 : decode cX7_init 60 = .ok (.putfield 34, 3) := by decide +kernel
theorem dX7_init_63 : decode cX7_init 63 = .ok (.aload_n 0, 1) := by decide +kernel
theorem dX7_init_64 : decode cX7_init 64 = .ok (.iconst 3, 1) := by decide +kernel
theorem dX7_init_65 : decode cX7_init 65 = .ok (.newarray .int, 2) := by decide +kernel
theorem dX7_init_67 : decode cX7_init 67 = .ok (.putfield 37, 3) := by decide +kernel
theorem dX7_init_70 : decode cX7_init 70 = .ok (.aload_n 0, 1) := by decide +kernel
theorem dX7_init_71 : decode cX7_init 71 = .ok (.sipush 240, 3) := by decide +kernel
theorem dX7_init_74 : decode cX7_init 74 = .ok (.newarray .int, 2) := by decide +kernel
theorem dX7_init_76 : decode cX7_init 76 = .ok (.putfield 40, 3) := by decide +kernel
theorem dX7_init_79 : decode cX7_init 79 = .ok (.aload_n 0, 1) := by decide +kernel
theorem dX7_init_80 : decode cX7_init 80 = .ok (.sipush 240, 3) := by decide +kernel
theorem dX7_init_83 : decode cX7_init 83 = .ok (.newarray .int, 2) := by decide +kernel
theorem dX7_init_85 : decode cX7_init 85 = .ok (.putfield 43, 3) := by decide +kernel
theorem dX7_init_88 : decode cX7_init 88 = .ok (.aload_n 0, 1) := by decide +kernel
theorem dX7_init_89 : decode cX7_init 89 = .ok (.sipush 30720, 3) := by decide +kernel
theorem dX7_init_92 : decode cX7_init 92 = .ok (.newarray .int, 2) := by decide +kernel
theorem dX7_init_94 : decode cX7_init 94 = .ok (.putfield 46, 3) := by decide +kernel
theorem dX7_init_97 : decode cX7_init 97 = .ok (.aload_n 0, 1) := by decide +kernel
theorem dX7_init_98 : decode cX7_init 98 = .ok (.sipush 30720, 3) := by decide +kernel
theorem dX7_init_101 : decode cX7_init 101 = .ok (.newarray .int, 2) := by decide +kernel
theorem dX7_init_103 : decode cX7_init 103 = .ok (.putfield 49, 3) := by decide +kernel
theorem dX7_init_106 : decode cX7_init 106 = .ok (.aload_n 0, 1) := by decide +kernel
theorem dX7_init_107 : decode cX7_init 107 = .ok (.sipush 128, 3) := by decide +kernel
theorem dX7_init_110 : decode cX7_init 110 = .ok (.newarray .int, 2) := by decide +kernel
theorem dX7_init_112 : decode cX7_init 112 = .ok (.putfield 52, 3) := by decide +kernel
theorem dX7_init_115 : decode cX7_init 115 = .ok (.aload_n 0, 1) := by decide +kernel
theorem dX7_init_116 : decode cX7_init 116 = .ok (.sipush 240, 3) := by decide +kernel
theorem dX7_init_119 : decode cX7_init 119 = .ok (.newarray .int, 2) := by decide +kernel
theorem dX7_init_121 : decode cX7_init 121 = .ok (.putfield 55, 3) := by decide +kernel
theorem dX7_init_124 : decode cX7_init 124 = .ok (.aload_n 0, 1) := by decide +kernel
theorem dX7_init_125 : decode cX7_init 125 = .ok (.sipush 240, 3) := by decide +kernel
theorem dX7_init_128 : decode cX7_init 128 = .ok (.newarray .int, 2) := by decide +kernel
theorem dX7_init_130 : decode cX7_init 130 = .ok (.putfield 58, 3) := by decide +kernel
theorem dX7_init_133 : decode cX7_init 133 = .ok (.aload_n 0, 1) := by decide +kernel
theorem dX7_init_134 : decode cX7_init 134 = .ok (.sipush 240, 3) := by decide +kernel
theorem dX7_init_137 : decode cX7_init 137 = .ok (.newarray .int, 2) := by decide +kernel
theorem dX7_init_139 : decode cX7_init 139 = .ok (.putfield 61, 3) := by decide +kernel
theorem dX7_init_142 : decode cX7_init 142 = .ok (.aload_n 0, 1) := by decide +kernel
theorem dX7_init_143 : decode cX7_init 143 = .ok (.sipush 240, 3) := by decide +kernel
theorem dX7_init_146 : decode cX7_init 146 = .ok (.newarray .int, 2) := by decide +kernel
theorem dX7_init_148 : decode cX7_init 148 = .ok (.putfield 64, 3) := by decide +kernel
theorem dX7_init_151 : decode cX7_init 151 = .ok (.aload_n 0, 1) := by decide +kernel
theorem dX7_init_152 : decode cX7_init 152 = .ok (.iconst 5, 1) := by decide +kernel
theorem dX7_init_153 : decode cX7_init 153 = .ok (.bipush 12, 2) := by decide +kernel
theorem dX7_init_155 : decode cX7_init 155 = .ok (.invokevirtual 67, 3) := by decide +kernel
theorem dX7_init_158 : decode cX7_init 158 = .ok (.aload_n 0, 1) := by decide +kernel
theorem dX7_init_159 : decode cX7_init 159 = .ok (.invokevirtual 71, 3) := by decide +kernel
theorem dX7_init_162 : decode cX7_init 162 = .ok (.return_, 1) := by decide +kernel
theorem dX7_asAtFirst_0 : decode cX7_asAtFirst 0 = .ok (.aload_n 0, 1) := by decide +kernel
theorem dX7_asAtFirst_1 : decode cX7_asAtFirst 1 = .ok (.bipush 10, 2) := by decide +kernel
theorem dX7_asAtFirst_3 : decode cX7_asAtFirst 3 = .ok (.putfield 74, 3) := by decide +kernel
theorem dX7_asAtFirst_6 : decode cX7_asAtFirst 6 = .ok (.aload_n 0, 1) := by decide +kernel
theorem dX7_asAtFirst_7 : decode cX7_asAtFirst 7 = .ok (.iconst 4, 1) := by decide +kernel
theorem dX7_asAtFirst_8 : decode cX7_asAtFirst 8 = .ok (.putfield 77, 3) := by decide +kernel
theorem dX7_asAtFirst_11 : decode cX7_asAtFirst 11 = .ok (.aload_n 0, 1) := by decide +kernel
theorem dX7_asAtFirst_12 : decode cX7_asAtFirst 12 = .ok (.iconst 3, 1) := by decide +kernel
theorem dX7_asAtFirst_13 : decode cX7_asAtFirst 13 = .ok (.putfield 80, 3) := by decide +kernel
theorem dX7_asAtFirst_16 : decode cX7_asAtFirst 16 = .ok (.return_, 1) := by decide +kernel
theorem dX7_begins_0 : decode cX7_begins 0 = .ok (.aload_n 0, 1) := by decide +kernel
theorem dX7_begins_1 : decode cX7_begins 1 = .ok (.iload_n 1, 1) := by decide +kernel
theorem dX7_begins_2 : decode cX7_begins 2 = .ok (.putfield 83, 3) := by decide +kernel
theorem dX7_begins_5 : decode cX7_begins 5 = .ok (.aload_n 0, 1) := by decide +kernel
theorem dX7_begins_6 : decode cX7_begins 6 = .ok (.iload_n 2, 1) := by decide +kernel
theorem dX7_begins_7 : decode cX7_begins 7 = .ok (.putfield 86, 3) := by decide +kernel
theorem dX7_begins_10 : decode cX7_begins 10 = .ok (.aload_n 0, 1) := by decide +kernel
theorem dX7_begins_11 : decode cX7_begins 11 = .ok (.iconst 0, 1) := by decide +kernel
theorem dX7_begins_12 : decode cX7_begins 12 = .ok (.putfield 89, 3) := by decide +kernel
theorem dX7_begins_15 : decode cX7_begins 15 = .ok (.iconst 0, 1) := by decide +kernel
theorem dX7_begins_16 : decode cX7_begins 16 = .ok (.istore_n 3, 1) := by decide +kernel
theorem dX7_begins_17 : decode cX7_begins 17 = .ok (.iload_n 3, 1) := by decide +kernel
theorem dX7_begins_18 : decode cX7_begins 18 = .ok (.sipush 240, 3) := by decide +kernel
theorem dX7_begins_21 : decode cX7_begins 21 = .ok (.if_icmp .ge 16, 3) := by decide +kernel
theorem dX7_begins_24 : decode cX7_begins 24 = .ok (.aload_n 0, 1) := by decide +kernel
theorem dX7_begins_25 : decode cX7_begins 25 = .ok (.getfield 23, 3) := by decide +kernel
theorem dX7_begins_28 : decode cX7_begins 28 = .ok (.iload_n 3, 1) := by decide +kernel
theorem dX7_begins_29 : decode cX7_begins 29 = .ok (.iconst 0, 1) := by decide +kernel
theorem dX7_begins_30 : decode cX7_begins 30 = .ok (.bastore, 1) := by decide +kernel
theorem dX7_begins_31 : decode cX7_begins 31 = .ok (.iinc 3 1, 3) := by decide +kernel
theorem dX7_begins_34 : decode cX7_begins 34 = .ok (.goto (-17), 3) := by decide +kernel
theorem dX7_begins_37 : decode cX7_begins 37 = .ok (.return_, 1) := by decide +kernel
theorem dX7_cell_0 : decode cX7_cell 0 = .ok (.bipush 24, 2) := by decide +kernel
theorem dX7_cell_2 : decode cX7_cell 2 = .ok (.iload_n 0, 1) := by decide +kernel
theorem dX7_cell_3 : decode cX7_cell 3 = .ok (.imul, 1) := by decide +kernel
theorem dX7_cell_4 : decode cX7_cell 4 = .ok (.iload_n 1, 1) := by decide +kernel
theorem dX7_cell_5 : decode cX7_cell 5 = .ok (.iadd, 1) := by decide +kernel
theorem dX7_cell_6 : decode cX7_cell 6 = .ok (.ireturn, 1) := by decide +kernel
set_option maxRecDepth 20000 in
theorem ggX7_isCell_X7_within : GoodIn wsX7_isCell wsX7_within := goodIn_r _ [6] (by decide +kernel) (by decide +kernel)
set_option maxRecDepth 20000 in
theorem gX7_isCell_X7_within : GoodIn wsX7_isCell (va_wsS RX7 92 yX7_within wsX7_within) := goodIn_app (goodIn_of _ (by decide +kernel)) ggX7_isCell_X7_within
theorem dX7_isCell_0 : decode cX7_isCell 0 = .ok (.iload_n 1, 1) := by decide +kernel
theorem dX7_isCell_1 : decode cX7_isCell 1 = .ok (.iconst 1, 1) := by decide +kernel
theorem dX7_isCell_2 : decode cX7_isCell 2 = .ok (.aload_n 0, 1) := by decide +kernel
theorem dX7_isCell_3 : decode cX7_isCell 3 = .ok (.getfield 83, 3) := by decide +kernel
theorem dX7_isCell_6 : decode cX7_isCell 6 = .ok (.invokestatic 92, 3) := by decide +kernel
theorem dX7_isCell_9 : decode cX7_isCell 9 = .ok (.ifCond .eq 21, 3) := by decide +kernel
theorem dX7_isCell_12 : decode cX7_isCell 12 = .ok (.iload_n 2, 1) := by decide +kernel
theorem dX7_isCell_13 : decode cX7_isCell 13 = .ok (.iconst 0, 1) := by decide +kernel
theorem dX7_isCell_14 : decode cX7_isCell 14 = .ok (.aload_n 0, 1) := by decide +kernel
theorem dX7_isCell_15 : decode cX7_isCell 15 = .ok (.getfield 86, 3) := by decide +kernel
theorem dX7_isCell_18 : decode cX7_isCell 18 = .ok (.iconst 1, 1) := by decide +kernel
theorem dX7_isCell_19 : decode cX7_isCell 19 = .ok (.isub, 1) := by decide +kernel
theorem dX7_isCell_20 : decode cX7_isCell 20 = .ok (.invokestatic 92, 3) := by decide +kernel
theorem dX7_isCell_23 : decode cX7_isCell 23 = .ok (.ifCond .eq 7, 3) := by decide +kernel
theorem dX7_isCell_26 : decode cX7_isCell 26 = .ok (.iconst 1, 1) := by decide +kernel
theorem dX7_isCell_27 : decode cX7_isCell 27 = .ok (.goto 4, 3) := by decide +kernel
theorem dX7_isCell_30 : decode cX7_isCell 30 = .ok (.iconst 0, 1) := by decide +kernel
theorem dX7_isCell_31 : decode cX7_isCell 31 = .ok (.ireturn, 1) := by decide +kernel
set_option maxRecDepth 20000 in
theorem ggX7_isAny_X7_isCell : GoodIn wsX7_isAny wsX7_isCell := goodIn_r _ [5, 6, 7, 8, 9, 4, 10, 11, 12, 13, 14, 15, 16, 17, 18, 19, 20, 21, 22, 23, 24, 25, 26, 27, 28, 29, 30, 31, 32, 33, 34, 35, 36, 37, 38, 39, 40, 41, 42, 43, 44, 45] (by decide +kernel) (by decide +kernel)
set_option maxRecDepth 20000 in
theorem gX7_isAny_X7_isCell : GoodIn wsX7_isAny (wsV RX7 96 RX7 yX7_isCell wsX7_isCell) := goodIn_app (goodIn_of _ (by decide +kernel)) ggX7_isAny_X7_isCell
theorem dX7_isAny_0 : decode cX7_isAny 0 = .ok (.aload_n 0, 1) := by decide +kernel
theorem dX7_isAny_1 : decode cX7_isAny 1 = .ok (.iload_n 1, 1) := by decide +kernel
theorem dX7_isAny_2 : decode cX7_isAny 2 = .ok (.iload_n 2, 1) := by decide +kernel
theorem dX7_isAny_3 : decode cX7_isAny 3 = .ok (.invokevirtual 96, 3) := by decide +kernel
theorem dX7_isAny_6 : decode cX7_isAny 6 = .ok (.ifCond .ne 11, 3) := by decide +kernel
theorem dX7_isAny_9 : decode cX7_isAny 9 = .ok (.iload_n 1, 1) := by decide +kernel
theorem dX7_isAny_10 : decode cX7_isAny 10 = .ok (.ifCond .ne 11, 3) := by decide +kernel
theorem dX7_isAny_13 : decode cX7_isAny 13 = .ok (.iload_n 2, 1) := by decide +kernel
theorem dX7_isAny_14 : decode cX7_isAny 14 = .ok (.ifCond .ne 7, 3) := by decide +kernel
theorem dX7_isAny_17 : decode cX7_isAny 17 = .ok (.iconst 1, 1) := by decide +kernel
theorem dX7_isAny_18 : decode cX7_isAny 18 = .ok (.goto 4, 3) := by decide +kernel
theorem dX7_isAny_21 : decode cX7_isAny 21 = .ok (.iconst 0, 1) := by decide +kernel
theorem dX7_isAny_22 : decode cX7_isAny 22 = .ok (.ireturn, 1) := by decide +kernel
theorem dX7_around_0 : decode cX7_around 0 = .ok (.iload_n 1, 1) := by decide +kernel
theorem dX7_around_1 : decode cX7_around 1 = .ok (.aload_n 0, 1) := by decide +kernel
theorem dX7_around_2 : decode cX7_around 2 = .ok (.getfield 86, 3) := by decide +kernel
theorem dX7_around_5 : decode cX7_around 5 = .ok (.iadd, 1) := by decide +kernel
theorem dX7_around_6 : decode cX7_around 6 = .ok (.aload_n 0, 1) := by decide +kernel
theorem dX7_around_7 : decode cX7_around 7 = .ok (.getfield 86, 3) := by decide +kernel
theorem dX7_around_10 : decode cX7_around 10 = .ok (.irem, 1) := by decide +kernel
theorem dX7_around_11 : decode cX7_around 11 = .ok (.ireturn, 1) := by decide +kernel
theorem dX7_placeAt_0 : decode cX7_placeAt 0 = .ok (.iconst 0, 1) := by decide +kernel
theorem dX7_placeAt_1 : decode cX7_placeAt 1 = .ok (.istore_n 3, 1) := by decide +kernel
theorem dX7_placeAt_2 : decode cX7_placeAt 2 = .ok (.iload_n 3, 1) := by decide +kernel
theorem dX7_placeAt_3 : decode cX7_placeAt 3 = .ok (.aload_n 0, 1) := by decide +kernel
theorem dX7_placeAt_4 : decode cX7_placeAt 4 = .ok (.getfield 89, 3) := by decide +kernel
theorem dX7_placeAt_7 : decode cX7_placeAt 7 = .ok (.if_icmp .ge 31, 3) := by decide +kernel
theorem dX7_placeAt_10 : decode cX7_placeAt 10 = .ok (.aload_n 0, 1) := by decide +kernel
theorem dX7_placeAt_11 : decode cX7_placeAt 11 = .ok (.getfield 13, 3) := by decide +kernel
theorem dX7_placeAt_14 : decode cX7_placeAt 14 = .ok (.iload_n 3, 1) := by decide +kernel
theorem dX7_placeAt_15 : decode cX7_placeAt 15 = .ok (.iaload, 1) := by decide +kernel
theorem dX7_placeAt_16 : decode cX7_placeAt 16 = .ok (.iload_n 1, 1) := by decide +kernel
theorem dX7_placeAt_17 : decode cX7_placeAt 17 = .ok (.if_icmp .ne 15, 3) := by decide +kernel
theorem dX7_placeAt_20 : decode cX7_placeAt 20 = .ok (.aload_n 0, 1) := by decide +kernel
theorem dX7_placeAt_21 : decode cX7_placeAt 21 = .ok (.getfield 17, 3) := by decide +kernel
theorem dX7_placeAt_24 : decode cX7_placeAt 24 = .ok (.iload_n 3, 1) := by decide +kernel
theorem dX7_placeAt_25 : decode cX7_placeAt 25 = .ok (.iaload, 1) := by decide +kernel
theorem dX7_placeAt_26 : decode cX7_placeAt 26 = .ok (.iload_n 2, 1) := by decide +kernel
theorem dX7_placeAt_27 : decode cX7_placeAt 27 = .ok (.if_icmp .ne 5, 3) := by decide +kernel
theorem dX7_placeAt_30 : decode cX7_placeAt 30 = .ok (.iload_n 3, 1) := by decide +kernel
theorem dX7_placeAt_31 : decode cX7_placeAt 31 = .ok (.ireturn, 1) := by decide +kernel
theorem dX7_placeAt_32 : decode cX7_placeAt 32 = .ok (.iinc 3 1, 3) := by decide +kernel
theorem dX7_placeAt_35 : decode cX7_placeAt 35 = .ok (.goto (-33), 3) := by decide +kernel
theorem dX7_placeAt_38 : decode cX7_placeAt 38 = .ok (.iconst (-1), 1) := by decide +kernel
theorem dX7_placeAt_39 : decode cX7_placeAt 39 = .ok (.ireturn, 1) := by decide +kernel
theorem dX7_putsAt_0 : decode cX7_putsAt 0 = .ok (.aload_n 0, 1) := by decide +kernel
theorem dX7_putsAt_1 : decode cX7_putsAt 1 = .ok (.getfield 13, 3) := by decide +kernel
theorem dX7_putsAt_4 : decode cX7_putsAt 4 = .ok (.iload_n 1, 1) := by decide +kernel
theorem dX7_putsAt_5 : decode cX7_putsAt 5 = .ok (.iload_n 2, 1) := by decide +kernel
theorem dX7_putsAt_6 : decode cX7_putsAt 6 = .ok (.iastore, 1) := by decide +kernel
theorem dX7_putsAt_7 : decode cX7_putsAt 7 = .ok (.aload_n 0, 1) := by decide +kernel
theorem dX7_putsAt_8 : decode cX7_putsAt 8 = .ok (.getfield 17, 3) := by decide +kernel
theorem dX7_putsAt_11 : decode cX7_putsAt 11 = .ok (.iload_n 1, 1) := by decide +kernel
theorem dX7_putsAt_12 : decode cX7_putsAt 12 = .ok (.iload_n 3, 1) := by decide +kernel
theorem dX7_putsAt_13 : decode cX7_putsAt 13 = .ok (.iastore, 1) := by decide +kernel
theorem dX7_putsAt_14 : decode cX7_putsAt 14 = .ok (.aload_n 0, 1) := by decide +kernel
theorem dX7_putsAt_15 : decode cX7_putsAt 15 = .ok (.getfield 20, 3) := by decide +kernel
theorem dX7_putsAt_18 : decode cX7_putsAt 18 = .ok (.iload_n 1, 1) := by decide +kernel
theorem dX7_putsAt_19 : decode cX7_putsAt 19 = .ok (.iload 4, 2) := by decide +kernel
theorem dX7_putsAt_21 : decode cX7_putsAt 21 = .ok (.iastore, 1) := by decide +kernel
theorem dX7_putsAt_22 : decode cX7_putsAt 22 = .ok (.return_, 1) := by decide +kernel
set_option maxRecDepth 20000 in
theorem ggX7_adds_X7_putsAt : GoodIn wsX7_adds wsX7_putsAt := goodIn_r _ [9, 3, 2, 4, 10, 11, 12, 13, 14, 15, 16, 17, 18, 19, 20, 21, 22, 23, 24, 25, 26, 27, 28, 29, 30, 31, 32, 33, 34, 35, 36, 37, 38, 39, 40, 41, 42, 43, 44] (by decide +kernel) (by decide +kernel)
set_option maxRecDepth 20000 in
theorem gX7_adds_X7_putsAt : GoodIn wsX7_adds (wsV RX7 104 RX7 yX7_putsAt wsX7_putsAt) := goodIn_app (goodIn_of _ (by decide +kernel)) ggX7_adds_X7_putsAt
theorem dX7_adds_0 : decode cX7_adds 0 = .ok (.aload_n 0, 1) := by decide +kernel
theorem dX7_adds_1 : decode cX7_adds 1 = .ok (.getfield 89, 3) := by decide +kernel
theorem dX7_adds_4 : decode cX7_adds 4 = .ok (.istore 4, 2) := by decide +kernel
theorem dX7_adds_6 : decode cX7_adds 6 = .ok (.iload 4, 2) := by decide +kernel
theorem dX7_adds_8 : decode cX7_adds 8 = .ok (.ifCond .le 81, 3) := by decide +kernel
theorem dX7_adds_11 : decode cX7_adds 11 = .ok (.aload_n 0, 1) := by decide +kernel
theorem dX7_adds_12 : decode cX7_adds 12 = .ok (.getfield 17, 3) := by decide +kernel
theorem dX7_adds_15 : decode cX7_adds 15 = .ok (.iload 4, 2) := by decide +kernel
theorem dX7_adds_17 : decode cX7_adds 17 = .ok (.iconst 1, 1) := by decide +kernel
theorem dX7_adds_18 : decode cX7_adds 18 = .ok (.isub, 1) := by decide +kernel
theorem dX7_adds_19 : decode cX7_adds 19 = .ok (.iaload, 1) := by decide +kernel
theorem dX7_adds_20 : decode cX7_adds 20 = .ok (.iload_n 2, 1) := by decide +kernel
theorem dX7_adds_21 : decode cX7_adds 21 = .ok (.if_icmp .gt 29, 3) := by decide +kernel
theorem dX7_adds_24 : decode cX7_adds 24 = .ok (.aload_n 0, 1) := by decide +kernel
theorem dX7_adds_25 : decode cX7_adds 25 = .ok (.getfield 17, 3) := by decide +kernel
theorem dX7_adds_28 : decode cX7_adds 28 = .ok (.iload 4, 2) := by decide +kernel
theorem dX7_adds_30 : decode cX7_adds 30 = .ok (.iconst 1, 1) := by decide +kernel
theorem dX7_adds_31 : decode cX7_adds 31 = .ok (.isub, 1) := by decide +kernel
theorem dX7_adds_32 : decode cX7_adds 32 = .ok (.iaload, 1) := by decide +kernel
theorem dX7_adds_33 : decode cX7_adds 33 = .ok (.iload_n 2, 1) := by decide +kernel
theorem dX7_adds_34 : decode cX7_adds 34 = .ok (.if_icmp .ne 55, 3) := by decide +kernel
theorem dX7_adds_37 : decode cX7_adds 37 = .ok (.aload_n 0, 1) := by decide +kernel
theorem dX7_adds_38 : decode cX7_adds 38 = .ok (.getfield 13, 3) := by decide +kernel
theorem dX7_adds_41 : decode cX7_adds 41 = .ok (.iload 4, 2) := by decide +kernel
theorem dX7_adds_43 : decode cX7_adds 43 = .ok (.iconst 1, 1) := by decide +kernel
theorem dX7_adds_44 : decode cX7_adds 44 = .ok (.isub, 1) := by decide +kernel
theorem dX7_adds_45 : decode cX7_adds 45 = .ok (.iaload, 1) := by decide +kernel
theorem dX7_adds_46 : decode cX7_adds 46 = .ok (.iload_n 1, 1) := by decide +kernel
theorem dX7_adds_47 : decode cX7_adds 47 = .ok (.if_icmp .le 42, 3) := by decide +kernel
theorem dX7_adds_50 : decode cX7_adds 50 = .ok (.aload_n 0, 1) := by decide +kernel
theorem dX7_adds_51 : decode cX7_adds 51 = .ok (.iload 4, 2) := by decide +kernel
theorem dX7_adds_53 : decode cX7_adds 53 = .ok (.aload_n 0, 1) := by decide +kernel
theorem dX7_adds_54 : decode cX7_adds 54 = .ok (.getfield 13, 3) := by decide +kernel
theorem dX7_adds_57 : decode cX7_adds 57 = .ok (.iload 4, 2) := by decide +kernel
theorem dX7_adds_59 : decode cX7_adds 59 = .ok (.iconst 1, 1) := by decide +kernel
theorem dX7_adds_60 : decode cX7_adds 60 = .ok (.isub, 1) := by decide +kernel
theorem dX7_adds_61 : decode cX7_adds 61 = .ok (.iaload, 1) := by decide +kernel
theorem dX7_adds_62 : decode cX7_adds 62 = .ok (.aload_n 0, 1) := by decide +kernel
theorem dX7_adds_63 : decode cX7_adds 63 = .ok (.getfield 17, 3) := by decide +kernel
theorem dX7_adds_66 : decode cX7_adds 66 = .ok (.iload 4, 2) := by decide +kernel
theorem dX7_adds_68 : decode cX7_adds 68 = .ok (.iconst 1, 1) := by decide +kernel
theorem dX7_adds_69 : decode cX7_adds 69 = .ok (.isub, 1) := by decide +kernel
theorem dX7_adds_70 : decode cX7_adds 70 = .ok (.iaload, 1) := by decide +kernel
theorem dX7_adds_71 : decode cX7_adds 71 = .ok (.aload_n 0, 1) := by decide +kernel
theorem dX7_adds_72 : decode cX7_adds 72 = .ok (.getfield 20, 3) := by decide +kernel
theorem dX7_adds_75 : decode cX7_adds 75 = .ok (.iload 4, 2) := by decide +kernel
theorem dX7_adds_77 : decode cX7_adds 77 = .ok (.iconst 1, 1) := by decide +kernel
theorem dX7_adds_78 : decode cX7_adds 78 = .ok (.isub, 1) := by decide +kernel
theorem dX7_adds_79 : decode cX7_adds 79 = .ok (.iaload, 1) := by decide +kernel
theorem dX7_adds_80 : decode cX7_adds 80 = .ok (.invokevirtual 104, 3) := by decide +kernel
theorem dX7_adds_83 : decode cX7_adds 83 = .ok (.iinc 4 (-1), 3) := by decide +kernel
theorem dX7_adds_86 : decode cX7_adds 86 = .ok (.goto (-80), 3) := by decide +kernel
theorem dX7_adds_89 : decode cX7_adds 89 = .ok (.aload_n 0, 1) := by decide +kernel
theorem dX7_adds_90 : decode cX7_adds 90 = .ok (.iload 4, 2) := by decide +kernel
theorem dX7_adds_92 : decode cX7_adds 92 = .ok (.iload_n 1, 1) := by decide +kernel
theorem dX7_adds_93 : decode cX7_adds 93 = .ok (.iload_n 2, 1) := by decide +kernel
theorem dX7_adds_94 : decode cX7_adds 94 = .ok (.iload_n 3, 1) := by decide +kernel
theorem dX7_adds_95 : decode cX7_adds 95 = .ok (.invokevirtual 104, 3) := by decide +kernel
theorem dX7_adds_98 : decode cX7_adds 98 = .ok (.aload_n 0, 1) := by decide +kernel
theorem dX7_adds_99 : decode cX7_adds 99 = .ok (.dup, 1) := by decide +kernel
theorem dX7_adds_100 : decode cX7_adds 100 = .ok (.getfield 89, 3) := by decide +kernel
theorem dX7_adds_103 : decode cX7_adds 103 = .ok (.iconst 1, 1) := by decide +kernel
theorem dX7_adds_104 : decode cX7_adds 104 = .ok (.iadd, 1) := by decide +kernel
theorem dX7_adds_105 : decode cX7_adds 105 = .ok (.putfield 89, 3) := by decide +kernel
theorem dX7_adds_108 : decode cX7_adds 108 = .ok (.return_, 1) := by decide +kernel
set_option maxRecDepth 20000 in
theorem ggX7_goes_X7_putsAt : GoodIn wsX7_goes wsX7_putsAt := goodIn_r _ [9, 2, 3, 4, 10, 11, 12, 13, 14, 15, 16, 17, 18, 19, 20, 21, 22, 23, 24, 25, 26, 27, 28, 29, 30, 31, 32, 33, 34, 35, 36, 37, 38, 39, 40, 41, 42, 43, 44] (by decide +kernel) (by decide +kernel)
set_option maxRecDepth 20000 in
theorem gX7_goes_X7_putsAt : GoodIn wsX7_goes (wsV RX7 104 RX7 yX7_putsAt wsX7_putsAt) := goodIn_app (goodIn_of _ (by decide +kernel)) ggX7_goes_X7_putsAt
theorem dX7_goes_0 : decode cX7_goes 0 = .ok (.aload_n 0, 1) := by decide +kernel
theorem dX7_goes_1 : decode cX7_goes 1 = .ok (.dup, 1) := by decide +kernel
theorem dX7_goes_2 : decode cX7_goes 2 = .ok (.getfield 89, 3) := by decide +kernel
theorem dX7_goes_5 : decode cX7_goes 5 = .ok (.iconst 1, 1) := by decide +kernel
theorem dX7_goes_6 : decode cX7_goes 6 = .ok (.isub, 1) := by decide +kernel
theorem dX7_goes_7 : decode cX7_goes 7 = .ok (.putfield 89, 3) := by decide +kernel
theorem dX7_goes_10 : decode cX7_goes 10 = .ok (.iload_n 1, 1) := by decide +kernel
theorem dX7_goes_11 : decode cX7_goes 11 = .ok (.istore_n 2, 1) := by decide +kernel
theorem dX7_goes_12 : decode cX7_goes 12 = .ok (.iload_n 2, 1) := by decide +kernel
theorem dX7_goes_13 : decode cX7_goes 13 = .ok (.aload_n 0, 1) := by decide +kernel
theorem dX7_goes_14 : decode cX7_goes 14 = .ok (.getfield 89, 3) := by decide +kernel
theorem dX7_goes_17 : decode cX7_goes 17 = .ok (.if_icmp .ge 38, 3) := by decide +kernel
theorem dX7_goes_20 : decode cX7_goes 20 = .ok (.aload_n 0, 1) := by decide +kernel
theorem dX7_goes_21 : decode cX7_goes 21 = .ok (.iload_n 2, 1) := by decide +kernel
theorem dX7_goes_22 : decode cX7_goes 22 = .ok (.aload_n 0, 1) := by decide +kernel
theorem dX7_goes_23 : decode cX7_goes 23 = .ok (.getfield 13, 3) := by decide +kernel
theorem dX7_goes_26 : decode cX7_goes 26 = .ok (.iload_n 2, 1) := by decide +kernel
theorem dX7_goes_27 : decode cX7_goes 27 = .ok (.iconst 1, 1) := by decide +kernel
theorem dX7_goes_28 : decode cX7_goes 28 = .ok (.iadd, 1) := by decide +kernel
theorem dX7_goes_29 : decode cX7_goes 29 = .ok (.iaload, 1) := by decide +kernel
theorem dX7_goes_30 : decode cX7_goes 30 = .ok (.aload_n 0, 1) := by decide +kernel
theorem dX7_goes_31 : decode cX7_goes 31 = .ok (.getfield 17, 3) := by decide +kernel
