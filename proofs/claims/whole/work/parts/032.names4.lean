theorem dX5_order_76 : decode cX5_order 76 = .ok (.invokevirtual 59, 3) := by decide +kernel
theorem dX5_order_79 : decode cX5_order 79 = .ok (.ireturn, 1) := by decide +kernel
theorem dX5_order_80 : decode cX5_order 80 = .ok (.aload_n 0, 1) := by decide +kernel
theorem dX5_order_81 : decode cX5_order 81 = .ok (.getfield 19, 3) := by decide +kernel
theorem dX5_order_84 : decode cX5_order 84 = .ok (.iload_n 1, 1) := by decide +kernel
theorem dX5_order_85 : decode cX5_order 85 = .ok (.invokestatic 83, 3) := by decide +kernel
theorem dX5_order_88 : decode cX5_order 88 = .ok (.invokevirtual 141, 3) := by decide +kernel
theorem dX5_order_91 : decode cX5_order 91 = .ok (.ifCond .eq 21, 3) := by decide +kernel
theorem dX5_order_94 : decode cX5_order 94 = .ok (.aload_n 0, 1) := by decide +kernel
theorem dX5_order_95 : decode cX5_order 95 = .ok (.getfield 19, 3) := by decide +kernel
theorem dX5_order_98 : decode cX5_order 98 = .ok (.iload_n 2, 1) := by decide +kernel
theorem dX5_order_99 : decode cX5_order 99 = .ok (.invokestatic 83, 3) := by decide +kernel
theorem dX5_order_102 : decode cX5_order 102 = .ok (.invokevirtual 151, 3) := by decide +kernel
theorem dX5_order_105 : decode cX5_order 105 = .ok (.ifCond .le 7, 3) := by decide +kernel
theorem dX5_order_108 : decode cX5_order 108 = .ok (.iconst 1, 1) := by decide +kernel
theorem dX5_order_109 : decode cX5_order 109 = .ok (.goto 4, 3) := by decide +kernel
theorem dX5_order_112 : decode cX5_order 112 = .ok (.iconst 0, 1) := by decide +kernel
theorem dX5_order_113 : decode cX5_order 113 = .ok (.istore 5, 2) := by decide +kernel
theorem dX5_order_115 : decode cX5_order 115 = .ok (.aload_n 0, 1) := by decide +kernel
theorem dX5_order_116 : decode cX5_order 116 = .ok (.iload 5, 2) := by decide +kernel
theorem dX5_order_118 : decode cX5_order 118 = .ok (.ifCond .eq 7, 3) := by decide +kernel
theorem dX5_order_121 : decode cX5_order 121 = .ok (.iconst 1, 1) := by decide +kernel
theorem dX5_order_122 : decode cX5_order 122 = .ok (.goto 4, 3) := by decide +kernel
theorem dX5_order_125 : decode cX5_order 125 = .ok (.iconst 0, 1) := by decide +kernel
theorem dX5_order_126 : decode cX5_order 126 = .ok (.invokevirtual 59, 3) := by decide +kernel
theorem dX5_order_129 : decode cX5_order 129 = .ok (.ireturn, 1) := by decide +kernel
set_option maxRecDepth 20000 in
theorem ggX5_edges_X5_isWithin : GoodIn wsX5_edges wsX5_isWithin := goodIn_r _ [6] (by decide +kernel) (by decide +kernel)
set_option maxRecDepth 20000 in
theorem gX5_edges_X5_isWithin : GoodIn wsX5_edges (va_wsS RX5 100 yX5_isWithin wsX5_isWithin) := goodIn_app (goodIn_of _ (by decide +kernel)) ggX5_edges_X5_isWithin
set_option maxRecDepth 20000 in
theorem ggX5_edges_X5_isPlate : GoodIn wsX5_edges wsX5_isPlate := goodIn_r _ [10, 11, 32, 33, 34, 35, 36, 37, 38, 39, 40, 41] (by decide +kernel) (by decide +kernel)
set_option maxRecDepth 20000 in
theorem gX5_edges_X5_isPlate : GoodIn wsX5_edges (wsV RX5 65 RX5 yX5_isPlate wsX5_isPlate) := goodIn_app (goodIn_of _ (by decide +kernel)) ggX5_edges_X5_isPlate
set_option maxRecDepth 20000 in
theorem ggX5_edges_X5_whyNot : GoodIn wsX5_edges wsX5_whyNot := goodIn_r _ [14] (by decide +kernel) (by decide +kernel)
set_option maxRecDepth 20000 in
theorem gX5_edges_X5_whyNot : GoodIn wsX5_edges (va_wsS RX5 114 yX5_whyNot wsX5_whyNot) := goodIn_app (goodIn_of _ (by decide +kernel)) ggX5_edges_X5_whyNot
set_option maxRecDepth 20000 in
theorem ggX5_edges_X1_setEdges : GoodIn wsX5_edges wsX1_setEdges := goodIn_r _ [19, 20, 21, 22, 23, 24, 18, 25, 26, 27, 28, 29, 30, 31, 42, 43, 44, 45, 46] (by decide +kernel) (by decide +kernel)
set_option maxRecDepth 20000 in
theorem gX5_edges_X1_setEdges : GoodIn wsX5_edges (wsV RX5 154 RX1 yX1_setEdges wsX1_setEdges) := goodIn_app (goodIn_of _ (by decide +kernel)) ggX5_edges_X1_setEdges
theorem dX5_edges_0 : decode cX5_edges 0 = .ok (.iload_n 2, 1) := by decide +kernel
theorem dX5_edges_1 : decode cX5_edges 1 = .ok (.iconst 0, 1) := by decide +kernel
theorem dX5_edges_2 : decode cX5_edges 2 = .ok (.bipush 99, 2) := by decide +kernel
theorem dX5_edges_4 : decode cX5_edges 4 = .ok (.invokestatic 100, 3) := by decide +kernel
theorem dX5_edges_7 : decode cX5_edges 7 = .ok (.ifCond .eq 17, 3) := by decide +kernel
theorem dX5_edges_10 : decode cX5_edges 10 = .ok (.iload_n 3, 1) := by decide +kernel
theorem dX5_edges_11 : decode cX5_edges 11 = .ok (.iconst 0, 1) := by decide +kernel
theorem dX5_edges_12 : decode cX5_edges 12 = .ok (.bipush 99, 2) := by decide +kernel
theorem dX5_edges_14 : decode cX5_edges 14 = .ok (.invokestatic 100, 3) := by decide +kernel
theorem dX5_edges_17 : decode cX5_edges 17 = .ok (.ifCond .eq 7, 3) := by decide +kernel
theorem dX5_edges_20 : decode cX5_edges 20 = .ok (.iconst 1, 1) := by decide +kernel
theorem dX5_edges_21 : decode cX5_edges 21 = .ok (.goto 4, 3) := by decide +kernel
theorem dX5_edges_24 : decode cX5_edges 24 = .ok (.iconst 0, 1) := by decide +kernel
theorem dX5_edges_25 : decode cX5_edges 25 = .ok (.istore 4, 2) := by decide +kernel
theorem dX5_edges_27 : decode cX5_edges 27 = .ok (.aload_n 0, 1) := by decide +kernel
theorem dX5_edges_28 : decode cX5_edges 28 = .ok (.aload_n 0, 1) := by decide +kernel
theorem dX5_edges_29 : decode cX5_edges 29 = .ok (.iload_n 1, 1) := by decide +kernel
theorem dX5_edges_30 : decode cX5_edges 30 = .ok (.invokevirtual 65, 3) := by decide +kernel
theorem dX5_edges_33 : decode cX5_edges 33 = .ok (.iload 4, 2) := by decide +kernel
theorem dX5_edges_35 : decode cX5_edges 35 = .ok (.invokestatic 114, 3) := by decide +kernel
theorem dX5_edges_38 : decode cX5_edges 38 = .ok (.putfield 48, 3) := by decide +kernel
theorem dX5_edges_41 : decode cX5_edges 41 = .ok (.aload_n 0, 1) := by decide +kernel
theorem dX5_edges_42 : decode cX5_edges 42 = .ok (.getfield 48, 3) := by decide +kernel
theorem dX5_edges_45 : decode cX5_edges 45 = .ok (.ifCond .eq 5, 3) := by decide +kernel
theorem dX5_edges_48 : decode cX5_edges 48 = .ok (.iconst 0, 1) := by decide +kernel
theorem dX5_edges_49 : decode cX5_edges 49 = .ok (.ireturn, 1) := by decide +kernel
theorem dX5_edges_50 : decode cX5_edges 50 = .ok (.aload_n 0, 1) := by decide +kernel
theorem dX5_edges_51 : decode cX5_edges 51 = .ok (.getfield 26, 3) := by decide +kernel
theorem dX5_edges_54 : decode cX5_edges 54 = .ok (.iload_n 1, 1) := by decide +kernel
theorem dX5_edges_55 : decode cX5_edges 55 = .ok (.iload_n 2, 1) := by decide +kernel
theorem dX5_edges_56 : decode cX5_edges 56 = .ok (.iload_n 3, 1) := by decide +kernel
theorem dX5_edges_57 : decode cX5_edges 57 = .ok (.invokevirtual 154, 3) := by decide +kernel
theorem dX5_edges_60 : decode cX5_edges 60 = .ok (.iconst 1, 1) := by decide +kernel
theorem dX5_edges_61 : decode cX5_edges 61 = .ok (.ireturn, 1) := by decide +kernel
set_option maxRecDepth 20000 in
theorem ggX5_row_X5_whyNoRow : GoodIn wsX5_row wsX5_whyNoRow := goodIn_r _ [8, 1, 9, 10, 11, 7, 12, 13, 14, 15, 16, 17, 18, 19, 20, 21, 22, 23, 24, 25, 26, 27, 28, 29, 30, 31, 32, 33, 34, 35, 36, 37, 38, 39, 40, 41, 42, 43, 44, 45, 46, 47, 73, 74, 75, 76, 77, 78, 79, 80, 81, 82, 83, 84, 85, 86, 87] (by decide +kernel) (by decide +kernel)
set_option maxRecDepth 20000 in
theorem gX5_row_X5_whyNoRow : GoodIn wsX5_row (wsV RX5 157 RX5 yX5_whyNoRow wsX5_whyNoRow) := goodIn_app (goodIn_of _ (by decide +kernel)) ggX5_row_X5_whyNoRow
set_option maxRecDepth 20000 in
theorem ggX5_row_X5_refuse : GoodIn wsX5_row wsX5_refuse := goodIn_r _ [51, 52, 73, 74, 75, 76, 77, 78, 79, 80, 81, 82] (by decide +kernel) (by decide +kernel)
set_option maxRecDepth 20000 in
theorem gX5_row_X5_refuse : GoodIn wsX5_row (wsV RX5 55 RX5 yX5_refuse wsX5_refuse) := goodIn_app (goodIn_of _ (by decide +kernel)) ggX5_row_X5_refuse
set_option maxRecDepth 20000 in
theorem ggX5_row_X1_writeFirstRow : GoodIn wsX5_row wsX1_writeFirstRow := goodIn_r _ [56, 28, 57, 58, 59, 17, 60, 32, 33, 34, 35, 36, 29, 30, 31, 37, 38, 39, 40, 27, 19, 20, 21, 22, 41, 42, 43, 44, 45, 46, 47, 61, 62, 63, 64, 65, 66, 67, 68, 23, 24, 25, 26, 83, 84, 85, 86, 87] (by decide +kernel) (by decide +kernel)
set_option maxRecDepth 20000 in
theorem gX5_row_X1_writeFirstRow : GoodIn wsX5_row (wsV RX5 160 RX1 yX1_writeFirstRow wsX1_writeFirstRow) := goodIn_app (goodIn_of _ (by decide +kernel)) ggX5_row_X1_writeFirstRow
set_option maxRecDepth 20000 in
theorem ggX5_row_X5_answer : GoodIn wsX5_row wsX5_answer := goodIn_r _ [72, 52, 73, 74, 75, 76, 77, 78, 79, 80, 81, 82] (by decide +kernel) (by decide +kernel)
set_option maxRecDepth 20000 in
theorem gX5_row_X5_answer : GoodIn wsX5_row (wsV RX5 59 RX5 yX5_answer wsX5_answer) := goodIn_app (goodIn_of _ (by decide +kernel)) ggX5_row_X5_answer
theorem dX5_row_0 : decode cX5_row 0 = .ok (.aload_n 0, 1) := by decide +kernel
theorem dX5_row_1 : decode cX5_row 1 = .ok (.iload_n 1, 1) := by decide +kernel
theorem dX5_row_2 : decode cX5_row 2 = .ok (.invokevirtual 157, 3) := by decide +kernel
theorem dX5_row_5 : decode cX5_row 5 = .ok (.istore_n 2, 1) := by decide +kernel
theorem dX5_row_6 : decode cX5_row 6 = .ok (.iload_n 2, 1) := by decide +kernel
theorem dX5_row_7 : decode cX5_row 7 = .ok (.ifCond .eq 9, 3) := by decide +kernel
theorem dX5_row_10 : decode cX5_row 10 = .ok (.aload_n 0, 1) := by decide +kernel
theorem dX5_row_11 : decode cX5_row 11 = .ok (.iload_n 2, 1) := by decide +kernel
theorem dX5_row_12 : decode cX5_row 12 = .ok (.invokevirtual 55, 3) := by decide +kernel
theorem dX5_row_15 : decode cX5_row 15 = .ok (.ireturn, 1) := by decide +kernel
theorem dX5_row_16 : decode cX5_row 16 = .ok (.aload_n 0, 1) := by decide +kernel
theorem dX5_row_17 : decode cX5_row 17 = .ok (.aload_n 0, 1) := by decide +kernel
theorem dX5_row_18 : decode cX5_row 18 = .ok (.getfield 26, 3) := by decide +kernel
theorem dX5_row_21 : decode cX5_row 21 = .ok (.iload_n 1, 1) := by decide +kernel
theorem dX5_row_22 : decode cX5_row 22 = .ok (.aload_n 0, 1) := by decide +kernel
theorem dX5_row_23 : decode cX5_row 23 = .ok (.getfield 44, 3) := by decide +kernel
theorem dX5_row_26 : decode cX5_row 26 = .ok (.invokevirtual 160, 3) := by decide +kernel
theorem dX5_row_29 : decode cX5_row 29 = .ok (.putfield 164, 3) := by decide +kernel
theorem dX5_row_32 : decode cX5_row 32 = .ok (.aload_n 0, 1) := by decide +kernel
theorem dX5_row_33 : decode cX5_row 33 = .ok (.aload_n 0, 1) := by decide +kernel
theorem dX5_row_34 : decode cX5_row 34 = .ok (.getfield 164, 3) := by decide +kernel
theorem dX5_row_37 : decode cX5_row 37 = .ok (.invokevirtual 59, 3) := by decide +kernel
theorem dX5_row_40 : decode cX5_row 40 = .ok (.ireturn, 1) := by decide +kernel
set_option maxRecDepth 20000 in
theorem ggX5_ring_X5_whyNoRow : GoodIn wsX5_ring wsX5_whyNoRow := goodIn_r _ [6, 1, 7, 8, 9, 5, 10, 11, 12, 13, 14, 15, 16, 17, 18, 19, 20, 21, 22, 23, 24, 25, 26, 27, 28, 29, 30, 31, 32, 33, 34, 35, 36, 37, 38, 39, 40, 41, 42, 43, 44, 45, 56, 57, 58, 59, 60, 61, 62, 63, 64, 65, 66, 67, 68, 69, 70] (by decide +kernel) (by decide +kernel)
set_option maxRecDepth 20000 in
theorem gX5_ring_X5_whyNoRow : GoodIn wsX5_ring (wsV RX5 157 RX5 yX5_whyNoRow wsX5_whyNoRow) := goodIn_app (goodIn_of _ (by decide +kernel)) ggX5_ring_X5_whyNoRow
set_option maxRecDepth 20000 in
theorem ggX5_ring_X5_refuse : GoodIn wsX5_ring wsX5_refuse := goodIn_r _ [49, 50, 56, 57, 58, 59, 60, 61, 62, 63, 64, 65] (by decide +kernel) (by decide +kernel)
set_option maxRecDepth 20000 in
theorem gX5_ring_X5_refuse : GoodIn wsX5_ring (wsV RX5 55 RX5 yX5_refuse wsX5_refuse) := goodIn_app (goodIn_of _ (by decide +kernel)) ggX5_ring_X5_refuse
set_option maxRecDepth 20000 in
theorem ggX5_ring_X1_startsIn : GoodIn wsX5_ring wsX1_startsIn := goodIn_r _ [33, 34, 27, 28, 15, 29, 35, 36, 37, 38, 25, 17, 18, 19, 20, 39, 40, 41, 42, 43, 44, 45, 66, 67, 68, 69, 70] (by decide +kernel) (by decide +kernel)
set_option maxRecDepth 20000 in
theorem gX5_ring_X1_startsIn : GoodIn wsX5_ring (wsV RX5 167 RX1 yX1_startsIn wsX1_startsIn) := goodIn_app (goodIn_of _ (by decide +kernel)) ggX5_ring_X1_startsIn
set_option maxRecDepth 20000 in
theorem ggX5_ring_X5_answer : GoodIn wsX5_ring wsX5_answer := goodIn_r _ [55, 50, 56, 57, 58, 59, 60, 61, 62, 63, 64, 65] (by decide +kernel) (by decide +kernel)
set_option maxRecDepth 20000 in
theorem gX5_ring_X5_answer : GoodIn wsX5_ring (wsV RX5 59 RX5 yX5_answer wsX5_answer) := goodIn_app (goodIn_of _ (by decide +kernel)) ggX5_ring_X5_answer
theorem dX5_ring_0 : decode cX5_ring 0 = .ok (.aload_n 0, 1) := by decide +kernel
theorem dX5_ring_1 : decode cX5_ring 1 = .ok (.iload_n 1, 1) := by decide +kernel
theorem dX5_ring_2 : decode cX5_ring 2 = .ok (.invokevirtual 157, 3) := by decide +kernel
theorem dX5_ring_5 : decode cX5_ring 5 = .ok (.istore_n 2, 1) := by decide +kernel
theorem dX5_ring_6 : decode cX5_ring 6 = .ok (.iload_n 2, 1) := by decide +kernel
theorem dX5_ring_7 : decode cX5_ring 7 = .ok (.ifCond .eq 9, 3) := by decide +kernel
theorem dX5_ring_10 : decode cX5_ring 10 = .ok (.aload_n 0, 1) := by decide +kernel
theorem dX5_ring_11 : decode cX5_ring 11 = .ok (.iload_n 2, 1) := by decide +kernel
theorem dX5_ring_12 : decode cX5_ring 12 = .ok (.invokevirtual 55, 3) := by decide +kernel
theorem dX5_ring_15 : decode cX5_ring 15 = .ok (.ireturn, 1) := by decide +kernel
theorem dX5_ring_16 : decode cX5_ring 16 = .ok (.aload_n 0, 1) := by decide +kernel
theorem dX5_ring_17 : decode cX5_ring 17 = .ok (.aload_n 0, 1) := by decide +kernel
theorem dX5_ring_18 : decode cX5_ring 18 = .ok (.getfield 26, 3) := by decide +kernel
theorem dX5_ring_21 : decode cX5_ring 21 = .ok (.iload_n 1, 1) := by decide +kernel
theorem dX5_ring_22 : decode cX5_ring 22 = .ok (.invokevirtual 167, 3) := by decide +kernel
theorem dX5_ring_25 : decode cX5_ring 25 = .ok (.ifCond .ne 7, 3) := by decide +kernel
theorem dX5_ring_28 : decode cX5_ring 28 = .ok (.iconst 1, 1) := by decide +kernel
theorem dX5_ring_29 : decode cX5_ring 29 = .ok (.goto 4, 3) := by decide +kernel
theorem dX5_ring_32 : decode cX5_ring 32 = .ok (.iconst 0, 1) := by decide +kernel
theorem dX5_ring_33 : decode cX5_ring 33 = .ok (.invokevirtual 59, 3) := by decide +kernel
theorem dX5_ring_36 : decode cX5_ring 36 = .ok (.ireturn, 1) := by decide +kernel
set_option maxRecDepth 20000 in
theorem ggX5_rows_X5_isSet : GoodIn wsX5_rows wsX5_isSet := goodIn_r _ [6, 7, 51, 52, 53, 54, 55, 56, 57, 58, 59, 60] (by decide +kernel) (by decide +kernel)
set_option maxRecDepth 20000 in
theorem gX5_rows_X5_isSet : GoodIn wsX5_rows (wsV RX5 170 RX5 yX5_isSet wsX5_isSet) := goodIn_app (goodIn_of _ (by decide +kernel)) ggX5_rows_X5_isSet
set_option maxRecDepth 20000 in
theorem ggX5_rows_X5_refuse : GoodIn wsX5_rows wsX5_refuse := goodIn_r _ [11, 12, 51, 52, 53, 54, 55, 56, 57, 58, 59, 60] (by decide +kernel) (by decide +kernel)
set_option maxRecDepth 20000 in
theorem gX5_rows_X5_refuse : GoodIn wsX5_rows (wsV RX5 55 RX5 yX5_refuse wsX5_refuse) := goodIn_app (goodIn_of _ (by decide +kernel)) ggX5_rows_X5_refuse
set_option maxRecDepth 20000 in
theorem ggX5_rows_X1_fewestRows : GoodIn wsX5_rows wsX1_fewestRows := goodIn_r _ [17, 18, 19, 20, 21, 22, 23, 24, 16, 25, 26, 27, 28, 29, 30, 31, 32, 33, 34, 35, 36, 37, 38, 39, 40, 41, 42, 43, 44, 45, 46, 61, 62, 63, 64, 65] (by decide +kernel) (by decide +kernel)
set_option maxRecDepth 20000 in
theorem gX5_rows_X1_fewestRows : GoodIn wsX5_rows (wsV RX5 173 RX1 yX1_fewestRows wsX1_fewestRows) := goodIn_app (goodIn_of _ (by decide +kernel)) ggX5_rows_X1_fewestRows
set_option maxRecDepth 20000 in
theorem ggX5_rows_X5_answer : GoodIn wsX5_rows wsX5_answer := goodIn_r _ [50, 12, 51, 52, 53, 54, 55, 56, 57, 58, 59, 60] (by decide +kernel) (by decide +kernel)
set_option maxRecDepth 20000 in
theorem gX5_rows_X5_answer : GoodIn wsX5_rows (wsV RX5 59 RX5 yX5_answer wsX5_answer) := goodIn_app (goodIn_of _ (by decide +kernel)) ggX5_rows_X5_answer
theorem dX5_rows_0 : decode cX5_rows 0 = .ok (.aload_n 0, 1) := by decide +kernel
theorem dX5_rows_1 : decode cX5_rows 1 = .ok (.iload_n 1, 1) := by decide +kernel
theorem dX5_rows_2 : decode cX5_rows 2 = .ok (.invokevirtual 170, 3) := by decide +kernel
theorem dX5_rows_5 : decode cX5_rows 5 = .ok (.ifCond .ne 9, 3) := by decide +kernel
theorem dX5_rows_8 : decode cX5_rows 8 = .ok (.aload_n 0, 1) := by decide +kernel
theorem dX5_rows_9 : decode cX5_rows 9 = .ok (.iconst 2, 1) := by decide +kernel
theorem dX5_rows_10 : decode cX5_rows 10 = .ok (.invokevirtual 55, 3) := by decide +kernel
theorem dX5_rows_13 : decode cX5_rows 13 = .ok (.ireturn, 1) := by decide +kernel
theorem dX5_rows_14 : decode cX5_rows 14 = .ok (.aload_n 0, 1) := by decide +kernel
theorem dX5_rows_15 : decode cX5_rows 15 = .ok (.aload_n 0, 1) := by decide +kernel
theorem dX5_rows_16 : decode cX5_rows 16 = .ok (.getfield 26, 3) := by decide +kernel
theorem dX5_rows_19 : decode cX5_rows 19 = .ok (.iload_n 1, 1) := by decide +kernel
theorem dX5_rows_20 : decode cX5_rows 20 = .ok (.invokevirtual 173, 3) := by decide +kernel
theorem dX5_rows_23 : decode cX5_rows 23 = .ok (.invokevirtual 59, 3) := by decide +kernel
theorem dX5_rows_26 : decode cX5_rows 26 = .ok (.ireturn, 1) := by decide +kernel
theorem dX5_out_0 : decode cX5_out 0 = .ok (.iload_n 1, 1) := by decide +kernel
theorem dX5_out_1 : decode cX5_out 1 = .ok (.ifCond .lt 20, 3) := by decide +kernel
theorem dX5_out_4 : decode cX5_out 4 = .ok (.iload_n 1, 1) := by decide +kernel
theorem dX5_out_5 : decode cX5_out 5 = .ok (.aload_n 0, 1) := by decide +kernel
theorem dX5_out_6 : decode cX5_out 6 = .ok (.getfield 164, 3) := by decide +kernel
theorem dX5_out_9 : decode cX5_out 9 = .ok (.if_icmp .ge 12, 3) := by decide +kernel
theorem dX5_out_12 : decode cX5_out 12 = .ok (.iload_n 1, 1) := by decide +kernel
theorem dX5_out_13 : decode cX5_out 13 = .ok (.aload_n 0, 1) := by decide +kernel
theorem dX5_out_14 : decode cX5_out 14 = .ok (.getfield 44, 3) := by decide +kernel
theorem dX5_out_17 : decode cX5_out 17 = .ok (.arraylength, 1) := by decide +kernel
theorem dX5_out_18 : decode cX5_out 18 = .ok (.if_icmp .lt 5, 3) := by decide +kernel
theorem dX5_out_21 : decode cX5_out 21 = .ok (.iconst (-1), 1) := by decide +kernel
theorem dX5_out_22 : decode cX5_out 22 = .ok (.ireturn, 1) := by decide +kernel
theorem dX5_out_23 : decode cX5_out 23 = .ok (.aload_n 0, 1) := by decide +kernel
theorem dX5_out_24 : decode cX5_out 24 = .ok (.getfield 44, 3) := by decide +kernel
theorem dX5_out_27 : decode cX5_out 27 = .ok (.iload_n 1, 1) := by decide +kernel
theorem dX5_out_28 : decode cX5_out 28 = .ok (.iaload, 1) := by decide +kernel
theorem dX5_out_29 : decode cX5_out 29 = .ok (.ireturn, 1) := by decide +kernel
set_option maxRecDepth 20000 in
theorem ggX5_want_X5_isWithin : GoodIn wsX5_want wsX5_isWithin := goodIn_r _ [6] (by decide +kernel) (by decide +kernel)
set_option maxRecDepth 20000 in
theorem gX5_want_X5_isWithin : GoodIn wsX5_want (va_wsS RX5 100 yX5_isWithin wsX5_isWithin) := goodIn_app (goodIn_of _ (by decide +kernel)) ggX5_want_X5_isWithin
set_option maxRecDepth 20000 in
theorem ggX5_want_X5_isPlate : GoodIn wsX5_want wsX5_isPlate := goodIn_r _ [10, 11, 23, 24, 25, 26, 27, 28, 29, 30, 31, 32] (by decide +kernel) (by decide +kernel)
set_option maxRecDepth 20000 in
theorem gX5_want_X5_isPlate : GoodIn wsX5_want (wsV RX5 65 RX5 yX5_isPlate wsX5_isPlate) := goodIn_app (goodIn_of _ (by decide +kernel)) ggX5_want_X5_isPlate
set_option maxRecDepth 20000 in
theorem ggX5_want_X5_whyNot : GoodIn wsX5_want wsX5_whyNot := goodIn_r _ [14] (by decide +kernel) (by decide +kernel)
set_option maxRecDepth 20000 in
theorem gX5_want_X5_whyNot : GoodIn wsX5_want (va_wsS RX5 114 yX5_whyNot wsX5_whyNot) := goodIn_app (goodIn_of _ (by decide +kernel)) ggX5_want_X5_whyNot
set_option maxRecDepth 20000 in
theorem ggX5_want_X0_setWish : GoodIn wsX5_want wsX0_setWish := goodIn_r _ [19, 20, 21, 22, 33, 34, 35, 36, 37, 38] (by decide +kernel) (by decide +kernel)
set_option maxRecDepth 20000 in
theorem gX5_want_X0_setWish : GoodIn wsX5_want (wsV RX5 176 RX0 yX0_setWish wsX0_setWish) := goodIn_app (goodIn_of _ (by decide +kernel)) ggX5_want_X0_setWish
theorem dX5_want_0 : decode cX5_want 0 = .ok (.iload_n 2, 1) := by decide +kernel
theorem dX5_want_1 : decode cX5_want 1 = .ok (.iconst 0, 1) := by decide +kernel
theorem dX5_want_2 : decode cX5_want 2 = .ok (.bipush 99, 2) := by decide +kernel
theorem dX5_want_4 : decode cX5_want 4 = .ok (.invokestatic 100, 3) := by decide +kernel
theorem dX5_want_7 : decode cX5_want 7 = .ok (.ifCond .eq 29, 3) := by decide +kernel
theorem dX5_want_10 : decode cX5_want 10 = .ok (.iload_n 3, 1) := by decide +kernel
theorem dX5_want_11 : decode cX5_want 11 = .ok (.iconst 1, 1) := by decide +kernel
theorem dX5_want_12 : decode cX5_want 12 = .ok (.bipush 50, 2) := by decide +kernel
theorem dX5_want_14 : decode cX5_want 14 = .ok (.invokestatic 100, 3) := by decide +kernel
theorem dX5_want_17 : decode cX5_want 17 = .ok (.ifCond .eq 19, 3) := by decide +kernel
theorem dX5_want_20 : decode cX5_want 20 = .ok (.iload 4, 2) := by decide +kernel
theorem dX5_want_22 : decode cX5_want 22 = .ok (.iconst 1, 1) := by decide +kernel
theorem dX5_want_23 : decode cX5_want 23 = .ok (.sipush 500, 3) := by decide +kernel
theorem dX5_want_26 : decode cX5_want 26 = .ok (.invokestatic 100, 3) := by decide +kernel
theorem dX5_want_29 : decode cX5_want 29 = .ok (.ifCond .eq 7, 3) := by decide +kernel
theorem dX5_want_32 : decode cX5_want 32 = .ok (.iconst 1, 1) := by decide +kernel
theorem dX5_want_33 : decode cX5_want 33 = .ok (.goto 4, 3) := by decide +kernel
theorem dX5_want_36 : decode cX5_want 36 = .ok (.iconst 0, 1) := by decide +kernel
theorem dX5_want_37 : decode cX5_want 37 = .ok (.istore 5, 2) := by decide +kernel
theorem dX5_want_39 : decode cX5_want 39 = .ok (.aload_n 0, 1) := by decide +kernel
theorem dX5_want_40 : decode cX5_want 40 = .ok (.aload_n 0, 1) := by decide +kernel
theorem dX5_want_41 : decode cX5_want 41 = .ok (.iload_n 1, 1) := by decide +kernel
theorem dX5_want_42 : decode cX5_want 42 = .ok (.invokevirtual 65, 3) := by decide +kernel
theorem dX5_want_45 : decode cX5_want 45 = .ok (.iload 5, 2) := by decide +kernel
theorem dX5_want_47 : decode cX5_want 47 = .ok (.invokestatic 114, 3) := by decide +kernel
theorem dX5_want_50 : decode cX5_want 50 = .ok (.putfield 48, 3) := by decide +kernel
theorem dX5_want_53 : decode cX5_want 53 = .ok (.aload_n 0, 1) := by decide +kernel
theorem dX5_want_54 : decode cX5_want 54 = .ok (.getfield 48, 3) := by decide +kernel
theorem dX5_want_57 : decode cX5_want 57 = .ok (.ifCond .eq 5, 3) := by decide +kernel
theorem dX5_want_60 : decode cX5_want 60 = .ok (.iconst 0, 1) := by decide +kernel
theorem dX5_want_61 : decode cX5_want 61 = .ok (.ireturn, 1) := by decide +kernel
theorem dX5_want_62 : decode cX5_want 62 = .ok (.aload_n 0, 1) := by decide +kernel
theorem dX5_want_63 : decode cX5_want 63 = .ok (.getfield 33, 3) := by decide +kernel
theorem dX5_want_66 : decode cX5_want 66 = .ok (.iload_n 1, 1) := by decide +kernel
theorem dX5_want_67 : decode cX5_want 67 = .ok (.iload_n 2, 1) := by decide +kernel
theorem dX5_want_68 : decode cX5_want 68 = .ok (.iload_n 3, 1) := by decide +kernel
theorem dX5_want_69 : decode cX5_want 69 = .ok (.iload 4, 2) := by decide +kernel
theorem dX5_want_71 : decode cX5_want 71 = .ok (.invokevirtual 176, 3) := by decide +kernel
theorem dX5_want_74 : decode cX5_want 74 = .ok (.iconst 1, 1) := by decide +kernel
theorem dX5_want_75 : decode cX5_want 75 = .ok (.ireturn, 1) := by decide +kernel
set_option maxRecDepth 20000 in
theorem ggX5_best_X0_choose : GoodIn wsX5_best wsX0_choose := goodIn_r _ [7, 8, 9, 10, 11, 12, 13, 14, 15, 16, 17, 18, 19, 20, 21, 22, 23, 6, 24, 25, 26, 27, 28, 29, 30, 31, 32, 33, 34, 35, 36, 37, 38, 39, 40, 61, 62, 63, 64, 65, 66] (by decide +kernel) (by decide +kernel)
set_option maxRecDepth 20000 in
theorem gX5_best_X0_choose : GoodIn wsX5_best (wsV RX5 180 RX0 yX0_choose wsX0_choose) := goodIn_app (goodIn_of _ (by decide +kernel)) ggX5_best_X0_choose
set_option maxRecDepth 20000 in
theorem ggX5_best_X0_wantedTogether : GoodIn wsX5_best wsX0_wantedTogether := goodIn_r _ [44, 17, 61, 62, 63, 64, 65, 66] (by decide +kernel) (by decide +kernel)
set_option maxRecDepth 20000 in
theorem gX5_best_X0_wantedTogether : GoodIn wsX5_best (wsV RX5 184 RX0 yX0_wantedTogether wsX0_wantedTogether) := goodIn_app (goodIn_of _ (by decide +kernel)) ggX5_best_X0_wantedTogether
set_option maxRecDepth 20000 in
theorem ggX5_best_X5_answer : GoodIn wsX5_best wsX5_answer := goodIn_r _ [49, 50, 51, 52, 53, 54, 55, 56, 57, 58, 59, 60] (by decide +kernel) (by decide +kernel)
set_option maxRecDepth 20000 in
theorem gX5_best_X5_answer : GoodIn wsX5_best (wsV RX5 59 RX5 yX5_answer wsX5_answer) := goodIn_app (goodIn_of _ (by decide +kernel)) ggX5_best_X5_answer
theorem dX5_best_0 : decode cX5_best 0 = .ok (.aload_n 0, 1) := by decide +kernel
theorem dX5_best_1 : decode cX5_best 1 = .ok (.getfield 33, 3) := by decide +kernel
theorem dX5_best_4 : decode cX5_best 4 = .ok (.aload_n 0, 1) := by decide +kernel
theorem dX5_best_5 : decode cX5_best 5 = .ok (.getfield 52, 3) := by decide +kernel
theorem dX5_best_8 : decode cX5_best 8 = .ok (.invokevirtual 180, 3) := by decide +kernel
theorem dX5_best_11 : decode cX5_best 11 = .ok (.aload_n 0, 1) := by decide +kernel
theorem dX5_best_12 : decode cX5_best 12 = .ok (.aload_n 0, 1) := by decide +kernel
theorem dX5_best_13 : decode cX5_best 13 = .ok (.getfield 33, 3) := by decide +kernel
theorem dX5_best_16 : decode cX5_best 16 = .ok (.invokevirtual 184, 3) := by decide +kernel
theorem dX5_best_19 : decode cX5_best 19 = .ok (.invokevirtual 59, 3) := by decide +kernel
theorem dX5_best_22 : decode cX5_best 22 = .ok (.ireturn, 1) := by decide +kernel
set_option maxRecDepth 20000 in
theorem ggX5_hour_X5_isPlate : GoodIn wsX5_hour wsX5_isPlate := goodIn_r _ [7, 2, 64, 65, 66, 67, 68, 69, 70, 71, 72, 73] (by decide +kernel) (by decide +kernel)
set_option maxRecDepth 20000 in
theorem gX5_hour_X5_isPlate : GoodIn wsX5_hour (wsV RX5 65 RX5 yX5_isPlate wsX5_isPlate) := goodIn_app (goodIn_of _ (by decide +kernel)) ggX5_hour_X5_isPlate
set_option maxRecDepth 20000 in
theorem ggX5_hour_X5_refuse : GoodIn wsX5_hour wsX5_refuse := goodIn_r _ [11, 12, 64, 65, 66, 67, 68, 69, 70, 71, 72, 73] (by decide +kernel) (by decide +kernel)
set_option maxRecDepth 20000 in
theorem gX5_hour_X5_refuse : GoodIn wsX5_hour (wsV RX5 55 RX5 yX5_refuse wsX5_refuse) := goodIn_app (goodIn_of _ (by decide +kernel)) ggX5_hour_X5_refuse
set_option maxRecDepth 20000 in
theorem ggX5_hour_X0_choose : GoodIn wsX5_hour wsX0_choose := goodIn_r _ [17, 18, 19, 20, 21, 22, 23, 24, 25, 26, 27, 28, 29, 30, 31, 32, 33, 16, 34, 35, 36, 37, 38, 39, 40, 41, 42, 43, 44, 45, 46, 47, 48, 49, 50, 74, 75, 76, 77, 78, 79] (by decide +kernel) (by decide +kernel)
set_option maxRecDepth 20000 in
theorem gX5_hour_X0_choose : GoodIn wsX5_hour (wsV RX5 180 RX0 yX0_choose wsX0_choose) := goodIn_app (goodIn_of _ (by decide +kernel)) ggX5_hour_X0_choose
set_option maxRecDepth 20000 in
theorem ggX5_hour_X0_isChosen : GoodIn wsX5_hour wsX0_isChosen := goodIn_r _ [54, 27, 48, 49, 16, 50, 74, 75, 76, 77, 78, 79] (by decide +kernel) (by decide +kernel)
set_option maxRecDepth 20000 in
theorem gX5_hour_X0_isChosen : GoodIn wsX5_hour (wsV RX5 187 RX0 yX0_isChosen wsX0_isChosen) := goodIn_app (goodIn_of _ (by decide +kernel)) ggX5_hour_X0_isChosen
set_option maxRecDepth 20000 in
theorem ggX5_hour_X0_beginningOf : GoodIn wsX5_hour wsX0_beginningOf := goodIn_r _ [58, 24, 25, 59, 52, 53, 16, 54, 27, 48, 49, 50, 74, 75, 76, 77, 78, 79] (by decide +kernel) (by decide +kernel)
set_option maxRecDepth 20000 in
theorem gX5_hour_X0_beginningOf : GoodIn wsX5_hour (wsV RX5 190 RX0 yX0_beginningOf wsX0_beginningOf) := goodIn_app (goodIn_of _ (by decide +kernel)) ggX5_hour_X0_beginningOf
set_option maxRecDepth 20000 in
theorem ggX5_hour_X5_answer : GoodIn wsX5_hour wsX5_answer := goodIn_r _ [63, 12, 64, 65, 66, 67, 68, 69, 70, 71, 72, 73] (by decide +kernel) (by decide +kernel)
set_option maxRecDepth 20000 in
theorem gX5_hour_X5_answer : GoodIn wsX5_hour (wsV RX5 59 RX5 yX5_answer wsX5_answer) := goodIn_app (goodIn_of _ (by decide +kernel)) ggX5_hour_X5_answer
theorem dX5_hour_0 : decode cX5_hour 0 = .ok (.aload_n 0, 1) := by decide +kernel
theorem dX5_hour_1 : decode cX5_hour 1 = .ok (.iload_n 1, 1) := by decide +kernel
theorem dX5_hour_2 : decode cX5_hour 2 = .ok (.invokevirtual 65, 3) := by decide +kernel
theorem dX5_hour_5 : decode cX5_hour 5 = .ok (.ifCond .ne 9, 3) := by decide +kernel
theorem dX5_hour_8 : decode cX5_hour 8 = .ok (.aload_n 0, 1) := by decide +kernel
theorem dX5_hour_9 : decode cX5_hour 9 = .ok (.iconst 1, 1) := by decide +kernel
theorem dX5_hour_10 : decode cX5_hour 10 = .ok (.invokevirtual 55, 3) := by decide +kernel
theorem dX5_hour_13 : decode cX5_hour 13 = .ok (.ireturn, 1) := by decide +kernel
theorem dX5_hour_14 : decode cX5_hour 14 = .ok (.aload_n 0, 1) := by decide +kernel
theorem dX5_hour_15 : decode cX5_hour 15 = .ok (.getfield 33, 3) := by decide +kernel
theorem dX5_hour_18 : decode cX5_hour 18 = .ok (.aload_n 0, 1) := by decide +kernel
theorem dX5_hour_19 : decode cX5_hour 19 = .ok (.getfield 52, 3) := by decide +kernel
theorem dX5_hour_22 : decode cX5_hour 22 = .ok (.invokevirtual 180, 3) := by decide +kernel
theorem dX5_hour_25 : decode cX5_hour 25 = .ok (.aload_n 0, 1) := by decide +kernel
theorem dX5_hour_26 : decode cX5_hour 26 = .ok (.getfield 33, 3) := by decide +kernel
theorem dX5_hour_29 : decode cX5_hour 29 = .ok (.iload_n 1, 1) := by decide +kernel
theorem dX5_hour_30 : decode cX5_hour 30 = .ok (.invokevirtual 187, 3) := by decide +kernel
theorem dX5_hour_33 : decode cX5_hour 33 = .ok (.ifCond .ne 10, 3) := by decide +kernel
theorem dX5_hour_36 : decode cX5_hour 36 = .ok (.aload_n 0, 1) := by decide +kernel
theorem dX5_hour_37 : decode cX5_hour 37 = .ok (.bipush 8, 2) := by decide +kernel
theorem dX5_hour_39 : decode cX5_hour 39 = .ok (.invokevirtual 55, 3) := by decide +kernel
theorem dX5_hour_42 : decode cX5_hour 42 = .ok (.ireturn, 1) := by decide +kernel
theorem dX5_hour_43 : decode cX5_hour 43 = .ok (.aload_n 0, 1) := by decide +kernel
theorem dX5_hour_44 : decode cX5_hour 44 = .ok (.aload_n 0, 1) := by decide +kernel
theorem dX5_hour_45 : decode cX5_hour 45 = .ok (.getfield 33, 3) := by decide +kernel
theorem dX5_hour_48 : decode cX5_hour 48 = .ok (.iload_n 1, 1) := by decide +kernel
theorem dX5_hour_49 : decode cX5_hour 49 = .ok (.aload_n 0, 1) := by decide +kernel
theorem dX5_hour_50 : decode cX5_hour 50 = .ok (.getfield 52, 3) := by decide +kernel
theorem dX5_hour_53 : decode cX5_hour 53 = .ok (.invokevirtual 190, 3) := by decide +kernel
theorem dX5_hour_56 : decode cX5_hour 56 = .ok (.invokevirtual 59, 3) := by decide +kernel
theorem dX5_hour_59 : decode cX5_hour 59 = .ok (.ireturn, 1) := by decide +kernel
set_option maxRecDepth 20000 in
theorem ggX5_law_X5_isWithin : GoodIn wsX5_law wsX5_isWithin := goodIn_r _ [8] (by decide +kernel) (by decide +kernel)
set_option maxRecDepth 20000 in
theorem gX5_law_X5_isWithin : GoodIn wsX5_law (va_wsS RX5 100 yX5_isWithin wsX5_isWithin) := goodIn_app (goodIn_of _ (by decide +kernel)) ggX5_law_X5_isWithin
set_option maxRecDepth 20000 in
theorem ggX5_law_X5_whyNot : GoodIn wsX5_law wsX5_whyNot := goodIn_r _ [11] (by decide +kernel) (by decide +kernel)
set_option maxRecDepth 20000 in
theorem gX5_law_X5_whyNot : GoodIn wsX5_law (va_wsS RX5 114 yX5_whyNot wsX5_whyNot) := goodIn_app (goodIn_of _ (by decide +kernel)) ggX5_law_X5_whyNot
set_option maxRecDepth 20000 in
theorem ggX5_law_X3_hasAllLaws : GoodIn wsX5_law wsX3_hasAllLaws := goodIn_r _ [16, 17, 35, 36, 37, 38, 39, 40, 41] (by decide +kernel) (by decide +kernel)
set_option maxRecDepth 20000 in
theorem gX5_law_X3_hasAllLaws : GoodIn wsX5_law (wsV RX5 194 RX3 yX3_hasAllLaws wsX3_hasAllLaws) := goodIn_app (goodIn_of _ (by decide +kernel)) ggX5_law_X3_hasAllLaws
set_option maxRecDepth 20000 in
theorem ggX5_law_X3_addLaw : GoodIn wsX5_law wsX3_addLaw := goodIn_r _ [21, 22, 17, 23, 24, 13, 14, 15, 16, 35, 36, 37, 38, 39, 40, 41] (by decide +kernel) (by decide +kernel)
set_option maxRecDepth 20000 in
theorem gX5_law_X3_addLaw : GoodIn wsX5_law (wsV RX5 198 RX3 yX3_addLaw wsX3_addLaw) := goodIn_app (goodIn_of _ (by decide +kernel)) ggX5_law_X3_addLaw
theorem dX5_law_0 : decode cX5_law 0 = .ok (.iconst 1, 1) := by decide +kernel
theorem dX5_law_1 : decode cX5_law 1 = .ok (.iload_n 1, 1) := by decide +kernel
theorem dX5_law_2 : decode cX5_law 2 = .ok (.iconst 0, 1) := by decide +kernel
theorem dX5_law_3 : decode cX5_law 3 = .ok (.ldc 99, 2) := by decide +kernel
theorem dX5_law_5 : decode cX5_law 5 = .ok (.invokestatic 100, 3) := by decide +kernel
theorem dX5_law_8 : decode cX5_law 8 = .ok (.ifCond .eq 17, 3) := by decide +kernel
theorem dX5_law_11 : decode cX5_law 11 = .ok (.iload_n 2, 1) := by decide +kernel
theorem dX5_law_12 : decode cX5_law 12 = .ok (.iconst 0, 1) := by decide +kernel
theorem dX5_law_13 : decode cX5_law 13 = .ok (.ldc 193, 2) := by decide +kernel
theorem dX5_law_15 : decode cX5_law 15 = .ok (.invokestatic 100, 3) := by decide +kernel
theorem dX5_law_18 : decode cX5_law 18 = .ok (.ifCond .eq 7, 3) := by decide +kernel
theorem dX5_law_21 : decode cX5_law 21 = .ok (.iconst 1, 1) := by decide +kernel
theorem dX5_law_22 : decode cX5_law 22 = .ok (.goto 4, 3) := by decide +kernel
theorem dX5_law_25 : decode cX5_law 25 = .ok (.iconst 0, 1) := by decide +kernel
theorem dX5_law_26 : decode cX5_law 26 = .ok (.invokestatic 114, 3) := by decide +kernel
theorem dX5_law_29 : decode cX5_law 29 = .ok (.istore_n 3, 1) := by decide +kernel
theorem dX5_law_30 : decode cX5_law 30 = .ok (.iload_n 3, 1) := by decide +kernel
theorem dX5_law_31 : decode cX5_law 31 = .ok (.ifCond .ne 15, 3) := by decide +kernel
theorem dX5_law_34 : decode cX5_law 34 = .ok (.aload_n 0, 1) := by decide +kernel
theorem dX5_law_35 : decode cX5_law 35 = .ok (.getfield 40, 3) := by decide +kernel
theorem dX5_law_38 : decode cX5_law 38 = .ok (.invokevirtual 194, 3) := by decide +kernel
theorem dX5_law_41 : decode cX5_law 41 = .ok (.ifCond .eq 5, 3) := by decide +kernel
theorem dX5_law_44 : decode cX5_law 44 = .ok (.iconst 3, 1) := by decide +kernel
theorem dX5_law_45 : decode cX5_law 45 = .ok (.istore_n 3, 1) := by decide +kernel
theorem dX5_law_46 : decode cX5_law 46 = .ok (.aload_n 0, 1) := by decide +kernel
theorem dX5_law_47 : decode cX5_law 47 = .ok (.iload_n 3, 1) := by decide +kernel
theorem dX5_law_48 : decode cX5_law 48 = .ok (.putfield 48, 3) := by decide +kernel
theorem dX5_law_51 : decode cX5_law 51 = .ok (.iload_n 3, 1) := by decide +kernel
theorem dX5_law_52 : decode cX5_law 52 = .ok (.ifCond .eq 5, 3) := by decide +kernel
theorem dX5_law_55 : decode cX5_law 55 = .ok (.iconst 0, 1) := by decide +kernel
theorem dX5_law_56 : decode cX5_law 56 = .ok (.ireturn, 1) := by decide +kernel
theorem dX5_law_57 : decode cX5_law 57 = .ok (.aload_n 0, 1) := by decide +kernel
theorem dX5_law_58 : decode cX5_law 58 = .ok (.getfield 40, 3) := by decide +kernel
theorem dX5_law_61 : decode cX5_law 61 = .ok (.iload_n 1, 1) := by decide +kernel
theorem dX5_law_62 : decode cX5_law 62 = .ok (.iload_n 2, 1) := by decide +kernel
theorem dX5_law_63 : decode cX5_law 63 = .ok (.invokevirtual 198, 3) := by decide +kernel
theorem dX5_law_66 : decode cX5_law 66 = .ok (.iconst 1, 1) := by decide +kernel
theorem dX5_law_67 : decode cX5_law 67 = .ok (.ireturn, 1) := by decide +kernel
set_option maxRecDepth 20000 in
theorem ggX5_death_X5_isPlate : GoodIn wsX5_death wsX5_isPlate := goodIn_r _ [8, 9, 33, 34, 35, 36, 37, 38, 39, 40, 41, 42] (by decide +kernel) (by decide +kernel)
set_option maxRecDepth 20000 in
theorem gX5_death_X5_isPlate : GoodIn wsX5_death (wsV RX5 65 RX5 yX5_isPlate wsX5_isPlate) := goodIn_app (goodIn_of _ (by decide +kernel)) ggX5_death_X5_isPlate
set_option maxRecDepth 20000 in
theorem ggX5_death_X5_isWithin : GoodIn wsX5_death wsX5_isWithin := goodIn_r _ [12] (by decide +kernel) (by decide +kernel)
set_option maxRecDepth 20000 in
theorem gX5_death_X5_isWithin : GoodIn wsX5_death (va_wsS RX5 100 yX5_isWithin wsX5_isWithin) := goodIn_app (goodIn_of _ (by decide +kernel)) ggX5_death_X5_isWithin
set_option maxRecDepth 20000 in
theorem ggX5_death_X5_isDay : GoodIn wsX5_death wsX5_isDay := goodIn_r _ [15, 10, 11, 7, 12] (by decide +kernel) (by decide +kernel)
set_option maxRecDepth 20000 in
theorem gX5_death_X5_isDay : GoodIn wsX5_death (va_wsS RX5 72 yX5_isDay wsX5_isDay) := goodIn_app (goodIn_of _ (by decide +kernel)) ggX5_death_X5_isDay
set_option maxRecDepth 20000 in
theorem ggX5_death_X5_whyNot : GoodIn wsX5_death wsX5_whyNot := goodIn_r _ [18] (by decide +kernel) (by decide +kernel)
set_option maxRecDepth 20000 in
theorem gX5_death_X5_whyNot : GoodIn wsX5_death (va_wsS RX5 114 yX5_whyNot wsX5_whyNot) := goodIn_app (goodIn_of _ (by decide +kernel)) ggX5_death_X5_whyNot
set_option maxRecDepth 20000 in
theorem ggX5_death_X3_hasAllDeaths : GoodIn wsX5_death wsX3_hasAllDeaths := goodIn_r _ [23, 24, 43, 44, 45, 46, 47, 48, 49] (by decide +kernel) (by decide +kernel)
set_option maxRecDepth 20000 in
theorem gX5_death_X3_hasAllDeaths : GoodIn wsX5_death (wsV RX5 201 RX3 yX3_hasAllDeaths wsX3_hasAllDeaths) := goodIn_app (goodIn_of _ (by decide +kernel)) ggX5_death_X3_hasAllDeaths
set_option maxRecDepth 20000 in
theorem ggX5_death_X3_addDeath : GoodIn wsX5_death wsX3_addDeath := goodIn_r _ [28, 29, 24, 30, 31, 32, 20, 21, 22, 23, 43, 44, 45, 46, 47, 48, 49] (by decide +kernel) (by decide +kernel)
set_option maxRecDepth 20000 in
theorem gX5_death_X3_addDeath : GoodIn wsX5_death (wsV RX5 204 RX3 yX3_addDeath wsX3_addDeath) := goodIn_app (goodIn_of _ (by decide +kernel)) ggX5_death_X3_addDeath
theorem dX5_death_0 : decode cX5_death 0 = .ok (.aload_n 0, 1) := by decide +kernel
theorem dX5_death_1 : decode cX5_death 1 = .ok (.iload_n 1, 1) := by decide +kernel
theorem dX5_death_2 : decode cX5_death 2 = .ok (.invokevirtual 65, 3) := by decide +kernel
theorem dX5_death_5 : decode cX5_death 5 = .ok (.iload_n 2, 1) := by decide +kernel
theorem dX5_death_6 : decode cX5_death 6 = .ok (.iconst 0, 1) := by decide +kernel
theorem dX5_death_7 : decode cX5_death 7 = .ok (.ldc 99, 2) := by decide +kernel
theorem dX5_death_9 : decode cX5_death 9 = .ok (.invokestatic 100, 3) := by decide +kernel
theorem dX5_death_12 : decode cX5_death 12 = .ok (.ifCond .eq 14, 3) := by decide +kernel
theorem dX5_death_15 : decode cX5_death 15 = .ok (.iload_n 3, 1) := by decide +kernel
theorem dX5_death_16 : decode cX5_death 16 = .ok (.invokestatic 72, 3) := by decide +kernel
theorem dX5_death_19 : decode cX5_death 19 = .ok (.ifCond .eq 7, 3) := by decide +kernel
theorem dX5_death_22 : decode cX5_death 22 = .ok (.iconst 1, 1) := by decide +kernel
theorem dX5_death_23 : decode cX5_death 23 = .ok (.goto 4, 3) := by decide +kernel
theorem dX5_death_26 : decode cX5_death 26 = .ok (.iconst 0, 1) := by decide +kernel
theorem dX5_death_27 : decode cX5_death 27 = .ok (.invokestatic 114, 3) := by decide +kernel
theorem dX5_death_30 : decode cX5_death 30 = .ok (.istore 4, 2) := by decide +kernel
theorem dX5_death_32 : decode cX5_death 32 = .ok (.iload 4, 2) := by decide +kernel
theorem dX5_death_34 : decode cX5_death 34 = .ok (.ifCond .ne 16, 3) := by decide +kernel
theorem dX5_death_37 : decode cX5_death 37 = .ok (.aload_n 0, 1) := by decide +kernel
theorem dX5_death_38 : decode cX5_death 38 = .ok (.getfield 40, 3) := by decide +kernel
theorem dX5_death_41 : decode cX5_death 41 = .ok (.invokevirtual 201, 3) := by decide +kernel
theorem dX5_death_44 : decode cX5_death 44 = .ok (.ifCond .eq 6, 3) := by decide +kernel
theorem dX5_death_47 : decode cX5_death 47 = .ok (.iconst 3, 1) := by decide +kernel
theorem dX5_death_48 : decode cX5_death 48 = .ok (.istore 4, 2) := by decide +kernel
theorem dX5_death_50 : decode cX5_death 50 = .ok (.aload_n 0, 1) := by decide +kernel
theorem dX5_death_51 : decode cX5_death 51 = .ok (.iload 4, 2) := by decide +kernel
theorem dX5_death_53 : decode cX5_death 53 = .ok (.putfield 48, 3) := by decide +kernel
theorem dX5_death_56 : decode cX5_death 56 = .ok (.iload 4, 2) := by decide +kernel
theorem dX5_death_58 : decode cX5_death 58 = .ok (.ifCond .eq 5, 3) := by decide +kernel
theorem dX5_death_61 : decode cX5_death 61 = .ok (.iconst 0, 1) := by decide +kernel
theorem dX5_death_62 : decode cX5_death 62 = .ok (.ireturn, 1) := by decide +kernel
theorem dX5_death_63 : decode cX5_death 63 = .ok (.aload_n 0, 1) := by decide +kernel
theorem dX5_death_64 : decode cX5_death 64 = .ok (.getfield 40, 3) := by decide +kernel
theorem dX5_death_67 : decode cX5_death 67 = .ok (.iload_n 1, 1) := by decide +kernel
theorem dX5_death_68 : decode cX5_death 68 = .ok (.iload_n 2, 1) := by decide +kernel
theorem dX5_death_69 : decode cX5_death 69 = .ok (.iload_n 3, 1) := by decide +kernel
theorem dX5_death_70 : decode cX5_death 70 = .ok (.invokevirtual 204, 3) := by decide +kernel
theorem dX5_death_73 : decode cX5_death 73 = .ok (.iconst 1, 1) := by decide +kernel
theorem dX5_death_74 : decode cX5_death 74 = .ok (.ireturn, 1) := by decide +kernel
set_option maxRecDepth 20000 in
theorem ggX5_free_X5_isPlate : GoodIn wsX5_free wsX5_isPlate := goodIn_r _ [7, 8, 47, 48, 49, 50, 51, 52, 53, 54, 55, 56] (by decide +kernel) (by decide +kernel)
set_option maxRecDepth 20000 in
theorem gX5_free_X5_isPlate : GoodIn wsX5_free (wsV RX5 65 RX5 yX5_isPlate wsX5_isPlate) := goodIn_app (goodIn_of _ (by decide +kernel)) ggX5_free_X5_isPlate
set_option maxRecDepth 20000 in
theorem ggX5_free_X5_isWithin : GoodIn wsX5_free wsX5_isWithin := goodIn_r _ [11] (by decide +kernel) (by decide +kernel)
set_option maxRecDepth 20000 in
theorem gX5_free_X5_isWithin : GoodIn wsX5_free (va_wsS RX5 100 yX5_isWithin wsX5_isWithin) := goodIn_app (goodIn_of _ (by decide +kernel)) ggX5_free_X5_isWithin
set_option maxRecDepth 20000 in
theorem ggX5_free_X5_isDay : GoodIn wsX5_free wsX5_isDay := goodIn_r _ [14, 9, 10, 6, 11] (by decide +kernel) (by decide +kernel)
set_option maxRecDepth 20000 in
theorem gX5_free_X5_isDay : GoodIn wsX5_free (va_wsS RX5 72 yX5_isDay wsX5_isDay) := goodIn_app (goodIn_of _ (by decide +kernel)) ggX5_free_X5_isDay
set_option maxRecDepth 20000 in
theorem ggX5_free_X5_whyNot : GoodIn wsX5_free wsX5_whyNot := goodIn_r _ [17] (by decide +kernel) (by decide +kernel)
set_option maxRecDepth 20000 in
theorem gX5_free_X5_whyNot : GoodIn wsX5_free (va_wsS RX5 114 yX5_whyNot wsX5_whyNot) := goodIn_app (goodIn_of _ (by decide +kernel)) ggX5_free_X5_whyNot
set_option maxRecDepth 20000 in
theorem ggX5_free_X5_refuse : GoodIn wsX5_free wsX5_refuse := goodIn_r _ [21, 22, 47, 48, 49, 50, 51, 52, 53, 54, 55, 56] (by decide +kernel) (by decide +kernel)
set_option maxRecDepth 20000 in
theorem gX5_free_X5_refuse : GoodIn wsX5_free (wsV RX5 55 RX5 yX5_refuse wsX5_refuse) := goodIn_app (goodIn_of _ (by decide +kernel)) ggX5_free_X5_refuse
set_option maxRecDepth 20000 in
theorem ggX5_free_X3_isFreeOn : GoodIn wsX5_free wsX3_isFreeOn := goodIn_r _ [27, 28, 29, 30, 31, 32, 26, 33, 34, 35, 36, 37, 38, 39, 40, 41, 42, 57, 58, 59, 60, 61, 62, 63] (by decide +kernel) (by decide +kernel)
set_option maxRecDepth 20000 in
theorem gX5_free_X3_isFreeOn : GoodIn wsX5_free (wsV RX5 208 RX3 yX3_isFreeOn wsX3_isFreeOn) := goodIn_app (goodIn_of _ (by decide +kernel)) ggX5_free_X3_isFreeOn
set_option maxRecDepth 20000 in
theorem ggX5_free_X5_answer : GoodIn wsX5_free wsX5_answer := goodIn_r _ [46, 22, 47, 48, 49, 50, 51, 52, 53, 54, 55, 56] (by decide +kernel) (by decide +kernel)
set_option maxRecDepth 20000 in
theorem gX5_free_X5_answer : GoodIn wsX5_free (wsV RX5 59 RX5 yX5_answer wsX5_answer) := goodIn_app (goodIn_of _ (by decide +kernel)) ggX5_free_X5_answer
theorem dX5_free_0 : decode cX5_free 0 = .ok (.aload_n 0, 1) := by decide +kernel
theorem dX5_free_1 : decode cX5_free 1 = .ok (.iload_n 1, 1) := by decide +kernel
theorem dX5_free_2 : decode cX5_free 2 = .ok (.invokevirtual 65, 3) := by decide +kernel
theorem dX5_free_5 : decode cX5_free 5 = .ok (.iload_n 2, 1) := by decide +kernel
theorem dX5_free_6 : decode cX5_free 6 = .ok (.iconst 0, 1) := by decide +kernel
theorem dX5_free_7 : decode cX5_free 7 = .ok (.ldc 207, 2) := by decide +kernel
theorem dX5_free_9 : decode cX5_free 9 = .ok (.invokestatic 100, 3) := by decide +kernel
theorem dX5_free_12 : decode cX5_free 12 = .ok (.ifCond .eq 14, 3) := by decide +kernel
theorem dX5_free_15 : decode cX5_free 15 = .ok (.iload_n 3, 1) := by decide +kernel
theorem dX5_free_16 : decode cX5_free 16 = .ok (.invokestatic 72, 3) := by decide +kernel
theorem dX5_free_19 : decode cX5_free 19 = .ok (.ifCond .eq 7, 3) := by decide +kernel
theorem dX5_free_22 : decode cX5_free 22 = .ok (.iconst 1, 1) := by decide +kernel
theorem dX5_free_23 : decode cX5_free 23 = .ok (.goto 4, 3) := by decide +kernel
theorem dX5_free_26 : decode cX5_free 26 = .ok (.iconst 0, 1) := by decide +kernel
theorem dX5_free_27 : decode cX5_free 27 = .ok (.invokestatic 114, 3) := by decide +kernel
theorem dX5_free_30 : decode cX5_free 30 = .ok (.istore 4, 2) := by decide +kernel
theorem dX5_free_32 : decode cX5_free 32 = .ok (.iload 4, 2) := by decide +kernel
theorem dX5_free_34 : decode cX5_free 34 = .ok (.ifCond .eq 10, 3) := by decide +kernel
theorem dX5_free_37 : decode cX5_free 37 = .ok (.aload_n 0, 1) := by decide +kernel
theorem dX5_free_38 : decode cX5_free 38 = .ok (.iload 4, 2) := by decide +kernel
theorem dX5_free_40 : decode cX5_free 40 = .ok (.invokevirtual 55, 3) := by decide +kernel
theorem dX5_free_43 : decode cX5_free 43 = .ok (.ireturn, 1) := by decide +kernel
theorem dX5_free_44 : decode cX5_free 44 = .ok (.aload_n 0, 1) := by decide +kernel
theorem dX5_free_45 : decode cX5_free 45 = .ok (.aload_n 0, 1) := by decide +kernel
theorem dX5_free_46 : decode cX5_free 46 = .ok (.getfield 40, 3) := by decide +kernel
theorem dX5_free_49 : decode cX5_free 49 = .ok (.iload_n 1, 1) := by decide +kernel
theorem dX5_free_50 : decode cX5_free 50 = .ok (.iload_n 2, 1) := by decide +kernel
theorem dX5_free_51 : decode cX5_free 51 = .ok (.iload_n 3, 1) := by decide +kernel
theorem dX5_free_52 : decode cX5_free 52 = .ok (.invokevirtual 208, 3) := by decide +kernel
theorem dX5_free_55 : decode cX5_free 55 = .ok (.ifCond .eq 7, 3) := by decide +kernel
theorem dX5_free_58 : decode cX5_free 58 = .ok (.iconst 1, 1) := by decide +kernel
theorem dX5_free_59 : decode cX5_free 59 = .ok (.goto 4, 3) := by decide +kernel
theorem dX5_free_62 : decode cX5_free 62 = .ok (.iconst 0, 1) := by decide +kernel
theorem dX5_free_63 : decode cX5_free 63 = .ok (.invokevirtual 59, 3) := by decide +kernel
theorem dX5_free_66 : decode cX5_free 66 = .ok (.ireturn, 1) := by decide +kernel
theorem dX5_refuse_0 : decode cX5_refuse 0 = .ok (.aload_n 0, 1) := by decide +kernel
theorem dX5_refuse_1 : decode cX5_refuse 1 = .ok (.iload_n 1, 1) := by decide +kernel
theorem dX5_refuse_2 : decode cX5_refuse 2 = .ok (.putfield 48, 3) := by decide +kernel
theorem dX5_refuse_5 : decode cX5_refuse 5 = .ok (.iconst (-1), 1) := by decide +kernel
theorem dX5_refuse_6 : decode cX5_refuse 6 = .ok (.ireturn, 1) := by decide +kernel
theorem dX5_answer_0 : decode cX5_answer 0 = .ok (.aload_n 0, 1) := by decide +kernel
theorem dX5_answer_1 : decode cX5_answer 1 = .ok (.iconst 0, 1) := by decide +kernel
theorem dX5_answer_2 : decode cX5_answer 2 = .ok (.putfield 48, 3) := by decide +kernel
theorem dX5_answer_5 : decode cX5_answer 5 = .ok (.iload_n 1, 1) := by decide +kernel
theorem dX5_answer_6 : decode cX5_answer 6 = .ok (.ireturn, 1) := by decide +kernel
theorem dX5_whyNot_0 : decode cX5_whyNot 0 = .ok (.iload_n 0, 1) := by decide +kernel
theorem dX5_whyNot_1 : decode cX5_whyNot 1 = .ok (.ifCond .ne 5, 3) := by decide +kernel
theorem dX5_whyNot_4 : decode cX5_whyNot 4 = .ok (.iconst 1, 1) := by decide +kernel
theorem dX5_whyNot_5 : decode cX5_whyNot 5 = .ok (.ireturn, 1) := by decide +kernel
theorem dX5_whyNot_6 : decode cX5_whyNot 6 = .ok (.iload_n 1, 1) := by decide +kernel
theorem dX5_whyNot_7 : decode cX5_whyNot 7 = .ok (.ifCond .eq 7, 3) := by decide +kernel
theorem dX5_whyNot_10 : decode cX5_whyNot 10 = .ok (.iconst 0, 1) := by decide +kernel
theorem dX5_whyNot_11 : decode cX5_whyNot 11 = .ok (.goto 4, 3) := by decide +kernel
theorem dX5_whyNot_14 : decode cX5_whyNot 14 = .ok (.iconst 2, 1) := by decide +kernel
theorem dX5_whyNot_15 : decode cX5_whyNot 15 = .ok (.ireturn, 1) := by decide +kernel
set_option maxRecDepth 20000 in
theorem ggX5_whyNoFact_X5_whyNot : GoodIn wsX5_whyNoFact wsX5_whyNot := goodIn_r _ [5] (by decide +kernel) (by decide +kernel)
set_option maxRecDepth 20000 in
theorem gX5_whyNoFact_X5_whyNot : GoodIn wsX5_whyNoFact (va_wsS RX5 114 yX5_whyNot wsX5_whyNot) := goodIn_app (goodIn_of _ (by decide +kernel)) ggX5_whyNoFact_X5_whyNot
set_option maxRecDepth 20000 in
theorem ggX5_whyNoFact_X2_isFull : GoodIn wsX5_whyNoFact wsX2_isFull := goodIn_r _ [10, 11, 22, 23, 24, 25, 26, 27, 28, 29] (by decide +kernel) (by decide +kernel)
set_option maxRecDepth 20000 in
theorem gX5_whyNoFact_X2_isFull : GoodIn wsX5_whyNoFact (wsV RX5 211 RX2 yX2_isFull wsX2_isFull) := goodIn_app (goodIn_of _ (by decide +kernel)) ggX5_whyNoFact_X2_isFull
theorem dX5_whyNoFact_0 : decode cX5_whyNoFact 0 = .ok (.iload_n 1, 1) := by decide +kernel
theorem dX5_whyNoFact_1 : decode cX5_whyNoFact 1 = .ok (.iload_n 2, 1) := by decide +kernel
theorem dX5_whyNoFact_2 : decode cX5_whyNoFact 2 = .ok (.invokestatic 114, 3) := by decide +kernel
theorem dX5_whyNoFact_5 : decode cX5_whyNoFact 5 = .ok (.istore_n 3, 1) := by decide +kernel
theorem dX5_whyNoFact_6 : decode cX5_whyNoFact 6 = .ok (.iload_n 3, 1) := by decide +kernel
theorem dX5_whyNoFact_7 : decode cX5_whyNoFact 7 = .ok (.ifCond .ne 17, 3) := by decide +kernel
theorem dX5_whyNoFact_10 : decode cX5_whyNoFact 10 = .ok (.aload_n 0, 1) := by decide +kernel
theorem dX5_whyNoFact_11 : decode cX5_whyNoFact 11 = .ok (.getfield 12, 3) := by decide +kernel
theorem dX5_whyNoFact_14 : decode cX5_whyNoFact 14 = .ok (.invokevirtual 211, 3) := by decide +kernel
theorem dX5_whyNoFact_17 : decode cX5_whyNoFact 17 = .ok (.ifCond .eq 7, 3) := by decide +kernel
theorem dX5_whyNoFact_20 : decode cX5_whyNoFact 20 = .ok (.iconst 3, 1) := by decide +kernel
theorem dX5_whyNoFact_21 : decode cX5_whyNoFact 21 = .ok (.goto 4, 3) := by decide +kernel
theorem dX5_whyNoFact_24 : decode cX5_whyNoFact 24 = .ok (.iload_n 3, 1) := by decide +kernel
theorem dX5_whyNoFact_25 : decode cX5_whyNoFact 25 = .ok (.ireturn, 1) := by decide +kernel
set_option maxRecDepth 20000 in
theorem ggX5_whyNoRow_X5_isSet : GoodIn wsX5_whyNoRow wsX5_isSet := goodIn_r _ [6, 7, 42, 43, 44, 45, 46, 47, 48, 49, 50, 51] (by decide +kernel) (by decide +kernel)
set_option maxRecDepth 20000 in
theorem gX5_whyNoRow_X5_isSet : GoodIn wsX5_whyNoRow (wsV RX5 170 RX5 yX5_isSet wsX5_isSet) := goodIn_app (goodIn_of _ (by decide +kernel)) ggX5_whyNoRow_X5_isSet
set_option maxRecDepth 20000 in
theorem ggX5_whyNoRow_X1_fewestRows : GoodIn wsX5_whyNoRow wsX1_fewestRows := goodIn_r _ [12, 13, 14, 15, 16, 17, 18, 19, 11, 20, 21, 22, 23, 24, 25, 26, 27, 28, 29, 30, 31, 32, 33, 34, 35, 36, 37, 38, 39, 40, 41, 52, 53, 54, 55, 56] (by decide +kernel) (by decide +kernel)
set_option maxRecDepth 20000 in
theorem gX5_whyNoRow_X1_fewestRows : GoodIn wsX5_whyNoRow (wsV RX5 173 RX1 yX1_fewestRows wsX1_fewestRows) := goodIn_app (goodIn_of _ (by decide +kernel)) ggX5_whyNoRow_X1_fewestRows
theorem dX5_whyNoRow_0 : decode cX5_whyNoRow 0 = .ok (.iload_n 1, 1) := by decide +kernel
theorem dX5_whyNoRow_1 : decode cX5_whyNoRow 1 = .ok (.ifCond .eq 11, 3) := by decide +kernel
theorem dX5_whyNoRow_4 : decode cX5_whyNoRow 4 = .ok (.aload_n 0, 1) := by decide +kernel
theorem dX5_whyNoRow_5 : decode cX5_whyNoRow 5 = .ok (.iload_n 1, 1) := by decide +kernel
theorem dX5_whyNoRow_6 : decode cX5_whyNoRow 6 = .ok (.invokevirtual 170, 3) := by decide +kernel
theorem dX5_whyNoRow_9 : decode cX5_whyNoRow 9 = .ok (.ifCond .ne 5, 3) := by decide +kernel
theorem dX5_whyNoRow_12 : decode cX5_whyNoRow 12 = .ok (.iconst 2, 1) := by decide +kernel
theorem dX5_whyNoRow_13 : decode cX5_whyNoRow 13 = .ok (.ireturn, 1) := by decide +kernel
theorem dX5_whyNoRow_14 : decode cX5_whyNoRow 14 = .ok (.aload_n 0, 1) := by decide +kernel
theorem dX5_whyNoRow_15 : decode cX5_whyNoRow 15 = .ok (.getfield 26, 3) := by decide +kernel
theorem dX5_whyNoRow_18 : decode cX5_whyNoRow 18 = .ok (.iload_n 1, 1) := by decide +kernel
theorem dX5_whyNoRow_19 : decode cX5_whyNoRow 19 = .ok (.invokevirtual 173, 3) := by decide +kernel
theorem dX5_whyNoRow_22 : decode cX5_whyNoRow 22 = .ok (.iconst 1, 1) := by decide +kernel
theorem dX5_whyNoRow_23 : decode cX5_whyNoRow 23 = .ok (.if_icmp .ne 7, 3) := by decide +kernel
theorem dX5_whyNoRow_26 : decode cX5_whyNoRow 26 = .ok (.iconst 0, 1) := by decide +kernel
theorem dX5_whyNoRow_27 : decode cX5_whyNoRow 27 = .ok (.goto 5, 3) := by decide +kernel
theorem dX5_whyNoRow_30 : decode cX5_whyNoRow 30 = .ok (.bipush 7, 2) := by decide +kernel
theorem dX5_whyNoRow_32 : decode cX5_whyNoRow 32 = .ok (.ireturn, 1) := by decide +kernel
theorem dX5_isWithin_0 : decode cX5_isWithin 0 = .ok (.iload_n 0, 1) := by decide +kernel
theorem dX5_isWithin_1 : decode cX5_isWithin 1 = .ok (.iload_n 1, 1) := by decide +kernel
theorem dX5_isWithin_2 : decode cX5_isWithin 2 = .ok (.if_icmp .lt 12, 3) := by decide +kernel
theorem dX5_isWithin_5 : decode cX5_isWithin 5 = .ok (.iload_n 0, 1) := by decide +kernel
theorem dX5_isWithin_6 : decode cX5_isWithin 6 = .ok (.iload_n 2, 1) := by decide +kernel
theorem dX5_isWithin_7 : decode cX5_isWithin 7 = .ok (.if_icmp .gt 7, 3) := by decide +kernel
theorem dX5_isWithin_10 : decode cX5_isWithin 10 = .ok (.iconst 1, 1) := by decide +kernel
theorem dX5_isWithin_11 : decode cX5_isWithin 11 = .ok (.goto 4, 3) := by decide +kernel
theorem dX5_isWithin_14 : decode cX5_isWithin 14 = .ok (.iconst 0, 1) := by decide +kernel
theorem dX5_isWithin_15 : decode cX5_isWithin 15 = .ok (.ireturn, 1) := by decide +kernel
set_option maxRecDepth 20000 in
theorem ggX5_isDay_X5_isWithin : GoodIn wsX5_isDay wsX5_isWithin := goodIn_r _ [4] (by decide +kernel) (by decide +kernel)
set_option maxRecDepth 20000 in
theorem gX5_isDay_X5_isWithin : GoodIn wsX5_isDay (va_wsS RX5 100 yX5_isWithin wsX5_isWithin) := goodIn_app (goodIn_of _ (by decide +kernel)) ggX5_isDay_X5_isWithin
theorem dX5_isDay_0 : decode cX5_isDay 0 = .ok (.iload_n 0, 1) := by decide +kernel
theorem dX5_isDay_1 : decode cX5_isDay 1 = .ok (.iconst 0, 1) := by decide +kernel
theorem dX5_isDay_2 : decode cX5_isDay 2 = .ok (.sipush 9999, 3) := by decide +kernel
theorem dX5_isDay_5 : decode cX5_isDay 5 = .ok (.invokestatic 100, 3) := by decide +kernel
theorem dX5_isDay_8 : decode cX5_isDay 8 = .ok (.ireturn, 1) := by decide +kernel
theorem dX5_isTimeRange_0 : decode cX5_isTimeRange 0 = .ok (.iload_n 0, 1) := by decide +kernel
theorem dX5_isTimeRange_1 : decode cX5_isTimeRange 1 = .ok (.ifCond .lt 18, 3) := by decide +kernel
theorem dX5_isTimeRange_4 : decode cX5_isTimeRange 4 = .ok (.iload_n 0, 1) := by decide +kernel
theorem dX5_isTimeRange_5 : decode cX5_isTimeRange 5 = .ok (.iload_n 1, 1) := by decide +kernel
theorem dX5_isTimeRange_6 : decode cX5_isTimeRange 6 = .ok (.if_icmp .gt 13, 3) := by decide +kernel
theorem dX5_isTimeRange_9 : decode cX5_isTimeRange 9 = .ok (.iload_n 1, 1) := by decide +kernel
theorem dX5_isTimeRange_10 : decode cX5_isTimeRange 10 = .ok (.ldc 99, 2) := by decide +kernel
theorem dX5_isTimeRange_12 : decode cX5_isTimeRange 12 = .ok (.if_icmp .gt 7, 3) := by decide +kernel
theorem dX5_isTimeRange_15 : decode cX5_isTimeRange 15 = .ok (.iconst 1, 1) := by decide +kernel
theorem dX5_isTimeRange_16 : decode cX5_isTimeRange 16 = .ok (.goto 4, 3) := by decide +kernel
theorem dX5_isTimeRange_19 : decode cX5_isTimeRange 19 = .ok (.iconst 0, 1) := by decide +kernel
theorem dX5_isTimeRange_20 : decode cX5_isTimeRange 20 = .ok (.ireturn, 1) := by decide +kernel
theorem dX5_isPlate_0 : decode cX5_isPlate 0 = .ok (.iload_n 1, 1) := by decide +kernel
theorem dX5_isPlate_1 : decode cX5_isPlate 1 = .ok (.ifCond .lt 15, 3) := by decide +kernel
theorem dX5_isPlate_4 : decode cX5_isPlate 4 = .ok (.iload_n 1, 1) := by decide +kernel
theorem dX5_isPlate_5 : decode cX5_isPlate 5 = .ok (.aload_n 0, 1) := by decide +kernel
theorem dX5_isPlate_6 : decode cX5_isPlate 6 = .ok (.getfield 52, 3) := by decide +kernel
theorem dX5_isPlate_9 : decode cX5_isPlate 9 = .ok (.if_icmp .ge 7, 3) := by decide +kernel
theorem dX5_isPlate_12 : decode cX5_isPlate 12 = .ok (.iconst 1, 1) := by decide +kernel
theorem dX5_isPlate_13 : decode cX5_isPlate 13 = .ok (.goto 4, 3) := by decide +kernel
theorem dX5_isPlate_16 : decode cX5_isPlate 16 = .ok (.iconst 0, 1) := by decide +kernel
theorem dX5_isPlate_17 : decode cX5_isPlate 17 = .ok (.ireturn, 1) := by decide +kernel
theorem dX5_isMotif_0 : decode cX5_isMotif 0 = .ok (.iload_n 1, 1) := by decide +kernel
theorem dX5_isMotif_1 : decode cX5_isMotif 1 = .ok (.ifCond .lt 15, 3) := by decide +kernel
theorem dX5_isMotif_4 : decode cX5_isMotif 4 = .ok (.iload_n 1, 1) := by decide +kernel
theorem dX5_isMotif_5 : decode cX5_isMotif 5 = .ok (.aload_n 0, 1) := by decide +kernel
theorem dX5_isMotif_6 : decode cX5_isMotif 6 = .ok (.getfield 62, 3) := by decide +kernel
theorem dX5_isMotif_9 : decode cX5_isMotif 9 = .ok (.if_icmp .ge 7, 3) := by decide +kernel
theorem dX5_isMotif_12 : decode cX5_isMotif 12 = .ok (.iconst 1, 1) := by decide +kernel
theorem dX5_isMotif_13 : decode cX5_isMotif 13 = .ok (.goto 4, 3) := by decide +kernel
theorem dX5_isMotif_16 : decode cX5_isMotif 16 = .ok (.iconst 0, 1) := by decide +kernel
theorem dX5_isMotif_17 : decode cX5_isMotif 17 = .ok (.ireturn, 1) := by decide +kernel
set_option maxRecDepth 20000 in
theorem ggX5_areTwoPlates_X5_isPlate : GoodIn wsX5_areTwoPlates wsX5_isPlate := goodIn_r _ [5, 6, 7, 8, 9, 10, 11, 12, 13, 14, 15, 16] (by decide +kernel) (by decide +kernel)
set_option maxRecDepth 20000 in
theorem gX5_areTwoPlates_X5_isPlate : GoodIn wsX5_areTwoPlates (wsV RX5 65 RX5 yX5_isPlate wsX5_isPlate) := goodIn_app (goodIn_of _ (by decide +kernel)) ggX5_areTwoPlates_X5_isPlate
theorem dX5_areTwoPlates_0 : decode cX5_areTwoPlates 0 = .ok (.aload_n 0, 1) := by decide +kernel
theorem dX5_areTwoPlates_1 : decode cX5_areTwoPlates 1 = .ok (.iload_n 1, 1) := by decide +kernel
theorem dX5_areTwoPlates_2 : decode cX5_areTwoPlates 2 = .ok (.invokevirtual 65, 3) := by decide +kernel
theorem dX5_areTwoPlates_5 : decode cX5_areTwoPlates 5 = .ok (.ifCond .eq 20, 3) := by decide +kernel
theorem dX5_areTwoPlates_8 : decode cX5_areTwoPlates 8 = .ok (.aload_n 0, 1) := by decide +kernel
theorem dX5_areTwoPlates_9 : decode cX5_areTwoPlates 9 = .ok (.iload_n 2, 1) := by decide +kernel
theorem dX5_areTwoPlates_10 : decode cX5_areTwoPlates 10 = .ok (.invokevirtual 65, 3) := by decide +kernel
theorem dX5_areTwoPlates_13 : decode cX5_areTwoPlates 13 = .ok (.ifCond .eq 12, 3) := by decide +kernel
theorem dX5_areTwoPlates_16 : decode cX5_areTwoPlates 16 = .ok (.iload_n 1, 1) := by decide +kernel
theorem dX5_areTwoPlates_17 : decode cX5_areTwoPlates 17 = .ok (.iload_n 2, 1) := by decide +kernel
theorem dX5_areTwoPlates_18 : decode cX5_areTwoPlates 18 = .ok (.if_icmp .eq 7, 3) := by decide +kernel
theorem dX5_areTwoPlates_21 : decode cX5_areTwoPlates 21 = .ok (.iconst 1, 1) := by decide +kernel
theorem dX5_areTwoPlates_22 : decode cX5_areTwoPlates 22 = .ok (.goto 4, 3) := by decide +kernel
theorem dX5_areTwoPlates_25 : decode cX5_areTwoPlates 25 = .ok (.iconst 0, 1) := by decide +kernel
theorem dX5_areTwoPlates_26 : decode cX5_areTwoPlates 26 = .ok (.ireturn, 1) := by decide +kernel
theorem dX5_isSet_0 : decode cX5_isSet 0 = .ok (.iconst 1, 1) := by decide +kernel
theorem dX5_isSet_1 : decode cX5_isSet 1 = .ok (.aload_n 0, 1) := by decide +kernel
theorem dX5_isSet_2 : decode cX5_isSet 2 = .ok (.getfield 52, 3) := by decide +kernel
theorem dX5_isSet_5 : decode cX5_isSet 5 = .ok (.ishl, 1) := by decide +kernel
theorem dX5_isSet_6 : decode cX5_isSet 6 = .ok (.iconst 1, 1) := by decide +kernel
theorem dX5_isSet_7 : decode cX5_isSet 7 = .ok (.isub, 1) := by decide +kernel
theorem dX5_isSet_8 : decode cX5_isSet 8 = .ok (.istore_n 2, 1) := by decide +kernel
theorem dX5_isSet_9 : decode cX5_isSet 9 = .ok (.iload_n 1, 1) := by decide +kernel
theorem dX5_isSet_10 : decode cX5_isSet 10 = .ok (.iload_n 2, 1) := by decide +kernel
theorem dX5_isSet_11 : decode cX5_isSet 11 = .ok (.iconst (-1), 1) := by decide +kernel
theorem dX5_isSet_12 : decode cX5_isSet 12 = .ok (.ixor, 1) := by decide +kernel
theorem dX5_isSet_13 : decode cX5_isSet 13 = .ok (.iand, 1) := by decide +kernel
theorem dX5_isSet_14 : decode cX5_isSet 14 = .ok (.ifCond .ne 7, 3) := by decide +kernel
theorem dX5_isSet_17 : decode cX5_isSet 17 = .ok (.iconst 1, 1) := by decide +kernel
theorem dX5_isSet_18 : decode cX5_isSet 18 = .ok (.goto 4, 3) := by decide +kernel
theorem dX5_isSet_21 : decode cX5_isSet 21 = .ok (.iconst 0, 1) := by decide +kernel
theorem dX5_isSet_22 : decode cX5_isSet 22 = .ok (.ireturn, 1) := by decide +kernel
theorem dX5_platePoint_0 : decode cX5_platePoint 0 = .ok (.iconst 1, 1) := by decide +kernel
theorem dX5_platePoint_1 : decode cX5_platePoint 1 = .ok (.iload_n 0, 1) := by decide +kernel
theorem dX5_platePoint_2 : decode cX5_platePoint 2 = .ok (.iadd, 1) := by decide +kernel
theorem dX5_platePoint_3 : decode cX5_platePoint 3 = .ok (.ireturn, 1) := by decide +kernel
theorem dX5_motifPoint_0 : decode cX5_motifPoint 0 = .ok (.bipush 21, 2) := by decide +kernel
theorem dX5_motifPoint_2 : decode cX5_motifPoint 2 = .ok (.iconst 2, 1) := by decide +kernel
theorem dX5_motifPoint_3 : decode cX5_motifPoint 3 = .ok (.iload_n 0, 1) := by decide +kernel
theorem dX5_motifPoint_4 : decode cX5_motifPoint 4 = .ok (.imul, 1) := by decide +kernel
theorem dX5_motifPoint_5 : decode cX5_motifPoint 5 = .ok (.iadd, 1) := by decide +kernel
theorem dX5_motifPoint_6 : decode cX5_motifPoint 6 = .ok (.iload_n 1, 1) := by decide +kernel
theorem dX5_motifPoint_7 : decode cX5_motifPoint 7 = .ok (.ifCond .eq 7, 3) := by decide +kernel
theorem dX5_motifPoint_10 : decode cX5_motifPoint 10 = .ok (.iconst 1, 1) := by decide +kernel
theorem dX5_motifPoint_11 : decode cX5_motifPoint 11 = .ok (.goto 4, 3) := by decide +kernel
theorem dX5_motifPoint_14 : decode cX5_motifPoint 14 = .ok (.iconst 0, 1) := by decide +kernel
theorem dX5_motifPoint_15 : decode cX5_motifPoint 15 = .ok (.iadd, 1) := by decide +kernel
theorem dX5_motifPoint_16 : decode cX5_motifPoint 16 = .ok (.ireturn, 1) := by decide +kernel
set_option maxRecDepth 20000 in
theorem ggX5_tellRange_X2_tell : GoodIn wsX5_tellRange wsX2_tell := goodIn_r _ [6, 7, 8, 9, 10, 11, 12, 13, 5, 14, 39, 40, 41, 42, 43, 44, 45, 46] (by decide +kernel) (by decide +kernel)
set_option maxRecDepth 20000 in
theorem gX5_tellRange_X2_tell : GoodIn wsX5_tellRange (wsV RX5 79 RX2 yX2_tell wsX2_tell) := goodIn_app (goodIn_of _ (by decide +kernel)) ggX5_tellRange_X2_tell
set_option maxRecDepth 20000 in
theorem ggX5_tellRange_X2_addLimit : GoodIn wsX5_tellRange wsX2_addLimit := goodIn_r _ [18, 8, 19, 20, 21, 22, 39, 40, 41, 42, 43, 44, 45, 46] (by decide +kernel) (by decide +kernel)
set_option maxRecDepth 20000 in
theorem gX5_tellRange_X2_addLimit : GoodIn wsX5_tellRange (wsV RX5 90 RX2 yX2_addLimit wsX2_addLimit) := goodIn_app (goodIn_of _ (by decide +kernel)) ggX5_tellRange_X2_addLimit
set_option maxRecDepth 20000 in
theorem ggX5_tellRange_X5_answer : GoodIn wsX5_tellRange wsX5_answer := goodIn_r _ [27, 28, 29, 30, 31, 32, 33, 34, 35, 36, 37, 38] (by decide +kernel) (by decide +kernel)
set_option maxRecDepth 20000 in
theorem gX5_tellRange_X5_answer : GoodIn wsX5_tellRange (wsV RX5 59 RX5 yX5_answer wsX5_answer) := goodIn_app (goodIn_of _ (by decide +kernel)) ggX5_tellRange_X5_answer
theorem dX5_tellRange_0 : decode cX5_tellRange 0 = .ok (.aload_n 0, 1) := by decide +kernel
theorem dX5_tellRange_1 : decode cX5_tellRange 1 = .ok (.getfield 12, 3) := by decide +kernel
theorem dX5_tellRange_4 : decode cX5_tellRange 4 = .ok (.iload_n 1, 1) := by decide +kernel
theorem dX5_tellRange_5 : decode cX5_tellRange 5 = .ok (.iload 5, 2) := by decide +kernel
theorem dX5_tellRange_7 : decode cX5_tellRange 7 = .ok (.invokevirtual 79, 3) := by decide +kernel
theorem dX5_tellRange_10 : decode cX5_tellRange 10 = .ok (.istore 6, 2) := by decide +kernel
theorem dX5_tellRange_12 : decode cX5_tellRange 12 = .ok (.aload_n 0, 1) := by decide +kernel
theorem dX5_tellRange_13 : decode cX5_tellRange 13 = .ok (.getfield 12, 3) := by decide +kernel
theorem dX5_tellRange_16 : decode cX5_tellRange 16 = .ok (.iload_n 2, 1) := by decide +kernel
theorem dX5_tellRange_17 : decode cX5_tellRange 17 = .ok (.iconst 0, 1) := by decide +kernel
theorem dX5_tellRange_18 : decode cX5_tellRange 18 = .ok (.iload_n 3, 1) := by decide +kernel
theorem dX5_tellRange_19 : decode cX5_tellRange 19 = .ok (.ineg, 1) := by decide +kernel
theorem dX5_tellRange_20 : decode cX5_tellRange 20 = .ok (.invokevirtual 90, 3) := by decide +kernel
theorem dX5_tellRange_23 : decode cX5_tellRange 23 = .ok (.aload_n 0, 1) := by decide +kernel
theorem dX5_tellRange_24 : decode cX5_tellRange 24 = .ok (.getfield 12, 3) := by decide +kernel
theorem dX5_tellRange_27 : decode cX5_tellRange 27 = .ok (.iconst 0, 1) := by decide +kernel
theorem dX5_tellRange_28 : decode cX5_tellRange 28 = .ok (.iload_n 2, 1) := by decide +kernel
theorem dX5_tellRange_29 : decode cX5_tellRange 29 = .ok (.iload 4, 2) := by decide +kernel
theorem dX5_tellRange_31 : decode cX5_tellRange 31 = .ok (.invokevirtual 90, 3) := by decide +kernel
theorem dX5_tellRange_34 : decode cX5_tellRange 34 = .ok (.aload_n 0, 1) := by decide +kernel
theorem dX5_tellRange_35 : decode cX5_tellRange 35 = .ok (.iload 6, 2) := by decide +kernel
theorem dX5_tellRange_37 : decode cX5_tellRange 37 = .ok (.invokevirtual 59, 3) := by decide +kernel
theorem dX5_tellRange_40 : decode cX5_tellRange 40 = .ok (.ireturn, 1) := by decide +kernel
set_option maxRecDepth 20000 in
theorem ggX5_endOfSpan_X4_gather : GoodIn wsX5_endOfSpan wsX4_gather := goodIn_r _ [7, 8, 9, 10, 11, 12, 13, 14, 15, 16, 17, 18, 19, 20, 21, 22, 23, 24, 25, 26, 27, 28, 29, 30, 31, 32, 33, 34, 35, 36, 37, 38, 39, 6, 40, 41, 42, 43, 99, 100, 101, 102, 103, 104, 105, 106, 107, 108, 109, 110, 111, 112] (by decide +kernel) (by decide +kernel)
set_option maxRecDepth 20000 in
theorem gX5_endOfSpan_X4_gather : GoodIn wsX5_endOfSpan (wsV RX5 137 RX4 yX4_gather wsX4_gather) := goodIn_app (goodIn_of _ (by decide +kernel)) ggX5_endOfSpan_X4_gather
set_option maxRecDepth 20000 in
theorem ggX5_endOfSpan_X4_measureFrom : GoodIn wsX5_endOfSpan wsX4_measureFrom := goodIn_r _ [47, 48, 49, 50, 51, 6, 52, 53, 54, 55, 56, 57, 58, 59, 60, 61, 62, 63, 64, 65, 66, 67, 68, 69, 70, 71, 72, 73, 74, 8, 41, 42, 43, 99, 100, 101, 102, 103, 104] (by decide +kernel) (by decide +kernel)
set_option maxRecDepth 20000 in
theorem gX5_endOfSpan_X4_measureFrom : GoodIn wsX5_endOfSpan (wsV RX5 141 RX4 yX4_measureFrom wsX4_measureFrom) := goodIn_app (goodIn_of _ (by decide +kernel)) ggX5_endOfSpan_X4_measureFrom
set_option maxRecDepth 20000 in
theorem ggX5_endOfSpan_X5_refuse : GoodIn wsX5_endOfSpan wsX5_refuse := goodIn_r _ [79, 80, 89, 90, 91, 92, 93, 94, 95, 96, 97, 98] (by decide +kernel) (by decide +kernel)
set_option maxRecDepth 20000 in
theorem gX5_endOfSpan_X5_refuse : GoodIn wsX5_endOfSpan (wsV RX5 55 RX5 yX5_refuse wsX5_refuse) := goodIn_app (goodIn_of _ (by decide +kernel)) ggX5_endOfSpan_X5_refuse
set_option maxRecDepth 20000 in
theorem ggX5_endOfSpan_X4_wayTo : GoodIn wsX5_endOfSpan wsX4_wayTo := goodIn_r _ [84, 48, 53, 99, 100, 101, 102, 103, 104] (by decide +kernel) (by decide +kernel)
set_option maxRecDepth 20000 in
theorem gX5_endOfSpan_X4_wayTo : GoodIn wsX5_endOfSpan (wsV RX5 151 RX4 yX4_wayTo wsX4_wayTo) := goodIn_app (goodIn_of _ (by decide +kernel)) ggX5_endOfSpan_X4_wayTo
set_option maxRecDepth 20000 in
theorem ggX5_endOfSpan_X5_answer : GoodIn wsX5_endOfSpan wsX5_answer := goodIn_r _ [88, 80, 89, 90, 91, 92, 93, 94, 95, 96, 97, 98] (by decide +kernel) (by decide +kernel)
set_option maxRecDepth 20000 in
theorem gX5_endOfSpan_X5_answer : GoodIn wsX5_endOfSpan (wsV RX5 59 RX5 yX5_answer wsX5_answer) := goodIn_app (goodIn_of _ (by decide +kernel)) ggX5_endOfSpan_X5_answer
theorem dX5_endOfSpan_0 : decode cX5_endOfSpan 0 = .ok (.aload_n 0, 1) := by decide +kernel
theorem dX5_endOfSpan_1 : decode cX5_endOfSpan 1 = .ok (.getfield 19, 3) := by decide +kernel
theorem dX5_endOfSpan_4 : decode cX5_endOfSpan 4 = .ok (.aload_n 0, 1) := by decide +kernel
theorem dX5_endOfSpan_5 : decode cX5_endOfSpan 5 = .ok (.getfield 12, 3) := by decide +kernel
theorem dX5_endOfSpan_8 : decode cX5_endOfSpan 8 = .ok (.iload_n 3, 1) := by decide +kernel
theorem dX5_endOfSpan_9 : decode cX5_endOfSpan 9 = .ok (.iconst (-1), 1) := by decide +kernel
theorem dX5_endOfSpan_10 : decode cX5_endOfSpan 10 = .ok (.invokevirtual 137, 3) := by decide +kernel
theorem dX5_endOfSpan_13 : decode cX5_endOfSpan 13 = .ok (.aload_n 0, 1) := by decide +kernel
theorem dX5_endOfSpan_14 : decode cX5_endOfSpan 14 = .ok (.getfield 19, 3) := by decide +kernel
theorem dX5_endOfSpan_17 : decode cX5_endOfSpan 17 = .ok (.iload_n 2, 1) := by decide +kernel
theorem dX5_endOfSpan_18 : decode cX5_endOfSpan 18 = .ok (.ifCond .eq 7, 3) := by decide +kernel
theorem dX5_endOfSpan_21 : decode cX5_endOfSpan 21 = .ok (.iconst 0, 1) := by decide +kernel
theorem dX5_endOfSpan_22 : decode cX5_endOfSpan 22 = .ok (.goto 4, 3) := by decide +kernel
theorem dX5_endOfSpan_25 : decode cX5_endOfSpan 25 = .ok (.iload_n 1, 1) := by decide +kernel
theorem dX5_endOfSpan_26 : decode cX5_endOfSpan 26 = .ok (.invokevirtual 141, 3) := by decide +kernel
theorem dX5_endOfSpan_29 : decode cX5_endOfSpan 29 = .ok (.ifCond .ne 9, 3) := by decide +kernel
theorem dX5_endOfSpan_32 : decode cX5_endOfSpan 32 = .ok (.aload_n 0, 1) := by decide +kernel
theorem dX5_endOfSpan_33 : decode cX5_endOfSpan 33 = .ok (.iconst 5, 1) := by decide +kernel
theorem dX5_endOfSpan_34 : decode cX5_endOfSpan 34 = .ok (.invokevirtual 55, 3) := by decide +kernel
theorem dX5_endOfSpan_37 : decode cX5_endOfSpan 37 = .ok (.ireturn, 1) := by decide +kernel
theorem dX5_endOfSpan_38 : decode cX5_endOfSpan 38 = .ok (.aload_n 0, 1) := by decide +kernel
theorem dX5_endOfSpan_39 : decode cX5_endOfSpan 39 = .ok (.iload_n 2, 1) := by decide +kernel
theorem dX5_endOfSpan_40 : decode cX5_endOfSpan 40 = .ok (.ifCond .eq 14, 3) := by decide +kernel
theorem dX5_endOfSpan_43 : decode cX5_endOfSpan 43 = .ok (.aload_n 0, 1) := by decide +kernel
theorem dX5_endOfSpan_44 : decode cX5_endOfSpan 44 = .ok (.getfield 19, 3) := by decide +kernel
theorem dX5_endOfSpan_47 : decode cX5_endOfSpan 47 = .ok (.iload_n 1, 1) := by decide +kernel
theorem dX5_endOfSpan_48 : decode cX5_endOfSpan 48 = .ok (.invokevirtual 151, 3) := by decide +kernel
theorem dX5_endOfSpan_51 : decode cX5_endOfSpan 51 = .ok (.goto 12, 3) := by decide +kernel
theorem dX5_endOfSpan_54 : decode cX5_endOfSpan 54 = .ok (.aload_n 0, 1) := by decide +kernel
theorem dX5_endOfSpan_55 : decode cX5_endOfSpan 55 = .ok (.getfield 19, 3) := by decide +kernel
theorem dX5_endOfSpan_58 : decode cX5_endOfSpan 58 = .ok (.iconst 0, 1) := by decide +kernel
theorem dX5_endOfSpan_59 : decode cX5_endOfSpan 59 = .ok (.invokevirtual 151, 3) := by decide +kernel
theorem dX5_endOfSpan_62 : decode cX5_endOfSpan 62 = .ok (.ineg, 1) := by decide +kernel
theorem dX5_endOfSpan_63 : decode cX5_endOfSpan 63 = .ok (.invokevirtual 59, 3) := by decide +kernel
theorem dX5_endOfSpan_66 : decode cX5_endOfSpan 66 = .ok (.ireturn, 1) := by decide +kernel
theorem dX6_init_0 : decode cX6_init 0 = .ok (.aload_n 0, 1) := by decide +kernel
theorem dX6_init_1 : decode cX6_init 1 = .ok (.invokespecial 1, 3) := by decide +kernel
theorem dX6_init_4 : decode cX6_init 4 = .ok (.aload_n 0, 1) := by decide +kernel
theorem dX6_init_5 : decode cX6_init 5 = .ok (.bipush 100, 2) := by decide +kernel
theorem dX6_init_7 : decode cX6_init 7 = .ok (.newarray .int, 2) := by decide +kernel
theorem dX6_init_9 : decode cX6_init 9 = .ok (.putfield 7, 3) := by decide +kernel
theorem dX6_init_12 : decode cX6_init 12 = .ok (.aload_n 0, 1) := by decide +kernel
theorem dX6_init_13 : decode cX6_init 13 = .ok (.bipush 100, 2) := by decide +kernel
theorem dX6_init_15 : decode cX6_init 15 = .ok (.newarray .int, 2) := by decide +kernel
theorem dX6_init_17 : decode cX6_init 17 = .ok (.putfield 13, 3) := by decide +kernel
theorem dX6_init_20 : decode cX6_init 20 = .ok (.aload_n 0, 1) := by decide +kernel
theorem dX6_init_21 : decode cX6_init 21 = .ok (.bipush 100, 2) := by decide +kernel
theorem dX6_init_23 : decode cX6_init 23 = .ok (.newarray .int, 2) := by decide +kernel
theorem dX6_init_25 : decode cX6_init 25 = .ok (.putfield 16, 3) := by decide +kernel
theorem dX6_init_28 : decode cX6_init 28 = .ok (.aload_n 0, 1) := by decide +kernel
theorem dX6_init_29 : decode cX6_init 29 = .ok (.bipush 100, 2) := by decide +kernel
theorem dX6_init_31 : decode cX6_init 31 = .ok (.newarray .int, 2) := by decide +kernel
theorem dX6_init_33 : decode cX6_init 33 = .ok (.putfield 19, 3) := by decide +kernel
theorem dX6_init_36 : decode cX6_init 36 = .ok (.aload_n 0, 1) := by decide +kernel
theorem dX6_init_37 : decode cX6_init 37 = .ok (.bipush 100, 2) := by decide +kernel
theorem dX6_init_39 : decode cX6_init 39 = .ok (.newarray .int, 2) := by decide +kernel
theorem dX6_init_41 : decode cX6_init 41 = .ok (.putfield 22, 3) := by decide +kernel
theorem dX6_init_44 : decode cX6_init 44 = .ok (.aload_n 0, 1) := by decide +kernel
theorem dX6_init_45 : decode cX6_init 45 = .ok (.bipush 100, 2) := by decide +kernel
theorem dX6_init_47 : decode cX6_init 47 = .ok (.newarray .int, 2) := by decide +kernel
theorem dX6_init_49 : decode cX6_init 49 = .ok (.putfield 25, 3) := by decide +kernel
theorem dX6_init_52 : decode cX6_init 52 = .ok (.aload_n 0, 1) := by decide +kernel
theorem dX6_init_53 : decode cX6_init 53 = .ok (.sipush 400, 3) := by decide +kernel
theorem dX6_init_56 : decode cX6_init 56 = .ok (.newarray .int, 2) := by decide +kernel
theorem dX6_init_58 : decode cX6_init 58 = .ok (.putfield 28, 3) := by decide +kernel
theorem dX6_init_61 : decode cX6_init 61 = .ok (.aload_n 0, 1) := by decide +kernel
theorem dX6_init_62 : decode cX6_init 62 = .ok (.sipush 400, 3) := by decide +kernel
theorem dX6_init_65 : decode cX6_init 65 = .ok (.newarray .int, 2) := by decide +kernel
theorem dX6_init_67 : decode cX6_init 67 = .ok (.putfield 31, 3) := by decide +kernel
theorem dX6_init_70 : decode cX6_init 70 = .ok (.aload_n 0, 1) := by decide +kernel
theorem dX6_init_71 : decode cX6_init 71 = .ok (.sipush 400, 3) := by decide +kernel
theorem dX6_init_74 : decode cX6_init 74 = .ok (.newarray .long, 2) := by decide +kernel
theorem dX6_init_76 : decode cX6_init 76 = .ok (.putfield 34, 3) := by decide +kernel
theorem dX6_init_79 : decode cX6_init 79 = .ok (.aload_n 0, 1) := by decide +kernel
theorem dX6_init_80 : decode cX6_init 80 = .ok (.bipush 53, 2) := by decide +kernel
theorem dX6_init_82 : decode cX6_init 82 = .ok (.newarray .long, 2) := by decide +kernel
theorem dX6_init_84 : decode cX6_init 84 = .ok (.putfield 38, 3) := by decide +kernel
theorem dX6_init_87 : decode cX6_init 87 = .ok (.aload_n 0, 1) := by decide +kernel
theorem dX6_init_88 : decode cX6_init 88 = .ok (.sipush 2809, 3) := by decide +kernel
theorem dX6_init_91 : decode cX6_init 91 = .ok (.newarray .long, 2) := by decide +kernel
theorem dX6_init_93 : decode cX6_init 93 = .ok (.putfield 41, 3) := by decide +kernel
theorem dX6_init_96 : decode cX6_init 96 = .ok (.aload_n 0, 1) := by decide +kernel
theorem dX6_init_97 : decode cX6_init 97 = .ok (.sipush 2809, 3) := by decide +kernel
theorem dX6_init_100 : decode cX6_init 100 = .ok (.newarray .long, 2) := by decide +kernel
theorem dX6_init_102 : decode cX6_init 102 = .ok (.putfield 44, 3) := by decide +kernel
theorem dX6_init_105 : decode cX6_init 105 = .ok (.aload_n 0, 1) := by decide +kernel
theorem dX6_init_106 : decode cX6_init 106 = .ok (.bipush 20, 2) := by decide +kernel
theorem dX6_init_108 : decode cX6_init 108 = .ok (.newarray .int, 2) := by decide +kernel
theorem dX6_init_110 : decode cX6_init 110 = .ok (.putfield 47, 3) := by decide +kernel
theorem dX6_init_113 : decode cX6_init 113 = .ok (.aload_n 0, 1) := by decide +kernel
theorem dX6_init_114 : decode cX6_init 114 = .ok (.bipush 20, 2) := by decide +kernel
theorem dX6_init_116 : decode cX6_init 116 = .ok (.newarray .int, 2) := by decide +kernel
theorem dX6_init_118 : decode cX6_init 118 = .ok (.putfield 50, 3) := by decide +kernel
theorem dX6_init_121 : decode cX6_init 121 = .ok (.aload_n 0, 1) := by decide +kernel
theorem dX6_init_122 : decode cX6_init 122 = .ok (.bipush 20, 2) := by decide +kernel
theorem dX6_init_124 : decode cX6_init 124 = .ok (.newarray .int, 2) := by decide +kernel
theorem dX6_init_126 : decode cX6_init 126 = .ok (.putfield 53, 3) := by decide +kernel
theorem dX6_init_129 : decode cX6_init 129 = .ok (.aload_n 0, 1) := by decide +kernel
theorem dX6_init_130 : decode cX6_init 130 = .ok (.bipush 20, 2) := by decide +kernel
theorem dX6_init_132 : decode cX6_init 132 = .ok (.newarray .int, 2) := by decide +kernel
theorem dX6_init_134 : decode cX6_init 134 = .ok (.putfield 56, 3) := by decide +kernel
theorem dX6_init_137 : decode cX6_init 137 = .ok (.aload_n 0, 1) := by decide +kernel
theorem dX6_init_138 : decode cX6_init 138 = .ok (.sipush 500, 3) := by decide +kernel
theorem dX6_init_141 : decode cX6_init 141 = .ok (.newarray .int, 2) := by decide +kernel
theorem dX6_init_143 : decode cX6_init 143 = .ok (.putfield 59, 3) := by decide +kernel
theorem dX6_init_146 : decode cX6_init 146 = .ok (.aload_n 0, 1) := by decide +kernel
theorem dX6_init_147 : decode cX6_init 147 = .ok (.sipush 500, 3) := by decide +kernel
theorem dX6_init_150 : decode cX6_init 150 = .ok (.newarray .int, 2) := by decide +kernel
theorem dX6_init_152 : decode cX6_init 152 = .ok (.putfield 62, 3) := by decide +kernel
theorem dX6_init_155 : decode cX6_init 155 = .ok (.aload_n 0, 1) := by decide +kernel
theorem dX6_init_156 : decode cX6_init 156 = .ok (.bipush 20, 2) := by decide +kernel
theorem dX6_init_158 : decode cX6_init 158 = .ok (.newarray .int, 2) := by decide +kernel
theorem dX6_init_160 : decode cX6_init 160 = .ok (.putfield 65, 3) := by decide +kernel
theorem dX6_init_163 : decode cX6_init 163 = .ok (.aload_n 0, 1) := by decide +kernel
theorem dX6_init_164 : decode cX6_init 164 = .ok (.bipush 20, 2) := by decide +kernel
theorem dX6_init_166 : decode cX6_init 166 = .ok (.newarray .int, 2) := by decide +kernel
theorem dX6_init_168 : decode cX6_init 168 = .ok (.putfield 68, 3) := by decide +kernel
theorem dX6_init_171 : decode cX6_init 171 = .ok (.aload_n 0, 1) := by decide +kernel
theorem dX6_init_172 : decode cX6_init 172 = .ok (.bipush 20, 2) := by decide +kernel
theorem dX6_init_174 : decode cX6_init 174 = .ok (.newarray .int, 2) := by decide +kernel
theorem dX6_init_176 : decode cX6_init 176 = .ok (.putfield 71, 3) := by decide +kernel
theorem dX6_init_179 : decode cX6_init 179 = .ok (.aload_n 0, 1) := by decide +kernel
theorem dX6_init_180 : decode cX6_init 180 = .ok (.bipush 20, 2) := by decide +kernel
theorem dX6_init_182 : decode cX6_init 182 = .ok (.newarray .int, 2) := by decide +kernel
theorem dX6_init_184 : decode cX6_init 184 = .ok (.putfield 74, 3) := by decide +kernel
theorem dX6_init_187 : decode cX6_init 187 = .ok (.aload_n 0, 1) := by decide +kernel
theorem dX6_init_188 : decode cX6_init 188 = .ok (.bipush 20, 2) := by decide +kernel
theorem dX6_init_190 : decode cX6_init 190 = .ok (.newarray .int, 2) := by decide +kernel
theorem dX6_init_192 : decode cX6_init 192 = .ok (.putfield 77, 3) := by decide +kernel
theorem dX6_init_195 : decode cX6_init 195 = .ok (.aload_n 0, 1) := by decide +kernel
theorem dX6_init_196 : decode cX6_init 196 = .ok (.sipush 501, 3) := by decide +kernel
theorem dX6_init_199 : decode cX6_init 199 = .ok (.newarray .int, 2) := by decide +kernel
theorem dX6_init_201 : decode cX6_init 201 = .ok (.putfield 80, 3) := by decide +kernel
theorem dX6_init_204 : decode cX6_init 204 = .ok (.aload_n 0, 1) := by decide +kernel
theorem dX6_init_205 : decode cX6_init 205 = .ok (.sipush 501, 3) := by decide +kernel
theorem dX6_init_208 : decode cX6_init 208 = .ok (.newarray .int, 2) := by decide +kernel
theorem dX6_init_210 : decode cX6_init 210 = .ok (.putfield 83, 3) := by decide +kernel
theorem dX6_init_213 : decode cX6_init 213 = .ok (.aload_n 0, 1) := by decide +kernel
theorem dX6_init_214 : decode cX6_init 214 = .ok (.bipush 10, 2) := by decide +kernel
theorem dX6_init_216 : decode cX6_init 216 = .ok (.newarray .int, 2) := by decide +kernel
theorem dX6_init_218 : decode cX6_init 218 = .ok (.putfield 86, 3) := by decide +kernel
theorem dX6_init_221 : decode cX6_init 221 = .ok (.aload_n 0, 1) := by decide +kernel
theorem dX6_init_222 : decode cX6_init 222 = .ok (.bipush 10, 2) := by decide +kernel
theorem dX6_init_224 : decode cX6_init 224 = .ok (.newarray .int, 2) := by decide +kernel
theorem dX6_init_226 : decode cX6_init 226 = .ok (.putfield 89, 3) := by decide +kernel
theorem dX6_init_229 : decode cX6_init 229 = .ok (.aload_n 0, 1) := by decide +kernel
theorem dX6_init_230 : decode cX6_init 230 = .ok (.bipush 60, 2) := by decide +kernel
theorem dX6_init_232 : decode cX6_init 232 = .ok (.newarray .int, 2) := by decide +kernel
theorem dX6_init_234 : decode cX6_init 234 = .ok (.putfield 92, 3) := by decide +kernel
theorem dX6_init_237 : decode cX6_init 237 = .ok (.aload_n 0, 1) := by decide +kernel
theorem dX6_init_238 : decode cX6_init 238 = .ok (.bipush 60, 2) := by decide +kernel
theorem dX6_init_240 : decode cX6_init 240 = .ok (.newarray .int, 2) := by decide +kernel
theorem dX6_init_242 : decode cX6_init 242 = .ok (.putfield 95, 3) := by decide +kernel
theorem dX6_init_245 : decode cX6_init 245 = .ok (.aload_n 0, 1) := by decide +kernel
theorem dX6_init_246 : decode cX6_init 246 = .ok (.bipush 60, 2) := by decide +kernel
theorem dX6_init_248 : decode cX6_init 248 = .ok (.newarray .int, 2) := by decide +kernel
theorem dX6_init_250 : decode cX6_init 250 = .ok (.putfield 98, 3) := by decide +kernel
theorem dX6_init_253 : decode cX6_init 253 = .ok (.return_, 1) := by decide +kernel
theorem dX6_status_0 : decode cX6_status 0 = .ok (.aload_n 0, 1) := by decide +kernel
theorem dX6_status_1 : decode cX6_status 1 = .ok (.iconst 0, 1) := by decide +kernel
theorem dX6_status_2 : decode cX6_status 2 = .ok (.putfield 101, 3) := by decide +kernel
theorem dX6_status_5 : decode cX6_status 5 = .ok (.aload_n 0, 1) := by decide +kernel
theorem dX6_status_6 : decode cX6_status 6 = .ok (.getfield 105, 3) := by decide +kernel
theorem dX6_status_9 : decode cX6_status 9 = .ok (.ireturn, 1) := by decide +kernel
theorem dX6_refuse_0 : decode cX6_refuse 0 = .ok (.aload_n 0, 1) := by decide +kernel
theorem dX6_refuse_1 : decode cX6_refuse 1 = .ok (.iload_n 1, 1) := by decide +kernel
theorem dX6_refuse_2 : decode cX6_refuse 2 = .ok (.putfield 105, 3) := by decide +kernel
theorem dX6_refuse_5 : decode cX6_refuse 5 = .ok (.iconst (-1), 1) := by decide +kernel
theorem dX6_refuse_6 : decode cX6_refuse 6 = .ok (.ireturn, 1) := by decide +kernel
theorem dX6_no_0 : decode cX6_no 0 = .ok (.aload_n 0, 1) := by decide +kernel
theorem dX6_no_1 : decode cX6_no 1 = .ok (.iload_n 1, 1) := by decide +kernel
theorem dX6_no_2 : decode cX6_no 2 = .ok (.putfield 105, 3) := by decide +kernel
theorem dX6_no_5 : decode cX6_no 5 = .ok (.iconst 0, 1) := by decide +kernel
theorem dX6_no_6 : decode cX6_no 6 = .ok (.ireturn, 1) := by decide +kernel
theorem dX6_isPlate_0 : decode cX6_isPlate 0 = .ok (.iload_n 1, 1) := by decide +kernel
theorem dX6_isPlate_1 : decode cX6_isPlate 1 = .ok (.ifCond .lt 15, 3) := by decide +kernel
theorem dX6_isPlate_4 : decode cX6_isPlate 4 = .ok (.iload_n 1, 1) := by decide +kernel
theorem dX6_isPlate_5 : decode cX6_isPlate 5 = .ok (.aload_n 0, 1) := by decide +kernel
theorem dX6_isPlate_6 : decode cX6_isPlate 6 = .ok (.getfield 108, 3) := by decide +kernel
theorem dX6_isPlate_9 : decode cX6_isPlate 9 = .ok (.if_icmp .ge 7, 3) := by decide +kernel
theorem dX6_isPlate_12 : decode cX6_isPlate 12 = .ok (.iconst 1, 1) := by decide +kernel
theorem dX6_isPlate_13 : decode cX6_isPlate 13 = .ok (.goto 4, 3) := by decide +kernel
theorem dX6_isPlate_16 : decode cX6_isPlate 16 = .ok (.iconst 0, 1) := by decide +kernel
theorem dX6_isPlate_17 : decode cX6_isPlate 17 = .ok (.ireturn, 1) := by decide +kernel
theorem dX6_isMotif_0 : decode cX6_isMotif 0 = .ok (.iload_n 1, 1) := by decide +kernel
theorem dX6_isMotif_1 : decode cX6_isMotif 1 = .ok (.ifCond .lt 15, 3) := by decide +kernel
theorem dX6_isMotif_4 : decode cX6_isMotif 4 = .ok (.iload_n 1, 1) := by decide +kernel
theorem dX6_isMotif_5 : decode cX6_isMotif 5 = .ok (.aload_n 0, 1) := by decide +kernel
theorem dX6_isMotif_6 : decode cX6_isMotif 6 = .ok (.getfield 111, 3) := by decide +kernel
theorem dX6_isMotif_9 : decode cX6_isMotif 9 = .ok (.if_icmp .ge 7, 3) := by decide +kernel
theorem dX6_isMotif_12 : decode cX6_isMotif 12 = .ok (.iconst 1, 1) := by decide +kernel
theorem dX6_isMotif_13 : decode cX6_isMotif 13 = .ok (.goto 4, 3) := by decide +kernel
theorem dX6_isMotif_16 : decode cX6_isMotif 16 = .ok (.iconst 0, 1) := by decide +kernel
theorem dX6_isMotif_17 : decode cX6_isMotif 17 = .ok (.ireturn, 1) := by decide +kernel
theorem dX6_isDay_0 : decode cX6_isDay 0 = .ok (.iload_n 0, 1) := by decide +kernel
theorem dX6_isDay_1 : decode cX6_isDay 1 = .ok (.ifCond .lt 14, 3) := by decide +kernel
theorem dX6_isDay_4 : decode cX6_isDay 4 = .ok (.iload_n 0, 1) := by decide +kernel
theorem dX6_isDay_5 : decode cX6_isDay 5 = .ok (.sipush 9999, 3) := by decide +kernel
theorem dX6_isDay_8 : decode cX6_isDay 8 = .ok (.if_icmp .gt 7, 3) := by decide +kernel
theorem dX6_isDay_11 : decode cX6_isDay 11 = .ok (.iconst 1, 1) := by decide +kernel
theorem dX6_isDay_12 : decode cX6_isDay 12 = .ok (.goto 4, 3) := by decide +kernel
theorem dX6_isDay_15 : decode cX6_isDay 15 = .ok (.iconst 0, 1) := by decide +kernel
theorem dX6_isDay_16 : decode cX6_isDay 16 = .ok (.ireturn, 1) := by decide +kernel
theorem dX6_isTime_0 : decode cX6_isTime 0 = .ok (.iload_n 0, 1) := by decide +kernel
theorem dX6_isTime_1 : decode cX6_isTime 1 = .ok (.ifCond .lt 13, 3) := by decide +kernel
theorem dX6_isTime_4 : decode cX6_isTime 4 = .ok (.iload_n 0, 1) := by decide +kernel
theorem dX6_isTime_5 : decode cX6_isTime 5 = .ok (.ldc 114, 2) := by decide +kernel
theorem dX6_isTime_7 : decode cX6_isTime 7 = .ok (.if_icmp .gt 7, 3) := by decide +kernel
theorem dX6_isTime_10 : decode cX6_isTime 10 = .ok (.iconst 1, 1) := by decide +kernel
theorem dX6_isTime_11 : decode cX6_isTime 11 = .ok (.goto 4, 3) := by decide +kernel
theorem dX6_isTime_14 : decode cX6_isTime 14 = .ok (.iconst 0, 1) := by decide +kernel
theorem dX6_isTime_15 : decode cX6_isTime 15 = .ok (.ireturn, 1) := by decide +kernel
set_option maxRecDepth 20000 in
theorem ggX6_plate_X6_refuse : GoodIn wsX6_plate wsX6_refuse := goodIn_r _ [13, 2, 14, 15, 16, 17, 18, 19, 20, 21, 22, 23, 24, 25, 26, 27, 28, 29, 30, 31, 32, 33, 34, 35, 36, 37, 38, 39, 40, 41, 42, 43, 44, 45, 46, 47, 48, 49, 50, 51, 52, 53, 54] (by decide +kernel) (by decide +kernel)
set_option maxRecDepth 20000 in
theorem gX6_plate_X6_refuse : GoodIn wsX6_plate (wsV RX6 115 RX6 yX6_refuse wsX6_refuse) := goodIn_app (goodIn_of _ (by decide +kernel)) ggX6_plate_X6_refuse
theorem dX6_plate_0 : decode cX6_plate 0 = .ok (.aload_n 0, 1) := by decide +kernel
theorem dX6_plate_1 : decode cX6_plate 1 = .ok (.iconst 0, 1) := by decide +kernel
theorem dX6_plate_2 : decode cX6_plate 2 = .ok (.putfield 101, 3) := by decide +kernel
theorem dX6_plate_5 : decode cX6_plate 5 = .ok (.aload_n 0, 1) := by decide +kernel
theorem dX6_plate_6 : decode cX6_plate 6 = .ok (.iconst 0, 1) := by decide +kernel
theorem dX6_plate_7 : decode cX6_plate 7 = .ok (.putfield 105, 3) := by decide +kernel
theorem dX6_plate_10 : decode cX6_plate 10 = .ok (.aload_n 0, 1) := by decide +kernel
theorem dX6_plate_11 : decode cX6_plate 11 = .ok (.getfield 108, 3) := by decide +kernel
theorem dX6_plate_14 : decode cX6_plate 14 = .ok (.bipush 20, 2) := by decide +kernel
theorem dX6_plate_16 : decode cX6_plate 16 = .ok (.if_icmp .ne 9, 3) := by decide +kernel
theorem dX6_plate_19 : decode cX6_plate 19 = .ok (.aload_n 0, 1) := by decide +kernel
theorem dX6_plate_20 : decode cX6_plate 20 = .ok (.iconst 3, 1) := by decide +kernel
theorem dX6_plate_21 : decode cX6_plate 21 = .ok (.invokevirtual 115, 3) := by decide +kernel
theorem dX6_plate_24 : decode cX6_plate 24 = .ok (.ireturn, 1) := by decide +kernel
theorem dX6_plate_25 : decode cX6_plate 25 = .ok (.aload_n 0, 1) := by decide +kernel
theorem dX6_plate_26 : decode cX6_plate 26 = .ok (.getfield 47, 3) := by decide +kernel
theorem dX6_plate_29 : decode cX6_plate 29 = .ok (.aload_n 0, 1) := by decide +kernel
theorem dX6_plate_30 : decode cX6_plate 30 = .ok (.getfield 108, 3) := by decide +kernel
theorem dX6_plate_33 : decode cX6_plate 33 = .ok (.iconst 0, 1) := by decide +kernel
theorem dX6_plate_34 : decode cX6_plate 34 = .ok (.iastore, 1) := by decide +kernel
theorem dX6_plate_35 : decode cX6_plate 35 = .ok (.aload_n 0, 1) := by decide +kernel
theorem dX6_plate_36 : decode cX6_plate 36 = .ok (.getfield 50, 3) := by decide +kernel
theorem dX6_plate_39 : decode cX6_plate 39 = .ok (.aload_n 0, 1) := by decide +kernel
theorem dX6_plate_40 : decode cX6_plate 40 = .ok (.getfield 108, 3) := by decide +kernel
theorem dX6_plate_43 : decode cX6_plate 43 = .ok (.iconst 0, 1) := by decide +kernel
theorem dX6_plate_44 : decode cX6_plate 44 = .ok (.iastore, 1) := by decide +kernel
theorem dX6_plate_45 : decode cX6_plate 45 = .ok (.aload_n 0, 1) := by decide +kernel
theorem dX6_plate_46 : decode cX6_plate 46 = .ok (.getfield 65, 3) := by decide +kernel
theorem dX6_plate_49 : decode cX6_plate 49 = .ok (.aload_n 0, 1) := by decide +kernel
theorem dX6_plate_50 : decode cX6_plate 50 = .ok (.getfield 108, 3) := by decide +kernel
theorem dX6_plate_53 : decode cX6_plate 53 = .ok (.iconst 0, 1) := by decide +kernel
theorem dX6_plate_54 : decode cX6_plate 54 = .ok (.iastore, 1) := by decide +kernel
theorem dX6_plate_55 : decode cX6_plate 55 = .ok (.aload_n 0, 1) := by decide +kernel
theorem dX6_plate_56 : decode cX6_plate 56 = .ok (.getfield 68, 3) := by decide +kernel
theorem dX6_plate_59 : decode cX6_plate 59 = .ok (.aload_n 0, 1) := by decide +kernel
theorem dX6_plate_60 : decode cX6_plate 60 = .ok (.getfield 108, 3) := by decide +kernel
theorem dX6_plate_63 : decode cX6_plate 63 = .ok (.iconst 1, 1) := by decide +kernel
theorem dX6_plate_64 : decode cX6_plate 64 = .ok (.iastore, 1) := by decide +kernel
theorem dX6_plate_65 : decode cX6_plate 65 = .ok (.aload_n 0, 1) := by decide +kernel
theorem dX6_plate_66 : decode cX6_plate 66 = .ok (.getfield 71, 3) := by decide +kernel
theorem dX6_plate_69 : decode cX6_plate 69 = .ok (.aload_n 0, 1) := by decide +kernel
theorem dX6_plate_70 : decode cX6_plate 70 = .ok (.getfield 108, 3) := by decide +kernel
theorem dX6_plate_73 : decode cX6_plate 73 = .ok (.sipush 500, 3) := by decide +kernel
theorem dX6_plate_76 : decode cX6_plate 76 = .ok (.iastore, 1) := by decide +kernel
theorem dX6_plate_77 : decode cX6_plate 77 = .ok (.aload_n 0, 1) := by decide +kernel
theorem dX6_plate_78 : decode cX6_plate 78 = .ok (.dup, 1) := by decide +kernel
theorem dX6_plate_79 : decode cX6_plate 79 = .ok (.getfield 108, 3) := by decide +kernel
theorem dX6_plate_82 : decode cX6_plate 82 = .ok (.iconst 1, 1) := by decide +kernel
theorem dX6_plate_83 : decode cX6_plate 83 = .ok (.iadd, 1) := by decide +kernel
theorem dX6_plate_84 : decode cX6_plate 84 = .ok (.putfield 108, 3) := by decide +kernel
theorem dX6_plate_87 : decode cX6_plate 87 = .ok (.aload_n 0, 1) := by decide +kernel
theorem dX6_plate_88 : decode cX6_plate 88 = .ok (.getfield 108, 3) := by decide +kernel
theorem dX6_plate_91 : decode cX6_plate 91 = .ok (.iconst 1, 1) := by decide +kernel
theorem dX6_plate_92 : decode cX6_plate 92 = .ok (.isub, 1) := by decide +kernel
theorem dX6_plate_93 : decode cX6_plate 93 = .ok (.ireturn, 1) := by decide +kernel
set_option maxRecDepth 20000 in
theorem ggX6_motif_X6_refuse : GoodIn wsX6_motif wsX6_refuse := goodIn_r _ [8, 2, 9, 10, 11, 12, 13, 14, 15, 16, 17, 18, 19, 20, 21, 22, 23, 24, 25, 26, 27, 28, 29, 30, 31, 32, 33, 34, 35, 36, 37, 38, 39, 40, 41, 42, 43, 44, 45, 46, 47, 48, 49] (by decide +kernel) (by decide +kernel)
set_option maxRecDepth 20000 in
theorem gX6_motif_X6_refuse : GoodIn wsX6_motif (wsV RX6 115 RX6 yX6_refuse wsX6_refuse) := goodIn_app (goodIn_of _ (by decide +kernel)) ggX6_motif_X6_refuse
theorem dX6_motif_0 : decode cX6_motif 0 = .ok (.aload_n 0, 1) := by decide +kernel
theorem dX6_motif_1 : decode cX6_motif 1 = .ok (.iconst 0, 1) := by decide +kernel
theorem dX6_motif_2 : decode cX6_motif 2 = .ok (.putfield 101, 3) := by decide +kernel
theorem dX6_motif_5 : decode cX6_motif 5 = .ok (.aload_n 0, 1) := by decide +kernel
theorem dX6_motif_6 : decode cX6_motif 6 = .ok (.iconst 0, 1) := by decide +kernel
theorem dX6_motif_7 : decode cX6_motif 7 = .ok (.putfield 105, 3) := by decide +kernel
theorem dX6_motif_10 : decode cX6_motif 10 = .ok (.aload_n 0, 1) := by decide +kernel
theorem dX6_motif_11 : decode cX6_motif 11 = .ok (.getfield 111, 3) := by decide +kernel
theorem dX6_motif_14 : decode cX6_motif 14 = .ok (.bipush 16, 2) := by decide +kernel
theorem dX6_motif_16 : decode cX6_motif 16 = .ok (.if_icmp .ne 9, 3) := by decide +kernel
theorem dX6_motif_19 : decode cX6_motif 19 = .ok (.aload_n 0, 1) := by decide +kernel
theorem dX6_motif_20 : decode cX6_motif 20 = .ok (.iconst 3, 1) := by decide +kernel
theorem dX6_motif_21 : decode cX6_motif 21 = .ok (.invokevirtual 115, 3) := by decide +kernel
theorem dX6_motif_24 : decode cX6_motif 24 = .ok (.ireturn, 1) := by decide +kernel
theorem dX6_motif_25 : decode cX6_motif 25 = .ok (.aload_n 0, 1) := by decide +kernel
theorem dX6_motif_26 : decode cX6_motif 26 = .ok (.dup, 1) := by decide +kernel
theorem dX6_motif_27 : decode cX6_motif 27 = .ok (.getfield 111, 3) := by decide +kernel
theorem dX6_motif_30 : decode cX6_motif 30 = .ok (.iconst 1, 1) := by decide +kernel
theorem dX6_motif_31 : decode cX6_motif 31 = .ok (.iadd, 1) := by decide +kernel
theorem dX6_motif_32 : decode cX6_motif 32 = .ok (.putfield 111, 3) := by decide +kernel
theorem dX6_motif_35 : decode cX6_motif 35 = .ok (.aload_n 0, 1) := by decide +kernel
theorem dX6_motif_36 : decode cX6_motif 36 = .ok (.getfield 111, 3) := by decide +kernel
theorem dX6_motif_39 : decode cX6_motif 39 = .ok (.iconst 1, 1) := by decide +kernel
theorem dX6_motif_40 : decode cX6_motif 40 = .ok (.isub, 1) := by decide +kernel
theorem dX6_motif_41 : decode cX6_motif 41 = .ok (.ireturn, 1) := by decide +kernel
set_option maxRecDepth 20000 in
theorem ggX6_adds_X6_refuse : GoodIn wsX6_adds wsX6_refuse := goodIn_r _ [12, 13, 14, 15, 16, 17, 18, 19, 20, 21, 22, 23, 24, 25, 26, 27, 28, 29, 30, 31, 32, 33, 34, 35, 36, 37, 38, 39, 40, 41, 42, 43, 44, 45, 46, 47, 48, 49, 50, 51, 52, 53, 54] (by decide +kernel) (by decide +kernel)
set_option maxRecDepth 20000 in
theorem gX6_adds_X6_refuse : GoodIn wsX6_adds (wsV RX6 115 RX6 yX6_refuse wsX6_refuse) := goodIn_app (goodIn_of _ (by decide +kernel)) ggX6_adds_X6_refuse
theorem dX6_adds_0 : decode cX6_adds 0 = .ok (.aload_n 0, 1) := by decide +kernel
theorem dX6_adds_1 : decode cX6_adds 1 = .ok (.getfield 119, 3) := by decide +kernel
theorem dX6_adds_4 : decode cX6_adds 4 = .ok (.bipush 100, 2) := by decide +kernel
theorem dX6_adds_6 : decode cX6_adds 6 = .ok (.if_icmp .ne 9, 3) := by decide +kernel
theorem dX6_adds_9 : decode cX6_adds 9 = .ok (.aload_n 0, 1) := by decide +kernel
theorem dX6_adds_10 : decode cX6_adds 10 = .ok (.iconst 3, 1) := by decide +kernel
theorem dX6_adds_11 : decode cX6_adds 11 = .ok (.invokevirtual 115, 3) := by decide +kernel
theorem dX6_adds_14 : decode cX6_adds 14 = .ok (.ireturn, 1) := by decide +kernel
theorem dX6_adds_15 : decode cX6_adds 15 = .ok (.aload_n 0, 1) := by decide +kernel
theorem dX6_adds_16 : decode cX6_adds 16 = .ok (.getfield 7, 3) := by decide +kernel
theorem dX6_adds_19 : decode cX6_adds 19 = .ok (.aload_n 0, 1) := by decide +kernel
theorem dX6_adds_20 : decode cX6_adds 20 = .ok (.getfield 119, 3) := by decide +kernel
theorem dX6_adds_23 : decode cX6_adds 23 = .ok (.iload_n 1, 1) := by decide +kernel
theorem dX6_adds_24 : decode cX6_adds 24 = .ok (.iastore, 1) := by decide +kernel
theorem dX6_adds_25 : decode cX6_adds 25 = .ok (.aload_n 0, 1) := by decide +kernel
theorem dX6_adds_26 : decode cX6_adds 26 = .ok (.getfield 13, 3) := by decide +kernel
theorem dX6_adds_29 : decode cX6_adds 29 = .ok (.aload_n 0, 1) := by decide +kernel
theorem dX6_adds_30 : decode cX6_adds 30 = .ok (.getfield 119, 3) := by decide +kernel
theorem dX6_adds_33 : decode cX6_adds 33 = .ok (.iload_n 2, 1) := by decide +kernel
theorem dX6_adds_34 : decode cX6_adds 34 = .ok (.iastore, 1) := by decide +kernel
theorem dX6_adds_35 : decode cX6_adds 35 = .ok (.aload_n 0, 1) := by decide +kernel
theorem dX6_adds_36 : decode cX6_adds 36 = .ok (.getfield 16, 3) := by decide +kernel
theorem dX6_adds_39 : decode cX6_adds 39 = .ok (.aload_n 0, 1) := by decide +kernel
theorem dX6_adds_40 : decode cX6_adds 40 = .ok (.getfield 119, 3) := by decide +kernel
theorem dX6_adds_43 : decode cX6_adds 43 = .ok (.iload_n 3, 1) := by decide +kernel
theorem dX6_adds_44 : decode cX6_adds 44 = .ok (.iastore, 1) := by decide +kernel
theorem dX6_adds_45 : decode cX6_adds 45 = .ok (.aload_n 0, 1) := by decide +kernel
theorem dX6_adds_46 : decode cX6_adds 46 = .ok (.getfield 19, 3) := by decide +kernel
theorem dX6_adds_49 : decode cX6_adds 49 = .ok (.aload_n 0, 1) := by decide +kernel
theorem dX6_adds_50 : decode cX6_adds 50 = .ok (.getfield 119, 3) := by decide +kernel
theorem dX6_adds_53 : decode cX6_adds 53 = .ok (.iload 4, 2) := by decide +kernel
theorem dX6_adds_55 : decode cX6_adds 55 = .ok (.iastore, 1) := by decide +kernel
theorem dX6_adds_56 : decode cX6_adds 56 = .ok (.aload_n 0, 1) := by decide +kernel
theorem dX6_adds_57 : decode cX6_adds 57 = .ok (.getfield 22, 3) := by decide +kernel
theorem dX6_adds_60 : decode cX6_adds 60 = .ok (.aload_n 0, 1) := by decide +kernel
theorem dX6_adds_61 : decode cX6_adds 61 = .ok (.getfield 119, 3) := by decide +kernel
theorem dX6_adds_64 : decode cX6_adds 64 = .ok (.iload 5, 2) := by decide +kernel
theorem dX6_adds_66 : decode cX6_adds 66 = .ok (.iastore, 1) := by decide +kernel
theorem dX6_adds_67 : decode cX6_adds 67 = .ok (.aload_n 0, 1) := by decide +kernel
theorem dX6_adds_68 : decode cX6_adds 68 = .ok (.getfield 25, 3) := by decide +kernel
theorem dX6_adds_71 : decode cX6_adds 71 = .ok (.aload_n 0, 1) := by decide +kernel
theorem dX6_adds_72 : decode cX6_adds 72 = .ok (.getfield 119, 3) := by decide +kernel
theorem dX6_adds_75 : decode cX6_adds 75 = .ok (.iconst (-1), 1) := by decide +kernel
theorem dX6_adds_76 : decode cX6_adds 76 = .ok (.iastore, 1) := by decide +kernel
theorem dX6_adds_77 : decode cX6_adds 77 = .ok (.aload_n 0, 1) := by decide +kernel
theorem dX6_adds_78 : decode cX6_adds 78 = .ok (.dup, 1) := by decide +kernel
theorem dX6_adds_79 : decode cX6_adds 79 = .ok (.getfield 119, 3) := by decide +kernel
theorem dX6_adds_82 : decode cX6_adds 82 = .ok (.iconst 1, 1) := by decide +kernel
theorem dX6_adds_83 : decode cX6_adds 83 = .ok (.iadd, 1) := by decide +kernel
theorem dX6_adds_84 : decode cX6_adds 84 = .ok (.putfield 119, 3) := by decide +kernel
theorem dX6_adds_87 : decode cX6_adds 87 = .ok (.aload_n 0, 1) := by decide +kernel
theorem dX6_adds_88 : decode cX6_adds 88 = .ok (.getfield 119, 3) := by decide +kernel
theorem dX6_adds_91 : decode cX6_adds 91 = .ok (.iconst 1, 1) := by decide +kernel
theorem dX6_adds_92 : decode cX6_adds 92 = .ok (.isub, 1) := by decide +kernel
theorem dX6_adds_93 : decode cX6_adds 93 = .ok (.ireturn, 1) := by decide +kernel
set_option maxRecDepth 20000 in
theorem ggX6_shows_X6_isPlate : GoodIn wsX6_shows wsX6_isPlate := goodIn_r _ [7, 8, 32, 33, 34, 35, 36, 37, 38, 39, 40, 41, 42, 43, 44, 45, 46, 47, 48, 49, 50, 51, 52, 53, 54, 55, 56, 57, 58, 59, 60, 61, 62, 63, 64, 65, 66, 67, 68, 69, 70, 71, 72] (by decide +kernel) (by decide +kernel)
set_option maxRecDepth 20000 in
theorem gX6_shows_X6_isPlate : GoodIn wsX6_shows (wsV RX6 122 RX6 yX6_isPlate wsX6_isPlate) := goodIn_app (goodIn_of _ (by decide +kernel)) ggX6_shows_X6_isPlate
set_option maxRecDepth 20000 in
theorem ggX6_shows_X6_isMotif : GoodIn wsX6_shows wsX6_isMotif := goodIn_r _ [12, 13, 32, 33, 34, 35, 36, 37, 38, 39, 40, 41, 42, 43, 44, 45, 46, 47, 48, 49, 50, 51, 52, 53, 54, 55, 56, 57, 58, 59, 60, 61, 62, 63, 64, 65, 66, 67, 68, 69, 70, 71, 72] (by decide +kernel) (by decide +kernel)
set_option maxRecDepth 20000 in
theorem gX6_shows_X6_isMotif : GoodIn wsX6_shows (wsV RX6 126 RX6 yX6_isMotif wsX6_isMotif) := goodIn_app (goodIn_of _ (by decide +kernel)) ggX6_shows_X6_isMotif
set_option maxRecDepth 20000 in
theorem ggX6_shows_X6_refuse : GoodIn wsX6_shows wsX6_refuse := goodIn_r _ [17, 2, 32, 33, 34, 35, 36, 37, 38, 39, 40, 41, 42, 43, 44, 45, 46, 47, 48, 49, 50, 51, 52, 53, 54, 55, 56, 57, 58, 59, 60, 61, 62, 63, 64, 65, 66, 67, 68, 69, 70, 71, 72] (by decide +kernel) (by decide +kernel)
set_option maxRecDepth 20000 in
theorem gX6_shows_X6_refuse : GoodIn wsX6_shows (wsV RX6 115 RX6 yX6_refuse wsX6_refuse) := goodIn_app (goodIn_of _ (by decide +kernel)) ggX6_shows_X6_refuse
set_option maxRecDepth 20000 in
theorem ggX6_shows_X6_isDay : GoodIn wsX6_shows wsX6_isDay := goodIn_r _ [20] (by decide +kernel) (by decide +kernel)
set_option maxRecDepth 20000 in
theorem gX6_shows_X6_isDay : GoodIn wsX6_shows (va_wsS RX6 129 yX6_isDay wsX6_isDay) := goodIn_app (goodIn_of _ (by decide +kernel)) ggX6_shows_X6_isDay
set_option maxRecDepth 20000 in
theorem ggX6_shows_X6_adds : GoodIn wsX6_shows wsX6_adds := goodIn_r _ [24, 25, 26, 27, 28, 29, 30, 31, 14, 15, 16, 6, 17, 2, 32, 33, 34, 35, 36, 37, 38, 39, 40, 41, 42, 43, 44, 45, 46, 47, 48, 49, 50, 51, 52, 53, 54, 55, 56, 57, 58, 59, 60, 61, 62, 63, 64, 65, 66, 67, 68, 69, 70, 71, 72] (by decide +kernel) (by decide +kernel)
set_option maxRecDepth 20000 in
theorem gX6_shows_X6_adds : GoodIn wsX6_shows (wsV RX6 132 RX6 yX6_adds wsX6_adds) := goodIn_app (goodIn_of _ (by decide +kernel)) ggX6_shows_X6_adds
theorem dX6_shows_0 : decode cX6_shows 0 = .ok (.aload_n 0, 1) := by decide +kernel
theorem dX6_shows_1 : decode cX6_shows 1 = .ok (.iconst 0, 1) := by decide +kernel
theorem dX6_shows_2 : decode cX6_shows 2 = .ok (.putfield 101, 3) := by decide +kernel
theorem dX6_shows_5 : decode cX6_shows 5 = .ok (.aload_n 0, 1) := by decide +kernel
theorem dX6_shows_6 : decode cX6_shows 6 = .ok (.iconst 0, 1) := by decide +kernel
theorem dX6_shows_7 : decode cX6_shows 7 = .ok (.putfield 105, 3) := by decide +kernel
theorem dX6_shows_10 : decode cX6_shows 10 = .ok (.aload_n 0, 1) := by decide +kernel
theorem dX6_shows_11 : decode cX6_shows 11 = .ok (.iload_n 1, 1) := by decide +kernel
theorem dX6_shows_12 : decode cX6_shows 12 = .ok (.invokevirtual 122, 3) := by decide +kernel
theorem dX6_shows_15 : decode cX6_shows 15 = .ok (.ifCond .eq 11, 3) := by decide +kernel
theorem dX6_shows_18 : decode cX6_shows 18 = .ok (.aload_n 0, 1) := by decide +kernel
theorem dX6_shows_19 : decode cX6_shows 19 = .ok (.iload_n 2, 1) := by decide +kernel
theorem dX6_shows_20 : decode cX6_shows 20 = .ok (.invokevirtual 126, 3) := by decide +kernel
theorem dX6_shows_23 : decode cX6_shows 23 = .ok (.ifCond .ne 9, 3) := by decide +kernel
theorem dX6_shows_26 : decode cX6_shows 26 = .ok (.aload_n 0, 1) := by decide +kernel
theorem dX6_shows_27 : decode cX6_shows 27 = .ok (.iconst 1, 1) := by decide +kernel
theorem dX6_shows_28 : decode cX6_shows 28 = .ok (.invokevirtual 115, 3) := by decide +kernel
theorem dX6_shows_31 : decode cX6_shows 31 = .ok (.ireturn, 1) := by decide +kernel
theorem dX6_shows_32 : decode cX6_shows 32 = .ok (.iload_n 3, 1) := by decide +kernel
theorem dX6_shows_33 : decode cX6_shows 33 = .ok (.invokestatic 129, 3) := by decide +kernel
theorem dX6_shows_36 : decode cX6_shows 36 = .ok (.ifCond .eq 15, 3) := by decide +kernel
theorem dX6_shows_39 : decode cX6_shows 39 = .ok (.aload_n 0, 1) := by decide +kernel
theorem dX6_shows_40 : decode cX6_shows 40 = .ok (.iconst 0, 1) := by decide +kernel
theorem dX6_shows_41 : decode cX6_shows 41 = .ok (.iload_n 1, 1) := by decide +kernel
theorem dX6_shows_42 : decode cX6_shows 42 = .ok (.iload_n 2, 1) := by decide +kernel
theorem dX6_shows_43 : decode cX6_shows 43 = .ok (.iconst 0, 1) := by decide +kernel
theorem dX6_shows_44 : decode cX6_shows 44 = .ok (.iload_n 3, 1) := by decide +kernel
theorem dX6_shows_45 : decode cX6_shows 45 = .ok (.invokevirtual 132, 3) := by decide +kernel
theorem dX6_shows_48 : decode cX6_shows 48 = .ok (.goto 8, 3) := by decide +kernel
theorem dX6_shows_51 : decode cX6_shows 51 = .ok (.aload_n 0, 1) := by decide +kernel
theorem dX6_shows_52 : decode cX6_shows 52 = .ok (.iconst 2, 1) := by decide +kernel
theorem dX6_shows_53 : decode cX6_shows 53 = .ok (.invokevirtual 115, 3) := by decide +kernel
theorem dX6_shows_56 : decode cX6_shows 56 = .ok (.ireturn, 1) := by decide +kernel
set_option maxRecDepth 20000 in
theorem ggX6_ahead_X6_isPlate : GoodIn wsX6_ahead wsX6_isPlate := goodIn_r _ [9, 10, 29, 30, 31, 32, 33, 34, 35, 36, 37, 38, 39, 40, 41, 42, 43, 44, 45, 46, 47, 48, 49, 50, 51, 52, 53, 54, 55, 56, 57, 58, 59, 60, 61, 62, 63, 64, 65, 66, 67, 68, 69] (by decide +kernel) (by decide +kernel)
set_option maxRecDepth 20000 in
theorem gX6_ahead_X6_isPlate : GoodIn wsX6_ahead (wsV RX6 122 RX6 yX6_isPlate wsX6_isPlate) := goodIn_app (goodIn_of _ (by decide +kernel)) ggX6_ahead_X6_isPlate
set_option maxRecDepth 20000 in
theorem ggX6_ahead_X6_refuse : GoodIn wsX6_ahead wsX6_refuse := goodIn_r _ [14, 2, 29, 30, 31, 32, 33, 34, 35, 36, 37, 38, 39, 40, 41, 42, 43, 44, 45, 46, 47, 48, 49, 50, 51, 52, 53, 54, 55, 56, 57, 58, 59, 60, 61, 62, 63, 64, 65, 66, 67, 68, 69] (by decide +kernel) (by decide +kernel)
set_option maxRecDepth 20000 in
theorem gX6_ahead_X6_refuse : GoodIn wsX6_ahead (wsV RX6 115 RX6 yX6_refuse wsX6_refuse) := goodIn_app (goodIn_of _ (by decide +kernel)) ggX6_ahead_X6_refuse
set_option maxRecDepth 20000 in
theorem ggX6_ahead_X6_isDay : GoodIn wsX6_ahead wsX6_isDay := goodIn_r _ [17] (by decide +kernel) (by decide +kernel)
set_option maxRecDepth 20000 in
theorem gX6_ahead_X6_isDay : GoodIn wsX6_ahead (va_wsS RX6 129 yX6_isDay wsX6_isDay) := goodIn_app (goodIn_of _ (by decide +kernel)) ggX6_ahead_X6_isDay
set_option maxRecDepth 20000 in
theorem ggX6_ahead_X6_adds : GoodIn wsX6_ahead wsX6_adds := goodIn_r _ [21, 22, 23, 24, 25, 26, 27, 28, 11, 12, 13, 8, 14, 2, 29, 30, 31, 32, 33, 34, 35, 36, 37, 38, 39, 40, 41, 42, 43, 44, 45, 46, 47, 48, 49, 50, 51, 52, 53, 54, 55, 56, 57, 58, 59, 60, 61, 62, 63, 64, 65, 66, 67, 68, 69] (by decide +kernel) (by decide +kernel)
set_option maxRecDepth 20000 in
theorem gX6_ahead_X6_adds : GoodIn wsX6_ahead (wsV RX6 132 RX6 yX6_adds wsX6_adds) := goodIn_app (goodIn_of _ (by decide +kernel)) ggX6_ahead_X6_adds
theorem dX6_ahead_0 : decode cX6_ahead 0 = .ok (.aload_n 0, 1) := by decide +kernel
theorem dX6_ahead_1 : decode cX6_ahead 1 = .ok (.iconst 0, 1) := by decide +kernel
theorem dX6_ahead_2 : decode cX6_ahead 2 = .ok (.putfield 101, 3) := by decide +kernel
theorem dX6_ahead_5 : decode cX6_ahead 5 = .ok (.aload_n 0, 1) := by decide +kernel
theorem dX6_ahead_6 : decode cX6_ahead 6 = .ok (.iconst 0, 1) := by decide +kernel
theorem dX6_ahead_7 : decode cX6_ahead 7 = .ok (.putfield 105, 3) := by decide +kernel
theorem dX6_ahead_10 : decode cX6_ahead 10 = .ok (.aload_n 0, 1) := by decide +kernel
theorem dX6_ahead_11 : decode cX6_ahead 11 = .ok (.iload_n 1, 1) := by decide +kernel
theorem dX6_ahead_12 : decode cX6_ahead 12 = .ok (.invokevirtual 122, 3) := by decide +kernel
theorem dX6_ahead_15 : decode cX6_ahead 15 = .ok (.ifCond .eq 16, 3) := by decide +kernel
theorem dX6_ahead_18 : decode cX6_ahead 18 = .ok (.aload_n 0, 1) := by decide +kernel
theorem dX6_ahead_19 : decode cX6_ahead 19 = .ok (.iload_n 2, 1) := by decide +kernel
theorem dX6_ahead_20 : decode cX6_ahead 20 = .ok (.invokevirtual 122, 3) := by decide +kernel
theorem dX6_ahead_23 : decode cX6_ahead 23 = .ok (.ifCond .eq 8, 3) := by decide +kernel
theorem dX6_ahead_26 : decode cX6_ahead 26 = .ok (.iload_n 1, 1) := by decide +kernel
theorem dX6_ahead_27 : decode cX6_ahead 27 = .ok (.iload_n 2, 1) := by decide +kernel
theorem dX6_ahead_28 : decode cX6_ahead 28 = .ok (.if_icmp .ne 9, 3) := by decide +kernel
theorem dX6_ahead_31 : decode cX6_ahead 31 = .ok (.aload_n 0, 1) := by decide +kernel
theorem dX6_ahead_32 : decode cX6_ahead 32 = .ok (.iconst 1, 1) := by decide +kernel
theorem dX6_ahead_33 : decode cX6_ahead 33 = .ok (.invokevirtual 115, 3) := by decide +kernel
theorem dX6_ahead_36 : decode cX6_ahead 36 = .ok (.ireturn, 1) := by decide +kernel
theorem dX6_ahead_37 : decode cX6_ahead 37 = .ok (.iload 4, 2) := by decide +kernel
theorem dX6_ahead_39 : decode cX6_ahead 39 = .ok (.invokestatic 129, 3) := by decide +kernel
theorem dX6_ahead_42 : decode cX6_ahead 42 = .ok (.ifCond .eq 28, 3) := by decide +kernel
theorem dX6_ahead_45 : decode cX6_ahead 45 = .ok (.iload_n 3, 1) := by decide +kernel
theorem dX6_ahead_46 : decode cX6_ahead 46 = .ok (.ldc 136, 2) := by decide +kernel
theorem dX6_ahead_48 : decode cX6_ahead 48 = .ok (.if_icmp .lt 22, 3) := by decide +kernel
theorem dX6_ahead_51 : decode cX6_ahead 51 = .ok (.iload_n 3, 1) := by decide +kernel
theorem dX6_ahead_52 : decode cX6_ahead 52 = .ok (.ldc 114, 2) := by decide +kernel
theorem dX6_ahead_54 : decode cX6_ahead 54 = .ok (.if_icmp .gt 16, 3) := by decide +kernel
theorem dX6_ahead_57 : decode cX6_ahead 57 = .ok (.aload_n 0, 1) := by decide +kernel
theorem dX6_ahead_58 : decode cX6_ahead 58 = .ok (.iconst 1, 1) := by decide +kernel
theorem dX6_ahead_59 : decode cX6_ahead 59 = .ok (.iload_n 1, 1) := by decide +kernel
theorem dX6_ahead_60 : decode cX6_ahead 60 = .ok (.iload_n 2, 1) := by decide +kernel
theorem dX6_ahead_61 : decode cX6_ahead 61 = .ok (.iload_n 3, 1) := by decide +kernel
theorem dX6_ahead_62 : decode cX6_ahead 62 = .ok (.iload 4, 2) := by decide +kernel
theorem dX6_ahead_64 : decode cX6_ahead 64 = .ok (.invokevirtual 132, 3) := by decide +kernel
theorem dX6_ahead_67 : decode cX6_ahead 67 = .ok (.goto 8, 3) := by decide +kernel
theorem dX6_ahead_70 : decode cX6_ahead 70 = .ok (.aload_n 0, 1) := by decide +kernel
theorem dX6_ahead_71 : decode cX6_ahead 71 = .ok (.iconst 2, 1) := by decide +kernel
theorem dX6_ahead_72 : decode cX6_ahead 72 = .ok (.invokevirtual 115, 3) := by decide +kernel
theorem dX6_ahead_75 : decode cX6_ahead 75 = .ok (.ireturn, 1) := by decide +kernel
set_option maxRecDepth 20000 in
theorem ggX6_same_X6_isPlate : GoodIn wsX6_same wsX6_isPlate := goodIn_r _ [7, 8, 27, 28, 29, 30, 31, 32, 33, 34, 35, 36, 37, 38, 39, 40, 41, 42, 43, 44, 45, 46, 47, 48, 49, 50, 51, 52, 53, 54, 55, 56, 57, 58, 59, 60, 61, 62, 63, 64, 65, 66, 67] (by decide +kernel) (by decide +kernel)
set_option maxRecDepth 20000 in
theorem gX6_same_X6_isPlate : GoodIn wsX6_same (wsV RX6 122 RX6 yX6_isPlate wsX6_isPlate) := goodIn_app (goodIn_of _ (by decide +kernel)) ggX6_same_X6_isPlate
set_option maxRecDepth 20000 in
theorem ggX6_same_X6_refuse : GoodIn wsX6_same wsX6_refuse := goodIn_r _ [12, 2, 27, 28, 29, 30, 31, 32, 33, 34, 35, 36, 37, 38, 39, 40, 41, 42, 43, 44, 45, 46, 47, 48, 49, 50, 51, 52, 53, 54, 55, 56, 57, 58, 59, 60, 61, 62, 63, 64, 65, 66, 67] (by decide +kernel) (by decide +kernel)
set_option maxRecDepth 20000 in
theorem gX6_same_X6_refuse : GoodIn wsX6_same (wsV RX6 115 RX6 yX6_refuse wsX6_refuse) := goodIn_app (goodIn_of _ (by decide +kernel)) ggX6_same_X6_refuse
set_option maxRecDepth 20000 in
theorem ggX6_same_X6_isDay : GoodIn wsX6_same wsX6_isDay := goodIn_r _ [15] (by decide +kernel) (by decide +kernel)
set_option maxRecDepth 20000 in
theorem gX6_same_X6_isDay : GoodIn wsX6_same (va_wsS RX6 129 yX6_isDay wsX6_isDay) := goodIn_app (goodIn_of _ (by decide +kernel)) ggX6_same_X6_isDay
set_option maxRecDepth 20000 in
theorem ggX6_same_X6_adds : GoodIn wsX6_same wsX6_adds := goodIn_r _ [19, 20, 21, 22, 23, 24, 25, 26, 9, 10, 11, 6, 12, 2, 27, 28, 29, 30, 31, 32, 33, 34, 35, 36, 37, 38, 39, 40, 41, 42, 43, 44, 45, 46, 47, 48, 49, 50, 51, 52, 53, 54, 55, 56, 57, 58, 59, 60, 61, 62, 63, 64, 65, 66, 67] (by decide +kernel) (by decide +kernel)
set_option maxRecDepth 20000 in
theorem gX6_same_X6_adds : GoodIn wsX6_same (wsV RX6 132 RX6 yX6_adds wsX6_adds) := goodIn_app (goodIn_of _ (by decide +kernel)) ggX6_same_X6_adds
theorem dX6_same_0 : decode cX6_same 0 = .ok (.aload_n 0, 1) := by decide +kernel
theorem dX6_same_1 : decode cX6_same 1 = .ok (.iconst 0, 1) := by decide +kernel
theorem dX6_same_2 : decode cX6_same 2 = .ok (.putfield 101, 3) := by decide +kernel
theorem dX6_same_5 : decode cX6_same 5 = .ok (.aload_n 0, 1) := by decide +kernel
theorem dX6_same_6 : decode cX6_same 6 = .ok (.iconst 0, 1) := by decide +kernel
theorem dX6_same_7 : decode cX6_same 7 = .ok (.putfield 105, 3) := by decide +kernel
theorem dX6_same_10 : decode cX6_same 10 = .ok (.aload_n 0, 1) := by decide +kernel
theorem dX6_same_11 : decode cX6_same 11 = .ok (.iload_n 1, 1) := by decide +kernel
theorem dX6_same_12 : decode cX6_same 12 = .ok (.invokevirtual 122, 3) := by decide +kernel
theorem dX6_same_15 : decode cX6_same 15 = .ok (.ifCond .eq 16, 3) := by decide +kernel
theorem dX6_same_18 : decode cX6_same 18 = .ok (.aload_n 0, 1) := by decide +kernel
theorem dX6_same_19 : decode cX6_same 19 = .ok (.iload_n 2, 1) := by decide +kernel
theorem dX6_same_20 : decode cX6_same 20 = .ok (.invokevirtual 122, 3) := by decide +kernel
theorem dX6_same_23 : decode cX6_same 23 = .ok (.ifCond .eq 8, 3) := by decide +kernel
theorem dX6_same_26 : decode cX6_same 26 = .ok (.iload_n 1, 1) := by decide +kernel
theorem dX6_same_27 : decode cX6_same 27 = .ok (.iload_n 2, 1) := by decide +kernel
theorem dX6_same_28 : decode cX6_same 28 = .ok (.if_icmp .ne 9, 3) := by decide +kernel
theorem dX6_same_31 : decode cX6_same 31 = .ok (.aload_n 0, 1) := by decide +kernel
theorem dX6_same_32 : decode cX6_same 32 = .ok (.iconst 1, 1) := by decide +kernel
theorem dX6_same_33 : decode cX6_same 33 = .ok (.invokevirtual 115, 3) := by decide +kernel
theorem dX6_same_36 : decode cX6_same 36 = .ok (.ireturn, 1) := by decide +kernel
theorem dX6_same_37 : decode cX6_same 37 = .ok (.iload_n 3, 1) := by decide +kernel
theorem dX6_same_38 : decode cX6_same 38 = .ok (.invokestatic 129, 3) := by decide +kernel
theorem dX6_same_41 : decode cX6_same 41 = .ok (.ifCond .eq 15, 3) := by decide +kernel
theorem dX6_same_44 : decode cX6_same 44 = .ok (.aload_n 0, 1) := by decide +kernel
theorem dX6_same_45 : decode cX6_same 45 = .ok (.iconst 5, 1) := by decide +kernel
theorem dX6_same_46 : decode cX6_same 46 = .ok (.iload_n 1, 1) := by decide +kernel
theorem dX6_same_47 : decode cX6_same 47 = .ok (.iload_n 2, 1) := by decide +kernel
theorem dX6_same_48 : decode cX6_same 48 = .ok (.iconst 0, 1) := by decide +kernel
theorem dX6_same_49 : decode cX6_same 49 = .ok (.iload_n 3, 1) := by decide +kernel
theorem dX6_same_50 : decode cX6_same 50 = .ok (.invokevirtual 132, 3) := by decide +kernel
theorem dX6_same_53 : decode cX6_same 53 = .ok (.goto 8, 3) := by decide +kernel
theorem dX6_same_56 : decode cX6_same 56 = .ok (.aload_n 0, 1) := by decide +kernel
theorem dX6_same_57 : decode cX6_same 57 = .ok (.iconst 2, 1) := by decide +kernel
theorem dX6_same_58 : decode cX6_same 58 = .ok (.invokevirtual 115, 3) := by decide +kernel
theorem dX6_same_61 : decode cX6_same 61 = .ok (.ireturn, 1) := by decide +kernel
set_option maxRecDepth 20000 in
theorem ggX6_taken_X6_isPlate : GoodIn wsX6_taken wsX6_isPlate := goodIn_r _ [7, 8, 31, 32, 33, 34, 35, 36, 37, 38, 39, 40, 41, 42, 43, 44, 45, 46, 47, 48, 49, 50, 51, 52, 53, 54, 55, 56, 57, 58, 59, 60, 61, 62, 63, 64, 65, 66, 67, 68, 69, 70, 71] (by decide +kernel) (by decide +kernel)
set_option maxRecDepth 20000 in
theorem gX6_taken_X6_isPlate : GoodIn wsX6_taken (wsV RX6 122 RX6 yX6_isPlate wsX6_isPlate) := goodIn_app (goodIn_of _ (by decide +kernel)) ggX6_taken_X6_isPlate
set_option maxRecDepth 20000 in
theorem ggX6_taken_X6_refuse : GoodIn wsX6_taken wsX6_refuse := goodIn_r _ [12, 2, 31, 32, 33, 34, 35, 36, 37, 38, 39, 40, 41, 42, 43, 44, 45, 46, 47, 48, 49, 50, 51, 52, 53, 54, 55, 56, 57, 58, 59, 60, 61, 62, 63, 64, 65, 66, 67, 68, 69, 70, 71] (by decide +kernel) (by decide +kernel)
set_option maxRecDepth 20000 in
theorem gX6_taken_X6_refuse : GoodIn wsX6_taken (wsV RX6 115 RX6 yX6_refuse wsX6_refuse) := goodIn_app (goodIn_of _ (by decide +kernel)) ggX6_taken_X6_refuse
set_option maxRecDepth 20000 in
theorem ggX6_taken_X6_isTime : GoodIn wsX6_taken wsX6_isTime := goodIn_r _ [15, 16] (by decide +kernel) (by decide +kernel)
set_option maxRecDepth 20000 in
theorem gX6_taken_X6_isTime : GoodIn wsX6_taken (va_wsS RX6 137 yX6_isTime wsX6_isTime) := goodIn_app (goodIn_of _ (by decide +kernel)) ggX6_taken_X6_isTime
set_option maxRecDepth 20000 in
theorem ggX6_taken_X6_isDay : GoodIn wsX6_taken wsX6_isDay := goodIn_r _ [19] (by decide +kernel) (by decide +kernel)
set_option maxRecDepth 20000 in
theorem gX6_taken_X6_isDay : GoodIn wsX6_taken (va_wsS RX6 129 yX6_isDay wsX6_isDay) := goodIn_app (goodIn_of _ (by decide +kernel)) ggX6_taken_X6_isDay
set_option maxRecDepth 20000 in
theorem ggX6_taken_X6_adds : GoodIn wsX6_taken wsX6_adds := goodIn_r _ [23, 24, 25, 26, 27, 28, 29, 30, 9, 10, 11, 6, 12, 2, 31, 32, 33, 34, 35, 36, 37, 38, 39, 40, 41, 42, 43, 44, 45, 46, 47, 48, 49, 50, 51, 52, 53, 54, 55, 56, 57, 58, 59, 60, 61, 62, 63, 64, 65, 66, 67, 68, 69, 70, 71] (by decide +kernel) (by decide +kernel)
set_option maxRecDepth 20000 in
theorem gX6_taken_X6_adds : GoodIn wsX6_taken (wsV RX6 132 RX6 yX6_adds wsX6_adds) := goodIn_app (goodIn_of _ (by decide +kernel)) ggX6_taken_X6_adds
theorem dX6_taken_0 : decode cX6_taken 0 = .ok (.aload_n 0, 1) := by decide +kernel
theorem dX6_taken_1 : decode cX6_taken 1 = .ok (.iconst 0, 1) := by decide +kernel
theorem dX6_taken_2 : decode cX6_taken 2 = .ok (.putfield 101, 3) := by decide +kernel
theorem dX6_taken_5 : decode cX6_taken 5 = .ok (.aload_n 0, 1) := by decide +kernel
theorem dX6_taken_6 : decode cX6_taken 6 = .ok (.iconst 0, 1) := by decide +kernel
theorem dX6_taken_7 : decode cX6_taken 7 = .ok (.putfield 105, 3) := by decide +kernel
theorem dX6_taken_10 : decode cX6_taken 10 = .ok (.aload_n 0, 1) := by decide +kernel
theorem dX6_taken_11 : decode cX6_taken 11 = .ok (.iload_n 1, 1) := by decide +kernel
theorem dX6_taken_12 : decode cX6_taken 12 = .ok (.invokevirtual 122, 3) := by decide +kernel
theorem dX6_taken_15 : decode cX6_taken 15 = .ok (.ifCond .ne 9, 3) := by decide +kernel
theorem dX6_taken_18 : decode cX6_taken 18 = .ok (.aload_n 0, 1) := by decide +kernel
theorem dX6_taken_19 : decode cX6_taken 19 = .ok (.iconst 1, 1) := by decide +kernel
theorem dX6_taken_20 : decode cX6_taken 20 = .ok (.invokevirtual 115, 3) := by decide +kernel
theorem dX6_taken_23 : decode cX6_taken 23 = .ok (.ireturn, 1) := by decide +kernel
theorem dX6_taken_24 : decode cX6_taken 24 = .ok (.iload_n 2, 1) := by decide +kernel
theorem dX6_taken_25 : decode cX6_taken 25 = .ok (.invokestatic 137, 3) := by decide +kernel
theorem dX6_taken_28 : decode cX6_taken 28 = .ok (.ifCond .eq 36, 3) := by decide +kernel
