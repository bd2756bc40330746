theorem dX6_marks_123 : decode cX6_marks 123 = .ok (.aload_n 0, 1) := by decide +kernel
theorem dX6_marks_124 : decode cX6_marks 124 = .ok (.iload_n 3, 1) := by decide +kernel
theorem dX6_marks_125 : decode cX6_marks 125 = .ok (.invokevirtual 204, 3) := by decide +kernel
theorem dX6_marks_128 : decode cX6_marks 128 = .ok (.iaload, 1) := by decide +kernel
theorem dX6_marks_129 : decode cX6_marks 129 = .ok (.invokestatic 207, 3) := by decide +kernel
theorem dX6_marks_132 : decode cX6_marks 132 = .ok (.istore 4, 2) := by decide +kernel
theorem dX6_marks_134 : decode cX6_marks 134 = .ok (.aload_n 0, 1) := by decide +kernel
theorem dX6_marks_135 : decode cX6_marks 135 = .ok (.getfield 62, 3) := by decide +kernel
theorem dX6_marks_138 : decode cX6_marks 138 = .ok (.aload_n 0, 1) := by decide +kernel
theorem dX6_marks_139 : decode cX6_marks 139 = .ok (.iload_n 3, 1) := by decide +kernel
theorem dX6_marks_140 : decode cX6_marks 140 = .ok (.invokevirtual 201, 3) := by decide +kernel
theorem dX6_marks_143 : decode cX6_marks 143 = .ok (.iload 4, 2) := by decide +kernel
theorem dX6_marks_145 : decode cX6_marks 145 = .ok (.iastore, 1) := by decide +kernel
theorem dX6_marks_146 : decode cX6_marks 146 = .ok (.aload_n 0, 1) := by decide +kernel
theorem dX6_marks_147 : decode cX6_marks 147 = .ok (.getfield 62, 3) := by decide +kernel
theorem dX6_marks_150 : decode cX6_marks 150 = .ok (.aload_n 0, 1) := by decide +kernel
theorem dX6_marks_151 : decode cX6_marks 151 = .ok (.iload_n 3, 1) := by decide +kernel
theorem dX6_marks_152 : decode cX6_marks 152 = .ok (.invokevirtual 204, 3) := by decide +kernel
theorem dX6_marks_155 : decode cX6_marks 155 = .ok (.iload 4, 2) := by decide +kernel
theorem dX6_marks_157 : decode cX6_marks 157 = .ok (.iastore, 1) := by decide +kernel
theorem dX6_marks_158 : decode cX6_marks 158 = .ok (.iconst 1, 1) := by decide +kernel
theorem dX6_marks_159 : decode cX6_marks 159 = .ok (.istore_n 2, 1) := by decide +kernel
theorem dX6_marks_160 : decode cX6_marks 160 = .ok (.iinc 3 1, 3) := by decide +kernel
theorem dX6_marks_163 : decode cX6_marks 163 = .ok (.goto (-96), 3) := by decide +kernel
theorem dX6_marks_166 : decode cX6_marks 166 = .ok (.goto (-107), 3) := by decide +kernel
theorem dX6_marks_169 : decode cX6_marks 169 = .ok (.return_, 1) := by decide +kernel
set_option maxRecDepth 20000 in
theorem ggX6_counts_X6_leftOf : GoodIn wsX6_counts wsX6_leftOf := goodIn_r _ [7, 8, 14, 15, 16, 17, 18, 19, 20, 21, 22, 23, 24, 25, 26, 27, 28, 29, 30, 31, 32, 33, 34, 35, 36, 37, 38, 39, 40, 41, 42, 43, 44, 45, 46, 47, 48, 49, 50, 51, 52, 53, 54] (by decide +kernel) (by decide +kernel)
set_option maxRecDepth 20000 in
theorem gX6_counts_X6_leftOf : GoodIn wsX6_counts (wsV RX6 201 RX6 yX6_leftOf wsX6_leftOf) := goodIn_app (goodIn_of _ (by decide +kernel)) ggX6_counts_X6_leftOf
set_option maxRecDepth 20000 in
theorem ggX6_counts_X6_rightOf : GoodIn wsX6_counts wsX6_rightOf := goodIn_r _ [12, 13, 14, 15, 16, 17, 18, 19, 20, 21, 22, 23, 24, 25, 26, 27, 28, 29, 30, 31, 32, 33, 34, 35, 36, 37, 38, 39, 40, 41, 42, 43, 44, 45, 46, 47, 48, 49, 50, 51, 52, 53, 54] (by decide +kernel) (by decide +kernel)
set_option maxRecDepth 20000 in
theorem gX6_counts_X6_rightOf : GoodIn wsX6_counts (wsV RX6 204 RX6 yX6_rightOf wsX6_rightOf) := goodIn_app (goodIn_of _ (by decide +kernel)) ggX6_counts_X6_rightOf
theorem dX6_counts_0 : decode cX6_counts 0 = .ok (.iconst 0, 1) := by decide +kernel
theorem dX6_counts_1 : decode cX6_counts 1 = .ok (.istore_n 2, 1) := by decide +kernel
theorem dX6_counts_2 : decode cX6_counts 2 = .ok (.iload_n 2, 1) := by decide +kernel
theorem dX6_counts_3 : decode cX6_counts 3 = .ok (.sipush 500, 3) := by decide +kernel
theorem dX6_counts_6 : decode cX6_counts 6 = .ok (.if_icmp .ge 16, 3) := by decide +kernel
theorem dX6_counts_9 : decode cX6_counts 9 = .ok (.aload_n 0, 1) := by decide +kernel
theorem dX6_counts_10 : decode cX6_counts 10 = .ok (.getfield 59, 3) := by decide +kernel
theorem dX6_counts_13 : decode cX6_counts 13 = .ok (.iload_n 2, 1) := by decide +kernel
theorem dX6_counts_14 : decode cX6_counts 14 = .ok (.iconst 0, 1) := by decide +kernel
theorem dX6_counts_15 : decode cX6_counts 15 = .ok (.iastore, 1) := by decide +kernel
theorem dX6_counts_16 : decode cX6_counts 16 = .ok (.iinc 2 1, 3) := by decide +kernel
theorem dX6_counts_19 : decode cX6_counts 19 = .ok (.goto (-17), 3) := by decide +kernel
theorem dX6_counts_22 : decode cX6_counts 22 = .ok (.iconst 0, 1) := by decide +kernel
theorem dX6_counts_23 : decode cX6_counts 23 = .ok (.istore_n 2, 1) := by decide +kernel
theorem dX6_counts_24 : decode cX6_counts 24 = .ok (.iload_n 2, 1) := by decide +kernel
theorem dX6_counts_25 : decode cX6_counts 25 = .ok (.aload_n 0, 1) := by decide +kernel
theorem dX6_counts_26 : decode cX6_counts 26 = .ok (.getfield 108, 3) := by decide +kernel
theorem dX6_counts_29 : decode cX6_counts 29 = .ok (.if_icmp .ge 48, 3) := by decide +kernel
theorem dX6_counts_32 : decode cX6_counts 32 = .ok (.iload_n 1, 1) := by decide +kernel
theorem dX6_counts_33 : decode cX6_counts 33 = .ok (.iload_n 2, 1) := by decide +kernel
theorem dX6_counts_34 : decode cX6_counts 34 = .ok (.ishr, 1) := by decide +kernel
theorem dX6_counts_35 : decode cX6_counts 35 = .ok (.iconst 1, 1) := by decide +kernel
theorem dX6_counts_36 : decode cX6_counts 36 = .ok (.iand, 1) := by decide +kernel
theorem dX6_counts_37 : decode cX6_counts 37 = .ok (.ifCond .ne 6, 3) := by decide +kernel
theorem dX6_counts_40 : decode cX6_counts 40 = .ok (.goto 31, 3) := by decide +kernel
theorem dX6_counts_43 : decode cX6_counts 43 = .ok (.aload_n 0, 1) := by decide +kernel
theorem dX6_counts_44 : decode cX6_counts 44 = .ok (.getfield 59, 3) := by decide +kernel
theorem dX6_counts_47 : decode cX6_counts 47 = .ok (.aload_n 0, 1) := by decide +kernel
theorem dX6_counts_48 : decode cX6_counts 48 = .ok (.iload_n 2, 1) := by decide +kernel
theorem dX6_counts_49 : decode cX6_counts 49 = .ok (.invokevirtual 201, 3) := by decide +kernel
theorem dX6_counts_52 : decode cX6_counts 52 = .ok (.dup2, 1) := by decide +kernel
theorem dX6_counts_53 : decode cX6_counts 53 = .ok (.iaload, 1) := by decide +kernel
theorem dX6_counts_54 : decode cX6_counts 54 = .ok (.iconst 1, 1) := by decide +kernel
theorem dX6_counts_55 : decode cX6_counts 55 = .ok (.iadd, 1) := by decide +kernel
theorem dX6_counts_56 : decode cX6_counts 56 = .ok (.iastore, 1) := by decide +kernel
theorem dX6_counts_57 : decode cX6_counts 57 = .ok (.aload_n 0, 1) := by decide +kernel
theorem dX6_counts_58 : decode cX6_counts 58 = .ok (.getfield 59, 3) := by decide +kernel
theorem dX6_counts_61 : decode cX6_counts 61 = .ok (.aload_n 0, 1) := by decide +kernel
theorem dX6_counts_62 : decode cX6_counts 62 = .ok (.iload_n 2, 1) := by decide +kernel
theorem dX6_counts_63 : decode cX6_counts 63 = .ok (.invokevirtual 204, 3) := by decide +kernel
theorem dX6_counts_66 : decode cX6_counts 66 = .ok (.dup2, 1) := by decide +kernel
theorem dX6_counts_67 : decode cX6_counts 67 = .ok (.iaload, 1) := by decide +kernel
theorem dX6_counts_68 : decode cX6_counts 68 = .ok (.iconst 1, 1) := by decide +kernel
theorem dX6_counts_69 : decode cX6_counts 69 = .ok (.isub, 1) := by decide +kernel
theorem dX6_counts_70 : decode cX6_counts 70 = .ok (.iastore, 1) := by decide +kernel
theorem dX6_counts_71 : decode cX6_counts 71 = .ok (.iinc 2 1, 3) := by decide +kernel
theorem dX6_counts_74 : decode cX6_counts 74 = .ok (.goto (-50), 3) := by decide +kernel
theorem dX6_counts_77 : decode cX6_counts 77 = .ok (.return_, 1) := by decide +kernel
set_option maxRecDepth 20000 in
theorem ggX6_hasRow_X6_marks : GoodIn wsX6_hasRow wsX6_marks := goodIn_r _ [12, 1, 2, 13, 14, 6, 15, 16, 17, 18, 11, 19, 20, 21, 22, 23, 24, 25, 30, 31, 32, 33, 34, 35, 36, 37, 38, 39, 40, 41, 42, 43, 44, 45, 46, 47, 48, 49, 50, 51, 52, 53, 54, 55, 56, 57, 58, 59, 60, 61, 62, 63, 64, 65, 66, 67, 68, 69, 70] (by decide +kernel) (by decide +kernel)
set_option maxRecDepth 20000 in
theorem gX6_hasRow_X6_marks : GoodIn wsX6_hasRow (wsV RX6 211 RX6 yX6_marks wsX6_marks) := goodIn_app (goodIn_of _ (by decide +kernel)) ggX6_hasRow_X6_marks
set_option maxRecDepth 20000 in
theorem ggX6_hasRow_X6_counts : GoodIn wsX6_hasRow wsX6_counts := goodIn_r _ [29, 3, 1, 16, 17, 18, 11, 19, 20, 21, 22, 23, 24, 25, 30, 31, 32, 33, 34, 35, 36, 37, 38, 39, 40, 41, 42, 43, 44, 45, 46, 47, 48, 49, 50, 51, 52, 53, 54, 55, 56, 57, 58, 59, 60, 61, 62, 63, 64, 65, 66, 67, 68, 69, 70] (by decide +kernel) (by decide +kernel)
set_option maxRecDepth 20000 in
theorem gX6_hasRow_X6_counts : GoodIn wsX6_hasRow (wsV RX6 214 RX6 yX6_counts wsX6_counts) := goodIn_app (goodIn_of _ (by decide +kernel)) ggX6_hasRow_X6_counts
set_option maxRecDepth 20000 in
theorem ggX6_hasRow_X6_leftOf : GoodIn wsX6_hasRow wsX6_leftOf := goodIn_r _ [19, 20, 30, 31, 32, 33, 34, 35, 36, 37, 38, 39, 40, 41, 42, 43, 44, 45, 46, 47, 48, 49, 50, 51, 52, 53, 54, 55, 56, 57, 58, 59, 60, 61, 62, 63, 64, 65, 66, 67, 68, 69, 70] (by decide +kernel) (by decide +kernel)
set_option maxRecDepth 20000 in
theorem gX6_hasRow_X6_leftOf : GoodIn wsX6_hasRow (wsV RX6 201 RX6 yX6_leftOf wsX6_leftOf) := goodIn_app (goodIn_of _ (by decide +kernel)) ggX6_hasRow_X6_leftOf
theorem dX6_hasRow_0 : decode cX6_hasRow 0 = .ok (.iload_n 1, 1) := by decide +kernel
theorem dX6_hasRow_1 : decode cX6_hasRow 1 = .ok (.ifCond .ne 5, 3) := by decide +kernel
theorem dX6_hasRow_4 : decode cX6_hasRow 4 = .ok (.iconst 1, 1) := by decide +kernel
theorem dX6_hasRow_5 : decode cX6_hasRow 5 = .ok (.ireturn, 1) := by decide +kernel
theorem dX6_hasRow_6 : decode cX6_hasRow 6 = .ok (.aload_n 0, 1) := by decide +kernel
theorem dX6_hasRow_7 : decode cX6_hasRow 7 = .ok (.iload_n 1, 1) := by decide +kernel
theorem dX6_hasRow_8 : decode cX6_hasRow 8 = .ok (.invokevirtual 211, 3) := by decide +kernel
theorem dX6_hasRow_11 : decode cX6_hasRow 11 = .ok (.aload_n 0, 1) := by decide +kernel
theorem dX6_hasRow_12 : decode cX6_hasRow 12 = .ok (.iload_n 1, 1) := by decide +kernel
theorem dX6_hasRow_13 : decode cX6_hasRow 13 = .ok (.invokevirtual 214, 3) := by decide +kernel
theorem dX6_hasRow_16 : decode cX6_hasRow 16 = .ok (.iconst 0, 1) := by decide +kernel
theorem dX6_hasRow_17 : decode cX6_hasRow 17 = .ok (.istore_n 3, 1) := by decide +kernel
theorem dX6_hasRow_18 : decode cX6_hasRow 18 = .ok (.iconst 0, 1) := by decide +kernel
theorem dX6_hasRow_19 : decode cX6_hasRow 19 = .ok (.istore 4, 2) := by decide +kernel
theorem dX6_hasRow_21 : decode cX6_hasRow 21 = .ok (.iconst (-1), 1) := by decide +kernel
theorem dX6_hasRow_22 : decode cX6_hasRow 22 = .ok (.istore 5, 2) := by decide +kernel
theorem dX6_hasRow_24 : decode cX6_hasRow 24 = .ok (.iconst 0, 1) := by decide +kernel
theorem dX6_hasRow_25 : decode cX6_hasRow 25 = .ok (.istore 6, 2) := by decide +kernel
theorem dX6_hasRow_27 : decode cX6_hasRow 27 = .ok (.iconst 0, 1) := by decide +kernel
theorem dX6_hasRow_28 : decode cX6_hasRow 28 = .ok (.istore 7, 2) := by decide +kernel
theorem dX6_hasRow_30 : decode cX6_hasRow 30 = .ok (.iload 7, 2) := by decide +kernel
theorem dX6_hasRow_32 : decode cX6_hasRow 32 = .ok (.aload_n 0, 1) := by decide +kernel
theorem dX6_hasRow_33 : decode cX6_hasRow 33 = .ok (.getfield 108, 3) := by decide +kernel
theorem dX6_hasRow_36 : decode cX6_hasRow 36 = .ok (.if_icmp .ge 79, 3) := by decide +kernel
theorem dX6_hasRow_39 : decode cX6_hasRow 39 = .ok (.iload_n 1, 1) := by decide +kernel
theorem dX6_hasRow_40 : decode cX6_hasRow 40 = .ok (.iload 7, 2) := by decide +kernel
theorem dX6_hasRow_42 : decode cX6_hasRow 42 = .ok (.ishr, 1) := by decide +kernel
theorem dX6_hasRow_43 : decode cX6_hasRow 43 = .ok (.iconst 1, 1) := by decide +kernel
theorem dX6_hasRow_44 : decode cX6_hasRow 44 = .ok (.iand, 1) := by decide +kernel
theorem dX6_hasRow_45 : decode cX6_hasRow 45 = .ok (.ifCond .ne 6, 3) := by decide +kernel
theorem dX6_hasRow_48 : decode cX6_hasRow 48 = .ok (.goto 61, 3) := by decide +kernel
theorem dX6_hasRow_51 : decode cX6_hasRow 51 = .ok (.iload 5, 2) := by decide +kernel
theorem dX6_hasRow_53 : decode cX6_hasRow 53 = .ok (.ifCond .lt 21, 3) := by decide +kernel
theorem dX6_hasRow_56 : decode cX6_hasRow 56 = .ok (.aload_n 0, 1) := by decide +kernel
theorem dX6_hasRow_57 : decode cX6_hasRow 57 = .ok (.getfield 62, 3) := by decide +kernel
theorem dX6_hasRow_60 : decode cX6_hasRow 60 = .ok (.aload_n 0, 1) := by decide +kernel
theorem dX6_hasRow_61 : decode cX6_hasRow 61 = .ok (.iload 7, 2) := by decide +kernel
theorem dX6_hasRow_63 : decode cX6_hasRow 63 = .ok (.invokevirtual 201, 3) := by decide +kernel
theorem dX6_hasRow_66 : decode cX6_hasRow 66 = .ok (.iaload, 1) := by decide +kernel
theorem dX6_hasRow_67 : decode cX6_hasRow 67 = .ok (.iload 5, 2) := by decide +kernel
theorem dX6_hasRow_69 : decode cX6_hasRow 69 = .ok (.if_icmp .eq 5, 3) := by decide +kernel
theorem dX6_hasRow_72 : decode cX6_hasRow 72 = .ok (.iconst 0, 1) := by decide +kernel
theorem dX6_hasRow_73 : decode cX6_hasRow 73 = .ok (.ireturn, 1) := by decide +kernel
theorem dX6_hasRow_74 : decode cX6_hasRow 74 = .ok (.aload_n 0, 1) := by decide +kernel
theorem dX6_hasRow_75 : decode cX6_hasRow 75 = .ok (.getfield 62, 3) := by decide +kernel
theorem dX6_hasRow_78 : decode cX6_hasRow 78 = .ok (.aload_n 0, 1) := by decide +kernel
theorem dX6_hasRow_79 : decode cX6_hasRow 79 = .ok (.iload 7, 2) := by decide +kernel
theorem dX6_hasRow_81 : decode cX6_hasRow 81 = .ok (.invokevirtual 201, 3) := by decide +kernel
theorem dX6_hasRow_84 : decode cX6_hasRow 84 = .ok (.iaload, 1) := by decide +kernel
theorem dX6_hasRow_85 : decode cX6_hasRow 85 = .ok (.istore 5, 2) := by decide +kernel
theorem dX6_hasRow_87 : decode cX6_hasRow 87 = .ok (.iload 6, 2) := by decide +kernel
theorem dX6_hasRow_89 : decode cX6_hasRow 89 = .ok (.ifCond .ne 13, 3) := by decide +kernel
theorem dX6_hasRow_92 : decode cX6_hasRow 92 = .ok (.aload_n 0, 1) := by decide +kernel
theorem dX6_hasRow_93 : decode cX6_hasRow 93 = .ok (.iload 7, 2) := by decide +kernel
theorem dX6_hasRow_95 : decode cX6_hasRow 95 = .ok (.invokevirtual 201, 3) := by decide +kernel
theorem dX6_hasRow_98 : decode cX6_hasRow 98 = .ok (.iload_n 2, 1) := by decide +kernel
theorem dX6_hasRow_99 : decode cX6_hasRow 99 = .ok (.if_icmp .ne 7, 3) := by decide +kernel
theorem dX6_hasRow_102 : decode cX6_hasRow 102 = .ok (.iconst 1, 1) := by decide +kernel
theorem dX6_hasRow_103 : decode cX6_hasRow 103 = .ok (.goto 4, 3) := by decide +kernel
theorem dX6_hasRow_106 : decode cX6_hasRow 106 = .ok (.iconst 0, 1) := by decide +kernel
theorem dX6_hasRow_107 : decode cX6_hasRow 107 = .ok (.istore 6, 2) := by decide +kernel
theorem dX6_hasRow_109 : decode cX6_hasRow 109 = .ok (.iinc 7 1, 3) := by decide +kernel
theorem dX6_hasRow_112 : decode cX6_hasRow 112 = .ok (.goto (-82), 3) := by decide +kernel
theorem dX6_hasRow_115 : decode cX6_hasRow 115 = .ok (.iconst 0, 1) := by decide +kernel
theorem dX6_hasRow_116 : decode cX6_hasRow 116 = .ok (.istore 7, 2) := by decide +kernel
theorem dX6_hasRow_118 : decode cX6_hasRow 118 = .ok (.iload 7, 2) := by decide +kernel
theorem dX6_hasRow_120 : decode cX6_hasRow 120 = .ok (.sipush 500, 3) := by decide +kernel
theorem dX6_hasRow_123 : decode cX6_hasRow 123 = .ok (.if_icmp .ge 38, 3) := by decide +kernel
theorem dX6_hasRow_126 : decode cX6_hasRow 126 = .ok (.iload 4, 2) := by decide +kernel
theorem dX6_hasRow_128 : decode cX6_hasRow 128 = .ok (.iconst 0, 1) := by decide +kernel
theorem dX6_hasRow_129 : decode cX6_hasRow 129 = .ok (.aload_n 0, 1) := by decide +kernel
theorem dX6_hasRow_130 : decode cX6_hasRow 130 = .ok (.getfield 59, 3) := by decide +kernel
theorem dX6_hasRow_133 : decode cX6_hasRow 133 = .ok (.iload 7, 2) := by decide +kernel
theorem dX6_hasRow_135 : decode cX6_hasRow 135 = .ok (.iaload, 1) := by decide +kernel
theorem dX6_hasRow_136 : decode cX6_hasRow 136 = .ok (.invokestatic 217, 3) := by decide +kernel
theorem dX6_hasRow_139 : decode cX6_hasRow 139 = .ok (.iadd, 1) := by decide +kernel
theorem dX6_hasRow_140 : decode cX6_hasRow 140 = .ok (.istore 4, 2) := by decide +kernel
theorem dX6_hasRow_142 : decode cX6_hasRow 142 = .ok (.aload_n 0, 1) := by decide +kernel
theorem dX6_hasRow_143 : decode cX6_hasRow 143 = .ok (.getfield 59, 3) := by decide +kernel
theorem dX6_hasRow_146 : decode cX6_hasRow 146 = .ok (.iload 7, 2) := by decide +kernel
theorem dX6_hasRow_148 : decode cX6_hasRow 148 = .ok (.iaload, 1) := by decide +kernel
theorem dX6_hasRow_149 : decode cX6_hasRow 149 = .ok (.ifCond .le 6, 3) := by decide +kernel
theorem dX6_hasRow_152 : decode cX6_hasRow 152 = .ok (.iload 7, 2) := by decide +kernel
theorem dX6_hasRow_154 : decode cX6_hasRow 154 = .ok (.istore_n 3, 1) := by decide +kernel
theorem dX6_hasRow_155 : decode cX6_hasRow 155 = .ok (.iinc 7 1, 3) := by decide +kernel
theorem dX6_hasRow_158 : decode cX6_hasRow 158 = .ok (.goto (-40), 3) := by decide +kernel
theorem dX6_hasRow_161 : decode cX6_hasRow 161 = .ok (.iload 4, 2) := by decide +kernel
theorem dX6_hasRow_163 : decode cX6_hasRow 163 = .ok (.iconst 1, 1) := by decide +kernel
theorem dX6_hasRow_164 : decode cX6_hasRow 164 = .ok (.if_icmp .le 5, 3) := by decide +kernel
theorem dX6_hasRow_167 : decode cX6_hasRow 167 = .ok (.iconst 0, 1) := by decide +kernel
theorem dX6_hasRow_168 : decode cX6_hasRow 168 = .ok (.ireturn, 1) := by decide +kernel
theorem dX6_hasRow_169 : decode cX6_hasRow 169 = .ok (.iload_n 2, 1) := by decide +kernel
theorem dX6_hasRow_170 : decode cX6_hasRow 170 = .ok (.ifCond .eq 22, 3) := by decide +kernel
theorem dX6_hasRow_173 : decode cX6_hasRow 173 = .ok (.iload 4, 2) := by decide +kernel
theorem dX6_hasRow_175 : decode cX6_hasRow 175 = .ok (.iconst 1, 1) := by decide +kernel
theorem dX6_hasRow_176 : decode cX6_hasRow 176 = .ok (.if_icmp .ne 11, 3) := by decide +kernel
theorem dX6_hasRow_179 : decode cX6_hasRow 179 = .ok (.iload_n 3, 1) := by decide +kernel
theorem dX6_hasRow_180 : decode cX6_hasRow 180 = .ok (.iload_n 2, 1) := by decide +kernel
theorem dX6_hasRow_181 : decode cX6_hasRow 181 = .ok (.if_icmp .ne 15, 3) := by decide +kernel
theorem dX6_hasRow_184 : decode cX6_hasRow 184 = .ok (.goto 8, 3) := by decide +kernel
theorem dX6_hasRow_187 : decode cX6_hasRow 187 = .ok (.iload 6, 2) := by decide +kernel
theorem dX6_hasRow_189 : decode cX6_hasRow 189 = .ok (.ifCond .eq 7, 3) := by decide +kernel
theorem dX6_hasRow_192 : decode cX6_hasRow 192 = .ok (.iconst 1, 1) := by decide +kernel
theorem dX6_hasRow_193 : decode cX6_hasRow 193 = .ok (.goto 4, 3) := by decide +kernel
theorem dX6_hasRow_196 : decode cX6_hasRow 196 = .ok (.iconst 0, 1) := by decide +kernel
theorem dX6_hasRow_197 : decode cX6_hasRow 197 = .ok (.ireturn, 1) := by decide +kernel
set_option maxRecDepth 20000 in
theorem ggX6_finds_X6_hasRow : GoodIn wsX6_finds wsX6_hasRow := goodIn_r _ [7, 8, 9, 10, 11, 12, 13, 14, 15, 16, 17, 6, 18, 19, 20, 21, 22, 23, 24, 25, 26, 27, 28, 29, 30, 31, 32, 33, 34, 35, 40, 41, 42, 43, 44, 45, 46, 47, 48, 49, 50, 51, 52, 53, 54, 55, 56, 57, 58, 59, 60, 61, 62, 63, 64, 65, 66, 67, 68, 69, 70, 71, 72, 73, 74, 75, 76, 77, 78, 79, 80] (by decide +kernel) (by decide +kernel)
set_option maxRecDepth 20000 in
theorem gX6_finds_X6_hasRow : GoodIn wsX6_finds (wsV RX6 219 RX6 yX6_hasRow wsX6_hasRow) := goodIn_app (goodIn_of _ (by decide +kernel)) ggX6_finds_X6_hasRow
set_option maxRecDepth 20000 in
theorem ggX6_finds_X6_isNext : GoodIn wsX6_finds wsX6_isNext := goodIn_r _ [39, 22, 23, 24, 6, 25, 26, 27, 28, 29, 30, 31, 3, 4, 5, 7, 8, 9, 10, 11, 12, 13, 14, 15, 16, 17, 18, 19, 20, 21, 32, 33, 34, 35, 40, 41, 42, 43, 44, 45, 46, 47, 48, 49, 50, 51, 52, 53, 54, 55, 56, 57, 58, 59, 60, 61, 62, 63, 64, 65, 66, 67, 68, 69, 70, 71, 72, 73, 74, 75, 76, 77, 78, 79, 80] (by decide +kernel) (by decide +kernel)
set_option maxRecDepth 20000 in
theorem gX6_finds_X6_isNext : GoodIn wsX6_finds (wsV RX6 225 RX6 yX6_isNext wsX6_isNext) := goodIn_app (goodIn_of _ (by decide +kernel)) ggX6_finds_X6_isNext
set_option maxRecDepth 20000 in
theorem ggX6_finds_X6_rightOf : GoodIn wsX6_finds wsX6_rightOf := goodIn_r _ [30, 31, 40, 41, 42, 43, 44, 45, 46, 47, 48, 49, 50, 51, 52, 53, 54, 55, 56, 57, 58, 59, 60, 61, 62, 63, 64, 65, 66, 67, 68, 69, 70, 71, 72, 73, 74, 75, 76, 77, 78, 79, 80] (by decide +kernel) (by decide +kernel)
set_option maxRecDepth 20000 in
theorem gX6_finds_X6_rightOf : GoodIn wsX6_finds (wsV RX6 204 RX6 yX6_rightOf wsX6_rightOf) := goodIn_app (goodIn_of _ (by decide +kernel)) ggX6_finds_X6_rightOf
theorem dX6_finds_0 : decode cX6_finds 0 = .ok (.aload_n 0, 1) := by decide +kernel
theorem dX6_finds_1 : decode cX6_finds 1 = .ok (.iload_n 1, 1) := by decide +kernel
theorem dX6_finds_2 : decode cX6_finds 2 = .ok (.iconst 0, 1) := by decide +kernel
theorem dX6_finds_3 : decode cX6_finds 3 = .ok (.invokevirtual 219, 3) := by decide +kernel
theorem dX6_finds_6 : decode cX6_finds 6 = .ok (.ifCond .ne 5, 3) := by decide +kernel
theorem dX6_finds_9 : decode cX6_finds 9 = .ok (.iconst 0, 1) := by decide +kernel
theorem dX6_finds_10 : decode cX6_finds 10 = .ok (.ireturn, 1) := by decide +kernel
theorem dX6_finds_11 : decode cX6_finds 11 = .ok (.iload_n 1, 1) := by decide +kernel
theorem dX6_finds_12 : decode cX6_finds 12 = .ok (.istore_n 2, 1) := by decide +kernel
theorem dX6_finds_13 : decode cX6_finds 13 = .ok (.iconst 0, 1) := by decide +kernel
theorem dX6_finds_14 : decode cX6_finds 14 = .ok (.istore_n 3, 1) := by decide +kernel
theorem dX6_finds_15 : decode cX6_finds 15 = .ok (.aload_n 0, 1) := by decide +kernel
theorem dX6_finds_16 : decode cX6_finds 16 = .ok (.iconst 0, 1) := by decide +kernel
theorem dX6_finds_17 : decode cX6_finds 17 = .ok (.putfield 222, 3) := by decide +kernel
theorem dX6_finds_20 : decode cX6_finds 20 = .ok (.iload_n 2, 1) := by decide +kernel
theorem dX6_finds_21 : decode cX6_finds 21 = .ok (.ifCond .eq 63, 3) := by decide +kernel
theorem dX6_finds_24 : decode cX6_finds 24 = .ok (.iconst 0, 1) := by decide +kernel
theorem dX6_finds_25 : decode cX6_finds 25 = .ok (.istore 4, 2) := by decide +kernel
theorem dX6_finds_27 : decode cX6_finds 27 = .ok (.aload_n 0, 1) := by decide +kernel
theorem dX6_finds_28 : decode cX6_finds 28 = .ok (.iload_n 2, 1) := by decide +kernel
theorem dX6_finds_29 : decode cX6_finds 29 = .ok (.iload_n 3, 1) := by decide +kernel
theorem dX6_finds_30 : decode cX6_finds 30 = .ok (.iload 4, 2) := by decide +kernel
theorem dX6_finds_32 : decode cX6_finds 32 = .ok (.invokevirtual 225, 3) := by decide +kernel
theorem dX6_finds_35 : decode cX6_finds 35 = .ok (.ifCond .ne 9, 3) := by decide +kernel
theorem dX6_finds_38 : decode cX6_finds 38 = .ok (.iinc 4 1, 3) := by decide +kernel
theorem dX6_finds_41 : decode cX6_finds 41 = .ok (.goto (-14), 3) := by decide +kernel
theorem dX6_finds_44 : decode cX6_finds 44 = .ok (.aload_n 0, 1) := by decide +kernel
theorem dX6_finds_45 : decode cX6_finds 45 = .ok (.getfield 56, 3) := by decide +kernel
theorem dX6_finds_48 : decode cX6_finds 48 = .ok (.aload_n 0, 1) := by decide +kernel
theorem dX6_finds_49 : decode cX6_finds 49 = .ok (.getfield 222, 3) := by decide +kernel
theorem dX6_finds_52 : decode cX6_finds 52 = .ok (.iload 4, 2) := by decide +kernel
theorem dX6_finds_54 : decode cX6_finds 54 = .ok (.iastore, 1) := by decide +kernel
theorem dX6_finds_55 : decode cX6_finds 55 = .ok (.aload_n 0, 1) := by decide +kernel
theorem dX6_finds_56 : decode cX6_finds 56 = .ok (.dup, 1) := by decide +kernel
theorem dX6_finds_57 : decode cX6_finds 57 = .ok (.getfield 222, 3) := by decide +kernel
theorem dX6_finds_60 : decode cX6_finds 60 = .ok (.iconst 1, 1) := by decide +kernel
theorem dX6_finds_61 : decode cX6_finds 61 = .ok (.iadd, 1) := by decide +kernel
theorem dX6_finds_62 : decode cX6_finds 62 = .ok (.putfield 222, 3) := by decide +kernel
theorem dX6_finds_65 : decode cX6_finds 65 = .ok (.iload_n 2, 1) := by decide +kernel
theorem dX6_finds_66 : decode cX6_finds 66 = .ok (.iconst 1, 1) := by decide +kernel
theorem dX6_finds_67 : decode cX6_finds 67 = .ok (.iload 4, 2) := by decide +kernel
theorem dX6_finds_69 : decode cX6_finds 69 = .ok (.ishl, 1) := by decide +kernel
theorem dX6_finds_70 : decode cX6_finds 70 = .ok (.iconst (-1), 1) := by decide +kernel
theorem dX6_finds_71 : decode cX6_finds 71 = .ok (.ixor, 1) := by decide +kernel
theorem dX6_finds_72 : decode cX6_finds 72 = .ok (.iand, 1) := by decide +kernel
theorem dX6_finds_73 : decode cX6_finds 73 = .ok (.istore_n 2, 1) := by decide +kernel
theorem dX6_finds_74 : decode cX6_finds 74 = .ok (.aload_n 0, 1) := by decide +kernel
theorem dX6_finds_75 : decode cX6_finds 75 = .ok (.iload 4, 2) := by decide +kernel
theorem dX6_finds_77 : decode cX6_finds 77 = .ok (.invokevirtual 204, 3) := by decide +kernel
theorem dX6_finds_80 : decode cX6_finds 80 = .ok (.istore_n 3, 1) := by decide +kernel
theorem dX6_finds_81 : decode cX6_finds 81 = .ok (.goto (-61), 3) := by decide +kernel
theorem dX6_finds_84 : decode cX6_finds 84 = .ok (.iconst 1, 1) := by decide +kernel
theorem dX6_finds_85 : decode cX6_finds 85 = .ok (.ireturn, 1) := by decide +kernel
set_option maxRecDepth 20000 in
theorem ggX6_isNext_X6_leftOf : GoodIn wsX6_isNext wsX6_leftOf := goodIn_r _ [5, 6, 34, 35, 36, 37, 38, 39, 40, 41, 42, 43, 44, 45, 46, 47, 48, 49, 50, 51, 52, 53, 54, 55, 56, 57, 58, 59, 60, 61, 62, 63, 64, 65, 66, 67, 68, 69, 70, 71, 72, 73, 74] (by decide +kernel) (by decide +kernel)
set_option maxRecDepth 20000 in
theorem gX6_isNext_X6_leftOf : GoodIn wsX6_isNext (wsV RX6 201 RX6 yX6_leftOf wsX6_leftOf) := goodIn_app (goodIn_of _ (by decide +kernel)) ggX6_isNext_X6_leftOf
set_option maxRecDepth 20000 in
theorem ggX6_isNext_X6_rightOf : GoodIn wsX6_isNext wsX6_rightOf := goodIn_r _ [10, 11, 34, 35, 36, 37, 38, 39, 40, 41, 42, 43, 44, 45, 46, 47, 48, 49, 50, 51, 52, 53, 54, 55, 56, 57, 58, 59, 60, 61, 62, 63, 64, 65, 66, 67, 68, 69, 70, 71, 72, 73, 74] (by decide +kernel) (by decide +kernel)
set_option maxRecDepth 20000 in
theorem gX6_isNext_X6_rightOf : GoodIn wsX6_isNext (wsV RX6 204 RX6 yX6_rightOf wsX6_rightOf) := goodIn_app (goodIn_of _ (by decide +kernel)) ggX6_isNext_X6_rightOf
set_option maxRecDepth 20000 in
theorem ggX6_isNext_X6_hasRow : GoodIn wsX6_isNext wsX6_hasRow := goodIn_r _ [15, 16, 17, 18, 19, 20, 21, 22, 23, 24, 25, 4, 26, 27, 28, 29, 1, 2, 3, 5, 6, 7, 8, 9, 10, 11, 30, 31, 32, 33, 34, 35, 36, 37, 38, 39, 40, 41, 42, 43, 44, 45, 46, 47, 48, 49, 50, 51, 52, 53, 54, 55, 56, 57, 58, 59, 60, 61, 62, 63, 64, 65, 66, 67, 68, 69, 70, 71, 72, 73, 74] (by decide +kernel) (by decide +kernel)
set_option maxRecDepth 20000 in
theorem gX6_isNext_X6_hasRow : GoodIn wsX6_isNext (wsV RX6 219 RX6 yX6_hasRow wsX6_hasRow) := goodIn_app (goodIn_of _ (by decide +kernel)) ggX6_isNext_X6_hasRow
theorem dX6_isNext_0 : decode cX6_isNext 0 = .ok (.iload_n 1, 1) := by decide +kernel
theorem dX6_isNext_1 : decode cX6_isNext 1 = .ok (.iload_n 3, 1) := by decide +kernel
theorem dX6_isNext_2 : decode cX6_isNext 2 = .ok (.ishr, 1) := by decide +kernel
theorem dX6_isNext_3 : decode cX6_isNext 3 = .ok (.iconst 1, 1) := by decide +kernel
theorem dX6_isNext_4 : decode cX6_isNext 4 = .ok (.iand, 1) := by decide +kernel
theorem dX6_isNext_5 : decode cX6_isNext 5 = .ok (.ifCond .eq 16, 3) := by decide +kernel
theorem dX6_isNext_8 : decode cX6_isNext 8 = .ok (.iload_n 2, 1) := by decide +kernel
theorem dX6_isNext_9 : decode cX6_isNext 9 = .ok (.ifCond .le 14, 3) := by decide +kernel
theorem dX6_isNext_12 : decode cX6_isNext 12 = .ok (.aload_n 0, 1) := by decide +kernel
theorem dX6_isNext_13 : decode cX6_isNext 13 = .ok (.iload_n 3, 1) := by decide +kernel
theorem dX6_isNext_14 : decode cX6_isNext 14 = .ok (.invokevirtual 201, 3) := by decide +kernel
theorem dX6_isNext_17 : decode cX6_isNext 17 = .ok (.iload_n 2, 1) := by decide +kernel
theorem dX6_isNext_18 : decode cX6_isNext 18 = .ok (.if_icmp .eq 5, 3) := by decide +kernel
theorem dX6_isNext_21 : decode cX6_isNext 21 = .ok (.iconst 0, 1) := by decide +kernel
theorem dX6_isNext_22 : decode cX6_isNext 22 = .ok (.ireturn, 1) := by decide +kernel
theorem dX6_isNext_23 : decode cX6_isNext 23 = .ok (.aload_n 0, 1) := by decide +kernel
theorem dX6_isNext_24 : decode cX6_isNext 24 = .ok (.iload_n 1, 1) := by decide +kernel
theorem dX6_isNext_25 : decode cX6_isNext 25 = .ok (.iconst 1, 1) := by decide +kernel
theorem dX6_isNext_26 : decode cX6_isNext 26 = .ok (.iload_n 3, 1) := by decide +kernel
theorem dX6_isNext_27 : decode cX6_isNext 27 = .ok (.ishl, 1) := by decide +kernel
theorem dX6_isNext_28 : decode cX6_isNext 28 = .ok (.iconst (-1), 1) := by decide +kernel
theorem dX6_isNext_29 : decode cX6_isNext 29 = .ok (.ixor, 1) := by decide +kernel
theorem dX6_isNext_30 : decode cX6_isNext 30 = .ok (.iand, 1) := by decide +kernel
theorem dX6_isNext_31 : decode cX6_isNext 31 = .ok (.aload_n 0, 1) := by decide +kernel
theorem dX6_isNext_32 : decode cX6_isNext 32 = .ok (.iload_n 3, 1) := by decide +kernel
theorem dX6_isNext_33 : decode cX6_isNext 33 = .ok (.invokevirtual 204, 3) := by decide +kernel
theorem dX6_isNext_36 : decode cX6_isNext 36 = .ok (.invokevirtual 219, 3) := by decide +kernel
theorem dX6_isNext_39 : decode cX6_isNext 39 = .ok (.ireturn, 1) := by decide +kernel
set_option maxRecDepth 20000 in
theorem ggX6_row_X6_isSet : GoodIn wsX6_row wsX6_isSet := goodIn_r _ [11, 12, 56, 57, 58, 59, 60, 61, 62, 63, 64, 65, 66, 67, 68, 69, 70, 71, 72, 73, 74, 75, 76, 77, 78, 79, 80, 81, 82, 83, 84, 85, 86, 87, 88, 89, 90, 91, 92, 93, 94, 95, 96] (by decide +kernel) (by decide +kernel)
set_option maxRecDepth 20000 in
theorem gX6_row_X6_isSet : GoodIn wsX6_row (wsV RX6 229 RX6 yX6_isSet wsX6_isSet) := goodIn_app (goodIn_of _ (by decide +kernel)) ggX6_row_X6_isSet
set_option maxRecDepth 20000 in
theorem ggX6_row_X6_refuse : GoodIn wsX6_row wsX6_refuse := goodIn_r _ [16, 2, 56, 57, 58, 59, 60, 61, 62, 63, 64, 65, 66, 67, 68, 69, 70, 71, 72, 73, 74, 75, 76, 77, 78, 79, 80, 81, 82, 83, 84, 85, 86, 87, 88, 89, 90, 91, 92, 93, 94, 95, 96] (by decide +kernel) (by decide +kernel)
set_option maxRecDepth 20000 in
theorem gX6_row_X6_refuse : GoodIn wsX6_row (wsV RX6 115 RX6 yX6_refuse wsX6_refuse) := goodIn_app (goodIn_of _ (by decide +kernel)) ggX6_row_X6_refuse
set_option maxRecDepth 20000 in
theorem ggX6_row_X6_finds : GoodIn wsX6_row wsX6_finds := goodIn_r _ [20, 3, 6, 21, 22, 23, 10, 24, 12, 25, 26, 27, 28, 29, 30, 31, 32, 33, 34, 35, 36, 37, 38, 39, 40, 41, 42, 43, 44, 45, 46, 47, 48, 49, 50, 51, 52, 53, 54, 55, 56, 57, 58, 59, 60, 61, 62, 63, 64, 65, 66, 67, 68, 69, 70, 71, 72, 73, 74, 75, 76, 77, 78, 79, 80, 81, 82, 83, 84, 85, 86, 87, 88, 89, 90, 91, 92, 93, 94, 95, 96] (by decide +kernel) (by decide +kernel)
set_option maxRecDepth 20000 in
theorem gX6_row_X6_finds : GoodIn wsX6_row (wsV RX6 232 RX6 yX6_finds wsX6_finds) := goodIn_app (goodIn_of _ (by decide +kernel)) ggX6_row_X6_finds
theorem dX6_row_0 : decode cX6_row 0 = .ok (.aload_n 0, 1) := by decide +kernel
theorem dX6_row_1 : decode cX6_row 1 = .ok (.iconst 0, 1) := by decide +kernel
theorem dX6_row_2 : decode cX6_row 2 = .ok (.putfield 101, 3) := by decide +kernel
theorem dX6_row_5 : decode cX6_row 5 = .ok (.aload_n 0, 1) := by decide +kernel
theorem dX6_row_6 : decode cX6_row 6 = .ok (.iconst 0, 1) := by decide +kernel
theorem dX6_row_7 : decode cX6_row 7 = .ok (.putfield 105, 3) := by decide +kernel
theorem dX6_row_10 : decode cX6_row 10 = .ok (.aload_n 0, 1) := by decide +kernel
theorem dX6_row_11 : decode cX6_row 11 = .ok (.iload_n 1, 1) := by decide +kernel
theorem dX6_row_12 : decode cX6_row 12 = .ok (.invokevirtual 229, 3) := by decide +kernel
theorem dX6_row_15 : decode cX6_row 15 = .ok (.ifCond .eq 7, 3) := by decide +kernel
theorem dX6_row_18 : decode cX6_row 18 = .ok (.iload_n 1, 1) := by decide +kernel
theorem dX6_row_19 : decode cX6_row 19 = .ok (.ifCond .ne 9, 3) := by decide +kernel
theorem dX6_row_22 : decode cX6_row 22 = .ok (.aload_n 0, 1) := by decide +kernel
theorem dX6_row_23 : decode cX6_row 23 = .ok (.iconst 2, 1) := by decide +kernel
theorem dX6_row_24 : decode cX6_row 24 = .ok (.invokevirtual 115, 3) := by decide +kernel
theorem dX6_row_27 : decode cX6_row 27 = .ok (.ireturn, 1) := by decide +kernel
theorem dX6_row_28 : decode cX6_row 28 = .ok (.aload_n 0, 1) := by decide +kernel
theorem dX6_row_29 : decode cX6_row 29 = .ok (.iload_n 1, 1) := by decide +kernel
theorem dX6_row_30 : decode cX6_row 30 = .ok (.invokevirtual 232, 3) := by decide +kernel
theorem dX6_row_33 : decode cX6_row 33 = .ok (.ifCond .ne 10, 3) := by decide +kernel
theorem dX6_row_36 : decode cX6_row 36 = .ok (.aload_n 0, 1) := by decide +kernel
theorem dX6_row_37 : decode cX6_row 37 = .ok (.bipush 7, 2) := by decide +kernel
theorem dX6_row_39 : decode cX6_row 39 = .ok (.invokevirtual 115, 3) := by decide +kernel
theorem dX6_row_42 : decode cX6_row 42 = .ok (.ireturn, 1) := by decide +kernel
theorem dX6_row_43 : decode cX6_row 43 = .ok (.aload_n 0, 1) := by decide +kernel
theorem dX6_row_44 : decode cX6_row 44 = .ok (.aload_n 0, 1) := by decide +kernel
theorem dX6_row_45 : decode cX6_row 45 = .ok (.getfield 222, 3) := by decide +kernel
theorem dX6_row_48 : decode cX6_row 48 = .ok (.putfield 235, 3) := by decide +kernel
theorem dX6_row_51 : decode cX6_row 51 = .ok (.iconst 0, 1) := by decide +kernel
theorem dX6_row_52 : decode cX6_row 52 = .ok (.istore_n 2, 1) := by decide +kernel
theorem dX6_row_53 : decode cX6_row 53 = .ok (.iload_n 2, 1) := by decide +kernel
theorem dX6_row_54 : decode cX6_row 54 = .ok (.aload_n 0, 1) := by decide +kernel
theorem dX6_row_55 : decode cX6_row 55 = .ok (.getfield 222, 3) := by decide +kernel
theorem dX6_row_58 : decode cX6_row 58 = .ok (.if_icmp .ge 21, 3) := by decide +kernel
theorem dX6_row_61 : decode cX6_row 61 = .ok (.aload_n 0, 1) := by decide +kernel
theorem dX6_row_62 : decode cX6_row 62 = .ok (.getfield 53, 3) := by decide +kernel
theorem dX6_row_65 : decode cX6_row 65 = .ok (.iload_n 2, 1) := by decide +kernel
theorem dX6_row_66 : decode cX6_row 66 = .ok (.aload_n 0, 1) := by decide +kernel
theorem dX6_row_67 : decode cX6_row 67 = .ok (.getfield 56, 3) := by decide +kernel
theorem dX6_row_70 : decode cX6_row 70 = .ok (.iload_n 2, 1) := by decide +kernel
theorem dX6_row_71 : decode cX6_row 71 = .ok (.iaload, 1) := by decide +kernel
theorem dX6_row_72 : decode cX6_row 72 = .ok (.iastore, 1) := by decide +kernel
theorem dX6_row_73 : decode cX6_row 73 = .ok (.iinc 2 1, 3) := by decide +kernel
theorem dX6_row_76 : decode cX6_row 76 = .ok (.goto (-23), 3) := by decide +kernel
theorem dX6_row_79 : decode cX6_row 79 = .ok (.aload_n 0, 1) := by decide +kernel
theorem dX6_row_80 : decode cX6_row 80 = .ok (.getfield 235, 3) := by decide +kernel
theorem dX6_row_83 : decode cX6_row 83 = .ok (.ireturn, 1) := by decide +kernel
set_option maxRecDepth 20000 in
theorem ggX6_ring_X6_isSet : GoodIn wsX6_ring wsX6_isSet := goodIn_r _ [9, 10, 54, 55, 56, 57, 58, 59, 60, 61, 62, 63, 64, 65, 66, 67, 68, 69, 70, 71, 72, 73, 74, 75, 76, 77, 78, 79, 80, 81, 82, 83, 84, 85, 86, 87, 88, 89, 90, 91, 92, 93, 94] (by decide +kernel) (by decide +kernel)
set_option maxRecDepth 20000 in
theorem gX6_ring_X6_isSet : GoodIn wsX6_ring (wsV RX6 229 RX6 yX6_isSet wsX6_isSet) := goodIn_app (goodIn_of _ (by decide +kernel)) ggX6_ring_X6_isSet
set_option maxRecDepth 20000 in
theorem ggX6_ring_X6_refuse : GoodIn wsX6_ring wsX6_refuse := goodIn_r _ [14, 2, 54, 55, 56, 57, 58, 59, 60, 61, 62, 63, 64, 65, 66, 67, 68, 69, 70, 71, 72, 73, 74, 75, 76, 77, 78, 79, 80, 81, 82, 83, 84, 85, 86, 87, 88, 89, 90, 91, 92, 93, 94] (by decide +kernel) (by decide +kernel)
set_option maxRecDepth 20000 in
theorem gX6_ring_X6_refuse : GoodIn wsX6_ring (wsV RX6 115 RX6 yX6_refuse wsX6_refuse) := goodIn_app (goodIn_of _ (by decide +kernel)) ggX6_ring_X6_refuse
set_option maxRecDepth 20000 in
theorem ggX6_ring_X6_finds : GoodIn wsX6_ring wsX6_finds := goodIn_r _ [18, 4, 3, 19, 20, 21, 8, 22, 10, 23, 24, 25, 26, 27, 28, 29, 30, 31, 32, 33, 34, 35, 36, 37, 38, 39, 40, 41, 42, 43, 44, 45, 46, 47, 48, 49, 50, 51, 52, 53, 54, 55, 56, 57, 58, 59, 60, 61, 62, 63, 64, 65, 66, 67, 68, 69, 70, 71, 72, 73, 74, 75, 76, 77, 78, 79, 80, 81, 82, 83, 84, 85, 86, 87, 88, 89, 90, 91, 92, 93, 94] (by decide +kernel) (by decide +kernel)
set_option maxRecDepth 20000 in
theorem gX6_ring_X6_finds : GoodIn wsX6_ring (wsV RX6 232 RX6 yX6_finds wsX6_finds) := goodIn_app (goodIn_of _ (by decide +kernel)) ggX6_ring_X6_finds
set_option maxRecDepth 20000 in
theorem ggX6_ring_X6_rightOf : GoodIn wsX6_ring wsX6_rightOf := goodIn_r _ [44, 45, 54, 55, 56, 57, 58, 59, 60, 61, 62, 63, 64, 65, 66, 67, 68, 69, 70, 71, 72, 73, 74, 75, 76, 77, 78, 79, 80, 81, 82, 83, 84, 85, 86, 87, 88, 89, 90, 91, 92, 93, 94] (by decide +kernel) (by decide +kernel)
set_option maxRecDepth 20000 in
theorem gX6_ring_X6_rightOf : GoodIn wsX6_ring (wsV RX6 204 RX6 yX6_rightOf wsX6_rightOf) := goodIn_app (goodIn_of _ (by decide +kernel)) ggX6_ring_X6_rightOf
set_option maxRecDepth 20000 in
theorem ggX6_ring_X6_leftOf : GoodIn wsX6_ring wsX6_leftOf := goodIn_r _ [39, 40, 54, 55, 56, 57, 58, 59, 60, 61, 62, 63, 64, 65, 66, 67, 68, 69, 70, 71, 72, 73, 74, 75, 76, 77, 78, 79, 80, 81, 82, 83, 84, 85, 86, 87, 88, 89, 90, 91, 92, 93, 94] (by decide +kernel) (by decide +kernel)
set_option maxRecDepth 20000 in
theorem gX6_ring_X6_leftOf : GoodIn wsX6_ring (wsV RX6 201 RX6 yX6_leftOf wsX6_leftOf) := goodIn_app (goodIn_of _ (by decide +kernel)) ggX6_ring_X6_leftOf
theorem dX6_ring_0 : decode cX6_ring 0 = .ok (.aload_n 0, 1) := by decide +kernel
theorem dX6_ring_1 : decode cX6_ring 1 = .ok (.iconst 0, 1) := by decide +kernel
theorem dX6_ring_2 : decode cX6_ring 2 = .ok (.putfield 101, 3) := by decide +kernel
theorem dX6_ring_5 : decode cX6_ring 5 = .ok (.aload_n 0, 1) := by decide +kernel
theorem dX6_ring_6 : decode cX6_ring 6 = .ok (.iconst 0, 1) := by decide +kernel
theorem dX6_ring_7 : decode cX6_ring 7 = .ok (.putfield 105, 3) := by decide +kernel
theorem dX6_ring_10 : decode cX6_ring 10 = .ok (.aload_n 0, 1) := by decide +kernel
theorem dX6_ring_11 : decode cX6_ring 11 = .ok (.iload_n 1, 1) := by decide +kernel
theorem dX6_ring_12 : decode cX6_ring 12 = .ok (.invokevirtual 229, 3) := by decide +kernel
theorem dX6_ring_15 : decode cX6_ring 15 = .ok (.ifCond .eq 7, 3) := by decide +kernel
theorem dX6_ring_18 : decode cX6_ring 18 = .ok (.iload_n 1, 1) := by decide +kernel
theorem dX6_ring_19 : decode cX6_ring 19 = .ok (.ifCond .ne 9, 3) := by decide +kernel
theorem dX6_ring_22 : decode cX6_ring 22 = .ok (.aload_n 0, 1) := by decide +kernel
theorem dX6_ring_23 : decode cX6_ring 23 = .ok (.iconst 2, 1) := by decide +kernel
theorem dX6_ring_24 : decode cX6_ring 24 = .ok (.invokevirtual 115, 3) := by decide +kernel
theorem dX6_ring_27 : decode cX6_ring 27 = .ok (.ireturn, 1) := by decide +kernel
theorem dX6_ring_28 : decode cX6_ring 28 = .ok (.aload_n 0, 1) := by decide +kernel
theorem dX6_ring_29 : decode cX6_ring 29 = .ok (.iload_n 1, 1) := by decide +kernel
theorem dX6_ring_30 : decode cX6_ring 30 = .ok (.invokevirtual 232, 3) := by decide +kernel
theorem dX6_ring_33 : decode cX6_ring 33 = .ok (.ifCond .ne 10, 3) := by decide +kernel
theorem dX6_ring_36 : decode cX6_ring 36 = .ok (.aload_n 0, 1) := by decide +kernel
theorem dX6_ring_37 : decode cX6_ring 37 = .ok (.bipush 7, 2) := by decide +kernel
theorem dX6_ring_39 : decode cX6_ring 39 = .ok (.invokevirtual 115, 3) := by decide +kernel
theorem dX6_ring_42 : decode cX6_ring 42 = .ok (.ireturn, 1) := by decide +kernel
theorem dX6_ring_43 : decode cX6_ring 43 = .ok (.aload_n 0, 1) := by decide +kernel
theorem dX6_ring_44 : decode cX6_ring 44 = .ok (.aload_n 0, 1) := by decide +kernel
theorem dX6_ring_45 : decode cX6_ring 45 = .ok (.getfield 56, 3) := by decide +kernel
theorem dX6_ring_48 : decode cX6_ring 48 = .ok (.aload_n 0, 1) := by decide +kernel
theorem dX6_ring_49 : decode cX6_ring 49 = .ok (.getfield 222, 3) := by decide +kernel
theorem dX6_ring_52 : decode cX6_ring 52 = .ok (.iconst 1, 1) := by decide +kernel
theorem dX6_ring_53 : decode cX6_ring 53 = .ok (.isub, 1) := by decide +kernel
theorem dX6_ring_54 : decode cX6_ring 54 = .ok (.iaload, 1) := by decide +kernel
theorem dX6_ring_55 : decode cX6_ring 55 = .ok (.invokevirtual 204, 3) := by decide +kernel
theorem dX6_ring_58 : decode cX6_ring 58 = .ok (.aload_n 0, 1) := by decide +kernel
theorem dX6_ring_59 : decode cX6_ring 59 = .ok (.aload_n 0, 1) := by decide +kernel
theorem dX6_ring_60 : decode cX6_ring 60 = .ok (.getfield 56, 3) := by decide +kernel
theorem dX6_ring_63 : decode cX6_ring 63 = .ok (.iconst 0, 1) := by decide +kernel
theorem dX6_ring_64 : decode cX6_ring 64 = .ok (.iaload, 1) := by decide +kernel
theorem dX6_ring_65 : decode cX6_ring 65 = .ok (.invokevirtual 201, 3) := by decide +kernel
theorem dX6_ring_68 : decode cX6_ring 68 = .ok (.if_icmp .ne 7, 3) := by decide +kernel
theorem dX6_ring_71 : decode cX6_ring 71 = .ok (.iconst 1, 1) := by decide +kernel
theorem dX6_ring_72 : decode cX6_ring 72 = .ok (.goto 4, 3) := by decide +kernel
theorem dX6_ring_75 : decode cX6_ring 75 = .ok (.iconst 0, 1) := by decide +kernel
theorem dX6_ring_76 : decode cX6_ring 76 = .ok (.ireturn, 1) := by decide +kernel
set_option maxRecDepth 20000 in
theorem ggX6_rows_X6_isSet : GoodIn wsX6_rows wsX6_isSet := goodIn_r _ [14, 3, 44, 45, 46, 47, 48, 49, 50, 51, 52, 53, 54, 55, 56, 57, 58, 59, 60, 61, 62, 63, 64, 65, 66, 67, 68, 69, 70, 71, 72, 73, 74, 75, 76, 77, 78, 79, 80, 81, 82, 83, 84] (by decide +kernel) (by decide +kernel)
set_option maxRecDepth 20000 in
theorem gX6_rows_X6_isSet : GoodIn wsX6_rows (wsV RX6 229 RX6 yX6_isSet wsX6_isSet) := goodIn_app (goodIn_of _ (by decide +kernel)) ggX6_rows_X6_isSet
set_option maxRecDepth 20000 in
theorem ggX6_rows_X6_refuse : GoodIn wsX6_rows wsX6_refuse := goodIn_r _ [18, 2, 44, 45, 46, 47, 48, 49, 50, 51, 52, 53, 54, 55, 56, 57, 58, 59, 60, 61, 62, 63, 64, 65, 66, 67, 68, 69, 70, 71, 72, 73, 74, 75, 76, 77, 78, 79, 80, 81, 82, 83, 84] (by decide +kernel) (by decide +kernel)
set_option maxRecDepth 20000 in
theorem gX6_rows_X6_refuse : GoodIn wsX6_rows (wsV RX6 115 RX6 yX6_refuse wsX6_refuse) := goodIn_app (goodIn_of _ (by decide +kernel)) ggX6_rows_X6_refuse
set_option maxRecDepth 20000 in
theorem ggX6_rows_X6_marks : GoodIn wsX6_rows wsX6_marks := goodIn_r _ [22, 3, 4, 23, 24, 8, 25, 26, 27, 28, 13, 29, 30, 31, 32, 33, 34, 35, 44, 45, 46, 47, 48, 49, 50, 51, 52, 53, 54, 55, 56, 57, 58, 59, 60, 61, 62, 63, 64, 65, 66, 67, 68, 69, 70, 71, 72, 73, 74, 75, 76, 77, 78, 79, 80, 81, 82, 83, 84] (by decide +kernel) (by decide +kernel)
set_option maxRecDepth 20000 in
theorem gX6_rows_X6_marks : GoodIn wsX6_rows (wsV RX6 211 RX6 yX6_marks wsX6_marks) := goodIn_app (goodIn_of _ (by decide +kernel)) ggX6_rows_X6_marks
set_option maxRecDepth 20000 in
theorem ggX6_rows_X6_counts : GoodIn wsX6_rows wsX6_counts := goodIn_r _ [39, 5, 3, 26, 27, 28, 13, 29, 30, 31, 32, 33, 34, 35, 44, 45, 46, 47, 48, 49, 50, 51, 52, 53, 54, 55, 56, 57, 58, 59, 60, 61, 62, 63, 64, 65, 66, 67, 68, 69, 70, 71, 72, 73, 74, 75, 76, 77, 78, 79, 80, 81, 82, 83, 84] (by decide +kernel) (by decide +kernel)
set_option maxRecDepth 20000 in
theorem gX6_rows_X6_counts : GoodIn wsX6_rows (wsV RX6 214 RX6 yX6_counts wsX6_counts) := goodIn_app (goodIn_of _ (by decide +kernel)) ggX6_rows_X6_counts
set_option maxRecDepth 20000 in
theorem ggX6_rows_X6_leftOf : GoodIn wsX6_rows wsX6_leftOf := goodIn_r _ [29, 30, 44, 45, 46, 47, 48, 49, 50, 51, 52, 53, 54, 55, 56, 57, 58, 59, 60, 61, 62, 63, 64, 65, 66, 67, 68, 69, 70, 71, 72, 73, 74, 75, 76, 77, 78, 79, 80, 81, 82, 83, 84] (by decide +kernel) (by decide +kernel)
set_option maxRecDepth 20000 in
theorem gX6_rows_X6_leftOf : GoodIn wsX6_rows (wsV RX6 201 RX6 yX6_leftOf wsX6_leftOf) := goodIn_app (goodIn_of _ (by decide +kernel)) ggX6_rows_X6_leftOf
set_option maxRecDepth 20000 in
theorem ggX6_rows_X6_isEdge : GoodIn wsX6_rows wsX6_isEdge := goodIn_r _ [43, 3, 26, 27, 28, 13, 29, 30, 31, 32, 33, 34, 35, 44, 45, 46, 47, 48, 49, 50, 51, 52, 53, 54, 55, 56, 57, 58, 59, 60, 61, 62, 63, 64, 65, 66, 67, 68, 69, 70, 71, 72, 73, 74, 75, 76, 77, 78, 79, 80, 81, 82, 83, 84] (by decide +kernel) (by decide +kernel)
set_option maxRecDepth 20000 in
theorem gX6_rows_X6_isEdge : GoodIn wsX6_rows (wsV RX6 238 RX6 yX6_isEdge wsX6_isEdge) := goodIn_app (goodIn_of _ (by decide +kernel)) ggX6_rows_X6_isEdge
theorem dX6_rows_0 : decode cX6_rows 0 = .ok (.aload_n 0, 1) := by decide +kernel
theorem dX6_rows_1 : decode cX6_rows 1 = .ok (.iconst 0, 1) := by decide +kernel
theorem dX6_rows_2 : decode cX6_rows 2 = .ok (.putfield 101, 3) := by decide +kernel
theorem dX6_rows_5 : decode cX6_rows 5 = .ok (.aload_n 0, 1) := by decide +kernel
theorem dX6_rows_6 : decode cX6_rows 6 = .ok (.iconst 0, 1) := by decide +kernel
theorem dX6_rows_7 : decode cX6_rows 7 = .ok (.putfield 105, 3) := by decide +kernel
theorem dX6_rows_10 : decode cX6_rows 10 = .ok (.aload_n 0, 1) := by decide +kernel
theorem dX6_rows_11 : decode cX6_rows 11 = .ok (.iload_n 1, 1) := by decide +kernel
theorem dX6_rows_12 : decode cX6_rows 12 = .ok (.invokevirtual 229, 3) := by decide +kernel
theorem dX6_rows_15 : decode cX6_rows 15 = .ok (.ifCond .ne 9, 3) := by decide +kernel
theorem dX6_rows_18 : decode cX6_rows 18 = .ok (.aload_n 0, 1) := by decide +kernel
theorem dX6_rows_19 : decode cX6_rows 19 = .ok (.iconst 2, 1) := by decide +kernel
theorem dX6_rows_20 : decode cX6_rows 20 = .ok (.invokevirtual 115, 3) := by decide +kernel
theorem dX6_rows_23 : decode cX6_rows 23 = .ok (.ireturn, 1) := by decide +kernel
theorem dX6_rows_24 : decode cX6_rows 24 = .ok (.aload_n 0, 1) := by decide +kernel
theorem dX6_rows_25 : decode cX6_rows 25 = .ok (.iload_n 1, 1) := by decide +kernel
theorem dX6_rows_26 : decode cX6_rows 26 = .ok (.invokevirtual 211, 3) := by decide +kernel
theorem dX6_rows_29 : decode cX6_rows 29 = .ok (.aload_n 0, 1) := by decide +kernel
theorem dX6_rows_30 : decode cX6_rows 30 = .ok (.iload_n 1, 1) := by decide +kernel
theorem dX6_rows_31 : decode cX6_rows 31 = .ok (.invokevirtual 214, 3) := by decide +kernel
theorem dX6_rows_34 : decode cX6_rows 34 = .ok (.iconst 0, 1) := by decide +kernel
theorem dX6_rows_35 : decode cX6_rows 35 = .ok (.istore_n 2, 1) := by decide +kernel
theorem dX6_rows_36 : decode cX6_rows 36 = .ok (.iconst 0, 1) := by decide +kernel
theorem dX6_rows_37 : decode cX6_rows 37 = .ok (.istore_n 3, 1) := by decide +kernel
theorem dX6_rows_38 : decode cX6_rows 38 = .ok (.iload_n 3, 1) := by decide +kernel
theorem dX6_rows_39 : decode cX6_rows 39 = .ok (.sipush 300, 3) := by decide +kernel
theorem dX6_rows_42 : decode cX6_rows 42 = .ok (.if_icmp .ge 145, 3) := by decide +kernel
theorem dX6_rows_45 : decode cX6_rows 45 = .ok (.iconst 0, 1) := by decide +kernel
theorem dX6_rows_46 : decode cX6_rows 46 = .ok (.istore 4, 2) := by decide +kernel
theorem dX6_rows_48 : decode cX6_rows 48 = .ok (.iconst 0, 1) := by decide +kernel
theorem dX6_rows_49 : decode cX6_rows 49 = .ok (.istore 5, 2) := by decide +kernel
theorem dX6_rows_51 : decode cX6_rows 51 = .ok (.iconst 0, 1) := by decide +kernel
theorem dX6_rows_52 : decode cX6_rows 52 = .ok (.istore 6, 2) := by decide +kernel
theorem dX6_rows_54 : decode cX6_rows 54 = .ok (.iload 6, 2) := by decide +kernel
theorem dX6_rows_56 : decode cX6_rows 56 = .ok (.aload_n 0, 1) := by decide +kernel
theorem dX6_rows_57 : decode cX6_rows 57 = .ok (.getfield 108, 3) := by decide +kernel
theorem dX6_rows_60 : decode cX6_rows 60 = .ok (.if_icmp .ge 46, 3) := by decide +kernel
theorem dX6_rows_63 : decode cX6_rows 63 = .ok (.iload 5, 2) := by decide +kernel
theorem dX6_rows_65 : decode cX6_rows 65 = .ok (.ifCond .ne 28, 3) := by decide +kernel
theorem dX6_rows_68 : decode cX6_rows 68 = .ok (.iload_n 1, 1) := by decide +kernel
theorem dX6_rows_69 : decode cX6_rows 69 = .ok (.iload 6, 2) := by decide +kernel
theorem dX6_rows_71 : decode cX6_rows 71 = .ok (.ishr, 1) := by decide +kernel
theorem dX6_rows_72 : decode cX6_rows 72 = .ok (.iconst 1, 1) := by decide +kernel
theorem dX6_rows_73 : decode cX6_rows 73 = .ok (.iand, 1) := by decide +kernel
theorem dX6_rows_74 : decode cX6_rows 74 = .ok (.iconst 1, 1) := by decide +kernel
theorem dX6_rows_75 : decode cX6_rows 75 = .ok (.if_icmp .ne 22, 3) := by decide +kernel
theorem dX6_rows_78 : decode cX6_rows 78 = .ok (.aload_n 0, 1) := by decide +kernel
theorem dX6_rows_79 : decode cX6_rows 79 = .ok (.getfield 62, 3) := by decide +kernel
theorem dX6_rows_82 : decode cX6_rows 82 = .ok (.aload_n 0, 1) := by decide +kernel
theorem dX6_rows_83 : decode cX6_rows 83 = .ok (.iload 6, 2) := by decide +kernel
theorem dX6_rows_85 : decode cX6_rows 85 = .ok (.invokevirtual 201, 3) := by decide +kernel
theorem dX6_rows_88 : decode cX6_rows 88 = .ok (.iaload, 1) := by decide +kernel
theorem dX6_rows_89 : decode cX6_rows 89 = .ok (.iload_n 3, 1) := by decide +kernel
theorem dX6_rows_90 : decode cX6_rows 90 = .ok (.if_icmp .ne 7, 3) := by decide +kernel
theorem dX6_rows_93 : decode cX6_rows 93 = .ok (.iconst 1, 1) := by decide +kernel
theorem dX6_rows_94 : decode cX6_rows 94 = .ok (.goto 4, 3) := by decide +kernel
theorem dX6_rows_97 : decode cX6_rows 97 = .ok (.iconst 0, 1) := by decide +kernel
theorem dX6_rows_98 : decode cX6_rows 98 = .ok (.istore 5, 2) := by decide +kernel
theorem dX6_rows_100 : decode cX6_rows 100 = .ok (.iinc 6 1, 3) := by decide +kernel
theorem dX6_rows_103 : decode cX6_rows 103 = .ok (.goto (-49), 3) := by decide +kernel
theorem dX6_rows_106 : decode cX6_rows 106 = .ok (.iload 5, 2) := by decide +kernel
theorem dX6_rows_108 : decode cX6_rows 108 = .ok (.ifCond .ne 6, 3) := by decide +kernel
theorem dX6_rows_111 : decode cX6_rows 111 = .ok (.goto 70, 3) := by decide +kernel
theorem dX6_rows_114 : decode cX6_rows 114 = .ok (.iconst 0, 1) := by decide +kernel
theorem dX6_rows_115 : decode cX6_rows 115 = .ok (.istore 6, 2) := by decide +kernel
theorem dX6_rows_117 : decode cX6_rows 117 = .ok (.iload 6, 2) := by decide +kernel
theorem dX6_rows_119 : decode cX6_rows 119 = .ok (.sipush 300, 3) := by decide +kernel
theorem dX6_rows_122 : decode cX6_rows 122 = .ok (.if_icmp .ge 50, 3) := by decide +kernel
theorem dX6_rows_125 : decode cX6_rows 125 = .ok (.iload 4, 2) := by decide +kernel
theorem dX6_rows_127 : decode cX6_rows 127 = .ok (.aload_n 0, 1) := by decide +kernel
theorem dX6_rows_128 : decode cX6_rows 128 = .ok (.iload_n 1, 1) := by decide +kernel
theorem dX6_rows_129 : decode cX6_rows 129 = .ok (.iload 6, 2) := by decide +kernel
theorem dX6_rows_131 : decode cX6_rows 131 = .ok (.invokevirtual 238, 3) := by decide +kernel
theorem dX6_rows_134 : decode cX6_rows 134 = .ok (.ifCond .eq 28, 3) := by decide +kernel
theorem dX6_rows_137 : decode cX6_rows 137 = .ok (.aload_n 0, 1) := by decide +kernel
theorem dX6_rows_138 : decode cX6_rows 138 = .ok (.getfield 62, 3) := by decide +kernel
theorem dX6_rows_141 : decode cX6_rows 141 = .ok (.iload 6, 2) := by decide +kernel
theorem dX6_rows_143 : decode cX6_rows 143 = .ok (.iaload, 1) := by decide +kernel
theorem dX6_rows_144 : decode cX6_rows 144 = .ok (.iload_n 3, 1) := by decide +kernel
theorem dX6_rows_145 : decode cX6_rows 145 = .ok (.if_icmp .ne 17, 3) := by decide +kernel
theorem dX6_rows_148 : decode cX6_rows 148 = .ok (.iconst 0, 1) := by decide +kernel
theorem dX6_rows_149 : decode cX6_rows 149 = .ok (.aload_n 0, 1) := by decide +kernel
theorem dX6_rows_150 : decode cX6_rows 150 = .ok (.getfield 59, 3) := by decide +kernel
theorem dX6_rows_153 : decode cX6_rows 153 = .ok (.iload 6, 2) := by decide +kernel
theorem dX6_rows_155 : decode cX6_rows 155 = .ok (.iaload, 1) := by decide +kernel
theorem dX6_rows_156 : decode cX6_rows 156 = .ok (.invokestatic 217, 3) := by decide +kernel
theorem dX6_rows_159 : decode cX6_rows 159 = .ok (.goto 4, 3) := by decide +kernel
theorem dX6_rows_162 : decode cX6_rows 162 = .ok (.iconst 0, 1) := by decide +kernel
theorem dX6_rows_163 : decode cX6_rows 163 = .ok (.iadd, 1) := by decide +kernel
theorem dX6_rows_164 : decode cX6_rows 164 = .ok (.istore 4, 2) := by decide +kernel
theorem dX6_rows_166 : decode cX6_rows 166 = .ok (.iinc 6 1, 3) := by decide +kernel
theorem dX6_rows_169 : decode cX6_rows 169 = .ok (.goto (-52), 3) := by decide +kernel
theorem dX6_rows_172 : decode cX6_rows 172 = .ok (.iload_n 2, 1) := by decide +kernel
theorem dX6_rows_173 : decode cX6_rows 173 = .ok (.iconst 1, 1) := by decide +kernel
theorem dX6_rows_174 : decode cX6_rows 174 = .ok (.iload 4, 2) := by decide +kernel
theorem dX6_rows_176 : decode cX6_rows 176 = .ok (.invokestatic 217, 3) := by decide +kernel
theorem dX6_rows_179 : decode cX6_rows 179 = .ok (.iadd, 1) := by decide +kernel
theorem dX6_rows_180 : decode cX6_rows 180 = .ok (.istore_n 2, 1) := by decide +kernel
theorem dX6_rows_181 : decode cX6_rows 181 = .ok (.iinc 3 1, 3) := by decide +kernel
theorem dX6_rows_184 : decode cX6_rows 184 = .ok (.goto (-146), 3) := by decide +kernel
theorem dX6_rows_187 : decode cX6_rows 187 = .ok (.iload_n 2, 1) := by decide +kernel
theorem dX6_rows_188 : decode cX6_rows 188 = .ok (.ireturn, 1) := by decide +kernel
set_option maxRecDepth 20000 in
theorem ggX6_isEdge_X6_leftOf : GoodIn wsX6_isEdge wsX6_leftOf := goodIn_r _ [6, 7, 13, 14, 15, 16, 17, 18, 19, 20, 21, 22, 23, 24, 25, 26, 27, 28, 29, 30, 31, 32, 33, 34, 35, 36, 37, 38, 39, 40, 41, 42, 43, 44, 45, 46, 47, 48, 49, 50, 51, 52, 53] (by decide +kernel) (by decide +kernel)
set_option maxRecDepth 20000 in
theorem gX6_isEdge_X6_leftOf : GoodIn wsX6_isEdge (wsV RX6 201 RX6 yX6_leftOf wsX6_leftOf) := goodIn_app (goodIn_of _ (by decide +kernel)) ggX6_isEdge_X6_leftOf
set_option maxRecDepth 20000 in
theorem ggX6_isEdge_X6_rightOf : GoodIn wsX6_isEdge wsX6_rightOf := goodIn_r _ [11, 12, 13, 14, 15, 16, 17, 18, 19, 20, 21, 22, 23, 24, 25, 26, 27, 28, 29, 30, 31, 32, 33, 34, 35, 36, 37, 38, 39, 40, 41, 42, 43, 44, 45, 46, 47, 48, 49, 50, 51, 52, 53] (by decide +kernel) (by decide +kernel)
set_option maxRecDepth 20000 in
theorem gX6_isEdge_X6_rightOf : GoodIn wsX6_isEdge (wsV RX6 204 RX6 yX6_rightOf wsX6_rightOf) := goodIn_app (goodIn_of _ (by decide +kernel)) ggX6_isEdge_X6_rightOf
theorem dX6_isEdge_0 : decode cX6_isEdge 0 = .ok (.iconst 0, 1) := by decide +kernel
theorem dX6_isEdge_1 : decode cX6_isEdge 1 = .ok (.istore_n 3, 1) := by decide +kernel
theorem dX6_isEdge_2 : decode cX6_isEdge 2 = .ok (.iload_n 3, 1) := by decide +kernel
theorem dX6_isEdge_3 : decode cX6_isEdge 3 = .ok (.aload_n 0, 1) := by decide +kernel
theorem dX6_isEdge_4 : decode cX6_isEdge 4 = .ok (.getfield 108, 3) := by decide +kernel
theorem dX6_isEdge_7 : decode cX6_isEdge 7 = .ok (.if_icmp .ge 38, 3) := by decide +kernel
theorem dX6_isEdge_10 : decode cX6_isEdge 10 = .ok (.iload_n 1, 1) := by decide +kernel
theorem dX6_isEdge_11 : decode cX6_isEdge 11 = .ok (.iload_n 3, 1) := by decide +kernel
theorem dX6_isEdge_12 : decode cX6_isEdge 12 = .ok (.ishr, 1) := by decide +kernel
theorem dX6_isEdge_13 : decode cX6_isEdge 13 = .ok (.iconst 1, 1) := by decide +kernel
theorem dX6_isEdge_14 : decode cX6_isEdge 14 = .ok (.iand, 1) := by decide +kernel
theorem dX6_isEdge_15 : decode cX6_isEdge 15 = .ok (.iconst 1, 1) := by decide +kernel
theorem dX6_isEdge_16 : decode cX6_isEdge 16 = .ok (.if_icmp .ne 23, 3) := by decide +kernel
theorem dX6_isEdge_19 : decode cX6_isEdge 19 = .ok (.aload_n 0, 1) := by decide +kernel
theorem dX6_isEdge_20 : decode cX6_isEdge 20 = .ok (.iload_n 3, 1) := by decide +kernel
theorem dX6_isEdge_21 : decode cX6_isEdge 21 = .ok (.invokevirtual 201, 3) := by decide +kernel
theorem dX6_isEdge_24 : decode cX6_isEdge 24 = .ok (.iload_n 2, 1) := by decide +kernel
theorem dX6_isEdge_25 : decode cX6_isEdge 25 = .ok (.if_icmp .eq 12, 3) := by decide +kernel
theorem dX6_isEdge_28 : decode cX6_isEdge 28 = .ok (.aload_n 0, 1) := by decide +kernel
theorem dX6_isEdge_29 : decode cX6_isEdge 29 = .ok (.iload_n 3, 1) := by decide +kernel
theorem dX6_isEdge_30 : decode cX6_isEdge 30 = .ok (.invokevirtual 204, 3) := by decide +kernel
theorem dX6_isEdge_33 : decode cX6_isEdge 33 = .ok (.iload_n 2, 1) := by decide +kernel
theorem dX6_isEdge_34 : decode cX6_isEdge 34 = .ok (.if_icmp .ne 5, 3) := by decide +kernel
theorem dX6_isEdge_37 : decode cX6_isEdge 37 = .ok (.iconst 1, 1) := by decide +kernel
theorem dX6_isEdge_38 : decode cX6_isEdge 38 = .ok (.ireturn, 1) := by decide +kernel
theorem dX6_isEdge_39 : decode cX6_isEdge 39 = .ok (.iinc 3 1, 3) := by decide +kernel
theorem dX6_isEdge_42 : decode cX6_isEdge 42 = .ok (.goto (-40), 3) := by decide +kernel
theorem dX6_isEdge_45 : decode cX6_isEdge 45 = .ok (.iconst 0, 1) := by decide +kernel
theorem dX6_isEdge_46 : decode cX6_isEdge 46 = .ok (.ireturn, 1) := by decide +kernel
theorem dX6_out_0 : decode cX6_out 0 = .ok (.aload_n 0, 1) := by decide +kernel
theorem dX6_out_1 : decode cX6_out 1 = .ok (.iconst 0, 1) := by decide +kernel
theorem dX6_out_2 : decode cX6_out 2 = .ok (.putfield 101, 3) := by decide +kernel
theorem dX6_out_5 : decode cX6_out 5 = .ok (.iload_n 1, 1) := by decide +kernel
theorem dX6_out_6 : decode cX6_out 6 = .ok (.ifCond .lt 20, 3) := by decide +kernel
theorem dX6_out_9 : decode cX6_out 9 = .ok (.iload_n 1, 1) := by decide +kernel
theorem dX6_out_10 : decode cX6_out 10 = .ok (.aload_n 0, 1) := by decide +kernel
theorem dX6_out_11 : decode cX6_out 11 = .ok (.getfield 235, 3) := by decide +kernel
theorem dX6_out_14 : decode cX6_out 14 = .ok (.if_icmp .ge 12, 3) := by decide +kernel
theorem dX6_out_17 : decode cX6_out 17 = .ok (.aload_n 0, 1) := by decide +kernel
theorem dX6_out_18 : decode cX6_out 18 = .ok (.getfield 53, 3) := by decide +kernel
theorem dX6_out_21 : decode cX6_out 21 = .ok (.iload_n 1, 1) := by decide +kernel
theorem dX6_out_22 : decode cX6_out 22 = .ok (.iaload, 1) := by decide +kernel
theorem dX6_out_23 : decode cX6_out 23 = .ok (.goto 4, 3) := by decide +kernel
theorem dX6_out_26 : decode cX6_out 26 = .ok (.iconst (-1), 1) := by decide +kernel
theorem dX6_out_27 : decode cX6_out 27 = .ok (.ireturn, 1) := by decide +kernel
set_option maxRecDepth 20000 in
theorem ggX6_want_X6_isPlate : GoodIn wsX6_want wsX6_isPlate := goodIn_r _ [10, 11, 16, 17, 18, 19, 20, 21, 22, 23, 24, 25, 26, 27, 28, 29, 30, 31, 32, 33, 34, 35, 36, 37, 38, 39, 40, 41, 42, 43, 44, 45, 46, 47, 48, 49, 50, 51, 52, 53, 54, 55, 56] (by decide +kernel) (by decide +kernel)
set_option maxRecDepth 20000 in
theorem gX6_want_X6_isPlate : GoodIn wsX6_want (wsV RX6 122 RX6 yX6_isPlate wsX6_isPlate) := goodIn_app (goodIn_of _ (by decide +kernel)) ggX6_want_X6_isPlate
set_option maxRecDepth 20000 in
theorem ggX6_want_X6_no : GoodIn wsX6_want wsX6_no := goodIn_r _ [15, 2, 16, 17, 18, 19, 20, 21, 22, 23, 24, 25, 26, 27, 28, 29, 30, 31, 32, 33, 34, 35, 36, 37, 38, 39, 40, 41, 42, 43, 44, 45, 46, 47, 48, 49, 50, 51, 52, 53, 54, 55, 56] (by decide +kernel) (by decide +kernel)
set_option maxRecDepth 20000 in
theorem gX6_want_X6_no : GoodIn wsX6_want (wsV RX6 143 RX6 yX6_no wsX6_no) := goodIn_app (goodIn_of _ (by decide +kernel)) ggX6_want_X6_no
theorem dX6_want_0 : decode cX6_want 0 = .ok (.aload_n 0, 1) := by decide +kernel
theorem dX6_want_1 : decode cX6_want 1 = .ok (.iconst 0, 1) := by decide +kernel
theorem dX6_want_2 : decode cX6_want 2 = .ok (.putfield 101, 3) := by decide +kernel
theorem dX6_want_5 : decode cX6_want 5 = .ok (.aload_n 0, 1) := by decide +kernel
theorem dX6_want_6 : decode cX6_want 6 = .ok (.iconst 0, 1) := by decide +kernel
theorem dX6_want_7 : decode cX6_want 7 = .ok (.putfield 105, 3) := by decide +kernel
theorem dX6_want_10 : decode cX6_want 10 = .ok (.aload_n 0, 1) := by decide +kernel
theorem dX6_want_11 : decode cX6_want 11 = .ok (.iload_n 1, 1) := by decide +kernel
theorem dX6_want_12 : decode cX6_want 12 = .ok (.invokevirtual 122, 3) := by decide +kernel
theorem dX6_want_15 : decode cX6_want 15 = .ok (.ifCond .ne 9, 3) := by decide +kernel
theorem dX6_want_18 : decode cX6_want 18 = .ok (.aload_n 0, 1) := by decide +kernel
theorem dX6_want_19 : decode cX6_want 19 = .ok (.iconst 1, 1) := by decide +kernel
theorem dX6_want_20 : decode cX6_want 20 = .ok (.invokevirtual 143, 3) := by decide +kernel
theorem dX6_want_23 : decode cX6_want 23 = .ok (.ireturn, 1) := by decide +kernel
theorem dX6_want_24 : decode cX6_want 24 = .ok (.iload_n 2, 1) := by decide +kernel
theorem dX6_want_25 : decode cX6_want 25 = .ok (.ifCond .lt 34, 3) := by decide +kernel
theorem dX6_want_28 : decode cX6_want 28 = .ok (.iload_n 2, 1) := by decide +kernel
theorem dX6_want_29 : decode cX6_want 29 = .ok (.bipush 99, 2) := by decide +kernel
theorem dX6_want_31 : decode cX6_want 31 = .ok (.if_icmp .gt 28, 3) := by decide +kernel
theorem dX6_want_34 : decode cX6_want 34 = .ok (.iload_n 3, 1) := by decide +kernel
theorem dX6_want_35 : decode cX6_want 35 = .ok (.iconst 1, 1) := by decide +kernel
theorem dX6_want_36 : decode cX6_want 36 = .ok (.if_icmp .lt 23, 3) := by decide +kernel
theorem dX6_want_39 : decode cX6_want 39 = .ok (.iload_n 3, 1) := by decide +kernel
theorem dX6_want_40 : decode cX6_want 40 = .ok (.bipush 50, 2) := by decide +kernel
theorem dX6_want_42 : decode cX6_want 42 = .ok (.if_icmp .gt 17, 3) := by decide +kernel
theorem dX6_want_45 : decode cX6_want 45 = .ok (.iload 4, 2) := by decide +kernel
theorem dX6_want_47 : decode cX6_want 47 = .ok (.iconst 1, 1) := by decide +kernel
theorem dX6_want_48 : decode cX6_want 48 = .ok (.if_icmp .lt 11, 3) := by decide +kernel
theorem dX6_want_51 : decode cX6_want 51 = .ok (.iload 4, 2) := by decide +kernel
theorem dX6_want_53 : decode cX6_want 53 = .ok (.sipush 500, 3) := by decide +kernel
theorem dX6_want_56 : decode cX6_want 56 = .ok (.if_icmp .le 9, 3) := by decide +kernel
theorem dX6_want_59 : decode cX6_want 59 = .ok (.aload_n 0, 1) := by decide +kernel
theorem dX6_want_60 : decode cX6_want 60 = .ok (.iconst 2, 1) := by decide +kernel
theorem dX6_want_61 : decode cX6_want 61 = .ok (.invokevirtual 143, 3) := by decide +kernel
theorem dX6_want_64 : decode cX6_want 64 = .ok (.ireturn, 1) := by decide +kernel
theorem dX6_want_65 : decode cX6_want 65 = .ok (.aload_n 0, 1) := by decide +kernel
theorem dX6_want_66 : decode cX6_want 66 = .ok (.getfield 65, 3) := by decide +kernel
theorem dX6_want_69 : decode cX6_want 69 = .ok (.iload_n 1, 1) := by decide +kernel
theorem dX6_want_70 : decode cX6_want 70 = .ok (.iload_n 2, 1) := by decide +kernel
theorem dX6_want_71 : decode cX6_want 71 = .ok (.iastore, 1) := by decide +kernel
theorem dX6_want_72 : decode cX6_want 72 = .ok (.aload_n 0, 1) := by decide +kernel
theorem dX6_want_73 : decode cX6_want 73 = .ok (.getfield 68, 3) := by decide +kernel
theorem dX6_want_76 : decode cX6_want 76 = .ok (.iload_n 1, 1) := by decide +kernel
theorem dX6_want_77 : decode cX6_want 77 = .ok (.iload_n 3, 1) := by decide +kernel
theorem dX6_want_78 : decode cX6_want 78 = .ok (.iastore, 1) := by decide +kernel
theorem dX6_want_79 : decode cX6_want 79 = .ok (.aload_n 0, 1) := by decide +kernel
theorem dX6_want_80 : decode cX6_want 80 = .ok (.getfield 71, 3) := by decide +kernel
theorem dX6_want_83 : decode cX6_want 83 = .ok (.iload_n 1, 1) := by decide +kernel
theorem dX6_want_84 : decode cX6_want 84 = .ok (.iload 4, 2) := by decide +kernel
theorem dX6_want_86 : decode cX6_want 86 = .ok (.iastore, 1) := by decide +kernel
theorem dX6_want_87 : decode cX6_want 87 = .ok (.iconst 1, 1) := by decide +kernel
theorem dX6_want_88 : decode cX6_want 88 = .ok (.ireturn, 1) := by decide +kernel
theorem dX6_orders_0 : decode cX6_orders 0 = .ok (.iconst 0, 1) := by decide +kernel
theorem dX6_orders_1 : decode cX6_orders 1 = .ok (.istore_n 1, 1) := by decide +kernel
theorem dX6_orders_2 : decode cX6_orders 2 = .ok (.iload_n 1, 1) := by decide +kernel
theorem dX6_orders_3 : decode cX6_orders 3 = .ok (.aload_n 0, 1) := by decide +kernel
theorem dX6_orders_4 : decode cX6_orders 4 = .ok (.getfield 108, 3) := by decide +kernel
theorem dX6_orders_7 : decode cX6_orders 7 = .ok (.if_icmp .ge 64, 3) := by decide +kernel
theorem dX6_orders_10 : decode cX6_orders 10 = .ok (.iload_n 1, 1) := by decide +kernel
theorem dX6_orders_11 : decode cX6_orders 11 = .ok (.istore_n 2, 1) := by decide +kernel
theorem dX6_orders_12 : decode cX6_orders 12 = .ok (.iload_n 2, 1) := by decide +kernel
theorem dX6_orders_13 : decode cX6_orders 13 = .ok (.ifCond .le 45, 3) := by decide +kernel
theorem dX6_orders_16 : decode cX6_orders 16 = .ok (.aload_n 0, 1) := by decide +kernel
theorem dX6_orders_17 : decode cX6_orders 17 = .ok (.getfield 71, 3) := by decide +kernel
theorem dX6_orders_20 : decode cX6_orders 20 = .ok (.aload_n 0, 1) := by decide +kernel
theorem dX6_orders_21 : decode cX6_orders 21 = .ok (.getfield 74, 3) := by decide +kernel
theorem dX6_orders_24 : decode cX6_orders 24 = .ok (.iload_n 2, 1) := by decide +kernel
theorem dX6_orders_25 : decode cX6_orders 25 = .ok (.iconst 1, 1) := by decide +kernel
theorem dX6_orders_26 : decode cX6_orders 26 = .ok (.isub, 1) := by decide +kernel
theorem dX6_orders_27 : decode cX6_orders 27 = .ok (.iaload, 1) := by decide +kernel
theorem dX6_orders_28 : decode cX6_orders 28 = .ok (.iaload, 1) := by decide +kernel
theorem dX6_orders_29 : decode cX6_orders 29 = .ok (.aload_n 0, 1) := by decide +kernel
theorem dX6_orders_30 : decode cX6_orders 30 = .ok (.getfield 71, 3) := by decide +kernel
theorem dX6_orders_33 : decode cX6_orders 33 = .ok (.iload_n 1, 1) := by decide +kernel
theorem dX6_orders_34 : decode cX6_orders 34 = .ok (.iaload, 1) := by decide +kernel
theorem dX6_orders_35 : decode cX6_orders 35 = .ok (.if_icmp .le 23, 3) := by decide +kernel
theorem dX6_orders_38 : decode cX6_orders 38 = .ok (.aload_n 0, 1) := by decide +kernel
theorem dX6_orders_39 : decode cX6_orders 39 = .ok (.getfield 74, 3) := by decide +kernel
theorem dX6_orders_42 : decode cX6_orders 42 = .ok (.iload_n 2, 1) := by decide +kernel
theorem dX6_orders_43 : decode cX6_orders 43 = .ok (.aload_n 0, 1) := by decide +kernel
theorem dX6_orders_44 : decode cX6_orders 44 = .ok (.getfield 74, 3) := by decide +kernel
theorem dX6_orders_47 : decode cX6_orders 47 = .ok (.iload_n 2, 1) := by decide +kernel
theorem dX6_orders_48 : decode cX6_orders 48 = .ok (.iconst 1, 1) := by decide +kernel
theorem dX6_orders_49 : decode cX6_orders 49 = .ok (.isub, 1) := by decide +kernel
theorem dX6_orders_50 : decode cX6_orders 50 = .ok (.iaload, 1) := by decide +kernel
theorem dX6_orders_51 : decode cX6_orders 51 = .ok (.iastore, 1) := by decide +kernel
theorem dX6_orders_52 : decode cX6_orders 52 = .ok (.iinc 2 (-1), 3) := by decide +kernel
theorem dX6_orders_55 : decode cX6_orders 55 = .ok (.goto (-43), 3) := by decide +kernel
theorem dX6_orders_58 : decode cX6_orders 58 = .ok (.aload_n 0, 1) := by decide +kernel
theorem dX6_orders_59 : decode cX6_orders 59 = .ok (.getfield 74, 3) := by decide +kernel
theorem dX6_orders_62 : decode cX6_orders 62 = .ok (.iload_n 2, 1) := by decide +kernel
theorem dX6_orders_63 : decode cX6_orders 63 = .ok (.iload_n 1, 1) := by decide +kernel
theorem dX6_orders_64 : decode cX6_orders 64 = .ok (.iastore, 1) := by decide +kernel
theorem dX6_orders_65 : decode cX6_orders 65 = .ok (.iinc 1 1, 3) := by decide +kernel
theorem dX6_orders_68 : decode cX6_orders 68 = .ok (.goto (-66), 3) := by decide +kernel
theorem dX6_orders_71 : decode cX6_orders 71 = .ok (.return_, 1) := by decide +kernel
theorem dX6_mostOf_0 : decode cX6_mostOf 0 = .ok (.iconst 0, 1) := by decide +kernel
theorem dX6_mostOf_1 : decode cX6_mostOf 1 = .ok (.istore_n 1, 1) := by decide +kernel
theorem dX6_mostOf_2 : decode cX6_mostOf 2 = .ok (.iload_n 1, 1) := by decide +kernel
theorem dX6_mostOf_3 : decode cX6_mostOf 3 = .ok (.sipush 500, 3) := by decide +kernel
theorem dX6_mostOf_6 : decode cX6_mostOf 6 = .ok (.if_icmp .gt 24, 3) := by decide +kernel
theorem dX6_mostOf_9 : decode cX6_mostOf 9 = .ok (.aload_n 0, 1) := by decide +kernel
theorem dX6_mostOf_10 : decode cX6_mostOf 10 = .ok (.getfield 80, 3) := by decide +kernel
theorem dX6_mostOf_13 : decode cX6_mostOf 13 = .ok (.iload_n 1, 1) := by decide +kernel
theorem dX6_mostOf_14 : decode cX6_mostOf 14 = .ok (.iload_n 1, 1) := by decide +kernel
theorem dX6_mostOf_15 : decode cX6_mostOf 15 = .ok (.ifCond .ne 7, 3) := by decide +kernel
theorem dX6_mostOf_18 : decode cX6_mostOf 18 = .ok (.iconst 0, 1) := by decide +kernel
theorem dX6_mostOf_19 : decode cX6_mostOf 19 = .ok (.goto 4, 3) := by decide +kernel
theorem dX6_mostOf_22 : decode cX6_mostOf 22 = .ok (.iconst (-1), 1) := by decide +kernel
theorem dX6_mostOf_23 : decode cX6_mostOf 23 = .ok (.iastore, 1) := by decide +kernel
theorem dX6_mostOf_24 : decode cX6_mostOf 24 = .ok (.iinc 1 1, 3) := by decide +kernel
theorem dX6_mostOf_27 : decode cX6_mostOf 27 = .ok (.goto (-25), 3) := by decide +kernel
theorem dX6_mostOf_30 : decode cX6_mostOf 30 = .ok (.iconst 0, 1) := by decide +kernel
theorem dX6_mostOf_31 : decode cX6_mostOf 31 = .ok (.istore_n 1, 1) := by decide +kernel
theorem dX6_mostOf_32 : decode cX6_mostOf 32 = .ok (.iload_n 1, 1) := by decide +kernel
theorem dX6_mostOf_33 : decode cX6_mostOf 33 = .ok (.aload_n 0, 1) := by decide +kernel
theorem dX6_mostOf_34 : decode cX6_mostOf 34 = .ok (.getfield 108, 3) := by decide +kernel
theorem dX6_mostOf_37 : decode cX6_mostOf 37 = .ok (.if_icmp .ge 158, 3) := by decide +kernel
theorem dX6_mostOf_40 : decode cX6_mostOf 40 = .ok (.aload_n 0, 1) := by decide +kernel
theorem dX6_mostOf_41 : decode cX6_mostOf 41 = .ok (.getfield 74, 3) := by decide +kernel
theorem dX6_mostOf_44 : decode cX6_mostOf 44 = .ok (.iload_n 1, 1) := by decide +kernel
theorem dX6_mostOf_45 : decode cX6_mostOf 45 = .ok (.iaload, 1) := by decide +kernel
theorem dX6_mostOf_46 : decode cX6_mostOf 46 = .ok (.istore_n 2, 1) := by decide +kernel
theorem dX6_mostOf_47 : decode cX6_mostOf 47 = .ok (.iconst 0, 1) := by decide +kernel
theorem dX6_mostOf_48 : decode cX6_mostOf 48 = .ok (.istore_n 3, 1) := by decide +kernel
theorem dX6_mostOf_49 : decode cX6_mostOf 49 = .ok (.iload_n 3, 1) := by decide +kernel
theorem dX6_mostOf_50 : decode cX6_mostOf 50 = .ok (.sipush 500, 3) := by decide +kernel
theorem dX6_mostOf_53 : decode cX6_mostOf 53 = .ok (.if_icmp .gt 109, 3) := by decide +kernel
theorem dX6_mostOf_56 : decode cX6_mostOf 56 = .ok (.aload_n 0, 1) := by decide +kernel
theorem dX6_mostOf_57 : decode cX6_mostOf 57 = .ok (.getfield 83, 3) := by decide +kernel
theorem dX6_mostOf_60 : decode cX6_mostOf 60 = .ok (.iload_n 3, 1) := by decide +kernel
theorem dX6_mostOf_61 : decode cX6_mostOf 61 = .ok (.aload_n 0, 1) := by decide +kernel
theorem dX6_mostOf_62 : decode cX6_mostOf 62 = .ok (.getfield 77, 3) := by decide +kernel
theorem dX6_mostOf_65 : decode cX6_mostOf 65 = .ok (.iload_n 2, 1) := by decide +kernel
theorem dX6_mostOf_66 : decode cX6_mostOf 66 = .ok (.iaload, 1) := by decide +kernel
theorem dX6_mostOf_67 : decode cX6_mostOf 67 = .ok (.iconst 1, 1) := by decide +kernel
theorem dX6_mostOf_68 : decode cX6_mostOf 68 = .ok (.if_icmp .ne 7, 3) := by decide +kernel
theorem dX6_mostOf_71 : decode cX6_mostOf 71 = .ok (.iconst (-1), 1) := by decide +kernel
theorem dX6_mostOf_72 : decode cX6_mostOf 72 = .ok (.goto 9, 3) := by decide +kernel
theorem dX6_mostOf_75 : decode cX6_mostOf 75 = .ok (.aload_n 0, 1) := by decide +kernel
theorem dX6_mostOf_76 : decode cX6_mostOf 76 = .ok (.getfield 80, 3) := by decide +kernel
theorem dX6_mostOf_79 : decode cX6_mostOf 79 = .ok (.iload_n 3, 1) := by decide +kernel
theorem dX6_mostOf_80 : decode cX6_mostOf 80 = .ok (.iaload, 1) := by decide +kernel
theorem dX6_mostOf_81 : decode cX6_mostOf 81 = .ok (.iastore, 1) := by decide +kernel
theorem dX6_mostOf_82 : decode cX6_mostOf 82 = .ok (.iload_n 3, 1) := by decide +kernel
theorem dX6_mostOf_83 : decode cX6_mostOf 83 = .ok (.aload_n 0, 1) := by decide +kernel
theorem dX6_mostOf_84 : decode cX6_mostOf 84 = .ok (.getfield 68, 3) := by decide +kernel
theorem dX6_mostOf_87 : decode cX6_mostOf 87 = .ok (.iload_n 2, 1) := by decide +kernel
theorem dX6_mostOf_88 : decode cX6_mostOf 88 = .ok (.iaload, 1) := by decide +kernel
theorem dX6_mostOf_89 : decode cX6_mostOf 89 = .ok (.isub, 1) := by decide +kernel
theorem dX6_mostOf_90 : decode cX6_mostOf 90 = .ok (.istore 4, 2) := by decide +kernel
theorem dX6_mostOf_92 : decode cX6_mostOf 92 = .ok (.aload_n 0, 1) := by decide +kernel
theorem dX6_mostOf_93 : decode cX6_mostOf 93 = .ok (.getfield 77, 3) := by decide +kernel
theorem dX6_mostOf_96 : decode cX6_mostOf 96 = .ok (.iload_n 2, 1) := by decide +kernel
theorem dX6_mostOf_97 : decode cX6_mostOf 97 = .ok (.iaload, 1) := by decide +kernel
theorem dX6_mostOf_98 : decode cX6_mostOf 98 = .ok (.iconst 2, 1) := by decide +kernel
theorem dX6_mostOf_99 : decode cX6_mostOf 99 = .ok (.if_icmp .eq 57, 3) := by decide +kernel
theorem dX6_mostOf_102 : decode cX6_mostOf 102 = .ok (.iload_n 3, 1) := by decide +kernel
theorem dX6_mostOf_103 : decode cX6_mostOf 103 = .ok (.aload_n 0, 1) := by decide +kernel
theorem dX6_mostOf_104 : decode cX6_mostOf 104 = .ok (.getfield 71, 3) := by decide +kernel
theorem dX6_mostOf_107 : decode cX6_mostOf 107 = .ok (.iload_n 2, 1) := by decide +kernel
theorem dX6_mostOf_108 : decode cX6_mostOf 108 = .ok (.iaload, 1) := by decide +kernel
theorem dX6_mostOf_109 : decode cX6_mostOf 109 = .ok (.if_icmp .gt 47, 3) := by decide +kernel
theorem dX6_mostOf_112 : decode cX6_mostOf 112 = .ok (.iload 4, 2) := by decide +kernel
theorem dX6_mostOf_114 : decode cX6_mostOf 114 = .ok (.ifCond .lt 42, 3) := by decide +kernel
theorem dX6_mostOf_117 : decode cX6_mostOf 117 = .ok (.aload_n 0, 1) := by decide +kernel
theorem dX6_mostOf_118 : decode cX6_mostOf 118 = .ok (.getfield 80, 3) := by decide +kernel
theorem dX6_mostOf_121 : decode cX6_mostOf 121 = .ok (.iload 4, 2) := by decide +kernel
theorem dX6_mostOf_123 : decode cX6_mostOf 123 = .ok (.iaload, 1) := by decide +kernel
theorem dX6_mostOf_124 : decode cX6_mostOf 124 = .ok (.ifCond .lt 32, 3) := by decide +kernel
theorem dX6_mostOf_127 : decode cX6_mostOf 127 = .ok (.aload_n 0, 1) := by decide +kernel
theorem dX6_mostOf_128 : decode cX6_mostOf 128 = .ok (.getfield 83, 3) := by decide +kernel
theorem dX6_mostOf_131 : decode cX6_mostOf 131 = .ok (.iload_n 3, 1) := by decide +kernel
theorem dX6_mostOf_132 : decode cX6_mostOf 132 = .ok (.aload_n 0, 1) := by decide +kernel
theorem dX6_mostOf_133 : decode cX6_mostOf 133 = .ok (.getfield 83, 3) := by decide +kernel
theorem dX6_mostOf_136 : decode cX6_mostOf 136 = .ok (.iload_n 3, 1) := by decide +kernel
theorem dX6_mostOf_137 : decode cX6_mostOf 137 = .ok (.iaload, 1) := by decide +kernel
theorem dX6_mostOf_138 : decode cX6_mostOf 138 = .ok (.aload_n 0, 1) := by decide +kernel
theorem dX6_mostOf_139 : decode cX6_mostOf 139 = .ok (.getfield 80, 3) := by decide +kernel
theorem dX6_mostOf_142 : decode cX6_mostOf 142 = .ok (.iload 4, 2) := by decide +kernel
theorem dX6_mostOf_144 : decode cX6_mostOf 144 = .ok (.iaload, 1) := by decide +kernel
theorem dX6_mostOf_145 : decode cX6_mostOf 145 = .ok (.aload_n 0, 1) := by decide +kernel
theorem dX6_mostOf_146 : decode cX6_mostOf 146 = .ok (.getfield 65, 3) := by decide +kernel
theorem dX6_mostOf_149 : decode cX6_mostOf 149 = .ok (.iload_n 2, 1) := by decide +kernel
theorem dX6_mostOf_150 : decode cX6_mostOf 150 = .ok (.iaload, 1) := by decide +kernel
theorem dX6_mostOf_151 : decode cX6_mostOf 151 = .ok (.iadd, 1) := by decide +kernel
theorem dX6_mostOf_152 : decode cX6_mostOf 152 = .ok (.invokestatic 217, 3) := by decide +kernel
theorem dX6_mostOf_155 : decode cX6_mostOf 155 = .ok (.iastore, 1) := by decide +kernel
theorem dX6_mostOf_156 : decode cX6_mostOf 156 = .ok (.iinc 3 1, 3) := by decide +kernel
theorem dX6_mostOf_159 : decode cX6_mostOf 159 = .ok (.goto (-110), 3) := by decide +kernel
theorem dX6_mostOf_162 : decode cX6_mostOf 162 = .ok (.iconst 0, 1) := by decide +kernel
theorem dX6_mostOf_163 : decode cX6_mostOf 163 = .ok (.istore_n 3, 1) := by decide +kernel
theorem dX6_mostOf_164 : decode cX6_mostOf 164 = .ok (.iload_n 3, 1) := by decide +kernel
theorem dX6_mostOf_165 : decode cX6_mostOf 165 = .ok (.sipush 500, 3) := by decide +kernel
theorem dX6_mostOf_168 : decode cX6_mostOf 168 = .ok (.if_icmp .gt 21, 3) := by decide +kernel
theorem dX6_mostOf_171 : decode cX6_mostOf 171 = .ok (.aload_n 0, 1) := by decide +kernel
theorem dX6_mostOf_172 : decode cX6_mostOf 172 = .ok (.getfield 80, 3) := by decide +kernel
theorem dX6_mostOf_175 : decode cX6_mostOf 175 = .ok (.iload_n 3, 1) := by decide +kernel
theorem dX6_mostOf_176 : decode cX6_mostOf 176 = .ok (.aload_n 0, 1) := by decide +kernel
theorem dX6_mostOf_177 : decode cX6_mostOf 177 = .ok (.getfield 83, 3) := by decide +kernel
theorem dX6_mostOf_180 : decode cX6_mostOf 180 = .ok (.iload_n 3, 1) := by decide +kernel
theorem dX6_mostOf_181 : decode cX6_mostOf 181 = .ok (.iaload, 1) := by decide +kernel
theorem dX6_mostOf_182 : decode cX6_mostOf 182 = .ok (.iastore, 1) := by decide +kernel
theorem dX6_mostOf_183 : decode cX6_mostOf 183 = .ok (.iinc 3 1, 3) := by decide +kernel
theorem dX6_mostOf_186 : decode cX6_mostOf 186 = .ok (.goto (-22), 3) := by decide +kernel
theorem dX6_mostOf_189 : decode cX6_mostOf 189 = .ok (.iinc 1 1, 3) := by decide +kernel
theorem dX6_mostOf_192 : decode cX6_mostOf 192 = .ok (.goto (-160), 3) := by decide +kernel
theorem dX6_mostOf_195 : decode cX6_mostOf 195 = .ok (.iconst (-1), 1) := by decide +kernel
theorem dX6_mostOf_196 : decode cX6_mostOf 196 = .ok (.istore_n 1, 1) := by decide +kernel
theorem dX6_mostOf_197 : decode cX6_mostOf 197 = .ok (.iconst 0, 1) := by decide +kernel
theorem dX6_mostOf_198 : decode cX6_mostOf 198 = .ok (.istore_n 2, 1) := by decide +kernel
theorem dX6_mostOf_199 : decode cX6_mostOf 199 = .ok (.iload_n 2, 1) := by decide +kernel
theorem dX6_mostOf_200 : decode cX6_mostOf 200 = .ok (.sipush 500, 3) := by decide +kernel
theorem dX6_mostOf_203 : decode cX6_mostOf 203 = .ok (.if_icmp .gt 20, 3) := by decide +kernel
theorem dX6_mostOf_206 : decode cX6_mostOf 206 = .ok (.iload_n 1, 1) := by decide +kernel
theorem dX6_mostOf_207 : decode cX6_mostOf 207 = .ok (.aload_n 0, 1) := by decide +kernel
theorem dX6_mostOf_208 : decode cX6_mostOf 208 = .ok (.getfield 80, 3) := by decide +kernel
theorem dX6_mostOf_211 : decode cX6_mostOf 211 = .ok (.iload_n 2, 1) := by decide +kernel
theorem dX6_mostOf_212 : decode cX6_mostOf 212 = .ok (.iaload, 1) := by decide +kernel
theorem dX6_mostOf_213 : decode cX6_mostOf 213 = .ok (.invokestatic 217, 3) := by decide +kernel
theorem dX6_mostOf_216 : decode cX6_mostOf 216 = .ok (.istore_n 1, 1) := by decide +kernel
theorem dX6_mostOf_217 : decode cX6_mostOf 217 = .ok (.iinc 2 1, 3) := by decide +kernel
theorem dX6_mostOf_220 : decode cX6_mostOf 220 = .ok (.goto (-21), 3) := by decide +kernel
theorem dX6_mostOf_223 : decode cX6_mostOf 223 = .ok (.iload_n 1, 1) := by decide +kernel
theorem dX6_mostOf_224 : decode cX6_mostOf 224 = .ok (.ireturn, 1) := by decide +kernel
set_option maxRecDepth 20000 in
theorem ggX6_chooses_X6_orders : GoodIn wsX6_chooses wsX6_orders := goodIn_r _ [7, 1, 8, 9, 22, 23, 24, 25, 26, 27, 28, 29, 30, 31, 32, 33, 34, 35, 36, 37, 38, 39, 40, 41, 42, 43, 44, 45, 46, 47, 48, 49, 50, 51, 52, 53, 54, 55, 56, 57, 58, 59, 60, 61, 62] (by decide +kernel) (by decide +kernel)
set_option maxRecDepth 20000 in
theorem gX6_chooses_X6_orders : GoodIn wsX6_chooses (wsV RX6 241 RX6 yX6_orders wsX6_orders) := goodIn_app (goodIn_of _ (by decide +kernel)) ggX6_chooses_X6_orders
set_option maxRecDepth 20000 in
theorem ggX6_chooses_X6_mostOf : GoodIn wsX6_chooses wsX6_mostOf := goodIn_r _ [13, 14, 1, 9, 15, 2, 16, 8, 17, 18, 19, 20, 21, 22, 23, 24, 25, 26, 27, 28, 29, 30, 31, 32, 33, 34, 35, 36, 37, 38, 39, 40, 41, 42, 43, 44, 45, 46, 47, 48, 49, 50, 51, 52, 53, 54, 55, 56, 57, 58, 59, 60, 61, 62] (by decide +kernel) (by decide +kernel)
set_option maxRecDepth 20000 in
theorem gX6_chooses_X6_mostOf : GoodIn wsX6_chooses (wsV RX6 244 RX6 yX6_mostOf wsX6_mostOf) := goodIn_app (goodIn_of _ (by decide +kernel)) ggX6_chooses_X6_mostOf
theorem dX6_chooses_0 : decode cX6_chooses 0 = .ok (.aload_n 0, 1) := by decide +kernel
theorem dX6_chooses_1 : decode cX6_chooses 1 = .ok (.invokevirtual 241, 3) := by decide +kernel
theorem dX6_chooses_4 : decode cX6_chooses 4 = .ok (.iconst 0, 1) := by decide +kernel
theorem dX6_chooses_5 : decode cX6_chooses 5 = .ok (.istore_n 1, 1) := by decide +kernel
theorem dX6_chooses_6 : decode cX6_chooses 6 = .ok (.iload_n 1, 1) := by decide +kernel
theorem dX6_chooses_7 : decode cX6_chooses 7 = .ok (.aload_n 0, 1) := by decide +kernel
theorem dX6_chooses_8 : decode cX6_chooses 8 = .ok (.getfield 108, 3) := by decide +kernel
theorem dX6_chooses_11 : decode cX6_chooses 11 = .ok (.if_icmp .ge 16, 3) := by decide +kernel
theorem dX6_chooses_14 : decode cX6_chooses 14 = .ok (.aload_n 0, 1) := by decide +kernel
theorem dX6_chooses_15 : decode cX6_chooses 15 = .ok (.getfield 77, 3) := by decide +kernel
theorem dX6_chooses_18 : decode cX6_chooses 18 = .ok (.iload_n 1, 1) := by decide +kernel
theorem dX6_chooses_19 : decode cX6_chooses 19 = .ok (.iconst 0, 1) := by decide +kernel
theorem dX6_chooses_20 : decode cX6_chooses 20 = .ok (.iastore, 1) := by decide +kernel
theorem dX6_chooses_21 : decode cX6_chooses 21 = .ok (.iinc 1 1, 3) := by decide +kernel
theorem dX6_chooses_24 : decode cX6_chooses 24 = .ok (.goto (-18), 3) := by decide +kernel
theorem dX6_chooses_27 : decode cX6_chooses 27 = .ok (.aload_n 0, 1) := by decide +kernel
theorem dX6_chooses_28 : decode cX6_chooses 28 = .ok (.invokevirtual 244, 3) := by decide +kernel
theorem dX6_chooses_31 : decode cX6_chooses 31 = .ok (.istore_n 1, 1) := by decide +kernel
theorem dX6_chooses_32 : decode cX6_chooses 32 = .ok (.iconst 0, 1) := by decide +kernel
theorem dX6_chooses_33 : decode cX6_chooses 33 = .ok (.istore_n 2, 1) := by decide +kernel
theorem dX6_chooses_34 : decode cX6_chooses 34 = .ok (.iload_n 2, 1) := by decide +kernel
theorem dX6_chooses_35 : decode cX6_chooses 35 = .ok (.aload_n 0, 1) := by decide +kernel
theorem dX6_chooses_36 : decode cX6_chooses 36 = .ok (.getfield 108, 3) := by decide +kernel
theorem dX6_chooses_39 : decode cX6_chooses 39 = .ok (.if_icmp .ge 31, 3) := by decide +kernel
theorem dX6_chooses_42 : decode cX6_chooses 42 = .ok (.aload_n 0, 1) := by decide +kernel
theorem dX6_chooses_43 : decode cX6_chooses 43 = .ok (.getfield 77, 3) := by decide +kernel
theorem dX6_chooses_46 : decode cX6_chooses 46 = .ok (.iload_n 2, 1) := by decide +kernel
theorem dX6_chooses_47 : decode cX6_chooses 47 = .ok (.iconst 1, 1) := by decide +kernel
theorem dX6_chooses_48 : decode cX6_chooses 48 = .ok (.iastore, 1) := by decide +kernel
theorem dX6_chooses_49 : decode cX6_chooses 49 = .ok (.aload_n 0, 1) := by decide +kernel
theorem dX6_chooses_50 : decode cX6_chooses 50 = .ok (.invokevirtual 244, 3) := by decide +kernel
theorem dX6_chooses_53 : decode cX6_chooses 53 = .ok (.iload_n 1, 1) := by decide +kernel
theorem dX6_chooses_54 : decode cX6_chooses 54 = .ok (.if_icmp .eq 10, 3) := by decide +kernel
theorem dX6_chooses_57 : decode cX6_chooses 57 = .ok (.aload_n 0, 1) := by decide +kernel
theorem dX6_chooses_58 : decode cX6_chooses 58 = .ok (.getfield 77, 3) := by decide +kernel
theorem dX6_chooses_61 : decode cX6_chooses 61 = .ok (.iload_n 2, 1) := by decide +kernel
theorem dX6_chooses_62 : decode cX6_chooses 62 = .ok (.iconst 2, 1) := by decide +kernel
theorem dX6_chooses_63 : decode cX6_chooses 63 = .ok (.iastore, 1) := by decide +kernel
theorem dX6_chooses_64 : decode cX6_chooses 64 = .ok (.iinc 2 1, 3) := by decide +kernel
theorem dX6_chooses_67 : decode cX6_chooses 67 = .ok (.goto (-33), 3) := by decide +kernel
theorem dX6_chooses_70 : decode cX6_chooses 70 = .ok (.iload_n 1, 1) := by decide +kernel
theorem dX6_chooses_71 : decode cX6_chooses 71 = .ok (.ireturn, 1) := by decide +kernel
set_option maxRecDepth 20000 in
theorem ggX6_best_X6_chooses : GoodIn wsX6_best wsX6_chooses := goodIn_r _ [7, 8, 9, 10, 11, 12, 6, 13, 14, 15, 16, 17, 18, 19, 20, 21, 22, 23, 24, 25, 26, 27, 28, 29, 30, 31, 32, 33, 34, 35, 36, 37, 38, 39, 40, 41, 42, 43, 44, 45, 46, 47, 48, 49, 50, 51, 52, 53, 54, 55, 56, 57, 58, 59, 60, 61, 62, 63, 64, 65, 66, 67, 68] (by decide +kernel) (by decide +kernel)
set_option maxRecDepth 20000 in
theorem gX6_best_X6_chooses : GoodIn wsX6_best (wsV RX6 248 RX6 yX6_chooses wsX6_chooses) := goodIn_app (goodIn_of _ (by decide +kernel)) ggX6_best_X6_chooses
theorem dX6_best_0 : decode cX6_best 0 = .ok (.aload_n 0, 1) := by decide +kernel
theorem dX6_best_1 : decode cX6_best 1 = .ok (.iconst 0, 1) := by decide +kernel
theorem dX6_best_2 : decode cX6_best 2 = .ok (.putfield 101, 3) := by decide +kernel
theorem dX6_best_5 : decode cX6_best 5 = .ok (.aload_n 0, 1) := by decide +kernel
theorem dX6_best_6 : decode cX6_best 6 = .ok (.iconst 0, 1) := by decide +kernel
theorem dX6_best_7 : decode cX6_best 7 = .ok (.putfield 105, 3) := by decide +kernel
theorem dX6_best_10 : decode cX6_best 10 = .ok (.aload_n 0, 1) := by decide +kernel
theorem dX6_best_11 : decode cX6_best 11 = .ok (.invokevirtual 248, 3) := by decide +kernel
theorem dX6_best_14 : decode cX6_best 14 = .ok (.ireturn, 1) := by decide +kernel
set_option maxRecDepth 20000 in
theorem ggX6_hour_X6_isPlate : GoodIn wsX6_hour wsX6_isPlate := goodIn_r _ [10, 11, 36, 37, 38, 39, 40, 41, 42, 43, 44, 45, 46, 47, 48, 49, 50, 51, 52, 53, 54, 55, 56, 57, 58, 59, 60, 61, 62, 63, 64, 65, 66, 67, 68, 69, 70, 71, 72, 73, 74, 75, 76] (by decide +kernel) (by decide +kernel)
set_option maxRecDepth 20000 in
theorem gX6_hour_X6_isPlate : GoodIn wsX6_hour (wsV RX6 122 RX6 yX6_isPlate wsX6_isPlate) := goodIn_app (goodIn_of _ (by decide +kernel)) ggX6_hour_X6_isPlate
set_option maxRecDepth 20000 in
theorem ggX6_hour_X6_refuse : GoodIn wsX6_hour wsX6_refuse := goodIn_r _ [15, 2, 36, 37, 38, 39, 40, 41, 42, 43, 44, 45, 46, 47, 48, 49, 50, 51, 52, 53, 54, 55, 56, 57, 58, 59, 60, 61, 62, 63, 64, 65, 66, 67, 68, 69, 70, 71, 72, 73, 74, 75, 76] (by decide +kernel) (by decide +kernel)
set_option maxRecDepth 20000 in
theorem gX6_hour_X6_refuse : GoodIn wsX6_hour (wsV RX6 115 RX6 yX6_refuse wsX6_refuse) := goodIn_app (goodIn_of _ (by decide +kernel)) ggX6_hour_X6_refuse
set_option maxRecDepth 20000 in
theorem ggX6_hour_X6_chooses : GoodIn wsX6_hour wsX6_chooses := goodIn_r _ [19, 11, 3, 20, 21, 22, 9, 23, 24, 4, 25, 26, 27, 28, 29, 30, 5, 31, 32, 33, 34, 35, 36, 37, 38, 39, 40, 41, 42, 43, 44, 45, 46, 47, 48, 49, 50, 51, 52, 53, 54, 55, 56, 57, 58, 59, 60, 61, 62, 63, 64, 65, 66, 67, 68, 69, 70, 71, 72, 73, 74, 75, 76] (by decide +kernel) (by decide +kernel)
set_option maxRecDepth 20000 in
theorem gX6_hour_X6_chooses : GoodIn wsX6_hour (wsV RX6 248 RX6 yX6_chooses wsX6_chooses) := goodIn_app (goodIn_of _ (by decide +kernel)) ggX6_hour_X6_chooses
theorem dX6_hour_0 : decode cX6_hour 0 = .ok (.aload_n 0, 1) := by decide +kernel
theorem dX6_hour_1 : decode cX6_hour 1 = .ok (.iconst 0, 1) := by decide +kernel
theorem dX6_hour_2 : decode cX6_hour 2 = .ok (.putfield 101, 3) := by decide +kernel
theorem dX6_hour_5 : decode cX6_hour 5 = .ok (.aload_n 0, 1) := by decide +kernel
theorem dX6_hour_6 : decode cX6_hour 6 = .ok (.iconst 0, 1) := by decide +kernel
theorem dX6_hour_7 : decode cX6_hour 7 = .ok (.putfield 105, 3) := by decide +kernel
theorem dX6_hour_10 : decode cX6_hour 10 = .ok (.aload_n 0, 1) := by decide +kernel
theorem dX6_hour_11 : decode cX6_hour 11 = .ok (.iload_n 1, 1) := by decide +kernel
theorem dX6_hour_12 : decode cX6_hour 12 = .ok (.invokevirtual 122, 3) := by decide +kernel
theorem dX6_hour_15 : decode cX6_hour 15 = .ok (.ifCond .ne 9, 3) := by decide +kernel
theorem dX6_hour_18 : decode cX6_hour 18 = .ok (.aload_n 0, 1) := by decide +kernel
theorem dX6_hour_19 : decode cX6_hour 19 = .ok (.iconst 1, 1) := by decide +kernel
theorem dX6_hour_20 : decode cX6_hour 20 = .ok (.invokevirtual 115, 3) := by decide +kernel
theorem dX6_hour_23 : decode cX6_hour 23 = .ok (.ireturn, 1) := by decide +kernel
theorem dX6_hour_24 : decode cX6_hour 24 = .ok (.aload_n 0, 1) := by decide +kernel
theorem dX6_hour_25 : decode cX6_hour 25 = .ok (.invokevirtual 248, 3) := by decide +kernel
theorem dX6_hour_28 : decode cX6_hour 28 = .ok (.pop, 1) := by decide +kernel
theorem dX6_hour_29 : decode cX6_hour 29 = .ok (.aload_n 0, 1) := by decide +kernel
theorem dX6_hour_30 : decode cX6_hour 30 = .ok (.getfield 77, 3) := by decide +kernel
theorem dX6_hour_33 : decode cX6_hour 33 = .ok (.iload_n 1, 1) := by decide +kernel
theorem dX6_hour_34 : decode cX6_hour 34 = .ok (.iaload, 1) := by decide +kernel
theorem dX6_hour_35 : decode cX6_hour 35 = .ok (.iconst 1, 1) := by decide +kernel
theorem dX6_hour_36 : decode cX6_hour 36 = .ok (.if_icmp .eq 10, 3) := by decide +kernel
theorem dX6_hour_39 : decode cX6_hour 39 = .ok (.aload_n 0, 1) := by decide +kernel
theorem dX6_hour_40 : decode cX6_hour 40 = .ok (.bipush 8, 2) := by decide +kernel
theorem dX6_hour_42 : decode cX6_hour 42 = .ok (.invokevirtual 115, 3) := by decide +kernel
theorem dX6_hour_45 : decode cX6_hour 45 = .ok (.ireturn, 1) := by decide +kernel
theorem dX6_hour_46 : decode cX6_hour 46 = .ok (.iconst 0, 1) := by decide +kernel
theorem dX6_hour_47 : decode cX6_hour 47 = .ok (.istore_n 2, 1) := by decide +kernel
theorem dX6_hour_48 : decode cX6_hour 48 = .ok (.iconst 0, 1) := by decide +kernel
theorem dX6_hour_49 : decode cX6_hour 49 = .ok (.istore_n 3, 1) := by decide +kernel
theorem dX6_hour_50 : decode cX6_hour 50 = .ok (.aload_n 0, 1) := by decide +kernel
theorem dX6_hour_51 : decode cX6_hour 51 = .ok (.getfield 74, 3) := by decide +kernel
theorem dX6_hour_54 : decode cX6_hour 54 = .ok (.iload_n 3, 1) := by decide +kernel
theorem dX6_hour_55 : decode cX6_hour 55 = .ok (.iaload, 1) := by decide +kernel
theorem dX6_hour_56 : decode cX6_hour 56 = .ok (.iload_n 1, 1) := by decide +kernel
theorem dX6_hour_57 : decode cX6_hour 57 = .ok (.if_icmp .eq 42, 3) := by decide +kernel
theorem dX6_hour_60 : decode cX6_hour 60 = .ok (.iload_n 2, 1) := by decide +kernel
theorem dX6_hour_61 : decode cX6_hour 61 = .ok (.aload_n 0, 1) := by decide +kernel
theorem dX6_hour_62 : decode cX6_hour 62 = .ok (.getfield 77, 3) := by decide +kernel
theorem dX6_hour_65 : decode cX6_hour 65 = .ok (.aload_n 0, 1) := by decide +kernel
theorem dX6_hour_66 : decode cX6_hour 66 = .ok (.getfield 74, 3) := by decide +kernel
theorem dX6_hour_69 : decode cX6_hour 69 = .ok (.iload_n 3, 1) := by decide +kernel
theorem dX6_hour_70 : decode cX6_hour 70 = .ok (.iaload, 1) := by decide +kernel
theorem dX6_hour_71 : decode cX6_hour 71 = .ok (.iaload, 1) := by decide +kernel
theorem dX6_hour_72 : decode cX6_hour 72 = .ok (.iconst 1, 1) := by decide +kernel
theorem dX6_hour_73 : decode cX6_hour 73 = .ok (.if_icmp .ne 17, 3) := by decide +kernel
theorem dX6_hour_76 : decode cX6_hour 76 = .ok (.aload_n 0, 1) := by decide +kernel
theorem dX6_hour_77 : decode cX6_hour 77 = .ok (.getfield 68, 3) := by decide +kernel
theorem dX6_hour_80 : decode cX6_hour 80 = .ok (.aload_n 0, 1) := by decide +kernel
theorem dX6_hour_81 : decode cX6_hour 81 = .ok (.getfield 74, 3) := by decide +kernel
theorem dX6_hour_84 : decode cX6_hour 84 = .ok (.iload_n 3, 1) := by decide +kernel
theorem dX6_hour_85 : decode cX6_hour 85 = .ok (.iaload, 1) := by decide +kernel
theorem dX6_hour_86 : decode cX6_hour 86 = .ok (.iaload, 1) := by decide +kernel
theorem dX6_hour_87 : decode cX6_hour 87 = .ok (.goto 4, 3) := by decide +kernel
theorem dX6_hour_90 : decode cX6_hour 90 = .ok (.iconst 0, 1) := by decide +kernel
theorem dX6_hour_91 : decode cX6_hour 91 = .ok (.iadd, 1) := by decide +kernel
theorem dX6_hour_92 : decode cX6_hour 92 = .ok (.istore_n 2, 1) := by decide +kernel
theorem dX6_hour_93 : decode cX6_hour 93 = .ok (.iinc 3 1, 3) := by decide +kernel
theorem dX6_hour_96 : decode cX6_hour 96 = .ok (.goto (-46), 3) := by decide +kernel
theorem dX6_hour_99 : decode cX6_hour 99 = .ok (.iload_n 2, 1) := by decide +kernel
theorem dX6_hour_100 : decode cX6_hour 100 = .ok (.ireturn, 1) := by decide +kernel
set_option maxRecDepth 20000 in
theorem ggX6_law_X6_no : GoodIn wsX6_law wsX6_no := goodIn_r _ [12, 2, 13, 14, 15, 16, 17, 18, 19, 20, 21, 22, 23, 24, 25, 26, 27, 28, 29, 30, 31, 32, 33, 34, 35, 36, 37, 38, 39, 40, 41, 42, 43, 44, 45, 46, 47, 48, 49, 50, 51, 52, 53] (by decide +kernel) (by decide +kernel)
set_option maxRecDepth 20000 in
theorem gX6_law_X6_no : GoodIn wsX6_law (wsV RX6 143 RX6 yX6_no wsX6_no) := goodIn_app (goodIn_of _ (by decide +kernel)) ggX6_law_X6_no
theorem dX6_law_0 : decode cX6_law 0 = .ok (.aload_n 0, 1) := by decide +kernel
theorem dX6_law_1 : decode cX6_law 1 = .ok (.iconst 0, 1) := by decide +kernel
theorem dX6_law_2 : decode cX6_law 2 = .ok (.putfield 101, 3) := by decide +kernel
theorem dX6_law_5 : decode cX6_law 5 = .ok (.aload_n 0, 1) := by decide +kernel
theorem dX6_law_6 : decode cX6_law 6 = .ok (.iconst 0, 1) := by decide +kernel
theorem dX6_law_7 : decode cX6_law 7 = .ok (.putfield 105, 3) := by decide +kernel
theorem dX6_law_10 : decode cX6_law 10 = .ok (.iload_n 1, 1) := by decide +kernel
theorem dX6_law_11 : decode cX6_law 11 = .ok (.ifCond .lt 19, 3) := by decide +kernel
theorem dX6_law_14 : decode cX6_law 14 = .ok (.iload_n 1, 1) := by decide +kernel
theorem dX6_law_15 : decode cX6_law 15 = .ok (.ldc 114, 2) := by decide +kernel
theorem dX6_law_17 : decode cX6_law 17 = .ok (.if_icmp .gt 13, 3) := by decide +kernel
theorem dX6_law_20 : decode cX6_law 20 = .ok (.iload_n 2, 1) := by decide +kernel
theorem dX6_law_21 : decode cX6_law 21 = .ok (.ifCond .lt 9, 3) := by decide +kernel
theorem dX6_law_24 : decode cX6_law 24 = .ok (.iload_n 2, 1) := by decide +kernel
theorem dX6_law_25 : decode cX6_law 25 = .ok (.ldc 251, 2) := by decide +kernel
theorem dX6_law_27 : decode cX6_law 27 = .ok (.if_icmp .le 9, 3) := by decide +kernel
theorem dX6_law_30 : decode cX6_law 30 = .ok (.aload_n 0, 1) := by decide +kernel
theorem dX6_law_31 : decode cX6_law 31 = .ok (.iconst 2, 1) := by decide +kernel
theorem dX6_law_32 : decode cX6_law 32 = .ok (.invokevirtual 143, 3) := by decide +kernel
theorem dX6_law_35 : decode cX6_law 35 = .ok (.ireturn, 1) := by decide +kernel
theorem dX6_law_36 : decode cX6_law 36 = .ok (.aload_n 0, 1) := by decide +kernel
theorem dX6_law_37 : decode cX6_law 37 = .ok (.getfield 252, 3) := by decide +kernel
theorem dX6_law_40 : decode cX6_law 40 = .ok (.bipush 10, 2) := by decide +kernel
theorem dX6_law_42 : decode cX6_law 42 = .ok (.if_icmp .ne 9, 3) := by decide +kernel
theorem dX6_law_45 : decode cX6_law 45 = .ok (.aload_n 0, 1) := by decide +kernel
theorem dX6_law_46 : decode cX6_law 46 = .ok (.iconst 3, 1) := by decide +kernel
theorem dX6_law_47 : decode cX6_law 47 = .ok (.invokevirtual 143, 3) := by decide +kernel
theorem dX6_law_50 : decode cX6_law 50 = .ok (.ireturn, 1) := by decide +kernel
theorem dX6_law_51 : decode cX6_law 51 = .ok (.aload_n 0, 1) := by decide +kernel
theorem dX6_law_52 : decode cX6_law 52 = .ok (.getfield 86, 3) := by decide +kernel
theorem dX6_law_55 : decode cX6_law 55 = .ok (.aload_n 0, 1) := by decide +kernel
theorem dX6_law_56 : decode cX6_law 56 = .ok (.getfield 252, 3) := by decide +kernel
theorem dX6_law_59 : decode cX6_law 59 = .ok (.iload_n 1, 1) := by decide +kernel
theorem dX6_law_60 : decode cX6_law 60 = .ok (.iastore, 1) := by decide +kernel
theorem dX6_law_61 : decode cX6_law 61 = .ok (.aload_n 0, 1) := by decide +kernel
theorem dX6_law_62 : decode cX6_law 62 = .ok (.getfield 89, 3) := by decide +kernel
theorem dX6_law_65 : decode cX6_law 65 = .ok (.aload_n 0, 1) := by decide +kernel
theorem dX6_law_66 : decode cX6_law 66 = .ok (.getfield 252, 3) := by decide +kernel
theorem dX6_law_69 : decode cX6_law 69 = .ok (.iload_n 2, 1) := by decide +kernel
theorem dX6_law_70 : decode cX6_law 70 = .ok (.iastore, 1) := by decide +kernel
theorem dX6_law_71 : decode cX6_law 71 = .ok (.aload_n 0, 1) := by decide +kernel
theorem dX6_law_72 : decode cX6_law 72 = .ok (.dup, 1) := by decide +kernel
theorem dX6_law_73 : decode cX6_law 73 = .ok (.getfield 252, 3) := by decide +kernel
theorem dX6_law_76 : decode cX6_law 76 = .ok (.iconst 1, 1) := by decide +kernel
theorem dX6_law_77 : decode cX6_law 77 = .ok (.iadd, 1) := by decide +kernel
theorem dX6_law_78 : decode cX6_law 78 = .ok (.putfield 252, 3) := by decide +kernel
theorem dX6_law_81 : decode cX6_law 81 = .ok (.iconst 1, 1) := by decide +kernel
theorem dX6_law_82 : decode cX6_law 82 = .ok (.ireturn, 1) := by decide +kernel
set_option maxRecDepth 20000 in
theorem ggX6_death_X6_isPlate : GoodIn wsX6_death wsX6_isPlate := goodIn_r _ [12, 13, 21, 22, 23, 24, 25, 26, 27, 28, 29, 30, 31, 32, 33, 34, 35, 36, 37, 38, 39, 40, 41, 42, 43, 44, 45, 46, 47, 48, 49, 50, 51, 52, 53, 54, 55, 56, 57, 58, 59, 60, 61] (by decide +kernel) (by decide +kernel)
set_option maxRecDepth 20000 in
theorem gX6_death_X6_isPlate : GoodIn wsX6_death (wsV RX6 122 RX6 yX6_isPlate wsX6_isPlate) := goodIn_app (goodIn_of _ (by decide +kernel)) ggX6_death_X6_isPlate
set_option maxRecDepth 20000 in
theorem ggX6_death_X6_no : GoodIn wsX6_death wsX6_no := goodIn_r _ [17, 2, 21, 22, 23, 24, 25, 26, 27, 28, 29, 30, 31, 32, 33, 34, 35, 36, 37, 38, 39, 40, 41, 42, 43, 44, 45, 46, 47, 48, 49, 50, 51, 52, 53, 54, 55, 56, 57, 58, 59, 60, 61] (by decide +kernel) (by decide +kernel)
set_option maxRecDepth 20000 in
theorem gX6_death_X6_no : GoodIn wsX6_death (wsV RX6 143 RX6 yX6_no wsX6_no) := goodIn_app (goodIn_of _ (by decide +kernel)) ggX6_death_X6_no
set_option maxRecDepth 20000 in
theorem ggX6_death_X6_isDay : GoodIn wsX6_death wsX6_isDay := goodIn_r _ [20] (by decide +kernel) (by decide +kernel)
set_option maxRecDepth 20000 in
theorem gX6_death_X6_isDay : GoodIn wsX6_death (va_wsS RX6 129 yX6_isDay wsX6_isDay) := goodIn_app (goodIn_of _ (by decide +kernel)) ggX6_death_X6_isDay
theorem dX6_death_0 : decode cX6_death 0 = .ok (.aload_n 0, 1) := by decide +kernel
theorem dX6_death_1 : decode cX6_death 1 = .ok (.iconst 0, 1) := by decide +kernel
theorem dX6_death_2 : decode cX6_death 2 = .ok (.putfield 101, 3) := by decide +kernel
theorem dX6_death_5 : decode cX6_death 5 = .ok (.aload_n 0, 1) := by decide +kernel
theorem dX6_death_6 : decode cX6_death 6 = .ok (.iconst 0, 1) := by decide +kernel
theorem dX6_death_7 : decode cX6_death 7 = .ok (.putfield 105, 3) := by decide +kernel
theorem dX6_death_10 : decode cX6_death 10 = .ok (.aload_n 0, 1) := by decide +kernel
theorem dX6_death_11 : decode cX6_death 11 = .ok (.iload_n 1, 1) := by decide +kernel
theorem dX6_death_12 : decode cX6_death 12 = .ok (.invokevirtual 122, 3) := by decide +kernel
theorem dX6_death_15 : decode cX6_death 15 = .ok (.ifCond .ne 9, 3) := by decide +kernel
theorem dX6_death_18 : decode cX6_death 18 = .ok (.aload_n 0, 1) := by decide +kernel
theorem dX6_death_19 : decode cX6_death 19 = .ok (.iconst 1, 1) := by decide +kernel
theorem dX6_death_20 : decode cX6_death 20 = .ok (.invokevirtual 143, 3) := by decide +kernel
theorem dX6_death_23 : decode cX6_death 23 = .ok (.ireturn, 1) := by decide +kernel
theorem dX6_death_24 : decode cX6_death 24 = .ok (.iload_n 2, 1) := by decide +kernel
theorem dX6_death_25 : decode cX6_death 25 = .ok (.ifCond .lt 16, 3) := by decide +kernel
theorem dX6_death_28 : decode cX6_death 28 = .ok (.iload_n 2, 1) := by decide +kernel
theorem dX6_death_29 : decode cX6_death 29 = .ok (.ldc 114, 2) := by decide +kernel
theorem dX6_death_31 : decode cX6_death 31 = .ok (.if_icmp .gt 10, 3) := by decide +kernel
theorem dX6_death_34 : decode cX6_death 34 = .ok (.iload_n 3, 1) := by decide +kernel
theorem dX6_death_35 : decode cX6_death 35 = .ok (.invokestatic 129, 3) := by decide +kernel
theorem dX6_death_38 : decode cX6_death 38 = .ok (.ifCond .ne 9, 3) := by decide +kernel
theorem dX6_death_41 : decode cX6_death 41 = .ok (.aload_n 0, 1) := by decide +kernel
theorem dX6_death_42 : decode cX6_death 42 = .ok (.iconst 2, 1) := by decide +kernel
theorem dX6_death_43 : decode cX6_death 43 = .ok (.invokevirtual 143, 3) := by decide +kernel
theorem dX6_death_46 : decode cX6_death 46 = .ok (.ireturn, 1) := by decide +kernel
theorem dX6_death_47 : decode cX6_death 47 = .ok (.aload_n 0, 1) := by decide +kernel
theorem dX6_death_48 : decode cX6_death 48 = .ok (.getfield 255, 3) := by decide +kernel
theorem dX6_death_51 : decode cX6_death 51 = .ok (.bipush 60, 2) := by decide +kernel
theorem dX6_death_53 : decode cX6_death 53 = .ok (.if_icmp .ne 9, 3) := by decide +kernel
theorem dX6_death_56 : decode cX6_death 56 = .ok (.aload_n 0, 1) := by decide +kernel
theorem dX6_death_57 : decode cX6_death 57 = .ok (.iconst 3, 1) := by decide +kernel
theorem dX6_death_58 : decode cX6_death 58 = .ok (.invokevirtual 143, 3) := by decide +kernel
theorem dX6_death_61 : decode cX6_death 61 = .ok (.ireturn, 1) := by decide +kernel
theorem dX6_death_62 : decode cX6_death 62 = .ok (.aload_n 0, 1) := by decide +kernel
theorem dX6_death_63 : decode cX6_death 63 = .ok (.getfield 92, 3) := by decide +kernel
theorem dX6_death_66 : decode cX6_death 66 = .ok (.aload_n 0, 1) := by decide +kernel
theorem dX6_death_67 : decode cX6_death 67 = .ok (.getfield 255, 3) := by decide +kernel
theorem dX6_death_70 : decode cX6_death 70 = .ok (.iload_n 1, 1) := by decide +kernel
theorem dX6_death_71 : decode cX6_death 71 = .ok (.iastore, 1) := by decide +kernel
theorem dX6_death_72 : decode cX6_death 72 = .ok (.aload_n 0, 1) := by decide +kernel
theorem dX6_death_73 : decode cX6_death 73 = .ok (.getfield 95, 3) := by decide +kernel
theorem dX6_death_76 : decode cX6_death 76 = .ok (.aload_n 0, 1) := by decide +kernel
theorem dX6_death_77 : decode cX6_death 77 = .ok (.getfield 255, 3) := by decide +kernel
theorem dX6_death_80 : decode cX6_death 80 = .ok (.iload_n 2, 1) := by decide +kernel
theorem dX6_death_81 : decode cX6_death 81 = .ok (.iastore, 1) := by decide +kernel
theorem dX6_death_82 : decode cX6_death 82 = .ok (.aload_n 0, 1) := by decide +kernel
theorem dX6_death_83 : decode cX6_death 83 = .ok (.getfield 98, 3) := by decide +kernel
theorem dX6_death_86 : decode cX6_death 86 = .ok (.aload_n 0, 1) := by decide +kernel
theorem dX6_death_87 : decode cX6_death 87 = .ok (.getfield 255, 3) := by decide +kernel
theorem dX6_death_90 : decode cX6_death 90 = .ok (.iload_n 3, 1) := by decide +kernel
theorem dX6_death_91 : decode cX6_death 91 = .ok (.iastore, 1) := by decide +kernel
theorem dX6_death_92 : decode cX6_death 92 = .ok (.aload_n 0, 1) := by decide +kernel
theorem dX6_death_93 : decode cX6_death 93 = .ok (.dup, 1) := by decide +kernel
theorem dX6_death_94 : decode cX6_death 94 = .ok (.getfield 255, 3) := by decide +kernel
theorem dX6_death_97 : decode cX6_death 97 = .ok (.iconst 1, 1) := by decide +kernel
theorem dX6_death_98 : decode cX6_death 98 = .ok (.iadd, 1) := by decide +kernel
theorem dX6_death_99 : decode cX6_death 99 = .ok (.putfield 255, 3) := by decide +kernel
theorem dX6_death_102 : decode cX6_death 102 = .ok (.iconst 1, 1) := by decide +kernel
theorem dX6_death_103 : decode cX6_death 103 = .ok (.ireturn, 1) := by decide +kernel
set_option maxRecDepth 20000 in
theorem ggX6_free_X6_isPlate : GoodIn wsX6_free wsX6_isPlate := goodIn_r _ [15, 16, 24, 25, 26, 27, 28, 29, 30, 31, 32, 33, 34, 35, 36, 37, 38, 39, 40, 41, 42, 43, 44, 45, 46, 47, 48, 49, 50, 51, 52, 53, 54, 55, 56, 57, 58, 59, 60, 61, 62, 63, 64] (by decide +kernel) (by decide +kernel)
set_option maxRecDepth 20000 in
theorem gX6_free_X6_isPlate : GoodIn wsX6_free (wsV RX6 122 RX6 yX6_isPlate wsX6_isPlate) := goodIn_app (goodIn_of _ (by decide +kernel)) ggX6_free_X6_isPlate
set_option maxRecDepth 20000 in
theorem ggX6_free_X6_refuse : GoodIn wsX6_free wsX6_refuse := goodIn_r _ [20, 2, 24, 25, 26, 27, 28, 29, 30, 31, 32, 33, 34, 35, 36, 37, 38, 39, 40, 41, 42, 43, 44, 45, 46, 47, 48, 49, 50, 51, 52, 53, 54, 55, 56, 57, 58, 59, 60, 61, 62, 63, 64] (by decide +kernel) (by decide +kernel)
set_option maxRecDepth 20000 in
theorem gX6_free_X6_refuse : GoodIn wsX6_free (wsV RX6 115 RX6 yX6_refuse wsX6_refuse) := goodIn_app (goodIn_of _ (by decide +kernel)) ggX6_free_X6_refuse
set_option maxRecDepth 20000 in
theorem ggX6_free_X6_isDay : GoodIn wsX6_free wsX6_isDay := goodIn_r _ [23] (by decide +kernel) (by decide +kernel)
set_option maxRecDepth 20000 in
theorem gX6_free_X6_isDay : GoodIn wsX6_free (va_wsS RX6 129 yX6_isDay wsX6_isDay) := goodIn_app (goodIn_of _ (by decide +kernel)) ggX6_free_X6_isDay
theorem dX6_free_0 : decode cX6_free 0 = .ok (.aload_n 0, 1) := by decide +kernel
theorem dX6_free_1 : decode cX6_free 1 = .ok (.iconst 0, 1) := by decide +kernel
theorem dX6_free_2 : decode cX6_free 2 = .ok (.putfield 101, 3) := by decide +kernel
theorem dX6_free_5 : decode cX6_free 5 = .ok (.aload_n 0, 1) := by decide +kernel
theorem dX6_free_6 : decode cX6_free 6 = .ok (.iconst 0, 1) := by decide +kernel
theorem dX6_free_7 : decode cX6_free 7 = .ok (.putfield 105, 3) := by decide +kernel
theorem dX6_free_10 : decode cX6_free 10 = .ok (.aload_n 0, 1) := by decide +kernel
theorem dX6_free_11 : decode cX6_free 11 = .ok (.iload_n 1, 1) := by decide +kernel
theorem dX6_free_12 : decode cX6_free 12 = .ok (.invokevirtual 122, 3) := by decide +kernel
theorem dX6_free_15 : decode cX6_free 15 = .ok (.ifCond .ne 9, 3) := by decide +kernel
theorem dX6_free_18 : decode cX6_free 18 = .ok (.aload_n 0, 1) := by decide +kernel
theorem dX6_free_19 : decode cX6_free 19 = .ok (.iconst 1, 1) := by decide +kernel
theorem dX6_free_20 : decode cX6_free 20 = .ok (.invokevirtual 115, 3) := by decide +kernel
theorem dX6_free_23 : decode cX6_free 23 = .ok (.ireturn, 1) := by decide +kernel
theorem dX6_free_24 : decode cX6_free 24 = .ok (.iload_n 2, 1) := by decide +kernel
theorem dX6_free_25 : decode cX6_free 25 = .ok (.ifCond .lt 17, 3) := by decide +kernel
theorem dX6_free_28 : decode cX6_free 28 = .ok (.iload_n 2, 1) := by decide +kernel
theorem dX6_free_29 : decode cX6_free 29 = .ok (.ldc_w 258, 3) := by decide +kernel
theorem dX6_free_32 : decode cX6_free 32 = .ok (.if_icmp .gt 10, 3) := by decide +kernel
theorem dX6_free_35 : decode cX6_free 35 = .ok (.iload_n 3, 1) := by decide +kernel
theorem dX6_free_36 : decode cX6_free 36 = .ok (.invokestatic 129, 3) := by decide +kernel
theorem dX6_free_39 : decode cX6_free 39 = .ok (.ifCond .ne 9, 3) := by decide +kernel
theorem dX6_free_42 : decode cX6_free 42 = .ok (.aload_n 0, 1) := by decide +kernel
theorem dX6_free_43 : decode cX6_free 43 = .ok (.iconst 2, 1) := by decide +kernel
theorem dX6_free_44 : decode cX6_free 44 = .ok (.invokevirtual 115, 3) := by decide +kernel
theorem dX6_free_47 : decode cX6_free 47 = .ok (.ireturn, 1) := by decide +kernel
theorem dX6_free_48 : decode cX6_free 48 = .ok (.iconst (-1), 1) := by decide +kernel
theorem dX6_free_49 : decode cX6_free 49 = .ok (.istore 4, 2) := by decide +kernel
theorem dX6_free_51 : decode cX6_free 51 = .ok (.iconst 0, 1) := by decide +kernel
theorem dX6_free_52 : decode cX6_free 52 = .ok (.istore 5, 2) := by decide +kernel
theorem dX6_free_54 : decode cX6_free 54 = .ok (.iload 5, 2) := by decide +kernel
theorem dX6_free_56 : decode cX6_free 56 = .ok (.aload_n 0, 1) := by decide +kernel
theorem dX6_free_57 : decode cX6_free 57 = .ok (.getfield 252, 3) := by decide +kernel
theorem dX6_free_60 : decode cX6_free 60 = .ok (.if_icmp .ge 46, 3) := by decide +kernel
theorem dX6_free_63 : decode cX6_free 63 = .ok (.aload_n 0, 1) := by decide +kernel
theorem dX6_free_64 : decode cX6_free 64 = .ok (.getfield 86, 3) := by decide +kernel
theorem dX6_free_67 : decode cX6_free 67 = .ok (.iload 5, 2) := by decide +kernel
theorem dX6_free_69 : decode cX6_free 69 = .ok (.iaload, 1) := by decide +kernel
theorem dX6_free_70 : decode cX6_free 70 = .ok (.iload_n 2, 1) := by decide +kernel
theorem dX6_free_71 : decode cX6_free 71 = .ok (.if_icmp .gt 29, 3) := by decide +kernel
theorem dX6_free_74 : decode cX6_free 74 = .ok (.iload 4, 2) := by decide +kernel
theorem dX6_free_76 : decode cX6_free 76 = .ok (.ifCond .lt 20, 3) := by decide +kernel
theorem dX6_free_79 : decode cX6_free 79 = .ok (.aload_n 0, 1) := by decide +kernel
theorem dX6_free_80 : decode cX6_free 80 = .ok (.getfield 86, 3) := by decide +kernel
theorem dX6_free_83 : decode cX6_free 83 = .ok (.iload 5, 2) := by decide +kernel
theorem dX6_free_85 : decode cX6_free 85 = .ok (.iaload, 1) := by decide +kernel
theorem dX6_free_86 : decode cX6_free 86 = .ok (.aload_n 0, 1) := by decide +kernel
theorem dX6_free_87 : decode cX6_free 87 = .ok (.getfield 86, 3) := by decide +kernel
theorem dX6_free_90 : decode cX6_free 90 = .ok (.iload 4, 2) := by decide +kernel
theorem dX6_free_92 : decode cX6_free 92 = .ok (.iaload, 1) := by decide +kernel
theorem dX6_free_93 : decode cX6_free 93 = .ok (.if_icmp .lt 7, 3) := by decide +kernel
theorem dX6_free_96 : decode cX6_free 96 = .ok (.iload 5, 2) := by decide +kernel
theorem dX6_free_98 : decode cX6_free 98 = .ok (.istore 4, 2) := by decide +kernel
theorem dX6_free_100 : decode cX6_free 100 = .ok (.iinc 5 1, 3) := by decide +kernel
theorem dX6_free_103 : decode cX6_free 103 = .ok (.goto (-49), 3) := by decide +kernel
theorem dX6_free_106 : decode cX6_free 106 = .ok (.iconst (-1), 1) := by decide +kernel
theorem dX6_free_107 : decode cX6_free 107 = .ok (.istore 5, 2) := by decide +kernel
theorem dX6_free_109 : decode cX6_free 109 = .ok (.iconst 0, 1) := by decide +kernel
theorem dX6_free_110 : decode cX6_free 110 = .ok (.istore 6, 2) := by decide +kernel
theorem dX6_free_112 : decode cX6_free 112 = .ok (.iload 6, 2) := by decide +kernel
theorem dX6_free_114 : decode cX6_free 114 = .ok (.aload_n 0, 1) := by decide +kernel
theorem dX6_free_115 : decode cX6_free 115 = .ok (.getfield 255, 3) := by decide +kernel
theorem dX6_free_118 : decode cX6_free 118 = .ok (.if_icmp .ge 57, 3) := by decide +kernel
theorem dX6_free_121 : decode cX6_free 121 = .ok (.aload_n 0, 1) := by decide +kernel
theorem dX6_free_122 : decode cX6_free 122 = .ok (.getfield 92, 3) := by decide +kernel
theorem dX6_free_125 : decode cX6_free 125 = .ok (.iload 6, 2) := by decide +kernel
theorem dX6_free_127 : decode cX6_free 127 = .ok (.iaload, 1) := by decide +kernel
theorem dX6_free_128 : decode cX6_free 128 = .ok (.iload_n 1, 1) := by decide +kernel
theorem dX6_free_129 : decode cX6_free 129 = .ok (.if_icmp .ne 40, 3) := by decide +kernel
theorem dX6_free_132 : decode cX6_free 132 = .ok (.aload_n 0, 1) := by decide +kernel
theorem dX6_free_133 : decode cX6_free 133 = .ok (.getfield 98, 3) := by decide +kernel
theorem dX6_free_136 : decode cX6_free 136 = .ok (.iload 6, 2) := by decide +kernel
theorem dX6_free_138 : decode cX6_free 138 = .ok (.iaload, 1) := by decide +kernel
theorem dX6_free_139 : decode cX6_free 139 = .ok (.iload_n 3, 1) := by decide +kernel
theorem dX6_free_140 : decode cX6_free 140 = .ok (.if_icmp .gt 29, 3) := by decide +kernel
theorem dX6_free_143 : decode cX6_free 143 = .ok (.iload 5, 2) := by decide +kernel
theorem dX6_free_145 : decode cX6_free 145 = .ok (.ifCond .lt 20, 3) := by decide +kernel
theorem dX6_free_148 : decode cX6_free 148 = .ok (.aload_n 0, 1) := by decide +kernel
theorem dX6_free_149 : decode cX6_free 149 = .ok (.getfield 98, 3) := by decide +kernel
theorem dX6_free_152 : decode cX6_free 152 = .ok (.iload 6, 2) := by decide +kernel
theorem dX6_free_154 : decode cX6_free 154 = .ok (.iaload, 1) := by decide +kernel
theorem dX6_free_155 : decode cX6_free 155 = .ok (.aload_n 0, 1) := by decide +kernel
theorem dX6_free_156 : decode cX6_free 156 = .ok (.getfield 98, 3) := by decide +kernel
theorem dX6_free_159 : decode cX6_free 159 = .ok (.iload 5, 2) := by decide +kernel
theorem dX6_free_161 : decode cX6_free 161 = .ok (.iaload, 1) := by decide +kernel
theorem dX6_free_162 : decode cX6_free 162 = .ok (.if_icmp .lt 7, 3) := by decide +kernel
theorem dX6_free_165 : decode cX6_free 165 = .ok (.iload 6, 2) := by decide +kernel
theorem dX6_free_167 : decode cX6_free 167 = .ok (.istore 5, 2) := by decide +kernel
theorem dX6_free_169 : decode cX6_free 169 = .ok (.iinc 6 1, 3) := by decide +kernel
theorem dX6_free_172 : decode cX6_free 172 = .ok (.goto (-60), 3) := by decide +kernel
theorem dX6_free_175 : decode cX6_free 175 = .ok (.iload 4, 2) := by decide +kernel
theorem dX6_free_177 : decode cX6_free 177 = .ok (.ifCond .lt 31, 3) := by decide +kernel
theorem dX6_free_180 : decode cX6_free 180 = .ok (.iload 5, 2) := by decide +kernel
theorem dX6_free_182 : decode cX6_free 182 = .ok (.ifCond .lt 26, 3) := by decide +kernel
theorem dX6_free_185 : decode cX6_free 185 = .ok (.aload_n 0, 1) := by decide +kernel
theorem dX6_free_186 : decode cX6_free 186 = .ok (.getfield 95, 3) := by decide +kernel
theorem dX6_free_189 : decode cX6_free 189 = .ok (.iload 5, 2) := by decide +kernel
theorem dX6_free_191 : decode cX6_free 191 = .ok (.iaload, 1) := by decide +kernel
theorem dX6_free_192 : decode cX6_free 192 = .ok (.aload_n 0, 1) := by decide +kernel
theorem dX6_free_193 : decode cX6_free 193 = .ok (.getfield 89, 3) := by decide +kernel
theorem dX6_free_196 : decode cX6_free 196 = .ok (.iload 4, 2) := by decide +kernel
theorem dX6_free_198 : decode cX6_free 198 = .ok (.iaload, 1) := by decide +kernel
theorem dX6_free_199 : decode cX6_free 199 = .ok (.iadd, 1) := by decide +kernel
theorem dX6_free_200 : decode cX6_free 200 = .ok (.iload_n 2, 1) := by decide +kernel
theorem dX6_free_201 : decode cX6_free 201 = .ok (.if_icmp .gt 7, 3) := by decide +kernel
theorem dX6_free_204 : decode cX6_free 204 = .ok (.iconst 1, 1) := by decide +kernel
theorem dX6_free_205 : decode cX6_free 205 = .ok (.goto 4, 3) := by decide +kernel
theorem dX6_free_208 : decode cX6_free 208 = .ok (.iconst 0, 1) := by decide +kernel
theorem dX6_free_209 : decode cX6_free 209 = .ok (.ireturn, 1) := by decide +kernel
theorem dJ6_bitCount_0f7a4_0 : decode cJ6_bitCount_0f7a4 0 = .ok (.iload_n 0, 1) := by decide +kernel
theorem dJ6_bitCount_0f7a4_1 : decode cJ6_bitCount_0f7a4 1 = .ok (.iload_n 0, 1) := by decide +kernel
theorem dJ6_bitCount_0f7a4_2 : decode cJ6_bitCount_0f7a4 2 = .ok (.iconst 1, 1) := by decide +kernel
theorem dJ6_bitCount_0f7a4_3 : decode cJ6_bitCount_0f7a4 3 = .ok (.iushr, 1) := by decide +kernel
theorem dJ6_bitCount_0f7a4_4 : decode cJ6_bitCount_0f7a4 4 = .ok (.ldc_w 265, 3) := by decide +kernel
theorem dJ6_bitCount_0f7a4_7 : decode cJ6_bitCount_0f7a4 7 = .ok (.iand, 1) := by decide +kernel
theorem dJ6_bitCount_0f7a4_8 : decode cJ6_bitCount_0f7a4 8 = .ok (.isub, 1) := by decide +kernel
theorem dJ6_bitCount_0f7a4_9 : decode cJ6_bitCount_0f7a4 9 = .ok (.istore_n 0, 1) := by decide +kernel
theorem dJ6_bitCount_0f7a4_10 : decode cJ6_bitCount_0f7a4 10 = .ok (.iload_n 0, 1) := by decide +kernel
theorem dJ6_bitCount_0f7a4_11 : decode cJ6_bitCount_0f7a4 11 = .ok (.ldc_w 266, 3) := by decide +kernel
theorem dJ6_bitCount_0f7a4_14 : decode cJ6_bitCount_0f7a4 14 = .ok (.iand, 1) := by decide +kernel
theorem dJ6_bitCount_0f7a4_15 : decode cJ6_bitCount_0f7a4 15 = .ok (.iload_n 0, 1) := by decide +kernel
theorem dJ6_bitCount_0f7a4_16 : decode cJ6_bitCount_0f7a4 16 = .ok (.iconst 2, 1) := by decide +kernel
theorem dJ6_bitCount_0f7a4_17 : decode cJ6_bitCount_0f7a4 17 = .ok (.iushr, 1) := by decide +kernel
theorem dJ6_bitCount_0f7a4_18 : decode cJ6_bitCount_0f7a4 18 = .ok (.ldc_w 266, 3) := by decide +kernel
theorem dJ6_bitCount_0f7a4_21 : decode cJ6_bitCount_0f7a4 21 = .ok (.iand, 1) := by decide +kernel
theorem dJ6_bitCount_0f7a4_22 : decode cJ6_bitCount_0f7a4 22 = .ok (.iadd, 1) := by decide +kernel
theorem dJ6_bitCount_0f7a4_23 : decode cJ6_bitCount_0f7a4 23 = .ok (.istore_n 0, 1) := by decide +kernel
theorem dJ6_bitCount_0f7a4_24 : decode cJ6_bitCount_0f7a4 24 = .ok (.iload_n 0, 1) := by decide +kernel
theorem dJ6_bitCount_0f7a4_25 : decode cJ6_bitCount_0f7a4 25 = .ok (.iload_n 0, 1) := by decide +kernel
theorem dJ6_bitCount_0f7a4_26 : decode cJ6_bitCount_0f7a4 26 = .ok (.iconst 4, 1) := by decide +kernel
theorem dJ6_bitCount_0f7a4_27 : decode cJ6_bitCount_0f7a4 27 = .ok (.iushr, 1) := by decide +kernel
theorem dJ6_bitCount_0f7a4_28 : decode cJ6_bitCount_0f7a4 28 = .ok (.iadd, 1) := by decide +kernel
theorem dJ6_bitCount_0f7a4_29 : decode cJ6_bitCount_0f7a4 29 = .ok (.ldc_w 267, 3) := by decide +kernel
theorem dJ6_bitCount_0f7a4_32 : decode cJ6_bitCount_0f7a4 32 = .ok (.iand, 1) := by decide +kernel
theorem dJ6_bitCount_0f7a4_33 : decode cJ6_bitCount_0f7a4 33 = .ok (.istore_n 0, 1) := by decide +kernel
theorem dJ6_bitCount_0f7a4_34 : decode cJ6_bitCount_0f7a4 34 = .ok (.iload_n 0, 1) := by decide +kernel
theorem dJ6_bitCount_0f7a4_35 : decode cJ6_bitCount_0f7a4 35 = .ok (.iload_n 0, 1) := by decide +kernel
theorem dJ6_bitCount_0f7a4_36 : decode cJ6_bitCount_0f7a4 36 = .ok (.bipush 8, 2) := by decide +kernel
theorem dJ6_bitCount_0f7a4_38 : decode cJ6_bitCount_0f7a4 38 = .ok (.iushr, 1) := by decide +kernel
theorem dJ6_bitCount_0f7a4_39 : decode cJ6_bitCount_0f7a4 39 = .ok (.iadd, 1) := by decide +kernel
theorem dJ6_bitCount_0f7a4_40 : decode cJ6_bitCount_0f7a4 40 = .ok (.istore_n 0, 1) := by decide +kernel
theorem dJ6_bitCount_0f7a4_41 : decode cJ6_bitCount_0f7a4 41 = .ok (.iload_n 0, 1) := by decide +kernel
theorem dJ6_bitCount_0f7a4_42 : decode cJ6_bitCount_0f7a4 42 = .ok (.iload_n 0, 1) := by decide +kernel
theorem dJ6_bitCount_0f7a4_43 : decode cJ6_bitCount_0f7a4 43 = .ok (.bipush 16, 2) := by decide +kernel
theorem dJ6_bitCount_0f7a4_45 : decode cJ6_bitCount_0f7a4 45 = .ok (.iushr, 1) := by decide +kernel
theorem dJ6_bitCount_0f7a4_46 : decode cJ6_bitCount_0f7a4 46 = .ok (.iadd, 1) := by decide +kernel
theorem dJ6_bitCount_0f7a4_47 : decode cJ6_bitCount_0f7a4 47 = .ok (.istore_n 0, 1) := by decide +kernel
theorem dJ6_bitCount_0f7a4_48 : decode cJ6_bitCount_0f7a4 48 = .ok (.iload_n 0, 1) := by decide +kernel
theorem dJ6_bitCount_0f7a4_49 : decode cJ6_bitCount_0f7a4 49 = .ok (.bipush 63, 2) := by decide +kernel
theorem dJ6_bitCount_0f7a4_51 : decode cJ6_bitCount_0f7a4 51 = .ok (.iand, 1) := by decide +kernel
theorem dJ6_bitCount_0f7a4_52 : decode cJ6_bitCount_0f7a4 52 = .ok (.ireturn, 1) := by decide +kernel
theorem dJ9_max_7cf53_0 : decode cJ9_max_7cf53 0 = .ok (.iload_n 0, 1) := by decide +kernel
theorem dJ9_max_7cf53_1 : decode cJ9_max_7cf53 1 = .ok (.iload_n 1, 1) := by decide +kernel
theorem dJ9_max_7cf53_2 : decode cJ9_max_7cf53 2 = .ok (.if_icmp .lt 7, 3) := by decide +kernel
theorem dJ9_max_7cf53_5 : decode cJ9_max_7cf53 5 = .ok (.iload_n 0, 1) := by decide +kernel
theorem dJ9_max_7cf53_6 : decode cJ9_max_7cf53 6 = .ok (.goto 4, 3) := by decide +kernel
theorem dJ9_max_7cf53_9 : decode cJ9_max_7cf53 9 = .ok (.iload_n 1, 1) := by decide +kernel
theorem dJ9_max_7cf53_10 : decode cJ9_max_7cf53 10 = .ok (.ireturn, 1) := by decide +kernel
theorem dJ9_max_f86c9_0 : decode cJ9_max_f86c9 0 = .ok (.lload_n 0, 1) := by decide +kernel
theorem dJ9_max_f86c9_1 : decode cJ9_max_f86c9 1 = .ok (.lload_n 2, 1) := by decide +kernel
theorem dJ9_max_f86c9_2 : decode cJ9_max_f86c9 2 = .ok (.lcmp, 1) := by decide +kernel
theorem dJ9_max_f86c9_3 : decode cJ9_max_f86c9 3 = .ok (.ifCond .lt 7, 3) := by decide +kernel
theorem dJ9_max_f86c9_6 : decode cJ9_max_f86c9 6 = .ok (.lload_n 0, 1) := by decide +kernel
theorem dJ9_max_f86c9_7 : decode cJ9_max_f86c9 7 = .ok (.goto 4, 3) := by decide +kernel
theorem dJ9_max_f86c9_10 : decode cJ9_max_f86c9 10 = .ok (.lload_n 2, 1) := by decide +kernel
theorem dJ9_max_f86c9_11 : decode cJ9_max_f86c9 11 = .ok (.lreturn, 1) := by decide +kernel
theorem dJ9_min_7cf53_0 : decode cJ9_min_7cf53 0 = .ok (.iload_n 0, 1) := by decide +kernel
theorem dJ9_min_7cf53_1 : decode cJ9_min_7cf53 1 = .ok (.iload_n 1, 1) := by decide +kernel
theorem dJ9_min_7cf53_2 : decode cJ9_min_7cf53 2 = .ok (.if_icmp .gt 7, 3) := by decide +kernel
theorem dJ9_min_7cf53_5 : decode cJ9_min_7cf53 5 = .ok (.iload_n 0, 1) := by decide +kernel
theorem dJ9_min_7cf53_6 : decode cJ9_min_7cf53 6 = .ok (.goto 4, 3) := by decide +kernel
theorem dJ9_min_7cf53_9 : decode cJ9_min_7cf53 9 = .ok (.iload_n 1, 1) := by decide +kernel
theorem dJ9_min_7cf53_10 : decode cJ9_min_7cf53 10 = .ok (.ireturn, 1) := by decide +kernel
theorem dJ7_fill_d0a16_0 : decode cJ7_fill_d0a16 0 = .ok (.iconst 0, 1) := by decide +kernel
theorem dJ7_fill_d0a16_1 : decode cJ7_fill_d0a16 1 = .ok (.istore_n 3, 1) := by decide +kernel
theorem dJ7_fill_d0a16_2 : decode cJ7_fill_d0a16 2 = .ok (.aload_n 0, 1) := by decide +kernel
theorem dJ7_fill_d0a16_3 : decode cJ7_fill_d0a16 3 = .ok (.arraylength, 1) := by decide +kernel
theorem dJ7_fill_d0a16_4 : decode cJ7_fill_d0a16 4 = .ok (.istore 4, 2) := by decide +kernel
theorem dJ7_fill_d0a16_6 : decode cJ7_fill_d0a16 6 = .ok (.iload_n 3, 1) := by decide +kernel
theorem dJ7_fill_d0a16_7 : decode cJ7_fill_d0a16 7 = .ok (.iload 4, 2) := by decide +kernel
theorem dJ7_fill_d0a16_9 : decode cJ7_fill_d0a16 9 = .ok (.if_icmp .ge 13, 3) := by decide +kernel
theorem dJ7_fill_d0a16_12 : decode cJ7_fill_d0a16 12 = .ok (.aload_n 0, 1) := by decide +kernel
theorem dJ7_fill_d0a16_13 : decode cJ7_fill_d0a16 13 = .ok (.iload_n 3, 1) := by decide +kernel
theorem dJ7_fill_d0a16_14 : decode cJ7_fill_d0a16 14 = .ok (.lload_n 1, 1) := by decide +kernel
theorem dJ7_fill_d0a16_15 : decode cJ7_fill_d0a16 15 = .ok (.lastore, 1) := by decide +kernel
theorem dJ7_fill_d0a16_16 : decode cJ7_fill_d0a16 16 = .ok (.iinc 3 1, 3) := by decide +kernel
theorem dJ7_fill_d0a16_19 : decode cJ7_fill_d0a16 19 = .ok (.goto (-13), 3) := by decide +kernel
