theorem dX6_taken_31 : decode cX6_taken 31 = .ok (.iload_n 3, 1) := by decide +kernel
theorem dX6_taken_32 : decode cX6_taken 32 = .ok (.invokestatic 137, 3) := by decide +kernel
theorem dX6_taken_35 : decode cX6_taken 35 = .ok (.ifCond .eq 29, 3) := by decide +kernel
theorem dX6_taken_38 : decode cX6_taken 38 = .ok (.iload_n 2, 1) := by decide +kernel
theorem dX6_taken_39 : decode cX6_taken 39 = .ok (.iload_n 3, 1) := by decide +kernel
theorem dX6_taken_40 : decode cX6_taken 40 = .ok (.if_icmp .gt 24, 3) := by decide +kernel
theorem dX6_taken_43 : decode cX6_taken 43 = .ok (.iload 4, 2) := by decide +kernel
theorem dX6_taken_45 : decode cX6_taken 45 = .ok (.invokestatic 129, 3) := by decide +kernel
theorem dX6_taken_48 : decode cX6_taken 48 = .ok (.ifCond .eq 16, 3) := by decide +kernel
theorem dX6_taken_51 : decode cX6_taken 51 = .ok (.aload_n 0, 1) := by decide +kernel
theorem dX6_taken_52 : decode cX6_taken 52 = .ok (.iconst 2, 1) := by decide +kernel
theorem dX6_taken_53 : decode cX6_taken 53 = .ok (.iload_n 1, 1) := by decide +kernel
theorem dX6_taken_54 : decode cX6_taken 54 = .ok (.iload_n 2, 1) := by decide +kernel
theorem dX6_taken_55 : decode cX6_taken 55 = .ok (.iload_n 3, 1) := by decide +kernel
theorem dX6_taken_56 : decode cX6_taken 56 = .ok (.iload 4, 2) := by decide +kernel
theorem dX6_taken_58 : decode cX6_taken 58 = .ok (.invokevirtual 132, 3) := by decide +kernel
theorem dX6_taken_61 : decode cX6_taken 61 = .ok (.goto 8, 3) := by decide +kernel
theorem dX6_taken_64 : decode cX6_taken 64 = .ok (.aload_n 0, 1) := by decide +kernel
theorem dX6_taken_65 : decode cX6_taken 65 = .ok (.iconst 2, 1) := by decide +kernel
theorem dX6_taken_66 : decode cX6_taken 66 = .ok (.invokevirtual 115, 3) := by decide +kernel
theorem dX6_taken_69 : decode cX6_taken 69 = .ok (.ireturn, 1) := by decide +kernel
set_option maxRecDepth 20000 in
theorem ggX6_stood_X6_isMotif : GoodIn wsX6_stood wsX6_isMotif := goodIn_r _ [7, 8, 31, 32, 33, 34, 35, 36, 37, 38, 39, 40, 41, 42, 43, 44, 45, 46, 47, 48, 49, 50, 51, 52, 53, 54, 55, 56, 57, 58, 59, 60, 61, 62, 63, 64, 65, 66, 67, 68, 69, 70, 71] (by decide +kernel) (by decide +kernel)
set_option maxRecDepth 20000 in
theorem gX6_stood_X6_isMotif : GoodIn wsX6_stood (wsV RX6 126 RX6 yX6_isMotif wsX6_isMotif) := goodIn_app (goodIn_of _ (by decide +kernel)) ggX6_stood_X6_isMotif
set_option maxRecDepth 20000 in
theorem ggX6_stood_X6_refuse : GoodIn wsX6_stood wsX6_refuse := goodIn_r _ [12, 2, 31, 32, 33, 34, 35, 36, 37, 38, 39, 40, 41, 42, 43, 44, 45, 46, 47, 48, 49, 50, 51, 52, 53, 54, 55, 56, 57, 58, 59, 60, 61, 62, 63, 64, 65, 66, 67, 68, 69, 70, 71] (by decide +kernel) (by decide +kernel)
set_option maxRecDepth 20000 in
theorem gX6_stood_X6_refuse : GoodIn wsX6_stood (wsV RX6 115 RX6 yX6_refuse wsX6_refuse) := goodIn_app (goodIn_of _ (by decide +kernel)) ggX6_stood_X6_refuse
set_option maxRecDepth 20000 in
theorem ggX6_stood_X6_isTime : GoodIn wsX6_stood wsX6_isTime := goodIn_r _ [15, 16] (by decide +kernel) (by decide +kernel)
set_option maxRecDepth 20000 in
theorem gX6_stood_X6_isTime : GoodIn wsX6_stood (va_wsS RX6 137 yX6_isTime wsX6_isTime) := goodIn_app (goodIn_of _ (by decide +kernel)) ggX6_stood_X6_isTime
set_option maxRecDepth 20000 in
theorem ggX6_stood_X6_isDay : GoodIn wsX6_stood wsX6_isDay := goodIn_r _ [19] (by decide +kernel) (by decide +kernel)
set_option maxRecDepth 20000 in
theorem gX6_stood_X6_isDay : GoodIn wsX6_stood (va_wsS RX6 129 yX6_isDay wsX6_isDay) := goodIn_app (goodIn_of _ (by decide +kernel)) ggX6_stood_X6_isDay
set_option maxRecDepth 20000 in
theorem ggX6_stood_X6_adds : GoodIn wsX6_stood wsX6_adds := goodIn_r _ [23, 24, 25, 26, 27, 28, 29, 30, 9, 10, 11, 6, 12, 2, 31, 32, 33, 34, 35, 36, 37, 38, 39, 40, 41, 42, 43, 44, 45, 46, 47, 48, 49, 50, 51, 52, 53, 54, 55, 56, 57, 58, 59, 60, 61, 62, 63, 64, 65, 66, 67, 68, 69, 70, 71] (by decide +kernel) (by decide +kernel)
set_option maxRecDepth 20000 in
theorem gX6_stood_X6_adds : GoodIn wsX6_stood (wsV RX6 132 RX6 yX6_adds wsX6_adds) := goodIn_app (goodIn_of _ (by decide +kernel)) ggX6_stood_X6_adds
theorem dX6_stood_0 : decode cX6_stood 0 = .ok (.aload_n 0, 1) := by decide +kernel
theorem dX6_stood_1 : decode cX6_stood 1 = .ok (.iconst 0, 1) := by decide +kernel
theorem dX6_stood_2 : decode cX6_stood 2 = .ok (.putfield 101, 3) := by decide +kernel
theorem dX6_stood_5 : decode cX6_stood 5 = .ok (.aload_n 0, 1) := by decide +kernel
theorem dX6_stood_6 : decode cX6_stood 6 = .ok (.iconst 0, 1) := by decide +kernel
theorem dX6_stood_7 : decode cX6_stood 7 = .ok (.putfield 105, 3) := by decide +kernel
theorem dX6_stood_10 : decode cX6_stood 10 = .ok (.aload_n 0, 1) := by decide +kernel
theorem dX6_stood_11 : decode cX6_stood 11 = .ok (.iload_n 1, 1) := by decide +kernel
theorem dX6_stood_12 : decode cX6_stood 12 = .ok (.invokevirtual 126, 3) := by decide +kernel
theorem dX6_stood_15 : decode cX6_stood 15 = .ok (.ifCond .ne 9, 3) := by decide +kernel
theorem dX6_stood_18 : decode cX6_stood 18 = .ok (.aload_n 0, 1) := by decide +kernel
theorem dX6_stood_19 : decode cX6_stood 19 = .ok (.iconst 1, 1) := by decide +kernel
theorem dX6_stood_20 : decode cX6_stood 20 = .ok (.invokevirtual 115, 3) := by decide +kernel
theorem dX6_stood_23 : decode cX6_stood 23 = .ok (.ireturn, 1) := by decide +kernel
theorem dX6_stood_24 : decode cX6_stood 24 = .ok (.iload_n 3, 1) := by decide +kernel
theorem dX6_stood_25 : decode cX6_stood 25 = .ok (.invokestatic 137, 3) := by decide +kernel
theorem dX6_stood_28 : decode cX6_stood 28 = .ok (.ifCond .eq 47, 3) := by decide +kernel
theorem dX6_stood_31 : decode cX6_stood 31 = .ok (.iload 4, 2) := by decide +kernel
theorem dX6_stood_33 : decode cX6_stood 33 = .ok (.invokestatic 137, 3) := by decide +kernel
theorem dX6_stood_36 : decode cX6_stood 36 = .ok (.ifCond .eq 39, 3) := by decide +kernel
theorem dX6_stood_39 : decode cX6_stood 39 = .ok (.iload_n 3, 1) := by decide +kernel
theorem dX6_stood_40 : decode cX6_stood 40 = .ok (.iload 4, 2) := by decide +kernel
theorem dX6_stood_42 : decode cX6_stood 42 = .ok (.if_icmp .gt 33, 3) := by decide +kernel
theorem dX6_stood_45 : decode cX6_stood 45 = .ok (.iload 5, 2) := by decide +kernel
theorem dX6_stood_47 : decode cX6_stood 47 = .ok (.invokestatic 129, 3) := by decide +kernel
theorem dX6_stood_50 : decode cX6_stood 50 = .ok (.ifCond .eq 25, 3) := by decide +kernel
theorem dX6_stood_53 : decode cX6_stood 53 = .ok (.aload_n 0, 1) := by decide +kernel
theorem dX6_stood_54 : decode cX6_stood 54 = .ok (.iload_n 2, 1) := by decide +kernel
theorem dX6_stood_55 : decode cX6_stood 55 = .ok (.ifCond .eq 7, 3) := by decide +kernel
theorem dX6_stood_58 : decode cX6_stood 58 = .ok (.iconst 4, 1) := by decide +kernel
theorem dX6_stood_59 : decode cX6_stood 59 = .ok (.goto 4, 3) := by decide +kernel
theorem dX6_stood_62 : decode cX6_stood 62 = .ok (.iconst 3, 1) := by decide +kernel
theorem dX6_stood_63 : decode cX6_stood 63 = .ok (.iload_n 1, 1) := by decide +kernel
theorem dX6_stood_64 : decode cX6_stood 64 = .ok (.iload_n 3, 1) := by decide +kernel
theorem dX6_stood_65 : decode cX6_stood 65 = .ok (.iload 4, 2) := by decide +kernel
theorem dX6_stood_67 : decode cX6_stood 67 = .ok (.iload 5, 2) := by decide +kernel
theorem dX6_stood_69 : decode cX6_stood 69 = .ok (.invokevirtual 132, 3) := by decide +kernel
theorem dX6_stood_72 : decode cX6_stood 72 = .ok (.goto 8, 3) := by decide +kernel
theorem dX6_stood_75 : decode cX6_stood 75 = .ok (.aload_n 0, 1) := by decide +kernel
theorem dX6_stood_76 : decode cX6_stood 76 = .ok (.iconst 2, 1) := by decide +kernel
theorem dX6_stood_77 : decode cX6_stood 77 = .ok (.invokevirtual 115, 3) := by decide +kernel
theorem dX6_stood_80 : decode cX6_stood 80 = .ok (.ireturn, 1) := by decide +kernel
theorem dX6_isFact_0 : decode cX6_isFact 0 = .ok (.iload_n 1, 1) := by decide +kernel
theorem dX6_isFact_1 : decode cX6_isFact 1 = .ok (.ifCond .lt 15, 3) := by decide +kernel
theorem dX6_isFact_4 : decode cX6_isFact 4 = .ok (.iload_n 1, 1) := by decide +kernel
theorem dX6_isFact_5 : decode cX6_isFact 5 = .ok (.aload_n 0, 1) := by decide +kernel
theorem dX6_isFact_6 : decode cX6_isFact 6 = .ok (.getfield 119, 3) := by decide +kernel
theorem dX6_isFact_9 : decode cX6_isFact 9 = .ok (.if_icmp .ge 7, 3) := by decide +kernel
theorem dX6_isFact_12 : decode cX6_isFact 12 = .ok (.iconst 1, 1) := by decide +kernel
theorem dX6_isFact_13 : decode cX6_isFact 13 = .ok (.goto 4, 3) := by decide +kernel
theorem dX6_isFact_16 : decode cX6_isFact 16 = .ok (.iconst 0, 1) := by decide +kernel
theorem dX6_isFact_17 : decode cX6_isFact 17 = .ok (.ireturn, 1) := by decide +kernel
set_option maxRecDepth 20000 in
theorem ggX6_cross_X6_isFact : GoodIn wsX6_cross wsX6_isFact := goodIn_r _ [8, 9, 17, 18, 19, 20, 21, 22, 23, 24, 25, 26, 27, 28, 29, 30, 31, 32, 33, 34, 35, 36, 37, 38, 39, 40, 41, 42, 43, 44, 45, 46, 47, 48, 49, 50, 51, 52, 53, 54, 55, 56, 57] (by decide +kernel) (by decide +kernel)
set_option maxRecDepth 20000 in
theorem gX6_cross_X6_isFact : GoodIn wsX6_cross (wsV RX6 140 RX6 yX6_isFact wsX6_isFact) := goodIn_app (goodIn_of _ (by decide +kernel)) ggX6_cross_X6_isFact
set_option maxRecDepth 20000 in
theorem ggX6_cross_X6_no : GoodIn wsX6_cross wsX6_no := goodIn_r _ [13, 2, 17, 18, 19, 20, 21, 22, 23, 24, 25, 26, 27, 28, 29, 30, 31, 32, 33, 34, 35, 36, 37, 38, 39, 40, 41, 42, 43, 44, 45, 46, 47, 48, 49, 50, 51, 52, 53, 54, 55, 56, 57] (by decide +kernel) (by decide +kernel)
set_option maxRecDepth 20000 in
theorem gX6_cross_X6_no : GoodIn wsX6_cross (wsV RX6 143 RX6 yX6_no wsX6_no) := goodIn_app (goodIn_of _ (by decide +kernel)) ggX6_cross_X6_no
set_option maxRecDepth 20000 in
theorem ggX6_cross_X6_isDay : GoodIn wsX6_cross wsX6_isDay := goodIn_r _ [16] (by decide +kernel) (by decide +kernel)
set_option maxRecDepth 20000 in
theorem gX6_cross_X6_isDay : GoodIn wsX6_cross (va_wsS RX6 129 yX6_isDay wsX6_isDay) := goodIn_app (goodIn_of _ (by decide +kernel)) ggX6_cross_X6_isDay
theorem dX6_cross_0 : decode cX6_cross 0 = .ok (.aload_n 0, 1) := by decide +kernel
theorem dX6_cross_1 : decode cX6_cross 1 = .ok (.iconst 0, 1) := by decide +kernel
theorem dX6_cross_2 : decode cX6_cross 2 = .ok (.putfield 101, 3) := by decide +kernel
theorem dX6_cross_5 : decode cX6_cross 5 = .ok (.aload_n 0, 1) := by decide +kernel
theorem dX6_cross_6 : decode cX6_cross 6 = .ok (.iconst 0, 1) := by decide +kernel
theorem dX6_cross_7 : decode cX6_cross 7 = .ok (.putfield 105, 3) := by decide +kernel
theorem dX6_cross_10 : decode cX6_cross 10 = .ok (.aload_n 0, 1) := by decide +kernel
theorem dX6_cross_11 : decode cX6_cross 11 = .ok (.iload_n 1, 1) := by decide +kernel
theorem dX6_cross_12 : decode cX6_cross 12 = .ok (.invokevirtual 140, 3) := by decide +kernel
theorem dX6_cross_15 : decode cX6_cross 15 = .ok (.ifCond .ne 9, 3) := by decide +kernel
theorem dX6_cross_18 : decode cX6_cross 18 = .ok (.aload_n 0, 1) := by decide +kernel
theorem dX6_cross_19 : decode cX6_cross 19 = .ok (.iconst 1, 1) := by decide +kernel
theorem dX6_cross_20 : decode cX6_cross 20 = .ok (.invokevirtual 143, 3) := by decide +kernel
theorem dX6_cross_23 : decode cX6_cross 23 = .ok (.ireturn, 1) := by decide +kernel
theorem dX6_cross_24 : decode cX6_cross 24 = .ok (.iload_n 2, 1) := by decide +kernel
theorem dX6_cross_25 : decode cX6_cross 25 = .ok (.invokestatic 129, 3) := by decide +kernel
theorem dX6_cross_28 : decode cX6_cross 28 = .ok (.ifCond .ne 9, 3) := by decide +kernel
theorem dX6_cross_31 : decode cX6_cross 31 = .ok (.aload_n 0, 1) := by decide +kernel
theorem dX6_cross_32 : decode cX6_cross 32 = .ok (.iconst 2, 1) := by decide +kernel
theorem dX6_cross_33 : decode cX6_cross 33 = .ok (.invokevirtual 143, 3) := by decide +kernel
theorem dX6_cross_36 : decode cX6_cross 36 = .ok (.ireturn, 1) := by decide +kernel
theorem dX6_cross_37 : decode cX6_cross 37 = .ok (.aload_n 0, 1) := by decide +kernel
theorem dX6_cross_38 : decode cX6_cross 38 = .ok (.getfield 25, 3) := by decide +kernel
theorem dX6_cross_41 : decode cX6_cross 41 = .ok (.iload_n 1, 1) := by decide +kernel
theorem dX6_cross_42 : decode cX6_cross 42 = .ok (.iaload, 1) := by decide +kernel
theorem dX6_cross_43 : decode cX6_cross 43 = .ok (.ifCond .lt 9, 3) := by decide +kernel
theorem dX6_cross_46 : decode cX6_cross 46 = .ok (.aload_n 0, 1) := by decide +kernel
theorem dX6_cross_47 : decode cX6_cross 47 = .ok (.iconst 4, 1) := by decide +kernel
theorem dX6_cross_48 : decode cX6_cross 48 = .ok (.invokevirtual 143, 3) := by decide +kernel
theorem dX6_cross_51 : decode cX6_cross 51 = .ok (.ireturn, 1) := by decide +kernel
theorem dX6_cross_52 : decode cX6_cross 52 = .ok (.aload_n 0, 1) := by decide +kernel
theorem dX6_cross_53 : decode cX6_cross 53 = .ok (.getfield 25, 3) := by decide +kernel
theorem dX6_cross_56 : decode cX6_cross 56 = .ok (.iload_n 1, 1) := by decide +kernel
theorem dX6_cross_57 : decode cX6_cross 57 = .ok (.iload_n 2, 1) := by decide +kernel
theorem dX6_cross_58 : decode cX6_cross 58 = .ok (.iastore, 1) := by decide +kernel
theorem dX6_cross_59 : decode cX6_cross 59 = .ok (.iconst 1, 1) := by decide +kernel
theorem dX6_cross_60 : decode cX6_cross 60 = .ok (.ireturn, 1) := by decide +kernel
set_option maxRecDepth 20000 in
theorem ggX6_fact_X6_isFact : GoodIn wsX6_fact wsX6_isFact := goodIn_r _ [10, 11, 16, 17, 18, 19, 20, 21, 22, 23, 24, 25, 26, 27, 28, 29, 30, 31, 32, 33, 34, 35, 36, 37, 38, 39, 40, 41, 42, 43, 44, 45, 46, 47, 48, 49, 50, 51, 52, 53, 54, 55, 56] (by decide +kernel) (by decide +kernel)
set_option maxRecDepth 20000 in
theorem gX6_fact_X6_isFact : GoodIn wsX6_fact (wsV RX6 140 RX6 yX6_isFact wsX6_isFact) := goodIn_app (goodIn_of _ (by decide +kernel)) ggX6_fact_X6_isFact
set_option maxRecDepth 20000 in
theorem ggX6_fact_X6_refuse : GoodIn wsX6_fact wsX6_refuse := goodIn_r _ [15, 2, 16, 17, 18, 19, 20, 21, 22, 23, 24, 25, 26, 27, 28, 29, 30, 31, 32, 33, 34, 35, 36, 37, 38, 39, 40, 41, 42, 43, 44, 45, 46, 47, 48, 49, 50, 51, 52, 53, 54, 55, 56] (by decide +kernel) (by decide +kernel)
set_option maxRecDepth 20000 in
theorem gX6_fact_X6_refuse : GoodIn wsX6_fact (wsV RX6 115 RX6 yX6_refuse wsX6_refuse) := goodIn_app (goodIn_of _ (by decide +kernel)) ggX6_fact_X6_refuse
theorem dX6_fact_0 : decode cX6_fact 0 = .ok (.aload_n 0, 1) := by decide +kernel
theorem dX6_fact_1 : decode cX6_fact 1 = .ok (.iconst 0, 1) := by decide +kernel
theorem dX6_fact_2 : decode cX6_fact 2 = .ok (.putfield 101, 3) := by decide +kernel
theorem dX6_fact_5 : decode cX6_fact 5 = .ok (.aload_n 0, 1) := by decide +kernel
theorem dX6_fact_6 : decode cX6_fact 6 = .ok (.iconst 0, 1) := by decide +kernel
theorem dX6_fact_7 : decode cX6_fact 7 = .ok (.putfield 105, 3) := by decide +kernel
theorem dX6_fact_10 : decode cX6_fact 10 = .ok (.aload_n 0, 1) := by decide +kernel
theorem dX6_fact_11 : decode cX6_fact 11 = .ok (.iload_n 1, 1) := by decide +kernel
theorem dX6_fact_12 : decode cX6_fact 12 = .ok (.invokevirtual 140, 3) := by decide +kernel
theorem dX6_fact_15 : decode cX6_fact 15 = .ok (.ifCond .ne 9, 3) := by decide +kernel
theorem dX6_fact_18 : decode cX6_fact 18 = .ok (.aload_n 0, 1) := by decide +kernel
theorem dX6_fact_19 : decode cX6_fact 19 = .ok (.iconst 1, 1) := by decide +kernel
theorem dX6_fact_20 : decode cX6_fact 20 = .ok (.invokevirtual 115, 3) := by decide +kernel
theorem dX6_fact_23 : decode cX6_fact 23 = .ok (.ireturn, 1) := by decide +kernel
theorem dX6_fact_24 : decode cX6_fact 24 = .ok (.iload_n 2, 1) := by decide +kernel
theorem dX6_fact_25 : decode cX6_fact 25 = .ok (.tableswitch 68 0 3 #[31, 38, 45, 52], 31) := by decide +kernel
theorem dX6_fact_56 : decode cX6_fact 56 = .ok (.aload_n 0, 1) := by decide +kernel
theorem dX6_fact_57 : decode cX6_fact 57 = .ok (.getfield 7, 3) := by decide +kernel
theorem dX6_fact_60 : decode cX6_fact 60 = .ok (.iload_n 1, 1) := by decide +kernel
theorem dX6_fact_61 : decode cX6_fact 61 = .ok (.iaload, 1) := by decide +kernel
theorem dX6_fact_62 : decode cX6_fact 62 = .ok (.ireturn, 1) := by decide +kernel
theorem dX6_fact_63 : decode cX6_fact 63 = .ok (.aload_n 0, 1) := by decide +kernel
theorem dX6_fact_64 : decode cX6_fact 64 = .ok (.getfield 22, 3) := by decide +kernel
theorem dX6_fact_67 : decode cX6_fact 67 = .ok (.iload_n 1, 1) := by decide +kernel
theorem dX6_fact_68 : decode cX6_fact 68 = .ok (.iaload, 1) := by decide +kernel
theorem dX6_fact_69 : decode cX6_fact 69 = .ok (.ireturn, 1) := by decide +kernel
theorem dX6_fact_70 : decode cX6_fact 70 = .ok (.aload_n 0, 1) := by decide +kernel
theorem dX6_fact_71 : decode cX6_fact 71 = .ok (.getfield 25, 3) := by decide +kernel
theorem dX6_fact_74 : decode cX6_fact 74 = .ok (.iload_n 1, 1) := by decide +kernel
theorem dX6_fact_75 : decode cX6_fact 75 = .ok (.iaload, 1) := by decide +kernel
theorem dX6_fact_76 : decode cX6_fact 76 = .ok (.ireturn, 1) := by decide +kernel
theorem dX6_fact_77 : decode cX6_fact 77 = .ok (.aload_n 0, 1) := by decide +kernel
theorem dX6_fact_78 : decode cX6_fact 78 = .ok (.getfield 7, 3) := by decide +kernel
theorem dX6_fact_81 : decode cX6_fact 81 = .ok (.iload_n 1, 1) := by decide +kernel
theorem dX6_fact_82 : decode cX6_fact 82 = .ok (.iaload, 1) := by decide +kernel
theorem dX6_fact_83 : decode cX6_fact 83 = .ok (.iconst 1, 1) := by decide +kernel
theorem dX6_fact_84 : decode cX6_fact 84 = .ok (.if_icmp .ne 7, 3) := by decide +kernel
theorem dX6_fact_87 : decode cX6_fact 87 = .ok (.iconst 1, 1) := by decide +kernel
theorem dX6_fact_88 : decode cX6_fact 88 = .ok (.goto 4, 3) := by decide +kernel
theorem dX6_fact_91 : decode cX6_fact 91 = .ok (.iconst 2, 1) := by decide +kernel
theorem dX6_fact_92 : decode cX6_fact 92 = .ok (.ireturn, 1) := by decide +kernel
theorem dX6_fact_93 : decode cX6_fact 93 = .ok (.aload_n 0, 1) := by decide +kernel
theorem dX6_fact_94 : decode cX6_fact 94 = .ok (.iconst 2, 1) := by decide +kernel
theorem dX6_fact_95 : decode cX6_fact 95 = .ok (.invokevirtual 115, 3) := by decide +kernel
theorem dX6_fact_98 : decode cX6_fact 98 = .ok (.ireturn, 1) := by decide +kernel
theorem dX6_isKnown_0 : decode cX6_isKnown 0 = .ok (.aload_n 0, 1) := by decide +kernel
theorem dX6_isKnown_1 : decode cX6_isKnown 1 = .ok (.getfield 22, 3) := by decide +kernel
theorem dX6_isKnown_4 : decode cX6_isKnown 4 = .ok (.iload_n 1, 1) := by decide +kernel
theorem dX6_isKnown_5 : decode cX6_isKnown 5 = .ok (.iaload, 1) := by decide +kernel
theorem dX6_isKnown_6 : decode cX6_isKnown 6 = .ok (.iload_n 2, 1) := by decide +kernel
theorem dX6_isKnown_7 : decode cX6_isKnown 7 = .ok (.if_icmp .gt 26, 3) := by decide +kernel
theorem dX6_isKnown_10 : decode cX6_isKnown 10 = .ok (.aload_n 0, 1) := by decide +kernel
theorem dX6_isKnown_11 : decode cX6_isKnown 11 = .ok (.getfield 25, 3) := by decide +kernel
theorem dX6_isKnown_14 : decode cX6_isKnown 14 = .ok (.iload_n 1, 1) := by decide +kernel
theorem dX6_isKnown_15 : decode cX6_isKnown 15 = .ok (.iaload, 1) := by decide +kernel
theorem dX6_isKnown_16 : decode cX6_isKnown 16 = .ok (.ifCond .lt 13, 3) := by decide +kernel
theorem dX6_isKnown_19 : decode cX6_isKnown 19 = .ok (.aload_n 0, 1) := by decide +kernel
theorem dX6_isKnown_20 : decode cX6_isKnown 20 = .ok (.getfield 25, 3) := by decide +kernel
theorem dX6_isKnown_23 : decode cX6_isKnown 23 = .ok (.iload_n 1, 1) := by decide +kernel
theorem dX6_isKnown_24 : decode cX6_isKnown 24 = .ok (.iaload, 1) := by decide +kernel
theorem dX6_isKnown_25 : decode cX6_isKnown 25 = .ok (.iload_n 2, 1) := by decide +kernel
theorem dX6_isKnown_26 : decode cX6_isKnown 26 = .ok (.if_icmp .le 7, 3) := by decide +kernel
theorem dX6_isKnown_29 : decode cX6_isKnown 29 = .ok (.iconst 1, 1) := by decide +kernel
theorem dX6_isKnown_30 : decode cX6_isKnown 30 = .ok (.goto 4, 3) := by decide +kernel
theorem dX6_isKnown_33 : decode cX6_isKnown 33 = .ok (.iconst 0, 1) := by decide +kernel
theorem dX6_isKnown_34 : decode cX6_isKnown 34 = .ok (.ireturn, 1) := by decide +kernel
theorem dX6_placeOf_0 : decode cX6_placeOf 0 = .ok (.iconst 1, 1) := by decide +kernel
theorem dX6_placeOf_1 : decode cX6_placeOf 1 = .ok (.iload_n 0, 1) := by decide +kernel
theorem dX6_placeOf_2 : decode cX6_placeOf 2 = .ok (.iadd, 1) := by decide +kernel
theorem dX6_placeOf_3 : decode cX6_placeOf 3 = .ok (.ireturn, 1) := by decide +kernel
theorem dX6_begins_0 : decode cX6_begins 0 = .ok (.bipush 21, 2) := by decide +kernel
theorem dX6_begins_2 : decode cX6_begins 2 = .ok (.iconst 2, 1) := by decide +kernel
theorem dX6_begins_3 : decode cX6_begins 3 = .ok (.iload_n 0, 1) := by decide +kernel
theorem dX6_begins_4 : decode cX6_begins 4 = .ok (.imul, 1) := by decide +kernel
theorem dX6_begins_5 : decode cX6_begins 5 = .ok (.iadd, 1) := by decide +kernel
theorem dX6_begins_6 : decode cX6_begins 6 = .ok (.ireturn, 1) := by decide +kernel
theorem dX6_endsAt_0 : decode cX6_endsAt 0 = .ok (.bipush 22, 2) := by decide +kernel
theorem dX6_endsAt_2 : decode cX6_endsAt 2 = .ok (.iconst 2, 1) := by decide +kernel
theorem dX6_endsAt_3 : decode cX6_endsAt 3 = .ok (.iload_n 0, 1) := by decide +kernel
theorem dX6_endsAt_4 : decode cX6_endsAt 4 = .ok (.imul, 1) := by decide +kernel
theorem dX6_endsAt_5 : decode cX6_endsAt 5 = .ok (.iadd, 1) := by decide +kernel
theorem dX6_endsAt_6 : decode cX6_endsAt 6 = .ok (.ireturn, 1) := by decide +kernel
theorem dX6_way_0 : decode cX6_way 0 = .ok (.aload_n 0, 1) := by decide +kernel
theorem dX6_way_1 : decode cX6_way 1 = .ok (.getfield 28, 3) := by decide +kernel
theorem dX6_way_4 : decode cX6_way 4 = .ok (.aload_n 0, 1) := by decide +kernel
theorem dX6_way_5 : decode cX6_way 5 = .ok (.getfield 146, 3) := by decide +kernel
theorem dX6_way_8 : decode cX6_way 8 = .ok (.iload_n 1, 1) := by decide +kernel
theorem dX6_way_9 : decode cX6_way 9 = .ok (.iastore, 1) := by decide +kernel
theorem dX6_way_10 : decode cX6_way 10 = .ok (.aload_n 0, 1) := by decide +kernel
theorem dX6_way_11 : decode cX6_way 11 = .ok (.getfield 31, 3) := by decide +kernel
theorem dX6_way_14 : decode cX6_way 14 = .ok (.aload_n 0, 1) := by decide +kernel
theorem dX6_way_15 : decode cX6_way 15 = .ok (.getfield 146, 3) := by decide +kernel
theorem dX6_way_18 : decode cX6_way 18 = .ok (.iload_n 2, 1) := by decide +kernel
theorem dX6_way_19 : decode cX6_way 19 = .ok (.iastore, 1) := by decide +kernel
theorem dX6_way_20 : decode cX6_way 20 = .ok (.aload_n 0, 1) := by decide +kernel
theorem dX6_way_21 : decode cX6_way 21 = .ok (.getfield 34, 3) := by decide +kernel
theorem dX6_way_24 : decode cX6_way 24 = .ok (.aload_n 0, 1) := by decide +kernel
theorem dX6_way_25 : decode cX6_way 25 = .ok (.getfield 146, 3) := by decide +kernel
theorem dX6_way_28 : decode cX6_way 28 = .ok (.lload_n 3, 1) := by decide +kernel
theorem dX6_way_29 : decode cX6_way 29 = .ok (.lastore, 1) := by decide +kernel
theorem dX6_way_30 : decode cX6_way 30 = .ok (.aload_n 0, 1) := by decide +kernel
theorem dX6_way_31 : decode cX6_way 31 = .ok (.dup, 1) := by decide +kernel
theorem dX6_way_32 : decode cX6_way 32 = .ok (.getfield 146, 3) := by decide +kernel
theorem dX6_way_35 : decode cX6_way 35 = .ok (.iconst 1, 1) := by decide +kernel
theorem dX6_way_36 : decode cX6_way 36 = .ok (.iadd, 1) := by decide +kernel
theorem dX6_way_37 : decode cX6_way 37 = .ok (.putfield 146, 3) := by decide +kernel
theorem dX6_way_40 : decode cX6_way 40 = .ok (.return_, 1) := by decide +kernel
set_option maxRecDepth 20000 in
theorem ggX6_bound_X6_way : GoodIn wsX6_bound wsX6_way := goodIn_r _ [6, 7, 8, 9, 10, 11, 12, 13, 14, 15, 16, 17, 18, 19, 20, 21, 22, 23, 24, 25, 26, 27, 28, 29, 30, 31, 32, 33, 34, 35, 36, 37, 38, 39, 40, 41, 42, 43, 44, 45, 46, 47, 48, 49, 50, 51] (by decide +kernel) (by decide +kernel)
set_option maxRecDepth 20000 in
theorem gX6_bound_X6_way : GoodIn wsX6_bound (wsV RX6 149 RX6 yX6_way wsX6_way) := goodIn_app (goodIn_of _ (by decide +kernel)) ggX6_bound_X6_way
theorem dX6_bound_0 : decode cX6_bound 0 = .ok (.aload_n 0, 1) := by decide +kernel
theorem dX6_bound_1 : decode cX6_bound 1 = .ok (.iconst 0, 1) := by decide +kernel
theorem dX6_bound_2 : decode cX6_bound 2 = .ok (.iload_n 1, 1) := by decide +kernel
theorem dX6_bound_3 : decode cX6_bound 3 = .ok (.lconst 0, 1) := by decide +kernel
theorem dX6_bound_4 : decode cX6_bound 4 = .ok (.invokevirtual 149, 3) := by decide +kernel
theorem dX6_bound_7 : decode cX6_bound 7 = .ok (.aload_n 0, 1) := by decide +kernel
theorem dX6_bound_8 : decode cX6_bound 8 = .ok (.iload_n 1, 1) := by decide +kernel
theorem dX6_bound_9 : decode cX6_bound 9 = .ok (.iconst 0, 1) := by decide +kernel
theorem dX6_bound_10 : decode cX6_bound 10 = .ok (.ldc2_w 153, 3) := by decide +kernel
theorem dX6_bound_13 : decode cX6_bound 13 = .ok (.invokevirtual 149, 3) := by decide +kernel
theorem dX6_bound_16 : decode cX6_bound 16 = .ok (.return_, 1) := by decide +kernel
set_option maxRecDepth 20000 in
theorem ggX6_within_X6_way : GoodIn wsX6_within wsX6_way := goodIn_r _ [5, 6, 7, 8, 9, 10, 11, 12, 13, 14, 15, 16, 17, 18, 19, 20, 21, 22, 23, 24, 25, 26, 27, 28, 29, 30, 31, 32, 33, 34, 35, 36, 37, 38, 39, 40, 41, 42, 43, 44, 45, 46, 47, 48, 49, 50] (by decide +kernel) (by decide +kernel)
set_option maxRecDepth 20000 in
theorem gX6_within_X6_way : GoodIn wsX6_within (wsV RX6 149 RX6 yX6_way wsX6_way) := goodIn_app (goodIn_of _ (by decide +kernel)) ggX6_within_X6_way
theorem dX6_within_0 : decode cX6_within 0 = .ok (.aload_n 0, 1) := by decide +kernel
theorem dX6_within_1 : decode cX6_within 1 = .ok (.iconst 0, 1) := by decide +kernel
theorem dX6_within_2 : decode cX6_within 2 = .ok (.iload_n 1, 1) := by decide +kernel
theorem dX6_within_3 : decode cX6_within 3 = .ok (.iload_n 2, 1) := by decide +kernel
theorem dX6_within_4 : decode cX6_within 4 = .ok (.i2l, 1) := by decide +kernel
theorem dX6_within_5 : decode cX6_within 5 = .ok (.invokevirtual 149, 3) := by decide +kernel
theorem dX6_within_8 : decode cX6_within 8 = .ok (.aload_n 0, 1) := by decide +kernel
theorem dX6_within_9 : decode cX6_within 9 = .ok (.iload_n 1, 1) := by decide +kernel
theorem dX6_within_10 : decode cX6_within 10 = .ok (.iconst 0, 1) := by decide +kernel
theorem dX6_within_11 : decode cX6_within 11 = .ok (.iload_n 3, 1) := by decide +kernel
theorem dX6_within_12 : decode cX6_within 12 = .ok (.ineg, 1) := by decide +kernel
theorem dX6_within_13 : decode cX6_within 13 = .ok (.i2l, 1) := by decide +kernel
theorem dX6_within_14 : decode cX6_within 14 = .ok (.invokevirtual 149, 3) := by decide +kernel
theorem dX6_within_17 : decode cX6_within 17 = .ok (.return_, 1) := by decide +kernel
set_option maxRecDepth 20000 in
theorem ggX6_net_X6_placeOf : GoodIn wsX6_net wsX6_placeOf := goodIn_r _ [13] (by decide +kernel) (by decide +kernel)
set_option maxRecDepth 20000 in
theorem gX6_net_X6_placeOf : GoodIn wsX6_net (va_wsS RX6 155 yX6_placeOf wsX6_placeOf) := goodIn_app (goodIn_of _ (by decide +kernel)) ggX6_net_X6_placeOf
set_option maxRecDepth 20000 in
theorem ggX6_net_X6_bound : GoodIn wsX6_net wsX6_bound := goodIn_r _ [17, 18, 19, 20, 21, 12, 22, 23, 1, 24, 25, 42, 43, 44, 45, 46, 47, 48, 49, 50, 51, 52, 53, 54, 55, 56, 57, 58, 59, 60, 61, 62, 63, 64, 65, 66, 67, 68, 69, 70, 71, 72, 73, 74, 75, 76, 77, 78, 79, 80, 81, 82] (by decide +kernel) (by decide +kernel)
set_option maxRecDepth 20000 in
theorem gX6_net_X6_bound : GoodIn wsX6_net (wsV RX6 158 RX6 yX6_bound wsX6_bound) := goodIn_app (goodIn_of _ (by decide +kernel)) ggX6_net_X6_bound
set_option maxRecDepth 20000 in
theorem ggX6_net_X6_begins : GoodIn wsX6_net wsX6_begins := goodIn_r _ [28] (by decide +kernel) (by decide +kernel)
set_option maxRecDepth 20000 in
theorem gX6_net_X6_begins : GoodIn wsX6_net (va_wsS RX6 162 yX6_begins wsX6_begins) := goodIn_app (goodIn_of _ (by decide +kernel)) ggX6_net_X6_begins
set_option maxRecDepth 20000 in
theorem ggX6_net_X6_endsAt : GoodIn wsX6_net wsX6_endsAt := goodIn_r _ [31] (by decide +kernel) (by decide +kernel)
set_option maxRecDepth 20000 in
theorem gX6_net_X6_endsAt : GoodIn wsX6_net (va_wsS RX6 165 yX6_endsAt wsX6_endsAt) := goodIn_app (goodIn_of _ (by decide +kernel)) ggX6_net_X6_endsAt
set_option maxRecDepth 20000 in
theorem ggX6_net_X6_way : GoodIn wsX6_net wsX6_way := goodIn_r _ [22, 23, 1, 24, 25, 42, 43, 44, 45, 46, 47, 48, 49, 50, 51, 52, 53, 54, 55, 56, 57, 58, 59, 60, 61, 62, 63, 64, 65, 66, 67, 68, 69, 70, 71, 72, 73, 74, 75, 76, 77, 78, 79, 80, 81, 82] (by decide +kernel) (by decide +kernel)
set_option maxRecDepth 20000 in
theorem gX6_net_X6_way : GoodIn wsX6_net (wsV RX6 149 RX6 yX6_way wsX6_way) := goodIn_app (goodIn_of _ (by decide +kernel)) ggX6_net_X6_way
set_option maxRecDepth 20000 in
theorem ggX6_net_X6_isKnown : GoodIn wsX6_net wsX6_isKnown := goodIn_r _ [35, 36, 37, 42, 43, 44, 45, 46, 47, 48, 49, 50, 51, 52, 53, 54, 55, 56, 57, 58, 59, 60, 61, 62, 63, 64, 65, 66, 67, 68, 69, 70, 71, 72, 73, 74, 75, 76, 77, 78, 79, 80, 81, 82] (by decide +kernel) (by decide +kernel)
set_option maxRecDepth 20000 in
theorem gX6_net_X6_isKnown : GoodIn wsX6_net (wsV RX6 171 RX6 yX6_isKnown wsX6_isKnown) := goodIn_app (goodIn_of _ (by decide +kernel)) ggX6_net_X6_isKnown
set_option maxRecDepth 20000 in
theorem ggX6_net_X6_within : GoodIn wsX6_net wsX6_within := goodIn_r _ [41, 19, 20, 21, 12, 22, 23, 1, 24, 25, 42, 43, 44, 45, 46, 47, 48, 49, 50, 51, 52, 53, 54, 55, 56, 57, 58, 59, 60, 61, 62, 63, 64, 65, 66, 67, 68, 69, 70, 71, 72, 73, 74, 75, 76, 77, 78, 79, 80, 81, 82] (by decide +kernel) (by decide +kernel)
set_option maxRecDepth 20000 in
theorem gX6_net_X6_within : GoodIn wsX6_net (wsV RX6 175 RX6 yX6_within wsX6_within) := goodIn_app (goodIn_of _ (by decide +kernel)) ggX6_net_X6_within
theorem dX6_net_0 : decode cX6_net 0 = .ok (.aload_n 0, 1) := by decide +kernel
theorem dX6_net_1 : decode cX6_net 1 = .ok (.iconst 0, 1) := by decide +kernel
theorem dX6_net_2 : decode cX6_net 2 = .ok (.putfield 146, 3) := by decide +kernel
theorem dX6_net_5 : decode cX6_net 5 = .ok (.iconst 0, 1) := by decide +kernel
theorem dX6_net_6 : decode cX6_net 6 = .ok (.istore_n 3, 1) := by decide +kernel
theorem dX6_net_7 : decode cX6_net 7 = .ok (.iload_n 3, 1) := by decide +kernel
theorem dX6_net_8 : decode cX6_net 8 = .ok (.aload_n 0, 1) := by decide +kernel
theorem dX6_net_9 : decode cX6_net 9 = .ok (.getfield 108, 3) := by decide +kernel
theorem dX6_net_12 : decode cX6_net 12 = .ok (.if_icmp .ge 17, 3) := by decide +kernel
theorem dX6_net_15 : decode cX6_net 15 = .ok (.aload_n 0, 1) := by decide +kernel
theorem dX6_net_16 : decode cX6_net 16 = .ok (.iload_n 3, 1) := by decide +kernel
theorem dX6_net_17 : decode cX6_net 17 = .ok (.invokestatic 155, 3) := by decide +kernel
theorem dX6_net_20 : decode cX6_net 20 = .ok (.invokevirtual 158, 3) := by decide +kernel
theorem dX6_net_23 : decode cX6_net 23 = .ok (.iinc 3 1, 3) := by decide +kernel
theorem dX6_net_26 : decode cX6_net 26 = .ok (.goto (-19), 3) := by decide +kernel
theorem dX6_net_29 : decode cX6_net 29 = .ok (.iconst 0, 1) := by decide +kernel
theorem dX6_net_30 : decode cX6_net 30 = .ok (.istore_n 3, 1) := by decide +kernel
theorem dX6_net_31 : decode cX6_net 31 = .ok (.iload_n 3, 1) := by decide +kernel
theorem dX6_net_32 : decode cX6_net 32 = .ok (.aload_n 0, 1) := by decide +kernel
theorem dX6_net_33 : decode cX6_net 33 = .ok (.getfield 111, 3) := by decide +kernel
theorem dX6_net_36 : decode cX6_net 36 = .ok (.if_icmp .ge 38, 3) := by decide +kernel
theorem dX6_net_39 : decode cX6_net 39 = .ok (.aload_n 0, 1) := by decide +kernel
theorem dX6_net_40 : decode cX6_net 40 = .ok (.iload_n 3, 1) := by decide +kernel
theorem dX6_net_41 : decode cX6_net 41 = .ok (.invokestatic 162, 3) := by decide +kernel
theorem dX6_net_44 : decode cX6_net 44 = .ok (.invokevirtual 158, 3) := by decide +kernel
theorem dX6_net_47 : decode cX6_net 47 = .ok (.aload_n 0, 1) := by decide +kernel
theorem dX6_net_48 : decode cX6_net 48 = .ok (.iload_n 3, 1) := by decide +kernel
theorem dX6_net_49 : decode cX6_net 49 = .ok (.invokestatic 165, 3) := by decide +kernel
theorem dX6_net_52 : decode cX6_net 52 = .ok (.invokevirtual 158, 3) := by decide +kernel
theorem dX6_net_55 : decode cX6_net 55 = .ok (.aload_n 0, 1) := by decide +kernel
theorem dX6_net_56 : decode cX6_net 56 = .ok (.iload_n 3, 1) := by decide +kernel
theorem dX6_net_57 : decode cX6_net 57 = .ok (.invokestatic 162, 3) := by decide +kernel
theorem dX6_net_60 : decode cX6_net 60 = .ok (.iload_n 3, 1) := by decide +kernel
theorem dX6_net_61 : decode cX6_net 61 = .ok (.invokestatic 165, 3) := by decide +kernel
theorem dX6_net_64 : decode cX6_net 64 = .ok (.lconst 0, 1) := by decide +kernel
theorem dX6_net_65 : decode cX6_net 65 = .ok (.invokevirtual 149, 3) := by decide +kernel
theorem dX6_net_68 : decode cX6_net 68 = .ok (.iinc 3 1, 3) := by decide +kernel
theorem dX6_net_71 : decode cX6_net 71 = .ok (.goto (-40), 3) := by decide +kernel
theorem dX6_net_74 : decode cX6_net 74 = .ok (.aload_n 0, 1) := by decide +kernel
theorem dX6_net_75 : decode cX6_net 75 = .ok (.aload_n 0, 1) := by decide +kernel
theorem dX6_net_76 : decode cX6_net 76 = .ok (.getfield 146, 3) := by decide +kernel
theorem dX6_net_79 : decode cX6_net 79 = .ok (.putfield 168, 3) := by decide +kernel
theorem dX6_net_82 : decode cX6_net 82 = .ok (.iconst 0, 1) := by decide +kernel
theorem dX6_net_83 : decode cX6_net 83 = .ok (.istore_n 3, 1) := by decide +kernel
theorem dX6_net_84 : decode cX6_net 84 = .ok (.iload_n 3, 1) := by decide +kernel
theorem dX6_net_85 : decode cX6_net 85 = .ok (.aload_n 0, 1) := by decide +kernel
theorem dX6_net_86 : decode cX6_net 86 = .ok (.getfield 119, 3) := by decide +kernel
theorem dX6_net_89 : decode cX6_net 89 = .ok (.if_icmp .ge 228, 3) := by decide +kernel
theorem dX6_net_92 : decode cX6_net 92 = .ok (.aload_n 0, 1) := by decide +kernel
theorem dX6_net_93 : decode cX6_net 93 = .ok (.iload_n 3, 1) := by decide +kernel
theorem dX6_net_94 : decode cX6_net 94 = .ok (.iload_n 1, 1) := by decide +kernel
theorem dX6_net_95 : decode cX6_net 95 = .ok (.invokevirtual 171, 3) := by decide +kernel
theorem dX6_net_98 : decode cX6_net 98 = .ok (.ifCond .eq 213, 3) := by decide +kernel
theorem dX6_net_101 : decode cX6_net 101 = .ok (.iload_n 3, 1) := by decide +kernel
theorem dX6_net_102 : decode cX6_net 102 = .ok (.iload_n 2, 1) := by decide +kernel
theorem dX6_net_103 : decode cX6_net 103 = .ok (.if_icmp .ne 6, 3) := by decide +kernel
theorem dX6_net_106 : decode cX6_net 106 = .ok (.goto 205, 3) := by decide +kernel
theorem dX6_net_109 : decode cX6_net 109 = .ok (.aload_n 0, 1) := by decide +kernel
theorem dX6_net_110 : decode cX6_net 110 = .ok (.getfield 13, 3) := by decide +kernel
theorem dX6_net_113 : decode cX6_net 113 = .ok (.iload_n 3, 1) := by decide +kernel
theorem dX6_net_114 : decode cX6_net 114 = .ok (.iaload, 1) := by decide +kernel
theorem dX6_net_115 : decode cX6_net 115 = .ok (.istore 4, 2) := by decide +kernel
theorem dX6_net_117 : decode cX6_net 117 = .ok (.aload_n 0, 1) := by decide +kernel
theorem dX6_net_118 : decode cX6_net 118 = .ok (.getfield 16, 3) := by decide +kernel
theorem dX6_net_121 : decode cX6_net 121 = .ok (.iload_n 3, 1) := by decide +kernel
theorem dX6_net_122 : decode cX6_net 122 = .ok (.iaload, 1) := by decide +kernel
theorem dX6_net_123 : decode cX6_net 123 = .ok (.istore 5, 2) := by decide +kernel
theorem dX6_net_125 : decode cX6_net 125 = .ok (.aload_n 0, 1) := by decide +kernel
theorem dX6_net_126 : decode cX6_net 126 = .ok (.getfield 7, 3) := by decide +kernel
theorem dX6_net_129 : decode cX6_net 129 = .ok (.iload_n 3, 1) := by decide +kernel
theorem dX6_net_130 : decode cX6_net 130 = .ok (.iaload, 1) := by decide +kernel
theorem dX6_net_131 : decode cX6_net 131 = .ok (.tableswitch 150 0 4 #[33, 66, 90, 110, 130], 33) := by decide +kernel
theorem dX6_net_164 : decode cX6_net 164 = .ok (.aload_n 0, 1) := by decide +kernel
theorem dX6_net_165 : decode cX6_net 165 = .ok (.iload 5, 2) := by decide +kernel
theorem dX6_net_167 : decode cX6_net 167 = .ok (.invokestatic 162, 3) := by decide +kernel
theorem dX6_net_170 : decode cX6_net 170 = .ok (.iload 4, 2) := by decide +kernel
theorem dX6_net_172 : decode cX6_net 172 = .ok (.invokestatic 155, 3) := by decide +kernel
theorem dX6_net_175 : decode cX6_net 175 = .ok (.lconst 0, 1) := by decide +kernel
theorem dX6_net_176 : decode cX6_net 176 = .ok (.invokevirtual 149, 3) := by decide +kernel
theorem dX6_net_179 : decode cX6_net 179 = .ok (.aload_n 0, 1) := by decide +kernel
theorem dX6_net_180 : decode cX6_net 180 = .ok (.iload 4, 2) := by decide +kernel
theorem dX6_net_182 : decode cX6_net 182 = .ok (.invokestatic 155, 3) := by decide +kernel
theorem dX6_net_185 : decode cX6_net 185 = .ok (.iload 5, 2) := by decide +kernel
theorem dX6_net_187 : decode cX6_net 187 = .ok (.invokestatic 165, 3) := by decide +kernel
theorem dX6_net_190 : decode cX6_net 190 = .ok (.lconst 0, 1) := by decide +kernel
theorem dX6_net_191 : decode cX6_net 191 = .ok (.invokevirtual 149, 3) := by decide +kernel
theorem dX6_net_194 : decode cX6_net 194 = .ok (.goto 117, 3) := by decide +kernel
theorem dX6_net_197 : decode cX6_net 197 = .ok (.aload_n 0, 1) := by decide +kernel
theorem dX6_net_198 : decode cX6_net 198 = .ok (.iload 4, 2) := by decide +kernel
theorem dX6_net_200 : decode cX6_net 200 = .ok (.invokestatic 155, 3) := by decide +kernel
theorem dX6_net_203 : decode cX6_net 203 = .ok (.iload 5, 2) := by decide +kernel
theorem dX6_net_205 : decode cX6_net 205 = .ok (.invokestatic 155, 3) := by decide +kernel
theorem dX6_net_208 : decode cX6_net 208 = .ok (.aload_n 0, 1) := by decide +kernel
theorem dX6_net_209 : decode cX6_net 209 = .ok (.getfield 19, 3) := by decide +kernel
theorem dX6_net_212 : decode cX6_net 212 = .ok (.iload_n 3, 1) := by decide +kernel
theorem dX6_net_213 : decode cX6_net 213 = .ok (.iaload, 1) := by decide +kernel
theorem dX6_net_214 : decode cX6_net 214 = .ok (.i2l, 1) := by decide +kernel
theorem dX6_net_215 : decode cX6_net 215 = .ok (.invokevirtual 149, 3) := by decide +kernel
theorem dX6_net_218 : decode cX6_net 218 = .ok (.goto 93, 3) := by decide +kernel
theorem dX6_net_221 : decode cX6_net 221 = .ok (.aload_n 0, 1) := by decide +kernel
theorem dX6_net_222 : decode cX6_net 222 = .ok (.iload 4, 2) := by decide +kernel
theorem dX6_net_224 : decode cX6_net 224 = .ok (.invokestatic 155, 3) := by decide +kernel
theorem dX6_net_227 : decode cX6_net 227 = .ok (.iload 5, 2) := by decide +kernel
theorem dX6_net_229 : decode cX6_net 229 = .ok (.aload_n 0, 1) := by decide +kernel
theorem dX6_net_230 : decode cX6_net 230 = .ok (.getfield 19, 3) := by decide +kernel
theorem dX6_net_233 : decode cX6_net 233 = .ok (.iload_n 3, 1) := by decide +kernel
theorem dX6_net_234 : decode cX6_net 234 = .ok (.iaload, 1) := by decide +kernel
theorem dX6_net_235 : decode cX6_net 235 = .ok (.invokevirtual 175, 3) := by decide +kernel
theorem dX6_net_238 : decode cX6_net 238 = .ok (.goto 73, 3) := by decide +kernel
theorem dX6_net_241 : decode cX6_net 241 = .ok (.aload_n 0, 1) := by decide +kernel
theorem dX6_net_242 : decode cX6_net 242 = .ok (.iload 4, 2) := by decide +kernel
theorem dX6_net_244 : decode cX6_net 244 = .ok (.invokestatic 162, 3) := by decide +kernel
theorem dX6_net_247 : decode cX6_net 247 = .ok (.iload 5, 2) := by decide +kernel
theorem dX6_net_249 : decode cX6_net 249 = .ok (.aload_n 0, 1) := by decide +kernel
theorem dX6_net_250 : decode cX6_net 250 = .ok (.getfield 19, 3) := by decide +kernel
theorem dX6_net_253 : decode cX6_net 253 = .ok (.iload_n 3, 1) := by decide +kernel
theorem dX6_net_254 : decode cX6_net 254 = .ok (.iaload, 1) := by decide +kernel
theorem dX6_net_255 : decode cX6_net 255 = .ok (.invokevirtual 175, 3) := by decide +kernel
theorem dX6_net_258 : decode cX6_net 258 = .ok (.goto 53, 3) := by decide +kernel
theorem dX6_net_261 : decode cX6_net 261 = .ok (.aload_n 0, 1) := by decide +kernel
theorem dX6_net_262 : decode cX6_net 262 = .ok (.iload 4, 2) := by decide +kernel
theorem dX6_net_264 : decode cX6_net 264 = .ok (.invokestatic 165, 3) := by decide +kernel
theorem dX6_net_267 : decode cX6_net 267 = .ok (.iload 5, 2) := by decide +kernel
theorem dX6_net_269 : decode cX6_net 269 = .ok (.aload_n 0, 1) := by decide +kernel
theorem dX6_net_270 : decode cX6_net 270 = .ok (.getfield 19, 3) := by decide +kernel
theorem dX6_net_273 : decode cX6_net 273 = .ok (.iload_n 3, 1) := by decide +kernel
theorem dX6_net_274 : decode cX6_net 274 = .ok (.iaload, 1) := by decide +kernel
theorem dX6_net_275 : decode cX6_net 275 = .ok (.invokevirtual 175, 3) := by decide +kernel
theorem dX6_net_278 : decode cX6_net 278 = .ok (.goto 33, 3) := by decide +kernel
theorem dX6_net_281 : decode cX6_net 281 = .ok (.aload_n 0, 1) := by decide +kernel
theorem dX6_net_282 : decode cX6_net 282 = .ok (.iload 4, 2) := by decide +kernel
theorem dX6_net_284 : decode cX6_net 284 = .ok (.invokestatic 155, 3) := by decide +kernel
theorem dX6_net_287 : decode cX6_net 287 = .ok (.iload 5, 2) := by decide +kernel
theorem dX6_net_289 : decode cX6_net 289 = .ok (.invokestatic 155, 3) := by decide +kernel
theorem dX6_net_292 : decode cX6_net 292 = .ok (.lconst 0, 1) := by decide +kernel
theorem dX6_net_293 : decode cX6_net 293 = .ok (.invokevirtual 149, 3) := by decide +kernel
theorem dX6_net_296 : decode cX6_net 296 = .ok (.aload_n 0, 1) := by decide +kernel
theorem dX6_net_297 : decode cX6_net 297 = .ok (.iload 5, 2) := by decide +kernel
theorem dX6_net_299 : decode cX6_net 299 = .ok (.invokestatic 155, 3) := by decide +kernel
theorem dX6_net_302 : decode cX6_net 302 = .ok (.iload 4, 2) := by decide +kernel
theorem dX6_net_304 : decode cX6_net 304 = .ok (.invokestatic 155, 3) := by decide +kernel
theorem dX6_net_307 : decode cX6_net 307 = .ok (.lconst 0, 1) := by decide +kernel
theorem dX6_net_308 : decode cX6_net 308 = .ok (.invokevirtual 149, 3) := by decide +kernel
theorem dX6_net_311 : decode cX6_net 311 = .ok (.iinc 3 1, 3) := by decide +kernel
theorem dX6_net_314 : decode cX6_net 314 = .ok (.goto (-230), 3) := by decide +kernel
theorem dX6_net_317 : decode cX6_net 317 = .ok (.return_, 1) := by decide +kernel
theorem dX6_goes_0 : decode cX6_goes 0 = .ok (.iconst 0, 1) := by decide +kernel
theorem dX6_goes_1 : decode cX6_goes 1 = .ok (.istore_n 2, 1) := by decide +kernel
theorem dX6_goes_2 : decode cX6_goes 2 = .ok (.iload_n 2, 1) := by decide +kernel
theorem dX6_goes_3 : decode cX6_goes 3 = .ok (.bipush 53, 2) := by decide +kernel
theorem dX6_goes_5 : decode cX6_goes 5 = .ok (.if_icmp .ge 27, 3) := by decide +kernel
theorem dX6_goes_8 : decode cX6_goes 8 = .ok (.aload_n 0, 1) := by decide +kernel
theorem dX6_goes_9 : decode cX6_goes 9 = .ok (.getfield 38, 3) := by decide +kernel
theorem dX6_goes_12 : decode cX6_goes 12 = .ok (.iload_n 2, 1) := by decide +kernel
theorem dX6_goes_13 : decode cX6_goes 13 = .ok (.iload_n 2, 1) := by decide +kernel
theorem dX6_goes_14 : decode cX6_goes 14 = .ok (.iload_n 1, 1) := by decide +kernel
theorem dX6_goes_15 : decode cX6_goes 15 = .ok (.if_icmp .ne 7, 3) := by decide +kernel
theorem dX6_goes_18 : decode cX6_goes 18 = .ok (.lconst 0, 1) := by decide +kernel
theorem dX6_goes_19 : decode cX6_goes 19 = .ok (.goto 6, 3) := by decide +kernel
theorem dX6_goes_22 : decode cX6_goes 22 = .ok (.ldc2_w 179, 3) := by decide +kernel
theorem dX6_goes_25 : decode cX6_goes 25 = .ok (.lastore, 1) := by decide +kernel
theorem dX6_goes_26 : decode cX6_goes 26 = .ok (.iinc 2 1, 3) := by decide +kernel
theorem dX6_goes_29 : decode cX6_goes 29 = .ok (.goto (-27), 3) := by decide +kernel
theorem dX6_goes_32 : decode cX6_goes 32 = .ok (.iconst 1, 1) := by decide +kernel
theorem dX6_goes_33 : decode cX6_goes 33 = .ok (.istore_n 2, 1) := by decide +kernel
theorem dX6_goes_34 : decode cX6_goes 34 = .ok (.iconst 0, 1) := by decide +kernel
theorem dX6_goes_35 : decode cX6_goes 35 = .ok (.istore_n 3, 1) := by decide +kernel
theorem dX6_goes_36 : decode cX6_goes 36 = .ok (.iload_n 3, 1) := by decide +kernel
theorem dX6_goes_37 : decode cX6_goes 37 = .ok (.bipush 53, 2) := by decide +kernel
theorem dX6_goes_39 : decode cX6_goes 39 = .ok (.if_icmp .gt 125, 3) := by decide +kernel
theorem dX6_goes_42 : decode cX6_goes 42 = .ok (.iload_n 2, 1) := by decide +kernel
theorem dX6_goes_43 : decode cX6_goes 43 = .ok (.ifCond .eq 121, 3) := by decide +kernel
theorem dX6_goes_46 : decode cX6_goes 46 = .ok (.iconst 0, 1) := by decide +kernel
theorem dX6_goes_47 : decode cX6_goes 47 = .ok (.istore_n 2, 1) := by decide +kernel
theorem dX6_goes_48 : decode cX6_goes 48 = .ok (.iconst 0, 1) := by decide +kernel
theorem dX6_goes_49 : decode cX6_goes 49 = .ok (.istore 4, 2) := by decide +kernel
theorem dX6_goes_51 : decode cX6_goes 51 = .ok (.iload 4, 2) := by decide +kernel
theorem dX6_goes_53 : decode cX6_goes 53 = .ok (.aload_n 0, 1) := by decide +kernel
theorem dX6_goes_54 : decode cX6_goes 54 = .ok (.getfield 146, 3) := by decide +kernel
theorem dX6_goes_57 : decode cX6_goes 57 = .ok (.if_icmp .ge 101, 3) := by decide +kernel
theorem dX6_goes_60 : decode cX6_goes 60 = .ok (.aload_n 0, 1) := by decide +kernel
theorem dX6_goes_61 : decode cX6_goes 61 = .ok (.getfield 38, 3) := by decide +kernel
theorem dX6_goes_64 : decode cX6_goes 64 = .ok (.aload_n 0, 1) := by decide +kernel
theorem dX6_goes_65 : decode cX6_goes 65 = .ok (.getfield 28, 3) := by decide +kernel
theorem dX6_goes_68 : decode cX6_goes 68 = .ok (.iload 4, 2) := by decide +kernel
theorem dX6_goes_70 : decode cX6_goes 70 = .ok (.iaload, 1) := by decide +kernel
theorem dX6_goes_71 : decode cX6_goes 71 = .ok (.laload, 1) := by decide +kernel
theorem dX6_goes_72 : decode cX6_goes 72 = .ok (.ldc2_w 179, 3) := by decide +kernel
theorem dX6_goes_75 : decode cX6_goes 75 = .ok (.lcmp, 1) := by decide +kernel
theorem dX6_goes_76 : decode cX6_goes 76 = .ok (.ifCond .eq 76, 3) := by decide +kernel
theorem dX6_goes_79 : decode cX6_goes 79 = .ok (.aload_n 0, 1) := by decide +kernel
theorem dX6_goes_80 : decode cX6_goes 80 = .ok (.getfield 38, 3) := by decide +kernel
theorem dX6_goes_83 : decode cX6_goes 83 = .ok (.aload_n 0, 1) := by decide +kernel
theorem dX6_goes_84 : decode cX6_goes 84 = .ok (.getfield 28, 3) := by decide +kernel
theorem dX6_goes_87 : decode cX6_goes 87 = .ok (.iload 4, 2) := by decide +kernel
theorem dX6_goes_89 : decode cX6_goes 89 = .ok (.iaload, 1) := by decide +kernel
theorem dX6_goes_90 : decode cX6_goes 90 = .ok (.laload, 1) := by decide +kernel
theorem dX6_goes_91 : decode cX6_goes 91 = .ok (.aload_n 0, 1) := by decide +kernel
theorem dX6_goes_92 : decode cX6_goes 92 = .ok (.getfield 34, 3) := by decide +kernel
theorem dX6_goes_95 : decode cX6_goes 95 = .ok (.iload 4, 2) := by decide +kernel
theorem dX6_goes_97 : decode cX6_goes 97 = .ok (.laload, 1) := by decide +kernel
theorem dX6_goes_98 : decode cX6_goes 98 = .ok (.ladd, 1) := by decide +kernel
theorem dX6_goes_99 : decode cX6_goes 99 = .ok (.aload_n 0, 1) := by decide +kernel
theorem dX6_goes_100 : decode cX6_goes 100 = .ok (.getfield 38, 3) := by decide +kernel
theorem dX6_goes_103 : decode cX6_goes 103 = .ok (.aload_n 0, 1) := by decide +kernel
theorem dX6_goes_104 : decode cX6_goes 104 = .ok (.getfield 31, 3) := by decide +kernel
theorem dX6_goes_107 : decode cX6_goes 107 = .ok (.iload 4, 2) := by decide +kernel
theorem dX6_goes_109 : decode cX6_goes 109 = .ok (.iaload, 1) := by decide +kernel
theorem dX6_goes_110 : decode cX6_goes 110 = .ok (.laload, 1) := by decide +kernel
theorem dX6_goes_111 : decode cX6_goes 111 = .ok (.lcmp, 1) := by decide +kernel
theorem dX6_goes_112 : decode cX6_goes 112 = .ok (.ifCond .gt 6, 3) := by decide +kernel
theorem dX6_goes_115 : decode cX6_goes 115 = .ok (.goto 37, 3) := by decide +kernel
theorem dX6_goes_118 : decode cX6_goes 118 = .ok (.aload_n 0, 1) := by decide +kernel
theorem dX6_goes_119 : decode cX6_goes 119 = .ok (.getfield 38, 3) := by decide +kernel
theorem dX6_goes_122 : decode cX6_goes 122 = .ok (.aload_n 0, 1) := by decide +kernel
theorem dX6_goes_123 : decode cX6_goes 123 = .ok (.getfield 31, 3) := by decide +kernel
theorem dX6_goes_126 : decode cX6_goes 126 = .ok (.iload 4, 2) := by decide +kernel
theorem dX6_goes_128 : decode cX6_goes 128 = .ok (.iaload, 1) := by decide +kernel
theorem dX6_goes_129 : decode cX6_goes 129 = .ok (.aload_n 0, 1) := by decide +kernel
theorem dX6_goes_130 : decode cX6_goes 130 = .ok (.getfield 38, 3) := by decide +kernel
theorem dX6_goes_133 : decode cX6_goes 133 = .ok (.aload_n 0, 1) := by decide +kernel
theorem dX6_goes_134 : decode cX6_goes 134 = .ok (.getfield 28, 3) := by decide +kernel
theorem dX6_goes_137 : decode cX6_goes 137 = .ok (.iload 4, 2) := by decide +kernel
theorem dX6_goes_139 : decode cX6_goes 139 = .ok (.iaload, 1) := by decide +kernel
theorem dX6_goes_140 : decode cX6_goes 140 = .ok (.laload, 1) := by decide +kernel
theorem dX6_goes_141 : decode cX6_goes 141 = .ok (.aload_n 0, 1) := by decide +kernel
theorem dX6_goes_142 : decode cX6_goes 142 = .ok (.getfield 34, 3) := by decide +kernel
theorem dX6_goes_145 : decode cX6_goes 145 = .ok (.iload 4, 2) := by decide +kernel
theorem dX6_goes_147 : decode cX6_goes 147 = .ok (.laload, 1) := by decide +kernel
theorem dX6_goes_148 : decode cX6_goes 148 = .ok (.ladd, 1) := by decide +kernel
theorem dX6_goes_149 : decode cX6_goes 149 = .ok (.lastore, 1) := by decide +kernel
theorem dX6_goes_150 : decode cX6_goes 150 = .ok (.iconst 1, 1) := by decide +kernel
theorem dX6_goes_151 : decode cX6_goes 151 = .ok (.istore_n 2, 1) := by decide +kernel
theorem dX6_goes_152 : decode cX6_goes 152 = .ok (.iinc 4 1, 3) := by decide +kernel
theorem dX6_goes_155 : decode cX6_goes 155 = .ok (.goto (-104), 3) := by decide +kernel
theorem dX6_goes_158 : decode cX6_goes 158 = .ok (.iinc 3 1, 3) := by decide +kernel
theorem dX6_goes_161 : decode cX6_goes 161 = .ok (.goto (-125), 3) := by decide +kernel
theorem dX6_goes_164 : decode cX6_goes 164 = .ok (.iload_n 2, 1) := by decide +kernel
theorem dX6_goes_165 : decode cX6_goes 165 = .ok (.ifCond .ne 7, 3) := by decide +kernel
theorem dX6_goes_168 : decode cX6_goes 168 = .ok (.iconst 1, 1) := by decide +kernel
theorem dX6_goes_169 : decode cX6_goes 169 = .ok (.goto 4, 3) := by decide +kernel
theorem dX6_goes_172 : decode cX6_goes 172 = .ok (.iconst 0, 1) := by decide +kernel
theorem dX6_goes_173 : decode cX6_goes 173 = .ok (.ireturn, 1) := by decide +kernel
set_option maxRecDepth 20000 in
theorem ggX6_spanOf_X6_isDay : GoodIn wsX6_spanOf wsX6_isDay := goodIn_r _ [5] (by decide +kernel) (by decide +kernel)
set_option maxRecDepth 20000 in
theorem gX6_spanOf_X6_isDay : GoodIn wsX6_spanOf (va_wsS RX6 129 yX6_isDay wsX6_isDay) := goodIn_app (goodIn_of _ (by decide +kernel)) ggX6_spanOf_X6_isDay
set_option maxRecDepth 20000 in
theorem ggX6_spanOf_X6_refuse : GoodIn wsX6_spanOf wsX6_refuse := goodIn_r _ [9, 10, 60, 61, 62, 63, 64, 65, 66, 67, 68, 69, 70, 71, 72, 73, 74, 75, 76, 77, 78, 79, 80, 81, 82, 83, 84, 85, 86, 87, 88, 89, 90, 91, 92, 93, 94, 95, 96, 97, 98, 99, 100] (by decide +kernel) (by decide +kernel)
set_option maxRecDepth 20000 in
theorem gX6_spanOf_X6_refuse : GoodIn wsX6_spanOf (wsV RX6 115 RX6 yX6_refuse wsX6_refuse) := goodIn_app (goodIn_of _ (by decide +kernel)) ggX6_spanOf_X6_refuse
set_option maxRecDepth 20000 in
theorem ggX6_spanOf_X6_net : GoodIn wsX6_spanOf wsX6_net := goodIn_r _ [14, 15, 16, 17, 18, 19, 20, 21, 22, 23, 24, 25, 4, 26, 27, 28, 29, 30, 31, 32, 33, 34, 35, 36, 37, 38, 39, 40, 41, 42, 43, 44, 45, 46, 47, 48, 49, 50, 51, 52, 53, 54, 60, 61, 62, 63, 64, 65, 66, 67, 68, 69, 70, 71, 72, 73, 74, 75, 76, 77, 78, 79, 80, 81, 82, 83, 84, 85, 86, 87, 88, 89, 90, 91, 92, 93, 94, 95, 96, 97, 98, 99, 100] (by decide +kernel) (by decide +kernel)
set_option maxRecDepth 20000 in
theorem gX6_spanOf_X6_net : GoodIn wsX6_spanOf (wsV RX6 181 RX6 yX6_net wsX6_net) := goodIn_app (goodIn_of _ (by decide +kernel)) ggX6_spanOf_X6_net
set_option maxRecDepth 20000 in
theorem ggX6_spanOf_X6_goes : GoodIn wsX6_spanOf wsX6_goes := goodIn_r _ [58, 1, 59, 15, 36, 38, 37, 60, 61, 62, 63, 64, 65, 66, 67, 68, 69, 70, 71, 72, 73, 74, 75, 76, 77, 78, 79, 80, 81, 82, 83, 84, 85, 86, 87, 88, 89, 90, 91, 92, 93, 94, 95, 96, 97, 98, 99, 100] (by decide +kernel) (by decide +kernel)
set_option maxRecDepth 20000 in
theorem gX6_spanOf_X6_goes : GoodIn wsX6_spanOf (wsV RX6 185 RX6 yX6_goes wsX6_goes) := goodIn_app (goodIn_of _ (by decide +kernel)) ggX6_spanOf_X6_goes
theorem dX6_spanOf_0 : decode cX6_spanOf 0 = .ok (.iload_n 3, 1) := by decide +kernel
theorem dX6_spanOf_1 : decode cX6_spanOf 1 = .ok (.invokestatic 129, 3) := by decide +kernel
theorem dX6_spanOf_4 : decode cX6_spanOf 4 = .ok (.ifCond .ne 9, 3) := by decide +kernel
theorem dX6_spanOf_7 : decode cX6_spanOf 7 = .ok (.aload_n 0, 1) := by decide +kernel
theorem dX6_spanOf_8 : decode cX6_spanOf 8 = .ok (.iconst 2, 1) := by decide +kernel
theorem dX6_spanOf_9 : decode cX6_spanOf 9 = .ok (.invokevirtual 115, 3) := by decide +kernel
theorem dX6_spanOf_12 : decode cX6_spanOf 12 = .ok (.ireturn, 1) := by decide +kernel
theorem dX6_spanOf_13 : decode cX6_spanOf 13 = .ok (.aload_n 0, 1) := by decide +kernel
theorem dX6_spanOf_14 : decode cX6_spanOf 14 = .ok (.iload_n 3, 1) := by decide +kernel
theorem dX6_spanOf_15 : decode cX6_spanOf 15 = .ok (.iconst (-1), 1) := by decide +kernel
theorem dX6_spanOf_16 : decode cX6_spanOf 16 = .ok (.invokevirtual 181, 3) := by decide +kernel
theorem dX6_spanOf_19 : decode cX6_spanOf 19 = .ok (.aload_n 0, 1) := by decide +kernel
theorem dX6_spanOf_20 : decode cX6_spanOf 20 = .ok (.iconst 0, 1) := by decide +kernel
theorem dX6_spanOf_21 : decode cX6_spanOf 21 = .ok (.invokevirtual 185, 3) := by decide +kernel
theorem dX6_spanOf_24 : decode cX6_spanOf 24 = .ok (.ifCond .ne 9, 3) := by decide +kernel
theorem dX6_spanOf_27 : decode cX6_spanOf 27 = .ok (.aload_n 0, 1) := by decide +kernel
theorem dX6_spanOf_28 : decode cX6_spanOf 28 = .ok (.iconst 5, 1) := by decide +kernel
theorem dX6_spanOf_29 : decode cX6_spanOf 29 = .ok (.invokevirtual 115, 3) := by decide +kernel
theorem dX6_spanOf_32 : decode cX6_spanOf 32 = .ok (.ireturn, 1) := by decide +kernel
theorem dX6_spanOf_33 : decode cX6_spanOf 33 = .ok (.iload_n 2, 1) := by decide +kernel
theorem dX6_spanOf_34 : decode cX6_spanOf 34 = .ok (.ifCond .ne 11, 3) := by decide +kernel
theorem dX6_spanOf_37 : decode cX6_spanOf 37 = .ok (.aload_n 0, 1) := by decide +kernel
theorem dX6_spanOf_38 : decode cX6_spanOf 38 = .ok (.getfield 38, 3) := by decide +kernel
theorem dX6_spanOf_41 : decode cX6_spanOf 41 = .ok (.iload_n 1, 1) := by decide +kernel
theorem dX6_spanOf_42 : decode cX6_spanOf 42 = .ok (.laload, 1) := by decide +kernel
theorem dX6_spanOf_43 : decode cX6_spanOf 43 = .ok (.l2i, 1) := by decide +kernel
theorem dX6_spanOf_44 : decode cX6_spanOf 44 = .ok (.ireturn, 1) := by decide +kernel
theorem dX6_spanOf_45 : decode cX6_spanOf 45 = .ok (.aload_n 0, 1) := by decide +kernel
theorem dX6_spanOf_46 : decode cX6_spanOf 46 = .ok (.iload_n 1, 1) := by decide +kernel
theorem dX6_spanOf_47 : decode cX6_spanOf 47 = .ok (.invokevirtual 185, 3) := by decide +kernel
theorem dX6_spanOf_50 : decode cX6_spanOf 50 = .ok (.pop, 1) := by decide +kernel
theorem dX6_spanOf_51 : decode cX6_spanOf 51 = .ok (.aload_n 0, 1) := by decide +kernel
theorem dX6_spanOf_52 : decode cX6_spanOf 52 = .ok (.getfield 38, 3) := by decide +kernel
theorem dX6_spanOf_55 : decode cX6_spanOf 55 = .ok (.iconst 0, 1) := by decide +kernel
theorem dX6_spanOf_56 : decode cX6_spanOf 56 = .ok (.laload, 1) := by decide +kernel
theorem dX6_spanOf_57 : decode cX6_spanOf 57 = .ok (.lneg, 1) := by decide +kernel
theorem dX6_spanOf_58 : decode cX6_spanOf 58 = .ok (.l2i, 1) := by decide +kernel
theorem dX6_spanOf_59 : decode cX6_spanOf 59 = .ok (.ireturn, 1) := by decide +kernel
set_option maxRecDepth 20000 in
theorem ggX6_span_X6_isPlate : GoodIn wsX6_span wsX6_isPlate := goodIn_r _ [7, 8, 69, 70, 71, 72, 73, 74, 75, 76, 77, 78, 79, 80, 81, 82, 83, 84, 85, 86, 87, 88, 89, 90, 91, 92, 93, 94, 95, 96, 97, 98, 99, 100, 101, 102, 103, 104, 105, 106, 107, 108, 109] (by decide +kernel) (by decide +kernel)
set_option maxRecDepth 20000 in
theorem gX6_span_X6_isPlate : GoodIn wsX6_span (wsV RX6 122 RX6 yX6_isPlate wsX6_isPlate) := goodIn_app (goodIn_of _ (by decide +kernel)) ggX6_span_X6_isPlate
set_option maxRecDepth 20000 in
theorem ggX6_span_X6_placeOf : GoodIn wsX6_span wsX6_placeOf := goodIn_r _ [11] (by decide +kernel) (by decide +kernel)
set_option maxRecDepth 20000 in
theorem gX6_span_X6_placeOf : GoodIn wsX6_span (va_wsS RX6 155 yX6_placeOf wsX6_placeOf) := goodIn_app (goodIn_of _ (by decide +kernel)) ggX6_span_X6_placeOf
set_option maxRecDepth 20000 in
theorem ggX6_span_X6_spanOf : GoodIn wsX6_span wsX6_spanOf := goodIn_r _ [15, 16, 17, 18, 6, 19, 20, 21, 22, 23, 2, 24, 25, 26, 27, 28, 8, 29, 30, 31, 32, 33, 34, 35, 9, 10, 11, 36, 37, 38, 39, 40, 41, 42, 43, 44, 45, 46, 47, 48, 49, 50, 51, 52, 53, 54, 55, 56, 57, 58, 59, 60, 61, 62, 63, 64, 65, 66, 67, 68, 69, 70, 71, 72, 73, 74, 75, 76, 77, 78, 79, 80, 81, 82, 83, 84, 85, 86, 87, 88, 89, 90, 91, 92, 93, 94, 95, 96, 97, 98, 99, 100, 101, 102, 103, 104, 105, 106, 107, 108, 109] (by decide +kernel) (by decide +kernel)
set_option maxRecDepth 20000 in
theorem gX6_span_X6_spanOf : GoodIn wsX6_span (wsV RX6 188 RX6 yX6_spanOf wsX6_spanOf) := goodIn_app (goodIn_of _ (by decide +kernel)) ggX6_span_X6_spanOf
set_option maxRecDepth 20000 in
theorem ggX6_span_X6_refuse : GoodIn wsX6_span wsX6_refuse := goodIn_r _ [23, 2, 69, 70, 71, 72, 73, 74, 75, 76, 77, 78, 79, 80, 81, 82, 83, 84, 85, 86, 87, 88, 89, 90, 91, 92, 93, 94, 95, 96, 97, 98, 99, 100, 101, 102, 103, 104, 105, 106, 107, 108, 109] (by decide +kernel) (by decide +kernel)
set_option maxRecDepth 20000 in
theorem gX6_span_X6_refuse : GoodIn wsX6_span (wsV RX6 115 RX6 yX6_refuse wsX6_refuse) := goodIn_app (goodIn_of _ (by decide +kernel)) ggX6_span_X6_refuse
theorem dX6_span_0 : decode cX6_span 0 = .ok (.aload_n 0, 1) := by decide +kernel
theorem dX6_span_1 : decode cX6_span 1 = .ok (.iconst 0, 1) := by decide +kernel
theorem dX6_span_2 : decode cX6_span 2 = .ok (.putfield 101, 3) := by decide +kernel
theorem dX6_span_5 : decode cX6_span 5 = .ok (.aload_n 0, 1) := by decide +kernel
theorem dX6_span_6 : decode cX6_span 6 = .ok (.iconst 0, 1) := by decide +kernel
theorem dX6_span_7 : decode cX6_span 7 = .ok (.putfield 105, 3) := by decide +kernel
theorem dX6_span_10 : decode cX6_span 10 = .ok (.aload_n 0, 1) := by decide +kernel
theorem dX6_span_11 : decode cX6_span 11 = .ok (.iload_n 1, 1) := by decide +kernel
theorem dX6_span_12 : decode cX6_span 12 = .ok (.invokevirtual 122, 3) := by decide +kernel
theorem dX6_span_15 : decode cX6_span 15 = .ok (.ifCond .eq 16, 3) := by decide +kernel
theorem dX6_span_18 : decode cX6_span 18 = .ok (.aload_n 0, 1) := by decide +kernel
theorem dX6_span_19 : decode cX6_span 19 = .ok (.iload_n 1, 1) := by decide +kernel
theorem dX6_span_20 : decode cX6_span 20 = .ok (.invokestatic 155, 3) := by decide +kernel
theorem dX6_span_23 : decode cX6_span 23 = .ok (.iload_n 2, 1) := by decide +kernel
theorem dX6_span_24 : decode cX6_span 24 = .ok (.iload_n 3, 1) := by decide +kernel
theorem dX6_span_25 : decode cX6_span 25 = .ok (.invokevirtual 188, 3) := by decide +kernel
theorem dX6_span_28 : decode cX6_span 28 = .ok (.goto 8, 3) := by decide +kernel
theorem dX6_span_31 : decode cX6_span 31 = .ok (.aload_n 0, 1) := by decide +kernel
theorem dX6_span_32 : decode cX6_span 32 = .ok (.iconst 1, 1) := by decide +kernel
theorem dX6_span_33 : decode cX6_span 33 = .ok (.invokevirtual 115, 3) := by decide +kernel
theorem dX6_span_36 : decode cX6_span 36 = .ok (.ireturn, 1) := by decide +kernel
set_option maxRecDepth 20000 in
theorem ggX6_times_X6_isMotif : GoodIn wsX6_times wsX6_isMotif := goodIn_r _ [7, 8, 69, 70, 71, 72, 73, 74, 75, 76, 77, 78, 79, 80, 81, 82, 83, 84, 85, 86, 87, 88, 89, 90, 91, 92, 93, 94, 95, 96, 97, 98, 99, 100, 101, 102, 103, 104, 105, 106, 107, 108, 109] (by decide +kernel) (by decide +kernel)
set_option maxRecDepth 20000 in
theorem gX6_times_X6_isMotif : GoodIn wsX6_times (wsV RX6 126 RX6 yX6_isMotif wsX6_isMotif) := goodIn_app (goodIn_of _ (by decide +kernel)) ggX6_times_X6_isMotif
set_option maxRecDepth 20000 in
theorem ggX6_times_X6_endsAt : GoodIn wsX6_times wsX6_endsAt := goodIn_r _ [11] (by decide +kernel) (by decide +kernel)
set_option maxRecDepth 20000 in
theorem gX6_times_X6_endsAt : GoodIn wsX6_times (va_wsS RX6 165 yX6_endsAt wsX6_endsAt) := goodIn_app (goodIn_of _ (by decide +kernel)) ggX6_times_X6_endsAt
set_option maxRecDepth 20000 in
theorem ggX6_times_X6_begins : GoodIn wsX6_times wsX6_begins := goodIn_r _ [14] (by decide +kernel) (by decide +kernel)
set_option maxRecDepth 20000 in
theorem gX6_times_X6_begins : GoodIn wsX6_times (va_wsS RX6 162 yX6_begins wsX6_begins) := goodIn_app (goodIn_of _ (by decide +kernel)) ggX6_times_X6_begins
set_option maxRecDepth 20000 in
theorem ggX6_times_X6_spanOf : GoodIn wsX6_times wsX6_spanOf := goodIn_r _ [18, 19, 20, 21, 6, 22, 23, 24, 25, 26, 2, 27, 28, 29, 30, 31, 32, 8, 33, 34, 35, 36, 37, 38, 39, 40, 41, 42, 43, 44, 45, 46, 47, 48, 49, 50, 51, 52, 53, 12, 13, 14, 9, 10, 11, 54, 55, 56, 57, 58, 59, 60, 61, 62, 63, 64, 65, 66, 67, 68, 69, 70, 71, 72, 73, 74, 75, 76, 77, 78, 79, 80, 81, 82, 83, 84, 85, 86, 87, 88, 89, 90, 91, 92, 93, 94, 95, 96, 97, 98, 99, 100, 101, 102, 103, 104, 105, 106, 107, 108, 109] (by decide +kernel) (by decide +kernel)
set_option maxRecDepth 20000 in
theorem gX6_times_X6_spanOf : GoodIn wsX6_times (wsV RX6 188 RX6 yX6_spanOf wsX6_spanOf) := goodIn_app (goodIn_of _ (by decide +kernel)) ggX6_times_X6_spanOf
set_option maxRecDepth 20000 in
theorem ggX6_times_X6_refuse : GoodIn wsX6_times wsX6_refuse := goodIn_r _ [26, 2, 69, 70, 71, 72, 73, 74, 75, 76, 77, 78, 79, 80, 81, 82, 83, 84, 85, 86, 87, 88, 89, 90, 91, 92, 93, 94, 95, 96, 97, 98, 99, 100, 101, 102, 103, 104, 105, 106, 107, 108, 109] (by decide +kernel) (by decide +kernel)
set_option maxRecDepth 20000 in
theorem gX6_times_X6_refuse : GoodIn wsX6_times (wsV RX6 115 RX6 yX6_refuse wsX6_refuse) := goodIn_app (goodIn_of _ (by decide +kernel)) ggX6_times_X6_refuse
theorem dX6_times_0 : decode cX6_times 0 = .ok (.aload_n 0, 1) := by decide +kernel
theorem dX6_times_1 : decode cX6_times 1 = .ok (.iconst 0, 1) := by decide +kernel
theorem dX6_times_2 : decode cX6_times 2 = .ok (.putfield 101, 3) := by decide +kernel
theorem dX6_times_5 : decode cX6_times 5 = .ok (.aload_n 0, 1) := by decide +kernel
theorem dX6_times_6 : decode cX6_times 6 = .ok (.iconst 0, 1) := by decide +kernel
theorem dX6_times_7 : decode cX6_times 7 = .ok (.putfield 105, 3) := by decide +kernel
theorem dX6_times_10 : decode cX6_times 10 = .ok (.aload_n 0, 1) := by decide +kernel
theorem dX6_times_11 : decode cX6_times 11 = .ok (.iload_n 1, 1) := by decide +kernel
theorem dX6_times_12 : decode cX6_times 12 = .ok (.invokevirtual 126, 3) := by decide +kernel
theorem dX6_times_15 : decode cX6_times 15 = .ok (.ifCond .eq 28, 3) := by decide +kernel
theorem dX6_times_18 : decode cX6_times 18 = .ok (.aload_n 0, 1) := by decide +kernel
theorem dX6_times_19 : decode cX6_times 19 = .ok (.iload_n 2, 1) := by decide +kernel
theorem dX6_times_20 : decode cX6_times 20 = .ok (.ifCond .eq 10, 3) := by decide +kernel
theorem dX6_times_23 : decode cX6_times 23 = .ok (.iload_n 1, 1) := by decide +kernel
theorem dX6_times_24 : decode cX6_times 24 = .ok (.invokestatic 165, 3) := by decide +kernel
theorem dX6_times_27 : decode cX6_times 27 = .ok (.goto 7, 3) := by decide +kernel
theorem dX6_times_30 : decode cX6_times 30 = .ok (.iload_n 1, 1) := by decide +kernel
theorem dX6_times_31 : decode cX6_times 31 = .ok (.invokestatic 162, 3) := by decide +kernel
theorem dX6_times_34 : decode cX6_times 34 = .ok (.iload_n 3, 1) := by decide +kernel
theorem dX6_times_35 : decode cX6_times 35 = .ok (.iload 4, 2) := by decide +kernel
theorem dX6_times_37 : decode cX6_times 37 = .ok (.invokevirtual 188, 3) := by decide +kernel
theorem dX6_times_40 : decode cX6_times 40 = .ok (.goto 8, 3) := by decide +kernel
theorem dX6_times_43 : decode cX6_times 43 = .ok (.aload_n 0, 1) := by decide +kernel
theorem dX6_times_44 : decode cX6_times 44 = .ok (.iconst 1, 1) := by decide +kernel
theorem dX6_times_45 : decode cX6_times 45 = .ok (.invokevirtual 115, 3) := by decide +kernel
theorem dX6_times_48 : decode cX6_times 48 = .ok (.ireturn, 1) := by decide +kernel
set_option maxRecDepth 20000 in
theorem ggX6_quarrel_X6_isDay : GoodIn wsX6_quarrel wsX6_isDay := goodIn_r _ [11] (by decide +kernel) (by decide +kernel)
set_option maxRecDepth 20000 in
theorem gX6_quarrel_X6_isDay : GoodIn wsX6_quarrel (va_wsS RX6 129 yX6_isDay wsX6_isDay) := goodIn_app (goodIn_of _ (by decide +kernel)) ggX6_quarrel_X6_isDay
set_option maxRecDepth 20000 in
theorem ggX6_quarrel_X6_refuse : GoodIn wsX6_quarrel wsX6_refuse := goodIn_r _ [15, 2, 71, 72, 73, 74, 75, 76, 77, 78, 79, 80, 81, 82, 83, 84, 85, 86, 87, 88, 89, 90, 91, 92, 93, 94, 95, 96, 97, 98, 99, 100, 101, 102, 103, 104, 105, 106, 107, 108, 109, 110, 111] (by decide +kernel) (by decide +kernel)
set_option maxRecDepth 20000 in
theorem gX6_quarrel_X6_refuse : GoodIn wsX6_quarrel (wsV RX6 115 RX6 yX6_refuse wsX6_refuse) := goodIn_app (goodIn_of _ (by decide +kernel)) ggX6_quarrel_X6_refuse
set_option maxRecDepth 20000 in
theorem ggX6_quarrel_X6_net : GoodIn wsX6_quarrel wsX6_net := goodIn_r _ [19, 3, 20, 21, 4, 22, 23, 24, 25, 26, 27, 28, 10, 29, 30, 31, 32, 33, 34, 35, 36, 37, 38, 39, 40, 41, 42, 43, 44, 45, 46, 47, 48, 49, 50, 51, 52, 53, 54, 55, 56, 57, 71, 72, 73, 74, 75, 76, 77, 78, 79, 80, 81, 82, 83, 84, 85, 86, 87, 88, 89, 90, 91, 92, 93, 94, 95, 96, 97, 98, 99, 100, 101, 102, 103, 104, 105, 106, 107, 108, 109, 110, 111] (by decide +kernel) (by decide +kernel)
set_option maxRecDepth 20000 in
theorem gX6_quarrel_X6_net : GoodIn wsX6_quarrel (wsV RX6 181 RX6 yX6_net wsX6_net) := goodIn_app (goodIn_of _ (by decide +kernel)) ggX6_quarrel_X6_net
set_option maxRecDepth 20000 in
theorem ggX6_quarrel_X6_goes : GoodIn wsX6_quarrel wsX6_goes := goodIn_r _ [61, 6, 62, 3, 39, 41, 40, 71, 72, 73, 74, 75, 76, 77, 78, 79, 80, 81, 82, 83, 84, 85, 86, 87, 88, 89, 90, 91, 92, 93, 94, 95, 96, 97, 98, 99, 100, 101, 102, 103, 104, 105, 106, 107, 108, 109, 110, 111] (by decide +kernel) (by decide +kernel)
set_option maxRecDepth 20000 in
theorem gX6_quarrel_X6_goes : GoodIn wsX6_quarrel (wsV RX6 185 RX6 yX6_goes wsX6_goes) := goodIn_app (goodIn_of _ (by decide +kernel)) ggX6_quarrel_X6_goes
set_option maxRecDepth 20000 in
theorem ggX6_quarrel_X6_longer : GoodIn wsX6_quarrel wsX6_longer := goodIn_r _ [66, 6, 62, 4, 3, 7, 39, 41, 5, 40, 67, 68, 69, 70, 71, 72, 73, 74, 75, 76, 77, 78, 79, 80, 81, 82, 83, 84, 85, 86, 87, 88, 89, 90, 91, 92, 93, 94, 95, 96, 97, 98, 99, 100, 101, 102, 103, 104, 105, 106, 107, 108, 109, 110, 111] (by decide +kernel) (by decide +kernel)
set_option maxRecDepth 20000 in
theorem gX6_quarrel_X6_longer : GoodIn wsX6_quarrel (wsV RX6 192 RX6 yX6_longer wsX6_longer) := goodIn_app (goodIn_of _ (by decide +kernel)) ggX6_quarrel_X6_longer
theorem dX6_quarrel_0 : decode cX6_quarrel 0 = .ok (.aload_n 0, 1) := by decide +kernel
theorem dX6_quarrel_1 : decode cX6_quarrel 1 = .ok (.iconst 0, 1) := by decide +kernel
theorem dX6_quarrel_2 : decode cX6_quarrel 2 = .ok (.putfield 101, 3) := by decide +kernel
theorem dX6_quarrel_5 : decode cX6_quarrel 5 = .ok (.aload_n 0, 1) := by decide +kernel
theorem dX6_quarrel_6 : decode cX6_quarrel 6 = .ok (.iconst 0, 1) := by decide +kernel
theorem dX6_quarrel_7 : decode cX6_quarrel 7 = .ok (.putfield 105, 3) := by decide +kernel
theorem dX6_quarrel_10 : decode cX6_quarrel 10 = .ok (.iload_n 1, 1) := by decide +kernel
theorem dX6_quarrel_11 : decode cX6_quarrel 11 = .ok (.invokestatic 129, 3) := by decide +kernel
theorem dX6_quarrel_14 : decode cX6_quarrel 14 = .ok (.ifCond .ne 9, 3) := by decide +kernel
theorem dX6_quarrel_17 : decode cX6_quarrel 17 = .ok (.aload_n 0, 1) := by decide +kernel
theorem dX6_quarrel_18 : decode cX6_quarrel 18 = .ok (.iconst 2, 1) := by decide +kernel
theorem dX6_quarrel_19 : decode cX6_quarrel 19 = .ok (.invokevirtual 115, 3) := by decide +kernel
theorem dX6_quarrel_22 : decode cX6_quarrel 22 = .ok (.ireturn, 1) := by decide +kernel
theorem dX6_quarrel_23 : decode cX6_quarrel 23 = .ok (.aload_n 0, 1) := by decide +kernel
theorem dX6_quarrel_24 : decode cX6_quarrel 24 = .ok (.iload_n 1, 1) := by decide +kernel
theorem dX6_quarrel_25 : decode cX6_quarrel 25 = .ok (.iconst (-1), 1) := by decide +kernel
theorem dX6_quarrel_26 : decode cX6_quarrel 26 = .ok (.invokevirtual 181, 3) := by decide +kernel
theorem dX6_quarrel_29 : decode cX6_quarrel 29 = .ok (.aload_n 0, 1) := by decide +kernel
theorem dX6_quarrel_30 : decode cX6_quarrel 30 = .ok (.iconst 0, 1) := by decide +kernel
theorem dX6_quarrel_31 : decode cX6_quarrel 31 = .ok (.invokevirtual 185, 3) := by decide +kernel
theorem dX6_quarrel_34 : decode cX6_quarrel 34 = .ok (.ifCond .eq 10, 3) := by decide +kernel
theorem dX6_quarrel_37 : decode cX6_quarrel 37 = .ok (.aload_n 0, 1) := by decide +kernel
theorem dX6_quarrel_38 : decode cX6_quarrel 38 = .ok (.bipush 6, 2) := by decide +kernel
theorem dX6_quarrel_40 : decode cX6_quarrel 40 = .ok (.invokevirtual 115, 3) := by decide +kernel
theorem dX6_quarrel_43 : decode cX6_quarrel 43 = .ok (.ireturn, 1) := by decide +kernel
theorem dX6_quarrel_44 : decode cX6_quarrel 44 = .ok (.aload_n 0, 1) := by decide +kernel
theorem dX6_quarrel_45 : decode cX6_quarrel 45 = .ok (.getfield 146, 3) := by decide +kernel
theorem dX6_quarrel_48 : decode cX6_quarrel 48 = .ok (.istore_n 2, 1) := by decide +kernel
theorem dX6_quarrel_49 : decode cX6_quarrel 49 = .ok (.aload_n 0, 1) := by decide +kernel
theorem dX6_quarrel_50 : decode cX6_quarrel 50 = .ok (.aload_n 0, 1) := by decide +kernel
theorem dX6_quarrel_51 : decode cX6_quarrel 51 = .ok (.getfield 168, 3) := by decide +kernel
theorem dX6_quarrel_54 : decode cX6_quarrel 54 = .ok (.putfield 146, 3) := by decide +kernel
theorem dX6_quarrel_57 : decode cX6_quarrel 57 = .ok (.iconst 0, 1) := by decide +kernel
theorem dX6_quarrel_58 : decode cX6_quarrel 58 = .ok (.istore_n 3, 1) := by decide +kernel
theorem dX6_quarrel_59 : decode cX6_quarrel 59 = .ok (.iload_n 3, 1) := by decide +kernel
theorem dX6_quarrel_60 : decode cX6_quarrel 60 = .ok (.bipush 53, 2) := by decide +kernel
theorem dX6_quarrel_62 : decode cX6_quarrel 62 = .ok (.if_icmp .ge 69, 3) := by decide +kernel
theorem dX6_quarrel_65 : decode cX6_quarrel 65 = .ok (.aload_n 0, 1) := by decide +kernel
theorem dX6_quarrel_66 : decode cX6_quarrel 66 = .ok (.iload_n 3, 1) := by decide +kernel
theorem dX6_quarrel_67 : decode cX6_quarrel 67 = .ok (.invokevirtual 185, 3) := by decide +kernel
theorem dX6_quarrel_70 : decode cX6_quarrel 70 = .ok (.pop, 1) := by decide +kernel
theorem dX6_quarrel_71 : decode cX6_quarrel 71 = .ok (.iconst 0, 1) := by decide +kernel
theorem dX6_quarrel_72 : decode cX6_quarrel 72 = .ok (.istore 4, 2) := by decide +kernel
theorem dX6_quarrel_74 : decode cX6_quarrel 74 = .ok (.iload 4, 2) := by decide +kernel
theorem dX6_quarrel_76 : decode cX6_quarrel 76 = .ok (.bipush 53, 2) := by decide +kernel
theorem dX6_quarrel_78 : decode cX6_quarrel 78 = .ok (.if_icmp .ge 47, 3) := by decide +kernel
theorem dX6_quarrel_81 : decode cX6_quarrel 81 = .ok (.aload_n 0, 1) := by decide +kernel
theorem dX6_quarrel_82 : decode cX6_quarrel 82 = .ok (.getfield 41, 3) := by decide +kernel
theorem dX6_quarrel_85 : decode cX6_quarrel 85 = .ok (.bipush 53, 2) := by decide +kernel
theorem dX6_quarrel_87 : decode cX6_quarrel 87 = .ok (.iload_n 3, 1) := by decide +kernel
theorem dX6_quarrel_88 : decode cX6_quarrel 88 = .ok (.imul, 1) := by decide +kernel
theorem dX6_quarrel_89 : decode cX6_quarrel 89 = .ok (.iload 4, 2) := by decide +kernel
theorem dX6_quarrel_91 : decode cX6_quarrel 91 = .ok (.iadd, 1) := by decide +kernel
theorem dX6_quarrel_92 : decode cX6_quarrel 92 = .ok (.aload_n 0, 1) := by decide +kernel
theorem dX6_quarrel_93 : decode cX6_quarrel 93 = .ok (.getfield 38, 3) := by decide +kernel
theorem dX6_quarrel_96 : decode cX6_quarrel 96 = .ok (.iload 4, 2) := by decide +kernel
theorem dX6_quarrel_98 : decode cX6_quarrel 98 = .ok (.laload, 1) := by decide +kernel
theorem dX6_quarrel_99 : decode cX6_quarrel 99 = .ok (.lastore, 1) := by decide +kernel
theorem dX6_quarrel_100 : decode cX6_quarrel 100 = .ok (.aload_n 0, 1) := by decide +kernel
theorem dX6_quarrel_101 : decode cX6_quarrel 101 = .ok (.getfield 44, 3) := by decide +kernel
theorem dX6_quarrel_104 : decode cX6_quarrel 104 = .ok (.bipush 53, 2) := by decide +kernel
theorem dX6_quarrel_106 : decode cX6_quarrel 106 = .ok (.iload_n 3, 1) := by decide +kernel
theorem dX6_quarrel_107 : decode cX6_quarrel 107 = .ok (.imul, 1) := by decide +kernel
theorem dX6_quarrel_108 : decode cX6_quarrel 108 = .ok (.iload 4, 2) := by decide +kernel
theorem dX6_quarrel_110 : decode cX6_quarrel 110 = .ok (.iadd, 1) := by decide +kernel
theorem dX6_quarrel_111 : decode cX6_quarrel 111 = .ok (.aload_n 0, 1) := by decide +kernel
theorem dX6_quarrel_112 : decode cX6_quarrel 112 = .ok (.getfield 38, 3) := by decide +kernel
theorem dX6_quarrel_115 : decode cX6_quarrel 115 = .ok (.iload 4, 2) := by decide +kernel
theorem dX6_quarrel_117 : decode cX6_quarrel 117 = .ok (.laload, 1) := by decide +kernel
theorem dX6_quarrel_118 : decode cX6_quarrel 118 = .ok (.lastore, 1) := by decide +kernel
theorem dX6_quarrel_119 : decode cX6_quarrel 119 = .ok (.iinc 4 1, 3) := by decide +kernel
theorem dX6_quarrel_122 : decode cX6_quarrel 122 = .ok (.goto (-48), 3) := by decide +kernel
theorem dX6_quarrel_125 : decode cX6_quarrel 125 = .ok (.iinc 3 1, 3) := by decide +kernel
theorem dX6_quarrel_128 : decode cX6_quarrel 128 = .ok (.goto (-69), 3) := by decide +kernel
theorem dX6_quarrel_131 : decode cX6_quarrel 131 = .ok (.aload_n 0, 1) := by decide +kernel
theorem dX6_quarrel_132 : decode cX6_quarrel 132 = .ok (.iload_n 2, 1) := by decide +kernel
theorem dX6_quarrel_133 : decode cX6_quarrel 133 = .ok (.putfield 146, 3) := by decide +kernel
theorem dX6_quarrel_136 : decode cX6_quarrel 136 = .ok (.iconst 1, 1) := by decide +kernel
theorem dX6_quarrel_137 : decode cX6_quarrel 137 = .ok (.istore_n 3, 1) := by decide +kernel
theorem dX6_quarrel_138 : decode cX6_quarrel 138 = .ok (.iload_n 3, 1) := by decide +kernel
theorem dX6_quarrel_139 : decode cX6_quarrel 139 = .ok (.bipush 54, 2) := by decide +kernel
theorem dX6_quarrel_141 : decode cX6_quarrel 141 = .ok (.if_icmp .gt 71, 3) := by decide +kernel
theorem dX6_quarrel_144 : decode cX6_quarrel 144 = .ok (.iconst 0, 1) := by decide +kernel
theorem dX6_quarrel_145 : decode cX6_quarrel 145 = .ok (.istore 4, 2) := by decide +kernel
theorem dX6_quarrel_147 : decode cX6_quarrel 147 = .ok (.iconst 0, 1) := by decide +kernel
theorem dX6_quarrel_148 : decode cX6_quarrel 148 = .ok (.istore 5, 2) := by decide +kernel
theorem dX6_quarrel_150 : decode cX6_quarrel 150 = .ok (.iload 5, 2) := by decide +kernel
theorem dX6_quarrel_152 : decode cX6_quarrel 152 = .ok (.bipush 53, 2) := by decide +kernel
theorem dX6_quarrel_154 : decode cX6_quarrel 154 = .ok (.if_icmp .ge 45, 3) := by decide +kernel
theorem dX6_quarrel_157 : decode cX6_quarrel 157 = .ok (.iload 4, 2) := by decide +kernel
theorem dX6_quarrel_159 : decode cX6_quarrel 159 = .ok (.ifCond .ne 40, 3) := by decide +kernel
theorem dX6_quarrel_162 : decode cX6_quarrel 162 = .ok (.aload_n 0, 1) := by decide +kernel
theorem dX6_quarrel_163 : decode cX6_quarrel 163 = .ok (.iload 5, 2) := by decide +kernel
theorem dX6_quarrel_165 : decode cX6_quarrel 165 = .ok (.invokevirtual 192, 3) := by decide +kernel
theorem dX6_quarrel_168 : decode cX6_quarrel 168 = .ok (.aload_n 0, 1) := by decide +kernel
theorem dX6_quarrel_169 : decode cX6_quarrel 169 = .ok (.getfield 44, 3) := by decide +kernel
theorem dX6_quarrel_172 : decode cX6_quarrel 172 = .ok (.bipush 53, 2) := by decide +kernel
theorem dX6_quarrel_174 : decode cX6_quarrel 174 = .ok (.iload 5, 2) := by decide +kernel
theorem dX6_quarrel_176 : decode cX6_quarrel 176 = .ok (.imul, 1) := by decide +kernel
theorem dX6_quarrel_177 : decode cX6_quarrel 177 = .ok (.iload 5, 2) := by decide +kernel
theorem dX6_quarrel_179 : decode cX6_quarrel 179 = .ok (.iadd, 1) := by decide +kernel
theorem dX6_quarrel_180 : decode cX6_quarrel 180 = .ok (.laload, 1) := by decide +kernel
theorem dX6_quarrel_181 : decode cX6_quarrel 181 = .ok (.lconst 0, 1) := by decide +kernel
theorem dX6_quarrel_182 : decode cX6_quarrel 182 = .ok (.lcmp, 1) := by decide +kernel
theorem dX6_quarrel_183 : decode cX6_quarrel 183 = .ok (.ifCond .le 7, 3) := by decide +kernel
theorem dX6_quarrel_186 : decode cX6_quarrel 186 = .ok (.iconst 1, 1) := by decide +kernel
theorem dX6_quarrel_187 : decode cX6_quarrel 187 = .ok (.goto 4, 3) := by decide +kernel
theorem dX6_quarrel_190 : decode cX6_quarrel 190 = .ok (.iconst 0, 1) := by decide +kernel
theorem dX6_quarrel_191 : decode cX6_quarrel 191 = .ok (.istore 4, 2) := by decide +kernel
theorem dX6_quarrel_193 : decode cX6_quarrel 193 = .ok (.iinc 5 1, 3) := by decide +kernel
theorem dX6_quarrel_196 : decode cX6_quarrel 196 = .ok (.goto (-46), 3) := by decide +kernel
theorem dX6_quarrel_199 : decode cX6_quarrel 199 = .ok (.iload 4, 2) := by decide +kernel
theorem dX6_quarrel_201 : decode cX6_quarrel 201 = .ok (.ifCond .eq 5, 3) := by decide +kernel
theorem dX6_quarrel_204 : decode cX6_quarrel 204 = .ok (.iload_n 3, 1) := by decide +kernel
theorem dX6_quarrel_205 : decode cX6_quarrel 205 = .ok (.ireturn, 1) := by decide +kernel
theorem dX6_quarrel_206 : decode cX6_quarrel 206 = .ok (.iinc 3 1, 3) := by decide +kernel
theorem dX6_quarrel_209 : decode cX6_quarrel 209 = .ok (.goto (-71), 3) := by decide +kernel
theorem dX6_quarrel_212 : decode cX6_quarrel 212 = .ok (.aload_n 0, 1) := by decide +kernel
theorem dX6_quarrel_213 : decode cX6_quarrel 213 = .ok (.bipush 6, 2) := by decide +kernel
theorem dX6_quarrel_215 : decode cX6_quarrel 215 = .ok (.invokevirtual 115, 3) := by decide +kernel
theorem dX6_quarrel_218 : decode cX6_quarrel 218 = .ok (.ireturn, 1) := by decide +kernel
theorem dX6_longer_0 : decode cX6_longer 0 = .ok (.iconst 0, 1) := by decide +kernel
theorem dX6_longer_1 : decode cX6_longer 1 = .ok (.istore_n 2, 1) := by decide +kernel
theorem dX6_longer_2 : decode cX6_longer 2 = .ok (.iload_n 2, 1) := by decide +kernel
theorem dX6_longer_3 : decode cX6_longer 3 = .ok (.bipush 53, 2) := by decide +kernel
theorem dX6_longer_5 : decode cX6_longer 5 = .ok (.if_icmp .ge 18, 3) := by decide +kernel
theorem dX6_longer_8 : decode cX6_longer 8 = .ok (.aload_n 0, 1) := by decide +kernel
theorem dX6_longer_9 : decode cX6_longer 9 = .ok (.getfield 38, 3) := by decide +kernel
theorem dX6_longer_12 : decode cX6_longer 12 = .ok (.iload_n 2, 1) := by decide +kernel
theorem dX6_longer_13 : decode cX6_longer 13 = .ok (.ldc2_w 179, 3) := by decide +kernel
theorem dX6_longer_16 : decode cX6_longer 16 = .ok (.lastore, 1) := by decide +kernel
theorem dX6_longer_17 : decode cX6_longer 17 = .ok (.iinc 2 1, 3) := by decide +kernel
theorem dX6_longer_20 : decode cX6_longer 20 = .ok (.goto (-18), 3) := by decide +kernel
theorem dX6_longer_23 : decode cX6_longer 23 = .ok (.aload_n 0, 1) := by decide +kernel
theorem dX6_longer_24 : decode cX6_longer 24 = .ok (.getfield 168, 3) := by decide +kernel
theorem dX6_longer_27 : decode cX6_longer 27 = .ok (.istore_n 2, 1) := by decide +kernel
theorem dX6_longer_28 : decode cX6_longer 28 = .ok (.iload_n 2, 1) := by decide +kernel
theorem dX6_longer_29 : decode cX6_longer 29 = .ok (.aload_n 0, 1) := by decide +kernel
theorem dX6_longer_30 : decode cX6_longer 30 = .ok (.getfield 146, 3) := by decide +kernel
theorem dX6_longer_33 : decode cX6_longer 33 = .ok (.if_icmp .ge 122, 3) := by decide +kernel
theorem dX6_longer_36 : decode cX6_longer 36 = .ok (.aload_n 0, 1) := by decide +kernel
theorem dX6_longer_37 : decode cX6_longer 37 = .ok (.getfield 44, 3) := by decide +kernel
theorem dX6_longer_40 : decode cX6_longer 40 = .ok (.bipush 53, 2) := by decide +kernel
theorem dX6_longer_42 : decode cX6_longer 42 = .ok (.iload_n 1, 1) := by decide +kernel
theorem dX6_longer_43 : decode cX6_longer 43 = .ok (.imul, 1) := by decide +kernel
theorem dX6_longer_44 : decode cX6_longer 44 = .ok (.aload_n 0, 1) := by decide +kernel
theorem dX6_longer_45 : decode cX6_longer 45 = .ok (.getfield 28, 3) := by decide +kernel
theorem dX6_longer_48 : decode cX6_longer 48 = .ok (.iload_n 2, 1) := by decide +kernel
theorem dX6_longer_49 : decode cX6_longer 49 = .ok (.iaload, 1) := by decide +kernel
theorem dX6_longer_50 : decode cX6_longer 50 = .ok (.iadd, 1) := by decide +kernel
theorem dX6_longer_51 : decode cX6_longer 51 = .ok (.laload, 1) := by decide +kernel
theorem dX6_longer_52 : decode cX6_longer 52 = .ok (.lstore_n 3, 1) := by decide +kernel
theorem dX6_longer_53 : decode cX6_longer 53 = .ok (.lload_n 3, 1) := by decide +kernel
theorem dX6_longer_54 : decode cX6_longer 54 = .ok (.ldc2_w 179, 3) := by decide +kernel
theorem dX6_longer_57 : decode cX6_longer 57 = .ok (.lcmp, 1) := by decide +kernel
theorem dX6_longer_58 : decode cX6_longer 58 = .ok (.ifCond .ne 6, 3) := by decide +kernel
theorem dX6_longer_61 : decode cX6_longer 61 = .ok (.goto 88, 3) := by decide +kernel
theorem dX6_longer_64 : decode cX6_longer 64 = .ok (.lload_n 3, 1) := by decide +kernel
theorem dX6_longer_65 : decode cX6_longer 65 = .ok (.aload_n 0, 1) := by decide +kernel
theorem dX6_longer_66 : decode cX6_longer 66 = .ok (.getfield 34, 3) := by decide +kernel
theorem dX6_longer_69 : decode cX6_longer 69 = .ok (.iload_n 2, 1) := by decide +kernel
theorem dX6_longer_70 : decode cX6_longer 70 = .ok (.laload, 1) := by decide +kernel
theorem dX6_longer_71 : decode cX6_longer 71 = .ok (.ladd, 1) := by decide +kernel
theorem dX6_longer_72 : decode cX6_longer 72 = .ok (.lstore_n 3, 1) := by decide +kernel
theorem dX6_longer_73 : decode cX6_longer 73 = .ok (.iconst 0, 1) := by decide +kernel
theorem dX6_longer_74 : decode cX6_longer 74 = .ok (.istore 5, 2) := by decide +kernel
theorem dX6_longer_76 : decode cX6_longer 76 = .ok (.iload 5, 2) := by decide +kernel
theorem dX6_longer_78 : decode cX6_longer 78 = .ok (.bipush 53, 2) := by decide +kernel
theorem dX6_longer_80 : decode cX6_longer 80 = .ok (.if_icmp .ge 69, 3) := by decide +kernel
theorem dX6_longer_83 : decode cX6_longer 83 = .ok (.aload_n 0, 1) := by decide +kernel
theorem dX6_longer_84 : decode cX6_longer 84 = .ok (.getfield 41, 3) := by decide +kernel
theorem dX6_longer_87 : decode cX6_longer 87 = .ok (.bipush 53, 2) := by decide +kernel
theorem dX6_longer_89 : decode cX6_longer 89 = .ok (.aload_n 0, 1) := by decide +kernel
theorem dX6_longer_90 : decode cX6_longer 90 = .ok (.getfield 31, 3) := by decide +kernel
theorem dX6_longer_93 : decode cX6_longer 93 = .ok (.iload_n 2, 1) := by decide +kernel
theorem dX6_longer_94 : decode cX6_longer 94 = .ok (.iaload, 1) := by decide +kernel
theorem dX6_longer_95 : decode cX6_longer 95 = .ok (.imul, 1) := by decide +kernel
theorem dX6_longer_96 : decode cX6_longer 96 = .ok (.iload 5, 2) := by decide +kernel
theorem dX6_longer_98 : decode cX6_longer 98 = .ok (.iadd, 1) := by decide +kernel
theorem dX6_longer_99 : decode cX6_longer 99 = .ok (.laload, 1) := by decide +kernel
theorem dX6_longer_100 : decode cX6_longer 100 = .ok (.ldc2_w 179, 3) := by decide +kernel
theorem dX6_longer_103 : decode cX6_longer 103 = .ok (.lcmp, 1) := by decide +kernel
theorem dX6_longer_104 : decode cX6_longer 104 = .ok (.ifCond .eq 39, 3) := by decide +kernel
theorem dX6_longer_107 : decode cX6_longer 107 = .ok (.aload_n 0, 1) := by decide +kernel
theorem dX6_longer_108 : decode cX6_longer 108 = .ok (.getfield 38, 3) := by decide +kernel
theorem dX6_longer_111 : decode cX6_longer 111 = .ok (.iload 5, 2) := by decide +kernel
theorem dX6_longer_113 : decode cX6_longer 113 = .ok (.aload_n 0, 1) := by decide +kernel
theorem dX6_longer_114 : decode cX6_longer 114 = .ok (.getfield 38, 3) := by decide +kernel
theorem dX6_longer_117 : decode cX6_longer 117 = .ok (.iload 5, 2) := by decide +kernel
theorem dX6_longer_119 : decode cX6_longer 119 = .ok (.laload, 1) := by decide +kernel
theorem dX6_longer_120 : decode cX6_longer 120 = .ok (.lload_n 3, 1) := by decide +kernel
theorem dX6_longer_121 : decode cX6_longer 121 = .ok (.aload_n 0, 1) := by decide +kernel
theorem dX6_longer_122 : decode cX6_longer 122 = .ok (.getfield 41, 3) := by decide +kernel
theorem dX6_longer_125 : decode cX6_longer 125 = .ok (.bipush 53, 2) := by decide +kernel
theorem dX6_longer_127 : decode cX6_longer 127 = .ok (.aload_n 0, 1) := by decide +kernel
theorem dX6_longer_128 : decode cX6_longer 128 = .ok (.getfield 31, 3) := by decide +kernel
theorem dX6_longer_131 : decode cX6_longer 131 = .ok (.iload_n 2, 1) := by decide +kernel
theorem dX6_longer_132 : decode cX6_longer 132 = .ok (.iaload, 1) := by decide +kernel
theorem dX6_longer_133 : decode cX6_longer 133 = .ok (.imul, 1) := by decide +kernel
theorem dX6_longer_134 : decode cX6_longer 134 = .ok (.iload 5, 2) := by decide +kernel
theorem dX6_longer_136 : decode cX6_longer 136 = .ok (.iadd, 1) := by decide +kernel
theorem dX6_longer_137 : decode cX6_longer 137 = .ok (.laload, 1) := by decide +kernel
theorem dX6_longer_138 : decode cX6_longer 138 = .ok (.ladd, 1) := by decide +kernel
theorem dX6_longer_139 : decode cX6_longer 139 = .ok (.invokestatic 195, 3) := by decide +kernel
theorem dX6_longer_142 : decode cX6_longer 142 = .ok (.lastore, 1) := by decide +kernel
theorem dX6_longer_143 : decode cX6_longer 143 = .ok (.iinc 5 1, 3) := by decide +kernel
theorem dX6_longer_146 : decode cX6_longer 146 = .ok (.goto (-70), 3) := by decide +kernel
theorem dX6_longer_149 : decode cX6_longer 149 = .ok (.iinc 2 1, 3) := by decide +kernel
theorem dX6_longer_152 : decode cX6_longer 152 = .ok (.goto (-124), 3) := by decide +kernel
theorem dX6_longer_155 : decode cX6_longer 155 = .ok (.iconst 0, 1) := by decide +kernel
theorem dX6_longer_156 : decode cX6_longer 156 = .ok (.istore_n 2, 1) := by decide +kernel
theorem dX6_longer_157 : decode cX6_longer 157 = .ok (.iload_n 2, 1) := by decide +kernel
theorem dX6_longer_158 : decode cX6_longer 158 = .ok (.bipush 53, 2) := by decide +kernel
theorem dX6_longer_160 : decode cX6_longer 160 = .ok (.if_icmp .ge 40, 3) := by decide +kernel
theorem dX6_longer_163 : decode cX6_longer 163 = .ok (.aload_n 0, 1) := by decide +kernel
theorem dX6_longer_164 : decode cX6_longer 164 = .ok (.getfield 44, 3) := by decide +kernel
theorem dX6_longer_167 : decode cX6_longer 167 = .ok (.bipush 53, 2) := by decide +kernel
theorem dX6_longer_169 : decode cX6_longer 169 = .ok (.iload_n 1, 1) := by decide +kernel
theorem dX6_longer_170 : decode cX6_longer 170 = .ok (.imul, 1) := by decide +kernel
theorem dX6_longer_171 : decode cX6_longer 171 = .ok (.iload_n 2, 1) := by decide +kernel
theorem dX6_longer_172 : decode cX6_longer 172 = .ok (.iadd, 1) := by decide +kernel
theorem dX6_longer_173 : decode cX6_longer 173 = .ok (.aload_n 0, 1) := by decide +kernel
theorem dX6_longer_174 : decode cX6_longer 174 = .ok (.getfield 44, 3) := by decide +kernel
theorem dX6_longer_177 : decode cX6_longer 177 = .ok (.bipush 53, 2) := by decide +kernel
theorem dX6_longer_179 : decode cX6_longer 179 = .ok (.iload_n 1, 1) := by decide +kernel
theorem dX6_longer_180 : decode cX6_longer 180 = .ok (.imul, 1) := by decide +kernel
theorem dX6_longer_181 : decode cX6_longer 181 = .ok (.iload_n 2, 1) := by decide +kernel
theorem dX6_longer_182 : decode cX6_longer 182 = .ok (.iadd, 1) := by decide +kernel
theorem dX6_longer_183 : decode cX6_longer 183 = .ok (.laload, 1) := by decide +kernel
theorem dX6_longer_184 : decode cX6_longer 184 = .ok (.aload_n 0, 1) := by decide +kernel
theorem dX6_longer_185 : decode cX6_longer 185 = .ok (.getfield 38, 3) := by decide +kernel
theorem dX6_longer_188 : decode cX6_longer 188 = .ok (.iload_n 2, 1) := by decide +kernel
theorem dX6_longer_189 : decode cX6_longer 189 = .ok (.laload, 1) := by decide +kernel
theorem dX6_longer_190 : decode cX6_longer 190 = .ok (.invokestatic 195, 3) := by decide +kernel
theorem dX6_longer_193 : decode cX6_longer 193 = .ok (.lastore, 1) := by decide +kernel
theorem dX6_longer_194 : decode cX6_longer 194 = .ok (.iinc 2 1, 3) := by decide +kernel
theorem dX6_longer_197 : decode cX6_longer 197 = .ok (.goto (-40), 3) := by decide +kernel
theorem dX6_longer_200 : decode cX6_longer 200 = .ok (.return_, 1) := by decide +kernel
set_option maxRecDepth 20000 in
theorem ggX6_frees_X6_isFact : GoodIn wsX6_frees wsX6_isFact := goodIn_r _ [7, 8, 65, 66, 67, 68, 69, 70, 71, 72, 73, 74, 75, 76, 77, 78, 79, 80, 81, 82, 83, 84, 85, 86, 87, 88, 89, 90, 91, 92, 93, 94, 95, 96, 97, 98, 99, 100, 101, 102, 103, 104, 105] (by decide +kernel) (by decide +kernel)
set_option maxRecDepth 20000 in
theorem gX6_frees_X6_isFact : GoodIn wsX6_frees (wsV RX6 140 RX6 yX6_isFact wsX6_isFact) := goodIn_app (goodIn_of _ (by decide +kernel)) ggX6_frees_X6_isFact
set_option maxRecDepth 20000 in
theorem ggX6_frees_X6_refuse : GoodIn wsX6_frees wsX6_refuse := goodIn_r _ [12, 2, 65, 66, 67, 68, 69, 70, 71, 72, 73, 74, 75, 76, 77, 78, 79, 80, 81, 82, 83, 84, 85, 86, 87, 88, 89, 90, 91, 92, 93, 94, 95, 96, 97, 98, 99, 100, 101, 102, 103, 104, 105] (by decide +kernel) (by decide +kernel)
set_option maxRecDepth 20000 in
theorem gX6_frees_X6_refuse : GoodIn wsX6_frees (wsV RX6 115 RX6 yX6_refuse wsX6_refuse) := goodIn_app (goodIn_of _ (by decide +kernel)) ggX6_frees_X6_refuse
set_option maxRecDepth 20000 in
theorem ggX6_frees_X6_isDay : GoodIn wsX6_frees wsX6_isDay := goodIn_r _ [15] (by decide +kernel) (by decide +kernel)
set_option maxRecDepth 20000 in
theorem gX6_frees_X6_isDay : GoodIn wsX6_frees (va_wsS RX6 129 yX6_isDay wsX6_isDay) := goodIn_app (goodIn_of _ (by decide +kernel)) ggX6_frees_X6_isDay
set_option maxRecDepth 20000 in
theorem ggX6_frees_X6_net : GoodIn wsX6_frees wsX6_net := goodIn_r _ [19, 20, 21, 22, 23, 8, 24, 25, 26, 27, 28, 29, 6, 30, 31, 32, 33, 34, 35, 36, 37, 38, 39, 40, 41, 42, 43, 44, 45, 46, 47, 48, 49, 50, 51, 52, 53, 54, 55, 56, 57, 58, 65, 66, 67, 68, 69, 70, 71, 72, 73, 74, 75, 76, 77, 78, 79, 80, 81, 82, 83, 84, 85, 86, 87, 88, 89, 90, 91, 92, 93, 94, 95, 96, 97, 98, 99, 100, 101, 102, 103, 104, 105] (by decide +kernel) (by decide +kernel)
set_option maxRecDepth 20000 in
theorem gX6_frees_X6_net : GoodIn wsX6_frees (wsV RX6 181 RX6 yX6_net wsX6_net) := goodIn_app (goodIn_of _ (by decide +kernel)) ggX6_frees_X6_net
set_option maxRecDepth 20000 in
theorem ggX6_frees_X6_goes : GoodIn wsX6_frees wsX6_goes := goodIn_r _ [62, 63, 64, 20, 40, 42, 41, 65, 66, 67, 68, 69, 70, 71, 72, 73, 74, 75, 76, 77, 78, 79, 80, 81, 82, 83, 84, 85, 86, 87, 88, 89, 90, 91, 92, 93, 94, 95, 96, 97, 98, 99, 100, 101, 102, 103, 104, 105] (by decide +kernel) (by decide +kernel)
set_option maxRecDepth 20000 in
theorem gX6_frees_X6_goes : GoodIn wsX6_frees (wsV RX6 185 RX6 yX6_goes wsX6_goes) := goodIn_app (goodIn_of _ (by decide +kernel)) ggX6_frees_X6_goes
set_option maxRecDepth 20000 in
theorem ggX6_frees_X6_isKnown : GoodIn wsX6_frees wsX6_isKnown := goodIn_r _ [52, 53, 54, 65, 66, 67, 68, 69, 70, 71, 72, 73, 74, 75, 76, 77, 78, 79, 80, 81, 82, 83, 84, 85, 86, 87, 88, 89, 90, 91, 92, 93, 94, 95, 96, 97, 98, 99, 100, 101, 102, 103, 104, 105] (by decide +kernel) (by decide +kernel)
set_option maxRecDepth 20000 in
theorem gX6_frees_X6_isKnown : GoodIn wsX6_frees (wsV RX6 171 RX6 yX6_isKnown wsX6_isKnown) := goodIn_app (goodIn_of _ (by decide +kernel)) ggX6_frees_X6_isKnown
theorem dX6_frees_0 : decode cX6_frees 0 = .ok (.aload_n 0, 1) := by decide +kernel
theorem dX6_frees_1 : decode cX6_frees 1 = .ok (.iconst 0, 1) := by decide +kernel
theorem dX6_frees_2 : decode cX6_frees 2 = .ok (.putfield 101, 3) := by decide +kernel
theorem dX6_frees_5 : decode cX6_frees 5 = .ok (.aload_n 0, 1) := by decide +kernel
theorem dX6_frees_6 : decode cX6_frees 6 = .ok (.iconst 0, 1) := by decide +kernel
theorem dX6_frees_7 : decode cX6_frees 7 = .ok (.putfield 105, 3) := by decide +kernel
theorem dX6_frees_10 : decode cX6_frees 10 = .ok (.aload_n 0, 1) := by decide +kernel
theorem dX6_frees_11 : decode cX6_frees 11 = .ok (.iload_n 1, 1) := by decide +kernel
theorem dX6_frees_12 : decode cX6_frees 12 = .ok (.invokevirtual 140, 3) := by decide +kernel
theorem dX6_frees_15 : decode cX6_frees 15 = .ok (.ifCond .ne 9, 3) := by decide +kernel
theorem dX6_frees_18 : decode cX6_frees 18 = .ok (.aload_n 0, 1) := by decide +kernel
theorem dX6_frees_19 : decode cX6_frees 19 = .ok (.iconst 1, 1) := by decide +kernel
theorem dX6_frees_20 : decode cX6_frees 20 = .ok (.invokevirtual 115, 3) := by decide +kernel
theorem dX6_frees_23 : decode cX6_frees 23 = .ok (.ireturn, 1) := by decide +kernel
theorem dX6_frees_24 : decode cX6_frees 24 = .ok (.iload_n 2, 1) := by decide +kernel
theorem dX6_frees_25 : decode cX6_frees 25 = .ok (.invokestatic 129, 3) := by decide +kernel
theorem dX6_frees_28 : decode cX6_frees 28 = .ok (.ifCond .ne 9, 3) := by decide +kernel
theorem dX6_frees_31 : decode cX6_frees 31 = .ok (.aload_n 0, 1) := by decide +kernel
theorem dX6_frees_32 : decode cX6_frees 32 = .ok (.iconst 2, 1) := by decide +kernel
theorem dX6_frees_33 : decode cX6_frees 33 = .ok (.invokevirtual 115, 3) := by decide +kernel
theorem dX6_frees_36 : decode cX6_frees 36 = .ok (.ireturn, 1) := by decide +kernel
theorem dX6_frees_37 : decode cX6_frees 37 = .ok (.aload_n 0, 1) := by decide +kernel
theorem dX6_frees_38 : decode cX6_frees 38 = .ok (.iload_n 2, 1) := by decide +kernel
theorem dX6_frees_39 : decode cX6_frees 39 = .ok (.iconst (-1), 1) := by decide +kernel
theorem dX6_frees_40 : decode cX6_frees 40 = .ok (.invokevirtual 181, 3) := by decide +kernel
theorem dX6_frees_43 : decode cX6_frees 43 = .ok (.aload_n 0, 1) := by decide +kernel
theorem dX6_frees_44 : decode cX6_frees 44 = .ok (.iconst 0, 1) := by decide +kernel
theorem dX6_frees_45 : decode cX6_frees 45 = .ok (.invokevirtual 185, 3) := by decide +kernel
theorem dX6_frees_48 : decode cX6_frees 48 = .ok (.ifCond .eq 10, 3) := by decide +kernel
theorem dX6_frees_51 : decode cX6_frees 51 = .ok (.aload_n 0, 1) := by decide +kernel
theorem dX6_frees_52 : decode cX6_frees 52 = .ok (.bipush 6, 2) := by decide +kernel
theorem dX6_frees_54 : decode cX6_frees 54 = .ok (.invokevirtual 115, 3) := by decide +kernel
theorem dX6_frees_57 : decode cX6_frees 57 = .ok (.ireturn, 1) := by decide +kernel
theorem dX6_frees_58 : decode cX6_frees 58 = .ok (.aload_n 0, 1) := by decide +kernel
theorem dX6_frees_59 : decode cX6_frees 59 = .ok (.iload_n 1, 1) := by decide +kernel
theorem dX6_frees_60 : decode cX6_frees 60 = .ok (.iload_n 2, 1) := by decide +kernel
theorem dX6_frees_61 : decode cX6_frees 61 = .ok (.invokevirtual 171, 3) := by decide +kernel
theorem dX6_frees_64 : decode cX6_frees 64 = .ok (.ifCond .ne 10, 3) := by decide +kernel
theorem dX6_frees_67 : decode cX6_frees 67 = .ok (.aload_n 0, 1) := by decide +kernel
theorem dX6_frees_68 : decode cX6_frees 68 = .ok (.bipush 8, 2) := by decide +kernel
theorem dX6_frees_70 : decode cX6_frees 70 = .ok (.invokevirtual 115, 3) := by decide +kernel
theorem dX6_frees_73 : decode cX6_frees 73 = .ok (.ireturn, 1) := by decide +kernel
theorem dX6_frees_74 : decode cX6_frees 74 = .ok (.aload_n 0, 1) := by decide +kernel
theorem dX6_frees_75 : decode cX6_frees 75 = .ok (.iload_n 2, 1) := by decide +kernel
theorem dX6_frees_76 : decode cX6_frees 76 = .ok (.iload_n 1, 1) := by decide +kernel
theorem dX6_frees_77 : decode cX6_frees 77 = .ok (.invokevirtual 181, 3) := by decide +kernel
theorem dX6_frees_80 : decode cX6_frees 80 = .ok (.aload_n 0, 1) := by decide +kernel
theorem dX6_frees_81 : decode cX6_frees 81 = .ok (.iconst 0, 1) := by decide +kernel
theorem dX6_frees_82 : decode cX6_frees 82 = .ok (.invokevirtual 185, 3) := by decide +kernel
theorem dX6_frees_85 : decode cX6_frees 85 = .ok (.ifCond .eq 7, 3) := by decide +kernel
theorem dX6_frees_88 : decode cX6_frees 88 = .ok (.iconst 1, 1) := by decide +kernel
theorem dX6_frees_89 : decode cX6_frees 89 = .ok (.goto 4, 3) := by decide +kernel
theorem dX6_frees_92 : decode cX6_frees 92 = .ok (.iconst 0, 1) := by decide +kernel
theorem dX6_frees_93 : decode cX6_frees 93 = .ok (.ireturn, 1) := by decide +kernel
set_option maxRecDepth 20000 in
theorem ggX6_order_X6_isPlate : GoodIn wsX6_order wsX6_isPlate := goodIn_r _ [8, 9, 65, 66, 67, 68, 69, 70, 71, 72, 73, 74, 75, 76, 77, 78, 79, 80, 81, 82, 83, 84, 85, 86, 87, 88, 89, 90, 91, 92, 93, 94, 95, 96, 97, 98, 99, 100, 101, 102, 103, 104, 105] (by decide +kernel) (by decide +kernel)
set_option maxRecDepth 20000 in
theorem gX6_order_X6_isPlate : GoodIn wsX6_order (wsV RX6 122 RX6 yX6_isPlate wsX6_isPlate) := goodIn_app (goodIn_of _ (by decide +kernel)) ggX6_order_X6_isPlate
set_option maxRecDepth 20000 in
theorem ggX6_order_X6_refuse : GoodIn wsX6_order wsX6_refuse := goodIn_r _ [13, 2, 65, 66, 67, 68, 69, 70, 71, 72, 73, 74, 75, 76, 77, 78, 79, 80, 81, 82, 83, 84, 85, 86, 87, 88, 89, 90, 91, 92, 93, 94, 95, 96, 97, 98, 99, 100, 101, 102, 103, 104, 105] (by decide +kernel) (by decide +kernel)
set_option maxRecDepth 20000 in
theorem gX6_order_X6_refuse : GoodIn wsX6_order (wsV RX6 115 RX6 yX6_refuse wsX6_refuse) := goodIn_app (goodIn_of _ (by decide +kernel)) ggX6_order_X6_refuse
set_option maxRecDepth 20000 in
theorem ggX6_order_X6_isDay : GoodIn wsX6_order wsX6_isDay := goodIn_r _ [16] (by decide +kernel) (by decide +kernel)
set_option maxRecDepth 20000 in
theorem gX6_order_X6_isDay : GoodIn wsX6_order (va_wsS RX6 129 yX6_isDay wsX6_isDay) := goodIn_app (goodIn_of _ (by decide +kernel)) ggX6_order_X6_isDay
set_option maxRecDepth 20000 in
theorem ggX6_order_X6_net : GoodIn wsX6_order wsX6_net := goodIn_r _ [20, 21, 9, 22, 23, 24, 25, 26, 27, 28, 29, 30, 7, 31, 32, 33, 34, 35, 36, 37, 38, 39, 40, 41, 42, 43, 44, 45, 46, 47, 48, 49, 50, 51, 52, 53, 54, 55, 56, 57, 58, 59, 65, 66, 67, 68, 69, 70, 71, 72, 73, 74, 75, 76, 77, 78, 79, 80, 81, 82, 83, 84, 85, 86, 87, 88, 89, 90, 91, 92, 93, 94, 95, 96, 97, 98, 99, 100, 101, 102, 103, 104, 105] (by decide +kernel) (by decide +kernel)
set_option maxRecDepth 20000 in
theorem gX6_order_X6_net : GoodIn wsX6_order (wsV RX6 181 RX6 yX6_net wsX6_net) := goodIn_app (goodIn_of _ (by decide +kernel)) ggX6_order_X6_net
set_option maxRecDepth 20000 in
theorem ggX6_order_X6_goes : GoodIn wsX6_order wsX6_goes := goodIn_r _ [63, 3, 64, 21, 41, 43, 42, 65, 66, 67, 68, 69, 70, 71, 72, 73, 74, 75, 76, 77, 78, 79, 80, 81, 82, 83, 84, 85, 86, 87, 88, 89, 90, 91, 92, 93, 94, 95, 96, 97, 98, 99, 100, 101, 102, 103, 104, 105] (by decide +kernel) (by decide +kernel)
set_option maxRecDepth 20000 in
theorem gX6_order_X6_goes : GoodIn wsX6_order (wsV RX6 185 RX6 yX6_goes wsX6_goes) := goodIn_app (goodIn_of _ (by decide +kernel)) ggX6_order_X6_goes
set_option maxRecDepth 20000 in
theorem ggX6_order_X6_placeOf : GoodIn wsX6_order wsX6_placeOf := goodIn_r _ [31] (by decide +kernel) (by decide +kernel)
set_option maxRecDepth 20000 in
theorem gX6_order_X6_placeOf : GoodIn wsX6_order (va_wsS RX6 155 yX6_placeOf wsX6_placeOf) := goodIn_app (goodIn_of _ (by decide +kernel)) ggX6_order_X6_placeOf
theorem dX6_order_0 : decode cX6_order 0 = .ok (.aload_n 0, 1) := by decide +kernel
theorem dX6_order_1 : decode cX6_order 1 = .ok (.iconst 0, 1) := by decide +kernel
theorem dX6_order_2 : decode cX6_order 2 = .ok (.putfield 101, 3) := by decide +kernel
theorem dX6_order_5 : decode cX6_order 5 = .ok (.aload_n 0, 1) := by decide +kernel
theorem dX6_order_6 : decode cX6_order 6 = .ok (.iconst 0, 1) := by decide +kernel
theorem dX6_order_7 : decode cX6_order 7 = .ok (.putfield 105, 3) := by decide +kernel
theorem dX6_order_10 : decode cX6_order 10 = .ok (.aload_n 0, 1) := by decide +kernel
theorem dX6_order_11 : decode cX6_order 11 = .ok (.iload_n 1, 1) := by decide +kernel
theorem dX6_order_12 : decode cX6_order 12 = .ok (.invokevirtual 122, 3) := by decide +kernel
theorem dX6_order_15 : decode cX6_order 15 = .ok (.ifCond .eq 16, 3) := by decide +kernel
theorem dX6_order_18 : decode cX6_order 18 = .ok (.aload_n 0, 1) := by decide +kernel
theorem dX6_order_19 : decode cX6_order 19 = .ok (.iload_n 2, 1) := by decide +kernel
theorem dX6_order_20 : decode cX6_order 20 = .ok (.invokevirtual 122, 3) := by decide +kernel
theorem dX6_order_23 : decode cX6_order 23 = .ok (.ifCond .eq 8, 3) := by decide +kernel
theorem dX6_order_26 : decode cX6_order 26 = .ok (.iload_n 1, 1) := by decide +kernel
theorem dX6_order_27 : decode cX6_order 27 = .ok (.iload_n 2, 1) := by decide +kernel
theorem dX6_order_28 : decode cX6_order 28 = .ok (.if_icmp .ne 9, 3) := by decide +kernel
theorem dX6_order_31 : decode cX6_order 31 = .ok (.aload_n 0, 1) := by decide +kernel
theorem dX6_order_32 : decode cX6_order 32 = .ok (.iconst 1, 1) := by decide +kernel
theorem dX6_order_33 : decode cX6_order 33 = .ok (.invokevirtual 115, 3) := by decide +kernel
theorem dX6_order_36 : decode cX6_order 36 = .ok (.ireturn, 1) := by decide +kernel
theorem dX6_order_37 : decode cX6_order 37 = .ok (.iload_n 3, 1) := by decide +kernel
theorem dX6_order_38 : decode cX6_order 38 = .ok (.invokestatic 129, 3) := by decide +kernel
theorem dX6_order_41 : decode cX6_order 41 = .ok (.ifCond .ne 9, 3) := by decide +kernel
theorem dX6_order_44 : decode cX6_order 44 = .ok (.aload_n 0, 1) := by decide +kernel
theorem dX6_order_45 : decode cX6_order 45 = .ok (.iconst 2, 1) := by decide +kernel
theorem dX6_order_46 : decode cX6_order 46 = .ok (.invokevirtual 115, 3) := by decide +kernel
theorem dX6_order_49 : decode cX6_order 49 = .ok (.ireturn, 1) := by decide +kernel
theorem dX6_order_50 : decode cX6_order 50 = .ok (.aload_n 0, 1) := by decide +kernel
theorem dX6_order_51 : decode cX6_order 51 = .ok (.iload_n 3, 1) := by decide +kernel
theorem dX6_order_52 : decode cX6_order 52 = .ok (.iconst (-1), 1) := by decide +kernel
theorem dX6_order_53 : decode cX6_order 53 = .ok (.invokevirtual 181, 3) := by decide +kernel
theorem dX6_order_56 : decode cX6_order 56 = .ok (.aload_n 0, 1) := by decide +kernel
theorem dX6_order_57 : decode cX6_order 57 = .ok (.iconst 0, 1) := by decide +kernel
theorem dX6_order_58 : decode cX6_order 58 = .ok (.invokevirtual 185, 3) := by decide +kernel
theorem dX6_order_61 : decode cX6_order 61 = .ok (.ifCond .ne 9, 3) := by decide +kernel
theorem dX6_order_64 : decode cX6_order 64 = .ok (.aload_n 0, 1) := by decide +kernel
theorem dX6_order_65 : decode cX6_order 65 = .ok (.iconst 5, 1) := by decide +kernel
theorem dX6_order_66 : decode cX6_order 66 = .ok (.invokevirtual 115, 3) := by decide +kernel
theorem dX6_order_69 : decode cX6_order 69 = .ok (.ireturn, 1) := by decide +kernel
theorem dX6_order_70 : decode cX6_order 70 = .ok (.aload_n 0, 1) := by decide +kernel
theorem dX6_order_71 : decode cX6_order 71 = .ok (.iload_n 1, 1) := by decide +kernel
theorem dX6_order_72 : decode cX6_order 72 = .ok (.invokestatic 155, 3) := by decide +kernel
theorem dX6_order_75 : decode cX6_order 75 = .ok (.invokevirtual 185, 3) := by decide +kernel
theorem dX6_order_78 : decode cX6_order 78 = .ok (.pop, 1) := by decide +kernel
theorem dX6_order_79 : decode cX6_order 79 = .ok (.aload_n 0, 1) := by decide +kernel
theorem dX6_order_80 : decode cX6_order 80 = .ok (.getfield 38, 3) := by decide +kernel
theorem dX6_order_83 : decode cX6_order 83 = .ok (.iload_n 2, 1) := by decide +kernel
theorem dX6_order_84 : decode cX6_order 84 = .ok (.invokestatic 155, 3) := by decide +kernel
theorem dX6_order_87 : decode cX6_order 87 = .ok (.laload, 1) := by decide +kernel
theorem dX6_order_88 : decode cX6_order 88 = .ok (.lconst 1, 1) := by decide +kernel
theorem dX6_order_89 : decode cX6_order 89 = .ok (.lcmp, 1) := by decide +kernel
theorem dX6_order_90 : decode cX6_order 90 = .ok (.ifCond .lt 5, 3) := by decide +kernel
theorem dX6_order_93 : decode cX6_order 93 = .ok (.iconst 2, 1) := by decide +kernel
theorem dX6_order_94 : decode cX6_order 94 = .ok (.ireturn, 1) := by decide +kernel
theorem dX6_order_95 : decode cX6_order 95 = .ok (.aload_n 0, 1) := by decide +kernel
theorem dX6_order_96 : decode cX6_order 96 = .ok (.iload_n 2, 1) := by decide +kernel
theorem dX6_order_97 : decode cX6_order 97 = .ok (.invokestatic 155, 3) := by decide +kernel
theorem dX6_order_100 : decode cX6_order 100 = .ok (.invokevirtual 185, 3) := by decide +kernel
theorem dX6_order_103 : decode cX6_order 103 = .ok (.pop, 1) := by decide +kernel
theorem dX6_order_104 : decode cX6_order 104 = .ok (.aload_n 0, 1) := by decide +kernel
theorem dX6_order_105 : decode cX6_order 105 = .ok (.getfield 38, 3) := by decide +kernel
theorem dX6_order_108 : decode cX6_order 108 = .ok (.iload_n 1, 1) := by decide +kernel
theorem dX6_order_109 : decode cX6_order 109 = .ok (.invokestatic 155, 3) := by decide +kernel
theorem dX6_order_112 : decode cX6_order 112 = .ok (.laload, 1) := by decide +kernel
theorem dX6_order_113 : decode cX6_order 113 = .ok (.lneg, 1) := by decide +kernel
theorem dX6_order_114 : decode cX6_order 114 = .ok (.lconst 1, 1) := by decide +kernel
theorem dX6_order_115 : decode cX6_order 115 = .ok (.lcmp, 1) := by decide +kernel
theorem dX6_order_116 : decode cX6_order 116 = .ok (.ifCond .lt 7, 3) := by decide +kernel
theorem dX6_order_119 : decode cX6_order 119 = .ok (.iconst 1, 1) := by decide +kernel
theorem dX6_order_120 : decode cX6_order 120 = .ok (.goto 4, 3) := by decide +kernel
theorem dX6_order_123 : decode cX6_order 123 = .ok (.iconst 0, 1) := by decide +kernel
theorem dX6_order_124 : decode cX6_order 124 = .ok (.ireturn, 1) := by decide +kernel
set_option maxRecDepth 20000 in
theorem ggX6_edges_X6_isPlate : GoodIn wsX6_edges wsX6_isPlate := goodIn_r _ [9, 10, 15, 16, 17, 18, 19, 20, 21, 22, 23, 24, 25, 26, 27, 28, 29, 30, 31, 32, 33, 34, 35, 36, 37, 38, 39, 40, 41, 42, 43, 44, 45, 46, 47, 48, 49, 50, 51, 52, 53, 54, 55] (by decide +kernel) (by decide +kernel)
set_option maxRecDepth 20000 in
theorem gX6_edges_X6_isPlate : GoodIn wsX6_edges (wsV RX6 122 RX6 yX6_isPlate wsX6_isPlate) := goodIn_app (goodIn_of _ (by decide +kernel)) ggX6_edges_X6_isPlate
set_option maxRecDepth 20000 in
theorem ggX6_edges_X6_no : GoodIn wsX6_edges wsX6_no := goodIn_r _ [14, 2, 15, 16, 17, 18, 19, 20, 21, 22, 23, 24, 25, 26, 27, 28, 29, 30, 31, 32, 33, 34, 35, 36, 37, 38, 39, 40, 41, 42, 43, 44, 45, 46, 47, 48, 49, 50, 51, 52, 53, 54, 55] (by decide +kernel) (by decide +kernel)
set_option maxRecDepth 20000 in
theorem gX6_edges_X6_no : GoodIn wsX6_edges (wsV RX6 143 RX6 yX6_no wsX6_no) := goodIn_app (goodIn_of _ (by decide +kernel)) ggX6_edges_X6_no
theorem dX6_edges_0 : decode cX6_edges 0 = .ok (.aload_n 0, 1) := by decide +kernel
theorem dX6_edges_1 : decode cX6_edges 1 = .ok (.iconst 0, 1) := by decide +kernel
theorem dX6_edges_2 : decode cX6_edges 2 = .ok (.putfield 101, 3) := by decide +kernel
theorem dX6_edges_5 : decode cX6_edges 5 = .ok (.aload_n 0, 1) := by decide +kernel
theorem dX6_edges_6 : decode cX6_edges 6 = .ok (.iconst 0, 1) := by decide +kernel
theorem dX6_edges_7 : decode cX6_edges 7 = .ok (.putfield 105, 3) := by decide +kernel
theorem dX6_edges_10 : decode cX6_edges 10 = .ok (.aload_n 0, 1) := by decide +kernel
theorem dX6_edges_11 : decode cX6_edges 11 = .ok (.iload_n 1, 1) := by decide +kernel
theorem dX6_edges_12 : decode cX6_edges 12 = .ok (.invokevirtual 122, 3) := by decide +kernel
theorem dX6_edges_15 : decode cX6_edges 15 = .ok (.ifCond .ne 9, 3) := by decide +kernel
theorem dX6_edges_18 : decode cX6_edges 18 = .ok (.aload_n 0, 1) := by decide +kernel
theorem dX6_edges_19 : decode cX6_edges 19 = .ok (.iconst 1, 1) := by decide +kernel
theorem dX6_edges_20 : decode cX6_edges 20 = .ok (.invokevirtual 143, 3) := by decide +kernel
theorem dX6_edges_23 : decode cX6_edges 23 = .ok (.ireturn, 1) := by decide +kernel
theorem dX6_edges_24 : decode cX6_edges 24 = .ok (.iload_n 2, 1) := by decide +kernel
theorem dX6_edges_25 : decode cX6_edges 25 = .ok (.ifCond .lt 19, 3) := by decide +kernel
theorem dX6_edges_28 : decode cX6_edges 28 = .ok (.iload_n 2, 1) := by decide +kernel
theorem dX6_edges_29 : decode cX6_edges 29 = .ok (.bipush 99, 2) := by decide +kernel
theorem dX6_edges_31 : decode cX6_edges 31 = .ok (.if_icmp .gt 13, 3) := by decide +kernel
theorem dX6_edges_34 : decode cX6_edges 34 = .ok (.iload_n 3, 1) := by decide +kernel
theorem dX6_edges_35 : decode cX6_edges 35 = .ok (.ifCond .lt 9, 3) := by decide +kernel
theorem dX6_edges_38 : decode cX6_edges 38 = .ok (.iload_n 3, 1) := by decide +kernel
theorem dX6_edges_39 : decode cX6_edges 39 = .ok (.bipush 99, 2) := by decide +kernel
theorem dX6_edges_41 : decode cX6_edges 41 = .ok (.if_icmp .le 9, 3) := by decide +kernel
theorem dX6_edges_44 : decode cX6_edges 44 = .ok (.aload_n 0, 1) := by decide +kernel
theorem dX6_edges_45 : decode cX6_edges 45 = .ok (.iconst 2, 1) := by decide +kernel
theorem dX6_edges_46 : decode cX6_edges 46 = .ok (.invokevirtual 143, 3) := by decide +kernel
theorem dX6_edges_49 : decode cX6_edges 49 = .ok (.ireturn, 1) := by decide +kernel
theorem dX6_edges_50 : decode cX6_edges 50 = .ok (.aload_n 0, 1) := by decide +kernel
theorem dX6_edges_51 : decode cX6_edges 51 = .ok (.getfield 47, 3) := by decide +kernel
theorem dX6_edges_54 : decode cX6_edges 54 = .ok (.iload_n 1, 1) := by decide +kernel
theorem dX6_edges_55 : decode cX6_edges 55 = .ok (.iload_n 2, 1) := by decide +kernel
theorem dX6_edges_56 : decode cX6_edges 56 = .ok (.iastore, 1) := by decide +kernel
theorem dX6_edges_57 : decode cX6_edges 57 = .ok (.aload_n 0, 1) := by decide +kernel
theorem dX6_edges_58 : decode cX6_edges 58 = .ok (.getfield 50, 3) := by decide +kernel
theorem dX6_edges_61 : decode cX6_edges 61 = .ok (.iload_n 1, 1) := by decide +kernel
theorem dX6_edges_62 : decode cX6_edges 62 = .ok (.iload_n 3, 1) := by decide +kernel
theorem dX6_edges_63 : decode cX6_edges 63 = .ok (.iastore, 1) := by decide +kernel
theorem dX6_edges_64 : decode cX6_edges 64 = .ok (.iconst 1, 1) := by decide +kernel
theorem dX6_edges_65 : decode cX6_edges 65 = .ok (.ireturn, 1) := by decide +kernel
theorem dX6_leftOf_0 : decode cX6_leftOf 0 = .ok (.aload_n 0, 1) := by decide +kernel
theorem dX6_leftOf_1 : decode cX6_leftOf 1 = .ok (.getfield 47, 3) := by decide +kernel
theorem dX6_leftOf_4 : decode cX6_leftOf 4 = .ok (.iload_n 1, 1) := by decide +kernel
theorem dX6_leftOf_5 : decode cX6_leftOf 5 = .ok (.iaload, 1) := by decide +kernel
theorem dX6_leftOf_6 : decode cX6_leftOf 6 = .ok (.ifCond .le 12, 3) := by decide +kernel
theorem dX6_leftOf_9 : decode cX6_leftOf 9 = .ok (.aload_n 0, 1) := by decide +kernel
theorem dX6_leftOf_10 : decode cX6_leftOf 10 = .ok (.getfield 47, 3) := by decide +kernel
theorem dX6_leftOf_13 : decode cX6_leftOf 13 = .ok (.iload_n 1, 1) := by decide +kernel
theorem dX6_leftOf_14 : decode cX6_leftOf 14 = .ok (.iaload, 1) := by decide +kernel
theorem dX6_leftOf_15 : decode cX6_leftOf 15 = .ok (.goto 7, 3) := by decide +kernel
theorem dX6_leftOf_18 : decode cX6_leftOf 18 = .ok (.bipush 100, 2) := by decide +kernel
theorem dX6_leftOf_20 : decode cX6_leftOf 20 = .ok (.iload_n 1, 1) := by decide +kernel
theorem dX6_leftOf_21 : decode cX6_leftOf 21 = .ok (.iadd, 1) := by decide +kernel
theorem dX6_leftOf_22 : decode cX6_leftOf 22 = .ok (.ireturn, 1) := by decide +kernel
theorem dX6_rightOf_0 : decode cX6_rightOf 0 = .ok (.aload_n 0, 1) := by decide +kernel
theorem dX6_rightOf_1 : decode cX6_rightOf 1 = .ok (.getfield 50, 3) := by decide +kernel
theorem dX6_rightOf_4 : decode cX6_rightOf 4 = .ok (.iload_n 1, 1) := by decide +kernel
theorem dX6_rightOf_5 : decode cX6_rightOf 5 = .ok (.iaload, 1) := by decide +kernel
theorem dX6_rightOf_6 : decode cX6_rightOf 6 = .ok (.ifCond .le 12, 3) := by decide +kernel
theorem dX6_rightOf_9 : decode cX6_rightOf 9 = .ok (.aload_n 0, 1) := by decide +kernel
theorem dX6_rightOf_10 : decode cX6_rightOf 10 = .ok (.getfield 50, 3) := by decide +kernel
theorem dX6_rightOf_13 : decode cX6_rightOf 13 = .ok (.iload_n 1, 1) := by decide +kernel
theorem dX6_rightOf_14 : decode cX6_rightOf 14 = .ok (.iaload, 1) := by decide +kernel
theorem dX6_rightOf_15 : decode cX6_rightOf 15 = .ok (.goto 8, 3) := by decide +kernel
theorem dX6_rightOf_18 : decode cX6_rightOf 18 = .ok (.sipush 200, 3) := by decide +kernel
theorem dX6_rightOf_21 : decode cX6_rightOf 21 = .ok (.iload_n 1, 1) := by decide +kernel
theorem dX6_rightOf_22 : decode cX6_rightOf 22 = .ok (.iadd, 1) := by decide +kernel
theorem dX6_rightOf_23 : decode cX6_rightOf 23 = .ok (.ireturn, 1) := by decide +kernel
theorem dX6_isSet_0 : decode cX6_isSet 0 = .ok (.iload_n 1, 1) := by decide +kernel
theorem dX6_isSet_1 : decode cX6_isSet 1 = .ok (.ifCond .lt 17, 3) := by decide +kernel
theorem dX6_isSet_4 : decode cX6_isSet 4 = .ok (.iload_n 1, 1) := by decide +kernel
theorem dX6_isSet_5 : decode cX6_isSet 5 = .ok (.iconst 1, 1) := by decide +kernel
theorem dX6_isSet_6 : decode cX6_isSet 6 = .ok (.aload_n 0, 1) := by decide +kernel
theorem dX6_isSet_7 : decode cX6_isSet 7 = .ok (.getfield 108, 3) := by decide +kernel
theorem dX6_isSet_10 : decode cX6_isSet 10 = .ok (.ishl, 1) := by decide +kernel
theorem dX6_isSet_11 : decode cX6_isSet 11 = .ok (.if_icmp .ge 7, 3) := by decide +kernel
theorem dX6_isSet_14 : decode cX6_isSet 14 = .ok (.iconst 1, 1) := by decide +kernel
theorem dX6_isSet_15 : decode cX6_isSet 15 = .ok (.goto 4, 3) := by decide +kernel
theorem dX6_isSet_18 : decode cX6_isSet 18 = .ok (.iconst 0, 1) := by decide +kernel
theorem dX6_isSet_19 : decode cX6_isSet 19 = .ok (.ireturn, 1) := by decide +kernel
set_option maxRecDepth 20000 in
theorem ggX6_marks_X6_leftOf : GoodIn wsX6_marks wsX6_leftOf := goodIn_r _ [11, 12, 18, 19, 20, 21, 22, 23, 24, 25, 26, 27, 28, 29, 30, 31, 32, 33, 34, 35, 36, 37, 38, 39, 40, 41, 42, 43, 44, 45, 46, 47, 48, 49, 50, 51, 52, 53, 54, 55, 56, 57, 58] (by decide +kernel) (by decide +kernel)
set_option maxRecDepth 20000 in
theorem gX6_marks_X6_leftOf : GoodIn wsX6_marks (wsV RX6 201 RX6 yX6_leftOf wsX6_leftOf) := goodIn_app (goodIn_of _ (by decide +kernel)) ggX6_marks_X6_leftOf
set_option maxRecDepth 20000 in
theorem ggX6_marks_X6_rightOf : GoodIn wsX6_marks wsX6_rightOf := goodIn_r _ [16, 17, 18, 19, 20, 21, 22, 23, 24, 25, 26, 27, 28, 29, 30, 31, 32, 33, 34, 35, 36, 37, 38, 39, 40, 41, 42, 43, 44, 45, 46, 47, 48, 49, 50, 51, 52, 53, 54, 55, 56, 57, 58] (by decide +kernel) (by decide +kernel)
set_option maxRecDepth 20000 in
theorem gX6_marks_X6_rightOf : GoodIn wsX6_marks (wsV RX6 204 RX6 yX6_rightOf wsX6_rightOf) := goodIn_app (goodIn_of _ (by decide +kernel)) ggX6_marks_X6_rightOf
theorem dX6_marks_0 : decode cX6_marks 0 = .ok (.iconst 0, 1) := by decide +kernel
theorem dX6_marks_1 : decode cX6_marks 1 = .ok (.istore_n 2, 1) := by decide +kernel
theorem dX6_marks_2 : decode cX6_marks 2 = .ok (.iload_n 2, 1) := by decide +kernel
theorem dX6_marks_3 : decode cX6_marks 3 = .ok (.aload_n 0, 1) := by decide +kernel
theorem dX6_marks_4 : decode cX6_marks 4 = .ok (.getfield 108, 3) := by decide +kernel
theorem dX6_marks_7 : decode cX6_marks 7 = .ok (.if_icmp .ge 50, 3) := by decide +kernel
theorem dX6_marks_10 : decode cX6_marks 10 = .ok (.iload_n 1, 1) := by decide +kernel
theorem dX6_marks_11 : decode cX6_marks 11 = .ok (.iload_n 2, 1) := by decide +kernel
theorem dX6_marks_12 : decode cX6_marks 12 = .ok (.ishr, 1) := by decide +kernel
theorem dX6_marks_13 : decode cX6_marks 13 = .ok (.iconst 1, 1) := by decide +kernel
theorem dX6_marks_14 : decode cX6_marks 14 = .ok (.iand, 1) := by decide +kernel
theorem dX6_marks_15 : decode cX6_marks 15 = .ok (.ifCond .ne 6, 3) := by decide +kernel
theorem dX6_marks_18 : decode cX6_marks 18 = .ok (.goto 33, 3) := by decide +kernel
theorem dX6_marks_21 : decode cX6_marks 21 = .ok (.aload_n 0, 1) := by decide +kernel
theorem dX6_marks_22 : decode cX6_marks 22 = .ok (.getfield 62, 3) := by decide +kernel
theorem dX6_marks_25 : decode cX6_marks 25 = .ok (.aload_n 0, 1) := by decide +kernel
theorem dX6_marks_26 : decode cX6_marks 26 = .ok (.iload_n 2, 1) := by decide +kernel
theorem dX6_marks_27 : decode cX6_marks 27 = .ok (.invokevirtual 201, 3) := by decide +kernel
theorem dX6_marks_30 : decode cX6_marks 30 = .ok (.aload_n 0, 1) := by decide +kernel
theorem dX6_marks_31 : decode cX6_marks 31 = .ok (.iload_n 2, 1) := by decide +kernel
theorem dX6_marks_32 : decode cX6_marks 32 = .ok (.invokevirtual 201, 3) := by decide +kernel
theorem dX6_marks_35 : decode cX6_marks 35 = .ok (.iastore, 1) := by decide +kernel
theorem dX6_marks_36 : decode cX6_marks 36 = .ok (.aload_n 0, 1) := by decide +kernel
theorem dX6_marks_37 : decode cX6_marks 37 = .ok (.getfield 62, 3) := by decide +kernel
theorem dX6_marks_40 : decode cX6_marks 40 = .ok (.aload_n 0, 1) := by decide +kernel
theorem dX6_marks_41 : decode cX6_marks 41 = .ok (.iload_n 2, 1) := by decide +kernel
theorem dX6_marks_42 : decode cX6_marks 42 = .ok (.invokevirtual 204, 3) := by decide +kernel
theorem dX6_marks_45 : decode cX6_marks 45 = .ok (.aload_n 0, 1) := by decide +kernel
theorem dX6_marks_46 : decode cX6_marks 46 = .ok (.iload_n 2, 1) := by decide +kernel
theorem dX6_marks_47 : decode cX6_marks 47 = .ok (.invokevirtual 204, 3) := by decide +kernel
theorem dX6_marks_50 : decode cX6_marks 50 = .ok (.iastore, 1) := by decide +kernel
theorem dX6_marks_51 : decode cX6_marks 51 = .ok (.iinc 2 1, 3) := by decide +kernel
theorem dX6_marks_54 : decode cX6_marks 54 = .ok (.goto (-52), 3) := by decide +kernel
theorem dX6_marks_57 : decode cX6_marks 57 = .ok (.iconst 1, 1) := by decide +kernel
theorem dX6_marks_58 : decode cX6_marks 58 = .ok (.istore_n 2, 1) := by decide +kernel
theorem dX6_marks_59 : decode cX6_marks 59 = .ok (.iload_n 2, 1) := by decide +kernel
theorem dX6_marks_60 : decode cX6_marks 60 = .ok (.ifCond .eq 109, 3) := by decide +kernel
theorem dX6_marks_63 : decode cX6_marks 63 = .ok (.iconst 0, 1) := by decide +kernel
theorem dX6_marks_64 : decode cX6_marks 64 = .ok (.istore_n 2, 1) := by decide +kernel
theorem dX6_marks_65 : decode cX6_marks 65 = .ok (.iconst 0, 1) := by decide +kernel
theorem dX6_marks_66 : decode cX6_marks 66 = .ok (.istore_n 3, 1) := by decide +kernel
theorem dX6_marks_67 : decode cX6_marks 67 = .ok (.iload_n 3, 1) := by decide +kernel
theorem dX6_marks_68 : decode cX6_marks 68 = .ok (.aload_n 0, 1) := by decide +kernel
theorem dX6_marks_69 : decode cX6_marks 69 = .ok (.getfield 108, 3) := by decide +kernel
theorem dX6_marks_72 : decode cX6_marks 72 = .ok (.if_icmp .ge 94, 3) := by decide +kernel
theorem dX6_marks_75 : decode cX6_marks 75 = .ok (.iload_n 1, 1) := by decide +kernel
theorem dX6_marks_76 : decode cX6_marks 76 = .ok (.iload_n 3, 1) := by decide +kernel
theorem dX6_marks_77 : decode cX6_marks 77 = .ok (.ishr, 1) := by decide +kernel
theorem dX6_marks_78 : decode cX6_marks 78 = .ok (.iconst 1, 1) := by decide +kernel
theorem dX6_marks_79 : decode cX6_marks 79 = .ok (.iand, 1) := by decide +kernel
theorem dX6_marks_80 : decode cX6_marks 80 = .ok (.ifCond .eq 80, 3) := by decide +kernel
theorem dX6_marks_83 : decode cX6_marks 83 = .ok (.aload_n 0, 1) := by decide +kernel
theorem dX6_marks_84 : decode cX6_marks 84 = .ok (.getfield 62, 3) := by decide +kernel
theorem dX6_marks_87 : decode cX6_marks 87 = .ok (.aload_n 0, 1) := by decide +kernel
theorem dX6_marks_88 : decode cX6_marks 88 = .ok (.iload_n 3, 1) := by decide +kernel
theorem dX6_marks_89 : decode cX6_marks 89 = .ok (.invokevirtual 201, 3) := by decide +kernel
theorem dX6_marks_92 : decode cX6_marks 92 = .ok (.iaload, 1) := by decide +kernel
theorem dX6_marks_93 : decode cX6_marks 93 = .ok (.aload_n 0, 1) := by decide +kernel
theorem dX6_marks_94 : decode cX6_marks 94 = .ok (.getfield 62, 3) := by decide +kernel
theorem dX6_marks_97 : decode cX6_marks 97 = .ok (.aload_n 0, 1) := by decide +kernel
theorem dX6_marks_98 : decode cX6_marks 98 = .ok (.iload_n 3, 1) := by decide +kernel
theorem dX6_marks_99 : decode cX6_marks 99 = .ok (.invokevirtual 204, 3) := by decide +kernel
theorem dX6_marks_102 : decode cX6_marks 102 = .ok (.iaload, 1) := by decide +kernel
theorem dX6_marks_103 : decode cX6_marks 103 = .ok (.if_icmp .ne 6, 3) := by decide +kernel
theorem dX6_marks_106 : decode cX6_marks 106 = .ok (.goto 54, 3) := by decide +kernel
theorem dX6_marks_109 : decode cX6_marks 109 = .ok (.aload_n 0, 1) := by decide +kernel
theorem dX6_marks_110 : decode cX6_marks 110 = .ok (.getfield 62, 3) := by decide +kernel
theorem dX6_marks_113 : decode cX6_marks 113 = .ok (.aload_n 0, 1) := by decide +kernel
theorem dX6_marks_114 : decode cX6_marks 114 = .ok (.iload_n 3, 1) := by decide +kernel
theorem dX6_marks_115 : decode cX6_marks 115 = .ok (.invokevirtual 201, 3) := by decide +kernel
theorem dX6_marks_118 : decode cX6_marks 118 = .ok (.iaload, 1) := by decide +kernel
theorem dX6_marks_119 : decode cX6_marks 119 = .ok (.aload_n 0, 1) := by decide +kernel
theorem dX6_marks_120 : decode cX6_marks 120 = .ok (.getfield 62, 3) := by decide +kernel
