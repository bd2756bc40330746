theorem dX4_init_0 : decode cX4_init 0 = .ok (.aload_n 0, 1) := by decide +kernel
theorem dX4_init_1 : decode cX4_init 1 = .ok (.invokespecial 3, 3) := by decide +kernel
theorem dX4_init_4 : decode cX4_init 4 = .ok (.aload_n 0, 1) := by decide +kernel
theorem dX4_init_5 : decode cX4_init 5 = .ok (.sipush 200, 3) := by decide +kernel
theorem dX4_init_8 : decode cX4_init 8 = .ok (.newarray .int, 2) := by decide +kernel
theorem dX4_init_10 : decode cX4_init 10 = .ok (.putfield 9, 3) := by decide +kernel
theorem dX4_init_13 : decode cX4_init 13 = .ok (.aload_n 0, 1) := by decide +kernel
theorem dX4_init_14 : decode cX4_init 14 = .ok (.sipush 200, 3) := by decide +kernel
theorem dX4_init_17 : decode cX4_init 17 = .ok (.newarray .int, 2) := by decide +kernel
theorem dX4_init_19 : decode cX4_init 19 = .ok (.putfield 15, 3) := by decide +kernel
theorem dX4_init_22 : decode cX4_init 22 = .ok (.aload_n 0, 1) := by decide +kernel
theorem dX4_init_23 : decode cX4_init 23 = .ok (.sipush 200, 3) := by decide +kernel
theorem dX4_init_26 : decode cX4_init 26 = .ok (.newarray .int, 2) := by decide +kernel
theorem dX4_init_28 : decode cX4_init 28 = .ok (.putfield 18, 3) := by decide +kernel
theorem dX4_init_31 : decode cX4_init 31 = .ok (.aload_n 0, 1) := by decide +kernel
theorem dX4_init_32 : decode cX4_init 32 = .ok (.bipush 53, 2) := by decide +kernel
theorem dX4_init_34 : decode cX4_init 34 = .ok (.newarray .int, 2) := by decide +kernel
theorem dX4_init_36 : decode cX4_init 36 = .ok (.putfield 21, 3) := by decide +kernel
theorem dX4_init_39 : decode cX4_init 39 = .ok (.aload_n 0, 1) := by decide +kernel
theorem dX4_init_40 : decode cX4_init 40 = .ok (.bipush 53, 2) := by decide +kernel
theorem dX4_init_42 : decode cX4_init 42 = .ok (.newarray .int, 2) := by decide +kernel
theorem dX4_init_44 : decode cX4_init 44 = .ok (.putfield 24, 3) := by decide +kernel
theorem dX4_init_47 : decode cX4_init 47 = .ok (.return_, 1) := by decide +kernel
set_option maxRecDepth 20000 in
theorem ggX4_gather_X2_size : GoodIn wsX4_gather wsX2_size := goodIn_r _ [6, 7, 44, 45, 46, 47, 48, 49, 50, 51] (by decide +kernel) (by decide +kernel)
set_option maxRecDepth 20000 in
theorem gX4_gather_X2_size : GoodIn wsX4_gather (wsV RX4 31 RX2 yX2_size wsX2_size) := goodIn_app (goodIn_of _ (by decide +kernel)) ggX4_gather_X2_size
set_option maxRecDepth 20000 in
theorem ggX4_gather_X2_isKnown : GoodIn wsX4_gather wsX2_isKnown := goodIn_r _ [11, 12, 13, 14, 15, 16, 5, 17, 7, 44, 45, 46, 47, 48, 49, 50, 51] (by decide +kernel) (by decide +kernel)
set_option maxRecDepth 20000 in
theorem gX4_gather_X2_isKnown : GoodIn wsX4_gather (wsV RX4 37 RX2 yX2_isKnown wsX2_isKnown) := goodIn_app (goodIn_of _ (by decide +kernel)) ggX4_gather_X2_isKnown
set_option maxRecDepth 20000 in
theorem ggX4_gather_X2_copyLimits : GoodIn wsX4_gather wsX2_copyLimits := goodIn_r _ [21, 22, 23, 24, 25, 26, 27, 5, 28, 29, 14, 15, 16, 17, 7, 30, 31, 32, 33, 34, 35, 36, 37, 44, 45, 46, 47, 48, 49, 50, 51, 38, 39, 40, 41, 42, 43] (by decide +kernel) (by decide +kernel)
set_option maxRecDepth 20000 in
theorem gX4_gather_X2_copyLimits : GoodIn wsX4_gather (wsV RX4 41 RX2 yX2_copyLimits wsX2_copyLimits) := goodIn_app (goodIn_of _ (by decide +kernel)) ggX4_gather_X2_copyLimits
theorem dX4_gather_0 : decode cX4_gather 0 = .ok (.aload_n 0, 1) := by decide +kernel
theorem dX4_gather_1 : decode cX4_gather 1 = .ok (.iconst 0, 1) := by decide +kernel
theorem dX4_gather_2 : decode cX4_gather 2 = .ok (.putfield 27, 3) := by decide +kernel
theorem dX4_gather_5 : decode cX4_gather 5 = .ok (.iconst 0, 1) := by decide +kernel
theorem dX4_gather_6 : decode cX4_gather 6 = .ok (.istore 4, 2) := by decide +kernel
theorem dX4_gather_8 : decode cX4_gather 8 = .ok (.iload 4, 2) := by decide +kernel
theorem dX4_gather_10 : decode cX4_gather 10 = .ok (.aload_n 1, 1) := by decide +kernel
theorem dX4_gather_11 : decode cX4_gather 11 = .ok (.invokevirtual 31, 3) := by decide +kernel
theorem dX4_gather_14 : decode cX4_gather 14 = .ok (.if_icmp .ge 40, 3) := by decide +kernel
theorem dX4_gather_17 : decode cX4_gather 17 = .ok (.iload 4, 2) := by decide +kernel
theorem dX4_gather_19 : decode cX4_gather 19 = .ok (.iload_n 3, 1) := by decide +kernel
theorem dX4_gather_20 : decode cX4_gather 20 = .ok (.if_icmp .eq 28, 3) := by decide +kernel
theorem dX4_gather_23 : decode cX4_gather 23 = .ok (.aload_n 1, 1) := by decide +kernel
theorem dX4_gather_24 : decode cX4_gather 24 = .ok (.iload 4, 2) := by decide +kernel
theorem dX4_gather_26 : decode cX4_gather 26 = .ok (.iload_n 2, 1) := by decide +kernel
theorem dX4_gather_27 : decode cX4_gather 27 = .ok (.invokevirtual 37, 3) := by decide +kernel
theorem dX4_gather_30 : decode cX4_gather 30 = .ok (.ifCond .eq 18, 3) := by decide +kernel
theorem dX4_gather_33 : decode cX4_gather 33 = .ok (.aload_n 0, 1) := by decide +kernel
theorem dX4_gather_34 : decode cX4_gather 34 = .ok (.aload_n 1, 1) := by decide +kernel
theorem dX4_gather_35 : decode cX4_gather 35 = .ok (.iload 4, 2) := by decide +kernel
theorem dX4_gather_37 : decode cX4_gather 37 = .ok (.aload_n 0, 1) := by decide +kernel
theorem dX4_gather_38 : decode cX4_gather 38 = .ok (.aload_n 0, 1) := by decide +kernel
theorem dX4_gather_39 : decode cX4_gather 39 = .ok (.getfield 27, 3) := by decide +kernel
theorem dX4_gather_42 : decode cX4_gather 42 = .ok (.invokevirtual 41, 3) := by decide +kernel
theorem dX4_gather_45 : decode cX4_gather 45 = .ok (.putfield 27, 3) := by decide +kernel
theorem dX4_gather_48 : decode cX4_gather 48 = .ok (.iinc 4 1, 3) := by decide +kernel
theorem dX4_gather_51 : decode cX4_gather 51 = .ok (.goto (-43), 3) := by decide +kernel
theorem dX4_gather_54 : decode cX4_gather 54 = .ok (.return_, 1) := by decide +kernel
theorem dX4_setLimit_0 : decode cX4_setLimit 0 = .ok (.iload_n 1, 1) := by decide +kernel
theorem dX4_setLimit_1 : decode cX4_setLimit 1 = .ok (.ifCond .lt 10, 3) := by decide +kernel
theorem dX4_setLimit_4 : decode cX4_setLimit 4 = .ok (.iload_n 1, 1) := by decide +kernel
theorem dX4_setLimit_5 : decode cX4_setLimit 5 = .ok (.sipush 200, 3) := by decide +kernel
theorem dX4_setLimit_8 : decode cX4_setLimit 8 = .ok (.if_icmp .lt 4, 3) := by decide +kernel
theorem dX4_setLimit_11 : decode cX4_setLimit 11 = .ok (.return_, 1) := by decide +kernel
theorem dX4_setLimit_12 : decode cX4_setLimit 12 = .ok (.aload_n 0, 1) := by decide +kernel
theorem dX4_setLimit_13 : decode cX4_setLimit 13 = .ok (.getfield 9, 3) := by decide +kernel
theorem dX4_setLimit_16 : decode cX4_setLimit 16 = .ok (.iload_n 1, 1) := by decide +kernel
theorem dX4_setLimit_17 : decode cX4_setLimit 17 = .ok (.iload_n 2, 1) := by decide +kernel
theorem dX4_setLimit_18 : decode cX4_setLimit 18 = .ok (.iastore, 1) := by decide +kernel
theorem dX4_setLimit_19 : decode cX4_setLimit 19 = .ok (.aload_n 0, 1) := by decide +kernel
theorem dX4_setLimit_20 : decode cX4_setLimit 20 = .ok (.getfield 15, 3) := by decide +kernel
theorem dX4_setLimit_23 : decode cX4_setLimit 23 = .ok (.iload_n 1, 1) := by decide +kernel
theorem dX4_setLimit_24 : decode cX4_setLimit 24 = .ok (.iload_n 3, 1) := by decide +kernel
theorem dX4_setLimit_25 : decode cX4_setLimit 25 = .ok (.iastore, 1) := by decide +kernel
theorem dX4_setLimit_26 : decode cX4_setLimit 26 = .ok (.aload_n 0, 1) := by decide +kernel
theorem dX4_setLimit_27 : decode cX4_setLimit 27 = .ok (.getfield 18, 3) := by decide +kernel
theorem dX4_setLimit_30 : decode cX4_setLimit 30 = .ok (.iload_n 1, 1) := by decide +kernel
theorem dX4_setLimit_31 : decode cX4_setLimit 31 = .ok (.iload 4, 2) := by decide +kernel
theorem dX4_setLimit_33 : decode cX4_setLimit 33 = .ok (.iastore, 1) := by decide +kernel
theorem dX4_setLimit_34 : decode cX4_setLimit 34 = .ok (.return_, 1) := by decide +kernel
theorem dX4_wayTo_0 : decode cX4_wayTo 0 = .ok (.iload_n 1, 1) := by decide +kernel
theorem dX4_wayTo_1 : decode cX4_wayTo 1 = .ok (.ifCond .lt 18, 3) := by decide +kernel
theorem dX4_wayTo_4 : decode cX4_wayTo 4 = .ok (.iload_n 1, 1) := by decide +kernel
theorem dX4_wayTo_5 : decode cX4_wayTo 5 = .ok (.bipush 53, 2) := by decide +kernel
theorem dX4_wayTo_7 : decode cX4_wayTo 7 = .ok (.if_icmp .ge 12, 3) := by decide +kernel
theorem dX4_wayTo_10 : decode cX4_wayTo 10 = .ok (.aload_n 0, 1) := by decide +kernel
theorem dX4_wayTo_11 : decode cX4_wayTo 11 = .ok (.getfield 21, 3) := by decide +kernel
theorem dX4_wayTo_14 : decode cX4_wayTo 14 = .ok (.iload_n 1, 1) := by decide +kernel
theorem dX4_wayTo_15 : decode cX4_wayTo 15 = .ok (.iaload, 1) := by decide +kernel
theorem dX4_wayTo_16 : decode cX4_wayTo 16 = .ok (.goto 5, 3) := by decide +kernel
theorem dX4_wayTo_19 : decode cX4_wayTo 19 = .ok (.ldc 45, 2) := by decide +kernel
theorem dX4_wayTo_21 : decode cX4_wayTo 21 = .ok (.ireturn, 1) := by decide +kernel
set_option maxRecDepth 20000 in
theorem ggX4_measureFrom_X4_startAt : GoodIn wsX4_measureFrom wsX4_startAt := goodIn_r _ [6, 1, 7, 8, 9, 10, 11, 12, 13, 14, 5, 15, 16, 17, 18, 19, 20, 21, 22, 23, 24, 33, 34, 35, 36, 37, 38] (by decide +kernel) (by decide +kernel)
set_option maxRecDepth 20000 in
theorem gX4_measureFrom_X4_startAt : GoodIn wsX4_measureFrom (wsV RX4 46 RX4 yX4_startAt wsX4_startAt) := goodIn_app (goodIn_of _ (by decide +kernel)) ggX4_measureFrom_X4_startAt
set_option maxRecDepth 20000 in
theorem ggX4_measureFrom_X4_followLimits : GoodIn wsX4_measureFrom wsX4_followLimits := goodIn_r _ [28, 29, 30, 31, 7, 32, 1, 33, 34, 35, 36, 37, 38] (by decide +kernel) (by decide +kernel)
set_option maxRecDepth 20000 in
theorem gX4_measureFrom_X4_followLimits : GoodIn wsX4_measureFrom (wsV RX4 50 RX4 yX4_followLimits wsX4_followLimits) := goodIn_app (goodIn_of _ (by decide +kernel)) ggX4_measureFrom_X4_followLimits
set_option maxRecDepth 20000 in
theorem ggX4_measureFrom_X4_followBounds : GoodIn wsX4_measureFrom wsX4_followBounds := goodIn_r _ [15, 1, 16, 17, 18, 19, 20, 21, 22, 5, 23, 24, 33, 34, 35, 36, 37, 38] (by decide +kernel) (by decide +kernel)
set_option maxRecDepth 20000 in
theorem gX4_measureFrom_X4_followBounds : GoodIn wsX4_measureFrom (wsV RX4 54 RX4 yX4_followBounds wsX4_followBounds) := goodIn_app (goodIn_of _ (by decide +kernel)) ggX4_measureFrom_X4_followBounds
theorem dX4_measureFrom_0 : decode cX4_measureFrom 0 = .ok (.iload_n 1, 1) := by decide +kernel
theorem dX4_measureFrom_1 : decode cX4_measureFrom 1 = .ok (.ifCond .lt 9, 3) := by decide +kernel
theorem dX4_measureFrom_4 : decode cX4_measureFrom 4 = .ok (.iload_n 1, 1) := by decide +kernel
theorem dX4_measureFrom_5 : decode cX4_measureFrom 5 = .ok (.bipush 53, 2) := by decide +kernel
theorem dX4_measureFrom_7 : decode cX4_measureFrom 7 = .ok (.if_icmp .lt 5, 3) := by decide +kernel
theorem dX4_measureFrom_10 : decode cX4_measureFrom 10 = .ok (.iconst 0, 1) := by decide +kernel
theorem dX4_measureFrom_11 : decode cX4_measureFrom 11 = .ok (.ireturn, 1) := by decide +kernel
theorem dX4_measureFrom_12 : decode cX4_measureFrom 12 = .ok (.aload_n 0, 1) := by decide +kernel
theorem dX4_measureFrom_13 : decode cX4_measureFrom 13 = .ok (.iload_n 1, 1) := by decide +kernel
theorem dX4_measureFrom_14 : decode cX4_measureFrom 14 = .ok (.iconst 0, 1) := by decide +kernel
theorem dX4_measureFrom_15 : decode cX4_measureFrom 15 = .ok (.invokevirtual 46, 3) := by decide +kernel
theorem dX4_measureFrom_18 : decode cX4_measureFrom 18 = .ok (.iconst 0, 1) := by decide +kernel
theorem dX4_measureFrom_19 : decode cX4_measureFrom 19 = .ok (.istore_n 2, 1) := by decide +kernel
theorem dX4_measureFrom_20 : decode cX4_measureFrom 20 = .ok (.iload_n 2, 1) := by decide +kernel
theorem dX4_measureFrom_21 : decode cX4_measureFrom 21 = .ok (.bipush 53, 2) := by decide +kernel
theorem dX4_measureFrom_23 : decode cX4_measureFrom 23 = .ok (.if_icmp .gt 39, 3) := by decide +kernel
theorem dX4_measureFrom_26 : decode cX4_measureFrom 26 = .ok (.aload_n 0, 1) := by decide +kernel
theorem dX4_measureFrom_27 : decode cX4_measureFrom 27 = .ok (.aload_n 0, 1) := by decide +kernel
theorem dX4_measureFrom_28 : decode cX4_measureFrom 28 = .ok (.getfield 21, 3) := by decide +kernel
theorem dX4_measureFrom_31 : decode cX4_measureFrom 31 = .ok (.iconst 0, 1) := by decide +kernel
theorem dX4_measureFrom_32 : decode cX4_measureFrom 32 = .ok (.invokevirtual 50, 3) := by decide +kernel
theorem dX4_measureFrom_35 : decode cX4_measureFrom 35 = .ok (.ifCond .ne 5, 3) := by decide +kernel
theorem dX4_measureFrom_38 : decode cX4_measureFrom 38 = .ok (.iconst 1, 1) := by decide +kernel
theorem dX4_measureFrom_39 : decode cX4_measureFrom 39 = .ok (.ireturn, 1) := by decide +kernel
theorem dX4_measureFrom_40 : decode cX4_measureFrom 40 = .ok (.aload_n 0, 1) := by decide +kernel
theorem dX4_measureFrom_41 : decode cX4_measureFrom 41 = .ok (.iconst 0, 1) := by decide +kernel
theorem dX4_measureFrom_42 : decode cX4_measureFrom 42 = .ok (.invokevirtual 54, 3) := by decide +kernel
theorem dX4_measureFrom_45 : decode cX4_measureFrom 45 = .ok (.aload_n 0, 1) := by decide +kernel
theorem dX4_measureFrom_46 : decode cX4_measureFrom 46 = .ok (.getfield 21, 3) := by decide +kernel
theorem dX4_measureFrom_49 : decode cX4_measureFrom 49 = .ok (.iload_n 1, 1) := by decide +kernel
theorem dX4_measureFrom_50 : decode cX4_measureFrom 50 = .ok (.iaload, 1) := by decide +kernel
theorem dX4_measureFrom_51 : decode cX4_measureFrom 51 = .ok (.ifCond .ge 5, 3) := by decide +kernel
theorem dX4_measureFrom_54 : decode cX4_measureFrom 54 = .ok (.iconst 0, 1) := by decide +kernel
theorem dX4_measureFrom_55 : decode cX4_measureFrom 55 = .ok (.ireturn, 1) := by decide +kernel
theorem dX4_measureFrom_56 : decode cX4_measureFrom 56 = .ok (.iinc 2 1, 3) := by decide +kernel
theorem dX4_measureFrom_59 : decode cX4_measureFrom 59 = .ok (.goto (-39), 3) := by decide +kernel
theorem dX4_measureFrom_62 : decode cX4_measureFrom 62 = .ok (.iconst 0, 1) := by decide +kernel
theorem dX4_measureFrom_63 : decode cX4_measureFrom 63 = .ok (.ireturn, 1) := by decide +kernel
set_option maxRecDepth 20000 in
theorem ggX4_fewestLimits_X4_fewerLimitsThrough : GoodIn wsX4_fewestLimits wsX4_fewerLimitsThrough := goodIn_r _ [5, 6, 7, 8, 9, 10, 11, 12, 13, 14, 15, 16, 17, 18, 4, 19, 20, 21, 22, 23, 24, 25, 26, 27, 28, 29, 30, 31, 32, 33, 34, 35, 36, 37, 38, 39, 40, 41, 42, 43, 44, 45, 46, 47] (by decide +kernel) (by decide +kernel)
set_option maxRecDepth 20000 in
theorem gX4_fewestLimits_X4_fewerLimitsThrough : GoodIn wsX4_fewestLimits (wsV RX4 58 RX4 yX4_fewerLimitsThrough wsX4_fewerLimitsThrough) := goodIn_app (goodIn_of _ (by decide +kernel)) ggX4_fewestLimits_X4_fewerLimitsThrough
theorem dX4_fewestLimits_0 : decode cX4_fewestLimits 0 = .ok (.bipush 54, 2) := by decide +kernel
theorem dX4_fewestLimits_2 : decode cX4_fewestLimits 2 = .ok (.istore_n 1, 1) := by decide +kernel
theorem dX4_fewestLimits_3 : decode cX4_fewestLimits 3 = .ok (.iconst 0, 1) := by decide +kernel
theorem dX4_fewestLimits_4 : decode cX4_fewestLimits 4 = .ok (.istore_n 2, 1) := by decide +kernel
theorem dX4_fewestLimits_5 : decode cX4_fewestLimits 5 = .ok (.iload_n 2, 1) := by decide +kernel
theorem dX4_fewestLimits_6 : decode cX4_fewestLimits 6 = .ok (.bipush 21, 2) := by decide +kernel
theorem dX4_fewestLimits_8 : decode cX4_fewestLimits 8 = .ok (.if_icmp .ge 16, 3) := by decide +kernel
theorem dX4_fewestLimits_11 : decode cX4_fewestLimits 11 = .ok (.aload_n 0, 1) := by decide +kernel
theorem dX4_fewestLimits_12 : decode cX4_fewestLimits 12 = .ok (.iload_n 2, 1) := by decide +kernel
theorem dX4_fewestLimits_13 : decode cX4_fewestLimits 13 = .ok (.iload_n 1, 1) := by decide +kernel
theorem dX4_fewestLimits_14 : decode cX4_fewestLimits 14 = .ok (.invokevirtual 58, 3) := by decide +kernel
theorem dX4_fewestLimits_17 : decode cX4_fewestLimits 17 = .ok (.istore_n 1, 1) := by decide +kernel
theorem dX4_fewestLimits_18 : decode cX4_fewestLimits 18 = .ok (.iinc 2 1, 3) := by decide +kernel
theorem dX4_fewestLimits_21 : decode cX4_fewestLimits 21 = .ok (.goto (-16), 3) := by decide +kernel
theorem dX4_fewestLimits_24 : decode cX4_fewestLimits 24 = .ok (.iload_n 1, 1) := by decide +kernel
theorem dX4_fewestLimits_25 : decode cX4_fewestLimits 25 = .ok (.ireturn, 1) := by decide +kernel
set_option maxRecDepth 20000 in
theorem ggX4_fewerLimitsThrough_X4_startAt : GoodIn wsX4_fewerLimitsThrough wsX4_startAt := goodIn_r _ [15, 5, 16, 17, 18, 19, 20, 21, 22, 23, 14, 24, 1, 2, 3, 4, 25, 26, 27, 28, 29, 38, 39, 40, 41, 42, 43] (by decide +kernel) (by decide +kernel)
set_option maxRecDepth 20000 in
theorem gX4_fewerLimitsThrough_X4_startAt : GoodIn wsX4_fewerLimitsThrough (wsV RX4 46 RX4 yX4_startAt wsX4_startAt) := goodIn_app (goodIn_of _ (by decide +kernel)) ggX4_fewerLimitsThrough_X4_startAt
set_option maxRecDepth 20000 in
theorem ggX4_fewerLimitsThrough_X4_followLimits : GoodIn wsX4_fewerLimitsThrough wsX4_followLimits := goodIn_r _ [33, 34, 35, 36, 16, 37, 5, 38, 39, 40, 41, 42, 43] (by decide +kernel) (by decide +kernel)
set_option maxRecDepth 20000 in
theorem gX4_fewerLimitsThrough_X4_followLimits : GoodIn wsX4_fewerLimitsThrough (wsV RX4 50 RX4 yX4_followLimits wsX4_followLimits) := goodIn_app (goodIn_of _ (by decide +kernel)) ggX4_fewerLimitsThrough_X4_followLimits
set_option maxRecDepth 20000 in
theorem ggX4_fewerLimitsThrough_X4_followBounds : GoodIn wsX4_fewerLimitsThrough wsX4_followBounds := goodIn_r _ [24, 5, 1, 2, 3, 4, 25, 26, 27, 14, 28, 29, 38, 39, 40, 41, 42, 43] (by decide +kernel) (by decide +kernel)
set_option maxRecDepth 20000 in
theorem gX4_fewerLimitsThrough_X4_followBounds : GoodIn wsX4_fewerLimitsThrough (wsV RX4 54 RX4 yX4_followBounds wsX4_followBounds) := goodIn_app (goodIn_of _ (by decide +kernel)) ggX4_fewerLimitsThrough_X4_followBounds
theorem dX4_fewerLimitsThrough_0 : decode cX4_fewerLimitsThrough 0 = .ok (.aload_n 0, 1) := by decide +kernel
theorem dX4_fewerLimitsThrough_1 : decode cX4_fewerLimitsThrough 1 = .ok (.iload_n 1, 1) := by decide +kernel
theorem dX4_fewerLimitsThrough_2 : decode cX4_fewerLimitsThrough 2 = .ok (.iload_n 1, 1) := by decide +kernel
theorem dX4_fewerLimitsThrough_3 : decode cX4_fewerLimitsThrough 3 = .ok (.invokevirtual 46, 3) := by decide +kernel
theorem dX4_fewerLimitsThrough_6 : decode cX4_fewerLimitsThrough 6 = .ok (.iload_n 2, 1) := by decide +kernel
theorem dX4_fewerLimitsThrough_7 : decode cX4_fewerLimitsThrough 7 = .ok (.iconst 1, 1) := by decide +kernel
theorem dX4_fewerLimitsThrough_8 : decode cX4_fewerLimitsThrough 8 = .ok (.isub, 1) := by decide +kernel
theorem dX4_fewerLimitsThrough_9 : decode cX4_fewerLimitsThrough 9 = .ok (.bipush 53, 2) := by decide +kernel
theorem dX4_fewerLimitsThrough_11 : decode cX4_fewerLimitsThrough 11 = .ok (.iload_n 1, 1) := by decide +kernel
theorem dX4_fewerLimitsThrough_12 : decode cX4_fewerLimitsThrough 12 = .ok (.isub, 1) := by decide +kernel
theorem dX4_fewerLimitsThrough_13 : decode cX4_fewerLimitsThrough 13 = .ok (.invokestatic 62, 3) := by decide +kernel
theorem dX4_fewerLimitsThrough_16 : decode cX4_fewerLimitsThrough 16 = .ok (.istore_n 3, 1) := by decide +kernel
theorem dX4_fewerLimitsThrough_17 : decode cX4_fewerLimitsThrough 17 = .ok (.iconst 1, 1) := by decide +kernel
theorem dX4_fewerLimitsThrough_18 : decode cX4_fewerLimitsThrough 18 = .ok (.istore 4, 2) := by decide +kernel
theorem dX4_fewerLimitsThrough_20 : decode cX4_fewerLimitsThrough 20 = .ok (.iload 4, 2) := by decide +kernel
theorem dX4_fewerLimitsThrough_22 : decode cX4_fewerLimitsThrough 22 = .ok (.iload_n 3, 1) := by decide +kernel
theorem dX4_fewerLimitsThrough_23 : decode cX4_fewerLimitsThrough 23 = .ok (.if_icmp .gt 55, 3) := by decide +kernel
theorem dX4_fewerLimitsThrough_26 : decode cX4_fewerLimitsThrough 26 = .ok (.aload_n 0, 1) := by decide +kernel
theorem dX4_fewerLimitsThrough_27 : decode cX4_fewerLimitsThrough 27 = .ok (.getfield 21, 3) := by decide +kernel
theorem dX4_fewerLimitsThrough_30 : decode cX4_fewerLimitsThrough 30 = .ok (.iconst 0, 1) := by decide +kernel
theorem dX4_fewerLimitsThrough_31 : decode cX4_fewerLimitsThrough 31 = .ok (.aload_n 0, 1) := by decide +kernel
theorem dX4_fewerLimitsThrough_32 : decode cX4_fewerLimitsThrough 32 = .ok (.getfield 24, 3) := by decide +kernel
theorem dX4_fewerLimitsThrough_35 : decode cX4_fewerLimitsThrough 35 = .ok (.iconst 0, 1) := by decide +kernel
theorem dX4_fewerLimitsThrough_36 : decode cX4_fewerLimitsThrough 36 = .ok (.bipush 53, 2) := by decide +kernel
theorem dX4_fewerLimitsThrough_38 : decode cX4_fewerLimitsThrough 38 = .ok (.invokestatic 67, 3) := by decide +kernel
theorem dX4_fewerLimitsThrough_41 : decode cX4_fewerLimitsThrough 41 = .ok (.aload_n 0, 1) := by decide +kernel
theorem dX4_fewerLimitsThrough_42 : decode cX4_fewerLimitsThrough 42 = .ok (.aload_n 0, 1) := by decide +kernel
theorem dX4_fewerLimitsThrough_43 : decode cX4_fewerLimitsThrough 43 = .ok (.getfield 24, 3) := by decide +kernel
theorem dX4_fewerLimitsThrough_46 : decode cX4_fewerLimitsThrough 46 = .ok (.iload_n 1, 1) := by decide +kernel
theorem dX4_fewerLimitsThrough_47 : decode cX4_fewerLimitsThrough 47 = .ok (.invokevirtual 50, 3) := by decide +kernel
theorem dX4_fewerLimitsThrough_50 : decode cX4_fewerLimitsThrough 50 = .ok (.ifCond .ne 5, 3) := by decide +kernel
theorem dX4_fewerLimitsThrough_53 : decode cX4_fewerLimitsThrough 53 = .ok (.iload_n 2, 1) := by decide +kernel
theorem dX4_fewerLimitsThrough_54 : decode cX4_fewerLimitsThrough 54 = .ok (.ireturn, 1) := by decide +kernel
theorem dX4_fewerLimitsThrough_55 : decode cX4_fewerLimitsThrough 55 = .ok (.aload_n 0, 1) := by decide +kernel
theorem dX4_fewerLimitsThrough_56 : decode cX4_fewerLimitsThrough 56 = .ok (.iload_n 1, 1) := by decide +kernel
theorem dX4_fewerLimitsThrough_57 : decode cX4_fewerLimitsThrough 57 = .ok (.invokevirtual 54, 3) := by decide +kernel
theorem dX4_fewerLimitsThrough_60 : decode cX4_fewerLimitsThrough 60 = .ok (.aload_n 0, 1) := by decide +kernel
theorem dX4_fewerLimitsThrough_61 : decode cX4_fewerLimitsThrough 61 = .ok (.getfield 21, 3) := by decide +kernel
theorem dX4_fewerLimitsThrough_64 : decode cX4_fewerLimitsThrough 64 = .ok (.iload_n 1, 1) := by decide +kernel
theorem dX4_fewerLimitsThrough_65 : decode cX4_fewerLimitsThrough 65 = .ok (.iaload, 1) := by decide +kernel
theorem dX4_fewerLimitsThrough_66 : decode cX4_fewerLimitsThrough 66 = .ok (.ifCond .ge 6, 3) := by decide +kernel
theorem dX4_fewerLimitsThrough_69 : decode cX4_fewerLimitsThrough 69 = .ok (.iload 4, 2) := by decide +kernel
theorem dX4_fewerLimitsThrough_71 : decode cX4_fewerLimitsThrough 71 = .ok (.ireturn, 1) := by decide +kernel
theorem dX4_fewerLimitsThrough_72 : decode cX4_fewerLimitsThrough 72 = .ok (.iinc 4 1, 3) := by decide +kernel
theorem dX4_fewerLimitsThrough_75 : decode cX4_fewerLimitsThrough 75 = .ok (.goto (-55), 3) := by decide +kernel
theorem dX4_fewerLimitsThrough_78 : decode cX4_fewerLimitsThrough 78 = .ok (.iload_n 2, 1) := by decide +kernel
theorem dX4_fewerLimitsThrough_79 : decode cX4_fewerLimitsThrough 79 = .ok (.ireturn, 1) := by decide +kernel
set_option maxRecDepth 20000 in
theorem ggX4_startAt_J7_fill_53178 : GoodIn wsX4_startAt wsJ7_fill_53178 := goodIn_r _ [6] (by decide +kernel) (by decide +kernel)
set_option maxRecDepth 20000 in
theorem gX4_startAt_J7_fill_53178 : GoodIn wsX4_startAt (va_wsS RX4 73 yJ7_fill_53178 wsJ7_fill_53178) := goodIn_app (goodIn_of _ (by decide +kernel)) ggX4_startAt_J7_fill_53178
set_option maxRecDepth 20000 in
theorem ggX4_startAt_X4_followBounds : GoodIn wsX4_startAt wsX4_followBounds := goodIn_r _ [11, 1, 12, 13, 14, 15, 16, 17, 18, 10, 19, 20, 21, 22, 23, 24, 25, 26] (by decide +kernel) (by decide +kernel)
set_option maxRecDepth 20000 in
theorem gX4_startAt_X4_followBounds : GoodIn wsX4_startAt (wsV RX4 54 RX4 yX4_followBounds wsX4_followBounds) := goodIn_app (goodIn_of _ (by decide +kernel)) ggX4_startAt_X4_followBounds
theorem dX4_startAt_0 : decode cX4_startAt 0 = .ok (.aload_n 0, 1) := by decide +kernel
theorem dX4_startAt_1 : decode cX4_startAt 1 = .ok (.getfield 21, 3) := by decide +kernel
theorem dX4_startAt_4 : decode cX4_startAt 4 = .ok (.ldc 45, 2) := by decide +kernel
theorem dX4_startAt_6 : decode cX4_startAt 6 = .ok (.invokestatic 73, 3) := by decide +kernel
theorem dX4_startAt_9 : decode cX4_startAt 9 = .ok (.aload_n 0, 1) := by decide +kernel
theorem dX4_startAt_10 : decode cX4_startAt 10 = .ok (.getfield 21, 3) := by decide +kernel
theorem dX4_startAt_13 : decode cX4_startAt 13 = .ok (.iload_n 1, 1) := by decide +kernel
theorem dX4_startAt_14 : decode cX4_startAt 14 = .ok (.iconst 0, 1) := by decide +kernel
theorem dX4_startAt_15 : decode cX4_startAt 15 = .ok (.iastore, 1) := by decide +kernel
theorem dX4_startAt_16 : decode cX4_startAt 16 = .ok (.aload_n 0, 1) := by decide +kernel
theorem dX4_startAt_17 : decode cX4_startAt 17 = .ok (.iload_n 2, 1) := by decide +kernel
theorem dX4_startAt_18 : decode cX4_startAt 18 = .ok (.invokevirtual 54, 3) := by decide +kernel
theorem dX4_startAt_21 : decode cX4_startAt 21 = .ok (.return_, 1) := by decide +kernel
theorem dX4_followLimits_0 : decode cX4_followLimits 0 = .ok (.iconst 0, 1) := by decide +kernel
theorem dX4_followLimits_1 : decode cX4_followLimits 1 = .ok (.istore_n 3, 1) := by decide +kernel
theorem dX4_followLimits_2 : decode cX4_followLimits 2 = .ok (.iconst 0, 1) := by decide +kernel
theorem dX4_followLimits_3 : decode cX4_followLimits 3 = .ok (.istore 4, 2) := by decide +kernel
theorem dX4_followLimits_5 : decode cX4_followLimits 5 = .ok (.iload 4, 2) := by decide +kernel
theorem dX4_followLimits_7 : decode cX4_followLimits 7 = .ok (.aload_n 0, 1) := by decide +kernel
theorem dX4_followLimits_8 : decode cX4_followLimits 8 = .ok (.getfield 27, 3) := by decide +kernel
theorem dX4_followLimits_11 : decode cX4_followLimits 11 = .ok (.if_icmp .ge 88, 3) := by decide +kernel
theorem dX4_followLimits_14 : decode cX4_followLimits 14 = .ok (.aload_n 0, 1) := by decide +kernel
theorem dX4_followLimits_15 : decode cX4_followLimits 15 = .ok (.getfield 9, 3) := by decide +kernel
theorem dX4_followLimits_18 : decode cX4_followLimits 18 = .ok (.iload 4, 2) := by decide +kernel
theorem dX4_followLimits_20 : decode cX4_followLimits 20 = .ok (.iaload, 1) := by decide +kernel
theorem dX4_followLimits_21 : decode cX4_followLimits 21 = .ok (.istore 5, 2) := by decide +kernel
theorem dX4_followLimits_23 : decode cX4_followLimits 23 = .ok (.aload_n 0, 1) := by decide +kernel
theorem dX4_followLimits_24 : decode cX4_followLimits 24 = .ok (.getfield 15, 3) := by decide +kernel
theorem dX4_followLimits_27 : decode cX4_followLimits 27 = .ok (.iload 4, 2) := by decide +kernel
theorem dX4_followLimits_29 : decode cX4_followLimits 29 = .ok (.iaload, 1) := by decide +kernel
theorem dX4_followLimits_30 : decode cX4_followLimits 30 = .ok (.istore 6, 2) := by decide +kernel
theorem dX4_followLimits_32 : decode cX4_followLimits 32 = .ok (.iload 5, 2) := by decide +kernel
theorem dX4_followLimits_34 : decode cX4_followLimits 34 = .ok (.iload_n 2, 1) := by decide +kernel
theorem dX4_followLimits_35 : decode cX4_followLimits 35 = .ok (.if_icmp .lt 58, 3) := by decide +kernel
theorem dX4_followLimits_38 : decode cX4_followLimits 38 = .ok (.iload 6, 2) := by decide +kernel
theorem dX4_followLimits_40 : decode cX4_followLimits 40 = .ok (.iload_n 2, 1) := by decide +kernel
theorem dX4_followLimits_41 : decode cX4_followLimits 41 = .ok (.if_icmp .lt 52, 3) := by decide +kernel
theorem dX4_followLimits_44 : decode cX4_followLimits 44 = .ok (.aload_n 1, 1) := by decide +kernel
theorem dX4_followLimits_45 : decode cX4_followLimits 45 = .ok (.iload 5, 2) := by decide +kernel
theorem dX4_followLimits_47 : decode cX4_followLimits 47 = .ok (.iaload, 1) := by decide +kernel
theorem dX4_followLimits_48 : decode cX4_followLimits 48 = .ok (.ldc 45, 2) := by decide +kernel
theorem dX4_followLimits_50 : decode cX4_followLimits 50 = .ok (.if_icmp .lt 6, 3) := by decide +kernel
theorem dX4_followLimits_53 : decode cX4_followLimits 53 = .ok (.goto 40, 3) := by decide +kernel
theorem dX4_followLimits_56 : decode cX4_followLimits 56 = .ok (.aload_n 1, 1) := by decide +kernel
theorem dX4_followLimits_57 : decode cX4_followLimits 57 = .ok (.iload 5, 2) := by decide +kernel
theorem dX4_followLimits_59 : decode cX4_followLimits 59 = .ok (.iaload, 1) := by decide +kernel
theorem dX4_followLimits_60 : decode cX4_followLimits 60 = .ok (.aload_n 0, 1) := by decide +kernel
theorem dX4_followLimits_61 : decode cX4_followLimits 61 = .ok (.getfield 18, 3) := by decide +kernel
theorem dX4_followLimits_64 : decode cX4_followLimits 64 = .ok (.iload 4, 2) := by decide +kernel
theorem dX4_followLimits_66 : decode cX4_followLimits 66 = .ok (.iaload, 1) := by decide +kernel
theorem dX4_followLimits_67 : decode cX4_followLimits 67 = .ok (.iadd, 1) := by decide +kernel
theorem dX4_followLimits_68 : decode cX4_followLimits 68 = .ok (.istore 7, 2) := by decide +kernel
theorem dX4_followLimits_70 : decode cX4_followLimits 70 = .ok (.iload 7, 2) := by decide +kernel
theorem dX4_followLimits_72 : decode cX4_followLimits 72 = .ok (.aload_n 0, 1) := by decide +kernel
theorem dX4_followLimits_73 : decode cX4_followLimits 73 = .ok (.getfield 21, 3) := by decide +kernel
theorem dX4_followLimits_76 : decode cX4_followLimits 76 = .ok (.iload 6, 2) := by decide +kernel
theorem dX4_followLimits_78 : decode cX4_followLimits 78 = .ok (.iaload, 1) := by decide +kernel
theorem dX4_followLimits_79 : decode cX4_followLimits 79 = .ok (.if_icmp .ge 14, 3) := by decide +kernel
theorem dX4_followLimits_82 : decode cX4_followLimits 82 = .ok (.aload_n 0, 1) := by decide +kernel
theorem dX4_followLimits_83 : decode cX4_followLimits 83 = .ok (.getfield 21, 3) := by decide +kernel
theorem dX4_followLimits_86 : decode cX4_followLimits 86 = .ok (.iload 6, 2) := by decide +kernel
theorem dX4_followLimits_88 : decode cX4_followLimits 88 = .ok (.iload 7, 2) := by decide +kernel
theorem dX4_followLimits_90 : decode cX4_followLimits 90 = .ok (.iastore, 1) := by decide +kernel
theorem dX4_followLimits_91 : decode cX4_followLimits 91 = .ok (.iconst 1, 1) := by decide +kernel
theorem dX4_followLimits_92 : decode cX4_followLimits 92 = .ok (.istore_n 3, 1) := by decide +kernel
theorem dX4_followLimits_93 : decode cX4_followLimits 93 = .ok (.iinc 4 1, 3) := by decide +kernel
theorem dX4_followLimits_96 : decode cX4_followLimits 96 = .ok (.goto (-91), 3) := by decide +kernel
theorem dX4_followLimits_99 : decode cX4_followLimits 99 = .ok (.iload_n 3, 1) := by decide +kernel
theorem dX4_followLimits_100 : decode cX4_followLimits 100 = .ok (.ireturn, 1) := by decide +kernel
set_option maxRecDepth 20000 in
theorem ggX4_followBounds_X4_followRange : GoodIn wsX4_followBounds wsX4_followRange := goodIn_r _ [10, 1, 2, 3, 4, 5, 11, 12, 13, 14, 15, 16, 17] (by decide +kernel) (by decide +kernel)
set_option maxRecDepth 20000 in
theorem gX4_followBounds_X4_followRange : GoodIn wsX4_followBounds (wsV RX4 79 RX4 yX4_followRange wsX4_followRange) := goodIn_app (goodIn_of _ (by decide +kernel)) ggX4_followBounds_X4_followRange
theorem dX4_followBounds_0 : decode cX4_followBounds 0 = .ok (.bipush 21, 2) := by decide +kernel
theorem dX4_followBounds_2 : decode cX4_followBounds 2 = .ok (.istore_n 2, 1) := by decide +kernel
theorem dX4_followBounds_3 : decode cX4_followBounds 3 = .ok (.iload_n 2, 1) := by decide +kernel
theorem dX4_followBounds_4 : decode cX4_followBounds 4 = .ok (.bipush 52, 2) := by decide +kernel
theorem dX4_followBounds_6 : decode cX4_followBounds 6 = .ok (.if_icmp .ge 32, 3) := by decide +kernel
theorem dX4_followBounds_9 : decode cX4_followBounds 9 = .ok (.aload_n 0, 1) := by decide +kernel
theorem dX4_followBounds_10 : decode cX4_followBounds 10 = .ok (.getfield 21, 3) := by decide +kernel
theorem dX4_followBounds_13 : decode cX4_followBounds 13 = .ok (.iload_n 2, 1) := by decide +kernel
theorem dX4_followBounds_14 : decode cX4_followBounds 14 = .ok (.aload_n 0, 1) := by decide +kernel
theorem dX4_followBounds_15 : decode cX4_followBounds 15 = .ok (.getfield 21, 3) := by decide +kernel
theorem dX4_followBounds_18 : decode cX4_followBounds 18 = .ok (.iload_n 2, 1) := by decide +kernel
theorem dX4_followBounds_19 : decode cX4_followBounds 19 = .ok (.iaload, 1) := by decide +kernel
theorem dX4_followBounds_20 : decode cX4_followBounds 20 = .ok (.aload_n 0, 1) := by decide +kernel
theorem dX4_followBounds_21 : decode cX4_followBounds 21 = .ok (.getfield 21, 3) := by decide +kernel
theorem dX4_followBounds_24 : decode cX4_followBounds 24 = .ok (.iload_n 2, 1) := by decide +kernel
theorem dX4_followBounds_25 : decode cX4_followBounds 25 = .ok (.iconst 1, 1) := by decide +kernel
theorem dX4_followBounds_26 : decode cX4_followBounds 26 = .ok (.iadd, 1) := by decide +kernel
theorem dX4_followBounds_27 : decode cX4_followBounds 27 = .ok (.iaload, 1) := by decide +kernel
theorem dX4_followBounds_28 : decode cX4_followBounds 28 = .ok (.invokestatic 62, 3) := by decide +kernel
theorem dX4_followBounds_31 : decode cX4_followBounds 31 = .ok (.iastore, 1) := by decide +kernel
theorem dX4_followBounds_32 : decode cX4_followBounds 32 = .ok (.iinc 2 2, 3) := by decide +kernel
theorem dX4_followBounds_35 : decode cX4_followBounds 35 = .ok (.goto (-32), 3) := by decide +kernel
theorem dX4_followBounds_38 : decode cX4_followBounds 38 = .ok (.iload_n 1, 1) := by decide +kernel
theorem dX4_followBounds_39 : decode cX4_followBounds 39 = .ok (.ifCond .ne 7, 3) := by decide +kernel
theorem dX4_followBounds_42 : decode cX4_followBounds 42 = .ok (.aload_n 0, 1) := by decide +kernel
theorem dX4_followBounds_43 : decode cX4_followBounds 43 = .ok (.invokevirtual 79, 3) := by decide +kernel
theorem dX4_followBounds_46 : decode cX4_followBounds 46 = .ok (.return_, 1) := by decide +kernel
theorem dX4_followRange_0 : decode cX4_followRange 0 = .ok (.aload_n 0, 1) := by decide +kernel
theorem dX4_followRange_1 : decode cX4_followRange 1 = .ok (.getfield 21, 3) := by decide +kernel
theorem dX4_followRange_4 : decode cX4_followRange 4 = .ok (.iconst 0, 1) := by decide +kernel
theorem dX4_followRange_5 : decode cX4_followRange 5 = .ok (.iaload, 1) := by decide +kernel
theorem dX4_followRange_6 : decode cX4_followRange 6 = .ok (.istore_n 1, 1) := by decide +kernel
theorem dX4_followRange_7 : decode cX4_followRange 7 = .ok (.iconst 0, 1) := by decide +kernel
theorem dX4_followRange_8 : decode cX4_followRange 8 = .ok (.istore_n 2, 1) := by decide +kernel
theorem dX4_followRange_9 : decode cX4_followRange 9 = .ok (.iload_n 2, 1) := by decide +kernel
theorem dX4_followRange_10 : decode cX4_followRange 10 = .ok (.bipush 53, 2) := by decide +kernel
theorem dX4_followRange_12 : decode cX4_followRange 12 = .ok (.if_icmp .ge 20, 3) := by decide +kernel
theorem dX4_followRange_15 : decode cX4_followRange 15 = .ok (.iload_n 1, 1) := by decide +kernel
theorem dX4_followRange_16 : decode cX4_followRange 16 = .ok (.aload_n 0, 1) := by decide +kernel
theorem dX4_followRange_17 : decode cX4_followRange 17 = .ok (.getfield 21, 3) := by decide +kernel
theorem dX4_followRange_20 : decode cX4_followRange 20 = .ok (.iload_n 2, 1) := by decide +kernel
theorem dX4_followRange_21 : decode cX4_followRange 21 = .ok (.iaload, 1) := by decide +kernel
theorem dX4_followRange_22 : decode cX4_followRange 22 = .ok (.invokestatic 62, 3) := by decide +kernel
theorem dX4_followRange_25 : decode cX4_followRange 25 = .ok (.istore_n 1, 1) := by decide +kernel
theorem dX4_followRange_26 : decode cX4_followRange 26 = .ok (.iinc 2 1, 3) := by decide +kernel
theorem dX4_followRange_29 : decode cX4_followRange 29 = .ok (.goto (-20), 3) := by decide +kernel
theorem dX4_followRange_32 : decode cX4_followRange 32 = .ok (.aload_n 0, 1) := by decide +kernel
theorem dX4_followRange_33 : decode cX4_followRange 33 = .ok (.getfield 21, 3) := by decide +kernel
theorem dX4_followRange_36 : decode cX4_followRange 36 = .ok (.iconst 0, 1) := by decide +kernel
theorem dX4_followRange_37 : decode cX4_followRange 37 = .ok (.iload_n 1, 1) := by decide +kernel
theorem dX4_followRange_38 : decode cX4_followRange 38 = .ok (.iastore, 1) := by decide +kernel
theorem dX4_followRange_39 : decode cX4_followRange 39 = .ok (.iconst 0, 1) := by decide +kernel
theorem dX4_followRange_40 : decode cX4_followRange 40 = .ok (.istore_n 2, 1) := by decide +kernel
theorem dX4_followRange_41 : decode cX4_followRange 41 = .ok (.iload_n 2, 1) := by decide +kernel
theorem dX4_followRange_42 : decode cX4_followRange 42 = .ok (.bipush 53, 2) := by decide +kernel
theorem dX4_followRange_44 : decode cX4_followRange 44 = .ok (.if_icmp .ge 28, 3) := by decide +kernel
theorem dX4_followRange_47 : decode cX4_followRange 47 = .ok (.aload_n 0, 1) := by decide +kernel
theorem dX4_followRange_48 : decode cX4_followRange 48 = .ok (.getfield 21, 3) := by decide +kernel
theorem dX4_followRange_51 : decode cX4_followRange 51 = .ok (.iload_n 2, 1) := by decide +kernel
theorem dX4_followRange_52 : decode cX4_followRange 52 = .ok (.aload_n 0, 1) := by decide +kernel
theorem dX4_followRange_53 : decode cX4_followRange 53 = .ok (.getfield 21, 3) := by decide +kernel
theorem dX4_followRange_56 : decode cX4_followRange 56 = .ok (.iload_n 2, 1) := by decide +kernel
theorem dX4_followRange_57 : decode cX4_followRange 57 = .ok (.iaload, 1) := by decide +kernel
theorem dX4_followRange_58 : decode cX4_followRange 58 = .ok (.iload_n 1, 1) := by decide +kernel
theorem dX4_followRange_59 : decode cX4_followRange 59 = .ok (.ldc 82, 2) := by decide +kernel
theorem dX4_followRange_61 : decode cX4_followRange 61 = .ok (.iadd, 1) := by decide +kernel
theorem dX4_followRange_62 : decode cX4_followRange 62 = .ok (.invokestatic 62, 3) := by decide +kernel
theorem dX4_followRange_65 : decode cX4_followRange 65 = .ok (.iastore, 1) := by decide +kernel
theorem dX4_followRange_66 : decode cX4_followRange 66 = .ok (.iinc 2 1, 3) := by decide +kernel
theorem dX4_followRange_69 : decode cX4_followRange 69 = .ok (.goto (-28), 3) := by decide +kernel
theorem dX4_followRange_72 : decode cX4_followRange 72 = .ok (.return_, 1) := by decide +kernel
set_option maxRecDepth 20000 in
theorem ggX5_init_X2_init : GoodIn wsX5_init wsX2_init := goodIn_r _ [28, 29, 2, 3, 24, 30, 31, 32, 33, 34, 35, 36, 83, 84, 85, 86, 87, 88, 89, 90] (by decide +kernel) (by decide +kernel)
set_option maxRecDepth 20000 in
theorem gX5_init_X2_init_n11 : GoodIn wsX5_init (wsX2_init) := ggX5_init_X2_init
set_option maxRecDepth 20000 in
theorem ggX5_init_X4_init : GoodIn wsX5_init wsX4_init := goodIn_r _ [38, 39, 2, 3, 24, 40, 41, 42, 43, 44, 101, 102, 103, 104, 105, 106] (by decide +kernel) (by decide +kernel)
set_option maxRecDepth 20000 in
theorem gX5_init_X4_init_n18 : GoodIn wsX5_init (wsX4_init) := ggX5_init_X4_init
set_option maxRecDepth 20000 in
theorem ggX5_init_X1_init : GoodIn wsX5_init wsX1_init := goodIn_r _ [47, 48, 2, 3, 24, 49, 50, 51, 52, 53, 54, 55, 56, 14, 57, 58, 59, 60, 107, 108, 109, 110, 111] (by decide +kernel) (by decide +kernel)
set_option maxRecDepth 20000 in
theorem gX5_init_X1_init : GoodIn wsX5_init (wsX1_init) := ggX5_init_X1_init
set_option maxRecDepth 20000 in
theorem ggX5_init_X0_init : GoodIn wsX5_init wsX0_init := goodIn_r _ [63, 64, 2, 3, 24, 65, 66, 67, 68, 69, 70, 71, 72, 73, 74, 112, 113, 114, 115, 116, 117] (by decide +kernel) (by decide +kernel)
set_option maxRecDepth 20000 in
theorem gX5_init_X0_init : GoodIn wsX5_init (wsX0_init) := ggX5_init_X0_init
set_option maxRecDepth 20000 in
theorem ggX5_init_X3_init : GoodIn wsX5_init wsX3_init := goodIn_r _ [76, 77, 2, 3, 24, 78, 79, 80, 81, 82, 118, 119, 120, 121, 122, 123, 124] (by decide +kernel) (by decide +kernel)
set_option maxRecDepth 20000 in
theorem gX5_init_X3_init_n39 : GoodIn wsX5_init (wsX3_init) := ggX5_init_X3_init
theorem dX5_init_0 : decode cX5_init 0 = .ok (.aload_n 0, 1) := by decide +kernel
theorem dX5_init_1 : decode cX5_init 1 = .ok (.invokespecial 3, 3) := by decide +kernel
theorem dX5_init_4 : decode cX5_init 4 = .ok (.aload_n 0, 1) := by decide +kernel
theorem dX5_init_5 : decode cX5_init 5 = .ok (.new 9, 3) := by decide +kernel
theorem dX5_init_8 : decode cX5_init 8 = .ok (.dup, 1) := by decide +kernel
theorem dX5_init_9 : decode cX5_init 9 = .ok (.invokespecial 11, 3) := by decide +kernel
theorem dX5_init_12 : decode cX5_init 12 = .ok (.putfield 12, 3) := by decide +kernel
theorem dX5_init_15 : decode cX5_init 15 = .ok (.aload_n 0, 1) := by decide +kernel
theorem dX5_init_16 : decode cX5_init 16 = .ok (.new 16, 3) := by decide +kernel
theorem dX5_init_19 : decode cX5_init 19 = .ok (.dup, 1) := by decide +kernel
theorem dX5_init_20 : decode cX5_init 20 = .ok (.invokespecial 18, 3) := by decide +kernel
theorem dX5_init_23 : decode cX5_init 23 = .ok (.putfield 19, 3) := by decide +kernel
theorem dX5_init_26 : decode cX5_init 26 = .ok (.aload_n 0, 1) := by decide +kernel
theorem dX5_init_27 : decode cX5_init 27 = .ok (.new 23, 3) := by decide +kernel
theorem dX5_init_30 : decode cX5_init 30 = .ok (.dup, 1) := by decide +kernel
theorem dX5_init_31 : decode cX5_init 31 = .ok (.invokespecial 25, 3) := by decide +kernel
theorem dX5_init_34 : decode cX5_init 34 = .ok (.putfield 26, 3) := by decide +kernel
theorem dX5_init_37 : decode cX5_init 37 = .ok (.aload_n 0, 1) := by decide +kernel
theorem dX5_init_38 : decode cX5_init 38 = .ok (.new 30, 3) := by decide +kernel
theorem dX5_init_41 : decode cX5_init 41 = .ok (.dup, 1) := by decide +kernel
theorem dX5_init_42 : decode cX5_init 42 = .ok (.invokespecial 32, 3) := by decide +kernel
theorem dX5_init_45 : decode cX5_init 45 = .ok (.putfield 33, 3) := by decide +kernel
theorem dX5_init_48 : decode cX5_init 48 = .ok (.aload_n 0, 1) := by decide +kernel
theorem dX5_init_49 : decode cX5_init 49 = .ok (.new 37, 3) := by decide +kernel
theorem dX5_init_52 : decode cX5_init 52 = .ok (.dup, 1) := by decide +kernel
theorem dX5_init_53 : decode cX5_init 53 = .ok (.invokespecial 39, 3) := by decide +kernel
theorem dX5_init_56 : decode cX5_init 56 = .ok (.putfield 40, 3) := by decide +kernel
theorem dX5_init_59 : decode cX5_init 59 = .ok (.aload_n 0, 1) := by decide +kernel
theorem dX5_init_60 : decode cX5_init 60 = .ok (.bipush 20, 2) := by decide +kernel
theorem dX5_init_62 : decode cX5_init 62 = .ok (.newarray .int, 2) := by decide +kernel
theorem dX5_init_64 : decode cX5_init 64 = .ok (.putfield 44, 3) := by decide +kernel
theorem dX5_init_67 : decode cX5_init 67 = .ok (.aload_n 0, 1) := by decide +kernel
theorem dX5_init_68 : decode cX5_init 68 = .ok (.iconst 0, 1) := by decide +kernel
theorem dX5_init_69 : decode cX5_init 69 = .ok (.putfield 48, 3) := by decide +kernel
theorem dX5_init_72 : decode cX5_init 72 = .ok (.return_, 1) := by decide +kernel
theorem dX5_status_0 : decode cX5_status 0 = .ok (.aload_n 0, 1) := by decide +kernel
theorem dX5_status_1 : decode cX5_status 1 = .ok (.getfield 48, 3) := by decide +kernel
theorem dX5_status_4 : decode cX5_status 4 = .ok (.ireturn, 1) := by decide +kernel
set_option maxRecDepth 20000 in
theorem ggX5_plate_X5_refuse : GoodIn wsX5_plate wsX5_refuse := goodIn_r _ [6, 7, 12, 13, 14, 15, 16, 17, 18, 19, 20, 21] (by decide +kernel) (by decide +kernel)
set_option maxRecDepth 20000 in
theorem gX5_plate_X5_refuse : GoodIn wsX5_plate (wsV RX5 55 RX5 yX5_refuse wsX5_refuse) := goodIn_app (goodIn_of _ (by decide +kernel)) ggX5_plate_X5_refuse
set_option maxRecDepth 20000 in
theorem ggX5_plate_X5_answer : GoodIn wsX5_plate wsX5_answer := goodIn_r _ [11, 7, 12, 13, 14, 15, 16, 17, 18, 19, 20, 21] (by decide +kernel) (by decide +kernel)
set_option maxRecDepth 20000 in
theorem gX5_plate_X5_answer : GoodIn wsX5_plate (wsV RX5 59 RX5 yX5_answer wsX5_answer) := goodIn_app (goodIn_of _ (by decide +kernel)) ggX5_plate_X5_answer
theorem dX5_plate_0 : decode cX5_plate 0 = .ok (.aload_n 0, 1) := by decide +kernel
theorem dX5_plate_1 : decode cX5_plate 1 = .ok (.getfield 52, 3) := by decide +kernel
theorem dX5_plate_4 : decode cX5_plate 4 = .ok (.bipush 20, 2) := by decide +kernel
theorem dX5_plate_6 : decode cX5_plate 6 = .ok (.if_icmp .lt 9, 3) := by decide +kernel
theorem dX5_plate_9 : decode cX5_plate 9 = .ok (.aload_n 0, 1) := by decide +kernel
theorem dX5_plate_10 : decode cX5_plate 10 = .ok (.iconst 3, 1) := by decide +kernel
theorem dX5_plate_11 : decode cX5_plate 11 = .ok (.invokevirtual 55, 3) := by decide +kernel
theorem dX5_plate_14 : decode cX5_plate 14 = .ok (.ireturn, 1) := by decide +kernel
theorem dX5_plate_15 : decode cX5_plate 15 = .ok (.aload_n 0, 1) := by decide +kernel
theorem dX5_plate_16 : decode cX5_plate 16 = .ok (.dup, 1) := by decide +kernel
theorem dX5_plate_17 : decode cX5_plate 17 = .ok (.getfield 52, 3) := by decide +kernel
theorem dX5_plate_20 : decode cX5_plate 20 = .ok (.iconst 1, 1) := by decide +kernel
theorem dX5_plate_21 : decode cX5_plate 21 = .ok (.iadd, 1) := by decide +kernel
theorem dX5_plate_22 : decode cX5_plate 22 = .ok (.putfield 52, 3) := by decide +kernel
theorem dX5_plate_25 : decode cX5_plate 25 = .ok (.aload_n 0, 1) := by decide +kernel
theorem dX5_plate_26 : decode cX5_plate 26 = .ok (.aload_n 0, 1) := by decide +kernel
theorem dX5_plate_27 : decode cX5_plate 27 = .ok (.getfield 52, 3) := by decide +kernel
theorem dX5_plate_30 : decode cX5_plate 30 = .ok (.iconst 1, 1) := by decide +kernel
theorem dX5_plate_31 : decode cX5_plate 31 = .ok (.isub, 1) := by decide +kernel
theorem dX5_plate_32 : decode cX5_plate 32 = .ok (.invokevirtual 59, 3) := by decide +kernel
theorem dX5_plate_35 : decode cX5_plate 35 = .ok (.ireturn, 1) := by decide +kernel
set_option maxRecDepth 20000 in
theorem ggX5_motif_X5_refuse : GoodIn wsX5_motif wsX5_refuse := goodIn_r _ [6, 7, 12, 13, 14, 15, 16, 17, 18, 19, 20, 21] (by decide +kernel) (by decide +kernel)
set_option maxRecDepth 20000 in
theorem gX5_motif_X5_refuse : GoodIn wsX5_motif (wsV RX5 55 RX5 yX5_refuse wsX5_refuse) := goodIn_app (goodIn_of _ (by decide +kernel)) ggX5_motif_X5_refuse
set_option maxRecDepth 20000 in
theorem ggX5_motif_X5_answer : GoodIn wsX5_motif wsX5_answer := goodIn_r _ [11, 7, 12, 13, 14, 15, 16, 17, 18, 19, 20, 21] (by decide +kernel) (by decide +kernel)
set_option maxRecDepth 20000 in
theorem gX5_motif_X5_answer : GoodIn wsX5_motif (wsV RX5 59 RX5 yX5_answer wsX5_answer) := goodIn_app (goodIn_of _ (by decide +kernel)) ggX5_motif_X5_answer
theorem dX5_motif_0 : decode cX5_motif 0 = .ok (.aload_n 0, 1) := by decide +kernel
theorem dX5_motif_1 : decode cX5_motif 1 = .ok (.getfield 62, 3) := by decide +kernel
theorem dX5_motif_4 : decode cX5_motif 4 = .ok (.bipush 16, 2) := by decide +kernel
theorem dX5_motif_6 : decode cX5_motif 6 = .ok (.if_icmp .lt 9, 3) := by decide +kernel
theorem dX5_motif_9 : decode cX5_motif 9 = .ok (.aload_n 0, 1) := by decide +kernel
theorem dX5_motif_10 : decode cX5_motif 10 = .ok (.iconst 3, 1) := by decide +kernel
theorem dX5_motif_11 : decode cX5_motif 11 = .ok (.invokevirtual 55, 3) := by decide +kernel
theorem dX5_motif_14 : decode cX5_motif 14 = .ok (.ireturn, 1) := by decide +kernel
theorem dX5_motif_15 : decode cX5_motif 15 = .ok (.aload_n 0, 1) := by decide +kernel
theorem dX5_motif_16 : decode cX5_motif 16 = .ok (.dup, 1) := by decide +kernel
theorem dX5_motif_17 : decode cX5_motif 17 = .ok (.getfield 62, 3) := by decide +kernel
theorem dX5_motif_20 : decode cX5_motif 20 = .ok (.iconst 1, 1) := by decide +kernel
theorem dX5_motif_21 : decode cX5_motif 21 = .ok (.iadd, 1) := by decide +kernel
theorem dX5_motif_22 : decode cX5_motif 22 = .ok (.putfield 62, 3) := by decide +kernel
theorem dX5_motif_25 : decode cX5_motif 25 = .ok (.aload_n 0, 1) := by decide +kernel
theorem dX5_motif_26 : decode cX5_motif 26 = .ok (.aload_n 0, 1) := by decide +kernel
theorem dX5_motif_27 : decode cX5_motif 27 = .ok (.getfield 62, 3) := by decide +kernel
theorem dX5_motif_30 : decode cX5_motif 30 = .ok (.iconst 1, 1) := by decide +kernel
theorem dX5_motif_31 : decode cX5_motif 31 = .ok (.isub, 1) := by decide +kernel
theorem dX5_motif_32 : decode cX5_motif 32 = .ok (.invokevirtual 59, 3) := by decide +kernel
theorem dX5_motif_35 : decode cX5_motif 35 = .ok (.ireturn, 1) := by decide +kernel
set_option maxRecDepth 20000 in
theorem ggX5_shows_X5_isPlate : GoodIn wsX5_shows wsX5_isPlate := goodIn_r _ [6, 7, 63, 64, 65, 66, 67, 68, 69, 70, 71, 72] (by decide +kernel) (by decide +kernel)
set_option maxRecDepth 20000 in
theorem gX5_shows_X5_isPlate : GoodIn wsX5_shows (wsV RX5 65 RX5 yX5_isPlate wsX5_isPlate) := goodIn_app (goodIn_of _ (by decide +kernel)) ggX5_shows_X5_isPlate
set_option maxRecDepth 20000 in
theorem ggX5_shows_X5_isMotif : GoodIn wsX5_shows wsX5_isMotif := goodIn_r _ [11, 12, 63, 64, 65, 66, 67, 68, 69, 70, 71, 72] (by decide +kernel) (by decide +kernel)
set_option maxRecDepth 20000 in
theorem gX5_shows_X5_isMotif : GoodIn wsX5_shows (wsV RX5 69 RX5 yX5_isMotif wsX5_isMotif) := goodIn_app (goodIn_of _ (by decide +kernel)) ggX5_shows_X5_isMotif
set_option maxRecDepth 20000 in
theorem ggX5_shows_X5_isDay : GoodIn wsX5_shows wsX5_isDay := goodIn_r _ [15, 16, 17, 5, 18] (by decide +kernel) (by decide +kernel)
set_option maxRecDepth 20000 in
theorem gX5_shows_X5_isDay : GoodIn wsX5_shows (va_wsS RX5 72 yX5_isDay wsX5_isDay) := goodIn_app (goodIn_of _ (by decide +kernel)) ggX5_shows_X5_isDay
set_option maxRecDepth 20000 in
theorem ggX5_shows_X5_whyNoFact : GoodIn wsX5_shows wsX5_whyNoFact := goodIn_r _ [22, 1, 23, 24, 5, 25, 26, 27, 28, 29, 30, 31, 63, 64, 65, 66, 67, 68, 69, 70, 71, 72, 73, 74, 75, 76, 77, 78, 79, 80] (by decide +kernel) (by decide +kernel)
set_option maxRecDepth 20000 in
theorem gX5_shows_X5_whyNoFact : GoodIn wsX5_shows (wsV RX5 75 RX5 yX5_whyNoFact wsX5_whyNoFact) := goodIn_app (goodIn_of _ (by decide +kernel)) ggX5_shows_X5_whyNoFact
set_option maxRecDepth 20000 in
theorem ggX5_shows_X5_refuse : GoodIn wsX5_shows wsX5_refuse := goodIn_r _ [35, 36, 63, 64, 65, 66, 67, 68, 69, 70, 71, 72] (by decide +kernel) (by decide +kernel)
set_option maxRecDepth 20000 in
theorem gX5_shows_X5_refuse : GoodIn wsX5_shows (wsV RX5 55 RX5 yX5_refuse wsX5_refuse) := goodIn_app (goodIn_of _ (by decide +kernel)) ggX5_shows_X5_refuse
set_option maxRecDepth 20000 in
theorem ggX5_shows_X2_tell : GoodIn wsX5_shows wsX2_tell := goodIn_r _ [40, 41, 31, 42, 43, 44, 27, 28, 29, 30, 73, 74, 75, 76, 77, 78, 79, 80] (by decide +kernel) (by decide +kernel)
set_option maxRecDepth 20000 in
theorem gX5_shows_X2_tell : GoodIn wsX5_shows (wsV RX5 79 RX2 yX2_tell wsX2_tell) := goodIn_app (goodIn_of _ (by decide +kernel)) ggX5_shows_X2_tell
set_option maxRecDepth 20000 in
theorem ggX5_shows_X5_platePoint : GoodIn wsX5_shows wsX5_platePoint := goodIn_r _ [47] (by decide +kernel) (by decide +kernel)
set_option maxRecDepth 20000 in
theorem gX5_shows_X5_platePoint : GoodIn wsX5_shows (va_wsS RX5 83 yX5_platePoint wsX5_platePoint) := goodIn_app (goodIn_of _ (by decide +kernel)) ggX5_shows_X5_platePoint
set_option maxRecDepth 20000 in
theorem ggX5_shows_X5_motifPoint : GoodIn wsX5_shows wsX5_motifPoint := goodIn_r _ [50] (by decide +kernel) (by decide +kernel)
set_option maxRecDepth 20000 in
theorem gX5_shows_X5_motifPoint : GoodIn wsX5_shows (va_wsS RX5 86 yX5_motifPoint wsX5_motifPoint) := goodIn_app (goodIn_of _ (by decide +kernel)) ggX5_shows_X5_motifPoint
set_option maxRecDepth 20000 in
theorem ggX5_shows_X2_addLimit : GoodIn wsX5_shows wsX2_addLimit := goodIn_r _ [54, 31, 55, 56, 57, 58, 73, 74, 75, 76, 77, 78, 79, 80] (by decide +kernel) (by decide +kernel)
set_option maxRecDepth 20000 in
theorem gX5_shows_X2_addLimit : GoodIn wsX5_shows (wsV RX5 90 RX2 yX2_addLimit wsX2_addLimit) := goodIn_app (goodIn_of _ (by decide +kernel)) ggX5_shows_X2_addLimit
set_option maxRecDepth 20000 in
theorem ggX5_shows_X5_answer : GoodIn wsX5_shows wsX5_answer := goodIn_r _ [62, 36, 63, 64, 65, 66, 67, 68, 69, 70, 71, 72] (by decide +kernel) (by decide +kernel)
set_option maxRecDepth 20000 in
theorem gX5_shows_X5_answer : GoodIn wsX5_shows (wsV RX5 59 RX5 yX5_answer wsX5_answer) := goodIn_app (goodIn_of _ (by decide +kernel)) ggX5_shows_X5_answer
theorem dX5_shows_0 : decode cX5_shows 0 = .ok (.aload_n 0, 1) := by decide +kernel
theorem dX5_shows_1 : decode cX5_shows 1 = .ok (.aload_n 0, 1) := by decide +kernel
theorem dX5_shows_2 : decode cX5_shows 2 = .ok (.iload_n 1, 1) := by decide +kernel
theorem dX5_shows_3 : decode cX5_shows 3 = .ok (.invokevirtual 65, 3) := by decide +kernel
theorem dX5_shows_6 : decode cX5_shows 6 = .ok (.ifCond .eq 15, 3) := by decide +kernel
theorem dX5_shows_9 : decode cX5_shows 9 = .ok (.aload_n 0, 1) := by decide +kernel
theorem dX5_shows_10 : decode cX5_shows 10 = .ok (.iload_n 2, 1) := by decide +kernel
theorem dX5_shows_11 : decode cX5_shows 11 = .ok (.invokevirtual 69, 3) := by decide +kernel
theorem dX5_shows_14 : decode cX5_shows 14 = .ok (.ifCond .eq 7, 3) := by decide +kernel
theorem dX5_shows_17 : decode cX5_shows 17 = .ok (.iconst 1, 1) := by decide +kernel
theorem dX5_shows_18 : decode cX5_shows 18 = .ok (.goto 4, 3) := by decide +kernel
theorem dX5_shows_21 : decode cX5_shows 21 = .ok (.iconst 0, 1) := by decide +kernel
theorem dX5_shows_22 : decode cX5_shows 22 = .ok (.iload_n 3, 1) := by decide +kernel
theorem dX5_shows_23 : decode cX5_shows 23 = .ok (.invokestatic 72, 3) := by decide +kernel
theorem dX5_shows_26 : decode cX5_shows 26 = .ok (.invokevirtual 75, 3) := by decide +kernel
theorem dX5_shows_29 : decode cX5_shows 29 = .ok (.istore 4, 2) := by decide +kernel
theorem dX5_shows_31 : decode cX5_shows 31 = .ok (.iload 4, 2) := by decide +kernel
theorem dX5_shows_33 : decode cX5_shows 33 = .ok (.ifCond .eq 10, 3) := by decide +kernel
theorem dX5_shows_36 : decode cX5_shows 36 = .ok (.aload_n 0, 1) := by decide +kernel
theorem dX5_shows_37 : decode cX5_shows 37 = .ok (.iload 4, 2) := by decide +kernel
theorem dX5_shows_39 : decode cX5_shows 39 = .ok (.invokevirtual 55, 3) := by decide +kernel
theorem dX5_shows_42 : decode cX5_shows 42 = .ok (.ireturn, 1) := by decide +kernel
theorem dX5_shows_43 : decode cX5_shows 43 = .ok (.aload_n 0, 1) := by decide +kernel
theorem dX5_shows_44 : decode cX5_shows 44 = .ok (.getfield 12, 3) := by decide +kernel
theorem dX5_shows_47 : decode cX5_shows 47 = .ok (.iconst 0, 1) := by decide +kernel
theorem dX5_shows_48 : decode cX5_shows 48 = .ok (.iload_n 3, 1) := by decide +kernel
theorem dX5_shows_49 : decode cX5_shows 49 = .ok (.invokevirtual 79, 3) := by decide +kernel
theorem dX5_shows_52 : decode cX5_shows 52 = .ok (.istore 5, 2) := by decide +kernel
theorem dX5_shows_54 : decode cX5_shows 54 = .ok (.aload_n 0, 1) := by decide +kernel
theorem dX5_shows_55 : decode cX5_shows 55 = .ok (.getfield 12, 3) := by decide +kernel
theorem dX5_shows_58 : decode cX5_shows 58 = .ok (.iload_n 1, 1) := by decide +kernel
theorem dX5_shows_59 : decode cX5_shows 59 = .ok (.invokestatic 83, 3) := by decide +kernel
theorem dX5_shows_62 : decode cX5_shows 62 = .ok (.iload_n 2, 1) := by decide +kernel
theorem dX5_shows_63 : decode cX5_shows 63 = .ok (.iconst 0, 1) := by decide +kernel
theorem dX5_shows_64 : decode cX5_shows 64 = .ok (.invokestatic 86, 3) := by decide +kernel
theorem dX5_shows_67 : decode cX5_shows 67 = .ok (.iconst 0, 1) := by decide +kernel
theorem dX5_shows_68 : decode cX5_shows 68 = .ok (.invokevirtual 90, 3) := by decide +kernel
theorem dX5_shows_71 : decode cX5_shows 71 = .ok (.aload_n 0, 1) := by decide +kernel
theorem dX5_shows_72 : decode cX5_shows 72 = .ok (.getfield 12, 3) := by decide +kernel
theorem dX5_shows_75 : decode cX5_shows 75 = .ok (.iload_n 2, 1) := by decide +kernel
theorem dX5_shows_76 : decode cX5_shows 76 = .ok (.iconst 1, 1) := by decide +kernel
theorem dX5_shows_77 : decode cX5_shows 77 = .ok (.invokestatic 86, 3) := by decide +kernel
theorem dX5_shows_80 : decode cX5_shows 80 = .ok (.iload_n 1, 1) := by decide +kernel
theorem dX5_shows_81 : decode cX5_shows 81 = .ok (.invokestatic 83, 3) := by decide +kernel
theorem dX5_shows_84 : decode cX5_shows 84 = .ok (.iconst 0, 1) := by decide +kernel
theorem dX5_shows_85 : decode cX5_shows 85 = .ok (.invokevirtual 90, 3) := by decide +kernel
theorem dX5_shows_88 : decode cX5_shows 88 = .ok (.aload_n 0, 1) := by decide +kernel
theorem dX5_shows_89 : decode cX5_shows 89 = .ok (.iload 5, 2) := by decide +kernel
theorem dX5_shows_91 : decode cX5_shows 91 = .ok (.invokevirtual 59, 3) := by decide +kernel
theorem dX5_shows_94 : decode cX5_shows 94 = .ok (.ireturn, 1) := by decide +kernel
set_option maxRecDepth 20000 in
theorem ggX5_ahead_X5_areTwoPlates : GoodIn wsX5_ahead wsX5_areTwoPlates := goodIn_r _ [8, 9, 10, 11, 7, 12, 13, 61, 62, 63, 64, 65, 66, 67, 68, 69, 70] (by decide +kernel) (by decide +kernel)
set_option maxRecDepth 20000 in
theorem gX5_ahead_X5_areTwoPlates : GoodIn wsX5_ahead (wsV RX5 94 RX5 yX5_areTwoPlates wsX5_areTwoPlates) := goodIn_app (goodIn_of _ (by decide +kernel)) ggX5_ahead_X5_areTwoPlates
set_option maxRecDepth 20000 in
theorem ggX5_ahead_X5_isWithin : GoodIn wsX5_ahead wsX5_isWithin := goodIn_r _ [16] (by decide +kernel) (by decide +kernel)
set_option maxRecDepth 20000 in
theorem gX5_ahead_X5_isWithin : GoodIn wsX5_ahead (va_wsS RX5 100 yX5_isWithin wsX5_isWithin) := goodIn_app (goodIn_of _ (by decide +kernel)) ggX5_ahead_X5_isWithin
set_option maxRecDepth 20000 in
theorem ggX5_ahead_X5_isDay : GoodIn wsX5_ahead wsX5_isDay := goodIn_r _ [19, 14, 15, 7, 16] (by decide +kernel) (by decide +kernel)
set_option maxRecDepth 20000 in
theorem gX5_ahead_X5_isDay : GoodIn wsX5_ahead (va_wsS RX5 72 yX5_isDay wsX5_isDay) := goodIn_app (goodIn_of _ (by decide +kernel)) ggX5_ahead_X5_isDay
set_option maxRecDepth 20000 in
theorem ggX5_ahead_X5_whyNoFact : GoodIn wsX5_ahead wsX5_whyNoFact := goodIn_r _ [23, 3, 24, 25, 7, 26, 27, 28, 29, 30, 31, 32, 61, 62, 63, 64, 65, 66, 67, 68, 69, 70, 71, 72, 73, 74, 75, 76, 77, 78] (by decide +kernel) (by decide +kernel)
set_option maxRecDepth 20000 in
theorem gX5_ahead_X5_whyNoFact : GoodIn wsX5_ahead (wsV RX5 75 RX5 yX5_whyNoFact wsX5_whyNoFact) := goodIn_app (goodIn_of _ (by decide +kernel)) ggX5_ahead_X5_whyNoFact
set_option maxRecDepth 20000 in
theorem ggX5_ahead_X5_refuse : GoodIn wsX5_ahead wsX5_refuse := goodIn_r _ [36, 37, 61, 62, 63, 64, 65, 66, 67, 68, 69, 70] (by decide +kernel) (by decide +kernel)
set_option maxRecDepth 20000 in
theorem gX5_ahead_X5_refuse : GoodIn wsX5_ahead (wsV RX5 55 RX5 yX5_refuse wsX5_refuse) := goodIn_app (goodIn_of _ (by decide +kernel)) ggX5_ahead_X5_refuse
set_option maxRecDepth 20000 in
theorem ggX5_ahead_X2_tell : GoodIn wsX5_ahead wsX2_tell := goodIn_r _ [41, 42, 32, 43, 44, 45, 28, 29, 30, 31, 71, 72, 73, 74, 75, 76, 77, 78] (by decide +kernel) (by decide +kernel)
set_option maxRecDepth 20000 in
theorem gX5_ahead_X2_tell : GoodIn wsX5_ahead (wsV RX5 79 RX2 yX2_tell wsX2_tell) := goodIn_app (goodIn_of _ (by decide +kernel)) ggX5_ahead_X2_tell
set_option maxRecDepth 20000 in
theorem ggX5_ahead_X5_platePoint : GoodIn wsX5_ahead wsX5_platePoint := goodIn_r _ [48] (by decide +kernel) (by decide +kernel)
set_option maxRecDepth 20000 in
theorem gX5_ahead_X5_platePoint : GoodIn wsX5_ahead (va_wsS RX5 83 yX5_platePoint wsX5_platePoint) := goodIn_app (goodIn_of _ (by decide +kernel)) ggX5_ahead_X5_platePoint
set_option maxRecDepth 20000 in
theorem ggX5_ahead_X2_addLimit : GoodIn wsX5_ahead wsX2_addLimit := goodIn_r _ [52, 32, 53, 54, 55, 56, 71, 72, 73, 74, 75, 76, 77, 78] (by decide +kernel) (by decide +kernel)
set_option maxRecDepth 20000 in
theorem gX5_ahead_X2_addLimit : GoodIn wsX5_ahead (wsV RX5 90 RX2 yX2_addLimit wsX2_addLimit) := goodIn_app (goodIn_of _ (by decide +kernel)) ggX5_ahead_X2_addLimit
set_option maxRecDepth 20000 in
theorem ggX5_ahead_X5_answer : GoodIn wsX5_ahead wsX5_answer := goodIn_r _ [60, 37, 61, 62, 63, 64, 65, 66, 67, 68, 69, 70] (by decide +kernel) (by decide +kernel)
set_option maxRecDepth 20000 in
theorem gX5_ahead_X5_answer : GoodIn wsX5_ahead (wsV RX5 59 RX5 yX5_answer wsX5_answer) := goodIn_app (goodIn_of _ (by decide +kernel)) ggX5_ahead_X5_answer
theorem dX5_ahead_0 : decode cX5_ahead 0 = .ok (.aload_n 0, 1) := by decide +kernel
theorem dX5_ahead_1 : decode cX5_ahead 1 = .ok (.aload_n 0, 1) := by decide +kernel
theorem dX5_ahead_2 : decode cX5_ahead 2 = .ok (.iload_n 1, 1) := by decide +kernel
theorem dX5_ahead_3 : decode cX5_ahead 3 = .ok (.iload_n 2, 1) := by decide +kernel
theorem dX5_ahead_4 : decode cX5_ahead 4 = .ok (.invokevirtual 94, 3) := by decide +kernel
theorem dX5_ahead_7 : decode cX5_ahead 7 = .ok (.iload_n 3, 1) := by decide +kernel
theorem dX5_ahead_8 : decode cX5_ahead 8 = .ok (.ldc 98, 2) := by decide +kernel
theorem dX5_ahead_10 : decode cX5_ahead 10 = .ok (.ldc 99, 2) := by decide +kernel
theorem dX5_ahead_12 : decode cX5_ahead 12 = .ok (.invokestatic 100, 3) := by decide +kernel
theorem dX5_ahead_15 : decode cX5_ahead 15 = .ok (.ifCond .eq 15, 3) := by decide +kernel
theorem dX5_ahead_18 : decode cX5_ahead 18 = .ok (.iload 4, 2) := by decide +kernel
theorem dX5_ahead_20 : decode cX5_ahead 20 = .ok (.invokestatic 72, 3) := by decide +kernel
theorem dX5_ahead_23 : decode cX5_ahead 23 = .ok (.ifCond .eq 7, 3) := by decide +kernel
theorem dX5_ahead_26 : decode cX5_ahead 26 = .ok (.iconst 1, 1) := by decide +kernel
theorem dX5_ahead_27 : decode cX5_ahead 27 = .ok (.goto 4, 3) := by decide +kernel
theorem dX5_ahead_30 : decode cX5_ahead 30 = .ok (.iconst 0, 1) := by decide +kernel
theorem dX5_ahead_31 : decode cX5_ahead 31 = .ok (.invokevirtual 75, 3) := by decide +kernel
theorem dX5_ahead_34 : decode cX5_ahead 34 = .ok (.istore 5, 2) := by decide +kernel
theorem dX5_ahead_36 : decode cX5_ahead 36 = .ok (.iload 5, 2) := by decide +kernel
theorem dX5_ahead_38 : decode cX5_ahead 38 = .ok (.ifCond .eq 10, 3) := by decide +kernel
theorem dX5_ahead_41 : decode cX5_ahead 41 = .ok (.aload_n 0, 1) := by decide +kernel
theorem dX5_ahead_42 : decode cX5_ahead 42 = .ok (.iload 5, 2) := by decide +kernel
theorem dX5_ahead_44 : decode cX5_ahead 44 = .ok (.invokevirtual 55, 3) := by decide +kernel
theorem dX5_ahead_47 : decode cX5_ahead 47 = .ok (.ireturn, 1) := by decide +kernel
theorem dX5_ahead_48 : decode cX5_ahead 48 = .ok (.aload_n 0, 1) := by decide +kernel
theorem dX5_ahead_49 : decode cX5_ahead 49 = .ok (.getfield 12, 3) := by decide +kernel
theorem dX5_ahead_52 : decode cX5_ahead 52 = .ok (.iconst 1, 1) := by decide +kernel
theorem dX5_ahead_53 : decode cX5_ahead 53 = .ok (.iload 4, 2) := by decide +kernel
theorem dX5_ahead_55 : decode cX5_ahead 55 = .ok (.invokevirtual 79, 3) := by decide +kernel
theorem dX5_ahead_58 : decode cX5_ahead 58 = .ok (.istore 6, 2) := by decide +kernel
theorem dX5_ahead_60 : decode cX5_ahead 60 = .ok (.aload_n 0, 1) := by decide +kernel
theorem dX5_ahead_61 : decode cX5_ahead 61 = .ok (.getfield 12, 3) := by decide +kernel
theorem dX5_ahead_64 : decode cX5_ahead 64 = .ok (.iload_n 2, 1) := by decide +kernel
theorem dX5_ahead_65 : decode cX5_ahead 65 = .ok (.invokestatic 83, 3) := by decide +kernel
theorem dX5_ahead_68 : decode cX5_ahead 68 = .ok (.iload_n 1, 1) := by decide +kernel
theorem dX5_ahead_69 : decode cX5_ahead 69 = .ok (.invokestatic 83, 3) := by decide +kernel
theorem dX5_ahead_72 : decode cX5_ahead 72 = .ok (.iload_n 3, 1) := by decide +kernel
theorem dX5_ahead_73 : decode cX5_ahead 73 = .ok (.ineg, 1) := by decide +kernel
theorem dX5_ahead_74 : decode cX5_ahead 74 = .ok (.invokevirtual 90, 3) := by decide +kernel
theorem dX5_ahead_77 : decode cX5_ahead 77 = .ok (.aload_n 0, 1) := by decide +kernel
theorem dX5_ahead_78 : decode cX5_ahead 78 = .ok (.iload 6, 2) := by decide +kernel
theorem dX5_ahead_80 : decode cX5_ahead 80 = .ok (.invokevirtual 59, 3) := by decide +kernel
theorem dX5_ahead_83 : decode cX5_ahead 83 = .ok (.ireturn, 1) := by decide +kernel
set_option maxRecDepth 20000 in
theorem ggX5_same_X5_areTwoPlates : GoodIn wsX5_same wsX5_areTwoPlates := goodIn_r _ [6, 7, 8, 9, 5, 10, 11, 59, 60, 61, 62, 63, 64, 65, 66, 67, 68] (by decide +kernel) (by decide +kernel)
set_option maxRecDepth 20000 in
theorem gX5_same_X5_areTwoPlates : GoodIn wsX5_same (wsV RX5 94 RX5 yX5_areTwoPlates wsX5_areTwoPlates) := goodIn_app (goodIn_of _ (by decide +kernel)) ggX5_same_X5_areTwoPlates
set_option maxRecDepth 20000 in
theorem ggX5_same_X5_isDay : GoodIn wsX5_same wsX5_isDay := goodIn_r _ [14, 15, 16, 5, 17] (by decide +kernel) (by decide +kernel)
set_option maxRecDepth 20000 in
theorem gX5_same_X5_isDay : GoodIn wsX5_same (va_wsS RX5 72 yX5_isDay wsX5_isDay) := goodIn_app (goodIn_of _ (by decide +kernel)) ggX5_same_X5_isDay
set_option maxRecDepth 20000 in
theorem ggX5_same_X5_whyNoFact : GoodIn wsX5_same wsX5_whyNoFact := goodIn_r _ [21, 1, 22, 23, 5, 24, 25, 26, 27, 28, 29, 30, 59, 60, 61, 62, 63, 64, 65, 66, 67, 68, 69, 70, 71, 72, 73, 74, 75, 76] (by decide +kernel) (by decide +kernel)
set_option maxRecDepth 20000 in
theorem gX5_same_X5_whyNoFact : GoodIn wsX5_same (wsV RX5 75 RX5 yX5_whyNoFact wsX5_whyNoFact) := goodIn_app (goodIn_of _ (by decide +kernel)) ggX5_same_X5_whyNoFact
set_option maxRecDepth 20000 in
theorem ggX5_same_X5_refuse : GoodIn wsX5_same wsX5_refuse := goodIn_r _ [34, 35, 59, 60, 61, 62, 63, 64, 65, 66, 67, 68] (by decide +kernel) (by decide +kernel)
set_option maxRecDepth 20000 in
theorem gX5_same_X5_refuse : GoodIn wsX5_same (wsV RX5 55 RX5 yX5_refuse wsX5_refuse) := goodIn_app (goodIn_of _ (by decide +kernel)) ggX5_same_X5_refuse
set_option maxRecDepth 20000 in
theorem ggX5_same_X2_tell : GoodIn wsX5_same wsX2_tell := goodIn_r _ [39, 40, 30, 41, 42, 43, 26, 27, 28, 29, 69, 70, 71, 72, 73, 74, 75, 76] (by decide +kernel) (by decide +kernel)
set_option maxRecDepth 20000 in
theorem gX5_same_X2_tell : GoodIn wsX5_same (wsV RX5 79 RX2 yX2_tell wsX2_tell) := goodIn_app (goodIn_of _ (by decide +kernel)) ggX5_same_X2_tell
set_option maxRecDepth 20000 in
theorem ggX5_same_X5_platePoint : GoodIn wsX5_same wsX5_platePoint := goodIn_r _ [46] (by decide +kernel) (by decide +kernel)
set_option maxRecDepth 20000 in
theorem gX5_same_X5_platePoint : GoodIn wsX5_same (va_wsS RX5 83 yX5_platePoint wsX5_platePoint) := goodIn_app (goodIn_of _ (by decide +kernel)) ggX5_same_X5_platePoint
set_option maxRecDepth 20000 in
theorem ggX5_same_X2_addLimit : GoodIn wsX5_same wsX2_addLimit := goodIn_r _ [50, 30, 51, 52, 53, 54, 69, 70, 71, 72, 73, 74, 75, 76] (by decide +kernel) (by decide +kernel)
set_option maxRecDepth 20000 in
theorem gX5_same_X2_addLimit : GoodIn wsX5_same (wsV RX5 90 RX2 yX2_addLimit wsX2_addLimit) := goodIn_app (goodIn_of _ (by decide +kernel)) ggX5_same_X2_addLimit
set_option maxRecDepth 20000 in
theorem ggX5_same_X5_answer : GoodIn wsX5_same wsX5_answer := goodIn_r _ [58, 35, 59, 60, 61, 62, 63, 64, 65, 66, 67, 68] (by decide +kernel) (by decide +kernel)
set_option maxRecDepth 20000 in
theorem gX5_same_X5_answer : GoodIn wsX5_same (wsV RX5 59 RX5 yX5_answer wsX5_answer) := goodIn_app (goodIn_of _ (by decide +kernel)) ggX5_same_X5_answer
theorem dX5_same_0 : decode cX5_same 0 = .ok (.aload_n 0, 1) := by decide +kernel
theorem dX5_same_1 : decode cX5_same 1 = .ok (.aload_n 0, 1) := by decide +kernel
theorem dX5_same_2 : decode cX5_same 2 = .ok (.iload_n 1, 1) := by decide +kernel
theorem dX5_same_3 : decode cX5_same 3 = .ok (.iload_n 2, 1) := by decide +kernel
theorem dX5_same_4 : decode cX5_same 4 = .ok (.invokevirtual 94, 3) := by decide +kernel
theorem dX5_same_7 : decode cX5_same 7 = .ok (.iload_n 3, 1) := by decide +kernel
theorem dX5_same_8 : decode cX5_same 8 = .ok (.invokestatic 72, 3) := by decide +kernel
theorem dX5_same_11 : decode cX5_same 11 = .ok (.invokevirtual 75, 3) := by decide +kernel
theorem dX5_same_14 : decode cX5_same 14 = .ok (.istore 4, 2) := by decide +kernel
theorem dX5_same_16 : decode cX5_same 16 = .ok (.iload 4, 2) := by decide +kernel
theorem dX5_same_18 : decode cX5_same 18 = .ok (.ifCond .eq 10, 3) := by decide +kernel
theorem dX5_same_21 : decode cX5_same 21 = .ok (.aload_n 0, 1) := by decide +kernel
theorem dX5_same_22 : decode cX5_same 22 = .ok (.iload 4, 2) := by decide +kernel
theorem dX5_same_24 : decode cX5_same 24 = .ok (.invokevirtual 55, 3) := by decide +kernel
theorem dX5_same_27 : decode cX5_same 27 = .ok (.ireturn, 1) := by decide +kernel
theorem dX5_same_28 : decode cX5_same 28 = .ok (.aload_n 0, 1) := by decide +kernel
theorem dX5_same_29 : decode cX5_same 29 = .ok (.getfield 12, 3) := by decide +kernel
theorem dX5_same_32 : decode cX5_same 32 = .ok (.iconst 5, 1) := by decide +kernel
theorem dX5_same_33 : decode cX5_same 33 = .ok (.iload_n 3, 1) := by decide +kernel
theorem dX5_same_34 : decode cX5_same 34 = .ok (.invokevirtual 79, 3) := by decide +kernel
theorem dX5_same_37 : decode cX5_same 37 = .ok (.istore 5, 2) := by decide +kernel
theorem dX5_same_39 : decode cX5_same 39 = .ok (.aload_n 0, 1) := by decide +kernel
theorem dX5_same_40 : decode cX5_same 40 = .ok (.getfield 12, 3) := by decide +kernel
theorem dX5_same_43 : decode cX5_same 43 = .ok (.iload_n 1, 1) := by decide +kernel
theorem dX5_same_44 : decode cX5_same 44 = .ok (.invokestatic 83, 3) := by decide +kernel
theorem dX5_same_47 : decode cX5_same 47 = .ok (.iload_n 2, 1) := by decide +kernel
theorem dX5_same_48 : decode cX5_same 48 = .ok (.invokestatic 83, 3) := by decide +kernel
theorem dX5_same_51 : decode cX5_same 51 = .ok (.iconst 0, 1) := by decide +kernel
theorem dX5_same_52 : decode cX5_same 52 = .ok (.invokevirtual 90, 3) := by decide +kernel
theorem dX5_same_55 : decode cX5_same 55 = .ok (.aload_n 0, 1) := by decide +kernel
theorem dX5_same_56 : decode cX5_same 56 = .ok (.getfield 12, 3) := by decide +kernel
theorem dX5_same_59 : decode cX5_same 59 = .ok (.iload_n 2, 1) := by decide +kernel
theorem dX5_same_60 : decode cX5_same 60 = .ok (.invokestatic 83, 3) := by decide +kernel
theorem dX5_same_63 : decode cX5_same 63 = .ok (.iload_n 1, 1) := by decide +kernel
theorem dX5_same_64 : decode cX5_same 64 = .ok (.invokestatic 83, 3) := by decide +kernel
theorem dX5_same_67 : decode cX5_same 67 = .ok (.iconst 0, 1) := by decide +kernel
theorem dX5_same_68 : decode cX5_same 68 = .ok (.invokevirtual 90, 3) := by decide +kernel
theorem dX5_same_71 : decode cX5_same 71 = .ok (.aload_n 0, 1) := by decide +kernel
theorem dX5_same_72 : decode cX5_same 72 = .ok (.iload 5, 2) := by decide +kernel
theorem dX5_same_74 : decode cX5_same 74 = .ok (.invokevirtual 59, 3) := by decide +kernel
theorem dX5_same_77 : decode cX5_same 77 = .ok (.ireturn, 1) := by decide +kernel
set_option maxRecDepth 20000 in
theorem ggX5_taken_X5_isPlate : GoodIn wsX5_taken wsX5_isPlate := goodIn_r _ [5, 6, 63, 64, 65, 66, 67, 68, 69, 70, 71, 72] (by decide +kernel) (by decide +kernel)
set_option maxRecDepth 20000 in
theorem gX5_taken_X5_isPlate : GoodIn wsX5_taken (wsV RX5 65 RX5 yX5_isPlate wsX5_isPlate) := goodIn_app (goodIn_of _ (by decide +kernel)) ggX5_taken_X5_isPlate
set_option maxRecDepth 20000 in
theorem ggX5_taken_X5_isTimeRange : GoodIn wsX5_taken wsX5_isTimeRange := goodIn_r _ [9, 10] (by decide +kernel) (by decide +kernel)
set_option maxRecDepth 20000 in
theorem gX5_taken_X5_isTimeRange : GoodIn wsX5_taken (va_wsS RX5 104 yX5_isTimeRange wsX5_isTimeRange) := goodIn_app (goodIn_of _ (by decide +kernel)) ggX5_taken_X5_isTimeRange
set_option maxRecDepth 20000 in
theorem ggX5_taken_X5_isDay : GoodIn wsX5_taken wsX5_isDay := goodIn_r _ [13, 14, 15, 4, 16] (by decide +kernel) (by decide +kernel)
set_option maxRecDepth 20000 in
theorem gX5_taken_X5_isDay : GoodIn wsX5_taken (va_wsS RX5 72 yX5_isDay wsX5_isDay) := goodIn_app (goodIn_of _ (by decide +kernel)) ggX5_taken_X5_isDay
set_option maxRecDepth 20000 in
theorem ggX5_taken_X5_whyNoFact : GoodIn wsX5_taken wsX5_whyNoFact := goodIn_r _ [20, 21, 22, 23, 4, 24, 25, 26, 27, 28, 29, 30, 63, 64, 65, 66, 67, 68, 69, 70, 71, 72, 73, 74, 75, 76, 77, 78, 79, 80] (by decide +kernel) (by decide +kernel)
set_option maxRecDepth 20000 in
theorem gX5_taken_X5_whyNoFact : GoodIn wsX5_taken (wsV RX5 75 RX5 yX5_whyNoFact wsX5_whyNoFact) := goodIn_app (goodIn_of _ (by decide +kernel)) ggX5_taken_X5_whyNoFact
set_option maxRecDepth 20000 in
theorem ggX5_taken_X5_refuse : GoodIn wsX5_taken wsX5_refuse := goodIn_r _ [34, 35, 63, 64, 65, 66, 67, 68, 69, 70, 71, 72] (by decide +kernel) (by decide +kernel)
set_option maxRecDepth 20000 in
theorem gX5_taken_X5_refuse : GoodIn wsX5_taken (wsV RX5 55 RX5 yX5_refuse wsX5_refuse) := goodIn_app (goodIn_of _ (by decide +kernel)) ggX5_taken_X5_refuse
set_option maxRecDepth 20000 in
theorem ggX5_taken_X5_platePoint : GoodIn wsX5_taken wsX5_platePoint := goodIn_r _ [38] (by decide +kernel) (by decide +kernel)
set_option maxRecDepth 20000 in
theorem gX5_taken_X5_platePoint : GoodIn wsX5_taken (va_wsS RX5 83 yX5_platePoint wsX5_platePoint) := goodIn_app (goodIn_of _ (by decide +kernel)) ggX5_taken_X5_platePoint
set_option maxRecDepth 20000 in
theorem ggX5_taken_X5_tellRange : GoodIn wsX5_taken wsX5_tellRange := goodIn_r _ [42, 21, 43, 44, 45, 28, 46, 47, 30, 48, 49, 50, 26, 27, 29, 51, 52, 53, 54, 55, 56, 57, 58, 59, 60, 61, 4, 62, 35, 63, 64, 65, 66, 67, 68, 69, 70, 71, 72, 73, 74, 75, 76, 77, 78, 79, 80] (by decide +kernel) (by decide +kernel)
set_option maxRecDepth 20000 in
theorem gX5_taken_X5_tellRange : GoodIn wsX5_taken (wsV RX5 107 RX5 yX5_tellRange wsX5_tellRange) := goodIn_app (goodIn_of _ (by decide +kernel)) ggX5_taken_X5_tellRange
theorem dX5_taken_0 : decode cX5_taken 0 = .ok (.aload_n 0, 1) := by decide +kernel
theorem dX5_taken_1 : decode cX5_taken 1 = .ok (.aload_n 0, 1) := by decide +kernel
theorem dX5_taken_2 : decode cX5_taken 2 = .ok (.iload_n 1, 1) := by decide +kernel
theorem dX5_taken_3 : decode cX5_taken 3 = .ok (.invokevirtual 65, 3) := by decide +kernel
theorem dX5_taken_6 : decode cX5_taken 6 = .ok (.iload_n 2, 1) := by decide +kernel
theorem dX5_taken_7 : decode cX5_taken 7 = .ok (.iload_n 3, 1) := by decide +kernel
theorem dX5_taken_8 : decode cX5_taken 8 = .ok (.invokestatic 104, 3) := by decide +kernel
theorem dX5_taken_11 : decode cX5_taken 11 = .ok (.ifCond .eq 15, 3) := by decide +kernel
theorem dX5_taken_14 : decode cX5_taken 14 = .ok (.iload 4, 2) := by decide +kernel
theorem dX5_taken_16 : decode cX5_taken 16 = .ok (.invokestatic 72, 3) := by decide +kernel
theorem dX5_taken_19 : decode cX5_taken 19 = .ok (.ifCond .eq 7, 3) := by decide +kernel
theorem dX5_taken_22 : decode cX5_taken 22 = .ok (.iconst 1, 1) := by decide +kernel
theorem dX5_taken_23 : decode cX5_taken 23 = .ok (.goto 4, 3) := by decide +kernel
theorem dX5_taken_26 : decode cX5_taken 26 = .ok (.iconst 0, 1) := by decide +kernel
theorem dX5_taken_27 : decode cX5_taken 27 = .ok (.invokevirtual 75, 3) := by decide +kernel
theorem dX5_taken_30 : decode cX5_taken 30 = .ok (.istore 5, 2) := by decide +kernel
theorem dX5_taken_32 : decode cX5_taken 32 = .ok (.iload 5, 2) := by decide +kernel
theorem dX5_taken_34 : decode cX5_taken 34 = .ok (.ifCond .eq 10, 3) := by decide +kernel
theorem dX5_taken_37 : decode cX5_taken 37 = .ok (.aload_n 0, 1) := by decide +kernel
theorem dX5_taken_38 : decode cX5_taken 38 = .ok (.iload 5, 2) := by decide +kernel
theorem dX5_taken_40 : decode cX5_taken 40 = .ok (.invokevirtual 55, 3) := by decide +kernel
theorem dX5_taken_43 : decode cX5_taken 43 = .ok (.ireturn, 1) := by decide +kernel
theorem dX5_taken_44 : decode cX5_taken 44 = .ok (.aload_n 0, 1) := by decide +kernel
theorem dX5_taken_45 : decode cX5_taken 45 = .ok (.iconst 2, 1) := by decide +kernel
theorem dX5_taken_46 : decode cX5_taken 46 = .ok (.iload_n 1, 1) := by decide +kernel
theorem dX5_taken_47 : decode cX5_taken 47 = .ok (.invokestatic 83, 3) := by decide +kernel
theorem dX5_taken_50 : decode cX5_taken 50 = .ok (.iload_n 2, 1) := by decide +kernel
theorem dX5_taken_51 : decode cX5_taken 51 = .ok (.iload_n 3, 1) := by decide +kernel
theorem dX5_taken_52 : decode cX5_taken 52 = .ok (.iload 4, 2) := by decide +kernel
theorem dX5_taken_54 : decode cX5_taken 54 = .ok (.invokevirtual 107, 3) := by decide +kernel
theorem dX5_taken_57 : decode cX5_taken 57 = .ok (.ireturn, 1) := by decide +kernel
set_option maxRecDepth 20000 in
theorem ggX5_stood_X5_isMotif : GoodIn wsX5_stood wsX5_isMotif := goodIn_r _ [5, 6, 63, 64, 65, 66, 67, 68, 69, 70, 71, 72] (by decide +kernel) (by decide +kernel)
set_option maxRecDepth 20000 in
theorem gX5_stood_X5_isMotif : GoodIn wsX5_stood (wsV RX5 69 RX5 yX5_isMotif wsX5_isMotif) := goodIn_app (goodIn_of _ (by decide +kernel)) ggX5_stood_X5_isMotif
set_option maxRecDepth 20000 in
theorem ggX5_stood_X5_isTimeRange : GoodIn wsX5_stood wsX5_isTimeRange := goodIn_r _ [9, 10] (by decide +kernel) (by decide +kernel)
set_option maxRecDepth 20000 in
theorem gX5_stood_X5_isTimeRange : GoodIn wsX5_stood (va_wsS RX5 104 yX5_isTimeRange wsX5_isTimeRange) := goodIn_app (goodIn_of _ (by decide +kernel)) ggX5_stood_X5_isTimeRange
set_option maxRecDepth 20000 in
theorem ggX5_stood_X5_isDay : GoodIn wsX5_stood wsX5_isDay := goodIn_r _ [13, 14, 15, 4, 16] (by decide +kernel) (by decide +kernel)
set_option maxRecDepth 20000 in
theorem gX5_stood_X5_isDay : GoodIn wsX5_stood (va_wsS RX5 72 yX5_isDay wsX5_isDay) := goodIn_app (goodIn_of _ (by decide +kernel)) ggX5_stood_X5_isDay
set_option maxRecDepth 20000 in
theorem ggX5_stood_X5_whyNoFact : GoodIn wsX5_stood wsX5_whyNoFact := goodIn_r _ [20, 21, 22, 23, 4, 24, 25, 26, 27, 28, 29, 30, 63, 64, 65, 66, 67, 68, 69, 70, 71, 72, 73, 74, 75, 76, 77, 78, 79, 80] (by decide +kernel) (by decide +kernel)
set_option maxRecDepth 20000 in
theorem gX5_stood_X5_whyNoFact : GoodIn wsX5_stood (wsV RX5 75 RX5 yX5_whyNoFact wsX5_whyNoFact) := goodIn_app (goodIn_of _ (by decide +kernel)) ggX5_stood_X5_whyNoFact
set_option maxRecDepth 20000 in
theorem ggX5_stood_X5_refuse : GoodIn wsX5_stood wsX5_refuse := goodIn_r _ [34, 35, 63, 64, 65, 66, 67, 68, 69, 70, 71, 72] (by decide +kernel) (by decide +kernel)
set_option maxRecDepth 20000 in
theorem gX5_stood_X5_refuse : GoodIn wsX5_stood (wsV RX5 55 RX5 yX5_refuse wsX5_refuse) := goodIn_app (goodIn_of _ (by decide +kernel)) ggX5_stood_X5_refuse
set_option maxRecDepth 20000 in
theorem ggX5_stood_X5_motifPoint : GoodIn wsX5_stood wsX5_motifPoint := goodIn_r _ [38] (by decide +kernel) (by decide +kernel)
set_option maxRecDepth 20000 in
theorem gX5_stood_X5_motifPoint : GoodIn wsX5_stood (va_wsS RX5 86 yX5_motifPoint wsX5_motifPoint) := goodIn_app (goodIn_of _ (by decide +kernel)) ggX5_stood_X5_motifPoint
set_option maxRecDepth 20000 in
theorem ggX5_stood_X5_tellRange : GoodIn wsX5_stood wsX5_tellRange := goodIn_r _ [42, 21, 43, 44, 45, 28, 46, 47, 30, 48, 49, 50, 26, 27, 29, 51, 52, 53, 54, 55, 56, 57, 58, 59, 60, 61, 4, 62, 35, 63, 64, 65, 66, 67, 68, 69, 70, 71, 72, 73, 74, 75, 76, 77, 78, 79, 80] (by decide +kernel) (by decide +kernel)
set_option maxRecDepth 20000 in
theorem gX5_stood_X5_tellRange : GoodIn wsX5_stood (wsV RX5 107 RX5 yX5_tellRange wsX5_tellRange) := goodIn_app (goodIn_of _ (by decide +kernel)) ggX5_stood_X5_tellRange
theorem dX5_stood_0 : decode cX5_stood 0 = .ok (.aload_n 0, 1) := by decide +kernel
theorem dX5_stood_1 : decode cX5_stood 1 = .ok (.aload_n 0, 1) := by decide +kernel
theorem dX5_stood_2 : decode cX5_stood 2 = .ok (.iload_n 1, 1) := by decide +kernel
theorem dX5_stood_3 : decode cX5_stood 3 = .ok (.invokevirtual 69, 3) := by decide +kernel
theorem dX5_stood_6 : decode cX5_stood 6 = .ok (.iload_n 3, 1) := by decide +kernel
theorem dX5_stood_7 : decode cX5_stood 7 = .ok (.iload 4, 2) := by decide +kernel
theorem dX5_stood_9 : decode cX5_stood 9 = .ok (.invokestatic 104, 3) := by decide +kernel
theorem dX5_stood_12 : decode cX5_stood 12 = .ok (.ifCond .eq 15, 3) := by decide +kernel
theorem dX5_stood_15 : decode cX5_stood 15 = .ok (.iload 5, 2) := by decide +kernel
theorem dX5_stood_17 : decode cX5_stood 17 = .ok (.invokestatic 72, 3) := by decide +kernel
theorem dX5_stood_20 : decode cX5_stood 20 = .ok (.ifCond .eq 7, 3) := by decide +kernel
theorem dX5_stood_23 : decode cX5_stood 23 = .ok (.iconst 1, 1) := by decide +kernel
theorem dX5_stood_24 : decode cX5_stood 24 = .ok (.goto 4, 3) := by decide +kernel
theorem dX5_stood_27 : decode cX5_stood 27 = .ok (.iconst 0, 1) := by decide +kernel
theorem dX5_stood_28 : decode cX5_stood 28 = .ok (.invokevirtual 75, 3) := by decide +kernel
theorem dX5_stood_31 : decode cX5_stood 31 = .ok (.istore 6, 2) := by decide +kernel
theorem dX5_stood_33 : decode cX5_stood 33 = .ok (.iload 6, 2) := by decide +kernel
theorem dX5_stood_35 : decode cX5_stood 35 = .ok (.ifCond .eq 10, 3) := by decide +kernel
theorem dX5_stood_38 : decode cX5_stood 38 = .ok (.aload_n 0, 1) := by decide +kernel
theorem dX5_stood_39 : decode cX5_stood 39 = .ok (.iload 6, 2) := by decide +kernel
theorem dX5_stood_41 : decode cX5_stood 41 = .ok (.invokevirtual 55, 3) := by decide +kernel
theorem dX5_stood_44 : decode cX5_stood 44 = .ok (.ireturn, 1) := by decide +kernel
theorem dX5_stood_45 : decode cX5_stood 45 = .ok (.aload_n 0, 1) := by decide +kernel
theorem dX5_stood_46 : decode cX5_stood 46 = .ok (.iload_n 2, 1) := by decide +kernel
theorem dX5_stood_47 : decode cX5_stood 47 = .ok (.ifCond .eq 7, 3) := by decide +kernel
theorem dX5_stood_50 : decode cX5_stood 50 = .ok (.iconst 4, 1) := by decide +kernel
theorem dX5_stood_51 : decode cX5_stood 51 = .ok (.goto 4, 3) := by decide +kernel
theorem dX5_stood_54 : decode cX5_stood 54 = .ok (.iconst 3, 1) := by decide +kernel
theorem dX5_stood_55 : decode cX5_stood 55 = .ok (.iload_n 1, 1) := by decide +kernel
theorem dX5_stood_56 : decode cX5_stood 56 = .ok (.iload_n 2, 1) := by decide +kernel
theorem dX5_stood_57 : decode cX5_stood 57 = .ok (.invokestatic 86, 3) := by decide +kernel
theorem dX5_stood_60 : decode cX5_stood 60 = .ok (.iload_n 3, 1) := by decide +kernel
theorem dX5_stood_61 : decode cX5_stood 61 = .ok (.iload 4, 2) := by decide +kernel
theorem dX5_stood_63 : decode cX5_stood 63 = .ok (.iload 5, 2) := by decide +kernel
theorem dX5_stood_65 : decode cX5_stood 65 = .ok (.invokevirtual 107, 3) := by decide +kernel
theorem dX5_stood_68 : decode cX5_stood 68 = .ok (.ireturn, 1) := by decide +kernel
set_option maxRecDepth 20000 in
theorem ggX5_cross_X2_has : GoodIn wsX5_cross wsX2_has := goodIn_r _ [7, 8, 39, 40, 41, 42, 43, 44, 45, 46] (by decide +kernel) (by decide +kernel)
set_option maxRecDepth 20000 in
theorem gX5_cross_X2_has : GoodIn wsX5_cross (wsV RX5 111 RX2 yX2_has wsX2_has) := goodIn_app (goodIn_of _ (by decide +kernel)) ggX5_cross_X2_has
set_option maxRecDepth 20000 in
theorem ggX5_cross_X5_isDay : GoodIn wsX5_cross wsX5_isDay := goodIn_r _ [12, 13, 14, 11, 15] (by decide +kernel) (by decide +kernel)
set_option maxRecDepth 20000 in
theorem gX5_cross_X5_isDay : GoodIn wsX5_cross (va_wsS RX5 72 yX5_isDay wsX5_isDay) := goodIn_app (goodIn_of _ (by decide +kernel)) ggX5_cross_X5_isDay
set_option maxRecDepth 20000 in
theorem ggX5_cross_X5_whyNot : GoodIn wsX5_cross wsX5_whyNot := goodIn_r _ [18] (by decide +kernel) (by decide +kernel)
set_option maxRecDepth 20000 in
theorem gX5_cross_X5_whyNot : GoodIn wsX5_cross (va_wsS RX5 114 yX5_whyNot wsX5_whyNot) := goodIn_app (goodIn_of _ (by decide +kernel)) ggX5_cross_X5_whyNot
set_option maxRecDepth 20000 in
theorem ggX5_cross_X2_crossingDay : GoodIn wsX5_cross wsX2_crossingDay := goodIn_r _ [22, 23, 24, 4, 5, 6, 7, 8, 39, 40, 41, 42, 43, 44, 45, 46] (by decide +kernel) (by decide +kernel)
set_option maxRecDepth 20000 in
theorem gX5_cross_X2_crossingDay : GoodIn wsX5_cross (wsV RX5 117 RX2 yX2_crossingDay wsX2_crossingDay) := goodIn_app (goodIn_of _ (by decide +kernel)) ggX5_cross_X2_crossingDay
set_option maxRecDepth 20000 in
theorem ggX5_cross_X2_crossOut : GoodIn wsX5_cross wsX2_crossOut := goodIn_r _ [28, 23, 24, 4, 5, 6, 7, 8, 39, 40, 41, 42, 43, 44, 45, 46] (by decide +kernel) (by decide +kernel)
set_option maxRecDepth 20000 in
theorem gX5_cross_X2_crossOut : GoodIn wsX5_cross (wsV RX5 120 RX2 yX2_crossOut wsX2_crossOut) := goodIn_app (goodIn_of _ (by decide +kernel)) ggX5_cross_X2_crossOut
theorem dX5_cross_0 : decode cX5_cross 0 = .ok (.aload_n 0, 1) := by decide +kernel
theorem dX5_cross_1 : decode cX5_cross 1 = .ok (.getfield 12, 3) := by decide +kernel
theorem dX5_cross_4 : decode cX5_cross 4 = .ok (.iload_n 1, 1) := by decide +kernel
theorem dX5_cross_5 : decode cX5_cross 5 = .ok (.invokevirtual 111, 3) := by decide +kernel
theorem dX5_cross_8 : decode cX5_cross 8 = .ok (.iload_n 2, 1) := by decide +kernel
theorem dX5_cross_9 : decode cX5_cross 9 = .ok (.invokestatic 72, 3) := by decide +kernel
theorem dX5_cross_12 : decode cX5_cross 12 = .ok (.invokestatic 114, 3) := by decide +kernel
theorem dX5_cross_15 : decode cX5_cross 15 = .ok (.istore_n 3, 1) := by decide +kernel
theorem dX5_cross_16 : decode cX5_cross 16 = .ok (.iload_n 3, 1) := by decide +kernel
theorem dX5_cross_17 : decode cX5_cross 17 = .ok (.ifCond .ne 17, 3) := by decide +kernel
theorem dX5_cross_20 : decode cX5_cross 20 = .ok (.aload_n 0, 1) := by decide +kernel
theorem dX5_cross_21 : decode cX5_cross 21 = .ok (.getfield 12, 3) := by decide +kernel
theorem dX5_cross_24 : decode cX5_cross 24 = .ok (.iload_n 1, 1) := by decide +kernel
theorem dX5_cross_25 : decode cX5_cross 25 = .ok (.invokevirtual 117, 3) := by decide +kernel
theorem dX5_cross_28 : decode cX5_cross 28 = .ok (.iconst (-1), 1) := by decide +kernel
theorem dX5_cross_29 : decode cX5_cross 29 = .ok (.if_icmp .eq 5, 3) := by decide +kernel
theorem dX5_cross_32 : decode cX5_cross 32 = .ok (.iconst 4, 1) := by decide +kernel
theorem dX5_cross_33 : decode cX5_cross 33 = .ok (.istore_n 3, 1) := by decide +kernel
theorem dX5_cross_34 : decode cX5_cross 34 = .ok (.aload_n 0, 1) := by decide +kernel
theorem dX5_cross_35 : decode cX5_cross 35 = .ok (.iload_n 3, 1) := by decide +kernel
theorem dX5_cross_36 : decode cX5_cross 36 = .ok (.putfield 48, 3) := by decide +kernel
theorem dX5_cross_39 : decode cX5_cross 39 = .ok (.iload_n 3, 1) := by decide +kernel
theorem dX5_cross_40 : decode cX5_cross 40 = .ok (.ifCond .eq 5, 3) := by decide +kernel
theorem dX5_cross_43 : decode cX5_cross 43 = .ok (.iconst 0, 1) := by decide +kernel
theorem dX5_cross_44 : decode cX5_cross 44 = .ok (.ireturn, 1) := by decide +kernel
theorem dX5_cross_45 : decode cX5_cross 45 = .ok (.aload_n 0, 1) := by decide +kernel
theorem dX5_cross_46 : decode cX5_cross 46 = .ok (.getfield 12, 3) := by decide +kernel
theorem dX5_cross_49 : decode cX5_cross 49 = .ok (.iload_n 1, 1) := by decide +kernel
theorem dX5_cross_50 : decode cX5_cross 50 = .ok (.iload_n 2, 1) := by decide +kernel
theorem dX5_cross_51 : decode cX5_cross 51 = .ok (.invokevirtual 120, 3) := by decide +kernel
theorem dX5_cross_54 : decode cX5_cross 54 = .ok (.iconst 1, 1) := by decide +kernel
theorem dX5_cross_55 : decode cX5_cross 55 = .ok (.ireturn, 1) := by decide +kernel
set_option maxRecDepth 20000 in
theorem ggX5_fact_X2_has : GoodIn wsX5_fact wsX2_has := goodIn_r _ [6, 7, 55, 56, 57, 58, 59, 60, 61, 62] (by decide +kernel) (by decide +kernel)
set_option maxRecDepth 20000 in
theorem gX5_fact_X2_has : GoodIn wsX5_fact (wsV RX5 111 RX2 yX2_has wsX2_has) := goodIn_app (goodIn_of _ (by decide +kernel)) ggX5_fact_X2_has
set_option maxRecDepth 20000 in
theorem ggX5_fact_X5_isWithin : GoodIn wsX5_fact wsX5_isWithin := goodIn_r _ [11] (by decide +kernel) (by decide +kernel)
set_option maxRecDepth 20000 in
theorem gX5_fact_X5_isWithin : GoodIn wsX5_fact (va_wsS RX5 100 yX5_isWithin wsX5_isWithin) := goodIn_app (goodIn_of _ (by decide +kernel)) ggX5_fact_X5_isWithin
set_option maxRecDepth 20000 in
theorem ggX5_fact_X5_whyNot : GoodIn wsX5_fact wsX5_whyNot := goodIn_r _ [14] (by decide +kernel) (by decide +kernel)
set_option maxRecDepth 20000 in
theorem gX5_fact_X5_whyNot : GoodIn wsX5_fact (va_wsS RX5 114 yX5_whyNot wsX5_whyNot) := goodIn_app (goodIn_of _ (by decide +kernel)) ggX5_fact_X5_whyNot
set_option maxRecDepth 20000 in
theorem ggX5_fact_X5_refuse : GoodIn wsX5_fact wsX5_refuse := goodIn_r _ [18, 19, 45, 46, 47, 48, 49, 50, 51, 52, 53, 54] (by decide +kernel) (by decide +kernel)
set_option maxRecDepth 20000 in
theorem gX5_fact_X5_refuse : GoodIn wsX5_fact (wsV RX5 55 RX5 yX5_refuse wsX5_refuse) := goodIn_app (goodIn_of _ (by decide +kernel)) ggX5_fact_X5_refuse
set_option maxRecDepth 20000 in
theorem ggX5_fact_X2_kindOf : GoodIn wsX5_fact wsX2_kindOf := goodIn_r _ [23, 24, 25, 3, 4, 5, 6, 7, 55, 56, 57, 58, 59, 60, 61, 62] (by decide +kernel) (by decide +kernel)
set_option maxRecDepth 20000 in
theorem gX5_fact_X2_kindOf : GoodIn wsX5_fact (wsV RX5 124 RX2 yX2_kindOf wsX2_kindOf) := goodIn_app (goodIn_of _ (by decide +kernel)) ggX5_fact_X2_kindOf
set_option maxRecDepth 20000 in
theorem ggX5_fact_X5_answer : GoodIn wsX5_fact wsX5_answer := goodIn_r _ [29, 19, 45, 46, 47, 48, 49, 50, 51, 52, 53, 54] (by decide +kernel) (by decide +kernel)
set_option maxRecDepth 20000 in
theorem gX5_fact_X5_answer : GoodIn wsX5_fact (wsV RX5 59 RX5 yX5_answer wsX5_answer) := goodIn_app (goodIn_of _ (by decide +kernel)) ggX5_fact_X5_answer
set_option maxRecDepth 20000 in
theorem ggX5_fact_X2_tellingDay : GoodIn wsX5_fact wsX2_tellingDay := goodIn_r _ [33, 34, 25, 3, 4, 5, 6, 7, 55, 56, 57, 58, 59, 60, 61, 62] (by decide +kernel) (by decide +kernel)
set_option maxRecDepth 20000 in
theorem gX5_fact_X2_tellingDay : GoodIn wsX5_fact (wsV RX5 127 RX2 yX2_tellingDay wsX2_tellingDay) := goodIn_app (goodIn_of _ (by decide +kernel)) ggX5_fact_X2_tellingDay
set_option maxRecDepth 20000 in
theorem ggX5_fact_X2_crossingDay : GoodIn wsX5_fact wsX2_crossingDay := goodIn_r _ [38, 39, 25, 3, 4, 5, 6, 7, 55, 56, 57, 58, 59, 60, 61, 62] (by decide +kernel) (by decide +kernel)
set_option maxRecDepth 20000 in
theorem gX5_fact_X2_crossingDay : GoodIn wsX5_fact (wsV RX5 117 RX2 yX2_crossingDay wsX2_crossingDay) := goodIn_app (goodIn_of _ (by decide +kernel)) ggX5_fact_X2_crossingDay
set_option maxRecDepth 20000 in
theorem ggX5_fact_X2_limitsOf : GoodIn wsX5_fact wsX2_limitsOf := goodIn_r _ [43, 44, 25, 3, 4, 5, 6, 7, 55, 56, 57, 58, 59, 60, 61, 62] (by decide +kernel) (by decide +kernel)
set_option maxRecDepth 20000 in
theorem gX5_fact_X2_limitsOf : GoodIn wsX5_fact (wsV RX5 130 RX2 yX2_limitsOf wsX2_limitsOf) := goodIn_app (goodIn_of _ (by decide +kernel)) ggX5_fact_X2_limitsOf
theorem dX5_fact_0 : decode cX5_fact 0 = .ok (.aload_n 0, 1) := by decide +kernel
theorem dX5_fact_1 : decode cX5_fact 1 = .ok (.getfield 12, 3) := by decide +kernel
theorem dX5_fact_4 : decode cX5_fact 4 = .ok (.iload_n 1, 1) := by decide +kernel
theorem dX5_fact_5 : decode cX5_fact 5 = .ok (.invokevirtual 111, 3) := by decide +kernel
theorem dX5_fact_8 : decode cX5_fact 8 = .ok (.iload_n 2, 1) := by decide +kernel
theorem dX5_fact_9 : decode cX5_fact 9 = .ok (.iconst 0, 1) := by decide +kernel
theorem dX5_fact_10 : decode cX5_fact 10 = .ok (.iconst 3, 1) := by decide +kernel
theorem dX5_fact_11 : decode cX5_fact 11 = .ok (.invokestatic 100, 3) := by decide +kernel
theorem dX5_fact_14 : decode cX5_fact 14 = .ok (.invokestatic 114, 3) := by decide +kernel
theorem dX5_fact_17 : decode cX5_fact 17 = .ok (.istore_n 3, 1) := by decide +kernel
theorem dX5_fact_18 : decode cX5_fact 18 = .ok (.iload_n 3, 1) := by decide +kernel
theorem dX5_fact_19 : decode cX5_fact 19 = .ok (.ifCond .eq 9, 3) := by decide +kernel
theorem dX5_fact_22 : decode cX5_fact 22 = .ok (.aload_n 0, 1) := by decide +kernel
theorem dX5_fact_23 : decode cX5_fact 23 = .ok (.iload_n 3, 1) := by decide +kernel
theorem dX5_fact_24 : decode cX5_fact 24 = .ok (.invokevirtual 55, 3) := by decide +kernel
theorem dX5_fact_27 : decode cX5_fact 27 = .ok (.ireturn, 1) := by decide +kernel
theorem dX5_fact_28 : decode cX5_fact 28 = .ok (.iload_n 2, 1) := by decide +kernel
theorem dX5_fact_29 : decode cX5_fact 29 = .ok (.tableswitch 66 0 2 #[27, 40, 53], 27) := by decide +kernel
theorem dX5_fact_56 : decode cX5_fact 56 = .ok (.aload_n 0, 1) := by decide +kernel
theorem dX5_fact_57 : decode cX5_fact 57 = .ok (.aload_n 0, 1) := by decide +kernel
theorem dX5_fact_58 : decode cX5_fact 58 = .ok (.getfield 12, 3) := by decide +kernel
theorem dX5_fact_61 : decode cX5_fact 61 = .ok (.iload_n 1, 1) := by decide +kernel
theorem dX5_fact_62 : decode cX5_fact 62 = .ok (.invokevirtual 124, 3) := by decide +kernel
theorem dX5_fact_65 : decode cX5_fact 65 = .ok (.invokevirtual 59, 3) := by decide +kernel
theorem dX5_fact_68 : decode cX5_fact 68 = .ok (.ireturn, 1) := by decide +kernel
theorem dX5_fact_69 : decode cX5_fact 69 = .ok (.aload_n 0, 1) := by decide +kernel
theorem dX5_fact_70 : decode cX5_fact 70 = .ok (.aload_n 0, 1) := by decide +kernel
theorem dX5_fact_71 : decode cX5_fact 71 = .ok (.getfield 12, 3) := by decide +kernel
theorem dX5_fact_74 : decode cX5_fact 74 = .ok (.iload_n 1, 1) := by decide +kernel
theorem dX5_fact_75 : decode cX5_fact 75 = .ok (.invokevirtual 127, 3) := by decide +kernel
theorem dX5_fact_78 : decode cX5_fact 78 = .ok (.invokevirtual 59, 3) := by decide +kernel
theorem dX5_fact_81 : decode cX5_fact 81 = .ok (.ireturn, 1) := by decide +kernel
theorem dX5_fact_82 : decode cX5_fact 82 = .ok (.aload_n 0, 1) := by decide +kernel
theorem dX5_fact_83 : decode cX5_fact 83 = .ok (.aload_n 0, 1) := by decide +kernel
theorem dX5_fact_84 : decode cX5_fact 84 = .ok (.getfield 12, 3) := by decide +kernel
theorem dX5_fact_87 : decode cX5_fact 87 = .ok (.iload_n 1, 1) := by decide +kernel
theorem dX5_fact_88 : decode cX5_fact 88 = .ok (.invokevirtual 117, 3) := by decide +kernel
theorem dX5_fact_91 : decode cX5_fact 91 = .ok (.invokevirtual 59, 3) := by decide +kernel
theorem dX5_fact_94 : decode cX5_fact 94 = .ok (.ireturn, 1) := by decide +kernel
theorem dX5_fact_95 : decode cX5_fact 95 = .ok (.aload_n 0, 1) := by decide +kernel
theorem dX5_fact_96 : decode cX5_fact 96 = .ok (.aload_n 0, 1) := by decide +kernel
theorem dX5_fact_97 : decode cX5_fact 97 = .ok (.getfield 12, 3) := by decide +kernel
theorem dX5_fact_100 : decode cX5_fact 100 = .ok (.iload_n 1, 1) := by decide +kernel
theorem dX5_fact_101 : decode cX5_fact 101 = .ok (.invokevirtual 130, 3) := by decide +kernel
theorem dX5_fact_104 : decode cX5_fact 104 = .ok (.invokevirtual 59, 3) := by decide +kernel
theorem dX5_fact_107 : decode cX5_fact 107 = .ok (.ireturn, 1) := by decide +kernel
set_option maxRecDepth 20000 in
theorem ggX5_span_X5_isPlate : GoodIn wsX5_span wsX5_isPlate := goodIn_r _ [5, 6, 110, 111, 112, 113, 114, 115, 116, 117, 118, 119] (by decide +kernel) (by decide +kernel)
set_option maxRecDepth 20000 in
theorem gX5_span_X5_isPlate : GoodIn wsX5_span (wsV RX5 65 RX5 yX5_isPlate wsX5_isPlate) := goodIn_app (goodIn_of _ (by decide +kernel)) ggX5_span_X5_isPlate
set_option maxRecDepth 20000 in
theorem ggX5_span_X5_isDay : GoodIn wsX5_span wsX5_isDay := goodIn_r _ [9, 10, 11, 4, 12] (by decide +kernel) (by decide +kernel)
set_option maxRecDepth 20000 in
theorem gX5_span_X5_isDay : GoodIn wsX5_span (va_wsS RX5 72 yX5_isDay wsX5_isDay) := goodIn_app (goodIn_of _ (by decide +kernel)) ggX5_span_X5_isDay
set_option maxRecDepth 20000 in
theorem ggX5_span_X5_whyNot : GoodIn wsX5_span wsX5_whyNot := goodIn_r _ [15] (by decide +kernel) (by decide +kernel)
set_option maxRecDepth 20000 in
theorem gX5_span_X5_whyNot : GoodIn wsX5_span (va_wsS RX5 114 yX5_whyNot wsX5_whyNot) := goodIn_app (goodIn_of _ (by decide +kernel)) ggX5_span_X5_whyNot
set_option maxRecDepth 20000 in
theorem ggX5_span_X5_refuse : GoodIn wsX5_span wsX5_refuse := goodIn_r _ [19, 20, 110, 111, 112, 113, 114, 115, 116, 117, 118, 119] (by decide +kernel) (by decide +kernel)
set_option maxRecDepth 20000 in
theorem gX5_span_X5_refuse : GoodIn wsX5_span (wsV RX5 55 RX5 yX5_refuse wsX5_refuse) := goodIn_app (goodIn_of _ (by decide +kernel)) ggX5_span_X5_refuse
set_option maxRecDepth 20000 in
theorem ggX5_span_X5_platePoint : GoodIn wsX5_span wsX5_platePoint := goodIn_r _ [23] (by decide +kernel) (by decide +kernel)
set_option maxRecDepth 20000 in
theorem gX5_span_X5_platePoint : GoodIn wsX5_span (va_wsS RX5 83 yX5_platePoint wsX5_platePoint) := goodIn_app (goodIn_of _ (by decide +kernel)) ggX5_span_X5_platePoint
set_option maxRecDepth 20000 in
theorem ggX5_span_X5_endOfSpan : GoodIn wsX5_span wsX5_endOfSpan := goodIn_r _ [27, 28, 29, 30, 31, 32, 33, 34, 35, 36, 37, 38, 39, 40, 41, 42, 43, 44, 45, 46, 47, 48, 49, 50, 51, 52, 53, 54, 55, 56, 57, 58, 59, 60, 61, 62, 63, 64, 65, 66, 67, 68, 69, 70, 71, 72, 73, 74, 75, 76, 77, 78, 79, 80, 81, 82, 83, 84, 85, 86, 87, 88, 89, 90, 91, 92, 93, 94, 95, 96, 97, 98, 99, 100, 101, 16, 17, 18, 4, 19, 20, 102, 103, 104, 105, 106, 107, 108, 109, 110, 111, 112, 113, 114, 115, 116, 117, 118, 119, 120, 121, 122, 123, 124, 125, 126, 127, 128, 129, 130, 131, 132, 133] (by decide +kernel) (by decide +kernel)
set_option maxRecDepth 20000 in
theorem gX5_span_X5_endOfSpan : GoodIn wsX5_span (wsV RX5 133 RX5 yX5_endOfSpan wsX5_endOfSpan) := goodIn_app (goodIn_of _ (by decide +kernel)) ggX5_span_X5_endOfSpan
theorem dX5_span_0 : decode cX5_span 0 = .ok (.aload_n 0, 1) := by decide +kernel
theorem dX5_span_1 : decode cX5_span 1 = .ok (.iload_n 1, 1) := by decide +kernel
theorem dX5_span_2 : decode cX5_span 2 = .ok (.invokevirtual 65, 3) := by decide +kernel
theorem dX5_span_5 : decode cX5_span 5 = .ok (.iload_n 3, 1) := by decide +kernel
theorem dX5_span_6 : decode cX5_span 6 = .ok (.invokestatic 72, 3) := by decide +kernel
theorem dX5_span_9 : decode cX5_span 9 = .ok (.invokestatic 114, 3) := by decide +kernel
theorem dX5_span_12 : decode cX5_span 12 = .ok (.istore 4, 2) := by decide +kernel
theorem dX5_span_14 : decode cX5_span 14 = .ok (.iload 4, 2) := by decide +kernel
theorem dX5_span_16 : decode cX5_span 16 = .ok (.ifCond .eq 10, 3) := by decide +kernel
theorem dX5_span_19 : decode cX5_span 19 = .ok (.aload_n 0, 1) := by decide +kernel
theorem dX5_span_20 : decode cX5_span 20 = .ok (.iload 4, 2) := by decide +kernel
theorem dX5_span_22 : decode cX5_span 22 = .ok (.invokevirtual 55, 3) := by decide +kernel
theorem dX5_span_25 : decode cX5_span 25 = .ok (.ireturn, 1) := by decide +kernel
theorem dX5_span_26 : decode cX5_span 26 = .ok (.aload_n 0, 1) := by decide +kernel
theorem dX5_span_27 : decode cX5_span 27 = .ok (.iload_n 1, 1) := by decide +kernel
theorem dX5_span_28 : decode cX5_span 28 = .ok (.invokestatic 83, 3) := by decide +kernel
theorem dX5_span_31 : decode cX5_span 31 = .ok (.iload_n 2, 1) := by decide +kernel
theorem dX5_span_32 : decode cX5_span 32 = .ok (.iload_n 3, 1) := by decide +kernel
theorem dX5_span_33 : decode cX5_span 33 = .ok (.invokevirtual 133, 3) := by decide +kernel
theorem dX5_span_36 : decode cX5_span 36 = .ok (.ireturn, 1) := by decide +kernel
set_option maxRecDepth 20000 in
theorem ggX5_times_X5_isMotif : GoodIn wsX5_times wsX5_isMotif := goodIn_r _ [5, 6, 110, 111, 112, 113, 114, 115, 116, 117, 118, 119] (by decide +kernel) (by decide +kernel)
set_option maxRecDepth 20000 in
theorem gX5_times_X5_isMotif : GoodIn wsX5_times (wsV RX5 69 RX5 yX5_isMotif wsX5_isMotif) := goodIn_app (goodIn_of _ (by decide +kernel)) ggX5_times_X5_isMotif
set_option maxRecDepth 20000 in
theorem ggX5_times_X5_isDay : GoodIn wsX5_times wsX5_isDay := goodIn_r _ [9, 10, 11, 4, 12] (by decide +kernel) (by decide +kernel)
set_option maxRecDepth 20000 in
theorem gX5_times_X5_isDay : GoodIn wsX5_times (va_wsS RX5 72 yX5_isDay wsX5_isDay) := goodIn_app (goodIn_of _ (by decide +kernel)) ggX5_times_X5_isDay
set_option maxRecDepth 20000 in
theorem ggX5_times_X5_whyNot : GoodIn wsX5_times wsX5_whyNot := goodIn_r _ [15] (by decide +kernel) (by decide +kernel)
set_option maxRecDepth 20000 in
theorem gX5_times_X5_whyNot : GoodIn wsX5_times (va_wsS RX5 114 yX5_whyNot wsX5_whyNot) := goodIn_app (goodIn_of _ (by decide +kernel)) ggX5_times_X5_whyNot
set_option maxRecDepth 20000 in
theorem ggX5_times_X5_refuse : GoodIn wsX5_times wsX5_refuse := goodIn_r _ [19, 20, 110, 111, 112, 113, 114, 115, 116, 117, 118, 119] (by decide +kernel) (by decide +kernel)
set_option maxRecDepth 20000 in
theorem gX5_times_X5_refuse : GoodIn wsX5_times (wsV RX5 55 RX5 yX5_refuse wsX5_refuse) := goodIn_app (goodIn_of _ (by decide +kernel)) ggX5_times_X5_refuse
set_option maxRecDepth 20000 in
theorem ggX5_times_X5_motifPoint : GoodIn wsX5_times wsX5_motifPoint := goodIn_r _ [23] (by decide +kernel) (by decide +kernel)
set_option maxRecDepth 20000 in
theorem gX5_times_X5_motifPoint : GoodIn wsX5_times (va_wsS RX5 86 yX5_motifPoint wsX5_motifPoint) := goodIn_app (goodIn_of _ (by decide +kernel)) ggX5_times_X5_motifPoint
set_option maxRecDepth 20000 in
theorem ggX5_times_X5_endOfSpan : GoodIn wsX5_times wsX5_endOfSpan := goodIn_r _ [27, 28, 29, 30, 31, 32, 33, 34, 35, 36, 37, 38, 39, 40, 41, 42, 43, 44, 45, 46, 47, 48, 49, 50, 51, 52, 53, 54, 55, 56, 57, 58, 59, 60, 61, 62, 63, 64, 65, 66, 67, 68, 69, 70, 71, 72, 73, 74, 75, 76, 77, 78, 79, 80, 81, 82, 83, 84, 85, 86, 87, 88, 89, 90, 91, 92, 93, 94, 95, 96, 97, 98, 99, 100, 101, 16, 17, 18, 4, 19, 20, 102, 103, 104, 105, 106, 107, 108, 109, 110, 111, 112, 113, 114, 115, 116, 117, 118, 119, 120, 121, 122, 123, 124, 125, 126, 127, 128, 129, 130, 131, 132, 133] (by decide +kernel) (by decide +kernel)
set_option maxRecDepth 20000 in
theorem gX5_times_X5_endOfSpan : GoodIn wsX5_times (wsV RX5 133 RX5 yX5_endOfSpan wsX5_endOfSpan) := goodIn_app (goodIn_of _ (by decide +kernel)) ggX5_times_X5_endOfSpan
theorem dX5_times_0 : decode cX5_times 0 = .ok (.aload_n 0, 1) := by decide +kernel
theorem dX5_times_1 : decode cX5_times 1 = .ok (.iload_n 1, 1) := by decide +kernel
theorem dX5_times_2 : decode cX5_times 2 = .ok (.invokevirtual 69, 3) := by decide +kernel
theorem dX5_times_5 : decode cX5_times 5 = .ok (.iload 4, 2) := by decide +kernel
theorem dX5_times_7 : decode cX5_times 7 = .ok (.invokestatic 72, 3) := by decide +kernel
theorem dX5_times_10 : decode cX5_times 10 = .ok (.invokestatic 114, 3) := by decide +kernel
theorem dX5_times_13 : decode cX5_times 13 = .ok (.istore 5, 2) := by decide +kernel
theorem dX5_times_15 : decode cX5_times 15 = .ok (.iload 5, 2) := by decide +kernel
theorem dX5_times_17 : decode cX5_times 17 = .ok (.ifCond .eq 10, 3) := by decide +kernel
theorem dX5_times_20 : decode cX5_times 20 = .ok (.aload_n 0, 1) := by decide +kernel
theorem dX5_times_21 : decode cX5_times 21 = .ok (.iload 5, 2) := by decide +kernel
theorem dX5_times_23 : decode cX5_times 23 = .ok (.invokevirtual 55, 3) := by decide +kernel
theorem dX5_times_26 : decode cX5_times 26 = .ok (.ireturn, 1) := by decide +kernel
theorem dX5_times_27 : decode cX5_times 27 = .ok (.aload_n 0, 1) := by decide +kernel
theorem dX5_times_28 : decode cX5_times 28 = .ok (.iload_n 1, 1) := by decide +kernel
theorem dX5_times_29 : decode cX5_times 29 = .ok (.iload_n 2, 1) := by decide +kernel
theorem dX5_times_30 : decode cX5_times 30 = .ok (.invokestatic 86, 3) := by decide +kernel
theorem dX5_times_33 : decode cX5_times 33 = .ok (.iload_n 3, 1) := by decide +kernel
theorem dX5_times_34 : decode cX5_times 34 = .ok (.iload 4, 2) := by decide +kernel
theorem dX5_times_36 : decode cX5_times 36 = .ok (.invokevirtual 133, 3) := by decide +kernel
theorem dX5_times_39 : decode cX5_times 39 = .ok (.ireturn, 1) := by decide +kernel
set_option maxRecDepth 20000 in
theorem ggX5_quarrel_X5_isDay : GoodIn wsX5_quarrel wsX5_isDay := goodIn_r _ [6, 7, 8, 5, 9] (by decide +kernel) (by decide +kernel)
set_option maxRecDepth 20000 in
theorem gX5_quarrel_X5_isDay : GoodIn wsX5_quarrel (va_wsS RX5 72 yX5_isDay wsX5_isDay) := goodIn_app (goodIn_of _ (by decide +kernel)) ggX5_quarrel_X5_isDay
set_option maxRecDepth 20000 in
theorem ggX5_quarrel_X5_refuse : GoodIn wsX5_quarrel wsX5_refuse := goodIn_r _ [13, 14, 104, 105, 106, 107, 108, 109, 110, 111, 112, 113] (by decide +kernel) (by decide +kernel)
set_option maxRecDepth 20000 in
theorem gX5_quarrel_X5_refuse : GoodIn wsX5_quarrel (wsV RX5 55 RX5 yX5_refuse wsX5_refuse) := goodIn_app (goodIn_of _ (by decide +kernel)) ggX5_quarrel_X5_refuse
set_option maxRecDepth 20000 in
theorem ggX5_quarrel_X4_gather : GoodIn wsX5_quarrel wsX4_gather := goodIn_r _ [19, 20, 21, 22, 23, 24, 25, 26, 27, 28, 29, 30, 31, 32, 33, 34, 35, 36, 37, 38, 39, 40, 41, 42, 43, 44, 45, 46, 47, 48, 49, 50, 51, 18, 52, 53, 54, 55, 114, 115, 116, 117, 118, 119, 120, 121, 122, 123, 124, 125, 126, 127] (by decide +kernel) (by decide +kernel)
set_option maxRecDepth 20000 in
theorem gX5_quarrel_X4_gather : GoodIn wsX5_quarrel (wsV RX5 137 RX4 yX4_gather wsX4_gather) := goodIn_app (goodIn_of _ (by decide +kernel)) ggX5_quarrel_X4_gather
set_option maxRecDepth 20000 in
theorem ggX5_quarrel_X4_measureFrom : GoodIn wsX5_quarrel wsX4_measureFrom := goodIn_r _ [59, 60, 61, 62, 63, 18, 64, 65, 66, 67, 68, 69, 70, 71, 72, 73, 74, 75, 76, 77, 78, 79, 80, 81, 82, 83, 84, 85, 86, 20, 53, 54, 55, 114, 115, 116, 117, 118, 119] (by decide +kernel) (by decide +kernel)
set_option maxRecDepth 20000 in
theorem gX5_quarrel_X4_measureFrom : GoodIn wsX5_quarrel (wsV RX5 141 RX4 yX4_measureFrom wsX4_measureFrom) := goodIn_app (goodIn_of _ (by decide +kernel)) ggX5_quarrel_X4_measureFrom
set_option maxRecDepth 20000 in
theorem ggX5_quarrel_X4_fewestLimits : GoodIn wsX5_quarrel wsX4_fewestLimits := goodIn_r _ [90, 91, 92, 93, 18, 94, 74, 75, 76, 77, 60, 95, 96, 97, 98, 99, 61, 62, 63, 64, 65, 66, 67, 68, 69, 70, 71, 72, 73, 78, 79, 80, 81, 82, 83, 84, 85, 86, 20, 53, 54, 55, 114, 115, 116, 117, 118, 119] (by decide +kernel) (by decide +kernel)
set_option maxRecDepth 20000 in
theorem gX5_quarrel_X4_fewestLimits : GoodIn wsX5_quarrel (wsV RX5 144 RX4 yX4_fewestLimits wsX4_fewestLimits) := goodIn_app (goodIn_of _ (by decide +kernel)) ggX5_quarrel_X4_fewestLimits
set_option maxRecDepth 20000 in
theorem ggX5_quarrel_X5_answer : GoodIn wsX5_quarrel wsX5_answer := goodIn_r _ [103, 14, 104, 105, 106, 107, 108, 109, 110, 111, 112, 113] (by decide +kernel) (by decide +kernel)
set_option maxRecDepth 20000 in
theorem gX5_quarrel_X5_answer : GoodIn wsX5_quarrel (wsV RX5 59 RX5 yX5_answer wsX5_answer) := goodIn_app (goodIn_of _ (by decide +kernel)) ggX5_quarrel_X5_answer
theorem dX5_quarrel_0 : decode cX5_quarrel 0 = .ok (.iload_n 1, 1) := by decide +kernel
theorem dX5_quarrel_1 : decode cX5_quarrel 1 = .ok (.invokestatic 72, 3) := by decide +kernel
theorem dX5_quarrel_4 : decode cX5_quarrel 4 = .ok (.ifCond .ne 9, 3) := by decide +kernel
theorem dX5_quarrel_7 : decode cX5_quarrel 7 = .ok (.aload_n 0, 1) := by decide +kernel
theorem dX5_quarrel_8 : decode cX5_quarrel 8 = .ok (.iconst 2, 1) := by decide +kernel
theorem dX5_quarrel_9 : decode cX5_quarrel 9 = .ok (.invokevirtual 55, 3) := by decide +kernel
theorem dX5_quarrel_12 : decode cX5_quarrel 12 = .ok (.ireturn, 1) := by decide +kernel
theorem dX5_quarrel_13 : decode cX5_quarrel 13 = .ok (.aload_n 0, 1) := by decide +kernel
theorem dX5_quarrel_14 : decode cX5_quarrel 14 = .ok (.getfield 19, 3) := by decide +kernel
theorem dX5_quarrel_17 : decode cX5_quarrel 17 = .ok (.aload_n 0, 1) := by decide +kernel
theorem dX5_quarrel_18 : decode cX5_quarrel 18 = .ok (.getfield 12, 3) := by decide +kernel
theorem dX5_quarrel_21 : decode cX5_quarrel 21 = .ok (.iload_n 1, 1) := by decide +kernel
theorem dX5_quarrel_22 : decode cX5_quarrel 22 = .ok (.iconst (-1), 1) := by decide +kernel
theorem dX5_quarrel_23 : decode cX5_quarrel 23 = .ok (.invokevirtual 137, 3) := by decide +kernel
theorem dX5_quarrel_26 : decode cX5_quarrel 26 = .ok (.aload_n 0, 1) := by decide +kernel
theorem dX5_quarrel_27 : decode cX5_quarrel 27 = .ok (.getfield 19, 3) := by decide +kernel
theorem dX5_quarrel_30 : decode cX5_quarrel 30 = .ok (.iconst 0, 1) := by decide +kernel
theorem dX5_quarrel_31 : decode cX5_quarrel 31 = .ok (.invokevirtual 141, 3) := by decide +kernel
theorem dX5_quarrel_34 : decode cX5_quarrel 34 = .ok (.ifCond .eq 10, 3) := by decide +kernel
theorem dX5_quarrel_37 : decode cX5_quarrel 37 = .ok (.aload_n 0, 1) := by decide +kernel
theorem dX5_quarrel_38 : decode cX5_quarrel 38 = .ok (.bipush 6, 2) := by decide +kernel
theorem dX5_quarrel_40 : decode cX5_quarrel 40 = .ok (.invokevirtual 55, 3) := by decide +kernel
theorem dX5_quarrel_43 : decode cX5_quarrel 43 = .ok (.ireturn, 1) := by decide +kernel
theorem dX5_quarrel_44 : decode cX5_quarrel 44 = .ok (.aload_n 0, 1) := by decide +kernel
theorem dX5_quarrel_45 : decode cX5_quarrel 45 = .ok (.aload_n 0, 1) := by decide +kernel
theorem dX5_quarrel_46 : decode cX5_quarrel 46 = .ok (.getfield 19, 3) := by decide +kernel
theorem dX5_quarrel_49 : decode cX5_quarrel 49 = .ok (.invokevirtual 144, 3) := by decide +kernel
theorem dX5_quarrel_52 : decode cX5_quarrel 52 = .ok (.invokevirtual 59, 3) := by decide +kernel
theorem dX5_quarrel_55 : decode cX5_quarrel 55 = .ok (.ireturn, 1) := by decide +kernel
set_option maxRecDepth 20000 in
theorem ggX5_frees_X2_has : GoodIn wsX5_frees wsX2_has := goodIn_r _ [7, 8, 106, 107, 108, 109, 110, 111, 112, 113] (by decide +kernel) (by decide +kernel)
set_option maxRecDepth 20000 in
theorem gX5_frees_X2_has : GoodIn wsX5_frees (wsV RX5 111 RX2 yX2_has wsX2_has) := goodIn_app (goodIn_of _ (by decide +kernel)) ggX5_frees_X2_has
set_option maxRecDepth 20000 in
theorem ggX5_frees_X5_isDay : GoodIn wsX5_frees wsX5_isDay := goodIn_r _ [12, 13, 14, 11, 15] (by decide +kernel) (by decide +kernel)
set_option maxRecDepth 20000 in
theorem gX5_frees_X5_isDay : GoodIn wsX5_frees (va_wsS RX5 72 yX5_isDay wsX5_isDay) := goodIn_app (goodIn_of _ (by decide +kernel)) ggX5_frees_X5_isDay
set_option maxRecDepth 20000 in
theorem ggX5_frees_X5_whyNot : GoodIn wsX5_frees wsX5_whyNot := goodIn_r _ [18] (by decide +kernel) (by decide +kernel)
set_option maxRecDepth 20000 in
theorem gX5_frees_X5_whyNot : GoodIn wsX5_frees (va_wsS RX5 114 yX5_whyNot wsX5_whyNot) := goodIn_app (goodIn_of _ (by decide +kernel)) ggX5_frees_X5_whyNot
set_option maxRecDepth 20000 in
theorem ggX5_frees_X5_refuse : GoodIn wsX5_frees wsX5_refuse := goodIn_r _ [22, 23, 96, 97, 98, 99, 100, 101, 102, 103, 104, 105] (by decide +kernel) (by decide +kernel)
set_option maxRecDepth 20000 in
theorem gX5_frees_X5_refuse : GoodIn wsX5_frees (wsV RX5 55 RX5 yX5_refuse wsX5_refuse) := goodIn_app (goodIn_of _ (by decide +kernel)) ggX5_frees_X5_refuse
set_option maxRecDepth 20000 in
theorem ggX5_frees_X4_gather : GoodIn wsX5_frees wsX4_gather := goodIn_r _ [28, 29, 30, 31, 32, 6, 33, 8, 34, 35, 36, 37, 38, 39, 40, 4, 5, 7, 41, 42, 43, 44, 45, 46, 47, 48, 49, 50, 51, 52, 53, 54, 55, 27, 56, 57, 58, 59, 114, 115, 116, 117, 118, 119, 106, 107, 108, 109, 110, 111, 112, 113] (by decide +kernel) (by decide +kernel)
set_option maxRecDepth 20000 in
theorem gX5_frees_X4_gather : GoodIn wsX5_frees (wsV RX5 137 RX4 yX4_gather wsX4_gather) := goodIn_app (goodIn_of _ (by decide +kernel)) ggX5_frees_X4_gather
set_option maxRecDepth 20000 in
theorem ggX5_frees_X4_measureFrom : GoodIn wsX5_frees wsX4_measureFrom := goodIn_r _ [63, 64, 65, 66, 67, 27, 68, 69, 70, 71, 72, 73, 74, 75, 76, 77, 78, 79, 80, 81, 82, 83, 84, 85, 86, 87, 88, 89, 90, 29, 57, 58, 59, 114, 115, 116, 117, 118, 119] (by decide +kernel) (by decide +kernel)
set_option maxRecDepth 20000 in
theorem gX5_frees_X4_measureFrom : GoodIn wsX5_frees (wsV RX5 141 RX4 yX4_measureFrom wsX4_measureFrom) := goodIn_app (goodIn_of _ (by decide +kernel)) ggX5_frees_X4_measureFrom
set_option maxRecDepth 20000 in
theorem ggX5_frees_X2_isKnown : GoodIn wsX5_frees wsX2_isKnown := goodIn_r _ [37, 38, 39, 40, 4, 5, 6, 7, 8, 106, 107, 108, 109, 110, 111, 112, 113] (by decide +kernel) (by decide +kernel)
set_option maxRecDepth 20000 in
theorem gX5_frees_X2_isKnown : GoodIn wsX5_frees (wsV RX5 148 RX2 yX2_isKnown wsX2_isKnown) := goodIn_app (goodIn_of _ (by decide +kernel)) ggX5_frees_X2_isKnown
set_option maxRecDepth 20000 in
theorem ggX5_frees_X5_answer : GoodIn wsX5_frees wsX5_answer := goodIn_r _ [95, 23, 96, 97, 98, 99, 100, 101, 102, 103, 104, 105] (by decide +kernel) (by decide +kernel)
set_option maxRecDepth 20000 in
theorem gX5_frees_X5_answer : GoodIn wsX5_frees (wsV RX5 59 RX5 yX5_answer wsX5_answer) := goodIn_app (goodIn_of _ (by decide +kernel)) ggX5_frees_X5_answer
theorem dX5_frees_0 : decode cX5_frees 0 = .ok (.aload_n 0, 1) := by decide +kernel
theorem dX5_frees_1 : decode cX5_frees 1 = .ok (.getfield 12, 3) := by decide +kernel
theorem dX5_frees_4 : decode cX5_frees 4 = .ok (.iload_n 1, 1) := by decide +kernel
theorem dX5_frees_5 : decode cX5_frees 5 = .ok (.invokevirtual 111, 3) := by decide +kernel
theorem dX5_frees_8 : decode cX5_frees 8 = .ok (.iload_n 2, 1) := by decide +kernel
theorem dX5_frees_9 : decode cX5_frees 9 = .ok (.invokestatic 72, 3) := by decide +kernel
theorem dX5_frees_12 : decode cX5_frees 12 = .ok (.invokestatic 114, 3) := by decide +kernel
theorem dX5_frees_15 : decode cX5_frees 15 = .ok (.istore_n 3, 1) := by decide +kernel
theorem dX5_frees_16 : decode cX5_frees 16 = .ok (.iload_n 3, 1) := by decide +kernel
theorem dX5_frees_17 : decode cX5_frees 17 = .ok (.ifCond .eq 9, 3) := by decide +kernel
theorem dX5_frees_20 : decode cX5_frees 20 = .ok (.aload_n 0, 1) := by decide +kernel
theorem dX5_frees_21 : decode cX5_frees 21 = .ok (.iload_n 3, 1) := by decide +kernel
theorem dX5_frees_22 : decode cX5_frees 22 = .ok (.invokevirtual 55, 3) := by decide +kernel
theorem dX5_frees_25 : decode cX5_frees 25 = .ok (.ireturn, 1) := by decide +kernel
theorem dX5_frees_26 : decode cX5_frees 26 = .ok (.aload_n 0, 1) := by decide +kernel
theorem dX5_frees_27 : decode cX5_frees 27 = .ok (.getfield 19, 3) := by decide +kernel
theorem dX5_frees_30 : decode cX5_frees 30 = .ok (.aload_n 0, 1) := by decide +kernel
theorem dX5_frees_31 : decode cX5_frees 31 = .ok (.getfield 12, 3) := by decide +kernel
theorem dX5_frees_34 : decode cX5_frees 34 = .ok (.iload_n 2, 1) := by decide +kernel
theorem dX5_frees_35 : decode cX5_frees 35 = .ok (.iconst (-1), 1) := by decide +kernel
theorem dX5_frees_36 : decode cX5_frees 36 = .ok (.invokevirtual 137, 3) := by decide +kernel
theorem dX5_frees_39 : decode cX5_frees 39 = .ok (.aload_n 0, 1) := by decide +kernel
theorem dX5_frees_40 : decode cX5_frees 40 = .ok (.getfield 19, 3) := by decide +kernel
theorem dX5_frees_43 : decode cX5_frees 43 = .ok (.iconst 0, 1) := by decide +kernel
theorem dX5_frees_44 : decode cX5_frees 44 = .ok (.invokevirtual 141, 3) := by decide +kernel
theorem dX5_frees_47 : decode cX5_frees 47 = .ok (.ifCond .eq 10, 3) := by decide +kernel
theorem dX5_frees_50 : decode cX5_frees 50 = .ok (.aload_n 0, 1) := by decide +kernel
theorem dX5_frees_51 : decode cX5_frees 51 = .ok (.bipush 6, 2) := by decide +kernel
theorem dX5_frees_53 : decode cX5_frees 53 = .ok (.invokevirtual 55, 3) := by decide +kernel
theorem dX5_frees_56 : decode cX5_frees 56 = .ok (.ireturn, 1) := by decide +kernel
theorem dX5_frees_57 : decode cX5_frees 57 = .ok (.aload_n 0, 1) := by decide +kernel
theorem dX5_frees_58 : decode cX5_frees 58 = .ok (.getfield 12, 3) := by decide +kernel
theorem dX5_frees_61 : decode cX5_frees 61 = .ok (.iload_n 1, 1) := by decide +kernel
theorem dX5_frees_62 : decode cX5_frees 62 = .ok (.iload_n 2, 1) := by decide +kernel
theorem dX5_frees_63 : decode cX5_frees 63 = .ok (.invokevirtual 148, 3) := by decide +kernel
theorem dX5_frees_66 : decode cX5_frees 66 = .ok (.ifCond .ne 10, 3) := by decide +kernel
theorem dX5_frees_69 : decode cX5_frees 69 = .ok (.aload_n 0, 1) := by decide +kernel
theorem dX5_frees_70 : decode cX5_frees 70 = .ok (.bipush 8, 2) := by decide +kernel
theorem dX5_frees_72 : decode cX5_frees 72 = .ok (.invokevirtual 55, 3) := by decide +kernel
theorem dX5_frees_75 : decode cX5_frees 75 = .ok (.ireturn, 1) := by decide +kernel
theorem dX5_frees_76 : decode cX5_frees 76 = .ok (.aload_n 0, 1) := by decide +kernel
theorem dX5_frees_77 : decode cX5_frees 77 = .ok (.getfield 19, 3) := by decide +kernel
theorem dX5_frees_80 : decode cX5_frees 80 = .ok (.aload_n 0, 1) := by decide +kernel
theorem dX5_frees_81 : decode cX5_frees 81 = .ok (.getfield 12, 3) := by decide +kernel
theorem dX5_frees_84 : decode cX5_frees 84 = .ok (.iload_n 2, 1) := by decide +kernel
theorem dX5_frees_85 : decode cX5_frees 85 = .ok (.iload_n 1, 1) := by decide +kernel
theorem dX5_frees_86 : decode cX5_frees 86 = .ok (.invokevirtual 137, 3) := by decide +kernel
theorem dX5_frees_89 : decode cX5_frees 89 = .ok (.aload_n 0, 1) := by decide +kernel
theorem dX5_frees_90 : decode cX5_frees 90 = .ok (.aload_n 0, 1) := by decide +kernel
theorem dX5_frees_91 : decode cX5_frees 91 = .ok (.getfield 19, 3) := by decide +kernel
theorem dX5_frees_94 : decode cX5_frees 94 = .ok (.iconst 0, 1) := by decide +kernel
theorem dX5_frees_95 : decode cX5_frees 95 = .ok (.invokevirtual 141, 3) := by decide +kernel
theorem dX5_frees_98 : decode cX5_frees 98 = .ok (.ifCond .eq 7, 3) := by decide +kernel
theorem dX5_frees_101 : decode cX5_frees 101 = .ok (.iconst 1, 1) := by decide +kernel
theorem dX5_frees_102 : decode cX5_frees 102 = .ok (.goto 4, 3) := by decide +kernel
theorem dX5_frees_105 : decode cX5_frees 105 = .ok (.iconst 0, 1) := by decide +kernel
theorem dX5_frees_106 : decode cX5_frees 106 = .ok (.invokevirtual 59, 3) := by decide +kernel
theorem dX5_frees_109 : decode cX5_frees 109 = .ok (.ireturn, 1) := by decide +kernel
set_option maxRecDepth 20000 in
theorem ggX5_order_X5_areTwoPlates : GoodIn wsX5_order wsX5_areTwoPlates := goodIn_r _ [7, 8, 9, 10, 6, 11, 12, 110, 111, 112, 113, 114, 115, 116, 117, 118, 119] (by decide +kernel) (by decide +kernel)
set_option maxRecDepth 20000 in
theorem gX5_order_X5_areTwoPlates : GoodIn wsX5_order (wsV RX5 94 RX5 yX5_areTwoPlates wsX5_areTwoPlates) := goodIn_app (goodIn_of _ (by decide +kernel)) ggX5_order_X5_areTwoPlates
set_option maxRecDepth 20000 in
theorem ggX5_order_X5_isDay : GoodIn wsX5_order wsX5_isDay := goodIn_r _ [15, 16, 17, 6, 18] (by decide +kernel) (by decide +kernel)
set_option maxRecDepth 20000 in
theorem gX5_order_X5_isDay : GoodIn wsX5_order (va_wsS RX5 72 yX5_isDay wsX5_isDay) := goodIn_app (goodIn_of _ (by decide +kernel)) ggX5_order_X5_isDay
set_option maxRecDepth 20000 in
theorem ggX5_order_X5_whyNot : GoodIn wsX5_order wsX5_whyNot := goodIn_r _ [21] (by decide +kernel) (by decide +kernel)
set_option maxRecDepth 20000 in
theorem gX5_order_X5_whyNot : GoodIn wsX5_order (va_wsS RX5 114 yX5_whyNot wsX5_whyNot) := goodIn_app (goodIn_of _ (by decide +kernel)) ggX5_order_X5_whyNot
set_option maxRecDepth 20000 in
theorem ggX5_order_X5_refuse : GoodIn wsX5_order wsX5_refuse := goodIn_r _ [25, 26, 110, 111, 112, 113, 114, 115, 116, 117, 118, 119] (by decide +kernel) (by decide +kernel)
set_option maxRecDepth 20000 in
theorem gX5_order_X5_refuse : GoodIn wsX5_order (wsV RX5 55 RX5 yX5_refuse wsX5_refuse) := goodIn_app (goodIn_of _ (by decide +kernel)) ggX5_order_X5_refuse
set_option maxRecDepth 20000 in
theorem ggX5_order_X4_gather : GoodIn wsX5_order wsX4_gather := goodIn_r _ [31, 32, 33, 34, 35, 36, 37, 38, 39, 40, 41, 42, 43, 44, 45, 46, 47, 48, 49, 50, 51, 52, 53, 54, 55, 56, 57, 58, 59, 60, 61, 62, 63, 30, 64, 65, 66, 67, 120, 121, 122, 123, 124, 125, 126, 127, 128, 129, 130, 131, 132, 133] (by decide +kernel) (by decide +kernel)
set_option maxRecDepth 20000 in
theorem gX5_order_X4_gather : GoodIn wsX5_order (wsV RX5 137 RX4 yX4_gather wsX4_gather) := goodIn_app (goodIn_of _ (by decide +kernel)) ggX5_order_X4_gather
set_option maxRecDepth 20000 in
theorem ggX5_order_X5_platePoint : GoodIn wsX5_order wsX5_platePoint := goodIn_r _ [70] (by decide +kernel) (by decide +kernel)
set_option maxRecDepth 20000 in
theorem gX5_order_X5_platePoint : GoodIn wsX5_order (va_wsS RX5 83 yX5_platePoint wsX5_platePoint) := goodIn_app (goodIn_of _ (by decide +kernel)) ggX5_order_X5_platePoint
set_option maxRecDepth 20000 in
theorem ggX5_order_X4_measureFrom : GoodIn wsX5_order wsX4_measureFrom := goodIn_r _ [74, 75, 76, 77, 78, 30, 79, 80, 81, 82, 83, 84, 85, 86, 87, 88, 89, 90, 91, 92, 93, 94, 95, 96, 97, 98, 99, 100, 101, 32, 65, 66, 67, 120, 121, 122, 123, 124, 125] (by decide +kernel) (by decide +kernel)
set_option maxRecDepth 20000 in
theorem gX5_order_X4_measureFrom : GoodIn wsX5_order (wsV RX5 141 RX4 yX4_measureFrom wsX4_measureFrom) := goodIn_app (goodIn_of _ (by decide +kernel)) ggX5_order_X4_measureFrom
set_option maxRecDepth 20000 in
theorem ggX5_order_X4_wayTo : GoodIn wsX5_order wsX4_wayTo := goodIn_r _ [105, 75, 80, 120, 121, 122, 123, 124, 125] (by decide +kernel) (by decide +kernel)
set_option maxRecDepth 20000 in
theorem gX5_order_X4_wayTo : GoodIn wsX5_order (wsV RX5 151 RX4 yX4_wayTo wsX4_wayTo) := goodIn_app (goodIn_of _ (by decide +kernel)) ggX5_order_X4_wayTo
set_option maxRecDepth 20000 in
theorem ggX5_order_X5_answer : GoodIn wsX5_order wsX5_answer := goodIn_r _ [109, 26, 110, 111, 112, 113, 114, 115, 116, 117, 118, 119] (by decide +kernel) (by decide +kernel)
set_option maxRecDepth 20000 in
theorem gX5_order_X5_answer : GoodIn wsX5_order (wsV RX5 59 RX5 yX5_answer wsX5_answer) := goodIn_app (goodIn_of _ (by decide +kernel)) ggX5_order_X5_answer
theorem dX5_order_0 : decode cX5_order 0 = .ok (.aload_n 0, 1) := by decide +kernel
theorem dX5_order_1 : decode cX5_order 1 = .ok (.iload_n 1, 1) := by decide +kernel
theorem dX5_order_2 : decode cX5_order 2 = .ok (.iload_n 2, 1) := by decide +kernel
theorem dX5_order_3 : decode cX5_order 3 = .ok (.invokevirtual 94, 3) := by decide +kernel
theorem dX5_order_6 : decode cX5_order 6 = .ok (.iload_n 3, 1) := by decide +kernel
theorem dX5_order_7 : decode cX5_order 7 = .ok (.invokestatic 72, 3) := by decide +kernel
theorem dX5_order_10 : decode cX5_order 10 = .ok (.invokestatic 114, 3) := by decide +kernel
theorem dX5_order_13 : decode cX5_order 13 = .ok (.istore 4, 2) := by decide +kernel
theorem dX5_order_15 : decode cX5_order 15 = .ok (.iload 4, 2) := by decide +kernel
theorem dX5_order_17 : decode cX5_order 17 = .ok (.ifCond .eq 10, 3) := by decide +kernel
theorem dX5_order_20 : decode cX5_order 20 = .ok (.aload_n 0, 1) := by decide +kernel
theorem dX5_order_21 : decode cX5_order 21 = .ok (.iload 4, 2) := by decide +kernel
theorem dX5_order_23 : decode cX5_order 23 = .ok (.invokevirtual 55, 3) := by decide +kernel
theorem dX5_order_26 : decode cX5_order 26 = .ok (.ireturn, 1) := by decide +kernel
theorem dX5_order_27 : decode cX5_order 27 = .ok (.aload_n 0, 1) := by decide +kernel
theorem dX5_order_28 : decode cX5_order 28 = .ok (.getfield 19, 3) := by decide +kernel
theorem dX5_order_31 : decode cX5_order 31 = .ok (.aload_n 0, 1) := by decide +kernel
theorem dX5_order_32 : decode cX5_order 32 = .ok (.getfield 12, 3) := by decide +kernel
theorem dX5_order_35 : decode cX5_order 35 = .ok (.iload_n 3, 1) := by decide +kernel
theorem dX5_order_36 : decode cX5_order 36 = .ok (.iconst (-1), 1) := by decide +kernel
theorem dX5_order_37 : decode cX5_order 37 = .ok (.invokevirtual 137, 3) := by decide +kernel
theorem dX5_order_40 : decode cX5_order 40 = .ok (.aload_n 0, 1) := by decide +kernel
theorem dX5_order_41 : decode cX5_order 41 = .ok (.getfield 19, 3) := by decide +kernel
theorem dX5_order_44 : decode cX5_order 44 = .ok (.iload_n 2, 1) := by decide +kernel
theorem dX5_order_45 : decode cX5_order 45 = .ok (.invokestatic 83, 3) := by decide +kernel
theorem dX5_order_48 : decode cX5_order 48 = .ok (.invokevirtual 141, 3) := by decide +kernel
theorem dX5_order_51 : decode cX5_order 51 = .ok (.ifCond .ne 9, 3) := by decide +kernel
theorem dX5_order_54 : decode cX5_order 54 = .ok (.aload_n 0, 1) := by decide +kernel
theorem dX5_order_55 : decode cX5_order 55 = .ok (.iconst 5, 1) := by decide +kernel
theorem dX5_order_56 : decode cX5_order 56 = .ok (.invokevirtual 55, 3) := by decide +kernel
theorem dX5_order_59 : decode cX5_order 59 = .ok (.ireturn, 1) := by decide +kernel
theorem dX5_order_60 : decode cX5_order 60 = .ok (.aload_n 0, 1) := by decide +kernel
theorem dX5_order_61 : decode cX5_order 61 = .ok (.getfield 19, 3) := by decide +kernel
theorem dX5_order_64 : decode cX5_order 64 = .ok (.iload_n 1, 1) := by decide +kernel
theorem dX5_order_65 : decode cX5_order 65 = .ok (.invokestatic 83, 3) := by decide +kernel
theorem dX5_order_68 : decode cX5_order 68 = .ok (.invokevirtual 151, 3) := by decide +kernel
theorem dX5_order_71 : decode cX5_order 71 = .ok (.ifCond .ge 9, 3) := by decide +kernel
theorem dX5_order_74 : decode cX5_order 74 = .ok (.aload_n 0, 1) := by decide +kernel
theorem dX5_order_75 : decode cX5_order 75 = .ok (.iconst 2, 1) := by decide +kernel
