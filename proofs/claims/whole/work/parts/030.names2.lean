set_option maxRecDepth 20000 in
theorem ggX0_init_J7_fill_53178 : GoodIn wsX0_init wsJ7_fill_53178 := goodIn_r _ [14] (by decide +kernel) (by decide +kernel)
set_option maxRecDepth 20000 in
theorem gX0_init_J7_fill_53178 : GoodIn wsX0_init (va_wsS RX0 28 yJ7_fill_53178 wsJ7_fill_53178) := goodIn_app (goodIn_of _ (by decide +kernel)) ggX0_init_J7_fill_53178
theorem dX0_init_0 : decode cX0_init 0 = .ok (.aload_n 0, 1) := by decide +kernel
theorem dX0_init_1 : decode cX0_init 1 = .ok (.invokespecial 3, 3) := by decide +kernel
theorem dX0_init_4 : decode cX0_init 4 = .ok (.aload_n 0, 1) := by decide +kernel
theorem dX0_init_5 : decode cX0_init 5 = .ok (.bipush 20, 2) := by decide +kernel
theorem dX0_init_7 : decode cX0_init 7 = .ok (.newarray .int, 2) := by decide +kernel
theorem dX0_init_9 : decode cX0_init 9 = .ok (.putfield 9, 3) := by decide +kernel
theorem dX0_init_12 : decode cX0_init 12 = .ok (.aload_n 0, 1) := by decide +kernel
theorem dX0_init_13 : decode cX0_init 13 = .ok (.bipush 20, 2) := by decide +kernel
theorem dX0_init_15 : decode cX0_init 15 = .ok (.newarray .int, 2) := by decide +kernel
theorem dX0_init_17 : decode cX0_init 17 = .ok (.putfield 15, 3) := by decide +kernel
theorem dX0_init_20 : decode cX0_init 20 = .ok (.aload_n 0, 1) := by decide +kernel
theorem dX0_init_21 : decode cX0_init 21 = .ok (.bipush 20, 2) := by decide +kernel
theorem dX0_init_23 : decode cX0_init 23 = .ok (.newarray .int, 2) := by decide +kernel
theorem dX0_init_25 : decode cX0_init 25 = .ok (.putfield 18, 3) := by decide +kernel
theorem dX0_init_28 : decode cX0_init 28 = .ok (.aload_n 0, 1) := by decide +kernel
theorem dX0_init_29 : decode cX0_init 29 = .ok (.bipush 20, 2) := by decide +kernel
theorem dX0_init_31 : decode cX0_init 31 = .ok (.newarray .int, 2) := by decide +kernel
theorem dX0_init_33 : decode cX0_init 33 = .ok (.putfield 21, 3) := by decide +kernel
theorem dX0_init_36 : decode cX0_init 36 = .ok (.aload_n 0, 1) := by decide +kernel
theorem dX0_init_37 : decode cX0_init 37 = .ok (.sipush 501, 3) := by decide +kernel
theorem dX0_init_40 : decode cX0_init 40 = .ok (.newarray .long, 2) := by decide +kernel
theorem dX0_init_42 : decode cX0_init 42 = .ok (.putfield 24, 3) := by decide +kernel
theorem dX0_init_45 : decode cX0_init 45 = .ok (.aload_n 0, 1) := by decide +kernel
theorem dX0_init_46 : decode cX0_init 46 = .ok (.getfield 15, 3) := by decide +kernel
theorem dX0_init_49 : decode cX0_init 49 = .ok (.iconst 1, 1) := by decide +kernel
theorem dX0_init_50 : decode cX0_init 50 = .ok (.invokestatic 28, 3) := by decide +kernel
theorem dX0_init_53 : decode cX0_init 53 = .ok (.aload_n 0, 1) := by decide +kernel
theorem dX0_init_54 : decode cX0_init 54 = .ok (.getfield 18, 3) := by decide +kernel
theorem dX0_init_57 : decode cX0_init 57 = .ok (.sipush 500, 3) := by decide +kernel
theorem dX0_init_60 : decode cX0_init 60 = .ok (.invokestatic 28, 3) := by decide +kernel
theorem dX0_init_63 : decode cX0_init 63 = .ok (.return_, 1) := by decide +kernel
theorem dX0_setWish_0 : decode cX0_setWish 0 = .ok (.iload_n 1, 1) := by decide +kernel
theorem dX0_setWish_1 : decode cX0_setWish 1 = .ok (.ifCond .lt 9, 3) := by decide +kernel
theorem dX0_setWish_4 : decode cX0_setWish 4 = .ok (.iload_n 1, 1) := by decide +kernel
theorem dX0_setWish_5 : decode cX0_setWish 5 = .ok (.bipush 20, 2) := by decide +kernel
theorem dX0_setWish_7 : decode cX0_setWish 7 = .ok (.if_icmp .lt 4, 3) := by decide +kernel
theorem dX0_setWish_10 : decode cX0_setWish 10 = .ok (.return_, 1) := by decide +kernel
theorem dX0_setWish_11 : decode cX0_setWish 11 = .ok (.aload_n 0, 1) := by decide +kernel
theorem dX0_setWish_12 : decode cX0_setWish 12 = .ok (.getfield 9, 3) := by decide +kernel
theorem dX0_setWish_15 : decode cX0_setWish 15 = .ok (.iload_n 1, 1) := by decide +kernel
theorem dX0_setWish_16 : decode cX0_setWish 16 = .ok (.iload_n 2, 1) := by decide +kernel
theorem dX0_setWish_17 : decode cX0_setWish 17 = .ok (.iastore, 1) := by decide +kernel
theorem dX0_setWish_18 : decode cX0_setWish 18 = .ok (.aload_n 0, 1) := by decide +kernel
theorem dX0_setWish_19 : decode cX0_setWish 19 = .ok (.getfield 15, 3) := by decide +kernel
theorem dX0_setWish_22 : decode cX0_setWish 22 = .ok (.iload_n 1, 1) := by decide +kernel
theorem dX0_setWish_23 : decode cX0_setWish 23 = .ok (.iload_n 3, 1) := by decide +kernel
theorem dX0_setWish_24 : decode cX0_setWish 24 = .ok (.iastore, 1) := by decide +kernel
theorem dX0_setWish_25 : decode cX0_setWish 25 = .ok (.aload_n 0, 1) := by decide +kernel
theorem dX0_setWish_26 : decode cX0_setWish 26 = .ok (.getfield 18, 3) := by decide +kernel
theorem dX0_setWish_29 : decode cX0_setWish 29 = .ok (.iload_n 1, 1) := by decide +kernel
theorem dX0_setWish_30 : decode cX0_setWish 30 = .ok (.iload 4, 2) := by decide +kernel
theorem dX0_setWish_32 : decode cX0_setWish 32 = .ok (.iastore, 1) := by decide +kernel
theorem dX0_setWish_33 : decode cX0_setWish 33 = .ok (.return_, 1) := by decide +kernel
set_option maxRecDepth 20000 in
theorem ggX0_choose_X0_sortTurns : GoodIn wsX0_choose wsX0_sortTurns := goodIn_r _ [18, 9, 7, 35, 36, 37, 38, 39, 40] (by decide +kernel) (by decide +kernel)
set_option maxRecDepth 20000 in
theorem gX0_choose_X0_sortTurns : GoodIn wsX0_choose (wsV RX0 40 RX0 yX0_sortTurns wsX0_sortTurns) := goodIn_app (goodIn_of _ (by decide +kernel)) ggX0_choose_X0_sortTurns
set_option maxRecDepth 20000 in
theorem ggX0_choose_J7_fill_d0a16 : GoodIn wsX0_choose wsJ7_fill_d0a16 := goodIn_r _ [22] (by decide +kernel) (by decide +kernel)
set_option maxRecDepth 20000 in
theorem gX0_choose_J7_fill_d0a16 : GoodIn wsX0_choose (va_wsS RX0 46 yJ7_fill_d0a16 wsJ7_fill_d0a16) := goodIn_app (goodIn_of _ (by decide +kernel)) ggX0_choose_J7_fill_d0a16
set_option maxRecDepth 20000 in
theorem ggX0_choose_X0_offer : GoodIn wsX0_choose wsX0_offer := goodIn_r _ [26, 1, 2, 3, 4, 8, 5, 6, 11, 12, 13, 27, 28, 29, 17, 30, 31, 32, 33, 34, 35, 36, 37, 38, 39, 40] (by decide +kernel) (by decide +kernel)
set_option maxRecDepth 20000 in
theorem gX0_choose_X0_offer : GoodIn wsX0_choose (wsV RX0 49 RX0 yX0_offer wsX0_offer) := goodIn_app (goodIn_of _ (by decide +kernel)) ggX0_choose_X0_offer
theorem dX0_choose_0 : decode cX0_choose 0 = .ok (.iload_n 1, 1) := by decide +kernel
theorem dX0_choose_1 : decode cX0_choose 1 = .ok (.bipush 20, 2) := by decide +kernel
theorem dX0_choose_3 : decode cX0_choose 3 = .ok (.invokestatic 34, 3) := by decide +kernel
theorem dX0_choose_6 : decode cX0_choose 6 = .ok (.istore_n 2, 1) := by decide +kernel
theorem dX0_choose_7 : decode cX0_choose 7 = .ok (.aload_n 0, 1) := by decide +kernel
theorem dX0_choose_8 : decode cX0_choose 8 = .ok (.iload_n 2, 1) := by decide +kernel
theorem dX0_choose_9 : decode cX0_choose 9 = .ok (.invokevirtual 40, 3) := by decide +kernel
theorem dX0_choose_12 : decode cX0_choose 12 = .ok (.aload_n 0, 1) := by decide +kernel
theorem dX0_choose_13 : decode cX0_choose 13 = .ok (.getfield 24, 3) := by decide +kernel
theorem dX0_choose_16 : decode cX0_choose 16 = .ok (.ldc2_w 44, 3) := by decide +kernel
theorem dX0_choose_19 : decode cX0_choose 19 = .ok (.invokestatic 46, 3) := by decide +kernel
theorem dX0_choose_22 : decode cX0_choose 22 = .ok (.aload_n 0, 1) := by decide +kernel
theorem dX0_choose_23 : decode cX0_choose 23 = .ok (.getfield 24, 3) := by decide +kernel
theorem dX0_choose_26 : decode cX0_choose 26 = .ok (.iconst 0, 1) := by decide +kernel
theorem dX0_choose_27 : decode cX0_choose 27 = .ok (.lconst 0, 1) := by decide +kernel
theorem dX0_choose_28 : decode cX0_choose 28 = .ok (.lastore, 1) := by decide +kernel
theorem dX0_choose_29 : decode cX0_choose 29 = .ok (.iconst 0, 1) := by decide +kernel
theorem dX0_choose_30 : decode cX0_choose 30 = .ok (.istore_n 3, 1) := by decide +kernel
theorem dX0_choose_31 : decode cX0_choose 31 = .ok (.iconst 0, 1) := by decide +kernel
theorem dX0_choose_32 : decode cX0_choose 32 = .ok (.istore 4, 2) := by decide +kernel
theorem dX0_choose_34 : decode cX0_choose 34 = .ok (.iload 4, 2) := by decide +kernel
theorem dX0_choose_36 : decode cX0_choose 36 = .ok (.iload_n 2, 1) := by decide +kernel
theorem dX0_choose_37 : decode cX0_choose 37 = .ok (.if_icmp .ge 45, 3) := by decide +kernel
theorem dX0_choose_40 : decode cX0_choose 40 = .ok (.aload_n 0, 1) := by decide +kernel
theorem dX0_choose_41 : decode cX0_choose 41 = .ok (.getfield 21, 3) := by decide +kernel
theorem dX0_choose_44 : decode cX0_choose 44 = .ok (.iload 4, 2) := by decide +kernel
theorem dX0_choose_46 : decode cX0_choose 46 = .ok (.iaload, 1) := by decide +kernel
theorem dX0_choose_47 : decode cX0_choose 47 = .ok (.istore 5, 2) := by decide +kernel
theorem dX0_choose_49 : decode cX0_choose 49 = .ok (.iload_n 3, 1) := by decide +kernel
theorem dX0_choose_50 : decode cX0_choose 50 = .ok (.aload_n 0, 1) := by decide +kernel
theorem dX0_choose_51 : decode cX0_choose 51 = .ok (.getfield 15, 3) := by decide +kernel
theorem dX0_choose_54 : decode cX0_choose 54 = .ok (.iload 5, 2) := by decide +kernel
theorem dX0_choose_56 : decode cX0_choose 56 = .ok (.iaload, 1) := by decide +kernel
theorem dX0_choose_57 : decode cX0_choose 57 = .ok (.iadd, 1) := by decide +kernel
theorem dX0_choose_58 : decode cX0_choose 58 = .ok (.istore_n 3, 1) := by decide +kernel
theorem dX0_choose_59 : decode cX0_choose 59 = .ok (.aload_n 0, 1) := by decide +kernel
theorem dX0_choose_60 : decode cX0_choose 60 = .ok (.iload 5, 2) := by decide +kernel
theorem dX0_choose_62 : decode cX0_choose 62 = .ok (.iload_n 3, 1) := by decide +kernel
theorem dX0_choose_63 : decode cX0_choose 63 = .ok (.aload_n 0, 1) := by decide +kernel
theorem dX0_choose_64 : decode cX0_choose 64 = .ok (.getfield 18, 3) := by decide +kernel
theorem dX0_choose_67 : decode cX0_choose 67 = .ok (.iload 5, 2) := by decide +kernel
theorem dX0_choose_69 : decode cX0_choose 69 = .ok (.iaload, 1) := by decide +kernel
theorem dX0_choose_70 : decode cX0_choose 70 = .ok (.invokestatic 34, 3) := by decide +kernel
theorem dX0_choose_73 : decode cX0_choose 73 = .ok (.invokevirtual 49, 3) := by decide +kernel
theorem dX0_choose_76 : decode cX0_choose 76 = .ok (.iinc 4 1, 3) := by decide +kernel
theorem dX0_choose_79 : decode cX0_choose 79 = .ok (.goto (-45), 3) := by decide +kernel
theorem dX0_choose_82 : decode cX0_choose 82 = .ok (.aload_n 0, 1) := by decide +kernel
theorem dX0_choose_83 : decode cX0_choose 83 = .ok (.lconst 0, 1) := by decide +kernel
theorem dX0_choose_84 : decode cX0_choose 84 = .ok (.putfield 53, 3) := by decide +kernel
theorem dX0_choose_87 : decode cX0_choose 87 = .ok (.iconst 0, 1) := by decide +kernel
theorem dX0_choose_88 : decode cX0_choose 88 = .ok (.istore 4, 2) := by decide +kernel
theorem dX0_choose_90 : decode cX0_choose 90 = .ok (.iload 4, 2) := by decide +kernel
theorem dX0_choose_92 : decode cX0_choose 92 = .ok (.sipush 500, 3) := by decide +kernel
theorem dX0_choose_95 : decode cX0_choose 95 = .ok (.if_icmp .gt 27, 3) := by decide +kernel
theorem dX0_choose_98 : decode cX0_choose 98 = .ok (.aload_n 0, 1) := by decide +kernel
theorem dX0_choose_99 : decode cX0_choose 99 = .ok (.aload_n 0, 1) := by decide +kernel
theorem dX0_choose_100 : decode cX0_choose 100 = .ok (.getfield 53, 3) := by decide +kernel
theorem dX0_choose_103 : decode cX0_choose 103 = .ok (.aload_n 0, 1) := by decide +kernel
theorem dX0_choose_104 : decode cX0_choose 104 = .ok (.getfield 24, 3) := by decide +kernel
theorem dX0_choose_107 : decode cX0_choose 107 = .ok (.iload 4, 2) := by decide +kernel
theorem dX0_choose_109 : decode cX0_choose 109 = .ok (.laload, 1) := by decide +kernel
theorem dX0_choose_110 : decode cX0_choose 110 = .ok (.invokestatic 57, 3) := by decide +kernel
theorem dX0_choose_113 : decode cX0_choose 113 = .ok (.putfield 53, 3) := by decide +kernel
theorem dX0_choose_116 : decode cX0_choose 116 = .ok (.iinc 4 1, 3) := by decide +kernel
theorem dX0_choose_119 : decode cX0_choose 119 = .ok (.goto (-29), 3) := by decide +kernel
theorem dX0_choose_122 : decode cX0_choose 122 = .ok (.return_, 1) := by decide +kernel
set_option maxRecDepth 20000 in
theorem ggX0_offer_X0_worthOf : GoodIn wsX0_offer wsX0_worthOf := goodIn_r _ [15, 16, 17, 18, 14, 19, 20, 21, 22, 23, 24, 25] (by decide +kernel) (by decide +kernel)
set_option maxRecDepth 20000 in
theorem gX0_offer_X0_worthOf : GoodIn wsX0_offer (wsV RX0 61 RX0 yX0_worthOf wsX0_worthOf) := goodIn_app (goodIn_of _ (by decide +kernel)) ggX0_offer_X0_worthOf
theorem dX0_offer_0 : decode cX0_offer 0 = .ok (.iload_n 2, 1) := by decide +kernel
theorem dX0_offer_1 : decode cX0_offer 1 = .ok (.sipush 500, 3) := by decide +kernel
theorem dX0_offer_4 : decode cX0_offer 4 = .ok (.invokestatic 34, 3) := by decide +kernel
theorem dX0_offer_7 : decode cX0_offer 7 = .ok (.istore_n 3, 1) := by decide +kernel
theorem dX0_offer_8 : decode cX0_offer 8 = .ok (.iload_n 3, 1) := by decide +kernel
theorem dX0_offer_9 : decode cX0_offer 9 = .ok (.aload_n 0, 1) := by decide +kernel
theorem dX0_offer_10 : decode cX0_offer 10 = .ok (.getfield 15, 3) := by decide +kernel
theorem dX0_offer_13 : decode cX0_offer 13 = .ok (.iload_n 1, 1) := by decide +kernel
theorem dX0_offer_14 : decode cX0_offer 14 = .ok (.iaload, 1) := by decide +kernel
theorem dX0_offer_15 : decode cX0_offer 15 = .ok (.if_icmp .lt 56, 3) := by decide +kernel
theorem dX0_offer_18 : decode cX0_offer 18 = .ok (.aload_n 0, 1) := by decide +kernel
theorem dX0_offer_19 : decode cX0_offer 19 = .ok (.getfield 24, 3) := by decide +kernel
theorem dX0_offer_22 : decode cX0_offer 22 = .ok (.iload_n 3, 1) := by decide +kernel
theorem dX0_offer_23 : decode cX0_offer 23 = .ok (.aload_n 0, 1) := by decide +kernel
theorem dX0_offer_24 : decode cX0_offer 24 = .ok (.getfield 15, 3) := by decide +kernel
theorem dX0_offer_27 : decode cX0_offer 27 = .ok (.iload_n 1, 1) := by decide +kernel
theorem dX0_offer_28 : decode cX0_offer 28 = .ok (.iaload, 1) := by decide +kernel
theorem dX0_offer_29 : decode cX0_offer 29 = .ok (.isub, 1) := by decide +kernel
theorem dX0_offer_30 : decode cX0_offer 30 = .ok (.laload, 1) := by decide +kernel
theorem dX0_offer_31 : decode cX0_offer 31 = .ok (.lstore 4, 2) := by decide +kernel
theorem dX0_offer_33 : decode cX0_offer 33 = .ok (.lload 4, 2) := by decide +kernel
theorem dX0_offer_35 : decode cX0_offer 35 = .ok (.ldc2_w 44, 3) := by decide +kernel
theorem dX0_offer_38 : decode cX0_offer 38 = .ok (.lcmp, 1) := by decide +kernel
theorem dX0_offer_39 : decode cX0_offer 39 = .ok (.ifCond .eq 26, 3) := by decide +kernel
theorem dX0_offer_42 : decode cX0_offer 42 = .ok (.aload_n 0, 1) := by decide +kernel
theorem dX0_offer_43 : decode cX0_offer 43 = .ok (.getfield 24, 3) := by decide +kernel
theorem dX0_offer_46 : decode cX0_offer 46 = .ok (.iload_n 3, 1) := by decide +kernel
theorem dX0_offer_47 : decode cX0_offer 47 = .ok (.aload_n 0, 1) := by decide +kernel
theorem dX0_offer_48 : decode cX0_offer 48 = .ok (.getfield 24, 3) := by decide +kernel
theorem dX0_offer_51 : decode cX0_offer 51 = .ok (.iload_n 3, 1) := by decide +kernel
theorem dX0_offer_52 : decode cX0_offer 52 = .ok (.laload, 1) := by decide +kernel
theorem dX0_offer_53 : decode cX0_offer 53 = .ok (.lload 4, 2) := by decide +kernel
theorem dX0_offer_55 : decode cX0_offer 55 = .ok (.aload_n 0, 1) := by decide +kernel
theorem dX0_offer_56 : decode cX0_offer 56 = .ok (.iload_n 1, 1) := by decide +kernel
theorem dX0_offer_57 : decode cX0_offer 57 = .ok (.invokevirtual 61, 3) := by decide +kernel
theorem dX0_offer_60 : decode cX0_offer 60 = .ok (.ladd, 1) := by decide +kernel
theorem dX0_offer_61 : decode cX0_offer 61 = .ok (.invokestatic 57, 3) := by decide +kernel
theorem dX0_offer_64 : decode cX0_offer 64 = .ok (.lastore, 1) := by decide +kernel
theorem dX0_offer_65 : decode cX0_offer 65 = .ok (.iinc 3 (-1), 3) := by decide +kernel
theorem dX0_offer_68 : decode cX0_offer 68 = .ok (.goto (-60), 3) := by decide +kernel
theorem dX0_offer_71 : decode cX0_offer 71 = .ok (.return_, 1) := by decide +kernel
set_option maxRecDepth 20000 in
theorem ggX0_worthOf_X0_bitOf : GoodIn wsX0_worthOf wsX0_bitOf := goodIn_r _ [5] (by decide +kernel) (by decide +kernel)
set_option maxRecDepth 20000 in
theorem gX0_worthOf_X0_bitOf : GoodIn wsX0_worthOf (va_wsS RX0 65 yX0_bitOf wsX0_bitOf) := goodIn_app (goodIn_of _ (by decide +kernel)) ggX0_worthOf_X0_bitOf
theorem dX0_worthOf_0 : decode cX0_worthOf 0 = .ok (.aload_n 0, 1) := by decide +kernel
theorem dX0_worthOf_1 : decode cX0_worthOf 1 = .ok (.getfield 9, 3) := by decide +kernel
theorem dX0_worthOf_4 : decode cX0_worthOf 4 = .ok (.iload_n 1, 1) := by decide +kernel
theorem dX0_worthOf_5 : decode cX0_worthOf 5 = .ok (.iaload, 1) := by decide +kernel
theorem dX0_worthOf_6 : decode cX0_worthOf 6 = .ok (.i2l, 1) := by decide +kernel
theorem dX0_worthOf_7 : decode cX0_worthOf 7 = .ok (.bipush 20, 2) := by decide +kernel
theorem dX0_worthOf_9 : decode cX0_worthOf 9 = .ok (.lshl, 1) := by decide +kernel
theorem dX0_worthOf_10 : decode cX0_worthOf 10 = .ok (.iload_n 1, 1) := by decide +kernel
theorem dX0_worthOf_11 : decode cX0_worthOf 11 = .ok (.invokestatic 65, 3) := by decide +kernel
theorem dX0_worthOf_14 : decode cX0_worthOf 14 = .ok (.ladd, 1) := by decide +kernel
theorem dX0_worthOf_15 : decode cX0_worthOf 15 = .ok (.lreturn, 1) := by decide +kernel
theorem dX0_bitOf_0 : decode cX0_bitOf 0 = .ok (.lconst 1, 1) := by decide +kernel
theorem dX0_bitOf_1 : decode cX0_bitOf 1 = .ok (.bipush 19, 2) := by decide +kernel
theorem dX0_bitOf_3 : decode cX0_bitOf 3 = .ok (.iload_n 0, 1) := by decide +kernel
theorem dX0_bitOf_4 : decode cX0_bitOf 4 = .ok (.isub, 1) := by decide +kernel
theorem dX0_bitOf_5 : decode cX0_bitOf 5 = .ok (.lshl, 1) := by decide +kernel
theorem dX0_bitOf_6 : decode cX0_bitOf 6 = .ok (.lreturn, 1) := by decide +kernel
theorem dX0_sortTurns_0 : decode cX0_sortTurns 0 = .ok (.iconst 0, 1) := by decide +kernel
theorem dX0_sortTurns_1 : decode cX0_sortTurns 1 = .ok (.istore_n 2, 1) := by decide +kernel
theorem dX0_sortTurns_2 : decode cX0_sortTurns 2 = .ok (.iload_n 2, 1) := by decide +kernel
theorem dX0_sortTurns_3 : decode cX0_sortTurns 3 = .ok (.iload_n 1, 1) := by decide +kernel
theorem dX0_sortTurns_4 : decode cX0_sortTurns 4 = .ok (.if_icmp .ge 64, 3) := by decide +kernel
theorem dX0_sortTurns_7 : decode cX0_sortTurns 7 = .ok (.iload_n 2, 1) := by decide +kernel
theorem dX0_sortTurns_8 : decode cX0_sortTurns 8 = .ok (.istore_n 3, 1) := by decide +kernel
theorem dX0_sortTurns_9 : decode cX0_sortTurns 9 = .ok (.iload_n 3, 1) := by decide +kernel
theorem dX0_sortTurns_10 : decode cX0_sortTurns 10 = .ok (.ifCond .le 45, 3) := by decide +kernel
theorem dX0_sortTurns_13 : decode cX0_sortTurns 13 = .ok (.aload_n 0, 1) := by decide +kernel
theorem dX0_sortTurns_14 : decode cX0_sortTurns 14 = .ok (.getfield 18, 3) := by decide +kernel
theorem dX0_sortTurns_17 : decode cX0_sortTurns 17 = .ok (.aload_n 0, 1) := by decide +kernel
theorem dX0_sortTurns_18 : decode cX0_sortTurns 18 = .ok (.getfield 21, 3) := by decide +kernel
theorem dX0_sortTurns_21 : decode cX0_sortTurns 21 = .ok (.iload_n 3, 1) := by decide +kernel
theorem dX0_sortTurns_22 : decode cX0_sortTurns 22 = .ok (.iconst 1, 1) := by decide +kernel
theorem dX0_sortTurns_23 : decode cX0_sortTurns 23 = .ok (.isub, 1) := by decide +kernel
theorem dX0_sortTurns_24 : decode cX0_sortTurns 24 = .ok (.iaload, 1) := by decide +kernel
theorem dX0_sortTurns_25 : decode cX0_sortTurns 25 = .ok (.iaload, 1) := by decide +kernel
theorem dX0_sortTurns_26 : decode cX0_sortTurns 26 = .ok (.aload_n 0, 1) := by decide +kernel
theorem dX0_sortTurns_27 : decode cX0_sortTurns 27 = .ok (.getfield 18, 3) := by decide +kernel
theorem dX0_sortTurns_30 : decode cX0_sortTurns 30 = .ok (.iload_n 2, 1) := by decide +kernel
theorem dX0_sortTurns_31 : decode cX0_sortTurns 31 = .ok (.iaload, 1) := by decide +kernel
theorem dX0_sortTurns_32 : decode cX0_sortTurns 32 = .ok (.if_icmp .le 23, 3) := by decide +kernel
theorem dX0_sortTurns_35 : decode cX0_sortTurns 35 = .ok (.aload_n 0, 1) := by decide +kernel
theorem dX0_sortTurns_36 : decode cX0_sortTurns 36 = .ok (.getfield 21, 3) := by decide +kernel
theorem dX0_sortTurns_39 : decode cX0_sortTurns 39 = .ok (.iload_n 3, 1) := by decide +kernel
theorem dX0_sortTurns_40 : decode cX0_sortTurns 40 = .ok (.aload_n 0, 1) := by decide +kernel
theorem dX0_sortTurns_41 : decode cX0_sortTurns 41 = .ok (.getfield 21, 3) := by decide +kernel
theorem dX0_sortTurns_44 : decode cX0_sortTurns 44 = .ok (.iload_n 3, 1) := by decide +kernel
theorem dX0_sortTurns_45 : decode cX0_sortTurns 45 = .ok (.iconst 1, 1) := by decide +kernel
theorem dX0_sortTurns_46 : decode cX0_sortTurns 46 = .ok (.isub, 1) := by decide +kernel
theorem dX0_sortTurns_47 : decode cX0_sortTurns 47 = .ok (.iaload, 1) := by decide +kernel
theorem dX0_sortTurns_48 : decode cX0_sortTurns 48 = .ok (.iastore, 1) := by decide +kernel
theorem dX0_sortTurns_49 : decode cX0_sortTurns 49 = .ok (.iinc 3 (-1), 3) := by decide +kernel
theorem dX0_sortTurns_52 : decode cX0_sortTurns 52 = .ok (.goto (-43), 3) := by decide +kernel
theorem dX0_sortTurns_55 : decode cX0_sortTurns 55 = .ok (.aload_n 0, 1) := by decide +kernel
theorem dX0_sortTurns_56 : decode cX0_sortTurns 56 = .ok (.getfield 21, 3) := by decide +kernel
theorem dX0_sortTurns_59 : decode cX0_sortTurns 59 = .ok (.iload_n 3, 1) := by decide +kernel
theorem dX0_sortTurns_60 : decode cX0_sortTurns 60 = .ok (.iload_n 2, 1) := by decide +kernel
theorem dX0_sortTurns_61 : decode cX0_sortTurns 61 = .ok (.iastore, 1) := by decide +kernel
theorem dX0_sortTurns_62 : decode cX0_sortTurns 62 = .ok (.iinc 2 1, 3) := by decide +kernel
theorem dX0_sortTurns_65 : decode cX0_sortTurns 65 = .ok (.goto (-63), 3) := by decide +kernel
theorem dX0_sortTurns_68 : decode cX0_sortTurns 68 = .ok (.return_, 1) := by decide +kernel
theorem dX0_wantedTogether_0 : decode cX0_wantedTogether 0 = .ok (.aload_n 0, 1) := by decide +kernel
theorem dX0_wantedTogether_1 : decode cX0_wantedTogether 1 = .ok (.getfield 53, 3) := by decide +kernel
theorem dX0_wantedTogether_4 : decode cX0_wantedTogether 4 = .ok (.bipush 20, 2) := by decide +kernel
theorem dX0_wantedTogether_6 : decode cX0_wantedTogether 6 = .ok (.lshr, 1) := by decide +kernel
theorem dX0_wantedTogether_7 : decode cX0_wantedTogether 7 = .ok (.l2i, 1) := by decide +kernel
theorem dX0_wantedTogether_8 : decode cX0_wantedTogether 8 = .ok (.ireturn, 1) := by decide +kernel
set_option maxRecDepth 20000 in
theorem ggX0_isChosen_X0_bitOf : GoodIn wsX0_isChosen wsX0_bitOf := goodIn_r _ [5] (by decide +kernel) (by decide +kernel)
set_option maxRecDepth 20000 in
theorem gX0_isChosen_X0_bitOf : GoodIn wsX0_isChosen (va_wsS RX0 65 yX0_bitOf wsX0_bitOf) := goodIn_app (goodIn_of _ (by decide +kernel)) ggX0_isChosen_X0_bitOf
theorem dX0_isChosen_0 : decode cX0_isChosen 0 = .ok (.iload_n 1, 1) := by decide +kernel
theorem dX0_isChosen_1 : decode cX0_isChosen 1 = .ok (.ifCond .lt 27, 3) := by decide +kernel
theorem dX0_isChosen_4 : decode cX0_isChosen 4 = .ok (.iload_n 1, 1) := by decide +kernel
theorem dX0_isChosen_5 : decode cX0_isChosen 5 = .ok (.bipush 20, 2) := by decide +kernel
theorem dX0_isChosen_7 : decode cX0_isChosen 7 = .ok (.if_icmp .ge 21, 3) := by decide +kernel
theorem dX0_isChosen_10 : decode cX0_isChosen 10 = .ok (.aload_n 0, 1) := by decide +kernel
theorem dX0_isChosen_11 : decode cX0_isChosen 11 = .ok (.getfield 53, 3) := by decide +kernel
theorem dX0_isChosen_14 : decode cX0_isChosen 14 = .ok (.iload_n 1, 1) := by decide +kernel
theorem dX0_isChosen_15 : decode cX0_isChosen 15 = .ok (.invokestatic 65, 3) := by decide +kernel
theorem dX0_isChosen_18 : decode cX0_isChosen 18 = .ok (.land, 1) := by decide +kernel
theorem dX0_isChosen_19 : decode cX0_isChosen 19 = .ok (.lconst 0, 1) := by decide +kernel
theorem dX0_isChosen_20 : decode cX0_isChosen 20 = .ok (.lcmp, 1) := by decide +kernel
theorem dX0_isChosen_21 : decode cX0_isChosen 21 = .ok (.ifCond .eq 7, 3) := by decide +kernel
theorem dX0_isChosen_24 : decode cX0_isChosen 24 = .ok (.iconst 1, 1) := by decide +kernel
theorem dX0_isChosen_25 : decode cX0_isChosen 25 = .ok (.goto 4, 3) := by decide +kernel
theorem dX0_isChosen_28 : decode cX0_isChosen 28 = .ok (.iconst 0, 1) := by decide +kernel
theorem dX0_isChosen_29 : decode cX0_isChosen 29 = .ok (.ireturn, 1) := by decide +kernel
set_option maxRecDepth 20000 in
theorem ggX0_beginningOf_X0_isChosen : GoodIn wsX0_beginningOf wsX0_isChosen := goodIn_r _ [7, 8, 9, 10, 6, 11, 12, 13, 14, 15, 16, 17] (by decide +kernel) (by decide +kernel)
set_option maxRecDepth 20000 in
theorem gX0_beginningOf_X0_isChosen : GoodIn wsX0_beginningOf (wsV RX0 68 RX0 yX0_isChosen wsX0_isChosen) := goodIn_app (goodIn_of _ (by decide +kernel)) ggX0_beginningOf_X0_isChosen
theorem dX0_beginningOf_0 : decode cX0_beginningOf 0 = .ok (.iconst 0, 1) := by decide +kernel
theorem dX0_beginningOf_1 : decode cX0_beginningOf 1 = .ok (.istore_n 3, 1) := by decide +kernel
theorem dX0_beginningOf_2 : decode cX0_beginningOf 2 = .ok (.iconst 0, 1) := by decide +kernel
theorem dX0_beginningOf_3 : decode cX0_beginningOf 3 = .ok (.istore 4, 2) := by decide +kernel
theorem dX0_beginningOf_5 : decode cX0_beginningOf 5 = .ok (.iload 4, 2) := by decide +kernel
theorem dX0_beginningOf_7 : decode cX0_beginningOf 7 = .ok (.iload_n 2, 1) := by decide +kernel
theorem dX0_beginningOf_8 : decode cX0_beginningOf 8 = .ok (.if_icmp .ge 52, 3) := by decide +kernel
theorem dX0_beginningOf_11 : decode cX0_beginningOf 11 = .ok (.iload 4, 2) := by decide +kernel
theorem dX0_beginningOf_13 : decode cX0_beginningOf 13 = .ok (.bipush 20, 2) := by decide +kernel
theorem dX0_beginningOf_15 : decode cX0_beginningOf 15 = .ok (.if_icmp .ge 45, 3) := by decide +kernel
theorem dX0_beginningOf_18 : decode cX0_beginningOf 18 = .ok (.aload_n 0, 1) := by decide +kernel
theorem dX0_beginningOf_19 : decode cX0_beginningOf 19 = .ok (.getfield 21, 3) := by decide +kernel
theorem dX0_beginningOf_22 : decode cX0_beginningOf 22 = .ok (.iload 4, 2) := by decide +kernel
theorem dX0_beginningOf_24 : decode cX0_beginningOf 24 = .ok (.iaload, 1) := by decide +kernel
theorem dX0_beginningOf_25 : decode cX0_beginningOf 25 = .ok (.istore 5, 2) := by decide +kernel
theorem dX0_beginningOf_27 : decode cX0_beginningOf 27 = .ok (.iload 5, 2) := by decide +kernel
theorem dX0_beginningOf_29 : decode cX0_beginningOf 29 = .ok (.iload_n 1, 1) := by decide +kernel
theorem dX0_beginningOf_30 : decode cX0_beginningOf 30 = .ok (.if_icmp .ne 5, 3) := by decide +kernel
theorem dX0_beginningOf_33 : decode cX0_beginningOf 33 = .ok (.iload_n 3, 1) := by decide +kernel
theorem dX0_beginningOf_34 : decode cX0_beginningOf 34 = .ok (.ireturn, 1) := by decide +kernel
theorem dX0_beginningOf_35 : decode cX0_beginningOf 35 = .ok (.aload_n 0, 1) := by decide +kernel
theorem dX0_beginningOf_36 : decode cX0_beginningOf 36 = .ok (.iload 5, 2) := by decide +kernel
theorem dX0_beginningOf_38 : decode cX0_beginningOf 38 = .ok (.invokevirtual 68, 3) := by decide +kernel
theorem dX0_beginningOf_41 : decode cX0_beginningOf 41 = .ok (.ifCond .eq 13, 3) := by decide +kernel
theorem dX0_beginningOf_44 : decode cX0_beginningOf 44 = .ok (.iload_n 3, 1) := by decide +kernel
theorem dX0_beginningOf_45 : decode cX0_beginningOf 45 = .ok (.aload_n 0, 1) := by decide +kernel
theorem dX0_beginningOf_46 : decode cX0_beginningOf 46 = .ok (.getfield 15, 3) := by decide +kernel
theorem dX0_beginningOf_49 : decode cX0_beginningOf 49 = .ok (.iload 5, 2) := by decide +kernel
theorem dX0_beginningOf_51 : decode cX0_beginningOf 51 = .ok (.iaload, 1) := by decide +kernel
theorem dX0_beginningOf_52 : decode cX0_beginningOf 52 = .ok (.iadd, 1) := by decide +kernel
theorem dX0_beginningOf_53 : decode cX0_beginningOf 53 = .ok (.istore_n 3, 1) := by decide +kernel
theorem dX0_beginningOf_54 : decode cX0_beginningOf 54 = .ok (.iinc 4 1, 3) := by decide +kernel
theorem dX0_beginningOf_57 : decode cX0_beginningOf 57 = .ok (.goto (-52), 3) := by decide +kernel
theorem dX0_beginningOf_60 : decode cX0_beginningOf 60 = .ok (.iload_n 3, 1) := by decide +kernel
theorem dX0_beginningOf_61 : decode cX0_beginningOf 61 = .ok (.ireturn, 1) := by decide +kernel
set_option maxRecDepth 20000 in
theorem ggX1_init_X1_compare : GoodIn wsX1_init wsX1_compare := goodIn_r _ [14, 7, 8, 9, 5, 6, 15, 16, 13, 17, 18, 19, 20, 21, 22] (by decide +kernel) (by decide +kernel)
set_option maxRecDepth 20000 in
theorem gX1_init_X1_compare : GoodIn wsX1_init (wsV RX1 27 RX1 yX1_compare wsX1_compare) := goodIn_app (goodIn_of _ (by decide +kernel)) ggX1_init_X1_compare
theorem dX1_init_0 : decode cX1_init 0 = .ok (.aload_n 0, 1) := by decide +kernel
theorem dX1_init_1 : decode cX1_init 1 = .ok (.invokespecial 3, 3) := by decide +kernel
theorem dX1_init_4 : decode cX1_init 4 = .ok (.aload_n 0, 1) := by decide +kernel
theorem dX1_init_5 : decode cX1_init 5 = .ok (.bipush 20, 2) := by decide +kernel
theorem dX1_init_7 : decode cX1_init 7 = .ok (.newarray .int, 2) := by decide +kernel
theorem dX1_init_9 : decode cX1_init 9 = .ok (.putfield 9, 3) := by decide +kernel
theorem dX1_init_12 : decode cX1_init 12 = .ok (.aload_n 0, 1) := by decide +kernel
theorem dX1_init_13 : decode cX1_init 13 = .ok (.bipush 20, 2) := by decide +kernel
theorem dX1_init_15 : decode cX1_init 15 = .ok (.newarray .int, 2) := by decide +kernel
theorem dX1_init_17 : decode cX1_init 17 = .ok (.putfield 15, 3) := by decide +kernel
theorem dX1_init_20 : decode cX1_init 20 = .ok (.aload_n 0, 1) := by decide +kernel
theorem dX1_init_21 : decode cX1_init 21 = .ok (.bipush 20, 2) := by decide +kernel
theorem dX1_init_23 : decode cX1_init 23 = .ok (.newarray .int, 2) := by decide +kernel
theorem dX1_init_25 : decode cX1_init 25 = .ok (.putfield 18, 3) := by decide +kernel
theorem dX1_init_28 : decode cX1_init 28 = .ok (.aload_n 0, 1) := by decide +kernel
theorem dX1_init_29 : decode cX1_init 29 = .ok (.bipush 20, 2) := by decide +kernel
theorem dX1_init_31 : decode cX1_init 31 = .ok (.newarray .int, 2) := by decide +kernel
theorem dX1_init_33 : decode cX1_init 33 = .ok (.putfield 21, 3) := by decide +kernel
theorem dX1_init_36 : decode cX1_init 36 = .ok (.aload_n 0, 1) := by decide +kernel
theorem dX1_init_37 : decode cX1_init 37 = .ok (.bipush 20, 2) := by decide +kernel
theorem dX1_init_39 : decode cX1_init 39 = .ok (.newarray .int, 2) := by decide +kernel
theorem dX1_init_41 : decode cX1_init 41 = .ok (.putfield 24, 3) := by decide +kernel
theorem dX1_init_44 : decode cX1_init 44 = .ok (.iconst 0, 1) := by decide +kernel
theorem dX1_init_45 : decode cX1_init 45 = .ok (.istore_n 1, 1) := by decide +kernel
theorem dX1_init_46 : decode cX1_init 46 = .ok (.iload_n 1, 1) := by decide +kernel
theorem dX1_init_47 : decode cX1_init 47 = .ok (.bipush 20, 2) := by decide +kernel
theorem dX1_init_49 : decode cX1_init 49 = .ok (.if_icmp .ge 14, 3) := by decide +kernel
theorem dX1_init_52 : decode cX1_init 52 = .ok (.aload_n 0, 1) := by decide +kernel
theorem dX1_init_53 : decode cX1_init 53 = .ok (.iload_n 1, 1) := by decide +kernel
theorem dX1_init_54 : decode cX1_init 54 = .ok (.invokevirtual 27, 3) := by decide +kernel
theorem dX1_init_57 : decode cX1_init 57 = .ok (.iinc 1 1, 3) := by decide +kernel
theorem dX1_init_60 : decode cX1_init 60 = .ok (.goto (-14), 3) := by decide +kernel
theorem dX1_init_63 : decode cX1_init 63 = .ok (.return_, 1) := by decide +kernel
set_option maxRecDepth 20000 in
theorem ggX1_setEdges_X1_compare : GoodIn wsX1_setEdges wsX1_compare := goodIn_r _ [7, 8, 9, 10, 1, 2, 11, 12, 6, 13, 14, 15, 16, 17, 18] (by decide +kernel) (by decide +kernel)
set_option maxRecDepth 20000 in
theorem gX1_setEdges_X1_compare : GoodIn wsX1_setEdges (wsV RX1 27 RX1 yX1_compare wsX1_compare) := goodIn_app (goodIn_of _ (by decide +kernel)) ggX1_setEdges_X1_compare
theorem dX1_setEdges_0 : decode cX1_setEdges 0 = .ok (.iload_n 1, 1) := by decide +kernel
theorem dX1_setEdges_1 : decode cX1_setEdges 1 = .ok (.ifCond .lt 9, 3) := by decide +kernel
theorem dX1_setEdges_4 : decode cX1_setEdges 4 = .ok (.iload_n 1, 1) := by decide +kernel
theorem dX1_setEdges_5 : decode cX1_setEdges 5 = .ok (.bipush 20, 2) := by decide +kernel
theorem dX1_setEdges_7 : decode cX1_setEdges 7 = .ok (.if_icmp .lt 4, 3) := by decide +kernel
theorem dX1_setEdges_10 : decode cX1_setEdges 10 = .ok (.return_, 1) := by decide +kernel
theorem dX1_setEdges_11 : decode cX1_setEdges 11 = .ok (.aload_n 0, 1) := by decide +kernel
theorem dX1_setEdges_12 : decode cX1_setEdges 12 = .ok (.getfield 9, 3) := by decide +kernel
theorem dX1_setEdges_15 : decode cX1_setEdges 15 = .ok (.iload_n 1, 1) := by decide +kernel
theorem dX1_setEdges_16 : decode cX1_setEdges 16 = .ok (.iload_n 2, 1) := by decide +kernel
theorem dX1_setEdges_17 : decode cX1_setEdges 17 = .ok (.iastore, 1) := by decide +kernel
theorem dX1_setEdges_18 : decode cX1_setEdges 18 = .ok (.aload_n 0, 1) := by decide +kernel
theorem dX1_setEdges_19 : decode cX1_setEdges 19 = .ok (.getfield 15, 3) := by decide +kernel
theorem dX1_setEdges_22 : decode cX1_setEdges 22 = .ok (.iload_n 1, 1) := by decide +kernel
theorem dX1_setEdges_23 : decode cX1_setEdges 23 = .ok (.iload_n 3, 1) := by decide +kernel
theorem dX1_setEdges_24 : decode cX1_setEdges 24 = .ok (.iastore, 1) := by decide +kernel
theorem dX1_setEdges_25 : decode cX1_setEdges 25 = .ok (.iconst 0, 1) := by decide +kernel
theorem dX1_setEdges_26 : decode cX1_setEdges 26 = .ok (.istore 4, 2) := by decide +kernel
theorem dX1_setEdges_28 : decode cX1_setEdges 28 = .ok (.iload 4, 2) := by decide +kernel
theorem dX1_setEdges_30 : decode cX1_setEdges 30 = .ok (.bipush 20, 2) := by decide +kernel
theorem dX1_setEdges_32 : decode cX1_setEdges 32 = .ok (.if_icmp .ge 15, 3) := by decide +kernel
theorem dX1_setEdges_35 : decode cX1_setEdges 35 = .ok (.aload_n 0, 1) := by decide +kernel
theorem dX1_setEdges_36 : decode cX1_setEdges 36 = .ok (.iload 4, 2) := by decide +kernel
theorem dX1_setEdges_38 : decode cX1_setEdges 38 = .ok (.invokevirtual 27, 3) := by decide +kernel
theorem dX1_setEdges_41 : decode cX1_setEdges 41 = .ok (.iinc 4 1, 3) := by decide +kernel
theorem dX1_setEdges_44 : decode cX1_setEdges 44 = .ok (.goto (-16), 3) := by decide +kernel
theorem dX1_setEdges_47 : decode cX1_setEdges 47 = .ok (.return_, 1) := by decide +kernel
set_option maxRecDepth 20000 in
theorem ggX1_compare_X1_fits : GoodIn wsX1_compare wsX1_fits := goodIn_r _ [9] (by decide +kernel) (by decide +kernel)
set_option maxRecDepth 20000 in
theorem gX1_compare_X1_fits : GoodIn wsX1_compare (va_wsS RX1 31 yX1_fits wsX1_fits) := goodIn_app (goodIn_of _ (by decide +kernel)) ggX1_compare_X1_fits
theorem dX1_compare_0 : decode cX1_compare 0 = .ok (.aload_n 0, 1) := by decide +kernel
theorem dX1_compare_1 : decode cX1_compare 1 = .ok (.getfield 18, 3) := by decide +kernel
theorem dX1_compare_4 : decode cX1_compare 4 = .ok (.iload_n 1, 1) := by decide +kernel
theorem dX1_compare_5 : decode cX1_compare 5 = .ok (.iconst 1, 1) := by decide +kernel
theorem dX1_compare_6 : decode cX1_compare 6 = .ok (.iload_n 1, 1) := by decide +kernel
theorem dX1_compare_7 : decode cX1_compare 7 = .ok (.ishl, 1) := by decide +kernel
theorem dX1_compare_8 : decode cX1_compare 8 = .ok (.iastore, 1) := by decide +kernel
theorem dX1_compare_9 : decode cX1_compare 9 = .ok (.aload_n 0, 1) := by decide +kernel
theorem dX1_compare_10 : decode cX1_compare 10 = .ok (.getfield 21, 3) := by decide +kernel
theorem dX1_compare_13 : decode cX1_compare 13 = .ok (.iload_n 1, 1) := by decide +kernel
theorem dX1_compare_14 : decode cX1_compare 14 = .ok (.iconst 0, 1) := by decide +kernel
theorem dX1_compare_15 : decode cX1_compare 15 = .ok (.iastore, 1) := by decide +kernel
theorem dX1_compare_16 : decode cX1_compare 16 = .ok (.aload_n 0, 1) := by decide +kernel
theorem dX1_compare_17 : decode cX1_compare 17 = .ok (.getfield 24, 3) := by decide +kernel
theorem dX1_compare_20 : decode cX1_compare 20 = .ok (.iload_n 1, 1) := by decide +kernel
theorem dX1_compare_21 : decode cX1_compare 21 = .ok (.iconst 0, 1) := by decide +kernel
theorem dX1_compare_22 : decode cX1_compare 22 = .ok (.iastore, 1) := by decide +kernel
theorem dX1_compare_23 : decode cX1_compare 23 = .ok (.iconst 0, 1) := by decide +kernel
theorem dX1_compare_24 : decode cX1_compare 24 = .ok (.istore_n 2, 1) := by decide +kernel
theorem dX1_compare_25 : decode cX1_compare 25 = .ok (.iload_n 2, 1) := by decide +kernel
theorem dX1_compare_26 : decode cX1_compare 26 = .ok (.bipush 20, 2) := by decide +kernel
theorem dX1_compare_28 : decode cX1_compare 28 = .ok (.if_icmp .ge 97, 3) := by decide +kernel
theorem dX1_compare_31 : decode cX1_compare 31 = .ok (.iconst 1, 1) := by decide +kernel
theorem dX1_compare_32 : decode cX1_compare 32 = .ok (.iload_n 2, 1) := by decide +kernel
theorem dX1_compare_33 : decode cX1_compare 33 = .ok (.ishl, 1) := by decide +kernel
theorem dX1_compare_34 : decode cX1_compare 34 = .ok (.istore_n 3, 1) := by decide +kernel
theorem dX1_compare_35 : decode cX1_compare 35 = .ok (.aload_n 0, 1) := by decide +kernel
theorem dX1_compare_36 : decode cX1_compare 36 = .ok (.getfield 9, 3) := by decide +kernel
theorem dX1_compare_39 : decode cX1_compare 39 = .ok (.iload_n 1, 1) := by decide +kernel
theorem dX1_compare_40 : decode cX1_compare 40 = .ok (.iaload, 1) := by decide +kernel
theorem dX1_compare_41 : decode cX1_compare 41 = .ok (.aload_n 0, 1) := by decide +kernel
theorem dX1_compare_42 : decode cX1_compare 42 = .ok (.getfield 9, 3) := by decide +kernel
theorem dX1_compare_45 : decode cX1_compare 45 = .ok (.iload_n 2, 1) := by decide +kernel
theorem dX1_compare_46 : decode cX1_compare 46 = .ok (.iaload, 1) := by decide +kernel
theorem dX1_compare_47 : decode cX1_compare 47 = .ok (.invokestatic 31, 3) := by decide +kernel
theorem dX1_compare_50 : decode cX1_compare 50 = .ok (.ifCond .eq 13, 3) := by decide +kernel
theorem dX1_compare_53 : decode cX1_compare 53 = .ok (.aload_n 0, 1) := by decide +kernel
theorem dX1_compare_54 : decode cX1_compare 54 = .ok (.getfield 18, 3) := by decide +kernel
theorem dX1_compare_57 : decode cX1_compare 57 = .ok (.iload_n 1, 1) := by decide +kernel
theorem dX1_compare_58 : decode cX1_compare 58 = .ok (.dup2, 1) := by decide +kernel
theorem dX1_compare_59 : decode cX1_compare 59 = .ok (.iaload, 1) := by decide +kernel
theorem dX1_compare_60 : decode cX1_compare 60 = .ok (.iload_n 3, 1) := by decide +kernel
theorem dX1_compare_61 : decode cX1_compare 61 = .ok (.ior, 1) := by decide +kernel
theorem dX1_compare_62 : decode cX1_compare 62 = .ok (.iastore, 1) := by decide +kernel
theorem dX1_compare_63 : decode cX1_compare 63 = .ok (.aload_n 0, 1) := by decide +kernel
theorem dX1_compare_64 : decode cX1_compare 64 = .ok (.getfield 9, 3) := by decide +kernel
theorem dX1_compare_67 : decode cX1_compare 67 = .ok (.iload_n 1, 1) := by decide +kernel
theorem dX1_compare_68 : decode cX1_compare 68 = .ok (.iaload, 1) := by decide +kernel
theorem dX1_compare_69 : decode cX1_compare 69 = .ok (.aload_n 0, 1) := by decide +kernel
theorem dX1_compare_70 : decode cX1_compare 70 = .ok (.getfield 15, 3) := by decide +kernel
theorem dX1_compare_73 : decode cX1_compare 73 = .ok (.iload_n 2, 1) := by decide +kernel
theorem dX1_compare_74 : decode cX1_compare 74 = .ok (.iaload, 1) := by decide +kernel
theorem dX1_compare_75 : decode cX1_compare 75 = .ok (.invokestatic 31, 3) := by decide +kernel
theorem dX1_compare_78 : decode cX1_compare 78 = .ok (.ifCond .eq 13, 3) := by decide +kernel
theorem dX1_compare_81 : decode cX1_compare 81 = .ok (.aload_n 0, 1) := by decide +kernel
theorem dX1_compare_82 : decode cX1_compare 82 = .ok (.getfield 21, 3) := by decide +kernel
theorem dX1_compare_85 : decode cX1_compare 85 = .ok (.iload_n 1, 1) := by decide +kernel
theorem dX1_compare_86 : decode cX1_compare 86 = .ok (.dup2, 1) := by decide +kernel
theorem dX1_compare_87 : decode cX1_compare 87 = .ok (.iaload, 1) := by decide +kernel
theorem dX1_compare_88 : decode cX1_compare 88 = .ok (.iload_n 3, 1) := by decide +kernel
theorem dX1_compare_89 : decode cX1_compare 89 = .ok (.ior, 1) := by decide +kernel
theorem dX1_compare_90 : decode cX1_compare 90 = .ok (.iastore, 1) := by decide +kernel
theorem dX1_compare_91 : decode cX1_compare 91 = .ok (.aload_n 0, 1) := by decide +kernel
theorem dX1_compare_92 : decode cX1_compare 92 = .ok (.getfield 15, 3) := by decide +kernel
theorem dX1_compare_95 : decode cX1_compare 95 = .ok (.iload_n 1, 1) := by decide +kernel
theorem dX1_compare_96 : decode cX1_compare 96 = .ok (.iaload, 1) := by decide +kernel
theorem dX1_compare_97 : decode cX1_compare 97 = .ok (.aload_n 0, 1) := by decide +kernel
theorem dX1_compare_98 : decode cX1_compare 98 = .ok (.getfield 9, 3) := by decide +kernel
theorem dX1_compare_101 : decode cX1_compare 101 = .ok (.iload_n 2, 1) := by decide +kernel
theorem dX1_compare_102 : decode cX1_compare 102 = .ok (.iaload, 1) := by decide +kernel
theorem dX1_compare_103 : decode cX1_compare 103 = .ok (.invokestatic 31, 3) := by decide +kernel
theorem dX1_compare_106 : decode cX1_compare 106 = .ok (.ifCond .eq 13, 3) := by decide +kernel
theorem dX1_compare_109 : decode cX1_compare 109 = .ok (.aload_n 0, 1) := by decide +kernel
theorem dX1_compare_110 : decode cX1_compare 110 = .ok (.getfield 24, 3) := by decide +kernel
theorem dX1_compare_113 : decode cX1_compare 113 = .ok (.iload_n 1, 1) := by decide +kernel
theorem dX1_compare_114 : decode cX1_compare 114 = .ok (.dup2, 1) := by decide +kernel
theorem dX1_compare_115 : decode cX1_compare 115 = .ok (.iaload, 1) := by decide +kernel
theorem dX1_compare_116 : decode cX1_compare 116 = .ok (.iload_n 3, 1) := by decide +kernel
theorem dX1_compare_117 : decode cX1_compare 117 = .ok (.ior, 1) := by decide +kernel
theorem dX1_compare_118 : decode cX1_compare 118 = .ok (.iastore, 1) := by decide +kernel
theorem dX1_compare_119 : decode cX1_compare 119 = .ok (.iinc 2 1, 3) := by decide +kernel
theorem dX1_compare_122 : decode cX1_compare 122 = .ok (.goto (-97), 3) := by decide +kernel
theorem dX1_compare_125 : decode cX1_compare 125 = .ok (.return_, 1) := by decide +kernel
theorem dX1_fits_0 : decode cX1_fits 0 = .ok (.iload_n 0, 1) := by decide +kernel
theorem dX1_fits_1 : decode cX1_fits 1 = .ok (.ifCond .eq 12, 3) := by decide +kernel
theorem dX1_fits_4 : decode cX1_fits 4 = .ok (.iload_n 0, 1) := by decide +kernel
theorem dX1_fits_5 : decode cX1_fits 5 = .ok (.iload_n 1, 1) := by decide +kernel
theorem dX1_fits_6 : decode cX1_fits 6 = .ok (.if_icmp .ne 7, 3) := by decide +kernel
theorem dX1_fits_9 : decode cX1_fits 9 = .ok (.iconst 1, 1) := by decide +kernel
theorem dX1_fits_10 : decode cX1_fits 10 = .ok (.goto 4, 3) := by decide +kernel
theorem dX1_fits_13 : decode cX1_fits 13 = .ok (.iconst 0, 1) := by decide +kernel
theorem dX1_fits_14 : decode cX1_fits 14 = .ok (.ireturn, 1) := by decide +kernel
theorem dX1_holds_0 : decode cX1_holds 0 = .ok (.iload_n 0, 1) := by decide +kernel
theorem dX1_holds_1 : decode cX1_holds 1 = .ok (.iconst 1, 1) := by decide +kernel
theorem dX1_holds_2 : decode cX1_holds 2 = .ok (.iload_n 1, 1) := by decide +kernel
theorem dX1_holds_3 : decode cX1_holds 3 = .ok (.ishl, 1) := by decide +kernel
theorem dX1_holds_4 : decode cX1_holds 4 = .ok (.iand, 1) := by decide +kernel
theorem dX1_holds_5 : decode cX1_holds 5 = .ok (.ifCond .eq 7, 3) := by decide +kernel
theorem dX1_holds_8 : decode cX1_holds 8 = .ok (.iconst 1, 1) := by decide +kernel
theorem dX1_holds_9 : decode cX1_holds 9 = .ok (.goto 4, 3) := by decide +kernel
theorem dX1_holds_12 : decode cX1_holds 12 = .ok (.iconst 0, 1) := by decide +kernel
theorem dX1_holds_13 : decode cX1_holds 13 = .ok (.ireturn, 1) := by decide +kernel
set_option maxRecDepth 20000 in
theorem ggX1_missingLeftOf_J6_bitCount_0f7a4 : GoodIn wsX1_missingLeftOf wsJ6_bitCount_0f7a4 := goodIn_r _ [10, 11, 12, 13] (by decide +kernel) (by decide +kernel)
set_option maxRecDepth 20000 in
theorem gX1_missingLeftOf_J6_bitCount_0f7a4 : GoodIn wsX1_missingLeftOf (va_wsS RX1 35 yJ6_bitCount_0f7a4 wsJ6_bitCount_0f7a4) := goodIn_app (goodIn_of _ (by decide +kernel)) ggX1_missingLeftOf_J6_bitCount_0f7a4
theorem dX1_missingLeftOf_0 : decode cX1_missingLeftOf 0 = .ok (.iconst 0, 1) := by decide +kernel
theorem dX1_missingLeftOf_1 : decode cX1_missingLeftOf 1 = .ok (.aload_n 0, 1) := by decide +kernel
theorem dX1_missingLeftOf_2 : decode cX1_missingLeftOf 2 = .ok (.getfield 18, 3) := by decide +kernel
theorem dX1_missingLeftOf_5 : decode cX1_missingLeftOf 5 = .ok (.iload_n 1, 1) := by decide +kernel
theorem dX1_missingLeftOf_6 : decode cX1_missingLeftOf 6 = .ok (.iaload, 1) := by decide +kernel
theorem dX1_missingLeftOf_7 : decode cX1_missingLeftOf 7 = .ok (.iload_n 2, 1) := by decide +kernel
theorem dX1_missingLeftOf_8 : decode cX1_missingLeftOf 8 = .ok (.iand, 1) := by decide +kernel
theorem dX1_missingLeftOf_9 : decode cX1_missingLeftOf 9 = .ok (.invokestatic 35, 3) := by decide +kernel
theorem dX1_missingLeftOf_12 : decode cX1_missingLeftOf 12 = .ok (.aload_n 0, 1) := by decide +kernel
theorem dX1_missingLeftOf_13 : decode cX1_missingLeftOf 13 = .ok (.getfield 21, 3) := by decide +kernel
theorem dX1_missingLeftOf_16 : decode cX1_missingLeftOf 16 = .ok (.iload_n 1, 1) := by decide +kernel
theorem dX1_missingLeftOf_17 : decode cX1_missingLeftOf 17 = .ok (.iaload, 1) := by decide +kernel
theorem dX1_missingLeftOf_18 : decode cX1_missingLeftOf 18 = .ok (.iload_n 2, 1) := by decide +kernel
theorem dX1_missingLeftOf_19 : decode cX1_missingLeftOf 19 = .ok (.iand, 1) := by decide +kernel
theorem dX1_missingLeftOf_20 : decode cX1_missingLeftOf 20 = .ok (.invokestatic 35, 3) := by decide +kernel
theorem dX1_missingLeftOf_23 : decode cX1_missingLeftOf 23 = .ok (.isub, 1) := by decide +kernel
theorem dX1_missingLeftOf_24 : decode cX1_missingLeftOf 24 = .ok (.invokestatic 41, 3) := by decide +kernel
theorem dX1_missingLeftOf_27 : decode cX1_missingLeftOf 27 = .ok (.ireturn, 1) := by decide +kernel
set_option maxRecDepth 20000 in
theorem ggX1_startsIn_X1_holds : GoodIn wsX1_startsIn wsX1_holds := goodIn_r _ [5] (by decide +kernel) (by decide +kernel)
set_option maxRecDepth 20000 in
theorem gX1_startsIn_X1_holds : GoodIn wsX1_startsIn (va_wsS RX1 47 yX1_holds wsX1_holds) := goodIn_app (goodIn_of _ (by decide +kernel)) ggX1_startsIn_X1_holds
set_option maxRecDepth 20000 in
theorem ggX1_startsIn_X1_missingLeftOf : GoodIn wsX1_startsIn wsX1_missingLeftOf := goodIn_r _ [9, 1, 10, 11, 12, 13, 14, 15, 16, 17, 18, 19, 20, 21, 22, 23, 24, 25, 26] (by decide +kernel) (by decide +kernel)
set_option maxRecDepth 20000 in
theorem gX1_startsIn_X1_missingLeftOf : GoodIn wsX1_startsIn (wsV RX1 50 RX1 yX1_missingLeftOf wsX1_missingLeftOf) := goodIn_app (goodIn_of _ (by decide +kernel)) ggX1_startsIn_X1_missingLeftOf
theorem dX1_startsIn_0 : decode cX1_startsIn 0 = .ok (.iconst 0, 1) := by decide +kernel
theorem dX1_startsIn_1 : decode cX1_startsIn 1 = .ok (.istore_n 2, 1) := by decide +kernel
theorem dX1_startsIn_2 : decode cX1_startsIn 2 = .ok (.iconst 0, 1) := by decide +kernel
theorem dX1_startsIn_3 : decode cX1_startsIn 3 = .ok (.istore_n 3, 1) := by decide +kernel
theorem dX1_startsIn_4 : decode cX1_startsIn 4 = .ok (.iload_n 3, 1) := by decide +kernel
theorem dX1_startsIn_5 : decode cX1_startsIn 5 = .ok (.bipush 20, 2) := by decide +kernel
theorem dX1_startsIn_7 : decode cX1_startsIn 7 = .ok (.if_icmp .ge 47, 3) := by decide +kernel
theorem dX1_startsIn_10 : decode cX1_startsIn 10 = .ok (.iconst 1, 1) := by decide +kernel
theorem dX1_startsIn_11 : decode cX1_startsIn 11 = .ok (.iload_n 3, 1) := by decide +kernel
theorem dX1_startsIn_12 : decode cX1_startsIn 12 = .ok (.ishl, 1) := by decide +kernel
theorem dX1_startsIn_13 : decode cX1_startsIn 13 = .ok (.iconst 1, 1) := by decide +kernel
theorem dX1_startsIn_14 : decode cX1_startsIn 14 = .ok (.isub, 1) := by decide +kernel
theorem dX1_startsIn_15 : decode cX1_startsIn 15 = .ok (.istore 4, 2) := by decide +kernel
theorem dX1_startsIn_17 : decode cX1_startsIn 17 = .ok (.iload_n 1, 1) := by decide +kernel
theorem dX1_startsIn_18 : decode cX1_startsIn 18 = .ok (.iload_n 3, 1) := by decide +kernel
theorem dX1_startsIn_19 : decode cX1_startsIn 19 = .ok (.invokestatic 47, 3) := by decide +kernel
theorem dX1_startsIn_22 : decode cX1_startsIn 22 = .ok (.ifCond .eq 26, 3) := by decide +kernel
theorem dX1_startsIn_25 : decode cX1_startsIn 25 = .ok (.aload_n 0, 1) := by decide +kernel
theorem dX1_startsIn_26 : decode cX1_startsIn 26 = .ok (.getfield 18, 3) := by decide +kernel
theorem dX1_startsIn_29 : decode cX1_startsIn 29 = .ok (.iload_n 3, 1) := by decide +kernel
theorem dX1_startsIn_30 : decode cX1_startsIn 30 = .ok (.iaload, 1) := by decide +kernel
theorem dX1_startsIn_31 : decode cX1_startsIn 31 = .ok (.iload_n 1, 1) := by decide +kernel
theorem dX1_startsIn_32 : decode cX1_startsIn 32 = .ok (.iand, 1) := by decide +kernel
theorem dX1_startsIn_33 : decode cX1_startsIn 33 = .ok (.iload 4, 2) := by decide +kernel
theorem dX1_startsIn_35 : decode cX1_startsIn 35 = .ok (.iand, 1) := by decide +kernel
theorem dX1_startsIn_36 : decode cX1_startsIn 36 = .ok (.ifCond .ne 12, 3) := by decide +kernel
theorem dX1_startsIn_39 : decode cX1_startsIn 39 = .ok (.iload_n 2, 1) := by decide +kernel
theorem dX1_startsIn_40 : decode cX1_startsIn 40 = .ok (.aload_n 0, 1) := by decide +kernel
theorem dX1_startsIn_41 : decode cX1_startsIn 41 = .ok (.iload_n 3, 1) := by decide +kernel
theorem dX1_startsIn_42 : decode cX1_startsIn 42 = .ok (.iload_n 1, 1) := by decide +kernel
theorem dX1_startsIn_43 : decode cX1_startsIn 43 = .ok (.invokevirtual 50, 3) := by decide +kernel
theorem dX1_startsIn_46 : decode cX1_startsIn 46 = .ok (.iadd, 1) := by decide +kernel
theorem dX1_startsIn_47 : decode cX1_startsIn 47 = .ok (.istore_n 2, 1) := by decide +kernel
theorem dX1_startsIn_48 : decode cX1_startsIn 48 = .ok (.iinc 3 1, 3) := by decide +kernel
theorem dX1_startsIn_51 : decode cX1_startsIn 51 = .ok (.goto (-47), 3) := by decide +kernel
theorem dX1_startsIn_54 : decode cX1_startsIn 54 = .ok (.iload_n 2, 1) := by decide +kernel
theorem dX1_startsIn_55 : decode cX1_startsIn 55 = .ok (.ireturn, 1) := by decide +kernel
set_option maxRecDepth 20000 in
theorem ggX1_partOf_X1_holds : GoodIn wsX1_partOf wsX1_holds := goodIn_r _ [6] (by decide +kernel) (by decide +kernel)
set_option maxRecDepth 20000 in
theorem gX1_partOf_X1_holds : GoodIn wsX1_partOf (va_wsS RX1 47 yX1_holds wsX1_holds) := goodIn_app (goodIn_of _ (by decide +kernel)) ggX1_partOf_X1_holds
theorem dX1_partOf_0 : decode cX1_partOf 0 = .ok (.iload_n 1, 1) := by decide +kernel
theorem dX1_partOf_1 : decode cX1_partOf 1 = .ok (.iload_n 1, 1) := by decide +kernel
theorem dX1_partOf_2 : decode cX1_partOf 2 = .ok (.ineg, 1) := by decide +kernel
theorem dX1_partOf_3 : decode cX1_partOf 3 = .ok (.iand, 1) := by decide +kernel
theorem dX1_partOf_4 : decode cX1_partOf 4 = .ok (.istore_n 2, 1) := by decide +kernel
theorem dX1_partOf_5 : decode cX1_partOf 5 = .ok (.iconst 0, 1) := by decide +kernel
theorem dX1_partOf_6 : decode cX1_partOf 6 = .ok (.istore_n 3, 1) := by decide +kernel
theorem dX1_partOf_7 : decode cX1_partOf 7 = .ok (.iload_n 3, 1) := by decide +kernel
theorem dX1_partOf_8 : decode cX1_partOf 8 = .ok (.bipush 20, 2) := by decide +kernel
theorem dX1_partOf_10 : decode cX1_partOf 10 = .ok (.if_icmp .ge 71, 3) := by decide +kernel
theorem dX1_partOf_13 : decode cX1_partOf 13 = .ok (.iload_n 2, 1) := by decide +kernel
theorem dX1_partOf_14 : decode cX1_partOf 14 = .ok (.istore 4, 2) := by decide +kernel
theorem dX1_partOf_16 : decode cX1_partOf 16 = .ok (.iconst 0, 1) := by decide +kernel
theorem dX1_partOf_17 : decode cX1_partOf 17 = .ok (.istore 5, 2) := by decide +kernel
theorem dX1_partOf_19 : decode cX1_partOf 19 = .ok (.iload 5, 2) := by decide +kernel
theorem dX1_partOf_21 : decode cX1_partOf 21 = .ok (.bipush 20, 2) := by decide +kernel
theorem dX1_partOf_23 : decode cX1_partOf 23 = .ok (.if_icmp .ge 41, 3) := by decide +kernel
theorem dX1_partOf_26 : decode cX1_partOf 26 = .ok (.iload 4, 2) := by decide +kernel
theorem dX1_partOf_28 : decode cX1_partOf 28 = .ok (.iload 5, 2) := by decide +kernel
theorem dX1_partOf_30 : decode cX1_partOf 30 = .ok (.invokestatic 47, 3) := by decide +kernel
theorem dX1_partOf_33 : decode cX1_partOf 33 = .ok (.ifCond .eq 25, 3) := by decide +kernel
theorem dX1_partOf_36 : decode cX1_partOf 36 = .ok (.iload 4, 2) := by decide +kernel
theorem dX1_partOf_38 : decode cX1_partOf 38 = .ok (.aload_n 0, 1) := by decide +kernel
theorem dX1_partOf_39 : decode cX1_partOf 39 = .ok (.getfield 21, 3) := by decide +kernel
theorem dX1_partOf_42 : decode cX1_partOf 42 = .ok (.iload 5, 2) := by decide +kernel
theorem dX1_partOf_44 : decode cX1_partOf 44 = .ok (.iaload, 1) := by decide +kernel
theorem dX1_partOf_45 : decode cX1_partOf 45 = .ok (.aload_n 0, 1) := by decide +kernel
theorem dX1_partOf_46 : decode cX1_partOf 46 = .ok (.getfield 24, 3) := by decide +kernel
theorem dX1_partOf_49 : decode cX1_partOf 49 = .ok (.iload 5, 2) := by decide +kernel
theorem dX1_partOf_51 : decode cX1_partOf 51 = .ok (.iaload, 1) := by decide +kernel
theorem dX1_partOf_52 : decode cX1_partOf 52 = .ok (.ior, 1) := by decide +kernel
theorem dX1_partOf_53 : decode cX1_partOf 53 = .ok (.iload_n 1, 1) := by decide +kernel
theorem dX1_partOf_54 : decode cX1_partOf 54 = .ok (.iand, 1) := by decide +kernel
theorem dX1_partOf_55 : decode cX1_partOf 55 = .ok (.ior, 1) := by decide +kernel
theorem dX1_partOf_56 : decode cX1_partOf 56 = .ok (.istore 4, 2) := by decide +kernel
theorem dX1_partOf_58 : decode cX1_partOf 58 = .ok (.iinc 5 1, 3) := by decide +kernel
theorem dX1_partOf_61 : decode cX1_partOf 61 = .ok (.goto (-42), 3) := by decide +kernel
theorem dX1_partOf_64 : decode cX1_partOf 64 = .ok (.iload 4, 2) := by decide +kernel
theorem dX1_partOf_66 : decode cX1_partOf 66 = .ok (.iload_n 2, 1) := by decide +kernel
theorem dX1_partOf_67 : decode cX1_partOf 67 = .ok (.if_icmp .ne 5, 3) := by decide +kernel
theorem dX1_partOf_70 : decode cX1_partOf 70 = .ok (.iload_n 2, 1) := by decide +kernel
theorem dX1_partOf_71 : decode cX1_partOf 71 = .ok (.ireturn, 1) := by decide +kernel
theorem dX1_partOf_72 : decode cX1_partOf 72 = .ok (.iload 4, 2) := by decide +kernel
theorem dX1_partOf_74 : decode cX1_partOf 74 = .ok (.istore_n 2, 1) := by decide +kernel
theorem dX1_partOf_75 : decode cX1_partOf 75 = .ok (.iinc 3 1, 3) := by decide +kernel
theorem dX1_partOf_78 : decode cX1_partOf 78 = .ok (.goto (-71), 3) := by decide +kernel
theorem dX1_partOf_81 : decode cX1_partOf 81 = .ok (.iload_n 2, 1) := by decide +kernel
theorem dX1_partOf_82 : decode cX1_partOf 82 = .ok (.ireturn, 1) := by decide +kernel
set_option maxRecDepth 20000 in
theorem ggX1_fewestRows_X1_partOf : GoodIn wsX1_fewestRows wsX1_partOf := goodIn_r _ [9, 10, 11, 12, 13, 8, 14, 31, 32, 33, 34, 35] (by decide +kernel) (by decide +kernel)
set_option maxRecDepth 20000 in
theorem gX1_fewestRows_X1_partOf : GoodIn wsX1_fewestRows (wsV RX1 53 RX1 yX1_partOf wsX1_partOf) := goodIn_app (goodIn_of _ (by decide +kernel)) ggX1_fewestRows_X1_partOf
set_option maxRecDepth 20000 in
theorem ggX1_fewestRows_X1_startsIn : GoodIn wsX1_fewestRows wsX1_startsIn := goodIn_r _ [18, 19, 12, 13, 8, 14, 20, 21, 22, 23, 10, 1, 2, 3, 4, 24, 25, 26, 27, 28, 29, 30, 31, 32, 33, 34, 35] (by decide +kernel) (by decide +kernel)
set_option maxRecDepth 20000 in
theorem gX1_fewestRows_X1_startsIn : GoodIn wsX1_fewestRows (wsV RX1 56 RX1 yX1_startsIn wsX1_startsIn) := goodIn_app (goodIn_of _ (by decide +kernel)) ggX1_fewestRows_X1_startsIn
theorem dX1_fewestRows_0 : decode cX1_fewestRows 0 = .ok (.iload_n 1, 1) := by decide +kernel
theorem dX1_fewestRows_1 : decode cX1_fewestRows 1 = .ok (.istore_n 2, 1) := by decide +kernel
theorem dX1_fewestRows_2 : decode cX1_fewestRows 2 = .ok (.iconst 0, 1) := by decide +kernel
theorem dX1_fewestRows_3 : decode cX1_fewestRows 3 = .ok (.istore_n 3, 1) := by decide +kernel
theorem dX1_fewestRows_4 : decode cX1_fewestRows 4 = .ok (.iconst 0, 1) := by decide +kernel
theorem dX1_fewestRows_5 : decode cX1_fewestRows 5 = .ok (.istore 4, 2) := by decide +kernel
theorem dX1_fewestRows_7 : decode cX1_fewestRows 7 = .ok (.iload 4, 2) := by decide +kernel
theorem dX1_fewestRows_9 : decode cX1_fewestRows 9 = .ok (.bipush 20, 2) := by decide +kernel
theorem dX1_fewestRows_11 : decode cX1_fewestRows 11 = .ok (.if_icmp .ge 40, 3) := by decide +kernel
theorem dX1_fewestRows_14 : decode cX1_fewestRows 14 = .ok (.iload_n 2, 1) := by decide +kernel
theorem dX1_fewestRows_15 : decode cX1_fewestRows 15 = .ok (.ifCond .eq 36, 3) := by decide +kernel
theorem dX1_fewestRows_18 : decode cX1_fewestRows 18 = .ok (.aload_n 0, 1) := by decide +kernel
theorem dX1_fewestRows_19 : decode cX1_fewestRows 19 = .ok (.iload_n 2, 1) := by decide +kernel
theorem dX1_fewestRows_20 : decode cX1_fewestRows 20 = .ok (.invokevirtual 53, 3) := by decide +kernel
theorem dX1_fewestRows_23 : decode cX1_fewestRows 23 = .ok (.istore 5, 2) := by decide +kernel
theorem dX1_fewestRows_25 : decode cX1_fewestRows 25 = .ok (.iload_n 3, 1) := by decide +kernel
theorem dX1_fewestRows_26 : decode cX1_fewestRows 26 = .ok (.iconst 1, 1) := by decide +kernel
theorem dX1_fewestRows_27 : decode cX1_fewestRows 27 = .ok (.aload_n 0, 1) := by decide +kernel
theorem dX1_fewestRows_28 : decode cX1_fewestRows 28 = .ok (.iload 5, 2) := by decide +kernel
theorem dX1_fewestRows_30 : decode cX1_fewestRows 30 = .ok (.invokevirtual 56, 3) := by decide +kernel
theorem dX1_fewestRows_33 : decode cX1_fewestRows 33 = .ok (.invokestatic 41, 3) := by decide +kernel
theorem dX1_fewestRows_36 : decode cX1_fewestRows 36 = .ok (.iadd, 1) := by decide +kernel
theorem dX1_fewestRows_37 : decode cX1_fewestRows 37 = .ok (.istore_n 3, 1) := by decide +kernel
theorem dX1_fewestRows_38 : decode cX1_fewestRows 38 = .ok (.iload_n 2, 1) := by decide +kernel
theorem dX1_fewestRows_39 : decode cX1_fewestRows 39 = .ok (.iload 5, 2) := by decide +kernel
theorem dX1_fewestRows_41 : decode cX1_fewestRows 41 = .ok (.iconst (-1), 1) := by decide +kernel
theorem dX1_fewestRows_42 : decode cX1_fewestRows 42 = .ok (.ixor, 1) := by decide +kernel
theorem dX1_fewestRows_43 : decode cX1_fewestRows 43 = .ok (.iand, 1) := by decide +kernel
theorem dX1_fewestRows_44 : decode cX1_fewestRows 44 = .ok (.istore_n 2, 1) := by decide +kernel
theorem dX1_fewestRows_45 : decode cX1_fewestRows 45 = .ok (.iinc 4 1, 3) := by decide +kernel
theorem dX1_fewestRows_48 : decode cX1_fewestRows 48 = .ok (.goto (-41), 3) := by decide +kernel
theorem dX1_fewestRows_51 : decode cX1_fewestRows 51 = .ok (.iload_n 3, 1) := by decide +kernel
theorem dX1_fewestRows_52 : decode cX1_fewestRows 52 = .ok (.ireturn, 1) := by decide +kernel
set_option maxRecDepth 20000 in
theorem ggX1_writeFirstRow_X1_firstPlaces : GoodIn wsX1_writeFirstRow wsX1_firstPlaces := goodIn_r _ [6, 7, 8, 9, 5, 10, 11, 12, 13, 14, 15, 16, 17, 18, 19, 20, 21, 22, 23, 24, 25, 26, 27, 28, 29, 30, 43, 44, 45, 46, 47] (by decide +kernel) (by decide +kernel)
set_option maxRecDepth 20000 in
theorem gX1_writeFirstRow_X1_firstPlaces : GoodIn wsX1_writeFirstRow (wsV RX1 59 RX1 yX1_firstPlaces wsX1_firstPlaces) := goodIn_app (goodIn_of _ (by decide +kernel)) ggX1_writeFirstRow_X1_firstPlaces
set_option maxRecDepth 20000 in
theorem ggX1_writeFirstRow_X1_leastThatGoesOn : GoodIn wsX1_writeFirstRow wsX1_leastThatGoesOn := goodIn_r _ [34, 12, 13, 5, 14, 35, 36, 37, 38, 1, 39, 40, 41, 42, 19, 43, 44, 45, 46, 47] (by decide +kernel) (by decide +kernel)
set_option maxRecDepth 20000 in
theorem gX1_writeFirstRow_X1_leastThatGoesOn : GoodIn wsX1_writeFirstRow (wsV RX1 62 RX1 yX1_leastThatGoesOn wsX1_leastThatGoesOn) := goodIn_app (goodIn_of _ (by decide +kernel)) ggX1_writeFirstRow_X1_leastThatGoesOn
theorem dX1_writeFirstRow_0 : decode cX1_writeFirstRow 0 = .ok (.iload_n 1, 1) := by decide +kernel
theorem dX1_writeFirstRow_1 : decode cX1_writeFirstRow 1 = .ok (.istore_n 3, 1) := by decide +kernel
theorem dX1_writeFirstRow_2 : decode cX1_writeFirstRow 2 = .ok (.aload_n 0, 1) := by decide +kernel
theorem dX1_writeFirstRow_3 : decode cX1_writeFirstRow 3 = .ok (.iload_n 1, 1) := by decide +kernel
theorem dX1_writeFirstRow_4 : decode cX1_writeFirstRow 4 = .ok (.invokevirtual 59, 3) := by decide +kernel
theorem dX1_writeFirstRow_7 : decode cX1_writeFirstRow 7 = .ok (.istore 4, 2) := by decide +kernel
theorem dX1_writeFirstRow_9 : decode cX1_writeFirstRow 9 = .ok (.iconst 0, 1) := by decide +kernel
theorem dX1_writeFirstRow_10 : decode cX1_writeFirstRow 10 = .ok (.istore 5, 2) := by decide +kernel
theorem dX1_writeFirstRow_12 : decode cX1_writeFirstRow 12 = .ok (.iload 5, 2) := by decide +kernel
theorem dX1_writeFirstRow_14 : decode cX1_writeFirstRow 14 = .ok (.aload_n 2, 1) := by decide +kernel
theorem dX1_writeFirstRow_15 : decode cX1_writeFirstRow 15 = .ok (.arraylength, 1) := by decide +kernel
theorem dX1_writeFirstRow_16 : decode cX1_writeFirstRow 16 = .ok (.if_icmp .ge 57, 3) := by decide +kernel
theorem dX1_writeFirstRow_19 : decode cX1_writeFirstRow 19 = .ok (.iload_n 3, 1) := by decide +kernel
theorem dX1_writeFirstRow_20 : decode cX1_writeFirstRow 20 = .ok (.ifCond .eq 53, 3) := by decide +kernel
theorem dX1_writeFirstRow_23 : decode cX1_writeFirstRow 23 = .ok (.aload_n 0, 1) := by decide +kernel
theorem dX1_writeFirstRow_24 : decode cX1_writeFirstRow 24 = .ok (.iload 4, 2) := by decide +kernel
theorem dX1_writeFirstRow_26 : decode cX1_writeFirstRow 26 = .ok (.iload_n 3, 1) := by decide +kernel
theorem dX1_writeFirstRow_27 : decode cX1_writeFirstRow 27 = .ok (.iand, 1) := by decide +kernel
theorem dX1_writeFirstRow_28 : decode cX1_writeFirstRow 28 = .ok (.iload_n 3, 1) := by decide +kernel
theorem dX1_writeFirstRow_29 : decode cX1_writeFirstRow 29 = .ok (.invokevirtual 62, 3) := by decide +kernel
theorem dX1_writeFirstRow_32 : decode cX1_writeFirstRow 32 = .ok (.istore 6, 2) := by decide +kernel
theorem dX1_writeFirstRow_34 : decode cX1_writeFirstRow 34 = .ok (.iload 6, 2) := by decide +kernel
theorem dX1_writeFirstRow_36 : decode cX1_writeFirstRow 36 = .ok (.iconst (-1), 1) := by decide +kernel
theorem dX1_writeFirstRow_37 : decode cX1_writeFirstRow 37 = .ok (.if_icmp .ne 6, 3) := by decide +kernel
theorem dX1_writeFirstRow_40 : decode cX1_writeFirstRow 40 = .ok (.iload 5, 2) := by decide +kernel
theorem dX1_writeFirstRow_42 : decode cX1_writeFirstRow 42 = .ok (.ireturn, 1) := by decide +kernel
theorem dX1_writeFirstRow_43 : decode cX1_writeFirstRow 43 = .ok (.aload_n 2, 1) := by decide +kernel
theorem dX1_writeFirstRow_44 : decode cX1_writeFirstRow 44 = .ok (.iload 5, 2) := by decide +kernel
theorem dX1_writeFirstRow_46 : decode cX1_writeFirstRow 46 = .ok (.iload 6, 2) := by decide +kernel
theorem dX1_writeFirstRow_48 : decode cX1_writeFirstRow 48 = .ok (.iastore, 1) := by decide +kernel
theorem dX1_writeFirstRow_49 : decode cX1_writeFirstRow 49 = .ok (.iinc 5 1, 3) := by decide +kernel
theorem dX1_writeFirstRow_52 : decode cX1_writeFirstRow 52 = .ok (.iload_n 3, 1) := by decide +kernel
theorem dX1_writeFirstRow_53 : decode cX1_writeFirstRow 53 = .ok (.iconst 1, 1) := by decide +kernel
theorem dX1_writeFirstRow_54 : decode cX1_writeFirstRow 54 = .ok (.iload 6, 2) := by decide +kernel
theorem dX1_writeFirstRow_56 : decode cX1_writeFirstRow 56 = .ok (.ishl, 1) := by decide +kernel
theorem dX1_writeFirstRow_57 : decode cX1_writeFirstRow 57 = .ok (.iconst (-1), 1) := by decide +kernel
theorem dX1_writeFirstRow_58 : decode cX1_writeFirstRow 58 = .ok (.ixor, 1) := by decide +kernel
theorem dX1_writeFirstRow_59 : decode cX1_writeFirstRow 59 = .ok (.iand, 1) := by decide +kernel
theorem dX1_writeFirstRow_60 : decode cX1_writeFirstRow 60 = .ok (.istore_n 3, 1) := by decide +kernel
theorem dX1_writeFirstRow_61 : decode cX1_writeFirstRow 61 = .ok (.aload_n 0, 1) := by decide +kernel
theorem dX1_writeFirstRow_62 : decode cX1_writeFirstRow 62 = .ok (.getfield 24, 3) := by decide +kernel
theorem dX1_writeFirstRow_65 : decode cX1_writeFirstRow 65 = .ok (.iload 6, 2) := by decide +kernel
theorem dX1_writeFirstRow_67 : decode cX1_writeFirstRow 67 = .ok (.iaload, 1) := by decide +kernel
theorem dX1_writeFirstRow_68 : decode cX1_writeFirstRow 68 = .ok (.istore 4, 2) := by decide +kernel
theorem dX1_writeFirstRow_70 : decode cX1_writeFirstRow 70 = .ok (.goto (-58), 3) := by decide +kernel
theorem dX1_writeFirstRow_73 : decode cX1_writeFirstRow 73 = .ok (.iload 5, 2) := by decide +kernel
theorem dX1_writeFirstRow_75 : decode cX1_writeFirstRow 75 = .ok (.ireturn, 1) := by decide +kernel
set_option maxRecDepth 20000 in
theorem ggX1_firstPlaces_X1_startsIn : GoodIn wsX1_firstPlaces wsX1_startsIn := goodIn_r _ [5, 6, 7, 8, 4, 9, 10, 11, 12, 13, 14, 15, 16, 17, 18, 19, 20, 21, 22, 23, 24, 25, 26, 27, 28, 29, 30] (by decide +kernel) (by decide +kernel)
set_option maxRecDepth 20000 in
theorem gX1_firstPlaces_X1_startsIn : GoodIn wsX1_firstPlaces (wsV RX1 56 RX1 yX1_startsIn wsX1_startsIn) := goodIn_app (goodIn_of _ (by decide +kernel)) ggX1_firstPlaces_X1_startsIn
set_option maxRecDepth 20000 in
theorem ggX1_firstPlaces_X1_holds : GoodIn wsX1_firstPlaces wsX1_holds := goodIn_r _ [9] (by decide +kernel) (by decide +kernel)
set_option maxRecDepth 20000 in
theorem gX1_firstPlaces_X1_holds : GoodIn wsX1_firstPlaces (va_wsS RX1 47 yX1_holds wsX1_holds) := goodIn_app (goodIn_of _ (by decide +kernel)) ggX1_firstPlaces_X1_holds
set_option maxRecDepth 20000 in
theorem ggX1_firstPlaces_X1_missingLeftOf : GoodIn wsX1_firstPlaces wsX1_missingLeftOf := goodIn_r _ [13, 6, 14, 15, 16, 17, 18, 19, 20, 21, 22, 23, 24, 25, 26, 27, 28, 29, 30] (by decide +kernel) (by decide +kernel)
set_option maxRecDepth 20000 in
theorem gX1_firstPlaces_X1_missingLeftOf : GoodIn wsX1_firstPlaces (wsV RX1 50 RX1 yX1_missingLeftOf wsX1_missingLeftOf) := goodIn_app (goodIn_of _ (by decide +kernel)) ggX1_firstPlaces_X1_missingLeftOf
theorem dX1_firstPlaces_0 : decode cX1_firstPlaces 0 = .ok (.aload_n 0, 1) := by decide +kernel
theorem dX1_firstPlaces_1 : decode cX1_firstPlaces 1 = .ok (.iload_n 1, 1) := by decide +kernel
theorem dX1_firstPlaces_2 : decode cX1_firstPlaces 2 = .ok (.invokevirtual 56, 3) := by decide +kernel
theorem dX1_firstPlaces_5 : decode cX1_firstPlaces 5 = .ok (.ifCond .ne 5, 3) := by decide +kernel
theorem dX1_firstPlaces_8 : decode cX1_firstPlaces 8 = .ok (.iload_n 1, 1) := by decide +kernel
theorem dX1_firstPlaces_9 : decode cX1_firstPlaces 9 = .ok (.ireturn, 1) := by decide +kernel
theorem dX1_firstPlaces_10 : decode cX1_firstPlaces 10 = .ok (.iconst 0, 1) := by decide +kernel
theorem dX1_firstPlaces_11 : decode cX1_firstPlaces 11 = .ok (.istore_n 2, 1) := by decide +kernel
theorem dX1_firstPlaces_12 : decode cX1_firstPlaces 12 = .ok (.iconst 0, 1) := by decide +kernel
theorem dX1_firstPlaces_13 : decode cX1_firstPlaces 13 = .ok (.istore_n 3, 1) := by decide +kernel
theorem dX1_firstPlaces_14 : decode cX1_firstPlaces 14 = .ok (.iload_n 3, 1) := by decide +kernel
theorem dX1_firstPlaces_15 : decode cX1_firstPlaces 15 = .ok (.bipush 20, 2) := by decide +kernel
theorem dX1_firstPlaces_17 : decode cX1_firstPlaces 17 = .ok (.if_icmp .ge 32, 3) := by decide +kernel
theorem dX1_firstPlaces_20 : decode cX1_firstPlaces 20 = .ok (.iload_n 1, 1) := by decide +kernel
theorem dX1_firstPlaces_21 : decode cX1_firstPlaces 21 = .ok (.iload_n 3, 1) := by decide +kernel
theorem dX1_firstPlaces_22 : decode cX1_firstPlaces 22 = .ok (.invokestatic 47, 3) := by decide +kernel
theorem dX1_firstPlaces_25 : decode cX1_firstPlaces 25 = .ok (.ifCond .eq 18, 3) := by decide +kernel
theorem dX1_firstPlaces_28 : decode cX1_firstPlaces 28 = .ok (.aload_n 0, 1) := by decide +kernel
theorem dX1_firstPlaces_29 : decode cX1_firstPlaces 29 = .ok (.iload_n 3, 1) := by decide +kernel
theorem dX1_firstPlaces_30 : decode cX1_firstPlaces 30 = .ok (.iload_n 1, 1) := by decide +kernel
theorem dX1_firstPlaces_31 : decode cX1_firstPlaces 31 = .ok (.invokevirtual 50, 3) := by decide +kernel
theorem dX1_firstPlaces_34 : decode cX1_firstPlaces 34 = .ok (.ifCond .le 9, 3) := by decide +kernel
theorem dX1_firstPlaces_37 : decode cX1_firstPlaces 37 = .ok (.iload_n 2, 1) := by decide +kernel
theorem dX1_firstPlaces_38 : decode cX1_firstPlaces 38 = .ok (.iconst 1, 1) := by decide +kernel
theorem dX1_firstPlaces_39 : decode cX1_firstPlaces 39 = .ok (.iload_n 3, 1) := by decide +kernel
theorem dX1_firstPlaces_40 : decode cX1_firstPlaces 40 = .ok (.ishl, 1) := by decide +kernel
theorem dX1_firstPlaces_41 : decode cX1_firstPlaces 41 = .ok (.ior, 1) := by decide +kernel
theorem dX1_firstPlaces_42 : decode cX1_firstPlaces 42 = .ok (.istore_n 2, 1) := by decide +kernel
theorem dX1_firstPlaces_43 : decode cX1_firstPlaces 43 = .ok (.iinc 3 1, 3) := by decide +kernel
theorem dX1_firstPlaces_46 : decode cX1_firstPlaces 46 = .ok (.goto (-32), 3) := by decide +kernel
theorem dX1_firstPlaces_49 : decode cX1_firstPlaces 49 = .ok (.iload_n 2, 1) := by decide +kernel
theorem dX1_firstPlaces_50 : decode cX1_firstPlaces 50 = .ok (.ireturn, 1) := by decide +kernel
set_option maxRecDepth 20000 in
theorem ggX1_leastThatGoesOn_X1_holds : GoodIn wsX1_leastThatGoesOn wsX1_holds := goodIn_r _ [4] (by decide +kernel) (by decide +kernel)
set_option maxRecDepth 20000 in
theorem gX1_leastThatGoesOn_X1_holds : GoodIn wsX1_leastThatGoesOn (va_wsS RX1 47 yX1_holds wsX1_holds) := goodIn_app (goodIn_of _ (by decide +kernel)) ggX1_leastThatGoesOn_X1_holds
set_option maxRecDepth 20000 in
theorem ggX1_leastThatGoesOn_X1_goesOn : GoodIn wsX1_leastThatGoesOn wsX1_goesOn := goodIn_r _ [8, 9, 10, 11, 12, 3, 13, 14, 1, 2, 4, 15, 16, 17, 18, 19] (by decide +kernel) (by decide +kernel)
set_option maxRecDepth 20000 in
theorem gX1_leastThatGoesOn_X1_goesOn : GoodIn wsX1_leastThatGoesOn (wsV RX1 65 RX1 yX1_goesOn wsX1_goesOn) := goodIn_app (goodIn_of _ (by decide +kernel)) ggX1_leastThatGoesOn_X1_goesOn
theorem dX1_leastThatGoesOn_0 : decode cX1_leastThatGoesOn 0 = .ok (.iconst 0, 1) := by decide +kernel
theorem dX1_leastThatGoesOn_1 : decode cX1_leastThatGoesOn 1 = .ok (.istore_n 3, 1) := by decide +kernel
theorem dX1_leastThatGoesOn_2 : decode cX1_leastThatGoesOn 2 = .ok (.iload_n 3, 1) := by decide +kernel
theorem dX1_leastThatGoesOn_3 : decode cX1_leastThatGoesOn 3 = .ok (.bipush 20, 2) := by decide +kernel
theorem dX1_leastThatGoesOn_5 : decode cX1_leastThatGoesOn 5 = .ok (.if_icmp .ge 34, 3) := by decide +kernel
theorem dX1_leastThatGoesOn_8 : decode cX1_leastThatGoesOn 8 = .ok (.iload_n 1, 1) := by decide +kernel
theorem dX1_leastThatGoesOn_9 : decode cX1_leastThatGoesOn 9 = .ok (.iload_n 3, 1) := by decide +kernel
theorem dX1_leastThatGoesOn_10 : decode cX1_leastThatGoesOn 10 = .ok (.invokestatic 47, 3) := by decide +kernel
theorem dX1_leastThatGoesOn_13 : decode cX1_leastThatGoesOn 13 = .ok (.ifCond .eq 20, 3) := by decide +kernel
theorem dX1_leastThatGoesOn_16 : decode cX1_leastThatGoesOn 16 = .ok (.aload_n 0, 1) := by decide +kernel
theorem dX1_leastThatGoesOn_17 : decode cX1_leastThatGoesOn 17 = .ok (.iload_n 3, 1) := by decide +kernel
theorem dX1_leastThatGoesOn_18 : decode cX1_leastThatGoesOn 18 = .ok (.iload_n 2, 1) := by decide +kernel
theorem dX1_leastThatGoesOn_19 : decode cX1_leastThatGoesOn 19 = .ok (.iconst 1, 1) := by decide +kernel
theorem dX1_leastThatGoesOn_20 : decode cX1_leastThatGoesOn 20 = .ok (.iload_n 3, 1) := by decide +kernel
theorem dX1_leastThatGoesOn_21 : decode cX1_leastThatGoesOn 21 = .ok (.ishl, 1) := by decide +kernel
theorem dX1_leastThatGoesOn_22 : decode cX1_leastThatGoesOn 22 = .ok (.iconst (-1), 1) := by decide +kernel
theorem dX1_leastThatGoesOn_23 : decode cX1_leastThatGoesOn 23 = .ok (.ixor, 1) := by decide +kernel
theorem dX1_leastThatGoesOn_24 : decode cX1_leastThatGoesOn 24 = .ok (.iand, 1) := by decide +kernel
theorem dX1_leastThatGoesOn_25 : decode cX1_leastThatGoesOn 25 = .ok (.invokevirtual 65, 3) := by decide +kernel
theorem dX1_leastThatGoesOn_28 : decode cX1_leastThatGoesOn 28 = .ok (.ifCond .eq 5, 3) := by decide +kernel
theorem dX1_leastThatGoesOn_31 : decode cX1_leastThatGoesOn 31 = .ok (.iload_n 3, 1) := by decide +kernel
theorem dX1_leastThatGoesOn_32 : decode cX1_leastThatGoesOn 32 = .ok (.ireturn, 1) := by decide +kernel
theorem dX1_leastThatGoesOn_33 : decode cX1_leastThatGoesOn 33 = .ok (.iinc 3 1, 3) := by decide +kernel
theorem dX1_leastThatGoesOn_36 : decode cX1_leastThatGoesOn 36 = .ok (.goto (-34), 3) := by decide +kernel
theorem dX1_leastThatGoesOn_39 : decode cX1_leastThatGoesOn 39 = .ok (.iconst (-1), 1) := by decide +kernel
theorem dX1_leastThatGoesOn_40 : decode cX1_leastThatGoesOn 40 = .ok (.ireturn, 1) := by decide +kernel
set_option maxRecDepth 20000 in
theorem ggX1_goesOn_X1_partOf : GoodIn wsX1_goesOn wsX1_partOf := goodIn_r _ [6, 7, 1, 8, 9, 5, 10, 11, 12, 13, 14, 15] (by decide +kernel) (by decide +kernel)
set_option maxRecDepth 20000 in
theorem gX1_goesOn_X1_partOf : GoodIn wsX1_goesOn (wsV RX1 53 RX1 yX1_partOf wsX1_partOf) := goodIn_app (goodIn_of _ (by decide +kernel)) ggX1_goesOn_X1_partOf
theorem dX1_goesOn_0 : decode cX1_goesOn 0 = .ok (.iload_n 2, 1) := by decide +kernel
theorem dX1_goesOn_1 : decode cX1_goesOn 1 = .ok (.ifCond .eq 23, 3) := by decide +kernel
theorem dX1_goesOn_4 : decode cX1_goesOn 4 = .ok (.aload_n 0, 1) := by decide +kernel
theorem dX1_goesOn_5 : decode cX1_goesOn 5 = .ok (.getfield 24, 3) := by decide +kernel
theorem dX1_goesOn_8 : decode cX1_goesOn 8 = .ok (.iload_n 1, 1) := by decide +kernel
theorem dX1_goesOn_9 : decode cX1_goesOn 9 = .ok (.iaload, 1) := by decide +kernel
theorem dX1_goesOn_10 : decode cX1_goesOn 10 = .ok (.iload_n 2, 1) := by decide +kernel
theorem dX1_goesOn_11 : decode cX1_goesOn 11 = .ok (.iand, 1) := by decide +kernel
theorem dX1_goesOn_12 : decode cX1_goesOn 12 = .ok (.ifCond .eq 16, 3) := by decide +kernel
theorem dX1_goesOn_15 : decode cX1_goesOn 15 = .ok (.aload_n 0, 1) := by decide +kernel
theorem dX1_goesOn_16 : decode cX1_goesOn 16 = .ok (.iload_n 2, 1) := by decide +kernel
theorem dX1_goesOn_17 : decode cX1_goesOn 17 = .ok (.invokevirtual 53, 3) := by decide +kernel
theorem dX1_goesOn_20 : decode cX1_goesOn 20 = .ok (.iload_n 2, 1) := by decide +kernel
theorem dX1_goesOn_21 : decode cX1_goesOn 21 = .ok (.if_icmp .ne 7, 3) := by decide +kernel
theorem dX1_goesOn_24 : decode cX1_goesOn 24 = .ok (.iconst 1, 1) := by decide +kernel
theorem dX1_goesOn_25 : decode cX1_goesOn 25 = .ok (.goto 4, 3) := by decide +kernel
theorem dX1_goesOn_28 : decode cX1_goesOn 28 = .ok (.iconst 0, 1) := by decide +kernel
theorem dX1_goesOn_29 : decode cX1_goesOn 29 = .ok (.ireturn, 1) := by decide +kernel
theorem dX2_init_0 : decode cX2_init 0 = .ok (.aload_n 0, 1) := by decide +kernel
theorem dX2_init_1 : decode cX2_init 1 = .ok (.invokespecial 3, 3) := by decide +kernel
theorem dX2_init_4 : decode cX2_init 4 = .ok (.aload_n 0, 1) := by decide +kernel
theorem dX2_init_5 : decode cX2_init 5 = .ok (.bipush 100, 2) := by decide +kernel
theorem dX2_init_7 : decode cX2_init 7 = .ok (.newarray .int, 2) := by decide +kernel
theorem dX2_init_9 : decode cX2_init 9 = .ok (.putfield 9, 3) := by decide +kernel
theorem dX2_init_12 : decode cX2_init 12 = .ok (.aload_n 0, 1) := by decide +kernel
theorem dX2_init_13 : decode cX2_init 13 = .ok (.bipush 100, 2) := by decide +kernel
theorem dX2_init_15 : decode cX2_init 15 = .ok (.newarray .int, 2) := by decide +kernel
theorem dX2_init_17 : decode cX2_init 17 = .ok (.putfield 15, 3) := by decide +kernel
theorem dX2_init_20 : decode cX2_init 20 = .ok (.aload_n 0, 1) := by decide +kernel
theorem dX2_init_21 : decode cX2_init 21 = .ok (.bipush 100, 2) := by decide +kernel
theorem dX2_init_23 : decode cX2_init 23 = .ok (.newarray .int, 2) := by decide +kernel
theorem dX2_init_25 : decode cX2_init 25 = .ok (.putfield 18, 3) := by decide +kernel
theorem dX2_init_28 : decode cX2_init 28 = .ok (.aload_n 0, 1) := by decide +kernel
theorem dX2_init_29 : decode cX2_init 29 = .ok (.bipush 100, 2) := by decide +kernel
theorem dX2_init_31 : decode cX2_init 31 = .ok (.newarray .int, 2) := by decide +kernel
theorem dX2_init_33 : decode cX2_init 33 = .ok (.putfield 21, 3) := by decide +kernel
theorem dX2_init_36 : decode cX2_init 36 = .ok (.aload_n 0, 1) := by decide +kernel
theorem dX2_init_37 : decode cX2_init 37 = .ok (.sipush 200, 3) := by decide +kernel
theorem dX2_init_40 : decode cX2_init 40 = .ok (.newarray .int, 2) := by decide +kernel
theorem dX2_init_42 : decode cX2_init 42 = .ok (.putfield 24, 3) := by decide +kernel
theorem dX2_init_45 : decode cX2_init 45 = .ok (.aload_n 0, 1) := by decide +kernel
theorem dX2_init_46 : decode cX2_init 46 = .ok (.sipush 200, 3) := by decide +kernel
theorem dX2_init_49 : decode cX2_init 49 = .ok (.newarray .int, 2) := by decide +kernel
theorem dX2_init_51 : decode cX2_init 51 = .ok (.putfield 27, 3) := by decide +kernel
theorem dX2_init_54 : decode cX2_init 54 = .ok (.aload_n 0, 1) := by decide +kernel
theorem dX2_init_55 : decode cX2_init 55 = .ok (.sipush 200, 3) := by decide +kernel
theorem dX2_init_58 : decode cX2_init 58 = .ok (.newarray .int, 2) := by decide +kernel
theorem dX2_init_60 : decode cX2_init 60 = .ok (.putfield 30, 3) := by decide +kernel
theorem dX2_init_63 : decode cX2_init 63 = .ok (.return_, 1) := by decide +kernel
theorem dX2_isFull_0 : decode cX2_isFull 0 = .ok (.aload_n 0, 1) := by decide +kernel
theorem dX2_isFull_1 : decode cX2_isFull 1 = .ok (.getfield 33, 3) := by decide +kernel
theorem dX2_isFull_4 : decode cX2_isFull 4 = .ok (.bipush 100, 2) := by decide +kernel
theorem dX2_isFull_6 : decode cX2_isFull 6 = .ok (.if_icmp .lt 7, 3) := by decide +kernel
theorem dX2_isFull_9 : decode cX2_isFull 9 = .ok (.iconst 1, 1) := by decide +kernel
theorem dX2_isFull_10 : decode cX2_isFull 10 = .ok (.goto 4, 3) := by decide +kernel
theorem dX2_isFull_13 : decode cX2_isFull 13 = .ok (.iconst 0, 1) := by decide +kernel
theorem dX2_isFull_14 : decode cX2_isFull 14 = .ok (.ireturn, 1) := by decide +kernel
theorem dX2_size_0 : decode cX2_size 0 = .ok (.aload_n 0, 1) := by decide +kernel
theorem dX2_size_1 : decode cX2_size 1 = .ok (.getfield 33, 3) := by decide +kernel
theorem dX2_size_4 : decode cX2_size 4 = .ok (.ireturn, 1) := by decide +kernel
theorem dX2_has_0 : decode cX2_has 0 = .ok (.iload_n 1, 1) := by decide +kernel
theorem dX2_has_1 : decode cX2_has 1 = .ok (.ifCond .lt 15, 3) := by decide +kernel
theorem dX2_has_4 : decode cX2_has 4 = .ok (.iload_n 1, 1) := by decide +kernel
theorem dX2_has_5 : decode cX2_has 5 = .ok (.aload_n 0, 1) := by decide +kernel
theorem dX2_has_6 : decode cX2_has 6 = .ok (.getfield 33, 3) := by decide +kernel
theorem dX2_has_9 : decode cX2_has 9 = .ok (.if_icmp .ge 7, 3) := by decide +kernel
theorem dX2_has_12 : decode cX2_has 12 = .ok (.iconst 1, 1) := by decide +kernel
theorem dX2_has_13 : decode cX2_has 13 = .ok (.goto 4, 3) := by decide +kernel
theorem dX2_has_16 : decode cX2_has 16 = .ok (.iconst 0, 1) := by decide +kernel
theorem dX2_has_17 : decode cX2_has 17 = .ok (.ireturn, 1) := by decide +kernel
set_option maxRecDepth 20000 in
theorem ggX2_tell_X2_isFull : GoodIn wsX2_tell wsX2_isFull := goodIn_r _ [9, 2, 10, 11, 12, 13, 14, 15, 16, 17] (by decide +kernel) (by decide +kernel)
set_option maxRecDepth 20000 in
theorem gX2_tell_X2_isFull : GoodIn wsX2_tell (wsV RX2 37 RX2 yX2_isFull wsX2_isFull) := goodIn_app (goodIn_of _ (by decide +kernel)) ggX2_tell_X2_isFull
theorem dX2_tell_0 : decode cX2_tell 0 = .ok (.aload_n 0, 1) := by decide +kernel
theorem dX2_tell_1 : decode cX2_tell 1 = .ok (.invokevirtual 37, 3) := by decide +kernel
theorem dX2_tell_4 : decode cX2_tell 4 = .ok (.ifCond .eq 5, 3) := by decide +kernel
theorem dX2_tell_7 : decode cX2_tell 7 = .ok (.iconst (-1), 1) := by decide +kernel
theorem dX2_tell_8 : decode cX2_tell 8 = .ok (.ireturn, 1) := by decide +kernel
theorem dX2_tell_9 : decode cX2_tell 9 = .ok (.aload_n 0, 1) := by decide +kernel
theorem dX2_tell_10 : decode cX2_tell 10 = .ok (.getfield 9, 3) := by decide +kernel
theorem dX2_tell_13 : decode cX2_tell 13 = .ok (.aload_n 0, 1) := by decide +kernel
theorem dX2_tell_14 : decode cX2_tell 14 = .ok (.getfield 33, 3) := by decide +kernel
theorem dX2_tell_17 : decode cX2_tell 17 = .ok (.iload_n 1, 1) := by decide +kernel
theorem dX2_tell_18 : decode cX2_tell 18 = .ok (.iastore, 1) := by decide +kernel
theorem dX2_tell_19 : decode cX2_tell 19 = .ok (.aload_n 0, 1) := by decide +kernel
theorem dX2_tell_20 : decode cX2_tell 20 = .ok (.getfield 15, 3) := by decide +kernel
theorem dX2_tell_23 : decode cX2_tell 23 = .ok (.aload_n 0, 1) := by decide +kernel
theorem dX2_tell_24 : decode cX2_tell 24 = .ok (.getfield 33, 3) := by decide +kernel
theorem dX2_tell_27 : decode cX2_tell 27 = .ok (.iload_n 2, 1) := by decide +kernel
theorem dX2_tell_28 : decode cX2_tell 28 = .ok (.iastore, 1) := by decide +kernel
theorem dX2_tell_29 : decode cX2_tell 29 = .ok (.aload_n 0, 1) := by decide +kernel
theorem dX2_tell_30 : decode cX2_tell 30 = .ok (.getfield 18, 3) := by decide +kernel
theorem dX2_tell_33 : decode cX2_tell 33 = .ok (.aload_n 0, 1) := by decide +kernel
theorem dX2_tell_34 : decode cX2_tell 34 = .ok (.getfield 33, 3) := by decide +kernel
theorem dX2_tell_37 : decode cX2_tell 37 = .ok (.iconst (-1), 1) := by decide +kernel
theorem dX2_tell_38 : decode cX2_tell 38 = .ok (.iastore, 1) := by decide +kernel
theorem dX2_tell_39 : decode cX2_tell 39 = .ok (.aload_n 0, 1) := by decide +kernel
theorem dX2_tell_40 : decode cX2_tell 40 = .ok (.dup, 1) := by decide +kernel
theorem dX2_tell_41 : decode cX2_tell 41 = .ok (.getfield 33, 3) := by decide +kernel
theorem dX2_tell_44 : decode cX2_tell 44 = .ok (.iconst 1, 1) := by decide +kernel
theorem dX2_tell_45 : decode cX2_tell 45 = .ok (.iadd, 1) := by decide +kernel
theorem dX2_tell_46 : decode cX2_tell 46 = .ok (.putfield 33, 3) := by decide +kernel
theorem dX2_tell_49 : decode cX2_tell 49 = .ok (.aload_n 0, 1) := by decide +kernel
theorem dX2_tell_50 : decode cX2_tell 50 = .ok (.getfield 33, 3) := by decide +kernel
theorem dX2_tell_53 : decode cX2_tell 53 = .ok (.iconst 1, 1) := by decide +kernel
theorem dX2_tell_54 : decode cX2_tell 54 = .ok (.isub, 1) := by decide +kernel
theorem dX2_tell_55 : decode cX2_tell 55 = .ok (.ireturn, 1) := by decide +kernel
theorem dX2_addLimit_0 : decode cX2_addLimit 0 = .ok (.aload_n 0, 1) := by decide +kernel
theorem dX2_addLimit_1 : decode cX2_addLimit 1 = .ok (.getfield 33, 3) := by decide +kernel
theorem dX2_addLimit_4 : decode cX2_addLimit 4 = .ok (.iconst 1, 1) := by decide +kernel
theorem dX2_addLimit_5 : decode cX2_addLimit 5 = .ok (.isub, 1) := by decide +kernel
theorem dX2_addLimit_6 : decode cX2_addLimit 6 = .ok (.istore 4, 2) := by decide +kernel
theorem dX2_addLimit_8 : decode cX2_addLimit 8 = .ok (.iload 4, 2) := by decide +kernel
theorem dX2_addLimit_10 : decode cX2_addLimit 10 = .ok (.ifCond .lt 14, 3) := by decide +kernel
theorem dX2_addLimit_13 : decode cX2_addLimit 13 = .ok (.aload_n 0, 1) := by decide +kernel
theorem dX2_addLimit_14 : decode cX2_addLimit 14 = .ok (.getfield 21, 3) := by decide +kernel
theorem dX2_addLimit_17 : decode cX2_addLimit 17 = .ok (.iload 4, 2) := by decide +kernel
theorem dX2_addLimit_19 : decode cX2_addLimit 19 = .ok (.iaload, 1) := by decide +kernel
theorem dX2_addLimit_20 : decode cX2_addLimit 20 = .ok (.iconst 2, 1) := by decide +kernel
theorem dX2_addLimit_21 : decode cX2_addLimit 21 = .ok (.if_icmp .lt 4, 3) := by decide +kernel
theorem dX2_addLimit_24 : decode cX2_addLimit 24 = .ok (.return_, 1) := by decide +kernel
theorem dX2_addLimit_25 : decode cX2_addLimit 25 = .ok (.iconst 2, 1) := by decide +kernel
theorem dX2_addLimit_26 : decode cX2_addLimit 26 = .ok (.iload 4, 2) := by decide +kernel
theorem dX2_addLimit_28 : decode cX2_addLimit 28 = .ok (.imul, 1) := by decide +kernel
theorem dX2_addLimit_29 : decode cX2_addLimit 29 = .ok (.aload_n 0, 1) := by decide +kernel
theorem dX2_addLimit_30 : decode cX2_addLimit 30 = .ok (.getfield 21, 3) := by decide +kernel
theorem dX2_addLimit_33 : decode cX2_addLimit 33 = .ok (.iload 4, 2) := by decide +kernel
theorem dX2_addLimit_35 : decode cX2_addLimit 35 = .ok (.iaload, 1) := by decide +kernel
theorem dX2_addLimit_36 : decode cX2_addLimit 36 = .ok (.iadd, 1) := by decide +kernel
theorem dX2_addLimit_37 : decode cX2_addLimit 37 = .ok (.istore 5, 2) := by decide +kernel
theorem dX2_addLimit_39 : decode cX2_addLimit 39 = .ok (.aload_n 0, 1) := by decide +kernel
theorem dX2_addLimit_40 : decode cX2_addLimit 40 = .ok (.getfield 24, 3) := by decide +kernel
theorem dX2_addLimit_43 : decode cX2_addLimit 43 = .ok (.iload 5, 2) := by decide +kernel
theorem dX2_addLimit_45 : decode cX2_addLimit 45 = .ok (.iload_n 1, 1) := by decide +kernel
theorem dX2_addLimit_46 : decode cX2_addLimit 46 = .ok (.iastore, 1) := by decide +kernel
theorem dX2_addLimit_47 : decode cX2_addLimit 47 = .ok (.aload_n 0, 1) := by decide +kernel
theorem dX2_addLimit_48 : decode cX2_addLimit 48 = .ok (.getfield 27, 3) := by decide +kernel
theorem dX2_addLimit_51 : decode cX2_addLimit 51 = .ok (.iload 5, 2) := by decide +kernel
theorem dX2_addLimit_53 : decode cX2_addLimit 53 = .ok (.iload_n 2, 1) := by decide +kernel
theorem dX2_addLimit_54 : decode cX2_addLimit 54 = .ok (.iastore, 1) := by decide +kernel
theorem dX2_addLimit_55 : decode cX2_addLimit 55 = .ok (.aload_n 0, 1) := by decide +kernel
theorem dX2_addLimit_56 : decode cX2_addLimit 56 = .ok (.getfield 30, 3) := by decide +kernel
theorem dX2_addLimit_59 : decode cX2_addLimit 59 = .ok (.iload 5, 2) := by decide +kernel
theorem dX2_addLimit_61 : decode cX2_addLimit 61 = .ok (.iload_n 3, 1) := by decide +kernel
theorem dX2_addLimit_62 : decode cX2_addLimit 62 = .ok (.iastore, 1) := by decide +kernel
theorem dX2_addLimit_63 : decode cX2_addLimit 63 = .ok (.aload_n 0, 1) := by decide +kernel
theorem dX2_addLimit_64 : decode cX2_addLimit 64 = .ok (.getfield 21, 3) := by decide +kernel
theorem dX2_addLimit_67 : decode cX2_addLimit 67 = .ok (.iload 4, 2) := by decide +kernel
theorem dX2_addLimit_69 : decode cX2_addLimit 69 = .ok (.dup2, 1) := by decide +kernel
theorem dX2_addLimit_70 : decode cX2_addLimit 70 = .ok (.iaload, 1) := by decide +kernel
theorem dX2_addLimit_71 : decode cX2_addLimit 71 = .ok (.iconst 1, 1) := by decide +kernel
theorem dX2_addLimit_72 : decode cX2_addLimit 72 = .ok (.iadd, 1) := by decide +kernel
theorem dX2_addLimit_73 : decode cX2_addLimit 73 = .ok (.iastore, 1) := by decide +kernel
theorem dX2_addLimit_74 : decode cX2_addLimit 74 = .ok (.return_, 1) := by decide +kernel
set_option maxRecDepth 20000 in
theorem ggX2_crossOut_X2_has : GoodIn wsX2_crossOut wsX2_has := goodIn_r _ [6, 7, 8, 9, 10, 11, 12, 13, 14, 15] (by decide +kernel) (by decide +kernel)
set_option maxRecDepth 20000 in
theorem gX2_crossOut_X2_has : GoodIn wsX2_crossOut (wsV RX2 41 RX2 yX2_has wsX2_has) := goodIn_app (goodIn_of _ (by decide +kernel)) ggX2_crossOut_X2_has
theorem dX2_crossOut_0 : decode cX2_crossOut 0 = .ok (.aload_n 0, 1) := by decide +kernel
theorem dX2_crossOut_1 : decode cX2_crossOut 1 = .ok (.iload_n 1, 1) := by decide +kernel
theorem dX2_crossOut_2 : decode cX2_crossOut 2 = .ok (.invokevirtual 41, 3) := by decide +kernel
theorem dX2_crossOut_5 : decode cX2_crossOut 5 = .ok (.ifCond .eq 10, 3) := by decide +kernel
theorem dX2_crossOut_8 : decode cX2_crossOut 8 = .ok (.aload_n 0, 1) := by decide +kernel
theorem dX2_crossOut_9 : decode cX2_crossOut 9 = .ok (.getfield 18, 3) := by decide +kernel
theorem dX2_crossOut_12 : decode cX2_crossOut 12 = .ok (.iload_n 1, 1) := by decide +kernel
theorem dX2_crossOut_13 : decode cX2_crossOut 13 = .ok (.iload_n 2, 1) := by decide +kernel
theorem dX2_crossOut_14 : decode cX2_crossOut 14 = .ok (.iastore, 1) := by decide +kernel
theorem dX2_crossOut_15 : decode cX2_crossOut 15 = .ok (.return_, 1) := by decide +kernel
set_option maxRecDepth 20000 in
theorem ggX2_kindOf_X2_has : GoodIn wsX2_kindOf wsX2_has := goodIn_r _ [6, 7, 8, 9, 10, 11, 12, 13, 14, 15] (by decide +kernel) (by decide +kernel)
set_option maxRecDepth 20000 in
theorem gX2_kindOf_X2_has : GoodIn wsX2_kindOf (wsV RX2 41 RX2 yX2_has wsX2_has) := goodIn_app (goodIn_of _ (by decide +kernel)) ggX2_kindOf_X2_has
theorem dX2_kindOf_0 : decode cX2_kindOf 0 = .ok (.aload_n 0, 1) := by decide +kernel
theorem dX2_kindOf_1 : decode cX2_kindOf 1 = .ok (.iload_n 1, 1) := by decide +kernel
theorem dX2_kindOf_2 : decode cX2_kindOf 2 = .ok (.invokevirtual 41, 3) := by decide +kernel
theorem dX2_kindOf_5 : decode cX2_kindOf 5 = .ok (.ifCond .eq 12, 3) := by decide +kernel
theorem dX2_kindOf_8 : decode cX2_kindOf 8 = .ok (.aload_n 0, 1) := by decide +kernel
theorem dX2_kindOf_9 : decode cX2_kindOf 9 = .ok (.getfield 9, 3) := by decide +kernel
theorem dX2_kindOf_12 : decode cX2_kindOf 12 = .ok (.iload_n 1, 1) := by decide +kernel
theorem dX2_kindOf_13 : decode cX2_kindOf 13 = .ok (.iaload, 1) := by decide +kernel
theorem dX2_kindOf_14 : decode cX2_kindOf 14 = .ok (.goto 4, 3) := by decide +kernel
theorem dX2_kindOf_17 : decode cX2_kindOf 17 = .ok (.iconst (-1), 1) := by decide +kernel
theorem dX2_kindOf_18 : decode cX2_kindOf 18 = .ok (.ireturn, 1) := by decide +kernel
set_option maxRecDepth 20000 in
theorem ggX2_tellingDay_X2_has : GoodIn wsX2_tellingDay wsX2_has := goodIn_r _ [6, 7, 8, 9, 10, 11, 12, 13, 14, 15] (by decide +kernel) (by decide +kernel)
set_option maxRecDepth 20000 in
theorem gX2_tellingDay_X2_has : GoodIn wsX2_tellingDay (wsV RX2 41 RX2 yX2_has wsX2_has) := goodIn_app (goodIn_of _ (by decide +kernel)) ggX2_tellingDay_X2_has
theorem dX2_tellingDay_0 : decode cX2_tellingDay 0 = .ok (.aload_n 0, 1) := by decide +kernel
theorem dX2_tellingDay_1 : decode cX2_tellingDay 1 = .ok (.iload_n 1, 1) := by decide +kernel
theorem dX2_tellingDay_2 : decode cX2_tellingDay 2 = .ok (.invokevirtual 41, 3) := by decide +kernel
theorem dX2_tellingDay_5 : decode cX2_tellingDay 5 = .ok (.ifCond .eq 12, 3) := by decide +kernel
theorem dX2_tellingDay_8 : decode cX2_tellingDay 8 = .ok (.aload_n 0, 1) := by decide +kernel
theorem dX2_tellingDay_9 : decode cX2_tellingDay 9 = .ok (.getfield 15, 3) := by decide +kernel
theorem dX2_tellingDay_12 : decode cX2_tellingDay 12 = .ok (.iload_n 1, 1) := by decide +kernel
theorem dX2_tellingDay_13 : decode cX2_tellingDay 13 = .ok (.iaload, 1) := by decide +kernel
theorem dX2_tellingDay_14 : decode cX2_tellingDay 14 = .ok (.goto 4, 3) := by decide +kernel
theorem dX2_tellingDay_17 : decode cX2_tellingDay 17 = .ok (.iconst (-1), 1) := by decide +kernel
theorem dX2_tellingDay_18 : decode cX2_tellingDay 18 = .ok (.ireturn, 1) := by decide +kernel
set_option maxRecDepth 20000 in
theorem ggX2_crossingDay_X2_has : GoodIn wsX2_crossingDay wsX2_has := goodIn_r _ [6, 7, 8, 9, 10, 11, 12, 13, 14, 15] (by decide +kernel) (by decide +kernel)
set_option maxRecDepth 20000 in
theorem gX2_crossingDay_X2_has : GoodIn wsX2_crossingDay (wsV RX2 41 RX2 yX2_has wsX2_has) := goodIn_app (goodIn_of _ (by decide +kernel)) ggX2_crossingDay_X2_has
theorem dX2_crossingDay_0 : decode cX2_crossingDay 0 = .ok (.aload_n 0, 1) := by decide +kernel
theorem dX2_crossingDay_1 : decode cX2_crossingDay 1 = .ok (.iload_n 1, 1) := by decide +kernel
theorem dX2_crossingDay_2 : decode cX2_crossingDay 2 = .ok (.invokevirtual 41, 3) := by decide +kernel
theorem dX2_crossingDay_5 : decode cX2_crossingDay 5 = .ok (.ifCond .eq 12, 3) := by decide +kernel
theorem dX2_crossingDay_8 : decode cX2_crossingDay 8 = .ok (.aload_n 0, 1) := by decide +kernel
theorem dX2_crossingDay_9 : decode cX2_crossingDay 9 = .ok (.getfield 18, 3) := by decide +kernel
theorem dX2_crossingDay_12 : decode cX2_crossingDay 12 = .ok (.iload_n 1, 1) := by decide +kernel
theorem dX2_crossingDay_13 : decode cX2_crossingDay 13 = .ok (.iaload, 1) := by decide +kernel
theorem dX2_crossingDay_14 : decode cX2_crossingDay 14 = .ok (.goto 4, 3) := by decide +kernel
theorem dX2_crossingDay_17 : decode cX2_crossingDay 17 = .ok (.iconst (-1), 1) := by decide +kernel
theorem dX2_crossingDay_18 : decode cX2_crossingDay 18 = .ok (.ireturn, 1) := by decide +kernel
set_option maxRecDepth 20000 in
theorem ggX2_limitsOf_X2_has : GoodIn wsX2_limitsOf wsX2_has := goodIn_r _ [6, 7, 8, 9, 10, 11, 12, 13, 14, 15] (by decide +kernel) (by decide +kernel)
set_option maxRecDepth 20000 in
theorem gX2_limitsOf_X2_has : GoodIn wsX2_limitsOf (wsV RX2 41 RX2 yX2_has wsX2_has) := goodIn_app (goodIn_of _ (by decide +kernel)) ggX2_limitsOf_X2_has
theorem dX2_limitsOf_0 : decode cX2_limitsOf 0 = .ok (.aload_n 0, 1) := by decide +kernel
theorem dX2_limitsOf_1 : decode cX2_limitsOf 1 = .ok (.iload_n 1, 1) := by decide +kernel
theorem dX2_limitsOf_2 : decode cX2_limitsOf 2 = .ok (.invokevirtual 41, 3) := by decide +kernel
theorem dX2_limitsOf_5 : decode cX2_limitsOf 5 = .ok (.ifCond .eq 12, 3) := by decide +kernel
theorem dX2_limitsOf_8 : decode cX2_limitsOf 8 = .ok (.aload_n 0, 1) := by decide +kernel
theorem dX2_limitsOf_9 : decode cX2_limitsOf 9 = .ok (.getfield 21, 3) := by decide +kernel
theorem dX2_limitsOf_12 : decode cX2_limitsOf 12 = .ok (.iload_n 1, 1) := by decide +kernel
theorem dX2_limitsOf_13 : decode cX2_limitsOf 13 = .ok (.iaload, 1) := by decide +kernel
theorem dX2_limitsOf_14 : decode cX2_limitsOf 14 = .ok (.goto 4, 3) := by decide +kernel
theorem dX2_limitsOf_17 : decode cX2_limitsOf 17 = .ok (.iconst 0, 1) := by decide +kernel
theorem dX2_limitsOf_18 : decode cX2_limitsOf 18 = .ok (.ireturn, 1) := by decide +kernel
set_option maxRecDepth 20000 in
theorem ggX2_isKnown_X2_has : GoodIn wsX2_isKnown wsX2_has := goodIn_r _ [7, 8, 9, 10, 11, 12, 13, 14, 15, 16] (by decide +kernel) (by decide +kernel)
set_option maxRecDepth 20000 in
theorem gX2_isKnown_X2_has : GoodIn wsX2_isKnown (wsV RX2 41 RX2 yX2_has wsX2_has) := goodIn_app (goodIn_of _ (by decide +kernel)) ggX2_isKnown_X2_has
theorem dX2_isKnown_0 : decode cX2_isKnown 0 = .ok (.aload_n 0, 1) := by decide +kernel
theorem dX2_isKnown_1 : decode cX2_isKnown 1 = .ok (.iload_n 1, 1) := by decide +kernel
theorem dX2_isKnown_2 : decode cX2_isKnown 2 = .ok (.invokevirtual 41, 3) := by decide +kernel
theorem dX2_isKnown_5 : decode cX2_isKnown 5 = .ok (.ifCond .eq 13, 3) := by decide +kernel
theorem dX2_isKnown_8 : decode cX2_isKnown 8 = .ok (.aload_n 0, 1) := by decide +kernel
theorem dX2_isKnown_9 : decode cX2_isKnown 9 = .ok (.getfield 15, 3) := by decide +kernel
theorem dX2_isKnown_12 : decode cX2_isKnown 12 = .ok (.iload_n 1, 1) := by decide +kernel
theorem dX2_isKnown_13 : decode cX2_isKnown 13 = .ok (.iaload, 1) := by decide +kernel
theorem dX2_isKnown_14 : decode cX2_isKnown 14 = .ok (.iload_n 2, 1) := by decide +kernel
theorem dX2_isKnown_15 : decode cX2_isKnown 15 = .ok (.if_icmp .le 5, 3) := by decide +kernel
theorem dX2_isKnown_18 : decode cX2_isKnown 18 = .ok (.iconst 0, 1) := by decide +kernel
theorem dX2_isKnown_19 : decode cX2_isKnown 19 = .ok (.ireturn, 1) := by decide +kernel
theorem dX2_isKnown_20 : decode cX2_isKnown 20 = .ok (.aload_n 0, 1) := by decide +kernel
theorem dX2_isKnown_21 : decode cX2_isKnown 21 = .ok (.getfield 18, 3) := by decide +kernel
theorem dX2_isKnown_24 : decode cX2_isKnown 24 = .ok (.iload_n 1, 1) := by decide +kernel
theorem dX2_isKnown_25 : decode cX2_isKnown 25 = .ok (.iaload, 1) := by decide +kernel
theorem dX2_isKnown_26 : decode cX2_isKnown 26 = .ok (.iconst (-1), 1) := by decide +kernel
theorem dX2_isKnown_27 : decode cX2_isKnown 27 = .ok (.if_icmp .eq 13, 3) := by decide +kernel
theorem dX2_isKnown_30 : decode cX2_isKnown 30 = .ok (.aload_n 0, 1) := by decide +kernel
theorem dX2_isKnown_31 : decode cX2_isKnown 31 = .ok (.getfield 18, 3) := by decide +kernel
theorem dX2_isKnown_34 : decode cX2_isKnown 34 = .ok (.iload_n 1, 1) := by decide +kernel
theorem dX2_isKnown_35 : decode cX2_isKnown 35 = .ok (.iaload, 1) := by decide +kernel
theorem dX2_isKnown_36 : decode cX2_isKnown 36 = .ok (.iload_n 2, 1) := by decide +kernel
theorem dX2_isKnown_37 : decode cX2_isKnown 37 = .ok (.if_icmp .le 7, 3) := by decide +kernel
theorem dX2_isKnown_40 : decode cX2_isKnown 40 = .ok (.iconst 1, 1) := by decide +kernel
theorem dX2_isKnown_41 : decode cX2_isKnown 41 = .ok (.goto 4, 3) := by decide +kernel
theorem dX2_isKnown_44 : decode cX2_isKnown 44 = .ok (.iconst 0, 1) := by decide +kernel
theorem dX2_isKnown_45 : decode cX2_isKnown 45 = .ok (.ireturn, 1) := by decide +kernel
set_option maxRecDepth 20000 in
theorem ggX2_copyLimits_X2_limitsOf : GoodIn wsX2_copyLimits wsX2_limitsOf := goodIn_r _ [8, 9, 10, 11, 12, 7, 13, 14, 23, 24, 25, 26, 27, 28, 29, 30] (by decide +kernel) (by decide +kernel)
set_option maxRecDepth 20000 in
theorem gX2_copyLimits_X2_limitsOf : GoodIn wsX2_copyLimits (wsV RX2 45 RX2 yX2_limitsOf wsX2_limitsOf) := goodIn_app (goodIn_of _ (by decide +kernel)) ggX2_copyLimits_X2_limitsOf
set_option maxRecDepth 20000 in
theorem ggX2_copyLimits_X4_setLimit : GoodIn wsX2_copyLimits wsX4_setLimit := goodIn_r _ [19, 20, 21, 22, 31, 32, 33, 34, 35, 36] (by decide +kernel) (by decide +kernel)
set_option maxRecDepth 20000 in
theorem gX2_copyLimits_X4_setLimit : GoodIn wsX2_copyLimits (wsV RX2 49 RX4 yX4_setLimit wsX4_setLimit) := goodIn_app (goodIn_of _ (by decide +kernel)) ggX2_copyLimits_X4_setLimit
theorem dX2_copyLimits_0 : decode cX2_copyLimits 0 = .ok (.iload_n 3, 1) := by decide +kernel
theorem dX2_copyLimits_1 : decode cX2_copyLimits 1 = .ok (.istore 4, 2) := by decide +kernel
theorem dX2_copyLimits_3 : decode cX2_copyLimits 3 = .ok (.iconst 0, 1) := by decide +kernel
theorem dX2_copyLimits_4 : decode cX2_copyLimits 4 = .ok (.istore 5, 2) := by decide +kernel
theorem dX2_copyLimits_6 : decode cX2_copyLimits 6 = .ok (.iload 5, 2) := by decide +kernel
theorem dX2_copyLimits_8 : decode cX2_copyLimits 8 = .ok (.aload_n 0, 1) := by decide +kernel
theorem dX2_copyLimits_9 : decode cX2_copyLimits 9 = .ok (.iload_n 1, 1) := by decide +kernel
theorem dX2_copyLimits_10 : decode cX2_copyLimits 10 = .ok (.invokevirtual 45, 3) := by decide +kernel
theorem dX2_copyLimits_13 : decode cX2_copyLimits 13 = .ok (.if_icmp .ge 47, 3) := by decide +kernel
theorem dX2_copyLimits_16 : decode cX2_copyLimits 16 = .ok (.iconst 2, 1) := by decide +kernel
theorem dX2_copyLimits_17 : decode cX2_copyLimits 17 = .ok (.iload_n 1, 1) := by decide +kernel
theorem dX2_copyLimits_18 : decode cX2_copyLimits 18 = .ok (.imul, 1) := by decide +kernel
theorem dX2_copyLimits_19 : decode cX2_copyLimits 19 = .ok (.iload 5, 2) := by decide +kernel
theorem dX2_copyLimits_21 : decode cX2_copyLimits 21 = .ok (.iadd, 1) := by decide +kernel
theorem dX2_copyLimits_22 : decode cX2_copyLimits 22 = .ok (.istore 6, 2) := by decide +kernel
theorem dX2_copyLimits_24 : decode cX2_copyLimits 24 = .ok (.aload_n 2, 1) := by decide +kernel
theorem dX2_copyLimits_25 : decode cX2_copyLimits 25 = .ok (.iload 4, 2) := by decide +kernel
theorem dX2_copyLimits_27 : decode cX2_copyLimits 27 = .ok (.aload_n 0, 1) := by decide +kernel
theorem dX2_copyLimits_28 : decode cX2_copyLimits 28 = .ok (.getfield 24, 3) := by decide +kernel
theorem dX2_copyLimits_31 : decode cX2_copyLimits 31 = .ok (.iload 6, 2) := by decide +kernel
theorem dX2_copyLimits_33 : decode cX2_copyLimits 33 = .ok (.iaload, 1) := by decide +kernel
theorem dX2_copyLimits_34 : decode cX2_copyLimits 34 = .ok (.aload_n 0, 1) := by decide +kernel
theorem dX2_copyLimits_35 : decode cX2_copyLimits 35 = .ok (.getfield 27, 3) := by decide +kernel
theorem dX2_copyLimits_38 : decode cX2_copyLimits 38 = .ok (.iload 6, 2) := by decide +kernel
theorem dX2_copyLimits_40 : decode cX2_copyLimits 40 = .ok (.iaload, 1) := by decide +kernel
theorem dX2_copyLimits_41 : decode cX2_copyLimits 41 = .ok (.aload_n 0, 1) := by decide +kernel
theorem dX2_copyLimits_42 : decode cX2_copyLimits 42 = .ok (.getfield 30, 3) := by decide +kernel
theorem dX2_copyLimits_45 : decode cX2_copyLimits 45 = .ok (.iload 6, 2) := by decide +kernel
theorem dX2_copyLimits_47 : decode cX2_copyLimits 47 = .ok (.iaload, 1) := by decide +kernel
theorem dX2_copyLimits_48 : decode cX2_copyLimits 48 = .ok (.invokevirtual 49, 3) := by decide +kernel
theorem dX2_copyLimits_51 : decode cX2_copyLimits 51 = .ok (.iinc 4 1, 3) := by decide +kernel
theorem dX2_copyLimits_54 : decode cX2_copyLimits 54 = .ok (.iinc 5 1, 3) := by decide +kernel
theorem dX2_copyLimits_57 : decode cX2_copyLimits 57 = .ok (.goto (-51), 3) := by decide +kernel
theorem dX2_copyLimits_60 : decode cX2_copyLimits 60 = .ok (.iload 4, 2) := by decide +kernel
theorem dX2_copyLimits_62 : decode cX2_copyLimits 62 = .ok (.ireturn, 1) := by decide +kernel
theorem dX3_init_0 : decode cX3_init 0 = .ok (.aload_n 0, 1) := by decide +kernel
theorem dX3_init_1 : decode cX3_init 1 = .ok (.invokespecial 3, 3) := by decide +kernel
theorem dX3_init_4 : decode cX3_init 4 = .ok (.aload_n 0, 1) := by decide +kernel
theorem dX3_init_5 : decode cX3_init 5 = .ok (.bipush 10, 2) := by decide +kernel
theorem dX3_init_7 : decode cX3_init 7 = .ok (.newarray .int, 2) := by decide +kernel
theorem dX3_init_9 : decode cX3_init 9 = .ok (.putfield 9, 3) := by decide +kernel
theorem dX3_init_12 : decode cX3_init 12 = .ok (.aload_n 0, 1) := by decide +kernel
theorem dX3_init_13 : decode cX3_init 13 = .ok (.bipush 10, 2) := by decide +kernel
theorem dX3_init_15 : decode cX3_init 15 = .ok (.newarray .int, 2) := by decide +kernel
theorem dX3_init_17 : decode cX3_init 17 = .ok (.putfield 15, 3) := by decide +kernel
theorem dX3_init_20 : decode cX3_init 20 = .ok (.aload_n 0, 1) := by decide +kernel
theorem dX3_init_21 : decode cX3_init 21 = .ok (.bipush 60, 2) := by decide +kernel
theorem dX3_init_23 : decode cX3_init 23 = .ok (.newarray .int, 2) := by decide +kernel
theorem dX3_init_25 : decode cX3_init 25 = .ok (.putfield 18, 3) := by decide +kernel
theorem dX3_init_28 : decode cX3_init 28 = .ok (.aload_n 0, 1) := by decide +kernel
theorem dX3_init_29 : decode cX3_init 29 = .ok (.bipush 60, 2) := by decide +kernel
theorem dX3_init_31 : decode cX3_init 31 = .ok (.newarray .int, 2) := by decide +kernel
theorem dX3_init_33 : decode cX3_init 33 = .ok (.putfield 21, 3) := by decide +kernel
theorem dX3_init_36 : decode cX3_init 36 = .ok (.aload_n 0, 1) := by decide +kernel
theorem dX3_init_37 : decode cX3_init 37 = .ok (.bipush 60, 2) := by decide +kernel
theorem dX3_init_39 : decode cX3_init 39 = .ok (.newarray .int, 2) := by decide +kernel
theorem dX3_init_41 : decode cX3_init 41 = .ok (.putfield 24, 3) := by decide +kernel
theorem dX3_init_44 : decode cX3_init 44 = .ok (.return_, 1) := by decide +kernel
theorem dX3_hasAllLaws_0 : decode cX3_hasAllLaws 0 = .ok (.aload_n 0, 1) := by decide +kernel
theorem dX3_hasAllLaws_1 : decode cX3_hasAllLaws 1 = .ok (.getfield 27, 3) := by decide +kernel
theorem dX3_hasAllLaws_4 : decode cX3_hasAllLaws 4 = .ok (.bipush 10, 2) := by decide +kernel
theorem dX3_hasAllLaws_6 : decode cX3_hasAllLaws 6 = .ok (.if_icmp .lt 7, 3) := by decide +kernel
theorem dX3_hasAllLaws_9 : decode cX3_hasAllLaws 9 = .ok (.iconst 1, 1) := by decide +kernel
theorem dX3_hasAllLaws_10 : decode cX3_hasAllLaws 10 = .ok (.goto 4, 3) := by decide +kernel
theorem dX3_hasAllLaws_13 : decode cX3_hasAllLaws 13 = .ok (.iconst 0, 1) := by decide +kernel
theorem dX3_hasAllLaws_14 : decode cX3_hasAllLaws 14 = .ok (.ireturn, 1) := by decide +kernel
theorem dX3_hasAllDeaths_0 : decode cX3_hasAllDeaths 0 = .ok (.aload_n 0, 1) := by decide +kernel
theorem dX3_hasAllDeaths_1 : decode cX3_hasAllDeaths 1 = .ok (.getfield 31, 3) := by decide +kernel
theorem dX3_hasAllDeaths_4 : decode cX3_hasAllDeaths 4 = .ok (.bipush 60, 2) := by decide +kernel
theorem dX3_hasAllDeaths_6 : decode cX3_hasAllDeaths 6 = .ok (.if_icmp .lt 7, 3) := by decide +kernel
theorem dX3_hasAllDeaths_9 : decode cX3_hasAllDeaths 9 = .ok (.iconst 1, 1) := by decide +kernel
theorem dX3_hasAllDeaths_10 : decode cX3_hasAllDeaths 10 = .ok (.goto 4, 3) := by decide +kernel
theorem dX3_hasAllDeaths_13 : decode cX3_hasAllDeaths 13 = .ok (.iconst 0, 1) := by decide +kernel
theorem dX3_hasAllDeaths_14 : decode cX3_hasAllDeaths 14 = .ok (.ireturn, 1) := by decide +kernel
set_option maxRecDepth 20000 in
theorem ggX3_addLaw_X3_hasAllLaws : GoodIn wsX3_addLaw wsX3_hasAllLaws := goodIn_r _ [8, 2, 9, 10, 11, 12, 13, 14, 15] (by decide +kernel) (by decide +kernel)
set_option maxRecDepth 20000 in
theorem gX3_addLaw_X3_hasAllLaws : GoodIn wsX3_addLaw (wsV RX3 34 RX3 yX3_hasAllLaws wsX3_hasAllLaws) := goodIn_app (goodIn_of _ (by decide +kernel)) ggX3_addLaw_X3_hasAllLaws
theorem dX3_addLaw_0 : decode cX3_addLaw 0 = .ok (.aload_n 0, 1) := by decide +kernel
theorem dX3_addLaw_1 : decode cX3_addLaw 1 = .ok (.invokevirtual 34, 3) := by decide +kernel
theorem dX3_addLaw_4 : decode cX3_addLaw 4 = .ok (.ifCond .eq 4, 3) := by decide +kernel
theorem dX3_addLaw_7 : decode cX3_addLaw 7 = .ok (.return_, 1) := by decide +kernel
theorem dX3_addLaw_8 : decode cX3_addLaw 8 = .ok (.aload_n 0, 1) := by decide +kernel
theorem dX3_addLaw_9 : decode cX3_addLaw 9 = .ok (.getfield 9, 3) := by decide +kernel
theorem dX3_addLaw_12 : decode cX3_addLaw 12 = .ok (.aload_n 0, 1) := by decide +kernel
theorem dX3_addLaw_13 : decode cX3_addLaw 13 = .ok (.getfield 27, 3) := by decide +kernel
theorem dX3_addLaw_16 : decode cX3_addLaw 16 = .ok (.iload_n 1, 1) := by decide +kernel
theorem dX3_addLaw_17 : decode cX3_addLaw 17 = .ok (.iastore, 1) := by decide +kernel
theorem dX3_addLaw_18 : decode cX3_addLaw 18 = .ok (.aload_n 0, 1) := by decide +kernel
theorem dX3_addLaw_19 : decode cX3_addLaw 19 = .ok (.getfield 15, 3) := by decide +kernel
theorem dX3_addLaw_22 : decode cX3_addLaw 22 = .ok (.aload_n 0, 1) := by decide +kernel
theorem dX3_addLaw_23 : decode cX3_addLaw 23 = .ok (.getfield 27, 3) := by decide +kernel
theorem dX3_addLaw_26 : decode cX3_addLaw 26 = .ok (.iload_n 2, 1) := by decide +kernel
theorem dX3_addLaw_27 : decode cX3_addLaw 27 = .ok (.iastore, 1) := by decide +kernel
theorem dX3_addLaw_28 : decode cX3_addLaw 28 = .ok (.aload_n 0, 1) := by decide +kernel
theorem dX3_addLaw_29 : decode cX3_addLaw 29 = .ok (.dup, 1) := by decide +kernel
theorem dX3_addLaw_30 : decode cX3_addLaw 30 = .ok (.getfield 27, 3) := by decide +kernel
theorem dX3_addLaw_33 : decode cX3_addLaw 33 = .ok (.iconst 1, 1) := by decide +kernel
theorem dX3_addLaw_34 : decode cX3_addLaw 34 = .ok (.iadd, 1) := by decide +kernel
theorem dX3_addLaw_35 : decode cX3_addLaw 35 = .ok (.putfield 27, 3) := by decide +kernel
theorem dX3_addLaw_38 : decode cX3_addLaw 38 = .ok (.return_, 1) := by decide +kernel
set_option maxRecDepth 20000 in
theorem ggX3_addDeath_X3_hasAllDeaths : GoodIn wsX3_addDeath wsX3_hasAllDeaths := goodIn_r _ [9, 2, 10, 11, 12, 13, 14, 15, 16] (by decide +kernel) (by decide +kernel)
set_option maxRecDepth 20000 in
theorem gX3_addDeath_X3_hasAllDeaths : GoodIn wsX3_addDeath (wsV RX3 38 RX3 yX3_hasAllDeaths wsX3_hasAllDeaths) := goodIn_app (goodIn_of _ (by decide +kernel)) ggX3_addDeath_X3_hasAllDeaths
theorem dX3_addDeath_0 : decode cX3_addDeath 0 = .ok (.aload_n 0, 1) := by decide +kernel
theorem dX3_addDeath_1 : decode cX3_addDeath 1 = .ok (.invokevirtual 38, 3) := by decide +kernel
theorem dX3_addDeath_4 : decode cX3_addDeath 4 = .ok (.ifCond .eq 4, 3) := by decide +kernel
theorem dX3_addDeath_7 : decode cX3_addDeath 7 = .ok (.return_, 1) := by decide +kernel
theorem dX3_addDeath_8 : decode cX3_addDeath 8 = .ok (.aload_n 0, 1) := by decide +kernel
theorem dX3_addDeath_9 : decode cX3_addDeath 9 = .ok (.getfield 18, 3) := by decide +kernel
theorem dX3_addDeath_12 : decode cX3_addDeath 12 = .ok (.aload_n 0, 1) := by decide +kernel
theorem dX3_addDeath_13 : decode cX3_addDeath 13 = .ok (.getfield 31, 3) := by decide +kernel
theorem dX3_addDeath_16 : decode cX3_addDeath 16 = .ok (.iload_n 1, 1) := by decide +kernel
theorem dX3_addDeath_17 : decode cX3_addDeath 17 = .ok (.iastore, 1) := by decide +kernel
theorem dX3_addDeath_18 : decode cX3_addDeath 18 = .ok (.aload_n 0, 1) := by decide +kernel
theorem dX3_addDeath_19 : decode cX3_addDeath 19 = .ok (.getfield 21, 3) := by decide +kernel
theorem dX3_addDeath_22 : decode cX3_addDeath 22 = .ok (.aload_n 0, 1) := by decide +kernel
theorem dX3_addDeath_23 : decode cX3_addDeath 23 = .ok (.getfield 31, 3) := by decide +kernel
theorem dX3_addDeath_26 : decode cX3_addDeath 26 = .ok (.iload_n 2, 1) := by decide +kernel
theorem dX3_addDeath_27 : decode cX3_addDeath 27 = .ok (.iastore, 1) := by decide +kernel
theorem dX3_addDeath_28 : decode cX3_addDeath 28 = .ok (.aload_n 0, 1) := by decide +kernel
theorem dX3_addDeath_29 : decode cX3_addDeath 29 = .ok (.getfield 24, 3) := by decide +kernel
theorem dX3_addDeath_32 : decode cX3_addDeath 32 = .ok (.aload_n 0, 1) := by decide +kernel
theorem dX3_addDeath_33 : decode cX3_addDeath 33 = .ok (.getfield 31, 3) := by decide +kernel
theorem dX3_addDeath_36 : decode cX3_addDeath 36 = .ok (.iload_n 3, 1) := by decide +kernel
theorem dX3_addDeath_37 : decode cX3_addDeath 37 = .ok (.iastore, 1) := by decide +kernel
theorem dX3_addDeath_38 : decode cX3_addDeath 38 = .ok (.aload_n 0, 1) := by decide +kernel
theorem dX3_addDeath_39 : decode cX3_addDeath 39 = .ok (.dup, 1) := by decide +kernel
theorem dX3_addDeath_40 : decode cX3_addDeath 40 = .ok (.getfield 31, 3) := by decide +kernel
theorem dX3_addDeath_43 : decode cX3_addDeath 43 = .ok (.iconst 1, 1) := by decide +kernel
theorem dX3_addDeath_44 : decode cX3_addDeath 44 = .ok (.iadd, 1) := by decide +kernel
theorem dX3_addDeath_45 : decode cX3_addDeath 45 = .ok (.putfield 31, 3) := by decide +kernel
theorem dX3_addDeath_48 : decode cX3_addDeath 48 = .ok (.return_, 1) := by decide +kernel
set_option maxRecDepth 20000 in
theorem ggX3_isFreeOn_X3_lawInForce : GoodIn wsX3_isFreeOn wsX3_lawInForce := goodIn_r _ [7, 8, 9, 17, 18, 19, 20, 21, 22, 23] (by decide +kernel) (by decide +kernel)
set_option maxRecDepth 20000 in
theorem gX3_isFreeOn_X3_lawInForce : GoodIn wsX3_isFreeOn (wsV RX3 41 RX3 yX3_lawInForce wsX3_lawInForce) := goodIn_app (goodIn_of _ (by decide +kernel)) ggX3_isFreeOn_X3_lawInForce
set_option maxRecDepth 20000 in
theorem ggX3_isFreeOn_X3_deathKnown : GoodIn wsX3_isFreeOn wsX3_deathKnown := goodIn_r _ [13, 14, 15, 16, 17, 18, 19, 20, 21, 22, 23] (by decide +kernel) (by decide +kernel)
set_option maxRecDepth 20000 in
theorem gX3_isFreeOn_X3_deathKnown : GoodIn wsX3_isFreeOn (wsV RX3 45 RX3 yX3_deathKnown wsX3_deathKnown) := goodIn_app (goodIn_of _ (by decide +kernel)) ggX3_isFreeOn_X3_deathKnown
theorem dX3_isFreeOn_0 : decode cX3_isFreeOn 0 = .ok (.aload_n 0, 1) := by decide +kernel
theorem dX3_isFreeOn_1 : decode cX3_isFreeOn 1 = .ok (.iload_n 2, 1) := by decide +kernel
theorem dX3_isFreeOn_2 : decode cX3_isFreeOn 2 = .ok (.invokevirtual 41, 3) := by decide +kernel
theorem dX3_isFreeOn_5 : decode cX3_isFreeOn 5 = .ok (.istore 4, 2) := by decide +kernel
theorem dX3_isFreeOn_7 : decode cX3_isFreeOn 7 = .ok (.aload_n 0, 1) := by decide +kernel
theorem dX3_isFreeOn_8 : decode cX3_isFreeOn 8 = .ok (.iload_n 1, 1) := by decide +kernel
theorem dX3_isFreeOn_9 : decode cX3_isFreeOn 9 = .ok (.iload_n 3, 1) := by decide +kernel
theorem dX3_isFreeOn_10 : decode cX3_isFreeOn 10 = .ok (.invokevirtual 45, 3) := by decide +kernel
theorem dX3_isFreeOn_13 : decode cX3_isFreeOn 13 = .ok (.istore 5, 2) := by decide +kernel
theorem dX3_isFreeOn_15 : decode cX3_isFreeOn 15 = .ok (.iload 4, 2) := by decide +kernel
theorem dX3_isFreeOn_17 : decode cX3_isFreeOn 17 = .ok (.iconst (-1), 1) := by decide +kernel
theorem dX3_isFreeOn_18 : decode cX3_isFreeOn 18 = .ok (.if_icmp .eq 9, 3) := by decide +kernel
theorem dX3_isFreeOn_21 : decode cX3_isFreeOn 21 = .ok (.iload 5, 2) := by decide +kernel
theorem dX3_isFreeOn_23 : decode cX3_isFreeOn 23 = .ok (.iconst (-1), 1) := by decide +kernel
theorem dX3_isFreeOn_24 : decode cX3_isFreeOn 24 = .ok (.if_icmp .ne 5, 3) := by decide +kernel
theorem dX3_isFreeOn_27 : decode cX3_isFreeOn 27 = .ok (.iconst 0, 1) := by decide +kernel
theorem dX3_isFreeOn_28 : decode cX3_isFreeOn 28 = .ok (.ireturn, 1) := by decide +kernel
theorem dX3_isFreeOn_29 : decode cX3_isFreeOn 29 = .ok (.aload_n 0, 1) := by decide +kernel
theorem dX3_isFreeOn_30 : decode cX3_isFreeOn 30 = .ok (.getfield 21, 3) := by decide +kernel
theorem dX3_isFreeOn_33 : decode cX3_isFreeOn 33 = .ok (.iload 5, 2) := by decide +kernel
theorem dX3_isFreeOn_35 : decode cX3_isFreeOn 35 = .ok (.iaload, 1) := by decide +kernel
theorem dX3_isFreeOn_36 : decode cX3_isFreeOn 36 = .ok (.aload_n 0, 1) := by decide +kernel
theorem dX3_isFreeOn_37 : decode cX3_isFreeOn 37 = .ok (.getfield 15, 3) := by decide +kernel
theorem dX3_isFreeOn_40 : decode cX3_isFreeOn 40 = .ok (.iload 4, 2) := by decide +kernel
theorem dX3_isFreeOn_42 : decode cX3_isFreeOn 42 = .ok (.iaload, 1) := by decide +kernel
theorem dX3_isFreeOn_43 : decode cX3_isFreeOn 43 = .ok (.iadd, 1) := by decide +kernel
theorem dX3_isFreeOn_44 : decode cX3_isFreeOn 44 = .ok (.iload_n 2, 1) := by decide +kernel
theorem dX3_isFreeOn_45 : decode cX3_isFreeOn 45 = .ok (.if_icmp .gt 7, 3) := by decide +kernel
theorem dX3_isFreeOn_48 : decode cX3_isFreeOn 48 = .ok (.iconst 1, 1) := by decide +kernel
theorem dX3_isFreeOn_49 : decode cX3_isFreeOn 49 = .ok (.goto 4, 3) := by decide +kernel
theorem dX3_isFreeOn_52 : decode cX3_isFreeOn 52 = .ok (.iconst 0, 1) := by decide +kernel
theorem dX3_isFreeOn_53 : decode cX3_isFreeOn 53 = .ok (.ireturn, 1) := by decide +kernel
theorem dX3_lawInForce_0 : decode cX3_lawInForce 0 = .ok (.iconst (-1), 1) := by decide +kernel
theorem dX3_lawInForce_1 : decode cX3_lawInForce 1 = .ok (.istore_n 2, 1) := by decide +kernel
theorem dX3_lawInForce_2 : decode cX3_lawInForce 2 = .ok (.iconst 0, 1) := by decide +kernel
theorem dX3_lawInForce_3 : decode cX3_lawInForce 3 = .ok (.istore_n 3, 1) := by decide +kernel
theorem dX3_lawInForce_4 : decode cX3_lawInForce 4 = .ok (.iload_n 3, 1) := by decide +kernel
theorem dX3_lawInForce_5 : decode cX3_lawInForce 5 = .ok (.aload_n 0, 1) := by decide +kernel
theorem dX3_lawInForce_6 : decode cX3_lawInForce 6 = .ok (.getfield 27, 3) := by decide +kernel
theorem dX3_lawInForce_9 : decode cX3_lawInForce 9 = .ok (.if_icmp .ge 41, 3) := by decide +kernel
theorem dX3_lawInForce_12 : decode cX3_lawInForce 12 = .ok (.aload_n 0, 1) := by decide +kernel
theorem dX3_lawInForce_13 : decode cX3_lawInForce 13 = .ok (.getfield 9, 3) := by decide +kernel
theorem dX3_lawInForce_16 : decode cX3_lawInForce 16 = .ok (.iload_n 3, 1) := by decide +kernel
theorem dX3_lawInForce_17 : decode cX3_lawInForce 17 = .ok (.iaload, 1) := by decide +kernel
theorem dX3_lawInForce_18 : decode cX3_lawInForce 18 = .ok (.iload_n 1, 1) := by decide +kernel
theorem dX3_lawInForce_19 : decode cX3_lawInForce 19 = .ok (.if_icmp .gt 25, 3) := by decide +kernel
theorem dX3_lawInForce_22 : decode cX3_lawInForce 22 = .ok (.iload_n 2, 1) := by decide +kernel
theorem dX3_lawInForce_23 : decode cX3_lawInForce 23 = .ok (.iconst (-1), 1) := by decide +kernel
theorem dX3_lawInForce_24 : decode cX3_lawInForce 24 = .ok (.if_icmp .eq 18, 3) := by decide +kernel
theorem dX3_lawInForce_27 : decode cX3_lawInForce 27 = .ok (.aload_n 0, 1) := by decide +kernel
theorem dX3_lawInForce_28 : decode cX3_lawInForce 28 = .ok (.getfield 9, 3) := by decide +kernel
theorem dX3_lawInForce_31 : decode cX3_lawInForce 31 = .ok (.iload_n 3, 1) := by decide +kernel
theorem dX3_lawInForce_32 : decode cX3_lawInForce 32 = .ok (.iaload, 1) := by decide +kernel
theorem dX3_lawInForce_33 : decode cX3_lawInForce 33 = .ok (.aload_n 0, 1) := by decide +kernel
theorem dX3_lawInForce_34 : decode cX3_lawInForce 34 = .ok (.getfield 9, 3) := by decide +kernel
theorem dX3_lawInForce_37 : decode cX3_lawInForce 37 = .ok (.iload_n 2, 1) := by decide +kernel
theorem dX3_lawInForce_38 : decode cX3_lawInForce 38 = .ok (.iaload, 1) := by decide +kernel
theorem dX3_lawInForce_39 : decode cX3_lawInForce 39 = .ok (.if_icmp .lt 5, 3) := by decide +kernel
theorem dX3_lawInForce_42 : decode cX3_lawInForce 42 = .ok (.iload_n 3, 1) := by decide +kernel
theorem dX3_lawInForce_43 : decode cX3_lawInForce 43 = .ok (.istore_n 2, 1) := by decide +kernel
theorem dX3_lawInForce_44 : decode cX3_lawInForce 44 = .ok (.iinc 3 1, 3) := by decide +kernel
theorem dX3_lawInForce_47 : decode cX3_lawInForce 47 = .ok (.goto (-43), 3) := by decide +kernel
theorem dX3_lawInForce_50 : decode cX3_lawInForce 50 = .ok (.iload_n 2, 1) := by decide +kernel
theorem dX3_lawInForce_51 : decode cX3_lawInForce 51 = .ok (.ireturn, 1) := by decide +kernel
theorem dX3_deathKnown_0 : decode cX3_deathKnown 0 = .ok (.iconst (-1), 1) := by decide +kernel
theorem dX3_deathKnown_1 : decode cX3_deathKnown 1 = .ok (.istore_n 3, 1) := by decide +kernel
theorem dX3_deathKnown_2 : decode cX3_deathKnown 2 = .ok (.iconst 0, 1) := by decide +kernel
theorem dX3_deathKnown_3 : decode cX3_deathKnown 3 = .ok (.istore 4, 2) := by decide +kernel
theorem dX3_deathKnown_5 : decode cX3_deathKnown 5 = .ok (.iload 4, 2) := by decide +kernel
theorem dX3_deathKnown_7 : decode cX3_deathKnown 7 = .ok (.aload_n 0, 1) := by decide +kernel
theorem dX3_deathKnown_8 : decode cX3_deathKnown 8 = .ok (.getfield 31, 3) := by decide +kernel
theorem dX3_deathKnown_11 : decode cX3_deathKnown 11 = .ok (.if_icmp .ge 67, 3) := by decide +kernel
theorem dX3_deathKnown_14 : decode cX3_deathKnown 14 = .ok (.aload_n 0, 1) := by decide +kernel
theorem dX3_deathKnown_15 : decode cX3_deathKnown 15 = .ok (.getfield 18, 3) := by decide +kernel
theorem dX3_deathKnown_18 : decode cX3_deathKnown 18 = .ok (.iload 4, 2) := by decide +kernel
theorem dX3_deathKnown_20 : decode cX3_deathKnown 20 = .ok (.iaload, 1) := by decide +kernel
theorem dX3_deathKnown_21 : decode cX3_deathKnown 21 = .ok (.iload_n 1, 1) := by decide +kernel
theorem dX3_deathKnown_22 : decode cX3_deathKnown 22 = .ok (.if_icmp .ne 18, 3) := by decide +kernel
theorem dX3_deathKnown_25 : decode cX3_deathKnown 25 = .ok (.aload_n 0, 1) := by decide +kernel
theorem dX3_deathKnown_26 : decode cX3_deathKnown 26 = .ok (.getfield 24, 3) := by decide +kernel
theorem dX3_deathKnown_29 : decode cX3_deathKnown 29 = .ok (.iload 4, 2) := by decide +kernel
theorem dX3_deathKnown_31 : decode cX3_deathKnown 31 = .ok (.iaload, 1) := by decide +kernel
theorem dX3_deathKnown_32 : decode cX3_deathKnown 32 = .ok (.iload_n 2, 1) := by decide +kernel
theorem dX3_deathKnown_33 : decode cX3_deathKnown 33 = .ok (.if_icmp .gt 7, 3) := by decide +kernel
theorem dX3_deathKnown_36 : decode cX3_deathKnown 36 = .ok (.iconst 1, 1) := by decide +kernel
theorem dX3_deathKnown_37 : decode cX3_deathKnown 37 = .ok (.goto 4, 3) := by decide +kernel
theorem dX3_deathKnown_40 : decode cX3_deathKnown 40 = .ok (.iconst 0, 1) := by decide +kernel
theorem dX3_deathKnown_41 : decode cX3_deathKnown 41 = .ok (.istore 5, 2) := by decide +kernel
theorem dX3_deathKnown_43 : decode cX3_deathKnown 43 = .ok (.iload 5, 2) := by decide +kernel
theorem dX3_deathKnown_45 : decode cX3_deathKnown 45 = .ok (.ifCond .eq 27, 3) := by decide +kernel
theorem dX3_deathKnown_48 : decode cX3_deathKnown 48 = .ok (.iload_n 3, 1) := by decide +kernel
theorem dX3_deathKnown_49 : decode cX3_deathKnown 49 = .ok (.iconst (-1), 1) := by decide +kernel
theorem dX3_deathKnown_50 : decode cX3_deathKnown 50 = .ok (.if_icmp .eq 19, 3) := by decide +kernel
theorem dX3_deathKnown_53 : decode cX3_deathKnown 53 = .ok (.aload_n 0, 1) := by decide +kernel
theorem dX3_deathKnown_54 : decode cX3_deathKnown 54 = .ok (.getfield 24, 3) := by decide +kernel
theorem dX3_deathKnown_57 : decode cX3_deathKnown 57 = .ok (.iload 4, 2) := by decide +kernel
theorem dX3_deathKnown_59 : decode cX3_deathKnown 59 = .ok (.iaload, 1) := by decide +kernel
theorem dX3_deathKnown_60 : decode cX3_deathKnown 60 = .ok (.aload_n 0, 1) := by decide +kernel
theorem dX3_deathKnown_61 : decode cX3_deathKnown 61 = .ok (.getfield 24, 3) := by decide +kernel
theorem dX3_deathKnown_64 : decode cX3_deathKnown 64 = .ok (.iload_n 3, 1) := by decide +kernel
theorem dX3_deathKnown_65 : decode cX3_deathKnown 65 = .ok (.iaload, 1) := by decide +kernel
theorem dX3_deathKnown_66 : decode cX3_deathKnown 66 = .ok (.if_icmp .lt 6, 3) := by decide +kernel
theorem dX3_deathKnown_69 : decode cX3_deathKnown 69 = .ok (.iload 4, 2) := by decide +kernel
theorem dX3_deathKnown_71 : decode cX3_deathKnown 71 = .ok (.istore_n 3, 1) := by decide +kernel
theorem dX3_deathKnown_72 : decode cX3_deathKnown 72 = .ok (.iinc 4 1, 3) := by decide +kernel
theorem dX3_deathKnown_75 : decode cX3_deathKnown 75 = .ok (.goto (-70), 3) := by decide +kernel
theorem dX3_deathKnown_78 : decode cX3_deathKnown 78 = .ok (.iload_n 3, 1) := by decide +kernel
theorem dX3_deathKnown_79 : decode cX3_deathKnown 79 = .ok (.ireturn, 1) := by decide +kernel
