theorem dX5_trade_29 : decode cX5_trade 29 = .ok (.invokevirtual 41, 3) := by decide +kernel
theorem dX5_trade_32 : decode cX5_trade 32 = .ok (.aload_n 0, 1) := by decide +kernel
theorem dX5_trade_33 : decode cX5_trade 33 = .ok (.iload_n 2, 1) := by decide +kernel
theorem dX5_trade_34 : decode cX5_trade 34 = .ok (.iload_n 3, 1) := by decide +kernel
theorem dX5_trade_35 : decode cX5_trade 35 = .ok (.iload 4, 2) := by decide +kernel
theorem dX5_trade_37 : decode cX5_trade 37 = .ok (.invokevirtual 41, 3) := by decide +kernel
theorem dX5_trade_40 : decode cX5_trade 40 = .ok (.return_, 1) := by decide +kernel
theorem dX5_seat_0 : decode cX5_seat 0 = .ok (.aload_n 0, 1) := by decide +kernel
theorem dX5_seat_1 : decode cX5_seat 1 = .ok (.getfield 28, 3) := by decide +kernel
theorem dX5_seat_4 : decode cX5_seat 4 = .ok (.iload_n 1, 1) := by decide +kernel
theorem dX5_seat_5 : decode cX5_seat 5 = .ok (.iload_n 2, 1) := by decide +kernel
theorem dX5_seat_6 : decode cX5_seat 6 = .ok (.iastore, 1) := by decide +kernel
theorem dX5_seat_7 : decode cX5_seat 7 = .ok (.aload_n 0, 1) := by decide +kernel
theorem dX5_seat_8 : decode cX5_seat 8 = .ok (.getfield 31, 3) := by decide +kernel
theorem dX5_seat_11 : decode cX5_seat 11 = .ok (.iload_n 1, 1) := by decide +kernel
theorem dX5_seat_12 : decode cX5_seat 12 = .ok (.iload_n 3, 1) := by decide +kernel
theorem dX5_seat_13 : decode cX5_seat 13 = .ok (.iastore, 1) := by decide +kernel
theorem dX5_seat_14 : decode cX5_seat 14 = .ok (.aload_n 0, 1) := by decide +kernel
theorem dX5_seat_15 : decode cX5_seat 15 = .ok (.getfield 25, 3) := by decide +kernel
theorem dX5_seat_18 : decode cX5_seat 18 = .ok (.iload_n 2, 1) := by decide +kernel
theorem dX5_seat_19 : decode cX5_seat 19 = .ok (.bipush 9, 2) := by decide +kernel
theorem dX5_seat_21 : decode cX5_seat 21 = .ok (.imul, 1) := by decide +kernel
theorem dX5_seat_22 : decode cX5_seat 22 = .ok (.iload_n 3, 1) := by decide +kernel
theorem dX5_seat_23 : decode cX5_seat 23 = .ok (.iadd, 1) := by decide +kernel
theorem dX5_seat_24 : decode cX5_seat 24 = .ok (.iconst 1, 1) := by decide +kernel
theorem dX5_seat_25 : decode cX5_seat 25 = .ok (.isub, 1) := by decide +kernel
theorem dX5_seat_26 : decode cX5_seat 26 = .ok (.iload_n 1, 1) := by decide +kernel
theorem dX5_seat_27 : decode cX5_seat 27 = .ok (.iastore, 1) := by decide +kernel
theorem dX5_seat_28 : decode cX5_seat 28 = .ok (.return_, 1) := by decide +kernel
theorem dX5_stepsTo_0 : decode cX5_stepsTo 0 = .ok (.aload_n 2, 1) := by decide +kernel
theorem dX5_stepsTo_1 : decode cX5_stepsTo 1 = .ok (.getfield 45, 3) := by decide +kernel
theorem dX5_stepsTo_4 : decode cX5_stepsTo 4 = .ok (.iconst 0, 1) := by decide +kernel
theorem dX5_stepsTo_5 : decode cX5_stepsTo 5 = .ok (.iaload, 1) := by decide +kernel
theorem dX5_stepsTo_6 : decode cX5_stepsTo 6 = .ok (.istore_n 3, 1) := by decide +kernel
theorem dX5_stepsTo_7 : decode cX5_stepsTo 7 = .ok (.aload_n 2, 1) := by decide +kernel
theorem dX5_stepsTo_8 : decode cX5_stepsTo 8 = .ok (.getfield 45, 3) := by decide +kernel
theorem dX5_stepsTo_11 : decode cX5_stepsTo 11 = .ok (.iconst 1, 1) := by decide +kernel
theorem dX5_stepsTo_12 : decode cX5_stepsTo 12 = .ok (.iaload, 1) := by decide +kernel
theorem dX5_stepsTo_13 : decode cX5_stepsTo 13 = .ok (.istore 4, 2) := by decide +kernel
theorem dX5_stepsTo_15 : decode cX5_stepsTo 15 = .ok (.iload_n 3, 1) := by decide +kernel
theorem dX5_stepsTo_16 : decode cX5_stepsTo 16 = .ok (.aload_n 0, 1) := by decide +kernel
theorem dX5_stepsTo_17 : decode cX5_stepsTo 17 = .ok (.getfield 31, 3) := by decide +kernel
theorem dX5_stepsTo_20 : decode cX5_stepsTo 20 = .ok (.iload_n 1, 1) := by decide +kernel
theorem dX5_stepsTo_21 : decode cX5_stepsTo 21 = .ok (.iaload, 1) := by decide +kernel
theorem dX5_stepsTo_22 : decode cX5_stepsTo 22 = .ok (.imul, 1) := by decide +kernel
theorem dX5_stepsTo_23 : decode cX5_stepsTo 23 = .ok (.istore 5, 2) := by decide +kernel
theorem dX5_stepsTo_25 : decode cX5_stepsTo 25 = .ok (.aload_n 0, 1) := by decide +kernel
theorem dX5_stepsTo_26 : decode cX5_stepsTo 26 = .ok (.getfield 28, 3) := by decide +kernel
theorem dX5_stepsTo_29 : decode cX5_stepsTo 29 = .ok (.iload_n 1, 1) := by decide +kernel
theorem dX5_stepsTo_30 : decode cX5_stepsTo 30 = .ok (.iaload, 1) := by decide +kernel
theorem dX5_stepsTo_31 : decode cX5_stepsTo 31 = .ok (.istore 6, 2) := by decide +kernel
theorem dX5_stepsTo_33 : decode cX5_stepsTo 33 = .ok (.iconst 0, 1) := by decide +kernel
theorem dX5_stepsTo_34 : decode cX5_stepsTo 34 = .ok (.istore 7, 2) := by decide +kernel
theorem dX5_stepsTo_36 : decode cX5_stepsTo 36 = .ok (.iload 7, 2) := by decide +kernel
theorem dX5_stepsTo_38 : decode cX5_stepsTo 38 = .ok (.bipush 80, 2) := by decide +kernel
theorem dX5_stepsTo_40 : decode cX5_stepsTo 40 = .ok (.if_icmp .ge 40, 3) := by decide +kernel
theorem dX5_stepsTo_43 : decode cX5_stepsTo 43 = .ok (.iload 6, 2) := by decide +kernel
theorem dX5_stepsTo_45 : decode cX5_stepsTo 45 = .ok (.ifCond .le 35, 3) := by decide +kernel
theorem dX5_stepsTo_48 : decode cX5_stepsTo 48 = .ok (.iload 5, 2) := by decide +kernel
theorem dX5_stepsTo_50 : decode cX5_stepsTo 50 = .ok (.iload_n 3, 1) := by decide +kernel
theorem dX5_stepsTo_51 : decode cX5_stepsTo 51 = .ok (.aload_n 0, 1) := by decide +kernel
theorem dX5_stepsTo_52 : decode cX5_stepsTo 52 = .ok (.getfield 22, 3) := by decide +kernel
theorem dX5_stepsTo_55 : decode cX5_stepsTo 55 = .ok (.iload 6, 2) := by decide +kernel
theorem dX5_stepsTo_57 : decode cX5_stepsTo 57 = .ok (.iaload, 1) := by decide +kernel
theorem dX5_stepsTo_58 : decode cX5_stepsTo 58 = .ok (.imul, 1) := by decide +kernel
theorem dX5_stepsTo_59 : decode cX5_stepsTo 59 = .ok (.iload 4, 2) := by decide +kernel
theorem dX5_stepsTo_61 : decode cX5_stepsTo 61 = .ok (.iadd, 1) := by decide +kernel
theorem dX5_stepsTo_62 : decode cX5_stepsTo 62 = .ok (.iadd, 1) := by decide +kernel
theorem dX5_stepsTo_63 : decode cX5_stepsTo 63 = .ok (.istore 5, 2) := by decide +kernel
theorem dX5_stepsTo_65 : decode cX5_stepsTo 65 = .ok (.aload_n 0, 1) := by decide +kernel
theorem dX5_stepsTo_66 : decode cX5_stepsTo 66 = .ok (.getfield 19, 3) := by decide +kernel
theorem dX5_stepsTo_69 : decode cX5_stepsTo 69 = .ok (.iload 6, 2) := by decide +kernel
theorem dX5_stepsTo_71 : decode cX5_stepsTo 71 = .ok (.iaload, 1) := by decide +kernel
theorem dX5_stepsTo_72 : decode cX5_stepsTo 72 = .ok (.istore 6, 2) := by decide +kernel
theorem dX5_stepsTo_74 : decode cX5_stepsTo 74 = .ok (.iinc 7 1, 3) := by decide +kernel
theorem dX5_stepsTo_77 : decode cX5_stepsTo 77 = .ok (.goto (-41), 3) := by decide +kernel
theorem dX5_stepsTo_80 : decode cX5_stepsTo 80 = .ok (.iload 5, 2) := by decide +kernel
theorem dX5_stepsTo_82 : decode cX5_stepsTo 82 = .ok (.ireturn, 1) := by decide +kernel
set_option maxRecDepth 20000 in
theorem ggX5_totalCost_X5_stepsTo : GoodIn wsX5_totalCost wsX5_stepsTo := goodIn_r _ [7, 8, 9, 10, 11, 12, 13, 14, 15, 16, 17, 18, 19, 20, 21, 22, 23, 24] (by decide +kernel) (by decide +kernel)
set_option maxRecDepth 20000 in
theorem gX5_totalCost_X5_stepsTo : GoodIn wsX5_totalCost (wsV RX5 56 RX5 yX5_stepsTo wsX5_stepsTo) := goodIn_app (goodIn_of _ (by decide +kernel)) ggX5_totalCost_X5_stepsTo
theorem dX5_totalCost_0 : decode cX5_totalCost 0 = .ok (.lconst 0, 1) := by decide +kernel
theorem dX5_totalCost_1 : decode cX5_totalCost 1 = .ok (.lstore_n 2, 1) := by decide +kernel
theorem dX5_totalCost_2 : decode cX5_totalCost 2 = .ok (.iconst 0, 1) := by decide +kernel
theorem dX5_totalCost_3 : decode cX5_totalCost 3 = .ok (.istore 4, 2) := by decide +kernel
theorem dX5_totalCost_5 : decode cX5_totalCost 5 = .ok (.iload 4, 2) := by decide +kernel
theorem dX5_totalCost_7 : decode cX5_totalCost 7 = .ok (.aload_n 1, 1) := by decide +kernel
theorem dX5_totalCost_8 : decode cX5_totalCost 8 = .ok (.getfield 50, 3) := by decide +kernel
theorem dX5_totalCost_11 : decode cX5_totalCost 11 = .ok (.if_icmp .ge 29, 3) := by decide +kernel
theorem dX5_totalCost_14 : decode cX5_totalCost 14 = .ok (.lload_n 2, 1) := by decide +kernel
theorem dX5_totalCost_15 : decode cX5_totalCost 15 = .ok (.aload_n 1, 1) := by decide +kernel
theorem dX5_totalCost_16 : decode cX5_totalCost 16 = .ok (.getfield 53, 3) := by decide +kernel
theorem dX5_totalCost_19 : decode cX5_totalCost 19 = .ok (.iload 4, 2) := by decide +kernel
theorem dX5_totalCost_21 : decode cX5_totalCost 21 = .ok (.iaload, 1) := by decide +kernel
theorem dX5_totalCost_22 : decode cX5_totalCost 22 = .ok (.i2l, 1) := by decide +kernel
theorem dX5_totalCost_23 : decode cX5_totalCost 23 = .ok (.aload_n 0, 1) := by decide +kernel
theorem dX5_totalCost_24 : decode cX5_totalCost 24 = .ok (.iload 4, 2) := by decide +kernel
theorem dX5_totalCost_26 : decode cX5_totalCost 26 = .ok (.aload_n 1, 1) := by decide +kernel
theorem dX5_totalCost_27 : decode cX5_totalCost 27 = .ok (.invokevirtual 56, 3) := by decide +kernel
theorem dX5_totalCost_30 : decode cX5_totalCost 30 = .ok (.i2l, 1) := by decide +kernel
theorem dX5_totalCost_31 : decode cX5_totalCost 31 = .ok (.lmul, 1) := by decide +kernel
theorem dX5_totalCost_32 : decode cX5_totalCost 32 = .ok (.ladd, 1) := by decide +kernel
theorem dX5_totalCost_33 : decode cX5_totalCost 33 = .ok (.lstore_n 2, 1) := by decide +kernel
theorem dX5_totalCost_34 : decode cX5_totalCost 34 = .ok (.iinc 4 1, 3) := by decide +kernel
theorem dX5_totalCost_37 : decode cX5_totalCost 37 = .ok (.goto (-32), 3) := by decide +kernel
theorem dX5_totalCost_40 : decode cX5_totalCost 40 = .ok (.lload_n 2, 1) := by decide +kernel
theorem dX5_totalCost_41 : decode cX5_totalCost 41 = .ok (.lreturn, 1) := by decide +kernel
theorem dX5_wayLength_0 : decode cX5_wayLength 0 = .ok (.iconst 1, 1) := by decide +kernel
theorem dX5_wayLength_1 : decode cX5_wayLength 1 = .ok (.istore_n 2, 1) := by decide +kernel
theorem dX5_wayLength_2 : decode cX5_wayLength 2 = .ok (.aload_n 0, 1) := by decide +kernel
theorem dX5_wayLength_3 : decode cX5_wayLength 3 = .ok (.getfield 28, 3) := by decide +kernel
theorem dX5_wayLength_6 : decode cX5_wayLength 6 = .ok (.iload_n 1, 1) := by decide +kernel
theorem dX5_wayLength_7 : decode cX5_wayLength 7 = .ok (.iaload, 1) := by decide +kernel
theorem dX5_wayLength_8 : decode cX5_wayLength 8 = .ok (.istore_n 3, 1) := by decide +kernel
theorem dX5_wayLength_9 : decode cX5_wayLength 9 = .ok (.iconst 0, 1) := by decide +kernel
theorem dX5_wayLength_10 : decode cX5_wayLength 10 = .ok (.istore 4, 2) := by decide +kernel
theorem dX5_wayLength_12 : decode cX5_wayLength 12 = .ok (.iload 4, 2) := by decide +kernel
theorem dX5_wayLength_14 : decode cX5_wayLength 14 = .ok (.bipush 80, 2) := by decide +kernel
theorem dX5_wayLength_16 : decode cX5_wayLength 16 = .ok (.if_icmp .ge 23, 3) := by decide +kernel
theorem dX5_wayLength_19 : decode cX5_wayLength 19 = .ok (.iload_n 3, 1) := by decide +kernel
theorem dX5_wayLength_20 : decode cX5_wayLength 20 = .ok (.ifCond .le 19, 3) := by decide +kernel
theorem dX5_wayLength_23 : decode cX5_wayLength 23 = .ok (.iinc 2 1, 3) := by decide +kernel
theorem dX5_wayLength_26 : decode cX5_wayLength 26 = .ok (.aload_n 0, 1) := by decide +kernel
theorem dX5_wayLength_27 : decode cX5_wayLength 27 = .ok (.getfield 19, 3) := by decide +kernel
theorem dX5_wayLength_30 : decode cX5_wayLength 30 = .ok (.iload_n 3, 1) := by decide +kernel
theorem dX5_wayLength_31 : decode cX5_wayLength 31 = .ok (.iaload, 1) := by decide +kernel
theorem dX5_wayLength_32 : decode cX5_wayLength 32 = .ok (.istore_n 3, 1) := by decide +kernel
theorem dX5_wayLength_33 : decode cX5_wayLength 33 = .ok (.iinc 4 1, 3) := by decide +kernel
theorem dX5_wayLength_36 : decode cX5_wayLength 36 = .ok (.goto (-24), 3) := by decide +kernel
theorem dX5_wayLength_39 : decode cX5_wayLength 39 = .ok (.iload_n 2, 1) := by decide +kernel
theorem dX5_wayLength_40 : decode cX5_wayLength 40 = .ok (.ireturn, 1) := by decide +kernel
set_option maxRecDepth 20000 in
theorem ggX5_placeOnWay_X5_wayLength : GoodIn wsX5_placeOnWay wsX5_wayLength := goodIn_r _ [9, 2, 4, 10, 11, 12, 13, 14, 15, 16, 17] (by decide +kernel) (by decide +kernel)
set_option maxRecDepth 20000 in
theorem gX5_placeOnWay_X5_wayLength : GoodIn wsX5_placeOnWay (wsV RX5 60 RX5 yX5_wayLength wsX5_wayLength) := goodIn_app (goodIn_of _ (by decide +kernel)) ggX5_placeOnWay_X5_wayLength
theorem dX5_placeOnWay_0 : decode cX5_placeOnWay 0 = .ok (.aload_n 0, 1) := by decide +kernel
theorem dX5_placeOnWay_1 : decode cX5_placeOnWay 1 = .ok (.getfield 31, 3) := by decide +kernel
theorem dX5_placeOnWay_4 : decode cX5_placeOnWay 4 = .ok (.iload_n 1, 1) := by decide +kernel
theorem dX5_placeOnWay_5 : decode cX5_placeOnWay 5 = .ok (.iaload, 1) := by decide +kernel
theorem dX5_placeOnWay_6 : decode cX5_placeOnWay 6 = .ok (.istore_n 3, 1) := by decide +kernel
theorem dX5_placeOnWay_7 : decode cX5_placeOnWay 7 = .ok (.aload_n 0, 1) := by decide +kernel
theorem dX5_placeOnWay_8 : decode cX5_placeOnWay 8 = .ok (.getfield 28, 3) := by decide +kernel
theorem dX5_placeOnWay_11 : decode cX5_placeOnWay 11 = .ok (.iload_n 1, 1) := by decide +kernel
theorem dX5_placeOnWay_12 : decode cX5_placeOnWay 12 = .ok (.iaload, 1) := by decide +kernel
theorem dX5_placeOnWay_13 : decode cX5_placeOnWay 13 = .ok (.istore 4, 2) := by decide +kernel
theorem dX5_placeOnWay_15 : decode cX5_placeOnWay 15 = .ok (.aload_n 0, 1) := by decide +kernel
theorem dX5_placeOnWay_16 : decode cX5_placeOnWay 16 = .ok (.iload_n 1, 1) := by decide +kernel
theorem dX5_placeOnWay_17 : decode cX5_placeOnWay 17 = .ok (.invokevirtual 60, 3) := by decide +kernel
theorem dX5_placeOnWay_20 : decode cX5_placeOnWay 20 = .ok (.iconst 1, 1) := by decide +kernel
theorem dX5_placeOnWay_21 : decode cX5_placeOnWay 21 = .ok (.isub, 1) := by decide +kernel
theorem dX5_placeOnWay_22 : decode cX5_placeOnWay 22 = .ok (.istore 5, 2) := by decide +kernel
theorem dX5_placeOnWay_24 : decode cX5_placeOnWay 24 = .ok (.iload 5, 2) := by decide +kernel
theorem dX5_placeOnWay_26 : decode cX5_placeOnWay 26 = .ok (.iload_n 2, 1) := by decide +kernel
theorem dX5_placeOnWay_27 : decode cX5_placeOnWay 27 = .ok (.if_icmp .le 31, 3) := by decide +kernel
theorem dX5_placeOnWay_30 : decode cX5_placeOnWay 30 = .ok (.iload 4, 2) := by decide +kernel
theorem dX5_placeOnWay_32 : decode cX5_placeOnWay 32 = .ok (.ifCond .le 26, 3) := by decide +kernel
theorem dX5_placeOnWay_35 : decode cX5_placeOnWay 35 = .ok (.aload_n 0, 1) := by decide +kernel
theorem dX5_placeOnWay_36 : decode cX5_placeOnWay 36 = .ok (.getfield 22, 3) := by decide +kernel
theorem dX5_placeOnWay_39 : decode cX5_placeOnWay 39 = .ok (.iload 4, 2) := by decide +kernel
theorem dX5_placeOnWay_41 : decode cX5_placeOnWay 41 = .ok (.iaload, 1) := by decide +kernel
theorem dX5_placeOnWay_42 : decode cX5_placeOnWay 42 = .ok (.istore_n 3, 1) := by decide +kernel
theorem dX5_placeOnWay_43 : decode cX5_placeOnWay 43 = .ok (.aload_n 0, 1) := by decide +kernel
theorem dX5_placeOnWay_44 : decode cX5_placeOnWay 44 = .ok (.getfield 19, 3) := by decide +kernel
theorem dX5_placeOnWay_47 : decode cX5_placeOnWay 47 = .ok (.iload 4, 2) := by decide +kernel
theorem dX5_placeOnWay_49 : decode cX5_placeOnWay 49 = .ok (.iaload, 1) := by decide +kernel
theorem dX5_placeOnWay_50 : decode cX5_placeOnWay 50 = .ok (.istore 4, 2) := by decide +kernel
theorem dX5_placeOnWay_52 : decode cX5_placeOnWay 52 = .ok (.iinc 5 (-1), 3) := by decide +kernel
theorem dX5_placeOnWay_55 : decode cX5_placeOnWay 55 = .ok (.goto (-31), 3) := by decide +kernel
theorem dX5_placeOnWay_58 : decode cX5_placeOnWay 58 = .ok (.iload_n 3, 1) := by decide +kernel
theorem dX5_placeOnWay_59 : decode cX5_placeOnWay 59 = .ok (.ireturn, 1) := by decide +kernel
set_option maxRecDepth 20000 in
theorem ggX5_listOnWay_X5_wayLength : GoodIn wsX5_listOnWay wsX5_wayLength := goodIn_r _ [7, 1, 2, 8, 9, 10, 11, 12, 13, 14, 15] (by decide +kernel) (by decide +kernel)
set_option maxRecDepth 20000 in
theorem gX5_listOnWay_X5_wayLength : GoodIn wsX5_listOnWay (wsV RX5 60 RX5 yX5_wayLength wsX5_wayLength) := goodIn_app (goodIn_of _ (by decide +kernel)) ggX5_listOnWay_X5_wayLength
theorem dX5_listOnWay_0 : decode cX5_listOnWay 0 = .ok (.aload_n 0, 1) := by decide +kernel
theorem dX5_listOnWay_1 : decode cX5_listOnWay 1 = .ok (.getfield 28, 3) := by decide +kernel
theorem dX5_listOnWay_4 : decode cX5_listOnWay 4 = .ok (.iload_n 1, 1) := by decide +kernel
theorem dX5_listOnWay_5 : decode cX5_listOnWay 5 = .ok (.iaload, 1) := by decide +kernel
theorem dX5_listOnWay_6 : decode cX5_listOnWay 6 = .ok (.istore_n 3, 1) := by decide +kernel
theorem dX5_listOnWay_7 : decode cX5_listOnWay 7 = .ok (.aload_n 0, 1) := by decide +kernel
theorem dX5_listOnWay_8 : decode cX5_listOnWay 8 = .ok (.iload_n 1, 1) := by decide +kernel
theorem dX5_listOnWay_9 : decode cX5_listOnWay 9 = .ok (.invokevirtual 60, 3) := by decide +kernel
theorem dX5_listOnWay_12 : decode cX5_listOnWay 12 = .ok (.iconst 1, 1) := by decide +kernel
theorem dX5_listOnWay_13 : decode cX5_listOnWay 13 = .ok (.isub, 1) := by decide +kernel
theorem dX5_listOnWay_14 : decode cX5_listOnWay 14 = .ok (.istore 4, 2) := by decide +kernel
theorem dX5_listOnWay_16 : decode cX5_listOnWay 16 = .ok (.iload 4, 2) := by decide +kernel
theorem dX5_listOnWay_18 : decode cX5_listOnWay 18 = .ok (.iload_n 2, 1) := by decide +kernel
theorem dX5_listOnWay_19 : decode cX5_listOnWay 19 = .ok (.if_icmp .le 20, 3) := by decide +kernel
theorem dX5_listOnWay_22 : decode cX5_listOnWay 22 = .ok (.iload_n 3, 1) := by decide +kernel
theorem dX5_listOnWay_23 : decode cX5_listOnWay 23 = .ok (.ifCond .le 16, 3) := by decide +kernel
theorem dX5_listOnWay_26 : decode cX5_listOnWay 26 = .ok (.aload_n 0, 1) := by decide +kernel
theorem dX5_listOnWay_27 : decode cX5_listOnWay 27 = .ok (.getfield 19, 3) := by decide +kernel
theorem dX5_listOnWay_30 : decode cX5_listOnWay 30 = .ok (.iload_n 3, 1) := by decide +kernel
theorem dX5_listOnWay_31 : decode cX5_listOnWay 31 = .ok (.iaload, 1) := by decide +kernel
theorem dX5_listOnWay_32 : decode cX5_listOnWay 32 = .ok (.istore_n 3, 1) := by decide +kernel
theorem dX5_listOnWay_33 : decode cX5_listOnWay 33 = .ok (.iinc 4 (-1), 3) := by decide +kernel
theorem dX5_listOnWay_36 : decode cX5_listOnWay 36 = .ok (.goto (-20), 3) := by decide +kernel
theorem dX5_listOnWay_39 : decode cX5_listOnWay 39 = .ok (.iload_n 3, 1) := by decide +kernel
theorem dX5_listOnWay_40 : decode cX5_listOnWay 40 = .ok (.ireturn, 1) := by decide +kernel
set_option maxRecDepth 20000 in
theorem ggX5_misleadsAt_X5_listOnWay : GoodIn wsX5_misleadsAt wsX5_listOnWay := goodIn_r _ [6, 7, 8, 9, 10, 11, 5, 12, 54, 55, 56, 57, 58, 59, 60, 61] (by decide +kernel) (by decide +kernel)
set_option maxRecDepth 20000 in
theorem gX5_misleadsAt_X5_listOnWay : GoodIn wsX5_misleadsAt (wsV RX5 64 RX5 yX5_listOnWay wsX5_listOnWay) := goodIn_app (goodIn_of _ (by decide +kernel)) ggX5_misleadsAt_X5_listOnWay
set_option maxRecDepth 20000 in
theorem ggX5_misleadsAt_X5_placeOnWay : GoodIn wsX5_misleadsAt wsX5_placeOnWay := goodIn_r _ [16, 17, 7, 18, 8, 9, 10, 11, 5, 12, 54, 55, 56, 57, 58, 59, 60, 61] (by decide +kernel) (by decide +kernel)
set_option maxRecDepth 20000 in
theorem gX5_misleadsAt_X5_placeOnWay : GoodIn wsX5_misleadsAt (wsV RX5 68 RX5 yX5_placeOnWay wsX5_placeOnWay) := goodIn_app (goodIn_of _ (by decide +kernel)) ggX5_misleadsAt_X5_placeOnWay
set_option maxRecDepth 20000 in
theorem ggX5_misleadsAt_X5_itemAt : GoodIn wsX5_misleadsAt wsX5_itemAt := goodIn_r _ [22, 23, 54, 55, 56, 57, 58, 59, 60, 61] (by decide +kernel) (by decide +kernel)
set_option maxRecDepth 20000 in
theorem gX5_misleadsAt_X5_itemAt : GoodIn wsX5_misleadsAt (wsV RX5 71 RX5 yX5_itemAt wsX5_itemAt) := goodIn_app (goodIn_of _ (by decide +kernel)) ggX5_misleadsAt_X5_itemAt
set_option maxRecDepth 20000 in
theorem ggX5_misleadsAt_X5_sharedWords : GoodIn wsX5_misleadsAt wsX5_sharedWords := goodIn_r _ [27, 28, 29, 30, 31, 5, 32, 33, 34, 35, 36, 37, 38, 39, 40, 41, 42, 7, 8, 43, 44, 45, 46, 47, 48, 49, 50, 51, 52, 53, 62, 63, 64, 65, 54, 55, 56, 57, 58, 59, 60, 61] (by decide +kernel) (by decide +kernel)
set_option maxRecDepth 20000 in
theorem gX5_misleadsAt_X5_sharedWords : GoodIn wsX5_misleadsAt (wsV RX5 74 RX5 yX5_sharedWords wsX5_sharedWords) := goodIn_app (goodIn_of _ (by decide +kernel)) ggX5_misleadsAt_X5_sharedWords
theorem dX5_misleadsAt_0 : decode cX5_misleadsAt 0 = .ok (.aload_n 0, 1) := by decide +kernel
theorem dX5_misleadsAt_1 : decode cX5_misleadsAt 1 = .ok (.iload_n 1, 1) := by decide +kernel
theorem dX5_misleadsAt_2 : decode cX5_misleadsAt 2 = .ok (.iload_n 2, 1) := by decide +kernel
theorem dX5_misleadsAt_3 : decode cX5_misleadsAt 3 = .ok (.invokevirtual 64, 3) := by decide +kernel
theorem dX5_misleadsAt_6 : decode cX5_misleadsAt 6 = .ok (.istore 4, 2) := by decide +kernel
theorem dX5_misleadsAt_8 : decode cX5_misleadsAt 8 = .ok (.aload_n 0, 1) := by decide +kernel
theorem dX5_misleadsAt_9 : decode cX5_misleadsAt 9 = .ok (.iload_n 1, 1) := by decide +kernel
theorem dX5_misleadsAt_10 : decode cX5_misleadsAt 10 = .ok (.iload_n 2, 1) := by decide +kernel
theorem dX5_misleadsAt_11 : decode cX5_misleadsAt 11 = .ok (.invokevirtual 68, 3) := by decide +kernel
theorem dX5_misleadsAt_14 : decode cX5_misleadsAt 14 = .ok (.istore 5, 2) := by decide +kernel
theorem dX5_misleadsAt_16 : decode cX5_misleadsAt 16 = .ok (.aload_n 0, 1) := by decide +kernel
theorem dX5_misleadsAt_17 : decode cX5_misleadsAt 17 = .ok (.iload_n 1, 1) := by decide +kernel
theorem dX5_misleadsAt_18 : decode cX5_misleadsAt 18 = .ok (.aload_n 0, 1) := by decide +kernel
theorem dX5_misleadsAt_19 : decode cX5_misleadsAt 19 = .ok (.iload 4, 2) := by decide +kernel
theorem dX5_misleadsAt_21 : decode cX5_misleadsAt 21 = .ok (.iload 5, 2) := by decide +kernel
theorem dX5_misleadsAt_23 : decode cX5_misleadsAt 23 = .ok (.invokevirtual 71, 3) := by decide +kernel
theorem dX5_misleadsAt_26 : decode cX5_misleadsAt 26 = .ok (.aload_n 3, 1) := by decide +kernel
theorem dX5_misleadsAt_27 : decode cX5_misleadsAt 27 = .ok (.invokevirtual 74, 3) := by decide +kernel
theorem dX5_misleadsAt_30 : decode cX5_misleadsAt 30 = .ok (.istore 6, 2) := by decide +kernel
theorem dX5_misleadsAt_32 : decode cX5_misleadsAt 32 = .ok (.iconst 1, 1) := by decide +kernel
theorem dX5_misleadsAt_33 : decode cX5_misleadsAt 33 = .ok (.istore 7, 2) := by decide +kernel
theorem dX5_misleadsAt_35 : decode cX5_misleadsAt 35 = .ok (.iload 7, 2) := by decide +kernel
theorem dX5_misleadsAt_37 : decode cX5_misleadsAt 37 = .ok (.aload_n 0, 1) := by decide +kernel
theorem dX5_misleadsAt_38 : decode cX5_misleadsAt 38 = .ok (.getfield 15, 3) := by decide +kernel
theorem dX5_misleadsAt_41 : decode cX5_misleadsAt 41 = .ok (.iload 4, 2) := by decide +kernel
theorem dX5_misleadsAt_43 : decode cX5_misleadsAt 43 = .ok (.iaload, 1) := by decide +kernel
theorem dX5_misleadsAt_44 : decode cX5_misleadsAt 44 = .ok (.if_icmp .gt 37, 3) := by decide +kernel
theorem dX5_misleadsAt_47 : decode cX5_misleadsAt 47 = .ok (.iload 7, 2) := by decide +kernel
theorem dX5_misleadsAt_49 : decode cX5_misleadsAt 49 = .ok (.iload 5, 2) := by decide +kernel
theorem dX5_misleadsAt_51 : decode cX5_misleadsAt 51 = .ok (.if_icmp .eq 24, 3) := by decide +kernel
theorem dX5_misleadsAt_54 : decode cX5_misleadsAt 54 = .ok (.aload_n 0, 1) := by decide +kernel
theorem dX5_misleadsAt_55 : decode cX5_misleadsAt 55 = .ok (.iload_n 1, 1) := by decide +kernel
theorem dX5_misleadsAt_56 : decode cX5_misleadsAt 56 = .ok (.aload_n 0, 1) := by decide +kernel
theorem dX5_misleadsAt_57 : decode cX5_misleadsAt 57 = .ok (.iload 4, 2) := by decide +kernel
theorem dX5_misleadsAt_59 : decode cX5_misleadsAt 59 = .ok (.iload 7, 2) := by decide +kernel
theorem dX5_misleadsAt_61 : decode cX5_misleadsAt 61 = .ok (.invokevirtual 71, 3) := by decide +kernel
theorem dX5_misleadsAt_64 : decode cX5_misleadsAt 64 = .ok (.aload_n 3, 1) := by decide +kernel
theorem dX5_misleadsAt_65 : decode cX5_misleadsAt 65 = .ok (.invokevirtual 74, 3) := by decide +kernel
theorem dX5_misleadsAt_68 : decode cX5_misleadsAt 68 = .ok (.iload 6, 2) := by decide +kernel
theorem dX5_misleadsAt_70 : decode cX5_misleadsAt 70 = .ok (.if_icmp .lt 5, 3) := by decide +kernel
theorem dX5_misleadsAt_73 : decode cX5_misleadsAt 73 = .ok (.iconst 1, 1) := by decide +kernel
theorem dX5_misleadsAt_74 : decode cX5_misleadsAt 74 = .ok (.ireturn, 1) := by decide +kernel
theorem dX5_misleadsAt_75 : decode cX5_misleadsAt 75 = .ok (.iinc 7 1, 3) := by decide +kernel
theorem dX5_misleadsAt_78 : decode cX5_misleadsAt 78 = .ok (.goto (-43), 3) := by decide +kernel
theorem dX5_misleadsAt_81 : decode cX5_misleadsAt 81 = .ok (.iconst 0, 1) := by decide +kernel
theorem dX5_misleadsAt_82 : decode cX5_misleadsAt 82 = .ok (.ireturn, 1) := by decide +kernel
set_option maxRecDepth 20000 in
theorem ggX5_sharedWords_X5_menuHeading : GoodIn wsX5_sharedWords wsX5_menuHeading := goodIn_r _ [6, 7, 8, 1, 9, 10, 11, 12, 13, 14, 15, 5, 16, 17, 18, 19, 20, 21, 22, 34, 35, 36, 37, 38, 39, 40, 41, 30, 31, 32, 33] (by decide +kernel) (by decide +kernel)
set_option maxRecDepth 20000 in
theorem gX5_sharedWords_X5_menuHeading : GoodIn wsX5_sharedWords (wsV RX5 81 RX5 yX5_menuHeading wsX5_menuHeading) := goodIn_app (goodIn_of _ (by decide +kernel)) ggX5_sharedWords_X5_menuHeading
set_option maxRecDepth 20000 in
theorem ggX5_sharedWords_J6_bitCount_0f7a4 : GoodIn wsX5_sharedWords wsJ6_bitCount_0f7a4 := goodIn_r _ [26, 27, 28, 29] (by decide +kernel) (by decide +kernel)
set_option maxRecDepth 20000 in
theorem gX5_sharedWords_J6_bitCount_0f7a4 : GoodIn wsX5_sharedWords (va_wsS RX5 84 yJ6_bitCount_0f7a4 wsJ6_bitCount_0f7a4) := goodIn_app (goodIn_of _ (by decide +kernel)) ggX5_sharedWords_J6_bitCount_0f7a4
theorem dX5_sharedWords_0 : decode cX5_sharedWords 0 = .ok (.iload_n 2, 1) := by decide +kernel
theorem dX5_sharedWords_1 : decode cX5_sharedWords 1 = .ok (.ifCond .lt 12, 3) := by decide +kernel
theorem dX5_sharedWords_4 : decode cX5_sharedWords 4 = .ok (.aload_n 3, 1) := by decide +kernel
theorem dX5_sharedWords_5 : decode cX5_sharedWords 5 = .ok (.getfield 78, 3) := by decide +kernel
theorem dX5_sharedWords_8 : decode cX5_sharedWords 8 = .ok (.iload_n 2, 1) := by decide +kernel
theorem dX5_sharedWords_9 : decode cX5_sharedWords 9 = .ok (.iaload, 1) := by decide +kernel
theorem dX5_sharedWords_10 : decode cX5_sharedWords 10 = .ok (.goto 11, 3) := by decide +kernel
theorem dX5_sharedWords_13 : decode cX5_sharedWords 13 = .ok (.aload_n 0, 1) := by decide +kernel
theorem dX5_sharedWords_14 : decode cX5_sharedWords 14 = .ok (.iload_n 2, 1) := by decide +kernel
theorem dX5_sharedWords_15 : decode cX5_sharedWords 15 = .ok (.iconst (-1), 1) := by decide +kernel
theorem dX5_sharedWords_16 : decode cX5_sharedWords 16 = .ok (.ixor, 1) := by decide +kernel
theorem dX5_sharedWords_17 : decode cX5_sharedWords 17 = .ok (.aload_n 3, 1) := by decide +kernel
theorem dX5_sharedWords_18 : decode cX5_sharedWords 18 = .ok (.invokevirtual 81, 3) := by decide +kernel
theorem dX5_sharedWords_21 : decode cX5_sharedWords 21 = .ok (.istore 4, 2) := by decide +kernel
theorem dX5_sharedWords_23 : decode cX5_sharedWords 23 = .ok (.aload_n 3, 1) := by decide +kernel
theorem dX5_sharedWords_24 : decode cX5_sharedWords 24 = .ok (.getfield 78, 3) := by decide +kernel
theorem dX5_sharedWords_27 : decode cX5_sharedWords 27 = .ok (.iload_n 1, 1) := by decide +kernel
theorem dX5_sharedWords_28 : decode cX5_sharedWords 28 = .ok (.iaload, 1) := by decide +kernel
theorem dX5_sharedWords_29 : decode cX5_sharedWords 29 = .ok (.iload 4, 2) := by decide +kernel
theorem dX5_sharedWords_31 : decode cX5_sharedWords 31 = .ok (.iand, 1) := by decide +kernel
theorem dX5_sharedWords_32 : decode cX5_sharedWords 32 = .ok (.invokestatic 84, 3) := by decide +kernel
theorem dX5_sharedWords_35 : decode cX5_sharedWords 35 = .ok (.ireturn, 1) := by decide +kernel
set_option maxRecDepth 20000 in
theorem ggX5_menuHeading_J7_fill_53178 : GoodIn wsX5_menuHeading wsJ7_fill_53178 := goodIn_r _ [7] (by decide +kernel) (by decide +kernel)
set_option maxRecDepth 20000 in
theorem gX5_menuHeading_J7_fill_53178 : GoodIn wsX5_menuHeading (va_wsS RX5 89 yJ7_fill_53178 wsJ7_fill_53178) := goodIn_app (goodIn_of _ (by decide +kernel)) ggX5_menuHeading_J7_fill_53178
set_option maxRecDepth 20000 in
theorem ggX5_menuHeading_X5_isUnder : GoodIn wsX5_menuHeading wsX5_isUnder := goodIn_r _ [12, 13, 14, 19, 20, 21, 22, 23, 24, 25, 26] (by decide +kernel) (by decide +kernel)
set_option maxRecDepth 20000 in
theorem gX5_menuHeading_X5_isUnder : GoodIn wsX5_menuHeading (wsV RX5 95 RX5 yX5_isUnder wsX5_isUnder) := goodIn_app (goodIn_of _ (by decide +kernel)) ggX5_menuHeading_X5_isUnder
set_option maxRecDepth 20000 in
theorem ggX5_menuHeading_X5_tallyWords : GoodIn wsX5_menuHeading wsX5_tallyWords := goodIn_r _ [18, 1, 19, 20, 21, 22, 23, 24, 25, 26] (by decide +kernel) (by decide +kernel)
set_option maxRecDepth 20000 in
theorem gX5_menuHeading_X5_tallyWords : GoodIn wsX5_menuHeading (wsV RX5 98 RX5 yX5_tallyWords wsX5_tallyWords) := goodIn_app (goodIn_of _ (by decide +kernel)) ggX5_menuHeading_X5_tallyWords
theorem dX5_menuHeading_0 : decode cX5_menuHeading 0 = .ok (.aload_n 0, 1) := by decide +kernel
theorem dX5_menuHeading_1 : decode cX5_menuHeading 1 = .ok (.getfield 34, 3) := by decide +kernel
theorem dX5_menuHeading_4 : decode cX5_menuHeading 4 = .ok (.iconst 0, 1) := by decide +kernel
theorem dX5_menuHeading_5 : decode cX5_menuHeading 5 = .ok (.invokestatic 89, 3) := by decide +kernel
theorem dX5_menuHeading_8 : decode cX5_menuHeading 8 = .ok (.iconst 0, 1) := by decide +kernel
theorem dX5_menuHeading_9 : decode cX5_menuHeading 9 = .ok (.istore_n 3, 1) := by decide +kernel
theorem dX5_menuHeading_10 : decode cX5_menuHeading 10 = .ok (.iconst 0, 1) := by decide +kernel
theorem dX5_menuHeading_11 : decode cX5_menuHeading 11 = .ok (.istore 4, 2) := by decide +kernel
theorem dX5_menuHeading_13 : decode cX5_menuHeading 13 = .ok (.iload 4, 2) := by decide +kernel
theorem dX5_menuHeading_15 : decode cX5_menuHeading 15 = .ok (.aload_n 2, 1) := by decide +kernel
theorem dX5_menuHeading_16 : decode cX5_menuHeading 16 = .ok (.getfield 50, 3) := by decide +kernel
theorem dX5_menuHeading_19 : decode cX5_menuHeading 19 = .ok (.if_icmp .ge 33, 3) := by decide +kernel
theorem dX5_menuHeading_22 : decode cX5_menuHeading 22 = .ok (.aload_n 0, 1) := by decide +kernel
theorem dX5_menuHeading_23 : decode cX5_menuHeading 23 = .ok (.iload 4, 2) := by decide +kernel
theorem dX5_menuHeading_25 : decode cX5_menuHeading 25 = .ok (.iload_n 1, 1) := by decide +kernel
theorem dX5_menuHeading_26 : decode cX5_menuHeading 26 = .ok (.invokevirtual 95, 3) := by decide +kernel
theorem dX5_menuHeading_29 : decode cX5_menuHeading 29 = .ok (.ifCond .eq 17, 3) := by decide +kernel
theorem dX5_menuHeading_32 : decode cX5_menuHeading 32 = .ok (.iinc 3 1, 3) := by decide +kernel
theorem dX5_menuHeading_35 : decode cX5_menuHeading 35 = .ok (.aload_n 0, 1) := by decide +kernel
theorem dX5_menuHeading_36 : decode cX5_menuHeading 36 = .ok (.aload_n 2, 1) := by decide +kernel
theorem dX5_menuHeading_37 : decode cX5_menuHeading 37 = .ok (.getfield 78, 3) := by decide +kernel
theorem dX5_menuHeading_40 : decode cX5_menuHeading 40 = .ok (.iload 4, 2) := by decide +kernel
theorem dX5_menuHeading_42 : decode cX5_menuHeading 42 = .ok (.iaload, 1) := by decide +kernel
theorem dX5_menuHeading_43 : decode cX5_menuHeading 43 = .ok (.invokevirtual 98, 3) := by decide +kernel
theorem dX5_menuHeading_46 : decode cX5_menuHeading 46 = .ok (.iinc 4 1, 3) := by decide +kernel
theorem dX5_menuHeading_49 : decode cX5_menuHeading 49 = .ok (.goto (-36), 3) := by decide +kernel
theorem dX5_menuHeading_52 : decode cX5_menuHeading 52 = .ok (.iconst 0, 1) := by decide +kernel
theorem dX5_menuHeading_53 : decode cX5_menuHeading 53 = .ok (.istore 4, 2) := by decide +kernel
theorem dX5_menuHeading_55 : decode cX5_menuHeading 55 = .ok (.iconst 0, 1) := by decide +kernel
theorem dX5_menuHeading_56 : decode cX5_menuHeading 56 = .ok (.istore 5, 2) := by decide +kernel
theorem dX5_menuHeading_58 : decode cX5_menuHeading 58 = .ok (.iload 5, 2) := by decide +kernel
theorem dX5_menuHeading_60 : decode cX5_menuHeading 60 = .ok (.bipush 24, 2) := by decide +kernel
theorem dX5_menuHeading_62 : decode cX5_menuHeading 62 = .ok (.if_icmp .ge 31, 3) := by decide +kernel
theorem dX5_menuHeading_65 : decode cX5_menuHeading 65 = .ok (.iconst 2, 1) := by decide +kernel
theorem dX5_menuHeading_66 : decode cX5_menuHeading 66 = .ok (.aload_n 0, 1) := by decide +kernel
theorem dX5_menuHeading_67 : decode cX5_menuHeading 67 = .ok (.getfield 34, 3) := by decide +kernel
theorem dX5_menuHeading_70 : decode cX5_menuHeading 70 = .ok (.iload 5, 2) := by decide +kernel
theorem dX5_menuHeading_72 : decode cX5_menuHeading 72 = .ok (.iaload, 1) := by decide +kernel
theorem dX5_menuHeading_73 : decode cX5_menuHeading 73 = .ok (.imul, 1) := by decide +kernel
theorem dX5_menuHeading_74 : decode cX5_menuHeading 74 = .ok (.iload_n 3, 1) := by decide +kernel
theorem dX5_menuHeading_75 : decode cX5_menuHeading 75 = .ok (.if_icmp .lt 12, 3) := by decide +kernel
theorem dX5_menuHeading_78 : decode cX5_menuHeading 78 = .ok (.iload 4, 2) := by decide +kernel
theorem dX5_menuHeading_80 : decode cX5_menuHeading 80 = .ok (.iconst 1, 1) := by decide +kernel
theorem dX5_menuHeading_81 : decode cX5_menuHeading 81 = .ok (.iload 5, 2) := by decide +kernel
theorem dX5_menuHeading_83 : decode cX5_menuHeading 83 = .ok (.ishl, 1) := by decide +kernel
theorem dX5_menuHeading_84 : decode cX5_menuHeading 84 = .ok (.ior, 1) := by decide +kernel
theorem dX5_menuHeading_85 : decode cX5_menuHeading 85 = .ok (.istore 4, 2) := by decide +kernel
theorem dX5_menuHeading_87 : decode cX5_menuHeading 87 = .ok (.iinc 5 1, 3) := by decide +kernel
theorem dX5_menuHeading_90 : decode cX5_menuHeading 90 = .ok (.goto (-32), 3) := by decide +kernel
theorem dX5_menuHeading_93 : decode cX5_menuHeading 93 = .ok (.iload 4, 2) := by decide +kernel
theorem dX5_menuHeading_95 : decode cX5_menuHeading 95 = .ok (.ireturn, 1) := by decide +kernel
theorem dX5_tallyWords_0 : decode cX5_tallyWords 0 = .ok (.iconst 0, 1) := by decide +kernel
theorem dX5_tallyWords_1 : decode cX5_tallyWords 1 = .ok (.istore_n 2, 1) := by decide +kernel
theorem dX5_tallyWords_2 : decode cX5_tallyWords 2 = .ok (.iload_n 2, 1) := by decide +kernel
theorem dX5_tallyWords_3 : decode cX5_tallyWords 3 = .ok (.bipush 24, 2) := by decide +kernel
theorem dX5_tallyWords_5 : decode cX5_tallyWords 5 = .ok (.if_icmp .ge 23, 3) := by decide +kernel
theorem dX5_tallyWords_8 : decode cX5_tallyWords 8 = .ok (.aload_n 0, 1) := by decide +kernel
theorem dX5_tallyWords_9 : decode cX5_tallyWords 9 = .ok (.getfield 34, 3) := by decide +kernel
theorem dX5_tallyWords_12 : decode cX5_tallyWords 12 = .ok (.iload_n 2, 1) := by decide +kernel
theorem dX5_tallyWords_13 : decode cX5_tallyWords 13 = .ok (.dup2, 1) := by decide +kernel
theorem dX5_tallyWords_14 : decode cX5_tallyWords 14 = .ok (.iaload, 1) := by decide +kernel
theorem dX5_tallyWords_15 : decode cX5_tallyWords 15 = .ok (.iload_n 1, 1) := by decide +kernel
theorem dX5_tallyWords_16 : decode cX5_tallyWords 16 = .ok (.iload_n 2, 1) := by decide +kernel
theorem dX5_tallyWords_17 : decode cX5_tallyWords 17 = .ok (.iushr, 1) := by decide +kernel
theorem dX5_tallyWords_18 : decode cX5_tallyWords 18 = .ok (.iconst 1, 1) := by decide +kernel
theorem dX5_tallyWords_19 : decode cX5_tallyWords 19 = .ok (.iand, 1) := by decide +kernel
theorem dX5_tallyWords_20 : decode cX5_tallyWords 20 = .ok (.iadd, 1) := by decide +kernel
theorem dX5_tallyWords_21 : decode cX5_tallyWords 21 = .ok (.iastore, 1) := by decide +kernel
theorem dX5_tallyWords_22 : decode cX5_tallyWords 22 = .ok (.iinc 2 1, 3) := by decide +kernel
theorem dX5_tallyWords_25 : decode cX5_tallyWords 25 = .ok (.goto (-23), 3) := by decide +kernel
theorem dX5_tallyWords_28 : decode cX5_tallyWords 28 = .ok (.return_, 1) := by decide +kernel
theorem dX5_isUnder_0 : decode cX5_isUnder 0 = .ok (.aload_n 0, 1) := by decide +kernel
theorem dX5_isUnder_1 : decode cX5_isUnder 1 = .ok (.getfield 28, 3) := by decide +kernel
theorem dX5_isUnder_4 : decode cX5_isUnder 4 = .ok (.iload_n 1, 1) := by decide +kernel
theorem dX5_isUnder_5 : decode cX5_isUnder 5 = .ok (.iaload, 1) := by decide +kernel
theorem dX5_isUnder_6 : decode cX5_isUnder 6 = .ok (.istore_n 3, 1) := by decide +kernel
theorem dX5_isUnder_7 : decode cX5_isUnder 7 = .ok (.iconst 0, 1) := by decide +kernel
theorem dX5_isUnder_8 : decode cX5_isUnder 8 = .ok (.istore 4, 2) := by decide +kernel
theorem dX5_isUnder_10 : decode cX5_isUnder 10 = .ok (.iload 4, 2) := by decide +kernel
theorem dX5_isUnder_12 : decode cX5_isUnder 12 = .ok (.bipush 80, 2) := by decide +kernel
theorem dX5_isUnder_14 : decode cX5_isUnder 14 = .ok (.if_icmp .ge 25, 3) := by decide +kernel
theorem dX5_isUnder_17 : decode cX5_isUnder 17 = .ok (.iload_n 3, 1) := by decide +kernel
theorem dX5_isUnder_18 : decode cX5_isUnder 18 = .ok (.ifCond .le 21, 3) := by decide +kernel
theorem dX5_isUnder_21 : decode cX5_isUnder 21 = .ok (.iload_n 3, 1) := by decide +kernel
theorem dX5_isUnder_22 : decode cX5_isUnder 22 = .ok (.iload_n 2, 1) := by decide +kernel
theorem dX5_isUnder_23 : decode cX5_isUnder 23 = .ok (.if_icmp .eq 16, 3) := by decide +kernel
theorem dX5_isUnder_26 : decode cX5_isUnder 26 = .ok (.aload_n 0, 1) := by decide +kernel
theorem dX5_isUnder_27 : decode cX5_isUnder 27 = .ok (.getfield 19, 3) := by decide +kernel
theorem dX5_isUnder_30 : decode cX5_isUnder 30 = .ok (.iload_n 3, 1) := by decide +kernel
theorem dX5_isUnder_31 : decode cX5_isUnder 31 = .ok (.iaload, 1) := by decide +kernel
theorem dX5_isUnder_32 : decode cX5_isUnder 32 = .ok (.istore_n 3, 1) := by decide +kernel
theorem dX5_isUnder_33 : decode cX5_isUnder 33 = .ok (.iinc 4 1, 3) := by decide +kernel
theorem dX5_isUnder_36 : decode cX5_isUnder 36 = .ok (.goto (-26), 3) := by decide +kernel
theorem dX5_isUnder_39 : decode cX5_isUnder 39 = .ok (.iload_n 3, 1) := by decide +kernel
theorem dX5_isUnder_40 : decode cX5_isUnder 40 = .ok (.iload_n 2, 1) := by decide +kernel
theorem dX5_isUnder_41 : decode cX5_isUnder 41 = .ok (.if_icmp .ne 7, 3) := by decide +kernel
theorem dX5_isUnder_44 : decode cX5_isUnder 44 = .ok (.iconst 1, 1) := by decide +kernel
theorem dX5_isUnder_45 : decode cX5_isUnder 45 = .ok (.goto 4, 3) := by decide +kernel
theorem dX5_isUnder_48 : decode cX5_isUnder 48 = .ok (.iconst 0, 1) := by decide +kernel
theorem dX5_isUnder_49 : decode cX5_isUnder 49 = .ok (.ireturn, 1) := by decide +kernel
theorem dX6_init_0 : decode cX6_init 0 = .ok (.aload_n 0, 1) := by decide +kernel
theorem dX6_init_1 : decode cX6_init 1 = .ok (.invokespecial 3, 3) := by decide +kernel
theorem dX6_init_4 : decode cX6_init 4 = .ok (.aload_n 0, 1) := by decide +kernel
theorem dX6_init_5 : decode cX6_init 5 = .ok (.iconst 0, 1) := by decide +kernel
theorem dX6_init_6 : decode cX6_init 6 = .ok (.putfield 9, 3) := by decide +kernel
theorem dX6_init_9 : decode cX6_init 9 = .ok (.aload_n 0, 1) := by decide +kernel
theorem dX6_init_10 : decode cX6_init 10 = .ok (.bipush 40, 2) := by decide +kernel
theorem dX6_init_12 : decode cX6_init 12 = .ok (.newarray .int, 2) := by decide +kernel
theorem dX6_init_14 : decode cX6_init 14 = .ok (.putfield 15, 3) := by decide +kernel
theorem dX6_init_17 : decode cX6_init 17 = .ok (.aload_n 0, 1) := by decide +kernel
theorem dX6_init_18 : decode cX6_init 18 = .ok (.bipush 40, 2) := by decide +kernel
theorem dX6_init_20 : decode cX6_init 20 = .ok (.newarray .int, 2) := by decide +kernel
theorem dX6_init_22 : decode cX6_init 22 = .ok (.putfield 19, 3) := by decide +kernel
theorem dX6_init_25 : decode cX6_init 25 = .ok (.aload_n 0, 1) := by decide +kernel
theorem dX6_init_26 : decode cX6_init 26 = .ok (.iconst 4, 1) := by decide +kernel
theorem dX6_init_27 : decode cX6_init 27 = .ok (.newarray .int, 2) := by decide +kernel
theorem dX6_init_29 : decode cX6_init 29 = .ok (.dup, 1) := by decide +kernel
theorem dX6_init_30 : decode cX6_init 30 = .ok (.iconst 0, 1) := by decide +kernel
theorem dX6_init_31 : decode cX6_init 31 = .ok (.iconst 1, 1) := by decide +kernel
theorem dX6_init_32 : decode cX6_init 32 = .ok (.iastore, 1) := by decide +kernel
theorem dX6_init_33 : decode cX6_init 33 = .ok (.dup, 1) := by decide +kernel
theorem dX6_init_34 : decode cX6_init 34 = .ok (.iconst 1, 1) := by decide +kernel
theorem dX6_init_35 : decode cX6_init 35 = .ok (.iconst 1, 1) := by decide +kernel
theorem dX6_init_36 : decode cX6_init 36 = .ok (.iastore, 1) := by decide +kernel
theorem dX6_init_37 : decode cX6_init 37 = .ok (.dup, 1) := by decide +kernel
theorem dX6_init_38 : decode cX6_init 38 = .ok (.iconst 2, 1) := by decide +kernel
theorem dX6_init_39 : decode cX6_init 39 = .ok (.iconst 4, 1) := by decide +kernel
theorem dX6_init_40 : decode cX6_init 40 = .ok (.iastore, 1) := by decide +kernel
theorem dX6_init_41 : decode cX6_init 41 = .ok (.dup, 1) := by decide +kernel
theorem dX6_init_42 : decode cX6_init 42 = .ok (.iconst 3, 1) := by decide +kernel
theorem dX6_init_43 : decode cX6_init 43 = .ok (.iconst 1, 1) := by decide +kernel
theorem dX6_init_44 : decode cX6_init 44 = .ok (.iastore, 1) := by decide +kernel
theorem dX6_init_45 : decode cX6_init 45 = .ok (.putfield 22, 3) := by decide +kernel
theorem dX6_init_48 : decode cX6_init 48 = .ok (.return_, 1) := by decide +kernel
set_option maxRecDepth 20000 in
theorem ggX7_init_X6_init : GoodIn wsX7_init wsX6_init := goodIn_r _ [35, 36, 2, 3, 37, 38, 39, 40, 41, 84, 85, 86, 87] (by decide +kernel) (by decide +kernel)
set_option maxRecDepth 20000 in
theorem gX7_init_X6_init_n9 : GoodIn wsX7_init (wsX6_init) := ggX7_init_X6_init
set_option maxRecDepth 20000 in
theorem ggX7_init_X2_init : GoodIn wsX7_init wsX2_init := goodIn_r _ [43, 44, 2, 3, 45, 46, 38, 47, 48, 49, 50, 51, 102, 103, 104, 105, 106, 107] (by decide +kernel) (by decide +kernel)
set_option maxRecDepth 20000 in
theorem gX7_init_X2_init_n26 : GoodIn wsX7_init (wsX2_init) := ggX7_init_X2_init
set_option maxRecDepth 20000 in
theorem ggX7_init_X5_init : GoodIn wsX7_init wsX5_init := goodIn_r _ [53, 54, 2, 3, 55, 38, 56, 57, 58, 59, 60, 61, 62, 108, 109, 110, 111, 112, 113, 114, 115] (by decide +kernel) (by decide +kernel)
set_option maxRecDepth 20000 in
theorem gX7_init_X5_init_n36 : GoodIn wsX7_init (wsX5_init) := ggX7_init_X5_init
set_option maxRecDepth 20000 in
theorem ggX7_init_X1_init : GoodIn wsX7_init wsX1_init := goodIn_r _ [64, 65, 2, 3, 8, 66, 67, 116, 117] (by decide +kernel) (by decide +kernel)
set_option maxRecDepth 20000 in
theorem gX7_init_X1_init_n46 : GoodIn wsX7_init (wsX1_init) := ggX7_init_X1_init
set_option maxRecDepth 20000 in
theorem ggX7_init_X0_init : GoodIn wsX7_init wsX0_init := goodIn_r _ [69, 70, 2, 3, 71, 72, 38, 73, 74, 75, 76, 77, 78, 79, 80, 81, 82, 83, 118, 119, 120, 121, 122, 123, 124, 125, 126, 127, 128] (by decide +kernel) (by decide +kernel)
set_option maxRecDepth 20000 in
theorem gX7_init_X0_init_n53 : GoodIn wsX7_init (wsX0_init) := ggX7_init_X0_init
theorem dX7_init_0 : decode cX7_init 0 = .ok (.aload_n 0, 1) := by decide +kernel
theorem dX7_init_1 : decode cX7_init 1 = .ok (.invokespecial 1, 3) := by decide +kernel
theorem dX7_init_4 : decode cX7_init 4 = .ok (.aload_n 0, 1) := by decide +kernel
theorem dX7_init_5 : decode cX7_init 5 = .ok (.new 7, 3) := by decide +kernel
theorem dX7_init_8 : decode cX7_init 8 = .ok (.dup, 1) := by decide +kernel
theorem dX7_init_9 : decode cX7_init 9 = .ok (.invokespecial 9, 3) := by decide +kernel
theorem dX7_init_12 : decode cX7_init 12 = .ok (.putfield 10, 3) := by decide +kernel
theorem dX7_init_15 : decode cX7_init 15 = .ok (.aload_n 0, 1) := by decide +kernel
theorem dX7_init_16 : decode cX7_init 16 = .ok (.sipush 400, 3) := by decide +kernel
theorem dX7_init_19 : decode cX7_init 19 = .ok (.newarray .byte, 2) := by decide +kernel
theorem dX7_init_21 : decode cX7_init 21 = .ok (.putfield 16, 3) := by decide +kernel
theorem dX7_init_24 : decode cX7_init 24 = .ok (.aload_n 0, 1) := by decide +kernel
theorem dX7_init_25 : decode cX7_init 25 = .ok (.iconst 0, 1) := by decide +kernel
theorem dX7_init_26 : decode cX7_init 26 = .ok (.putfield 20, 3) := by decide +kernel
theorem dX7_init_29 : decode cX7_init 29 = .ok (.aload_n 0, 1) := by decide +kernel
theorem dX7_init_30 : decode cX7_init 30 = .ok (.new 24, 3) := by decide +kernel
theorem dX7_init_33 : decode cX7_init 33 = .ok (.dup, 1) := by decide +kernel
theorem dX7_init_34 : decode cX7_init 34 = .ok (.invokespecial 26, 3) := by decide +kernel
theorem dX7_init_37 : decode cX7_init 37 = .ok (.putfield 27, 3) := by decide +kernel
theorem dX7_init_40 : decode cX7_init 40 = .ok (.aload_n 0, 1) := by decide +kernel
theorem dX7_init_41 : decode cX7_init 41 = .ok (.iconst (-1), 1) := by decide +kernel
theorem dX7_init_42 : decode cX7_init 42 = .ok (.putfield 31, 3) := by decide +kernel
theorem dX7_init_45 : decode cX7_init 45 = .ok (.aload_n 0, 1) := by decide +kernel
theorem dX7_init_46 : decode cX7_init 46 = .ok (.new 34, 3) := by decide +kernel
theorem dX7_init_49 : decode cX7_init 49 = .ok (.dup, 1) := by decide +kernel
theorem dX7_init_50 : decode cX7_init 50 = .ok (.invokespecial 36, 3) := by decide +kernel
theorem dX7_init_53 : decode cX7_init 53 = .ok (.putfield 37, 3) := by decide +kernel
theorem dX7_init_56 : decode cX7_init 56 = .ok (.aload_n 0, 1) := by decide +kernel
theorem dX7_init_57 : decode cX7_init 57 = .ok (.new 34, 3) := by decide +kernel
theorem dX7_init_60 : decode cX7_init 60 = .ok (.dup, 1) := by decide +kernel
theorem dX7_init_61 : decode cX7_init 61 = .ok (.invokespecial 36, 3) := by decide +kernel
theorem dX7_init_64 : decode cX7_init 64 = .ok (.putfield 41, 3) := by decide +kernel
theorem dX7_init_67 : decode cX7_init 67 = .ok (.aload_n 0, 1) := by decide +kernel
theorem dX7_init_68 : decode cX7_init 68 = .ok (.new 44, 3) := by decide +kernel
theorem dX7_init_71 : decode cX7_init 71 = .ok (.dup, 1) := by decide +kernel
theorem dX7_init_72 : decode cX7_init 72 = .ok (.invokespecial 46, 3) := by decide +kernel
theorem dX7_init_75 : decode cX7_init 75 = .ok (.putfield 47, 3) := by decide +kernel
theorem dX7_init_78 : decode cX7_init 78 = .ok (.aload_n 0, 1) := by decide +kernel
theorem dX7_init_79 : decode cX7_init 79 = .ok (.new 51, 3) := by decide +kernel
theorem dX7_init_82 : decode cX7_init 82 = .ok (.dup, 1) := by decide +kernel
theorem dX7_init_83 : decode cX7_init 83 = .ok (.invokespecial 53, 3) := by decide +kernel
theorem dX7_init_86 : decode cX7_init 86 = .ok (.putfield 54, 3) := by decide +kernel
theorem dX7_init_89 : decode cX7_init 89 = .ok (.aload_n 0, 1) := by decide +kernel
theorem dX7_init_90 : decode cX7_init 90 = .ok (.aconst_null, 1) := by decide +kernel
theorem dX7_init_91 : decode cX7_init 91 = .ok (.putfield 58, 3) := by decide +kernel
theorem dX7_init_94 : decode cX7_init 94 = .ok (.aload_n 0, 1) := by decide +kernel
theorem dX7_init_95 : decode cX7_init 95 = .ok (.iconst 0, 1) := by decide +kernel
theorem dX7_init_96 : decode cX7_init 96 = .ok (.putfield 62, 3) := by decide +kernel
theorem dX7_init_99 : decode cX7_init 99 = .ok (.aload_n 0, 1) := by decide +kernel
theorem dX7_init_100 : decode cX7_init 100 = .ok (.aconst_null, 1) := by decide +kernel
theorem dX7_init_101 : decode cX7_init 101 = .ok (.putfield 66, 3) := by decide +kernel
theorem dX7_init_104 : decode cX7_init 104 = .ok (.aload_n 0, 1) := by decide +kernel
theorem dX7_init_105 : decode cX7_init 105 = .ok (.lconst 0, 1) := by decide +kernel
theorem dX7_init_106 : decode cX7_init 106 = .ok (.putfield 70, 3) := by decide +kernel
theorem dX7_init_109 : decode cX7_init 109 = .ok (.aload_n 0, 1) := by decide +kernel
theorem dX7_init_110 : decode cX7_init 110 = .ok (.iconst 0, 1) := by decide +kernel
theorem dX7_init_111 : decode cX7_init 111 = .ok (.putfield 74, 3) := by decide +kernel
theorem dX7_init_114 : decode cX7_init 114 = .ok (.return_, 1) := by decide +kernel
set_option maxRecDepth 20000 in
theorem ggX7_command_X7_requireCount : GoodIn wsX7_command wsX7_requireCount := goodIn_ca (goodIn_r _ [12, 13, 14] (by decide +kernel) (by decide +kernel)) (goodIn_sub (fun _ h => List.mem_cons_of_mem _ (List.mem_append_right _ h)) (by decide +kernel))
set_option maxRecDepth 20000 in
theorem gX7_command_X7_requireCount : GoodIn wsX7_command (wsV RX7 77 RX7 yX7_requireCount wsX7_requireCount) := goodIn_app (goodIn_of _ (by decide +kernel)) ggX7_command_X7_requireCount
set_option maxRecDepth 20000 in
theorem ggX7_command_X7_requireWords : GoodIn wsX7_command wsX7_requireWords := goodIn_ca (goodIn_r _ [18, 13, 14, 19] (by decide +kernel) (by decide +kernel)) (goodIn_sub (fun _ h => List.mem_cons_of_mem _ (List.mem_append_right _ h)) (by decide +kernel))
set_option maxRecDepth 20000 in
theorem gX7_command_X7_requireWords : GoodIn wsX7_command (wsV RX7 81 RX7 yX7_requireWords wsX7_requireWords) := goodIn_app (goodIn_of _ (by decide +kernel)) ggX7_command_X7_requireWords
set_option maxRecDepth 20000 in
theorem ggX7_command_X5_clear : GoodIn wsX7_command wsX5_clear := goodIn_r _ [24, 25, 57, 58, 59, 60, 61, 62, 63, 64] (by decide +kernel) (by decide +kernel)
set_option maxRecDepth 20000 in
theorem gX7_command_X5_clear : GoodIn wsX7_command (wsV RX7 101 RX5 yX5_clear wsX5_clear) := goodIn_app (goodIn_of _ (by decide +kernel)) ggX7_command_X5_clear
set_option maxRecDepth 20000 in
theorem ggX7_command_X7_useChanged : GoodIn wsX7_command wsX7_useChanged := goodIn_r _ [29, 30, 31, 32, 33, 34, 35, 36, 37, 38, 39, 40, 41, 42, 43, 44, 45, 46, 47, 48, 49, 50, 51, 52, 65, 66, 67, 68, 69, 70, 71, 72, 73, 74, 75] (by decide +kernel) (by decide +kernel)
set_option maxRecDepth 20000 in
theorem gX7_command_X7_useChanged : GoodIn wsX7_command (wsV RX7 104 RX7 yX7_useChanged wsX7_useChanged) := goodIn_app (goodIn_of _ (by decide +kernel)) ggX7_command_X7_useChanged
theorem dX7_command_0 : decode cX7_command 0 = .ok (.aload_n 0, 1) := by decide +kernel
theorem dX7_command_1 : decode cX7_command 1 = .ok (.iload_n 1, 1) := by decide +kernel
theorem dX7_command_2 : decode cX7_command 2 = .ok (.invokevirtual 77, 3) := by decide +kernel
theorem dX7_command_5 : decode cX7_command 5 = .ok (.aload_n 0, 1) := by decide +kernel
theorem dX7_command_6 : decode cX7_command 6 = .ok (.iload_n 2, 1) := by decide +kernel
theorem dX7_command_7 : decode cX7_command 7 = .ok (.invokevirtual 81, 3) := by decide +kernel
theorem dX7_command_10 : decode cX7_command 10 = .ok (.aload_n 0, 1) := by decide +kernel
theorem dX7_command_11 : decode cX7_command 11 = .ok (.getfield 10, 3) := by decide +kernel
theorem dX7_command_14 : decode cX7_command 14 = .ok (.getfield 84, 3) := by decide +kernel
theorem dX7_command_17 : decode cX7_command 17 = .ok (.bipush 40, 2) := by decide +kernel
theorem dX7_command_19 : decode cX7_command 19 = .ok (.if_icmp .lt 13, 3) := by decide +kernel
theorem dX7_command_22 : decode cX7_command 22 = .ok (.new 87, 3) := by decide +kernel
theorem dX7_command_25 : decode cX7_command 25 = .ok (.dup, 1) := by decide +kernel
theorem dX7_command_26 : decode cX7_command 26 = .ok (.ldc 89, 2) := by decide +kernel
theorem dX7_command_28 : decode cX7_command 28 = .ok (.invokespecial 91, 3) := by decide +kernel
theorem dX7_command_31 : decode cX7_command 31 = .ok (.athrow, 1) := by decide +kernel
theorem dX7_command_32 : decode cX7_command 32 = .ok (.aload_n 0, 1) := by decide +kernel
theorem dX7_command_33 : decode cX7_command 33 = .ok (.getfield 10, 3) := by decide +kernel
theorem dX7_command_36 : decode cX7_command 36 = .ok (.getfield 84, 3) := by decide +kernel
theorem dX7_command_39 : decode cX7_command 39 = .ok (.istore_n 3, 1) := by decide +kernel
theorem dX7_command_40 : decode cX7_command 40 = .ok (.aload_n 0, 1) := by decide +kernel
theorem dX7_command_41 : decode cX7_command 41 = .ok (.getfield 10, 3) := by decide +kernel
theorem dX7_command_44 : decode cX7_command 44 = .ok (.getfield 94, 3) := by decide +kernel
theorem dX7_command_47 : decode cX7_command 47 = .ok (.iload_n 3, 1) := by decide +kernel
theorem dX7_command_48 : decode cX7_command 48 = .ok (.iload_n 1, 1) := by decide +kernel
theorem dX7_command_49 : decode cX7_command 49 = .ok (.iastore, 1) := by decide +kernel
theorem dX7_command_50 : decode cX7_command 50 = .ok (.aload_n 0, 1) := by decide +kernel
theorem dX7_command_51 : decode cX7_command 51 = .ok (.getfield 10, 3) := by decide +kernel
theorem dX7_command_54 : decode cX7_command 54 = .ok (.getfield 98, 3) := by decide +kernel
theorem dX7_command_57 : decode cX7_command 57 = .ok (.iload_n 3, 1) := by decide +kernel
theorem dX7_command_58 : decode cX7_command 58 = .ok (.iload_n 2, 1) := by decide +kernel
theorem dX7_command_59 : decode cX7_command 59 = .ok (.iastore, 1) := by decide +kernel
theorem dX7_command_60 : decode cX7_command 60 = .ok (.aload_n 0, 1) := by decide +kernel
theorem dX7_command_61 : decode cX7_command 61 = .ok (.getfield 10, 3) := by decide +kernel
theorem dX7_command_64 : decode cX7_command 64 = .ok (.iload_n 3, 1) := by decide +kernel
theorem dX7_command_65 : decode cX7_command 65 = .ok (.iconst 1, 1) := by decide +kernel
theorem dX7_command_66 : decode cX7_command 66 = .ok (.iadd, 1) := by decide +kernel
theorem dX7_command_67 : decode cX7_command 67 = .ok (.putfield 84, 3) := by decide +kernel
theorem dX7_command_70 : decode cX7_command 70 = .ok (.aload_n 0, 1) := by decide +kernel
theorem dX7_command_71 : decode cX7_command 71 = .ok (.getfield 37, 3) := by decide +kernel
theorem dX7_command_74 : decode cX7_command 74 = .ok (.invokevirtual 101, 3) := by decide +kernel
theorem dX7_command_77 : decode cX7_command 77 = .ok (.aload_n 0, 1) := by decide +kernel
theorem dX7_command_78 : decode cX7_command 78 = .ok (.invokevirtual 104, 3) := by decide +kernel
theorem dX7_command_81 : decode cX7_command 81 = .ok (.iload_n 3, 1) := by decide +kernel
theorem dX7_command_82 : decode cX7_command 82 = .ok (.ireturn, 1) := by decide +kernel
set_option maxRecDepth 20000 in
theorem ggX7_count_X7_requireCommand : GoodIn wsX7_count wsX7_requireCommand := goodIn_ca (goodIn_r _ [7, 8, 9, 1, 10, 30, 31, 32, 33, 34, 35, 36, 37, 38, 39, 40, 41, 42, 43, 44, 45, 46, 47] (by decide +kernel) (by decide +kernel)) (goodIn_sub (fun _ h => List.mem_cons_of_mem _ (List.mem_append_left _ (List.mem_append_right _ h))) (by decide +kernel))
set_option maxRecDepth 20000 in
theorem gX7_count_X7_requireCommand : GoodIn wsX7_count (wsV RX7 107 RX7 yX7_requireCommand wsX7_requireCommand) := goodIn_app (goodIn_of _ (by decide +kernel)) ggX7_count_X7_requireCommand
set_option maxRecDepth 20000 in
theorem ggX7_count_X7_requireCount : GoodIn wsX7_count wsX7_requireCount := goodIn_ca (goodIn_r _ [14, 15, 16] (by decide +kernel) (by decide +kernel)) (goodIn_sub (fun _ h => List.mem_cons_of_mem _ (List.mem_append_right _ h)) (by decide +kernel))
set_option maxRecDepth 20000 in
theorem gX7_count_X7_requireCount : GoodIn wsX7_count (wsV RX7 77 RX7 yX7_requireCount wsX7_requireCount) := goodIn_app (goodIn_of _ (by decide +kernel)) ggX7_count_X7_requireCount
set_option maxRecDepth 20000 in
theorem ggX7_count_X7_useChanged : GoodIn wsX7_count wsX7_useChanged := goodIn_r _ [20, 21, 22, 23, 24, 25, 26, 27, 28, 29, 30, 31, 32, 33, 34, 35, 36, 37, 38, 39, 40, 41, 42, 43, 48, 49, 50, 51, 52, 53, 54, 55, 56, 57, 58] (by decide +kernel) (by decide +kernel)
set_option maxRecDepth 20000 in
theorem gX7_count_X7_useChanged : GoodIn wsX7_count (wsV RX7 104 RX7 yX7_useChanged wsX7_useChanged) := goodIn_app (goodIn_of _ (by decide +kernel)) ggX7_count_X7_useChanged
theorem dX7_count_0 : decode cX7_count 0 = .ok (.aload_n 0, 1) := by decide +kernel
theorem dX7_count_1 : decode cX7_count 1 = .ok (.iload_n 1, 1) := by decide +kernel
theorem dX7_count_2 : decode cX7_count 2 = .ok (.invokevirtual 107, 3) := by decide +kernel
theorem dX7_count_5 : decode cX7_count 5 = .ok (.aload_n 0, 1) := by decide +kernel
theorem dX7_count_6 : decode cX7_count 6 = .ok (.iload_n 2, 1) := by decide +kernel
theorem dX7_count_7 : decode cX7_count 7 = .ok (.invokevirtual 77, 3) := by decide +kernel
theorem dX7_count_10 : decode cX7_count 10 = .ok (.aload_n 0, 1) := by decide +kernel
theorem dX7_count_11 : decode cX7_count 11 = .ok (.getfield 10, 3) := by decide +kernel
theorem dX7_count_14 : decode cX7_count 14 = .ok (.getfield 94, 3) := by decide +kernel
theorem dX7_count_17 : decode cX7_count 17 = .ok (.iload_n 1, 1) := by decide +kernel
theorem dX7_count_18 : decode cX7_count 18 = .ok (.iaload, 1) := by decide +kernel
theorem dX7_count_19 : decode cX7_count 19 = .ok (.istore_n 3, 1) := by decide +kernel
theorem dX7_count_20 : decode cX7_count 20 = .ok (.aload_n 0, 1) := by decide +kernel
theorem dX7_count_21 : decode cX7_count 21 = .ok (.getfield 10, 3) := by decide +kernel
theorem dX7_count_24 : decode cX7_count 24 = .ok (.getfield 94, 3) := by decide +kernel
theorem dX7_count_27 : decode cX7_count 27 = .ok (.iload_n 1, 1) := by decide +kernel
theorem dX7_count_28 : decode cX7_count 28 = .ok (.iload_n 2, 1) := by decide +kernel
theorem dX7_count_29 : decode cX7_count 29 = .ok (.iastore, 1) := by decide +kernel
theorem dX7_count_30 : decode cX7_count 30 = .ok (.aload_n 0, 1) := by decide +kernel
theorem dX7_count_31 : decode cX7_count 31 = .ok (.invokevirtual 104, 3) := by decide +kernel
theorem dX7_count_34 : decode cX7_count 34 = .ok (.iload_n 3, 1) := by decide +kernel
theorem dX7_count_35 : decode cX7_count 35 = .ok (.ireturn, 1) := by decide +kernel
set_option maxRecDepth 20000 in
theorem ggX7_words_X7_requireCommand : GoodIn wsX7_words wsX7_requireCommand := goodIn_ca (goodIn_r _ [7, 8, 9, 1, 10, 18, 19, 20, 21, 22, 23, 24, 25, 26, 27, 28, 29, 30, 31, 32, 33, 34, 35] (by decide +kernel) (by decide +kernel)) (goodIn_sub (fun _ h => List.mem_cons_of_mem _ (List.mem_append_left _ (List.mem_append_right _ h))) (by decide +kernel))
set_option maxRecDepth 20000 in
theorem gX7_words_X7_requireCommand : GoodIn wsX7_words (wsV RX7 107 RX7 yX7_requireCommand wsX7_requireCommand) := goodIn_app (goodIn_of _ (by decide +kernel)) ggX7_words_X7_requireCommand
set_option maxRecDepth 20000 in
theorem ggX7_words_X7_requireWords : GoodIn wsX7_words wsX7_requireWords := goodIn_ca (goodIn_r _ [14, 15, 16, 17] (by decide +kernel) (by decide +kernel)) (goodIn_sub (fun _ h => List.mem_cons_of_mem _ (List.mem_append_right _ h)) (by decide +kernel))
set_option maxRecDepth 20000 in
theorem gX7_words_X7_requireWords : GoodIn wsX7_words (wsV RX7 81 RX7 yX7_requireWords wsX7_requireWords) := goodIn_app (goodIn_of _ (by decide +kernel)) ggX7_words_X7_requireWords
theorem dX7_words_0 : decode cX7_words 0 = .ok (.aload_n 0, 1) := by decide +kernel
theorem dX7_words_1 : decode cX7_words 1 = .ok (.iload_n 1, 1) := by decide +kernel
theorem dX7_words_2 : decode cX7_words 2 = .ok (.invokevirtual 107, 3) := by decide +kernel
theorem dX7_words_5 : decode cX7_words 5 = .ok (.aload_n 0, 1) := by decide +kernel
theorem dX7_words_6 : decode cX7_words 6 = .ok (.iload_n 2, 1) := by decide +kernel
theorem dX7_words_7 : decode cX7_words 7 = .ok (.invokevirtual 81, 3) := by decide +kernel
theorem dX7_words_10 : decode cX7_words 10 = .ok (.aload_n 0, 1) := by decide +kernel
theorem dX7_words_11 : decode cX7_words 11 = .ok (.getfield 10, 3) := by decide +kernel
theorem dX7_words_14 : decode cX7_words 14 = .ok (.getfield 98, 3) := by decide +kernel
theorem dX7_words_17 : decode cX7_words 17 = .ok (.iload_n 1, 1) := by decide +kernel
theorem dX7_words_18 : decode cX7_words 18 = .ok (.iaload, 1) := by decide +kernel
theorem dX7_words_19 : decode cX7_words 19 = .ok (.istore_n 3, 1) := by decide +kernel
theorem dX7_words_20 : decode cX7_words 20 = .ok (.aload_n 0, 1) := by decide +kernel
theorem dX7_words_21 : decode cX7_words 21 = .ok (.getfield 10, 3) := by decide +kernel
theorem dX7_words_24 : decode cX7_words 24 = .ok (.getfield 98, 3) := by decide +kernel
theorem dX7_words_27 : decode cX7_words 27 = .ok (.iload_n 1, 1) := by decide +kernel
theorem dX7_words_28 : decode cX7_words 28 = .ok (.iload_n 2, 1) := by decide +kernel
theorem dX7_words_29 : decode cX7_words 29 = .ok (.iastore, 1) := by decide +kernel
theorem dX7_words_30 : decode cX7_words 30 = .ok (.iload_n 3, 1) := by decide +kernel
theorem dX7_words_31 : decode cX7_words 31 = .ok (.ireturn, 1) := by decide +kernel
set_option maxRecDepth 20000 in
theorem ggX7_set_X7_useChanged : GoodIn wsX7_set wsX7_useChanged := goodIn_r _ [11, 12, 13, 14, 15, 16, 17, 18, 19, 20, 21, 22, 23, 24, 25, 26, 27, 28, 29, 30, 31, 32, 33, 34, 39, 40, 41, 42, 43, 44, 45, 46, 47, 48, 49] (by decide +kernel) (by decide +kernel)
set_option maxRecDepth 20000 in
theorem gX7_set_X7_useChanged : GoodIn wsX7_set (wsV RX7 104 RX7 yX7_useChanged wsX7_useChanged) := goodIn_app (goodIn_of _ (by decide +kernel)) ggX7_set_X7_useChanged
theorem dX7_set_0 : decode cX7_set 0 = .ok (.iload_n 1, 1) := by decide +kernel
theorem dX7_set_1 : decode cX7_set 1 = .ok (.ifCond .lt 8, 3) := by decide +kernel
theorem dX7_set_4 : decode cX7_set 4 = .ok (.iload_n 1, 1) := by decide +kernel
theorem dX7_set_5 : decode cX7_set 5 = .ok (.iconst 3, 1) := by decide +kernel
theorem dX7_set_6 : decode cX7_set 6 = .ok (.if_icmp .le 13, 3) := by decide +kernel
theorem dX7_set_9 : decode cX7_set 9 = .ok (.new 110, 3) := by decide +kernel
theorem dX7_set_12 : decode cX7_set 12 = .ok (.dup, 1) := by decide +kernel
theorem dX7_set_13 : decode cX7_set 13 = .ok (.ldc 112, 2) := by decide +kernel
theorem dX7_set_15 : decode cX7_set 15 = .ok (.invokespecial 114, 3) := by decide +kernel
theorem dX7_set_18 : decode cX7_set 18 = .ok (.athrow, 1) := by decide +kernel
theorem dX7_set_19 : decode cX7_set 19 = .ok (.iload_n 2, 1) := by decide +kernel
theorem dX7_set_20 : decode cX7_set 20 = .ok (.getstatic 115, 3) := by decide +kernel
theorem dX7_set_23 : decode cX7_set 23 = .ok (.iload_n 1, 1) := by decide +kernel
theorem dX7_set_24 : decode cX7_set 24 = .ok (.iaload, 1) := by decide +kernel
theorem dX7_set_25 : decode cX7_set 25 = .ok (.if_icmp .lt 12, 3) := by decide +kernel
theorem dX7_set_28 : decode cX7_set 28 = .ok (.iload_n 2, 1) := by decide +kernel
theorem dX7_set_29 : decode cX7_set 29 = .ok (.getstatic 118, 3) := by decide +kernel
theorem dX7_set_32 : decode cX7_set 32 = .ok (.iload_n 1, 1) := by decide +kernel
theorem dX7_set_33 : decode cX7_set 33 = .ok (.iaload, 1) := by decide +kernel
theorem dX7_set_34 : decode cX7_set 34 = .ok (.if_icmp .le 13, 3) := by decide +kernel
theorem dX7_set_37 : decode cX7_set 37 = .ok (.new 110, 3) := by decide +kernel
theorem dX7_set_40 : decode cX7_set 40 = .ok (.dup, 1) := by decide +kernel
theorem dX7_set_41 : decode cX7_set 41 = .ok (.ldc 121, 2) := by decide +kernel
theorem dX7_set_43 : decode cX7_set 43 = .ok (.invokespecial 114, 3) := by decide +kernel
theorem dX7_set_46 : decode cX7_set 46 = .ok (.athrow, 1) := by decide +kernel
theorem dX7_set_47 : decode cX7_set 47 = .ok (.aload_n 0, 1) := by decide +kernel
theorem dX7_set_48 : decode cX7_set 48 = .ok (.getfield 10, 3) := by decide +kernel
theorem dX7_set_51 : decode cX7_set 51 = .ok (.getfield 123, 3) := by decide +kernel
theorem dX7_set_54 : decode cX7_set 54 = .ok (.iload_n 1, 1) := by decide +kernel
theorem dX7_set_55 : decode cX7_set 55 = .ok (.iaload, 1) := by decide +kernel
theorem dX7_set_56 : decode cX7_set 56 = .ok (.istore_n 3, 1) := by decide +kernel
theorem dX7_set_57 : decode cX7_set 57 = .ok (.aload_n 0, 1) := by decide +kernel
theorem dX7_set_58 : decode cX7_set 58 = .ok (.getfield 10, 3) := by decide +kernel
theorem dX7_set_61 : decode cX7_set 61 = .ok (.getfield 123, 3) := by decide +kernel
theorem dX7_set_64 : decode cX7_set 64 = .ok (.iload_n 1, 1) := by decide +kernel
theorem dX7_set_65 : decode cX7_set 65 = .ok (.iload_n 2, 1) := by decide +kernel
theorem dX7_set_66 : decode cX7_set 66 = .ok (.iastore, 1) := by decide +kernel
theorem dX7_set_67 : decode cX7_set 67 = .ok (.aload_n 0, 1) := by decide +kernel
theorem dX7_set_68 : decode cX7_set 68 = .ok (.invokevirtual 104, 3) := by decide +kernel
theorem dX7_set_71 : decode cX7_set 71 = .ok (.iload_n 3, 1) := by decide +kernel
theorem dX7_set_72 : decode cX7_set 72 = .ok (.ireturn, 1) := by decide +kernel
set_option maxRecDepth 20000 in
theorem ggX7_feed_X7_putOnTape : GoodIn wsX7_feed wsX7_putOnTape := goodIn_r _ [6, 1, 7, 8, 9, 10, 11, 12, 13, 14, 15, 16, 17, 18, 19, 20, 21] (by decide +kernel) (by decide +kernel)
set_option maxRecDepth 20000 in
theorem gX7_feed_X7_putOnTape : GoodIn wsX7_feed (wsV RX7 126 RX7 yX7_putOnTape wsX7_putOnTape) := goodIn_app (goodIn_of _ (by decide +kernel)) ggX7_feed_X7_putOnTape
theorem dX7_feed_0 : decode cX7_feed 0 = .ok (.aload_n 0, 1) := by decide +kernel
theorem dX7_feed_1 : decode cX7_feed 1 = .ok (.getfield 20, 3) := by decide +kernel
theorem dX7_feed_4 : decode cX7_feed 4 = .ok (.sipush 380, 3) := by decide +kernel
theorem dX7_feed_7 : decode cX7_feed 7 = .ok (.if_icmp .le 5, 3) := by decide +kernel
theorem dX7_feed_10 : decode cX7_feed 10 = .ok (.iconst (-1), 1) := by decide +kernel
theorem dX7_feed_11 : decode cX7_feed 11 = .ok (.ireturn, 1) := by decide +kernel
theorem dX7_feed_12 : decode cX7_feed 12 = .ok (.aload_n 0, 1) := by decide +kernel
theorem dX7_feed_13 : decode cX7_feed 13 = .ok (.iload_n 1, 1) := by decide +kernel
theorem dX7_feed_14 : decode cX7_feed 14 = .ok (.invokevirtual 126, 3) := by decide +kernel
theorem dX7_feed_17 : decode cX7_feed 17 = .ok (.aload_n 0, 1) := by decide +kernel
theorem dX7_feed_18 : decode cX7_feed 18 = .ok (.iload_n 2, 1) := by decide +kernel
theorem dX7_feed_19 : decode cX7_feed 19 = .ok (.invokevirtual 126, 3) := by decide +kernel
theorem dX7_feed_22 : decode cX7_feed 22 = .ok (.aload_n 0, 1) := by decide +kernel
theorem dX7_feed_23 : decode cX7_feed 23 = .ok (.iload_n 3, 1) := by decide +kernel
theorem dX7_feed_24 : decode cX7_feed 24 = .ok (.invokevirtual 126, 3) := by decide +kernel
theorem dX7_feed_27 : decode cX7_feed 27 = .ok (.aload_n 0, 1) := by decide +kernel
theorem dX7_feed_28 : decode cX7_feed 28 = .ok (.iload 4, 2) := by decide +kernel
theorem dX7_feed_30 : decode cX7_feed 30 = .ok (.invokevirtual 126, 3) := by decide +kernel
theorem dX7_feed_33 : decode cX7_feed 33 = .ok (.aload_n 0, 1) := by decide +kernel
theorem dX7_feed_34 : decode cX7_feed 34 = .ok (.iload 5, 2) := by decide +kernel
theorem dX7_feed_36 : decode cX7_feed 36 = .ok (.invokevirtual 126, 3) := by decide +kernel
theorem dX7_feed_39 : decode cX7_feed 39 = .ok (.aload_n 0, 1) := by decide +kernel
theorem dX7_feed_40 : decode cX7_feed 40 = .ok (.getfield 20, 3) := by decide +kernel
theorem dX7_feed_43 : decode cX7_feed 43 = .ok (.ireturn, 1) := by decide +kernel
set_option maxRecDepth 20000 in
theorem ggX7_tell_X2_readTree : GoodIn wsX7_tell wsX2_readTree := goodIn_r _ [17, 18, 19, 20, 21, 22, 23, 24, 25, 26, 27, 28, 29, 30, 31, 16, 32, 33, 34, 35, 36, 37, 38, 39, 40, 41, 42, 43, 44, 45, 46, 47, 48, 49, 50, 51, 52, 53, 54, 55, 56, 57, 58, 59, 60, 61, 62, 63, 64, 65, 66, 67, 68, 69, 70, 71, 72, 73, 74, 75, 76, 77, 78, 79, 80, 81, 82, 83, 84, 85, 86, 87, 88, 89, 90, 91, 92, 93, 94, 95, 96, 117, 118, 119, 120, 121, 122, 123, 124, 125, 126, 127, 128, 129, 130, 131, 132, 133, 134] (by decide +kernel) (by decide +kernel)
set_option maxRecDepth 20000 in
theorem gX7_tell_X2_readTree : GoodIn wsX7_tell (wsV RX7 131 RX2 yX2_readTree wsX2_readTree) := goodIn_app (goodIn_of _ (by decide +kernel)) ggX7_tell_X2_readTree
set_option maxRecDepth 20000 in
theorem ggX7_tell_X0_forget : GoodIn wsX7_tell wsX0_forget := goodIn_r _ [101, 102, 135, 136, 137, 138, 139, 140, 141, 142, 143, 144, 145] (by decide +kernel) (by decide +kernel)
set_option maxRecDepth 20000 in
theorem gX7_tell_X0_forget : GoodIn wsX7_tell (wsV RX7 139 RX0 yX0_forget wsX0_forget) := goodIn_app (goodIn_of _ (by decide +kernel)) ggX7_tell_X0_forget
theorem dX7_tell_0 : decode cX7_tell 0 = .ok (.iload_n 1, 1) := by decide +kernel
theorem dX7_tell_1 : decode cX7_tell 1 = .ok (.ifCond .lt 11, 3) := by decide +kernel
theorem dX7_tell_4 : decode cX7_tell 4 = .ok (.iload_n 1, 1) := by decide +kernel
theorem dX7_tell_5 : decode cX7_tell 5 = .ok (.aload_n 0, 1) := by decide +kernel
theorem dX7_tell_6 : decode cX7_tell 6 = .ok (.getfield 20, 3) := by decide +kernel
theorem dX7_tell_9 : decode cX7_tell 9 = .ok (.if_icmp .le 13, 3) := by decide +kernel
theorem dX7_tell_12 : decode cX7_tell 12 = .ok (.new 110, 3) := by decide +kernel
theorem dX7_tell_15 : decode cX7_tell 15 = .ok (.dup, 1) := by decide +kernel
theorem dX7_tell_16 : decode cX7_tell 16 = .ok (.ldc 129, 2) := by decide +kernel
theorem dX7_tell_18 : decode cX7_tell 18 = .ok (.invokespecial 114, 3) := by decide +kernel
theorem dX7_tell_21 : decode cX7_tell 21 = .ok (.athrow, 1) := by decide +kernel
theorem dX7_tell_22 : decode cX7_tell 22 = .ok (.aload_n 0, 1) := by decide +kernel
theorem dX7_tell_23 : decode cX7_tell 23 = .ok (.getfield 27, 3) := by decide +kernel
theorem dX7_tell_26 : decode cX7_tell 26 = .ok (.aload_n 0, 1) := by decide +kernel
theorem dX7_tell_27 : decode cX7_tell 27 = .ok (.getfield 16, 3) := by decide +kernel
theorem dX7_tell_30 : decode cX7_tell 30 = .ok (.iload_n 1, 1) := by decide +kernel
theorem dX7_tell_31 : decode cX7_tell 31 = .ok (.aload_n 0, 1) := by decide +kernel
theorem dX7_tell_32 : decode cX7_tell 32 = .ok (.getfield 10, 3) := by decide +kernel
theorem dX7_tell_35 : decode cX7_tell 35 = .ok (.aload_n 0, 1) := by decide +kernel
theorem dX7_tell_36 : decode cX7_tell 36 = .ok (.getfield 41, 3) := by decide +kernel
theorem dX7_tell_39 : decode cX7_tell 39 = .ok (.invokevirtual 131, 3) := by decide +kernel
theorem dX7_tell_42 : decode cX7_tell 42 = .ok (.aload_n 0, 1) := by decide +kernel
theorem dX7_tell_43 : decode cX7_tell 43 = .ok (.iconst 0, 1) := by decide +kernel
theorem dX7_tell_44 : decode cX7_tell 44 = .ok (.putfield 20, 3) := by decide +kernel
theorem dX7_tell_47 : decode cX7_tell 47 = .ok (.aload_n 0, 1) := by decide +kernel
theorem dX7_tell_48 : decode cX7_tell 48 = .ok (.aload_n 0, 1) := by decide +kernel
theorem dX7_tell_49 : decode cX7_tell 49 = .ok (.getfield 27, 3) := by decide +kernel
theorem dX7_tell_52 : decode cX7_tell 52 = .ok (.getfield 135, 3) := by decide +kernel
theorem dX7_tell_55 : decode cX7_tell 55 = .ok (.putfield 31, 3) := by decide +kernel
theorem dX7_tell_58 : decode cX7_tell 58 = .ok (.aload_n 0, 1) := by decide +kernel
theorem dX7_tell_59 : decode cX7_tell 59 = .ok (.getfield 27, 3) := by decide +kernel
theorem dX7_tell_62 : decode cX7_tell 62 = .ok (.getfield 136, 3) := by decide +kernel
theorem dX7_tell_65 : decode cX7_tell 65 = .ok (.ifCond .eq 14, 3) := by decide +kernel
theorem dX7_tell_68 : decode cX7_tell 68 = .ok (.aload_n 0, 1) := by decide +kernel
theorem dX7_tell_69 : decode cX7_tell 69 = .ok (.getfield 27, 3) := by decide +kernel
theorem dX7_tell_72 : decode cX7_tell 72 = .ok (.getfield 136, 3) := by decide +kernel
theorem dX7_tell_75 : decode cX7_tell 75 = .ok (.bipush 10, 2) := by decide +kernel
theorem dX7_tell_77 : decode cX7_tell 77 = .ok (.isub, 1) := by decide +kernel
theorem dX7_tell_78 : decode cX7_tell 78 = .ok (.ireturn, 1) := by decide +kernel
theorem dX7_tell_79 : decode cX7_tell 79 = .ok (.aload_n 0, 1) := by decide +kernel
theorem dX7_tell_80 : decode cX7_tell 80 = .ok (.getfield 37, 3) := by decide +kernel
theorem dX7_tell_83 : decode cX7_tell 83 = .ok (.astore_n 2, 1) := by decide +kernel
theorem dX7_tell_84 : decode cX7_tell 84 = .ok (.aload_n 0, 1) := by decide +kernel
theorem dX7_tell_85 : decode cX7_tell 85 = .ok (.aload_n 0, 1) := by decide +kernel
theorem dX7_tell_86 : decode cX7_tell 86 = .ok (.getfield 41, 3) := by decide +kernel
theorem dX7_tell_89 : decode cX7_tell 89 = .ok (.putfield 37, 3) := by decide +kernel
theorem dX7_tell_92 : decode cX7_tell 92 = .ok (.aload_n 0, 1) := by decide +kernel
theorem dX7_tell_93 : decode cX7_tell 93 = .ok (.aload_n 2, 1) := by decide +kernel
theorem dX7_tell_94 : decode cX7_tell 94 = .ok (.putfield 41, 3) := by decide +kernel
theorem dX7_tell_97 : decode cX7_tell 97 = .ok (.aload_n 0, 1) := by decide +kernel
theorem dX7_tell_98 : decode cX7_tell 98 = .ok (.getfield 54, 3) := by decide +kernel
theorem dX7_tell_101 : decode cX7_tell 101 = .ok (.invokevirtual 139, 3) := by decide +kernel
theorem dX7_tell_104 : decode cX7_tell 104 = .ok (.iconst 0, 1) := by decide +kernel
theorem dX7_tell_105 : decode cX7_tell 105 = .ok (.ireturn, 1) := by decide +kernel
theorem dX7_fault_0 : decode cX7_fault 0 = .ok (.aload_n 0, 1) := by decide +kernel
theorem dX7_fault_1 : decode cX7_fault 1 = .ok (.getfield 31, 3) := by decide +kernel
theorem dX7_fault_4 : decode cX7_fault 4 = .ok (.ireturn, 1) := by decide +kernel
set_option maxRecDepth 20000 in
theorem ggX7_plan_X3_init : GoodIn wsX7_plan wsX3_init := goodIn_r _ [12, 13, 14, 15, 16, 17, 18, 19, 20, 21, 22, 23, 128, 129, 130, 131, 132] (by decide +kernel) (by decide +kernel)
set_option maxRecDepth 20000 in
theorem gX7_plan_X3_init_n146 : GoodIn wsX7_plan (wsX3_init) := ggX7_plan_X3_init
set_option maxRecDepth 20000 in
theorem ggX7_plan_X3_reckon : GoodIn wsX7_plan wsX3_reckon := goodIn_r _ [27, 28, 17, 29, 30, 31, 32, 7, 33, 34, 35, 18, 20, 36, 37, 38, 39, 40, 41, 42, 43, 44, 45, 46, 47, 48, 49, 50, 51, 124, 125, 126, 127, 128, 129, 130, 131, 132] (by decide +kernel) (by decide +kernel)
set_option maxRecDepth 20000 in
theorem gX7_plan_X3_reckon : GoodIn wsX7_plan (wsV RX7 147 RX3 yX3_reckon wsX3_reckon) := goodIn_app (goodIn_of _ (by decide +kernel)) ggX7_plan_X3_reckon
set_option maxRecDepth 20000 in
theorem ggX7_plan_X3_build : GoodIn wsX7_plan wsX3_build := goodIn_r _ [55, 22, 23, 28, 56, 57, 58, 59, 60, 61, 62, 63, 64, 65, 66, 67, 68, 7, 69, 34, 70, 71, 72, 73, 20, 44, 45, 46, 47, 36, 37, 38, 39, 48, 49, 50, 51, 18, 40, 41, 42, 43, 17, 35, 74, 75, 76, 77, 78, 79, 80, 81, 82, 83, 84, 85, 86, 87, 88, 89, 90, 91, 92, 128, 129, 130, 131, 132, 124, 125, 126, 127, 133, 134, 135, 136, 137, 138, 139, 140] (by decide +kernel) (by decide +kernel)
set_option maxRecDepth 20000 in
theorem gX7_plan_X3_build : GoodIn wsX7_plan (wsV RX7 151 RX3 yX3_build wsX3_build) := goodIn_app (goodIn_of _ (by decide +kernel)) ggX7_plan_X3_build
set_option maxRecDepth 20000 in
theorem ggX7_plan_X0_forget : GoodIn wsX7_plan wsX0_forget := goodIn_r _ [97, 98, 141, 142, 143, 144, 145, 146, 147, 148, 149, 150, 151] (by decide +kernel) (by decide +kernel)
set_option maxRecDepth 20000 in
theorem gX7_plan_X0_forget : GoodIn wsX7_plan (wsV RX7 139 RX0 yX0_forget wsX0_forget) := goodIn_app (goodIn_of _ (by decide +kernel)) ggX7_plan_X0_forget
set_option maxRecDepth 20000 in
theorem ggX7_plan_X5_totalCost : GoodIn wsX7_plan wsX5_totalCost := goodIn_r _ [102, 103, 104, 105, 106, 107, 60, 108, 109, 83, 82, 65, 64, 124, 125, 126, 127, 133, 134, 135, 136, 137, 138, 139, 140] (by decide +kernel) (by decide +kernel)
set_option maxRecDepth 20000 in
theorem gX7_plan_X5_totalCost : GoodIn wsX7_plan (wsV RX7 155 RX5 yX5_totalCost wsX5_totalCost) := goodIn_app (goodIn_of _ (by decide +kernel)) ggX7_plan_X5_totalCost
theorem dX7_plan_0 : decode cX7_plan 0 = .ok (.aload_n 0, 1) := by decide +kernel
theorem dX7_plan_1 : decode cX7_plan 1 = .ok (.getfield 10, 3) := by decide +kernel
theorem dX7_plan_4 : decode cX7_plan 4 = .ok (.getfield 84, 3) := by decide +kernel
theorem dX7_plan_7 : decode cX7_plan 7 = .ok (.ifCond .ne 7, 3) := by decide +kernel
theorem dX7_plan_10 : decode cX7_plan 10 = .ok (.ldc2_w 142, 3) := by decide +kernel
theorem dX7_plan_13 : decode cX7_plan 13 = .ok (.lreturn, 1) := by decide +kernel
theorem dX7_plan_14 : decode cX7_plan 14 = .ok (.aload_n 0, 1) := by decide +kernel
theorem dX7_plan_15 : decode cX7_plan 15 = .ok (.getfield 58, 3) := by decide +kernel
theorem dX7_plan_18 : decode cX7_plan 18 = .ok (.ifnonnull 14, 3) := by decide +kernel
theorem dX7_plan_21 : decode cX7_plan 21 = .ok (.aload_n 0, 1) := by decide +kernel
theorem dX7_plan_22 : decode cX7_plan 22 = .ok (.new 144, 3) := by decide +kernel
theorem dX7_plan_25 : decode cX7_plan 25 = .ok (.dup, 1) := by decide +kernel
theorem dX7_plan_26 : decode cX7_plan 26 = .ok (.invokespecial 146, 3) := by decide +kernel
theorem dX7_plan_29 : decode cX7_plan 29 = .ok (.putfield 58, 3) := by decide +kernel
theorem dX7_plan_32 : decode cX7_plan 32 = .ok (.aload_n 0, 1) := by decide +kernel
theorem dX7_plan_33 : decode cX7_plan 33 = .ok (.getfield 62, 3) := by decide +kernel
theorem dX7_plan_36 : decode cX7_plan 36 = .ok (.ifCond .ne 19, 3) := by decide +kernel
theorem dX7_plan_39 : decode cX7_plan 39 = .ok (.aload_n 0, 1) := by decide +kernel
theorem dX7_plan_40 : decode cX7_plan 40 = .ok (.getfield 58, 3) := by decide +kernel
theorem dX7_plan_43 : decode cX7_plan 43 = .ok (.aload_n 0, 1) := by decide +kernel
theorem dX7_plan_44 : decode cX7_plan 44 = .ok (.getfield 10, 3) := by decide +kernel
theorem dX7_plan_47 : decode cX7_plan 47 = .ok (.invokevirtual 147, 3) := by decide +kernel
theorem dX7_plan_50 : decode cX7_plan 50 = .ok (.aload_n 0, 1) := by decide +kernel
theorem dX7_plan_51 : decode cX7_plan 51 = .ok (.iconst 1, 1) := by decide +kernel
theorem dX7_plan_52 : decode cX7_plan 52 = .ok (.putfield 62, 3) := by decide +kernel
theorem dX7_plan_55 : decode cX7_plan 55 = .ok (.aload_n 0, 1) := by decide +kernel
theorem dX7_plan_56 : decode cX7_plan 56 = .ok (.getfield 58, 3) := by decide +kernel
theorem dX7_plan_59 : decode cX7_plan 59 = .ok (.aload_n 0, 1) := by decide +kernel
theorem dX7_plan_60 : decode cX7_plan 60 = .ok (.getfield 10, 3) := by decide +kernel
theorem dX7_plan_63 : decode cX7_plan 63 = .ok (.aload_n 0, 1) := by decide +kernel
theorem dX7_plan_64 : decode cX7_plan 64 = .ok (.getfield 37, 3) := by decide +kernel
theorem dX7_plan_67 : decode cX7_plan 67 = .ok (.invokevirtual 151, 3) := by decide +kernel
theorem dX7_plan_70 : decode cX7_plan 70 = .ok (.aload_n 0, 1) := by decide +kernel
theorem dX7_plan_71 : decode cX7_plan 71 = .ok (.getfield 54, 3) := by decide +kernel
theorem dX7_plan_74 : decode cX7_plan 74 = .ok (.invokevirtual 139, 3) := by decide +kernel
theorem dX7_plan_77 : decode cX7_plan 77 = .ok (.aload_n 0, 1) := by decide +kernel
theorem dX7_plan_78 : decode cX7_plan 78 = .ok (.getfield 37, 3) := by decide +kernel
theorem dX7_plan_81 : decode cX7_plan 81 = .ok (.aload_n 0, 1) := by decide +kernel
theorem dX7_plan_82 : decode cX7_plan 82 = .ok (.getfield 10, 3) := by decide +kernel
theorem dX7_plan_85 : decode cX7_plan 85 = .ok (.invokevirtual 155, 3) := by decide +kernel
theorem dX7_plan_88 : decode cX7_plan 88 = .ok (.lreturn, 1) := by decide +kernel
set_option maxRecDepth 20000 in
theorem ggX7_cost_X5_exists : GoodIn wsX7_cost wsX5_exists := goodIn_r _ [8, 9, 39, 40, 41, 42, 43, 44, 45, 46] (by decide +kernel) (by decide +kernel)
set_option maxRecDepth 20000 in
theorem gX7_cost_X5_exists : GoodIn wsX7_cost (wsV RX7 159 RX5 yX5_exists wsX5_exists) := goodIn_app (goodIn_of _ (by decide +kernel)) ggX7_cost_X5_exists
set_option maxRecDepth 20000 in
theorem ggX7_cost_X5_totalCost : GoodIn wsX7_cost wsX5_totalCost := goodIn_r _ [13, 14, 15, 16, 17, 18, 7, 19, 20, 21, 22, 23, 24, 47, 48, 49, 50, 39, 40, 41, 42, 43, 44, 45, 46] (by decide +kernel) (by decide +kernel)
set_option maxRecDepth 20000 in
theorem gX7_cost_X5_totalCost : GoodIn wsX7_cost (wsV RX7 155 RX5 yX5_totalCost wsX5_totalCost) := goodIn_app (goodIn_of _ (by decide +kernel)) ggX7_cost_X5_totalCost
theorem dX7_cost_0 : decode cX7_cost 0 = .ok (.aload_n 0, 1) := by decide +kernel
theorem dX7_cost_1 : decode cX7_cost 1 = .ok (.getfield 37, 3) := by decide +kernel
theorem dX7_cost_4 : decode cX7_cost 4 = .ok (.invokevirtual 159, 3) := by decide +kernel
theorem dX7_cost_7 : decode cX7_cost 7 = .ok (.ifCond .eq 17, 3) := by decide +kernel
theorem dX7_cost_10 : decode cX7_cost 10 = .ok (.aload_n 0, 1) := by decide +kernel
theorem dX7_cost_11 : decode cX7_cost 11 = .ok (.getfield 37, 3) := by decide +kernel
theorem dX7_cost_14 : decode cX7_cost 14 = .ok (.aload_n 0, 1) := by decide +kernel
theorem dX7_cost_15 : decode cX7_cost 15 = .ok (.getfield 10, 3) := by decide +kernel
theorem dX7_cost_18 : decode cX7_cost 18 = .ok (.invokevirtual 155, 3) := by decide +kernel
theorem dX7_cost_21 : decode cX7_cost 21 = .ok (.goto 6, 3) := by decide +kernel
theorem dX7_cost_24 : decode cX7_cost 24 = .ok (.ldc2_w 142, 3) := by decide +kernel
theorem dX7_cost_27 : decode cX7_cost 27 = .ok (.lreturn, 1) := by decide +kernel
set_option maxRecDepth 20000 in
theorem ggX7_print_X5_exists : GoodIn wsX7_print wsX5_exists := goodIn_r _ [8, 9, 49, 50, 51, 52, 53, 54, 55, 56] (by decide +kernel) (by decide +kernel)
set_option maxRecDepth 20000 in
theorem gX7_print_X5_exists : GoodIn wsX7_print (wsV RX7 159 RX5 yX5_exists wsX5_exists) := goodIn_app (goodIn_of _ (by decide +kernel)) ggX7_print_X5_exists
set_option maxRecDepth 20000 in
theorem ggX7_print_X1_write : GoodIn wsX7_print wsX1_write := goodIn_r _ [14, 15, 16, 17, 18, 19, 20, 21, 13, 22, 23, 24, 25, 26, 7, 27, 28, 29, 30, 31, 32, 47, 48, 49, 50, 51, 52, 53, 54, 55, 56] (by decide +kernel) (by decide +kernel)
set_option maxRecDepth 20000 in
theorem gX7_print_X1_write : GoodIn wsX7_print (wsV RX7 163 RX1 yX1_write wsX1_write) := goodIn_app (goodIn_of _ (by decide +kernel)) ggX7_print_X1_write
theorem dX7_print_0 : decode cX7_print 0 = .ok (.aload_n 0, 1) := by decide +kernel
theorem dX7_print_1 : decode cX7_print 1 = .ok (.getfield 37, 3) := by decide +kernel
theorem dX7_print_4 : decode cX7_print 4 = .ok (.invokevirtual 159, 3) := by decide +kernel
theorem dX7_print_7 : decode cX7_print 7 = .ok (.ifCond .ne 5, 3) := by decide +kernel
theorem dX7_print_10 : decode cX7_print 10 = .ok (.iconst (-1), 1) := by decide +kernel
theorem dX7_print_11 : decode cX7_print 11 = .ok (.ireturn, 1) := by decide +kernel
theorem dX7_print_12 : decode cX7_print 12 = .ok (.aload_n 0, 1) := by decide +kernel
theorem dX7_print_13 : decode cX7_print 13 = .ok (.getfield 47, 3) := by decide +kernel
theorem dX7_print_16 : decode cX7_print 16 = .ok (.aload_n 0, 1) := by decide +kernel
theorem dX7_print_17 : decode cX7_print 17 = .ok (.getfield 37, 3) := by decide +kernel
theorem dX7_print_20 : decode cX7_print 20 = .ok (.invokevirtual 163, 3) := by decide +kernel
theorem dX7_print_23 : decode cX7_print 23 = .ok (.aload_n 0, 1) := by decide +kernel
theorem dX7_print_24 : decode cX7_print 24 = .ok (.getfield 47, 3) := by decide +kernel
theorem dX7_print_27 : decode cX7_print 27 = .ok (.getfield 167, 3) := by decide +kernel
theorem dX7_print_30 : decode cX7_print 30 = .ok (.ireturn, 1) := by decide +kernel
theorem dX7_octet_0 : decode cX7_octet 0 = .ok (.iload_n 1, 1) := by decide +kernel
theorem dX7_octet_1 : decode cX7_octet 1 = .ok (.ifCond .lt 26, 3) := by decide +kernel
theorem dX7_octet_4 : decode cX7_octet 4 = .ok (.iload_n 1, 1) := by decide +kernel
theorem dX7_octet_5 : decode cX7_octet 5 = .ok (.aload_n 0, 1) := by decide +kernel
theorem dX7_octet_6 : decode cX7_octet 6 = .ok (.getfield 47, 3) := by decide +kernel
theorem dX7_octet_9 : decode cX7_octet 9 = .ok (.getfield 167, 3) := by decide +kernel
theorem dX7_octet_12 : decode cX7_octet 12 = .ok (.if_icmp .ge 15, 3) := by decide +kernel
theorem dX7_octet_15 : decode cX7_octet 15 = .ok (.aload_n 0, 1) := by decide +kernel
theorem dX7_octet_16 : decode cX7_octet 16 = .ok (.getfield 47, 3) := by decide +kernel
theorem dX7_octet_19 : decode cX7_octet 19 = .ok (.getfield 170, 3) := by decide +kernel
theorem dX7_octet_22 : decode cX7_octet 22 = .ok (.iload_n 1, 1) := by decide +kernel
theorem dX7_octet_23 : decode cX7_octet 23 = .ok (.baload, 1) := by decide +kernel
theorem dX7_octet_24 : decode cX7_octet 24 = .ok (.goto 4, 3) := by decide +kernel
theorem dX7_octet_27 : decode cX7_octet 27 = .ok (.iconst (-1), 1) := by decide +kernel
theorem dX7_octet_28 : decode cX7_octet 28 = .ok (.ireturn, 1) := by decide +kernel
set_option maxRecDepth 20000 in
theorem ggX7_steps_X7_requireCommand : GoodIn wsX7_steps wsX7_requireCommand := goodIn_ca (goodIn_r _ [7, 8, 9, 2, 10, 26, 27, 28, 29, 30, 31, 32, 33, 34, 35, 36, 37, 38, 39, 40, 41, 42, 43] (by decide +kernel) (by decide +kernel)) (goodIn_sub (fun _ h => List.mem_cons_of_mem _ (List.mem_append_right _ h)) (by decide +kernel))
set_option maxRecDepth 20000 in
theorem gX7_steps_X7_requireCommand : GoodIn wsX7_steps (wsV RX7 107 RX7 yX7_requireCommand wsX7_requireCommand) := goodIn_app (goodIn_of _ (by decide +kernel)) ggX7_steps_X7_requireCommand
set_option maxRecDepth 20000 in
theorem ggX7_steps_X5_exists : GoodIn wsX7_steps wsX5_exists := goodIn_r _ [15, 16, 44, 45, 46, 47, 48, 49, 50, 51] (by decide +kernel) (by decide +kernel)
set_option maxRecDepth 20000 in
theorem gX7_steps_X5_exists : GoodIn wsX7_steps (wsV RX7 159 RX5 yX5_exists wsX5_exists) := goodIn_app (goodIn_of _ (by decide +kernel)) ggX7_steps_X5_exists
set_option maxRecDepth 20000 in
theorem ggX7_steps_X5_stepsTo : GoodIn wsX7_steps wsX5_stepsTo := goodIn_r _ [20, 21, 22, 23, 24, 25, 40, 41, 42, 43, 44, 45, 46, 47, 48, 49, 50, 51] (by decide +kernel) (by decide +kernel)
set_option maxRecDepth 20000 in
theorem gX7_steps_X5_stepsTo : GoodIn wsX7_steps (wsV RX7 173 RX5 yX5_stepsTo wsX5_stepsTo) := goodIn_app (goodIn_of _ (by decide +kernel)) ggX7_steps_X5_stepsTo
theorem dX7_steps_0 : decode cX7_steps 0 = .ok (.aload_n 0, 1) := by decide +kernel
theorem dX7_steps_1 : decode cX7_steps 1 = .ok (.iload_n 1, 1) := by decide +kernel
theorem dX7_steps_2 : decode cX7_steps 2 = .ok (.invokevirtual 107, 3) := by decide +kernel
theorem dX7_steps_5 : decode cX7_steps 5 = .ok (.aload_n 0, 1) := by decide +kernel
theorem dX7_steps_6 : decode cX7_steps 6 = .ok (.getfield 37, 3) := by decide +kernel
theorem dX7_steps_9 : decode cX7_steps 9 = .ok (.invokevirtual 159, 3) := by decide +kernel
theorem dX7_steps_12 : decode cX7_steps 12 = .ok (.ifCond .eq 18, 3) := by decide +kernel
theorem dX7_steps_15 : decode cX7_steps 15 = .ok (.aload_n 0, 1) := by decide +kernel
theorem dX7_steps_16 : decode cX7_steps 16 = .ok (.getfield 37, 3) := by decide +kernel
theorem dX7_steps_19 : decode cX7_steps 19 = .ok (.iload_n 1, 1) := by decide +kernel
theorem dX7_steps_20 : decode cX7_steps 20 = .ok (.aload_n 0, 1) := by decide +kernel
theorem dX7_steps_21 : decode cX7_steps 21 = .ok (.getfield 10, 3) := by decide +kernel
theorem dX7_steps_24 : decode cX7_steps 24 = .ok (.invokevirtual 173, 3) := by decide +kernel
theorem dX7_steps_27 : decode cX7_steps 27 = .ok (.goto 4, 3) := by decide +kernel
theorem dX7_steps_30 : decode cX7_steps 30 = .ok (.iconst (-1), 1) := by decide +kernel
theorem dX7_steps_31 : decode cX7_steps 31 = .ok (.ireturn, 1) := by decide +kernel
set_option maxRecDepth 20000 in
theorem ggX7_place_X7_requireCommand : GoodIn wsX7_place wsX7_requireCommand := goodIn_ca (goodIn_r _ [6, 7, 8, 9, 10, 30, 31, 32, 33, 34, 35, 36, 37, 38, 39, 40, 41, 42, 43, 44, 45, 46, 47] (by decide +kernel) (by decide +kernel)) (goodIn_sub (fun _ h => List.mem_cons_of_mem _ (List.mem_append_right _ h)) (by decide +kernel))
set_option maxRecDepth 20000 in
theorem gX7_place_X7_requireCommand : GoodIn wsX7_place (wsV RX7 107 RX7 yX7_requireCommand wsX7_requireCommand) := goodIn_app (goodIn_of _ (by decide +kernel)) ggX7_place_X7_requireCommand
set_option maxRecDepth 20000 in
theorem ggX7_place_X5_exists : GoodIn wsX7_place wsX5_exists := goodIn_r _ [15, 16, 48, 49, 50, 51, 52, 53, 54, 55] (by decide +kernel) (by decide +kernel)
set_option maxRecDepth 20000 in
theorem gX7_place_X5_exists : GoodIn wsX7_place (wsV RX7 159 RX5 yX5_exists wsX5_exists) := goodIn_app (goodIn_of _ (by decide +kernel)) ggX7_place_X5_exists
set_option maxRecDepth 20000 in
theorem ggX7_place_X5_wayLength : GoodIn wsX7_place wsX5_wayLength := goodIn_r _ [20, 21, 22, 48, 49, 50, 51, 52, 53, 54, 55] (by decide +kernel) (by decide +kernel)
set_option maxRecDepth 20000 in
theorem gX7_place_X5_wayLength : GoodIn wsX7_place (wsV RX7 177 RX5 yX5_wayLength wsX5_wayLength) := goodIn_app (goodIn_of _ (by decide +kernel)) ggX7_place_X5_wayLength
set_option maxRecDepth 20000 in
theorem ggX7_place_X5_placeOnWay : GoodIn wsX7_place wsX5_placeOnWay := goodIn_r _ [26, 27, 21, 28, 22, 29, 18, 19, 14, 20, 48, 49, 50, 51, 52, 53, 54, 55] (by decide +kernel) (by decide +kernel)
set_option maxRecDepth 20000 in
theorem gX7_place_X5_placeOnWay : GoodIn wsX7_place (wsV RX7 181 RX5 yX5_placeOnWay wsX5_placeOnWay) := goodIn_app (goodIn_of _ (by decide +kernel)) ggX7_place_X5_placeOnWay
theorem dX7_place_0 : decode cX7_place 0 = .ok (.aload_n 0, 1) := by decide +kernel
theorem dX7_place_1 : decode cX7_place 1 = .ok (.iload_n 1, 1) := by decide +kernel
theorem dX7_place_2 : decode cX7_place 2 = .ok (.invokevirtual 107, 3) := by decide +kernel
theorem dX7_place_5 : decode cX7_place 5 = .ok (.aload_n 0, 1) := by decide +kernel
theorem dX7_place_6 : decode cX7_place 6 = .ok (.getfield 37, 3) := by decide +kernel
theorem dX7_place_9 : decode cX7_place 9 = .ok (.invokevirtual 159, 3) := by decide +kernel
theorem dX7_place_12 : decode cX7_place 12 = .ok (.ifCond .eq 19, 3) := by decide +kernel
theorem dX7_place_15 : decode cX7_place 15 = .ok (.iload_n 2, 1) := by decide +kernel
theorem dX7_place_16 : decode cX7_place 16 = .ok (.ifCond .lt 15, 3) := by decide +kernel
theorem dX7_place_19 : decode cX7_place 19 = .ok (.iload_n 2, 1) := by decide +kernel
theorem dX7_place_20 : decode cX7_place 20 = .ok (.aload_n 0, 1) := by decide +kernel
theorem dX7_place_21 : decode cX7_place 21 = .ok (.getfield 37, 3) := by decide +kernel
theorem dX7_place_24 : decode cX7_place 24 = .ok (.iload_n 1, 1) := by decide +kernel
theorem dX7_place_25 : decode cX7_place 25 = .ok (.invokevirtual 177, 3) := by decide +kernel
theorem dX7_place_28 : decode cX7_place 28 = .ok (.if_icmp .lt 5, 3) := by decide +kernel
theorem dX7_place_31 : decode cX7_place 31 = .ok (.iconst 0, 1) := by decide +kernel
theorem dX7_place_32 : decode cX7_place 32 = .ok (.ireturn, 1) := by decide +kernel
theorem dX7_place_33 : decode cX7_place 33 = .ok (.aload_n 0, 1) := by decide +kernel
theorem dX7_place_34 : decode cX7_place 34 = .ok (.getfield 37, 3) := by decide +kernel
theorem dX7_place_37 : decode cX7_place 37 = .ok (.iload_n 1, 1) := by decide +kernel
theorem dX7_place_38 : decode cX7_place 38 = .ok (.iload_n 2, 1) := by decide +kernel
theorem dX7_place_39 : decode cX7_place 39 = .ok (.invokevirtual 181, 3) := by decide +kernel
theorem dX7_place_42 : decode cX7_place 42 = .ok (.ireturn, 1) := by decide +kernel
set_option maxRecDepth 20000 in
theorem ggX7_misled_X7_requireCommand : GoodIn wsX7_misled wsX7_requireCommand := goodIn_ca (goodIn_r _ [7, 8, 9, 2, 10, 74, 75, 76, 77, 78, 79, 80, 81, 82, 83, 84, 85, 86, 87, 88, 89, 90, 91] (by decide +kernel) (by decide +kernel)) (goodIn_sub (fun _ h => List.mem_cons_of_mem _ (List.mem_append_right _ h)) (by decide +kernel))
set_option maxRecDepth 20000 in
theorem gX7_misled_X7_requireCommand : GoodIn wsX7_misled (wsV RX7 107 RX7 yX7_requireCommand wsX7_requireCommand) := goodIn_app (goodIn_of _ (by decide +kernel)) ggX7_misled_X7_requireCommand
set_option maxRecDepth 20000 in
theorem ggX7_misled_X5_exists : GoodIn wsX7_misled wsX5_exists := goodIn_r _ [15, 16, 92, 93, 94, 95, 96, 97, 98, 99] (by decide +kernel) (by decide +kernel)
set_option maxRecDepth 20000 in
theorem gX7_misled_X5_exists : GoodIn wsX7_misled (wsV RX7 159 RX5 yX5_exists wsX5_exists) := goodIn_app (goodIn_of _ (by decide +kernel)) ggX7_misled_X5_exists
set_option maxRecDepth 20000 in
theorem ggX7_misled_X5_wayLength : GoodIn wsX7_misled wsX5_wayLength := goodIn_r _ [20, 21, 22, 92, 93, 94, 95, 96, 97, 98, 99] (by decide +kernel) (by decide +kernel)
set_option maxRecDepth 20000 in
theorem gX7_misled_X5_wayLength : GoodIn wsX7_misled (wsV RX7 177 RX5 yX5_wayLength wsX5_wayLength) := goodIn_app (goodIn_of _ (by decide +kernel)) ggX7_misled_X5_wayLength
set_option maxRecDepth 20000 in
theorem ggX7_misled_X5_misleadsAt : GoodIn wsX7_misled wsX5_misleadsAt := goodIn_r _ [26, 27, 28, 29, 30, 14, 31, 21, 22, 32, 18, 19, 20, 33, 34, 35, 36, 37, 38, 39, 40, 41, 42, 43, 44, 45, 46, 47, 48, 49, 50, 51, 52, 53, 54, 55, 56, 57, 58, 59, 60, 61, 62, 63, 64, 65, 66, 67, 68, 69, 70, 71, 72, 73, 92, 93, 94, 95, 96, 97, 98, 99, 88, 89, 90, 91] (by decide +kernel) (by decide +kernel)
set_option maxRecDepth 20000 in
theorem gX7_misled_X5_misleadsAt : GoodIn wsX7_misled (wsV RX7 185 RX5 yX5_misleadsAt wsX5_misleadsAt) := goodIn_app (goodIn_of _ (by decide +kernel)) ggX7_misled_X5_misleadsAt
theorem dX7_misled_0 : decode cX7_misled 0 = .ok (.aload_n 0, 1) := by decide +kernel
theorem dX7_misled_1 : decode cX7_misled 1 = .ok (.iload_n 1, 1) := by decide +kernel
theorem dX7_misled_2 : decode cX7_misled 2 = .ok (.invokevirtual 107, 3) := by decide +kernel
theorem dX7_misled_5 : decode cX7_misled 5 = .ok (.aload_n 0, 1) := by decide +kernel
theorem dX7_misled_6 : decode cX7_misled 6 = .ok (.getfield 37, 3) := by decide +kernel
theorem dX7_misled_9 : decode cX7_misled 9 = .ok (.invokevirtual 159, 3) := by decide +kernel
theorem dX7_misled_12 : decode cX7_misled 12 = .ok (.ifCond .ne 5, 3) := by decide +kernel
theorem dX7_misled_15 : decode cX7_misled 15 = .ok (.iconst (-1), 1) := by decide +kernel
theorem dX7_misled_16 : decode cX7_misled 16 = .ok (.ireturn, 1) := by decide +kernel
theorem dX7_misled_17 : decode cX7_misled 17 = .ok (.aload_n 0, 1) := by decide +kernel
theorem dX7_misled_18 : decode cX7_misled 18 = .ok (.getfield 37, 3) := by decide +kernel
theorem dX7_misled_21 : decode cX7_misled 21 = .ok (.iload_n 1, 1) := by decide +kernel
theorem dX7_misled_22 : decode cX7_misled 22 = .ok (.invokevirtual 177, 3) := by decide +kernel
theorem dX7_misled_25 : decode cX7_misled 25 = .ok (.istore_n 2, 1) := by decide +kernel
theorem dX7_misled_26 : decode cX7_misled 26 = .ok (.iconst 0, 1) := by decide +kernel
theorem dX7_misled_27 : decode cX7_misled 27 = .ok (.istore_n 3, 1) := by decide +kernel
theorem dX7_misled_28 : decode cX7_misled 28 = .ok (.iload_n 3, 1) := by decide +kernel
theorem dX7_misled_29 : decode cX7_misled 29 = .ok (.iload_n 2, 1) := by decide +kernel
theorem dX7_misled_30 : decode cX7_misled 30 = .ok (.if_icmp .ge 27, 3) := by decide +kernel
theorem dX7_misled_33 : decode cX7_misled 33 = .ok (.aload_n 0, 1) := by decide +kernel
theorem dX7_misled_34 : decode cX7_misled 34 = .ok (.getfield 37, 3) := by decide +kernel
theorem dX7_misled_37 : decode cX7_misled 37 = .ok (.iload_n 1, 1) := by decide +kernel
theorem dX7_misled_38 : decode cX7_misled 38 = .ok (.iload_n 3, 1) := by decide +kernel
theorem dX7_misled_39 : decode cX7_misled 39 = .ok (.aload_n 0, 1) := by decide +kernel
theorem dX7_misled_40 : decode cX7_misled 40 = .ok (.getfield 10, 3) := by decide +kernel
theorem dX7_misled_43 : decode cX7_misled 43 = .ok (.invokevirtual 185, 3) := by decide +kernel
theorem dX7_misled_46 : decode cX7_misled 46 = .ok (.ifCond .eq 5, 3) := by decide +kernel
theorem dX7_misled_49 : decode cX7_misled 49 = .ok (.iload_n 3, 1) := by decide +kernel
theorem dX7_misled_50 : decode cX7_misled 50 = .ok (.ireturn, 1) := by decide +kernel
theorem dX7_misled_51 : decode cX7_misled 51 = .ok (.iinc 3 1, 3) := by decide +kernel
theorem dX7_misled_54 : decode cX7_misled 54 = .ok (.goto (-26), 3) := by decide +kernel
theorem dX7_misled_57 : decode cX7_misled 57 = .ok (.iconst (-1), 1) := by decide +kernel
theorem dX7_misled_58 : decode cX7_misled 58 = .ok (.ireturn, 1) := by decide +kernel
set_option maxRecDepth 20000 in
theorem ggX7_free_X4_init : GoodIn wsX7_free wsX4_init := goodIn_r _ [11, 12, 13, 14, 15, 16, 17, 18, 19, 20, 77, 78, 79, 80] (by decide +kernel) (by decide +kernel)
set_option maxRecDepth 20000 in
theorem gX7_free_X4_init_n191 : GoodIn wsX7_free (wsX4_init) := ggX7_free_X4_init
set_option maxRecDepth 20000 in
theorem ggX7_free_X4_leastCost : GoodIn wsX7_free wsX4_leastCost := goodIn_r _ [24, 25, 26, 27, 28, 8, 29, 30, 16, 31, 17, 19, 32, 33, 34, 35, 20, 36, 37, 38, 39, 40, 41, 42, 43, 44, 45, 46, 47, 48, 49, 50, 51, 52, 53, 54, 55, 56, 57, 58, 73, 74, 75, 76, 77, 78, 79, 80] (by decide +kernel) (by decide +kernel)
set_option maxRecDepth 20000 in
theorem gX7_free_X4_leastCost : GoodIn wsX7_free (wsV RX7 192 RX4 yX4_leastCost wsX4_leastCost) := goodIn_app (goodIn_of _ (by decide +kernel)) ggX7_free_X4_leastCost
theorem dX7_free_0 : decode cX7_free 0 = .ok (.aload_n 0, 1) := by decide +kernel
theorem dX7_free_1 : decode cX7_free 1 = .ok (.getfield 10, 3) := by decide +kernel
theorem dX7_free_4 : decode cX7_free 4 = .ok (.getfield 84, 3) := by decide +kernel
theorem dX7_free_7 : decode cX7_free 7 = .ok (.ifCond .eq 15, 3) := by decide +kernel
theorem dX7_free_10 : decode cX7_free 10 = .ok (.aload_n 0, 1) := by decide +kernel
theorem dX7_free_11 : decode cX7_free 11 = .ok (.getfield 10, 3) := by decide +kernel
theorem dX7_free_14 : decode cX7_free 14 = .ok (.getfield 84, 3) := by decide +kernel
theorem dX7_free_17 : decode cX7_free 17 = .ok (.bipush 10, 2) := by decide +kernel
theorem dX7_free_19 : decode cX7_free 19 = .ok (.if_icmp .le 7, 3) := by decide +kernel
theorem dX7_free_22 : decode cX7_free 22 = .ok (.ldc2_w 142, 3) := by decide +kernel
theorem dX7_free_25 : decode cX7_free 25 = .ok (.lreturn, 1) := by decide +kernel
theorem dX7_free_26 : decode cX7_free 26 = .ok (.aload_n 0, 1) := by decide +kernel
theorem dX7_free_27 : decode cX7_free 27 = .ok (.getfield 74, 3) := by decide +kernel
theorem dX7_free_30 : decode cX7_free 30 = .ok (.ifCond .ne 41, 3) := by decide +kernel
theorem dX7_free_33 : decode cX7_free 33 = .ok (.aload_n 0, 1) := by decide +kernel
theorem dX7_free_34 : decode cX7_free 34 = .ok (.getfield 66, 3) := by decide +kernel
theorem dX7_free_37 : decode cX7_free 37 = .ok (.ifnonnull 14, 3) := by decide +kernel
theorem dX7_free_40 : decode cX7_free 40 = .ok (.aload_n 0, 1) := by decide +kernel
theorem dX7_free_41 : decode cX7_free 41 = .ok (.new 189, 3) := by decide +kernel
theorem dX7_free_44 : decode cX7_free 44 = .ok (.dup, 1) := by decide +kernel
theorem dX7_free_45 : decode cX7_free 45 = .ok (.invokespecial 191, 3) := by decide +kernel
theorem dX7_free_48 : decode cX7_free 48 = .ok (.putfield 66, 3) := by decide +kernel
theorem dX7_free_51 : decode cX7_free 51 = .ok (.aload_n 0, 1) := by decide +kernel
theorem dX7_free_52 : decode cX7_free 52 = .ok (.aload_n 0, 1) := by decide +kernel
theorem dX7_free_53 : decode cX7_free 53 = .ok (.getfield 66, 3) := by decide +kernel
theorem dX7_free_56 : decode cX7_free 56 = .ok (.aload_n 0, 1) := by decide +kernel
theorem dX7_free_57 : decode cX7_free 57 = .ok (.getfield 10, 3) := by decide +kernel
theorem dX7_free_60 : decode cX7_free 60 = .ok (.invokevirtual 192, 3) := by decide +kernel
theorem dX7_free_63 : decode cX7_free 63 = .ok (.putfield 70, 3) := by decide +kernel
theorem dX7_free_66 : decode cX7_free 66 = .ok (.aload_n 0, 1) := by decide +kernel
theorem dX7_free_67 : decode cX7_free 67 = .ok (.iconst 1, 1) := by decide +kernel
theorem dX7_free_68 : decode cX7_free 68 = .ok (.putfield 74, 3) := by decide +kernel
theorem dX7_free_71 : decode cX7_free 71 = .ok (.aload_n 0, 1) := by decide +kernel
theorem dX7_free_72 : decode cX7_free 72 = .ok (.getfield 70, 3) := by decide +kernel
theorem dX7_free_75 : decode cX7_free 75 = .ok (.lreturn, 1) := by decide +kernel
set_option maxRecDepth 20000 in
theorem ggX7_best_X7_requireExchanges : GoodIn wsX7_best wsX7_requireExchanges := goodIn_ca (goodIn_r _ [10, 11, 12] (by decide +kernel) (by decide +kernel)) (goodIn_sub (fun _ h => List.mem_cons_of_mem _ (List.mem_append_right _ h)) (by decide +kernel))
set_option maxRecDepth 20000 in
theorem gX7_best_X7_requireExchanges : GoodIn wsX7_best (wsV RX7 195 RX7 yX7_requireExchanges wsX7_requireExchanges) := goodIn_app (goodIn_of _ (by decide +kernel)) ggX7_best_X7_requireExchanges
set_option maxRecDepth 20000 in
theorem ggX7_best_X7_tellsBest : GoodIn wsX7_best wsX7_tellsBest := goodIn_r _ [16, 4, 3, 17, 18, 19, 20, 21, 22, 23, 95, 96, 97, 98, 99, 100, 101, 102, 103, 104, 105, 106, 107, 108, 120, 121, 122, 123, 124, 125, 126, 127, 128, 129, 130, 131] (by decide +kernel) (by decide +kernel)
set_option maxRecDepth 20000 in
theorem gX7_best_X7_tellsBest : GoodIn wsX7_best (wsV RX7 198 RX7 yX7_tellsBest wsX7_tellsBest) := goodIn_app (goodIn_of _ (by decide +kernel)) ggX7_best_X7_tellsBest
set_option maxRecDepth 20000 in
theorem ggX7_best_X0_reckon : GoodIn wsX7_best wsX0_reckon := goodIn_r _ [28, 29, 30, 31, 32, 33, 34, 35, 36, 37, 38, 39, 27, 40, 41, 42, 43, 44, 45, 46, 47, 48, 49, 50, 51, 52, 53, 21, 54, 55, 56, 57, 58, 59, 60, 61, 62, 63, 64, 65, 66, 67, 68, 69, 70, 71, 72, 73, 74, 75, 76, 77, 78, 79, 80, 81, 82, 83, 84, 85, 86, 87, 88, 89, 90, 91, 92, 93, 94, 109, 110, 111, 112, 113, 114, 115, 116, 117, 118, 119, 120, 121, 122, 123, 124, 125, 126, 127, 128, 129, 130, 131] (by decide +kernel) (by decide +kernel)
set_option maxRecDepth 20000 in
theorem gX7_best_X0_reckon : GoodIn wsX7_best (wsV RX7 201 RX0 yX0_reckon wsX0_reckon) := goodIn_app (goodIn_of _ (by decide +kernel)) ggX7_best_X0_reckon
theorem dX7_best_0 : decode cX7_best 0 = .ok (.aload_n 0, 1) := by decide +kernel
theorem dX7_best_1 : decode cX7_best 1 = .ok (.iload_n 1, 1) := by decide +kernel
theorem dX7_best_2 : decode cX7_best 2 = .ok (.invokevirtual 195, 3) := by decide +kernel
theorem dX7_best_5 : decode cX7_best 5 = .ok (.aload_n 0, 1) := by decide +kernel
theorem dX7_best_6 : decode cX7_best 6 = .ok (.invokevirtual 198, 3) := by decide +kernel
theorem dX7_best_9 : decode cX7_best 9 = .ok (.ifCond .ne 7, 3) := by decide +kernel
theorem dX7_best_12 : decode cX7_best 12 = .ok (.ldc2_w 142, 3) := by decide +kernel
theorem dX7_best_15 : decode cX7_best 15 = .ok (.lreturn, 1) := by decide +kernel
theorem dX7_best_16 : decode cX7_best 16 = .ok (.aload_n 0, 1) := by decide +kernel
theorem dX7_best_17 : decode cX7_best 17 = .ok (.getfield 54, 3) := by decide +kernel
theorem dX7_best_20 : decode cX7_best 20 = .ok (.iload_n 1, 1) := by decide +kernel
theorem dX7_best_21 : decode cX7_best 21 = .ok (.aload_n 0, 1) := by decide +kernel
theorem dX7_best_22 : decode cX7_best 22 = .ok (.getfield 10, 3) := by decide +kernel
theorem dX7_best_25 : decode cX7_best 25 = .ok (.aload_n 0, 1) := by decide +kernel
theorem dX7_best_26 : decode cX7_best 26 = .ok (.getfield 37, 3) := by decide +kernel
theorem dX7_best_29 : decode cX7_best 29 = .ok (.invokevirtual 201, 3) := by decide +kernel
theorem dX7_best_32 : decode cX7_best 32 = .ok (.aload_n 0, 1) := by decide +kernel
theorem dX7_best_33 : decode cX7_best 33 = .ok (.getfield 54, 3) := by decide +kernel
theorem dX7_best_36 : decode cX7_best 36 = .ok (.getfield 204, 3) := by decide +kernel
theorem dX7_best_39 : decode cX7_best 39 = .ok (.iload_n 1, 1) := by decide +kernel
theorem dX7_best_40 : decode cX7_best 40 = .ok (.laload, 1) := by decide +kernel
theorem dX7_best_41 : decode cX7_best 41 = .ok (.lreturn, 1) := by decide +kernel
set_option maxRecDepth 20000 in
theorem ggX7_exchange_X7_requireExchanges : GoodIn wsX7_exchange wsX7_requireExchanges := goodIn_ca (goodIn_r _ [11, 1, 2] (by decide +kernel) (by decide +kernel)) (goodIn_sub (fun _ h => List.mem_cons_of_mem _ (List.mem_append_right _ h)) (by decide +kernel))
set_option maxRecDepth 20000 in
theorem gX7_exchange_X7_requireExchanges : GoodIn wsX7_exchange (wsV RX7 195 RX7 yX7_requireExchanges wsX7_requireExchanges) := goodIn_app (goodIn_of _ (by decide +kernel)) ggX7_exchange_X7_requireExchanges
set_option maxRecDepth 20000 in
theorem ggX7_exchange_X7_tellsBest : GoodIn wsX7_exchange wsX7_tellsBest := goodIn_r _ [15, 5, 4, 16, 17, 18, 19, 20, 21, 22, 98, 99, 100, 101, 102, 103, 104, 105, 106, 107, 108, 109, 110, 111, 123, 124, 125, 126, 127, 128, 129, 130, 131, 132, 133, 134] (by decide +kernel) (by decide +kernel)
set_option maxRecDepth 20000 in
theorem gX7_exchange_X7_tellsBest : GoodIn wsX7_exchange (wsV RX7 198 RX7 yX7_tellsBest wsX7_tellsBest) := goodIn_app (goodIn_of _ (by decide +kernel)) ggX7_exchange_X7_tellsBest
set_option maxRecDepth 20000 in
theorem ggX7_exchange_X0_reckon : GoodIn wsX7_exchange wsX0_reckon := goodIn_r _ [27, 28, 29, 30, 31, 32, 33, 34, 35, 36, 37, 38, 26, 39, 40, 41, 42, 43, 44, 45, 46, 47, 48, 49, 50, 51, 52, 20, 53, 54, 55, 56, 57, 58, 59, 60, 61, 62, 63, 64, 65, 66, 67, 68, 69, 70, 71, 72, 73, 74, 75, 76, 77, 78, 79, 80, 81, 82, 83, 84, 85, 86, 87, 88, 89, 90, 91, 92, 93, 112, 113, 114, 115, 116, 117, 118, 119, 120, 121, 122, 123, 124, 125, 126, 127, 128, 129, 130, 131, 132, 133, 134] (by decide +kernel) (by decide +kernel)
set_option maxRecDepth 20000 in
theorem gX7_exchange_X0_reckon : GoodIn wsX7_exchange (wsV RX7 201 RX0 yX0_reckon wsX0_reckon) := goodIn_app (goodIn_of _ (by decide +kernel)) ggX7_exchange_X0_reckon
set_option maxRecDepth 20000 in
theorem ggX7_exchange_X0_partner : GoodIn wsX7_exchange wsX0_partner := goodIn_r _ [97, 31, 64, 65, 112, 113, 114, 115, 116, 117, 118, 119, 120, 121, 122] (by decide +kernel) (by decide +kernel)
set_option maxRecDepth 20000 in
theorem gX7_exchange_X0_partner : GoodIn wsX7_exchange (wsV RX7 213 RX0 yX0_partner wsX0_partner) := goodIn_app (goodIn_of _ (by decide +kernel)) ggX7_exchange_X0_partner
theorem dX7_exchange_0 : decode cX7_exchange 0 = .ok (.aload_n 0, 1) := by decide +kernel
theorem dX7_exchange_1 : decode cX7_exchange 1 = .ok (.iload_n 1, 1) := by decide +kernel
theorem dX7_exchange_2 : decode cX7_exchange 2 = .ok (.invokevirtual 195, 3) := by decide +kernel
theorem dX7_exchange_5 : decode cX7_exchange 5 = .ok (.iload_n 3, 1) := by decide +kernel
theorem dX7_exchange_6 : decode cX7_exchange 6 = .ok (.ifCond .eq 18, 3) := by decide +kernel
theorem dX7_exchange_9 : decode cX7_exchange 9 = .ok (.iload_n 3, 1) := by decide +kernel
theorem dX7_exchange_10 : decode cX7_exchange 10 = .ok (.iconst 1, 1) := by decide +kernel
theorem dX7_exchange_11 : decode cX7_exchange 11 = .ok (.if_icmp .eq 13, 3) := by decide +kernel
theorem dX7_exchange_14 : decode cX7_exchange 14 = .ok (.new 110, 3) := by decide +kernel
theorem dX7_exchange_17 : decode cX7_exchange 17 = .ok (.dup, 1) := by decide +kernel
theorem dX7_exchange_18 : decode cX7_exchange 18 = .ok (.ldc 208, 2) := by decide +kernel
theorem dX7_exchange_20 : decode cX7_exchange 20 = .ok (.invokespecial 114, 3) := by decide +kernel
theorem dX7_exchange_23 : decode cX7_exchange 23 = .ok (.athrow, 1) := by decide +kernel
theorem dX7_exchange_24 : decode cX7_exchange 24 = .ok (.aload_n 0, 1) := by decide +kernel
theorem dX7_exchange_25 : decode cX7_exchange 25 = .ok (.invokevirtual 198, 3) := by decide +kernel
theorem dX7_exchange_28 : decode cX7_exchange 28 = .ok (.ifCond .ne 5, 3) := by decide +kernel
theorem dX7_exchange_31 : decode cX7_exchange 31 = .ok (.iconst (-1), 1) := by decide +kernel
theorem dX7_exchange_32 : decode cX7_exchange 32 = .ok (.ireturn, 1) := by decide +kernel
theorem dX7_exchange_33 : decode cX7_exchange 33 = .ok (.aload_n 0, 1) := by decide +kernel
theorem dX7_exchange_34 : decode cX7_exchange 34 = .ok (.getfield 54, 3) := by decide +kernel
theorem dX7_exchange_37 : decode cX7_exchange 37 = .ok (.iload_n 1, 1) := by decide +kernel
theorem dX7_exchange_38 : decode cX7_exchange 38 = .ok (.aload_n 0, 1) := by decide +kernel
theorem dX7_exchange_39 : decode cX7_exchange 39 = .ok (.getfield 10, 3) := by decide +kernel
theorem dX7_exchange_42 : decode cX7_exchange 42 = .ok (.aload_n 0, 1) := by decide +kernel
theorem dX7_exchange_43 : decode cX7_exchange 43 = .ok (.getfield 37, 3) := by decide +kernel
theorem dX7_exchange_46 : decode cX7_exchange 46 = .ok (.invokevirtual 201, 3) := by decide +kernel
theorem dX7_exchange_49 : decode cX7_exchange 49 = .ok (.iload_n 2, 1) := by decide +kernel
theorem dX7_exchange_50 : decode cX7_exchange 50 = .ok (.ifCond .lt 16, 3) := by decide +kernel
theorem dX7_exchange_53 : decode cX7_exchange 53 = .ok (.iload_n 2, 1) := by decide +kernel
theorem dX7_exchange_54 : decode cX7_exchange 54 = .ok (.aload_n 0, 1) := by decide +kernel
theorem dX7_exchange_55 : decode cX7_exchange 55 = .ok (.getfield 54, 3) := by decide +kernel
theorem dX7_exchange_58 : decode cX7_exchange 58 = .ok (.getfield 210, 3) := by decide +kernel
theorem dX7_exchange_61 : decode cX7_exchange 61 = .ok (.iload_n 1, 1) := by decide +kernel
theorem dX7_exchange_62 : decode cX7_exchange 62 = .ok (.iaload, 1) := by decide +kernel
theorem dX7_exchange_63 : decode cX7_exchange 63 = .ok (.if_icmp .lt 5, 3) := by decide +kernel
theorem dX7_exchange_66 : decode cX7_exchange 66 = .ok (.iconst (-1), 1) := by decide +kernel
theorem dX7_exchange_67 : decode cX7_exchange 67 = .ok (.ireturn, 1) := by decide +kernel
theorem dX7_exchange_68 : decode cX7_exchange 68 = .ok (.aload_n 0, 1) := by decide +kernel
theorem dX7_exchange_69 : decode cX7_exchange 69 = .ok (.getfield 54, 3) := by decide +kernel
theorem dX7_exchange_72 : decode cX7_exchange 72 = .ok (.iload_n 1, 1) := by decide +kernel
theorem dX7_exchange_73 : decode cX7_exchange 73 = .ok (.iload_n 2, 1) := by decide +kernel
theorem dX7_exchange_74 : decode cX7_exchange 74 = .ok (.iload_n 3, 1) := by decide +kernel
theorem dX7_exchange_75 : decode cX7_exchange 75 = .ok (.invokevirtual 213, 3) := by decide +kernel
theorem dX7_exchange_78 : decode cX7_exchange 78 = .ok (.ireturn, 1) := by decide +kernel
set_option maxRecDepth 20000 in
theorem ggX7_swap_X7_requireCommand : GoodIn wsX7_swap wsX7_requireCommand := goodIn_ca (goodIn_r _ [9, 10, 11, 4, 12, 49, 50, 51, 52, 53, 54, 55, 56, 57, 58, 59, 60, 61, 62, 63, 64, 65, 66] (by decide +kernel) (by decide +kernel)) (goodIn_sub (fun _ h => List.mem_cons_of_mem _ (List.mem_append_right _ h)) (by decide +kernel))
set_option maxRecDepth 20000 in
theorem gX7_swap_X7_requireCommand : GoodIn wsX7_swap (wsV RX7 107 RX7 yX7_requireCommand wsX7_requireCommand) := goodIn_app (goodIn_of _ (by decide +kernel)) ggX7_swap_X7_requireCommand
set_option maxRecDepth 20000 in
theorem ggX7_swap_X5_exists : GoodIn wsX7_swap wsX5_exists := goodIn_r _ [17, 18, 67, 68, 69, 70, 71, 72, 73, 74] (by decide +kernel) (by decide +kernel)
set_option maxRecDepth 20000 in
theorem gX7_swap_X5_exists : GoodIn wsX7_swap (wsV RX7 159 RX5 yX5_exists wsX5_exists) := goodIn_app (goodIn_of _ (by decide +kernel)) ggX7_swap_X5_exists
set_option maxRecDepth 20000 in
theorem ggX7_swap_X5_trade : GoodIn wsX7_swap wsX5_trade := goodIn_r _ [22, 23, 24, 25, 26, 27, 16, 28, 29, 67, 68, 69, 70, 71, 72, 73, 74] (by decide +kernel) (by decide +kernel)
set_option maxRecDepth 20000 in
theorem gX7_swap_X5_trade : GoodIn wsX7_swap (wsV RX7 217 RX5 yX5_trade wsX5_trade) := goodIn_app (goodIn_of _ (by decide +kernel)) ggX7_swap_X5_trade
set_option maxRecDepth 20000 in
theorem ggX7_swap_X0_forget : GoodIn wsX7_swap wsX0_forget := goodIn_r _ [34, 35, 75, 76, 77, 78, 79, 80, 81, 82, 83, 84, 85] (by decide +kernel) (by decide +kernel)
set_option maxRecDepth 20000 in
theorem gX7_swap_X0_forget : GoodIn wsX7_swap (wsV RX7 139 RX0 yX0_forget wsX0_forget) := goodIn_app (goodIn_of _ (by decide +kernel)) ggX7_swap_X0_forget
set_option maxRecDepth 20000 in
theorem ggX7_swap_X5_totalCost : GoodIn wsX7_swap wsX5_totalCost := goodIn_r _ [39, 40, 41, 42, 43, 44, 16, 45, 46, 24, 23, 47, 48, 63, 64, 65, 66, 67, 68, 69, 70, 71, 72, 73, 74] (by decide +kernel) (by decide +kernel)
set_option maxRecDepth 20000 in
theorem gX7_swap_X5_totalCost : GoodIn wsX7_swap (wsV RX7 155 RX5 yX5_totalCost wsX5_totalCost) := goodIn_app (goodIn_of _ (by decide +kernel)) ggX7_swap_X5_totalCost
theorem dX7_swap_0 : decode cX7_swap 0 = .ok (.aload_n 0, 1) := by decide +kernel
theorem dX7_swap_1 : decode cX7_swap 1 = .ok (.iload_n 1, 1) := by decide +kernel
theorem dX7_swap_2 : decode cX7_swap 2 = .ok (.invokevirtual 107, 3) := by decide +kernel
theorem dX7_swap_5 : decode cX7_swap 5 = .ok (.aload_n 0, 1) := by decide +kernel
theorem dX7_swap_6 : decode cX7_swap 6 = .ok (.iload_n 2, 1) := by decide +kernel
theorem dX7_swap_7 : decode cX7_swap 7 = .ok (.invokevirtual 107, 3) := by decide +kernel
theorem dX7_swap_10 : decode cX7_swap 10 = .ok (.aload_n 0, 1) := by decide +kernel
theorem dX7_swap_11 : decode cX7_swap 11 = .ok (.getfield 37, 3) := by decide +kernel
theorem dX7_swap_14 : decode cX7_swap 14 = .ok (.invokevirtual 159, 3) := by decide +kernel
theorem dX7_swap_17 : decode cX7_swap 17 = .ok (.ifCond .ne 7, 3) := by decide +kernel
theorem dX7_swap_20 : decode cX7_swap 20 = .ok (.ldc2_w 142, 3) := by decide +kernel
theorem dX7_swap_23 : decode cX7_swap 23 = .ok (.lreturn, 1) := by decide +kernel
theorem dX7_swap_24 : decode cX7_swap 24 = .ok (.aload_n 0, 1) := by decide +kernel
theorem dX7_swap_25 : decode cX7_swap 25 = .ok (.getfield 37, 3) := by decide +kernel
theorem dX7_swap_28 : decode cX7_swap 28 = .ok (.iload_n 1, 1) := by decide +kernel
theorem dX7_swap_29 : decode cX7_swap 29 = .ok (.iload_n 2, 1) := by decide +kernel
theorem dX7_swap_30 : decode cX7_swap 30 = .ok (.invokevirtual 217, 3) := by decide +kernel
theorem dX7_swap_33 : decode cX7_swap 33 = .ok (.aload_n 0, 1) := by decide +kernel
theorem dX7_swap_34 : decode cX7_swap 34 = .ok (.getfield 54, 3) := by decide +kernel
theorem dX7_swap_37 : decode cX7_swap 37 = .ok (.invokevirtual 139, 3) := by decide +kernel
theorem dX7_swap_40 : decode cX7_swap 40 = .ok (.aload_n 0, 1) := by decide +kernel
theorem dX7_swap_41 : decode cX7_swap 41 = .ok (.getfield 37, 3) := by decide +kernel
theorem dX7_swap_44 : decode cX7_swap 44 = .ok (.aload_n 0, 1) := by decide +kernel
theorem dX7_swap_45 : decode cX7_swap 45 = .ok (.getfield 10, 3) := by decide +kernel
theorem dX7_swap_48 : decode cX7_swap 48 = .ok (.invokevirtual 155, 3) := by decide +kernel
theorem dX7_swap_51 : decode cX7_swap 51 = .ok (.lreturn, 1) := by decide +kernel
set_option maxRecDepth 20000 in
theorem ggX7_told_X5_exists : GoodIn wsX7_told wsX5_exists := goodIn_r _ [12, 13, 32, 33, 34, 35, 36, 37, 38, 39] (by decide +kernel) (by decide +kernel)
set_option maxRecDepth 20000 in
theorem gX7_told_X5_exists : GoodIn wsX7_told (wsV RX7 159 RX5 yX5_exists wsX5_exists) := goodIn_app (goodIn_of _ (by decide +kernel)) ggX7_told_X5_exists
theorem dX7_told_0 : decode cX7_told 0 = .ok (.iload_n 1, 1) := by decide +kernel
theorem dX7_told_1 : decode cX7_told 1 = .ok (.tableswitch 76 0 3 #[31, 39, 63, 68], 31) := by decide +kernel
theorem dX7_told_32 : decode cX7_told 32 = .ok (.aload_n 0, 1) := by decide +kernel
theorem dX7_told_33 : decode cX7_told 33 = .ok (.getfield 10, 3) := by decide +kernel
theorem dX7_told_36 : decode cX7_told 36 = .ok (.getfield 84, 3) := by decide +kernel
theorem dX7_told_39 : decode cX7_told 39 = .ok (.ireturn, 1) := by decide +kernel
theorem dX7_told_40 : decode cX7_told 40 = .ok (.aload_n 0, 1) := by decide +kernel
theorem dX7_told_41 : decode cX7_told 41 = .ok (.getfield 37, 3) := by decide +kernel
theorem dX7_told_44 : decode cX7_told 44 = .ok (.invokevirtual 159, 3) := by decide +kernel
theorem dX7_told_47 : decode cX7_told 47 = .ok (.ifCond .eq 15, 3) := by decide +kernel
theorem dX7_told_50 : decode cX7_told 50 = .ok (.aload_n 0, 1) := by decide +kernel
theorem dX7_told_51 : decode cX7_told 51 = .ok (.getfield 37, 3) := by decide +kernel
theorem dX7_told_54 : decode cX7_told 54 = .ok (.getfield 221, 3) := by decide +kernel
theorem dX7_told_57 : decode cX7_told 57 = .ok (.iconst 1, 1) := by decide +kernel
theorem dX7_told_58 : decode cX7_told 58 = .ok (.isub, 1) := by decide +kernel
theorem dX7_told_59 : decode cX7_told 59 = .ok (.goto 4, 3) := by decide +kernel
theorem dX7_told_62 : decode cX7_told 62 = .ok (.iconst 0, 1) := by decide +kernel
theorem dX7_told_63 : decode cX7_told 63 = .ok (.ireturn, 1) := by decide +kernel
theorem dX7_told_64 : decode cX7_told 64 = .ok (.aload_n 0, 1) := by decide +kernel
theorem dX7_told_65 : decode cX7_told 65 = .ok (.getfield 20, 3) := by decide +kernel
theorem dX7_told_68 : decode cX7_told 68 = .ok (.ireturn, 1) := by decide +kernel
theorem dX7_told_69 : decode cX7_told 69 = .ok (.aload_n 0, 1) := by decide +kernel
theorem dX7_told_70 : decode cX7_told 70 = .ok (.getfield 47, 3) := by decide +kernel
theorem dX7_told_73 : decode cX7_told 73 = .ok (.getfield 167, 3) := by decide +kernel
theorem dX7_told_76 : decode cX7_told 76 = .ok (.ireturn, 1) := by decide +kernel
theorem dX7_told_77 : decode cX7_told 77 = .ok (.iconst (-1), 1) := by decide +kernel
theorem dX7_told_78 : decode cX7_told 78 = .ok (.ireturn, 1) := by decide +kernel
theorem dX7_requireCommand_0 : decode cX7_requireCommand 0 = .ok (.iload_n 1, 1) := by decide +kernel
theorem dX7_requireCommand_1 : decode cX7_requireCommand 1 = .ok (.ifCond .lt 14, 3) := by decide +kernel
theorem dX7_requireCommand_4 : decode cX7_requireCommand 4 = .ok (.iload_n 1, 1) := by decide +kernel
theorem dX7_requireCommand_5 : decode cX7_requireCommand 5 = .ok (.aload_n 0, 1) := by decide +kernel
theorem dX7_requireCommand_6 : decode cX7_requireCommand 6 = .ok (.getfield 10, 3) := by decide +kernel
theorem dX7_requireCommand_9 : decode cX7_requireCommand 9 = .ok (.getfield 84, 3) := by decide +kernel
theorem dX7_requireCommand_12 : decode cX7_requireCommand 12 = .ok (.if_icmp .lt 13, 3) := by decide +kernel
theorem dX7_requireCommand_15 : decode cX7_requireCommand 15 = .ok (.new 224, 3) := by decide +kernel
theorem dX7_requireCommand_18 : decode cX7_requireCommand 18 = .ok (.dup, 1) := by decide +kernel
theorem dX7_requireCommand_19 : decode cX7_requireCommand 19 = .ok (.ldc 226, 2) := by decide +kernel
theorem dX7_requireCommand_21 : decode cX7_requireCommand 21 = .ok (.invokespecial 228, 3) := by decide +kernel
theorem dX7_requireCommand_24 : decode cX7_requireCommand 24 = .ok (.athrow, 1) := by decide +kernel
theorem dX7_requireCommand_25 : decode cX7_requireCommand 25 = .ok (.return_, 1) := by decide +kernel
theorem dX7_requireCount_0 : decode cX7_requireCount 0 = .ok (.iload_n 1, 1) := by decide +kernel
theorem dX7_requireCount_1 : decode cX7_requireCount 1 = .ok (.ifCond .lt 10, 3) := by decide +kernel
theorem dX7_requireCount_4 : decode cX7_requireCount 4 = .ok (.iload_n 1, 1) := by decide +kernel
theorem dX7_requireCount_5 : decode cX7_requireCount 5 = .ok (.sipush 10000, 3) := by decide +kernel
theorem dX7_requireCount_8 : decode cX7_requireCount 8 = .ok (.if_icmp .le 13, 3) := by decide +kernel
theorem dX7_requireCount_11 : decode cX7_requireCount 11 = .ok (.new 110, 3) := by decide +kernel
theorem dX7_requireCount_14 : decode cX7_requireCount 14 = .ok (.dup, 1) := by decide +kernel
theorem dX7_requireCount_15 : decode cX7_requireCount 15 = .ok (.ldc 229, 2) := by decide +kernel
theorem dX7_requireCount_17 : decode cX7_requireCount 17 = .ok (.invokespecial 114, 3) := by decide +kernel
theorem dX7_requireCount_20 : decode cX7_requireCount 20 = .ok (.athrow, 1) := by decide +kernel
theorem dX7_requireCount_21 : decode cX7_requireCount 21 = .ok (.return_, 1) := by decide +kernel
theorem dX7_requireWords_0 : decode cX7_requireWords 0 = .ok (.iload_n 1, 1) := by decide +kernel
theorem dX7_requireWords_1 : decode cX7_requireWords 1 = .ok (.ifCond .lt 9, 3) := by decide +kernel
theorem dX7_requireWords_4 : decode cX7_requireWords 4 = .ok (.iload_n 1, 1) := by decide +kernel
theorem dX7_requireWords_5 : decode cX7_requireWords 5 = .ok (.ldc 231, 2) := by decide +kernel
theorem dX7_requireWords_7 : decode cX7_requireWords 7 = .ok (.if_icmp .le 13, 3) := by decide +kernel
theorem dX7_requireWords_10 : decode cX7_requireWords 10 = .ok (.new 110, 3) := by decide +kernel
theorem dX7_requireWords_13 : decode cX7_requireWords 13 = .ok (.dup, 1) := by decide +kernel
theorem dX7_requireWords_14 : decode cX7_requireWords 14 = .ok (.ldc 232, 2) := by decide +kernel
theorem dX7_requireWords_16 : decode cX7_requireWords 16 = .ok (.invokespecial 114, 3) := by decide +kernel
theorem dX7_requireWords_19 : decode cX7_requireWords 19 = .ok (.athrow, 1) := by decide +kernel
theorem dX7_requireWords_20 : decode cX7_requireWords 20 = .ok (.return_, 1) := by decide +kernel
theorem dX7_requireExchanges_0 : decode cX7_requireExchanges 0 = .ok (.iload_n 1, 1) := by decide +kernel
theorem dX7_requireExchanges_1 : decode cX7_requireExchanges 1 = .ok (.ifCond .lt 8, 3) := by decide +kernel
theorem dX7_requireExchanges_4 : decode cX7_requireExchanges 4 = .ok (.iload_n 1, 1) := by decide +kernel
theorem dX7_requireExchanges_5 : decode cX7_requireExchanges 5 = .ok (.iconst 3, 1) := by decide +kernel
theorem dX7_requireExchanges_6 : decode cX7_requireExchanges 6 = .ok (.if_icmp .le 13, 3) := by decide +kernel
theorem dX7_requireExchanges_9 : decode cX7_requireExchanges 9 = .ok (.new 110, 3) := by decide +kernel
theorem dX7_requireExchanges_12 : decode cX7_requireExchanges 12 = .ok (.dup, 1) := by decide +kernel
theorem dX7_requireExchanges_13 : decode cX7_requireExchanges 13 = .ok (.ldc 234, 2) := by decide +kernel
theorem dX7_requireExchanges_15 : decode cX7_requireExchanges 15 = .ok (.invokespecial 114, 3) := by decide +kernel
theorem dX7_requireExchanges_18 : decode cX7_requireExchanges 18 = .ok (.athrow, 1) := by decide +kernel
theorem dX7_requireExchanges_19 : decode cX7_requireExchanges 19 = .ok (.return_, 1) := by decide +kernel
set_option maxRecDepth 20000 in
theorem ggX7_tellsBest_X5_exists : GoodIn wsX7_tellsBest wsX5_exists := goodIn_r _ [8, 9, 28, 29, 30, 31, 32, 33, 34, 35] (by decide +kernel) (by decide +kernel)
set_option maxRecDepth 20000 in
theorem gX7_tellsBest_X5_exists : GoodIn wsX7_tellsBest (wsV RX7 159 RX5 yX5_exists wsX5_exists) := goodIn_app (goodIn_of _ (by decide +kernel)) ggX7_tellsBest_X5_exists
theorem dX7_tellsBest_0 : decode cX7_tellsBest 0 = .ok (.aload_n 0, 1) := by decide +kernel
theorem dX7_tellsBest_1 : decode cX7_tellsBest 1 = .ok (.getfield 37, 3) := by decide +kernel
theorem dX7_tellsBest_4 : decode cX7_tellsBest 4 = .ok (.invokevirtual 159, 3) := by decide +kernel
theorem dX7_tellsBest_7 : decode cX7_tellsBest 7 = .ok (.ifCond .eq 19, 3) := by decide +kernel
theorem dX7_tellsBest_10 : decode cX7_tellsBest 10 = .ok (.aload_n 0, 1) := by decide +kernel
theorem dX7_tellsBest_11 : decode cX7_tellsBest 11 = .ok (.getfield 10, 3) := by decide +kernel
theorem dX7_tellsBest_14 : decode cX7_tellsBest 14 = .ok (.getfield 84, 3) := by decide +kernel
theorem dX7_tellsBest_17 : decode cX7_tellsBest 17 = .ok (.bipush 12, 2) := by decide +kernel
theorem dX7_tellsBest_19 : decode cX7_tellsBest 19 = .ok (.if_icmp .gt 7, 3) := by decide +kernel
theorem dX7_tellsBest_22 : decode cX7_tellsBest 22 = .ok (.iconst 1, 1) := by decide +kernel
theorem dX7_tellsBest_23 : decode cX7_tellsBest 23 = .ok (.goto 4, 3) := by decide +kernel
theorem dX7_tellsBest_26 : decode cX7_tellsBest 26 = .ok (.iconst 0, 1) := by decide +kernel
theorem dX7_tellsBest_27 : decode cX7_tellsBest 27 = .ok (.ireturn, 1) := by decide +kernel
theorem dX7_putOnTape_0 : decode cX7_putOnTape 0 = .ok (.bipush 24, 2) := by decide +kernel
theorem dX7_putOnTape_2 : decode cX7_putOnTape 2 = .ok (.istore_n 2, 1) := by decide +kernel
theorem dX7_putOnTape_3 : decode cX7_putOnTape 3 = .ok (.iload_n 2, 1) := by decide +kernel
theorem dX7_putOnTape_4 : decode cX7_putOnTape 4 = .ok (.ifCond .lt 42, 3) := by decide +kernel
theorem dX7_putOnTape_7 : decode cX7_putOnTape 7 = .ok (.aload_n 0, 1) := by decide +kernel
theorem dX7_putOnTape_8 : decode cX7_putOnTape 8 = .ok (.getfield 20, 3) := by decide +kernel
theorem dX7_putOnTape_11 : decode cX7_putOnTape 11 = .ok (.sipush 400, 3) := by decide +kernel
theorem dX7_putOnTape_14 : decode cX7_putOnTape 14 = .ok (.if_icmp .ge 32, 3) := by decide +kernel
theorem dX7_putOnTape_17 : decode cX7_putOnTape 17 = .ok (.aload_n 0, 1) := by decide +kernel
theorem dX7_putOnTape_18 : decode cX7_putOnTape 18 = .ok (.getfield 16, 3) := by decide +kernel
theorem dX7_putOnTape_21 : decode cX7_putOnTape 21 = .ok (.aload_n 0, 1) := by decide +kernel
theorem dX7_putOnTape_22 : decode cX7_putOnTape 22 = .ok (.getfield 20, 3) := by decide +kernel
theorem dX7_putOnTape_25 : decode cX7_putOnTape 25 = .ok (.iload_n 1, 1) := by decide +kernel
theorem dX7_putOnTape_26 : decode cX7_putOnTape 26 = .ok (.iload_n 2, 1) := by decide +kernel
theorem dX7_putOnTape_27 : decode cX7_putOnTape 27 = .ok (.iushr, 1) := by decide +kernel
theorem dX7_putOnTape_28 : decode cX7_putOnTape 28 = .ok (.i2b, 1) := by decide +kernel
theorem dX7_putOnTape_29 : decode cX7_putOnTape 29 = .ok (.bastore, 1) := by decide +kernel
theorem dX7_putOnTape_30 : decode cX7_putOnTape 30 = .ok (.aload_n 0, 1) := by decide +kernel
theorem dX7_putOnTape_31 : decode cX7_putOnTape 31 = .ok (.dup, 1) := by decide +kernel
theorem dX7_putOnTape_32 : decode cX7_putOnTape 32 = .ok (.getfield 20, 3) := by decide +kernel
theorem dX7_putOnTape_35 : decode cX7_putOnTape 35 = .ok (.iconst 1, 1) := by decide +kernel
theorem dX7_putOnTape_36 : decode cX7_putOnTape 36 = .ok (.iadd, 1) := by decide +kernel
theorem dX7_putOnTape_37 : decode cX7_putOnTape 37 = .ok (.putfield 20, 3) := by decide +kernel
theorem dX7_putOnTape_40 : decode cX7_putOnTape 40 = .ok (.iinc 2 (-8), 3) := by decide +kernel
theorem dX7_putOnTape_43 : decode cX7_putOnTape 43 = .ok (.goto (-40), 3) := by decide +kernel
theorem dX7_putOnTape_46 : decode cX7_putOnTape 46 = .ok (.return_, 1) := by decide +kernel
set_option maxRecDepth 20000 in
theorem ggX7_useChanged_X0_forget : GoodIn wsX7_useChanged wsX0_forget := goodIn_r _ [8, 9, 24, 25, 26, 27, 28, 29, 30, 31, 32, 33, 34] (by decide +kernel) (by decide +kernel)
set_option maxRecDepth 20000 in
theorem gX7_useChanged_X0_forget : GoodIn wsX7_useChanged (wsV RX7 139 RX0 yX0_forget wsX0_forget) := goodIn_app (goodIn_of _ (by decide +kernel)) ggX7_useChanged_X0_forget
theorem dX7_useChanged_0 : decode cX7_useChanged 0 = .ok (.aload_n 0, 1) := by decide +kernel
theorem dX7_useChanged_1 : decode cX7_useChanged 1 = .ok (.iconst 0, 1) := by decide +kernel
theorem dX7_useChanged_2 : decode cX7_useChanged 2 = .ok (.putfield 62, 3) := by decide +kernel
theorem dX7_useChanged_5 : decode cX7_useChanged 5 = .ok (.aload_n 0, 1) := by decide +kernel
theorem dX7_useChanged_6 : decode cX7_useChanged 6 = .ok (.iconst 0, 1) := by decide +kernel
theorem dX7_useChanged_7 : decode cX7_useChanged 7 = .ok (.putfield 74, 3) := by decide +kernel
theorem dX7_useChanged_10 : decode cX7_useChanged 10 = .ok (.aload_n 0, 1) := by decide +kernel
theorem dX7_useChanged_11 : decode cX7_useChanged 11 = .ok (.getfield 54, 3) := by decide +kernel
theorem dX7_useChanged_14 : decode cX7_useChanged 14 = .ok (.invokevirtual 139, 3) := by decide +kernel
theorem dX7_useChanged_17 : decode cX7_useChanged 17 = .ok (.return_, 1) := by decide +kernel
theorem dX8_init_0 : decode cX8_init 0 = .ok (.aload_n 0, 1) := by decide +kernel
theorem dX8_init_1 : decode cX8_init 1 = .ok (.invokespecial 1, 3) := by decide +kernel
theorem dX8_init_4 : decode cX8_init 4 = .ok (.aload_n 0, 1) := by decide +kernel
theorem dX8_init_5 : decode cX8_init 5 = .ok (.bipush 40, 2) := by decide +kernel
theorem dX8_init_7 : decode cX8_init 7 = .ok (.newarray .int, 2) := by decide +kernel
theorem dX8_init_9 : decode cX8_init 9 = .ok (.putfield 9, 3) := by decide +kernel
theorem dX8_init_12 : decode cX8_init 12 = .ok (.aload_n 0, 1) := by decide +kernel
theorem dX8_init_13 : decode cX8_init 13 = .ok (.bipush 40, 2) := by decide +kernel
theorem dX8_init_15 : decode cX8_init 15 = .ok (.newarray .int, 2) := by decide +kernel
theorem dX8_init_17 : decode cX8_init 17 = .ok (.putfield 13, 3) := by decide +kernel
theorem dX8_init_20 : decode cX8_init 20 = .ok (.aload_n 0, 1) := by decide +kernel
theorem dX8_init_21 : decode cX8_init 21 = .ok (.iconst 1, 1) := by decide +kernel
theorem dX8_init_22 : decode cX8_init 22 = .ok (.putfield 16, 3) := by decide +kernel
theorem dX8_init_25 : decode cX8_init 25 = .ok (.aload_n 0, 1) := by decide +kernel
theorem dX8_init_26 : decode cX8_init 26 = .ok (.iconst 1, 1) := by decide +kernel
theorem dX8_init_27 : decode cX8_init 27 = .ok (.putfield 20, 3) := by decide +kernel
theorem dX8_init_30 : decode cX8_init 30 = .ok (.aload_n 0, 1) := by decide +kernel
theorem dX8_init_31 : decode cX8_init 31 = .ok (.iconst 4, 1) := by decide +kernel
theorem dX8_init_32 : decode cX8_init 32 = .ok (.putfield 23, 3) := by decide +kernel
theorem dX8_init_35 : decode cX8_init 35 = .ok (.aload_n 0, 1) := by decide +kernel
theorem dX8_init_36 : decode cX8_init 36 = .ok (.iconst 1, 1) := by decide +kernel
theorem dX8_init_37 : decode cX8_init 37 = .ok (.putfield 26, 3) := by decide +kernel
theorem dX8_init_40 : decode cX8_init 40 = .ok (.aload_n 0, 1) := by decide +kernel
theorem dX8_init_41 : decode cX8_init 41 = .ok (.sipush 400, 3) := by decide +kernel
theorem dX8_init_44 : decode cX8_init 44 = .ok (.newarray .byte, 2) := by decide +kernel
theorem dX8_init_46 : decode cX8_init 46 = .ok (.putfield 29, 3) := by decide +kernel
theorem dX8_init_49 : decode cX8_init 49 = .ok (.aload_n 0, 1) := by decide +kernel
theorem dX8_init_50 : decode cX8_init 50 = .ok (.sipush 600, 3) := by decide +kernel
theorem dX8_init_53 : decode cX8_init 53 = .ok (.newarray .byte, 2) := by decide +kernel
theorem dX8_init_55 : decode cX8_init 55 = .ok (.putfield 33, 3) := by decide +kernel
theorem dX8_init_58 : decode cX8_init 58 = .ok (.aload_n 0, 1) := by decide +kernel
theorem dX8_init_59 : decode cX8_init 59 = .ok (.sipush 756, 3) := by decide +kernel
theorem dX8_init_62 : decode cX8_init 62 = .ok (.newarray .int, 2) := by decide +kernel
theorem dX8_init_64 : decode cX8_init 64 = .ok (.putfield 36, 3) := by decide +kernel
theorem dX8_init_67 : decode cX8_init 67 = .ok (.aload_n 0, 1) := by decide +kernel
theorem dX8_init_68 : decode cX8_init 68 = .ok (.bipush 84, 2) := by decide +kernel
theorem dX8_init_70 : decode cX8_init 70 = .ok (.newarray .int, 2) := by decide +kernel
theorem dX8_init_72 : decode cX8_init 72 = .ok (.putfield 39, 3) := by decide +kernel
theorem dX8_init_75 : decode cX8_init 75 = .ok (.aload_n 0, 1) := by decide +kernel
theorem dX8_init_76 : decode cX8_init 76 = .ok (.sipush 756, 3) := by decide +kernel
theorem dX8_init_79 : decode cX8_init 79 = .ok (.newarray .int, 2) := by decide +kernel
theorem dX8_init_81 : decode cX8_init 81 = .ok (.putfield 42, 3) := by decide +kernel
theorem dX8_init_84 : decode cX8_init 84 = .ok (.aload_n 0, 1) := by decide +kernel
theorem dX8_init_85 : decode cX8_init 85 = .ok (.bipush 84, 2) := by decide +kernel
theorem dX8_init_87 : decode cX8_init 87 = .ok (.newarray .int, 2) := by decide +kernel
theorem dX8_init_89 : decode cX8_init 89 = .ok (.putfield 45, 3) := by decide +kernel
theorem dX8_init_92 : decode cX8_init 92 = .ok (.aload_n 0, 1) := by decide +kernel
theorem dX8_init_93 : decode cX8_init 93 = .ok (.iconst (-1), 1) := by decide +kernel
theorem dX8_init_94 : decode cX8_init 94 = .ok (.putfield 48, 3) := by decide +kernel
theorem dX8_init_97 : decode cX8_init 97 = .ok (.aload_n 0, 1) := by decide +kernel
theorem dX8_init_98 : decode cX8_init 98 = .ok (.bipush 40, 2) := by decide +kernel
theorem dX8_init_100 : decode cX8_init 100 = .ok (.newarray .boolean, 2) := by decide +kernel
theorem dX8_init_102 : decode cX8_init 102 = .ok (.putfield 51, 3) := by decide +kernel
theorem dX8_init_105 : decode cX8_init 105 = .ok (.aload_n 0, 1) := by decide +kernel
theorem dX8_init_106 : decode cX8_init 106 = .ok (.bipush 41, 2) := by decide +kernel
theorem dX8_init_108 : decode cX8_init 108 = .ok (.newarray .int, 2) := by decide +kernel
theorem dX8_init_110 : decode cX8_init 110 = .ok (.putfield 55, 3) := by decide +kernel
theorem dX8_init_113 : decode cX8_init 113 = .ok (.aload_n 0, 1) := by decide +kernel
theorem dX8_init_114 : decode cX8_init 114 = .ok (.bipush 84, 2) := by decide +kernel
theorem dX8_init_116 : decode cX8_init 116 = .ok (.newarray .int, 2) := by decide +kernel
theorem dX8_init_118 : decode cX8_init 118 = .ok (.putfield 58, 3) := by decide +kernel
theorem dX8_init_121 : decode cX8_init 121 = .ok (.aload_n 0, 1) := by decide +kernel
theorem dX8_init_122 : decode cX8_init 122 = .ok (.bipush 84, 2) := by decide +kernel
theorem dX8_init_124 : decode cX8_init 124 = .ok (.newarray .int, 2) := by decide +kernel
theorem dX8_init_126 : decode cX8_init 126 = .ok (.putfield 61, 3) := by decide +kernel
theorem dX8_init_129 : decode cX8_init 129 = .ok (.aload_n 0, 1) := by decide +kernel
theorem dX8_init_130 : decode cX8_init 130 = .ok (.bipush 24, 2) := by decide +kernel
theorem dX8_init_132 : decode cX8_init 132 = .ok (.newarray .int, 2) := by decide +kernel
theorem dX8_init_134 : decode cX8_init 134 = .ok (.putfield 64, 3) := by decide +kernel
theorem dX8_init_137 : decode cX8_init 137 = .ok (.aload_n 0, 1) := by decide +kernel
theorem dX8_init_138 : decode cX8_init 138 = .ok (.sipush 18491, 3) := by decide +kernel
theorem dX8_init_141 : decode cX8_init 141 = .ok (.newarray .long, 2) := by decide +kernel
theorem dX8_init_143 : decode cX8_init 143 = .ok (.putfield 67, 3) := by decide +kernel
theorem dX8_init_146 : decode cX8_init 146 = .ok (.aload_n 0, 1) := by decide +kernel
theorem dX8_init_147 : decode cX8_init 147 = .ok (.sipush 18491, 3) := by decide +kernel
theorem dX8_init_150 : decode cX8_init 150 = .ok (.newarray .int, 2) := by decide +kernel
theorem dX8_init_152 : decode cX8_init 152 = .ok (.putfield 71, 3) := by decide +kernel
theorem dX8_init_155 : decode cX8_init 155 = .ok (.aload_n 0, 1) := by decide +kernel
theorem dX8_init_156 : decode cX8_init 156 = .ok (.sipush 18491, 3) := by decide +kernel
theorem dX8_init_159 : decode cX8_init 159 = .ok (.newarray .int, 2) := by decide +kernel
theorem dX8_init_161 : decode cX8_init 161 = .ok (.putfield 74, 3) := by decide +kernel
theorem dX8_init_164 : decode cX8_init 164 = .ok (.aload_n 0, 1) := by decide +kernel
theorem dX8_init_165 : decode cX8_init 165 = .ok (.bipush 41, 2) := by decide +kernel
theorem dX8_init_167 : decode cX8_init 167 = .ok (.newarray .long, 2) := by decide +kernel
theorem dX8_init_169 : decode cX8_init 169 = .ok (.putfield 77, 3) := by decide +kernel
theorem dX8_init_172 : decode cX8_init 172 = .ok (.aload_n 0, 1) := by decide +kernel
theorem dX8_init_173 : decode cX8_init 173 = .ok (.sipush 11264, 3) := by decide +kernel
theorem dX8_init_176 : decode cX8_init 176 = .ok (.newarray .long, 2) := by decide +kernel
theorem dX8_init_178 : decode cX8_init 178 = .ok (.putfield 80, 3) := by decide +kernel
theorem dX8_init_181 : decode cX8_init 181 = .ok (.aload_n 0, 1) := by decide +kernel
theorem dX8_init_182 : decode cX8_init 182 = .ok (.sipush 1024, 3) := by decide +kernel
theorem dX8_init_185 : decode cX8_init 185 = .ok (.newarray .long, 2) := by decide +kernel
theorem dX8_init_187 : decode cX8_init 187 = .ok (.putfield 83, 3) := by decide +kernel
theorem dX8_init_190 : decode cX8_init 190 = .ok (.aload_n 0, 1) := by decide +kernel
theorem dX8_init_191 : decode cX8_init 191 = .ok (.bipush 12, 2) := by decide +kernel
theorem dX8_init_193 : decode cX8_init 193 = .ok (.newarray .int, 2) := by decide +kernel
theorem dX8_init_195 : decode cX8_init 195 = .ok (.putfield 86, 3) := by decide +kernel
theorem dX8_init_198 : decode cX8_init 198 = .ok (.aload_n 0, 1) := by decide +kernel
theorem dX8_init_199 : decode cX8_init 199 = .ok (.bipush 66, 2) := by decide +kernel
theorem dX8_init_201 : decode cX8_init 201 = .ok (.newarray .int, 2) := by decide +kernel
theorem dX8_init_203 : decode cX8_init 203 = .ok (.putfield 89, 3) := by decide +kernel
theorem dX8_init_206 : decode cX8_init 206 = .ok (.aload_n 0, 1) := by decide +kernel
theorem dX8_init_207 : decode cX8_init 207 = .ok (.bipush 66, 2) := by decide +kernel
theorem dX8_init_209 : decode cX8_init 209 = .ok (.newarray .int, 2) := by decide +kernel
theorem dX8_init_211 : decode cX8_init 211 = .ok (.putfield 92, 3) := by decide +kernel
theorem dX8_init_214 : decode cX8_init 214 = .ok (.aload_n 0, 1) := by decide +kernel
theorem dX8_init_215 : decode cX8_init 215 = .ok (.iconst 3, 1) := by decide +kernel
theorem dX8_init_216 : decode cX8_init 216 = .ok (.newarray .int, 2) := by decide +kernel
theorem dX8_init_218 : decode cX8_init 218 = .ok (.putfield 95, 3) := by decide +kernel
theorem dX8_init_221 : decode cX8_init 221 = .ok (.aload_n 0, 1) := by decide +kernel
theorem dX8_init_222 : decode cX8_init 222 = .ok (.iconst 3, 1) := by decide +kernel
theorem dX8_init_223 : decode cX8_init 223 = .ok (.newarray .int, 2) := by decide +kernel
theorem dX8_init_225 : decode cX8_init 225 = .ok (.putfield 98, 3) := by decide +kernel
theorem dX8_init_228 : decode cX8_init 228 = .ok (.return_, 1) := by decide +kernel
theorem dX8_thrown_0 : decode cX8_thrown 0 = .ok (.aload_n 0, 1) := by decide +kernel
theorem dX8_thrown_1 : decode cX8_thrown 1 = .ok (.getfield 101, 3) := by decide +kernel
theorem dX8_thrown_4 : decode cX8_thrown 4 = .ok (.ireturn, 1) := by decide +kernel
theorem dX8_bad_0 : decode cX8_bad 0 = .ok (.iload_n 1, 1) := by decide +kernel
theorem dX8_bad_1 : decode cX8_bad 1 = .ok (.ifCond .eq 8, 3) := by decide +kernel
theorem dX8_bad_4 : decode cX8_bad 4 = .ok (.aload_n 0, 1) := by decide +kernel
theorem dX8_bad_5 : decode cX8_bad 5 = .ok (.iload_n 2, 1) := by decide +kernel
theorem dX8_bad_6 : decode cX8_bad 6 = .ok (.putfield 101, 3) := by decide +kernel
theorem dX8_bad_9 : decode cX8_bad 9 = .ok (.iload_n 1, 1) := by decide +kernel
theorem dX8_bad_10 : decode cX8_bad 10 = .ok (.ireturn, 1) := by decide +kernel
theorem dX8_isCount_0 : decode cX8_isCount 0 = .ok (.iload_n 0, 1) := by decide +kernel
theorem dX8_isCount_1 : decode cX8_isCount 1 = .ok (.ifCond .lt 14, 3) := by decide +kernel
theorem dX8_isCount_4 : decode cX8_isCount 4 = .ok (.iload_n 0, 1) := by decide +kernel
theorem dX8_isCount_5 : decode cX8_isCount 5 = .ok (.sipush 10000, 3) := by decide +kernel
theorem dX8_isCount_8 : decode cX8_isCount 8 = .ok (.if_icmp .gt 7, 3) := by decide +kernel
theorem dX8_isCount_11 : decode cX8_isCount 11 = .ok (.iconst 1, 1) := by decide +kernel
theorem dX8_isCount_12 : decode cX8_isCount 12 = .ok (.goto 4, 3) := by decide +kernel
theorem dX8_isCount_15 : decode cX8_isCount 15 = .ok (.iconst 0, 1) := by decide +kernel
theorem dX8_isCount_16 : decode cX8_isCount 16 = .ok (.ireturn, 1) := by decide +kernel
theorem dX8_isWords_0 : decode cX8_isWords 0 = .ok (.iload_n 0, 1) := by decide +kernel
theorem dX8_isWords_1 : decode cX8_isWords 1 = .ok (.ifCond .lt 13, 3) := by decide +kernel
theorem dX8_isWords_4 : decode cX8_isWords 4 = .ok (.iload_n 0, 1) := by decide +kernel
theorem dX8_isWords_5 : decode cX8_isWords 5 = .ok (.ldc 104, 2) := by decide +kernel
theorem dX8_isWords_7 : decode cX8_isWords 7 = .ok (.if_icmp .gt 7, 3) := by decide +kernel
theorem dX8_isWords_10 : decode cX8_isWords 10 = .ok (.iconst 1, 1) := by decide +kernel
theorem dX8_isWords_11 : decode cX8_isWords 11 = .ok (.goto 4, 3) := by decide +kernel
theorem dX8_isWords_14 : decode cX8_isWords 14 = .ok (.iconst 0, 1) := by decide +kernel
theorem dX8_isWords_15 : decode cX8_isWords 15 = .ok (.ireturn, 1) := by decide +kernel
set_option maxRecDepth 20000 in
theorem ggX8_command_X8_isCount : GoodIn wsX8_command wsX8_isCount := goodIn_r _ [9] (by decide +kernel) (by decide +kernel)
set_option maxRecDepth 20000 in
theorem gX8_command_X8_isCount : GoodIn wsX8_command (va_wsS RX8 105 yX8_isCount wsX8_isCount) := goodIn_app (goodIn_of _ (by decide +kernel)) ggX8_command_X8_isCount
set_option maxRecDepth 20000 in
theorem ggX8_command_X8_isWords : GoodIn wsX8_command wsX8_isWords := goodIn_r _ [12, 13] (by decide +kernel) (by decide +kernel)
set_option maxRecDepth 20000 in
theorem gX8_command_X8_isWords : GoodIn wsX8_command (va_wsS RX8 109 yX8_isWords wsX8_isWords) := goodIn_app (goodIn_of _ (by decide +kernel)) ggX8_command_X8_isWords
set_option maxRecDepth 20000 in
theorem ggX8_command_X8_bad : GoodIn wsX8_command wsX8_bad := goodIn_r _ [17, 1, 18, 19, 20, 21, 22, 23, 24, 25, 26, 27, 28, 29, 30, 31, 32, 33, 34, 35, 36, 37, 38, 39, 40, 41, 42, 43, 44, 45, 46, 47, 48, 49, 50, 51, 52, 53, 54, 55, 56, 57, 58, 59] (by decide +kernel) (by decide +kernel)
set_option maxRecDepth 20000 in
theorem gX8_command_X8_bad : GoodIn wsX8_command (wsV RX8 112 RX8 yX8_bad wsX8_bad) := goodIn_app (goodIn_of _ (by decide +kernel)) ggX8_command_X8_bad
theorem dX8_command_0 : decode cX8_command 0 = .ok (.aload_n 0, 1) := by decide +kernel
theorem dX8_command_1 : decode cX8_command 1 = .ok (.iconst 0, 1) := by decide +kernel
theorem dX8_command_2 : decode cX8_command 2 = .ok (.putfield 101, 3) := by decide +kernel
theorem dX8_command_5 : decode cX8_command 5 = .ok (.aload_n 0, 1) := by decide +kernel
theorem dX8_command_6 : decode cX8_command 6 = .ok (.iload_n 1, 1) := by decide +kernel
theorem dX8_command_7 : decode cX8_command 7 = .ok (.invokestatic 105, 3) := by decide +kernel
theorem dX8_command_10 : decode cX8_command 10 = .ok (.ifCond .eq 10, 3) := by decide +kernel
theorem dX8_command_13 : decode cX8_command 13 = .ok (.iload_n 2, 1) := by decide +kernel
theorem dX8_command_14 : decode cX8_command 14 = .ok (.invokestatic 109, 3) := by decide +kernel
theorem dX8_command_17 : decode cX8_command 17 = .ok (.ifCond .ne 7, 3) := by decide +kernel
theorem dX8_command_20 : decode cX8_command 20 = .ok (.iconst 1, 1) := by decide +kernel
theorem dX8_command_21 : decode cX8_command 21 = .ok (.goto 4, 3) := by decide +kernel
theorem dX8_command_24 : decode cX8_command 24 = .ok (.iconst 0, 1) := by decide +kernel
theorem dX8_command_25 : decode cX8_command 25 = .ok (.iconst 1, 1) := by decide +kernel
theorem dX8_command_26 : decode cX8_command 26 = .ok (.invokevirtual 112, 3) := by decide +kernel
theorem dX8_command_29 : decode cX8_command 29 = .ok (.ifCond .ne 25, 3) := by decide +kernel
theorem dX8_command_32 : decode cX8_command 32 = .ok (.aload_n 0, 1) := by decide +kernel
theorem dX8_command_33 : decode cX8_command 33 = .ok (.aload_n 0, 1) := by decide +kernel
theorem dX8_command_34 : decode cX8_command 34 = .ok (.getfield 116, 3) := by decide +kernel
theorem dX8_command_37 : decode cX8_command 37 = .ok (.bipush 40, 2) := by decide +kernel
theorem dX8_command_39 : decode cX8_command 39 = .ok (.if_icmp .ne 7, 3) := by decide +kernel
theorem dX8_command_42 : decode cX8_command 42 = .ok (.iconst 1, 1) := by decide +kernel
theorem dX8_command_43 : decode cX8_command 43 = .ok (.goto 4, 3) := by decide +kernel
theorem dX8_command_46 : decode cX8_command 46 = .ok (.iconst 0, 1) := by decide +kernel
theorem dX8_command_47 : decode cX8_command 47 = .ok (.iconst 2, 1) := by decide +kernel
theorem dX8_command_48 : decode cX8_command 48 = .ok (.invokevirtual 112, 3) := by decide +kernel
theorem dX8_command_51 : decode cX8_command 51 = .ok (.ifCond .eq 5, 3) := by decide +kernel
theorem dX8_command_54 : decode cX8_command 54 = .ok (.iconst 0, 1) := by decide +kernel
theorem dX8_command_55 : decode cX8_command 55 = .ok (.ireturn, 1) := by decide +kernel
theorem dX8_command_56 : decode cX8_command 56 = .ok (.aload_n 0, 1) := by decide +kernel
theorem dX8_command_57 : decode cX8_command 57 = .ok (.getfield 9, 3) := by decide +kernel
theorem dX8_command_60 : decode cX8_command 60 = .ok (.aload_n 0, 1) := by decide +kernel
theorem dX8_command_61 : decode cX8_command 61 = .ok (.getfield 116, 3) := by decide +kernel
theorem dX8_command_64 : decode cX8_command 64 = .ok (.iload_n 1, 1) := by decide +kernel
theorem dX8_command_65 : decode cX8_command 65 = .ok (.iastore, 1) := by decide +kernel
theorem dX8_command_66 : decode cX8_command 66 = .ok (.aload_n 0, 1) := by decide +kernel
theorem dX8_command_67 : decode cX8_command 67 = .ok (.getfield 13, 3) := by decide +kernel
theorem dX8_command_70 : decode cX8_command 70 = .ok (.aload_n 0, 1) := by decide +kernel
theorem dX8_command_71 : decode cX8_command 71 = .ok (.getfield 116, 3) := by decide +kernel
theorem dX8_command_74 : decode cX8_command 74 = .ok (.iload_n 2, 1) := by decide +kernel
theorem dX8_command_75 : decode cX8_command 75 = .ok (.iastore, 1) := by decide +kernel
theorem dX8_command_76 : decode cX8_command 76 = .ok (.aload_n 0, 1) := by decide +kernel
theorem dX8_command_77 : decode cX8_command 77 = .ok (.dup, 1) := by decide +kernel
theorem dX8_command_78 : decode cX8_command 78 = .ok (.getfield 116, 3) := by decide +kernel
theorem dX8_command_81 : decode cX8_command 81 = .ok (.iconst 1, 1) := by decide +kernel
theorem dX8_command_82 : decode cX8_command 82 = .ok (.iadd, 1) := by decide +kernel
theorem dX8_command_83 : decode cX8_command 83 = .ok (.putfield 116, 3) := by decide +kernel
theorem dX8_command_86 : decode cX8_command 86 = .ok (.aload_n 0, 1) := by decide +kernel
theorem dX8_command_87 : decode cX8_command 87 = .ok (.iconst 0, 1) := by decide +kernel
theorem dX8_command_88 : decode cX8_command 88 = .ok (.putfield 119, 3) := by decide +kernel
theorem dX8_command_91 : decode cX8_command 91 = .ok (.aload_n 0, 1) := by decide +kernel
theorem dX8_command_92 : decode cX8_command 92 = .ok (.getfield 116, 3) := by decide +kernel
theorem dX8_command_95 : decode cX8_command 95 = .ok (.iconst 1, 1) := by decide +kernel
theorem dX8_command_96 : decode cX8_command 96 = .ok (.isub, 1) := by decide +kernel
theorem dX8_command_97 : decode cX8_command 97 = .ok (.ireturn, 1) := by decide +kernel
theorem dX8_isCommand_0 : decode cX8_isCommand 0 = .ok (.aload_n 0, 1) := by decide +kernel
theorem dX8_isCommand_1 : decode cX8_isCommand 1 = .ok (.iload_n 1, 1) := by decide +kernel
theorem dX8_isCommand_2 : decode cX8_isCommand 2 = .ok (.ifCond .lt 11, 3) := by decide +kernel
theorem dX8_isCommand_5 : decode cX8_isCommand 5 = .ok (.iload_n 1, 1) := by decide +kernel
theorem dX8_isCommand_6 : decode cX8_isCommand 6 = .ok (.aload_n 0, 1) := by decide +kernel
theorem dX8_isCommand_7 : decode cX8_isCommand 7 = .ok (.getfield 116, 3) := by decide +kernel
theorem dX8_isCommand_10 : decode cX8_isCommand 10 = .ok (.if_icmp .lt 7, 3) := by decide +kernel
theorem dX8_isCommand_13 : decode cX8_isCommand 13 = .ok (.iconst 1, 1) := by decide +kernel
theorem dX8_isCommand_14 : decode cX8_isCommand 14 = .ok (.goto 4, 3) := by decide +kernel
theorem dX8_isCommand_17 : decode cX8_isCommand 17 = .ok (.iconst 0, 1) := by decide +kernel
theorem dX8_isCommand_18 : decode cX8_isCommand 18 = .ok (.putfield 101, 3) := by decide +kernel
theorem dX8_isCommand_21 : decode cX8_isCommand 21 = .ok (.aload_n 0, 1) := by decide +kernel
theorem dX8_isCommand_22 : decode cX8_isCommand 22 = .ok (.getfield 101, 3) := by decide +kernel
theorem dX8_isCommand_25 : decode cX8_isCommand 25 = .ok (.ifCond .ne 7, 3) := by decide +kernel
theorem dX8_isCommand_28 : decode cX8_isCommand 28 = .ok (.iconst 1, 1) := by decide +kernel
theorem dX8_isCommand_29 : decode cX8_isCommand 29 = .ok (.goto 4, 3) := by decide +kernel
theorem dX8_isCommand_32 : decode cX8_isCommand 32 = .ok (.iconst 0, 1) := by decide +kernel
theorem dX8_isCommand_33 : decode cX8_isCommand 33 = .ok (.ireturn, 1) := by decide +kernel
set_option maxRecDepth 20000 in
theorem ggX8_count_X8_isCommand : GoodIn wsX8_count wsX8_isCommand := goodIn_r _ [6, 7, 8, 16, 17, 18, 19, 20, 21, 22, 23, 24, 25, 26, 27, 28, 29, 30, 31, 32, 33, 34, 35, 36, 37, 38, 39, 40, 41, 42, 43, 44, 45, 46, 47, 48, 49, 50, 51, 52, 53, 54, 55, 56, 57] (by decide +kernel) (by decide +kernel)
set_option maxRecDepth 20000 in
theorem gX8_count_X8_isCommand : GoodIn wsX8_count (wsV RX8 122 RX8 yX8_isCommand wsX8_isCommand) := goodIn_app (goodIn_of _ (by decide +kernel)) ggX8_count_X8_isCommand
set_option maxRecDepth 20000 in
theorem ggX8_count_X8_isCount : GoodIn wsX8_count wsX8_isCount := goodIn_r _ [11] (by decide +kernel) (by decide +kernel)
set_option maxRecDepth 20000 in
theorem gX8_count_X8_isCount : GoodIn wsX8_count (va_wsS RX8 105 yX8_isCount wsX8_isCount) := goodIn_app (goodIn_of _ (by decide +kernel)) ggX8_count_X8_isCount
set_option maxRecDepth 20000 in
theorem ggX8_count_X8_bad : GoodIn wsX8_count wsX8_bad := goodIn_r _ [15, 8, 16, 17, 18, 19, 20, 21, 22, 23, 24, 25, 26, 27, 28, 29, 30, 31, 32, 33, 34, 35, 36, 37, 38, 39, 40, 41, 42, 43, 44, 45, 46, 47, 48, 49, 50, 51, 52, 53, 54, 55, 56, 57] (by decide +kernel) (by decide +kernel)
set_option maxRecDepth 20000 in
theorem gX8_count_X8_bad : GoodIn wsX8_count (wsV RX8 112 RX8 yX8_bad wsX8_bad) := goodIn_app (goodIn_of _ (by decide +kernel)) ggX8_count_X8_bad
theorem dX8_count_0 : decode cX8_count 0 = .ok (.aload_n 0, 1) := by decide +kernel
theorem dX8_count_1 : decode cX8_count 1 = .ok (.iload_n 1, 1) := by decide +kernel
theorem dX8_count_2 : decode cX8_count 2 = .ok (.invokevirtual 122, 3) := by decide +kernel
theorem dX8_count_5 : decode cX8_count 5 = .ok (.ifCond .eq 23, 3) := by decide +kernel
theorem dX8_count_8 : decode cX8_count 8 = .ok (.aload_n 0, 1) := by decide +kernel
theorem dX8_count_9 : decode cX8_count 9 = .ok (.iload_n 2, 1) := by decide +kernel
theorem dX8_count_10 : decode cX8_count 10 = .ok (.invokestatic 105, 3) := by decide +kernel
theorem dX8_count_13 : decode cX8_count 13 = .ok (.ifCond .ne 7, 3) := by decide +kernel
theorem dX8_count_16 : decode cX8_count 16 = .ok (.iconst 1, 1) := by decide +kernel
theorem dX8_count_17 : decode cX8_count 17 = .ok (.goto 4, 3) := by decide +kernel
theorem dX8_count_20 : decode cX8_count 20 = .ok (.iconst 0, 1) := by decide +kernel
theorem dX8_count_21 : decode cX8_count 21 = .ok (.iconst 2, 1) := by decide +kernel
theorem dX8_count_22 : decode cX8_count 22 = .ok (.invokevirtual 112, 3) := by decide +kernel
theorem dX8_count_25 : decode cX8_count 25 = .ok (.ifCond .eq 5, 3) := by decide +kernel
theorem dX8_count_28 : decode cX8_count 28 = .ok (.iconst 0, 1) := by decide +kernel
theorem dX8_count_29 : decode cX8_count 29 = .ok (.ireturn, 1) := by decide +kernel
theorem dX8_count_30 : decode cX8_count 30 = .ok (.aload_n 0, 1) := by decide +kernel
theorem dX8_count_31 : decode cX8_count 31 = .ok (.getfield 9, 3) := by decide +kernel
theorem dX8_count_34 : decode cX8_count 34 = .ok (.iload_n 1, 1) := by decide +kernel
theorem dX8_count_35 : decode cX8_count 35 = .ok (.iaload, 1) := by decide +kernel
theorem dX8_count_36 : decode cX8_count 36 = .ok (.istore_n 3, 1) := by decide +kernel
theorem dX8_count_37 : decode cX8_count 37 = .ok (.aload_n 0, 1) := by decide +kernel
theorem dX8_count_38 : decode cX8_count 38 = .ok (.getfield 9, 3) := by decide +kernel
theorem dX8_count_41 : decode cX8_count 41 = .ok (.iload_n 1, 1) := by decide +kernel
theorem dX8_count_42 : decode cX8_count 42 = .ok (.iload_n 2, 1) := by decide +kernel
theorem dX8_count_43 : decode cX8_count 43 = .ok (.iastore, 1) := by decide +kernel
theorem dX8_count_44 : decode cX8_count 44 = .ok (.iload_n 3, 1) := by decide +kernel
theorem dX8_count_45 : decode cX8_count 45 = .ok (.ireturn, 1) := by decide +kernel
set_option maxRecDepth 20000 in
theorem ggX8_words_X8_isCommand : GoodIn wsX8_words wsX8_isCommand := goodIn_r _ [6, 7, 8, 17, 18, 19, 20, 21, 22, 23, 24, 25, 26, 27, 28, 29, 30, 31, 32, 33, 34, 35, 36, 37, 38, 39, 40, 41, 42, 43, 44, 45, 46, 47, 48, 49, 50, 51, 52, 53, 54, 55, 56, 57, 58] (by decide +kernel) (by decide +kernel)
set_option maxRecDepth 20000 in
theorem gX8_words_X8_isCommand : GoodIn wsX8_words (wsV RX8 122 RX8 yX8_isCommand wsX8_isCommand) := goodIn_app (goodIn_of _ (by decide +kernel)) ggX8_words_X8_isCommand
set_option maxRecDepth 20000 in
theorem ggX8_words_X8_isWords : GoodIn wsX8_words wsX8_isWords := goodIn_r _ [11, 12] (by decide +kernel) (by decide +kernel)
set_option maxRecDepth 20000 in
theorem gX8_words_X8_isWords : GoodIn wsX8_words (va_wsS RX8 109 yX8_isWords wsX8_isWords) := goodIn_app (goodIn_of _ (by decide +kernel)) ggX8_words_X8_isWords
set_option maxRecDepth 20000 in
theorem ggX8_words_X8_bad : GoodIn wsX8_words wsX8_bad := goodIn_r _ [16, 8, 17, 18, 19, 20, 21, 22, 23, 24, 25, 26, 27, 28, 29, 30, 31, 32, 33, 34, 35, 36, 37, 38, 39, 40, 41, 42, 43, 44, 45, 46, 47, 48, 49, 50, 51, 52, 53, 54, 55, 56, 57, 58] (by decide +kernel) (by decide +kernel)
set_option maxRecDepth 20000 in
theorem gX8_words_X8_bad : GoodIn wsX8_words (wsV RX8 112 RX8 yX8_bad wsX8_bad) := goodIn_app (goodIn_of _ (by decide +kernel)) ggX8_words_X8_bad
theorem dX8_words_0 : decode cX8_words 0 = .ok (.aload_n 0, 1) := by decide +kernel
theorem dX8_words_1 : decode cX8_words 1 = .ok (.iload_n 1, 1) := by decide +kernel
theorem dX8_words_2 : decode cX8_words 2 = .ok (.invokevirtual 122, 3) := by decide +kernel
theorem dX8_words_5 : decode cX8_words 5 = .ok (.ifCond .eq 23, 3) := by decide +kernel
theorem dX8_words_8 : decode cX8_words 8 = .ok (.aload_n 0, 1) := by decide +kernel
theorem dX8_words_9 : decode cX8_words 9 = .ok (.iload_n 2, 1) := by decide +kernel
theorem dX8_words_10 : decode cX8_words 10 = .ok (.invokestatic 109, 3) := by decide +kernel
theorem dX8_words_13 : decode cX8_words 13 = .ok (.ifCond .ne 7, 3) := by decide +kernel
theorem dX8_words_16 : decode cX8_words 16 = .ok (.iconst 1, 1) := by decide +kernel
theorem dX8_words_17 : decode cX8_words 17 = .ok (.goto 4, 3) := by decide +kernel
theorem dX8_words_20 : decode cX8_words 20 = .ok (.iconst 0, 1) := by decide +kernel
theorem dX8_words_21 : decode cX8_words 21 = .ok (.iconst 2, 1) := by decide +kernel
theorem dX8_words_22 : decode cX8_words 22 = .ok (.invokevirtual 112, 3) := by decide +kernel
theorem dX8_words_25 : decode cX8_words 25 = .ok (.ifCond .eq 5, 3) := by decide +kernel
theorem dX8_words_28 : decode cX8_words 28 = .ok (.iconst 0, 1) := by decide +kernel
theorem dX8_words_29 : decode cX8_words 29 = .ok (.ireturn, 1) := by decide +kernel
theorem dX8_words_30 : decode cX8_words 30 = .ok (.aload_n 0, 1) := by decide +kernel
theorem dX8_words_31 : decode cX8_words 31 = .ok (.getfield 13, 3) := by decide +kernel
theorem dX8_words_34 : decode cX8_words 34 = .ok (.iload_n 1, 1) := by decide +kernel
theorem dX8_words_35 : decode cX8_words 35 = .ok (.iaload, 1) := by decide +kernel
theorem dX8_words_36 : decode cX8_words 36 = .ok (.istore_n 3, 1) := by decide +kernel
theorem dX8_words_37 : decode cX8_words 37 = .ok (.aload_n 0, 1) := by decide +kernel
theorem dX8_words_38 : decode cX8_words 38 = .ok (.getfield 13, 3) := by decide +kernel
theorem dX8_words_41 : decode cX8_words 41 = .ok (.iload_n 1, 1) := by decide +kernel
theorem dX8_words_42 : decode cX8_words 42 = .ok (.iload_n 2, 1) := by decide +kernel
theorem dX8_words_43 : decode cX8_words 43 = .ok (.iastore, 1) := by decide +kernel
theorem dX8_words_44 : decode cX8_words 44 = .ok (.iload_n 3, 1) := by decide +kernel
theorem dX8_words_45 : decode cX8_words 45 = .ok (.ireturn, 1) := by decide +kernel
set_option maxRecDepth 20000 in
theorem ggX8_set_X8_bad : GoodIn wsX8_set wsX8_bad := goodIn_r _ [10, 1, 11, 12, 13, 14, 15, 16, 17, 18, 19, 20, 21, 22, 23, 24, 25, 26, 27, 28, 29, 30, 31, 32, 33, 34, 35, 36, 37, 38, 39, 40, 41, 42, 43, 44, 45, 46, 47, 48, 49, 50, 51, 52] (by decide +kernel) (by decide +kernel)
set_option maxRecDepth 20000 in
theorem gX8_set_X8_bad : GoodIn wsX8_set (wsV RX8 112 RX8 yX8_bad wsX8_bad) := goodIn_app (goodIn_of _ (by decide +kernel)) ggX8_set_X8_bad
theorem dX8_set_0 : decode cX8_set 0 = .ok (.aload_n 0, 1) := by decide +kernel
theorem dX8_set_1 : decode cX8_set 1 = .ok (.iconst 0, 1) := by decide +kernel
theorem dX8_set_2 : decode cX8_set 2 = .ok (.putfield 101, 3) := by decide +kernel
theorem dX8_set_5 : decode cX8_set 5 = .ok (.iload_n 1, 1) := by decide +kernel
theorem dX8_set_6 : decode cX8_set 6 = .ok (.ifCond .ne 7, 3) := by decide +kernel
theorem dX8_set_9 : decode cX8_set 9 = .ok (.iconst 1, 1) := by decide +kernel
theorem dX8_set_10 : decode cX8_set 10 = .ok (.goto 13, 3) := by decide +kernel
theorem dX8_set_13 : decode cX8_set 13 = .ok (.iload_n 1, 1) := by decide +kernel
theorem dX8_set_14 : decode cX8_set 14 = .ok (.iconst 2, 1) := by decide +kernel
theorem dX8_set_15 : decode cX8_set 15 = .ok (.if_icmp .ne 7, 3) := by decide +kernel
theorem dX8_set_18 : decode cX8_set 18 = .ok (.iconst 2, 1) := by decide +kernel
theorem dX8_set_19 : decode cX8_set 19 = .ok (.goto 4, 3) := by decide +kernel
theorem dX8_set_22 : decode cX8_set 22 = .ok (.iconst 0, 1) := by decide +kernel
theorem dX8_set_23 : decode cX8_set 23 = .ok (.istore_n 3, 1) := by decide +kernel
theorem dX8_set_24 : decode cX8_set 24 = .ok (.aload_n 0, 1) := by decide +kernel
theorem dX8_set_25 : decode cX8_set 25 = .ok (.iload_n 1, 1) := by decide +kernel
theorem dX8_set_26 : decode cX8_set 26 = .ok (.ifCond .lt 29, 3) := by decide +kernel
theorem dX8_set_29 : decode cX8_set 29 = .ok (.iload_n 1, 1) := by decide +kernel
theorem dX8_set_30 : decode cX8_set 30 = .ok (.iconst 3, 1) := by decide +kernel
theorem dX8_set_31 : decode cX8_set 31 = .ok (.if_icmp .gt 24, 3) := by decide +kernel
theorem dX8_set_34 : decode cX8_set 34 = .ok (.iload_n 2, 1) := by decide +kernel
theorem dX8_set_35 : decode cX8_set 35 = .ok (.iload_n 3, 1) := by decide +kernel
theorem dX8_set_36 : decode cX8_set 36 = .ok (.if_icmp .lt 19, 3) := by decide +kernel
theorem dX8_set_39 : decode cX8_set 39 = .ok (.iload_n 2, 1) := by decide +kernel
theorem dX8_set_40 : decode cX8_set 40 = .ok (.iload_n 1, 1) := by decide +kernel
theorem dX8_set_41 : decode cX8_set 41 = .ok (.iconst 2, 1) := by decide +kernel
theorem dX8_set_42 : decode cX8_set 42 = .ok (.if_icmp .ne 8, 3) := by decide +kernel
theorem dX8_set_45 : decode cX8_set 45 = .ok (.bipush 9, 2) := by decide +kernel
theorem dX8_set_47 : decode cX8_set 47 = .ok (.goto 5, 3) := by decide +kernel
theorem dX8_set_50 : decode cX8_set 50 = .ok (.bipush 100, 2) := by decide +kernel
theorem dX8_set_52 : decode cX8_set 52 = .ok (.if_icmp .le 7, 3) := by decide +kernel
theorem dX8_set_55 : decode cX8_set 55 = .ok (.iconst 1, 1) := by decide +kernel
theorem dX8_set_56 : decode cX8_set 56 = .ok (.goto 4, 3) := by decide +kernel
theorem dX8_set_59 : decode cX8_set 59 = .ok (.iconst 0, 1) := by decide +kernel
theorem dX8_set_60 : decode cX8_set 60 = .ok (.iconst 1, 1) := by decide +kernel
theorem dX8_set_61 : decode cX8_set 61 = .ok (.invokevirtual 112, 3) := by decide +kernel
theorem dX8_set_64 : decode cX8_set 64 = .ok (.ifCond .eq 5, 3) := by decide +kernel
theorem dX8_set_67 : decode cX8_set 67 = .ok (.iconst 0, 1) := by decide +kernel
theorem dX8_set_68 : decode cX8_set 68 = .ok (.ireturn, 1) := by decide +kernel
theorem dX8_set_69 : decode cX8_set 69 = .ok (.iload_n 1, 1) := by decide +kernel
theorem dX8_set_70 : decode cX8_set 70 = .ok (.ifCond .ne 10, 3) := by decide +kernel
theorem dX8_set_73 : decode cX8_set 73 = .ok (.aload_n 0, 1) := by decide +kernel
theorem dX8_set_74 : decode cX8_set 74 = .ok (.getfield 16, 3) := by decide +kernel
theorem dX8_set_77 : decode cX8_set 77 = .ok (.goto 31, 3) := by decide +kernel
theorem dX8_set_80 : decode cX8_set 80 = .ok (.iload_n 1, 1) := by decide +kernel
theorem dX8_set_81 : decode cX8_set 81 = .ok (.iconst 1, 1) := by decide +kernel
theorem dX8_set_82 : decode cX8_set 82 = .ok (.if_icmp .ne 10, 3) := by decide +kernel
theorem dX8_set_85 : decode cX8_set 85 = .ok (.aload_n 0, 1) := by decide +kernel
theorem dX8_set_86 : decode cX8_set 86 = .ok (.getfield 20, 3) := by decide +kernel
theorem dX8_set_89 : decode cX8_set 89 = .ok (.goto 19, 3) := by decide +kernel
theorem dX8_set_92 : decode cX8_set 92 = .ok (.iload_n 1, 1) := by decide +kernel
theorem dX8_set_93 : decode cX8_set 93 = .ok (.iconst 2, 1) := by decide +kernel
theorem dX8_set_94 : decode cX8_set 94 = .ok (.if_icmp .ne 10, 3) := by decide +kernel
theorem dX8_set_97 : decode cX8_set 97 = .ok (.aload_n 0, 1) := by decide +kernel
theorem dX8_set_98 : decode cX8_set 98 = .ok (.getfield 23, 3) := by decide +kernel
theorem dX8_set_101 : decode cX8_set 101 = .ok (.goto 7, 3) := by decide +kernel
theorem dX8_set_104 : decode cX8_set 104 = .ok (.aload_n 0, 1) := by decide +kernel
theorem dX8_set_105 : decode cX8_set 105 = .ok (.getfield 26, 3) := by decide +kernel
theorem dX8_set_108 : decode cX8_set 108 = .ok (.istore 4, 2) := by decide +kernel
theorem dX8_set_110 : decode cX8_set 110 = .ok (.iload_n 1, 1) := by decide +kernel
theorem dX8_set_111 : decode cX8_set 111 = .ok (.ifCond .ne 11, 3) := by decide +kernel
theorem dX8_set_114 : decode cX8_set 114 = .ok (.aload_n 0, 1) := by decide +kernel
theorem dX8_set_115 : decode cX8_set 115 = .ok (.iload_n 2, 1) := by decide +kernel
theorem dX8_set_116 : decode cX8_set 116 = .ok (.putfield 16, 3) := by decide +kernel
theorem dX8_set_119 : decode cX8_set 119 = .ok (.goto 34, 3) := by decide +kernel
theorem dX8_set_122 : decode cX8_set 122 = .ok (.iload_n 1, 1) := by decide +kernel
theorem dX8_set_123 : decode cX8_set 123 = .ok (.iconst 1, 1) := by decide +kernel
theorem dX8_set_124 : decode cX8_set 124 = .ok (.if_icmp .ne 11, 3) := by decide +kernel
theorem dX8_set_127 : decode cX8_set 127 = .ok (.aload_n 0, 1) := by decide +kernel
theorem dX8_set_128 : decode cX8_set 128 = .ok (.iload_n 2, 1) := by decide +kernel
theorem dX8_set_129 : decode cX8_set 129 = .ok (.putfield 20, 3) := by decide +kernel
theorem dX8_set_132 : decode cX8_set 132 = .ok (.goto 21, 3) := by decide +kernel
theorem dX8_set_135 : decode cX8_set 135 = .ok (.iload_n 1, 1) := by decide +kernel
theorem dX8_set_136 : decode cX8_set 136 = .ok (.iconst 2, 1) := by decide +kernel
theorem dX8_set_137 : decode cX8_set 137 = .ok (.if_icmp .ne 11, 3) := by decide +kernel
theorem dX8_set_140 : decode cX8_set 140 = .ok (.aload_n 0, 1) := by decide +kernel
theorem dX8_set_141 : decode cX8_set 141 = .ok (.iload_n 2, 1) := by decide +kernel
theorem dX8_set_142 : decode cX8_set 142 = .ok (.putfield 23, 3) := by decide +kernel
theorem dX8_set_145 : decode cX8_set 145 = .ok (.goto 8, 3) := by decide +kernel
theorem dX8_set_148 : decode cX8_set 148 = .ok (.aload_n 0, 1) := by decide +kernel
theorem dX8_set_149 : decode cX8_set 149 = .ok (.iload_n 2, 1) := by decide +kernel
theorem dX8_set_150 : decode cX8_set 150 = .ok (.putfield 26, 3) := by decide +kernel
theorem dX8_set_153 : decode cX8_set 153 = .ok (.iload 4, 2) := by decide +kernel
theorem dX8_set_155 : decode cX8_set 155 = .ok (.ireturn, 1) := by decide +kernel
theorem dX8_feed_0 : decode cX8_feed 0 = .ok (.aload_n 0, 1) := by decide +kernel
theorem dX8_feed_1 : decode cX8_feed 1 = .ok (.iconst 0, 1) := by decide +kernel
theorem dX8_feed_2 : decode cX8_feed 2 = .ok (.putfield 101, 3) := by decide +kernel
theorem dX8_feed_5 : decode cX8_feed 5 = .ok (.aload_n 0, 1) := by decide +kernel
theorem dX8_feed_6 : decode cX8_feed 6 = .ok (.getfield 125, 3) := by decide +kernel
theorem dX8_feed_9 : decode cX8_feed 9 = .ok (.bipush 20, 2) := by decide +kernel
theorem dX8_feed_11 : decode cX8_feed 11 = .ok (.iadd, 1) := by decide +kernel
theorem dX8_feed_12 : decode cX8_feed 12 = .ok (.sipush 400, 3) := by decide +kernel
theorem dX8_feed_15 : decode cX8_feed 15 = .ok (.if_icmp .le 5, 3) := by decide +kernel
theorem dX8_feed_18 : decode cX8_feed 18 = .ok (.iconst (-1), 1) := by decide +kernel
theorem dX8_feed_19 : decode cX8_feed 19 = .ok (.ireturn, 1) := by decide +kernel
theorem dX8_feed_20 : decode cX8_feed 20 = .ok (.iconst 0, 1) := by decide +kernel
theorem dX8_feed_21 : decode cX8_feed 21 = .ok (.istore 6, 2) := by decide +kernel
theorem dX8_feed_23 : decode cX8_feed 23 = .ok (.iload 6, 2) := by decide +kernel
theorem dX8_feed_25 : decode cX8_feed 25 = .ok (.iconst 5, 1) := by decide +kernel
theorem dX8_feed_26 : decode cX8_feed 26 = .ok (.if_icmp .ge 93, 3) := by decide +kernel
theorem dX8_feed_29 : decode cX8_feed 29 = .ok (.iload 6, 2) := by decide +kernel
theorem dX8_feed_31 : decode cX8_feed 31 = .ok (.ifCond .ne 7, 3) := by decide +kernel
theorem dX8_feed_34 : decode cX8_feed 34 = .ok (.iload_n 1, 1) := by decide +kernel
theorem dX8_feed_35 : decode cX8_feed 35 = .ok (.goto 36, 3) := by decide +kernel
theorem dX8_feed_38 : decode cX8_feed 38 = .ok (.iload 6, 2) := by decide +kernel
theorem dX8_feed_40 : decode cX8_feed 40 = .ok (.iconst 1, 1) := by decide +kernel
theorem dX8_feed_41 : decode cX8_feed 41 = .ok (.if_icmp .ne 7, 3) := by decide +kernel
theorem dX8_feed_44 : decode cX8_feed 44 = .ok (.iload_n 2, 1) := by decide +kernel
theorem dX8_feed_45 : decode cX8_feed 45 = .ok (.goto 26, 3) := by decide +kernel
theorem dX8_feed_48 : decode cX8_feed 48 = .ok (.iload 6, 2) := by decide +kernel
theorem dX8_feed_50 : decode cX8_feed 50 = .ok (.iconst 2, 1) := by decide +kernel
theorem dX8_feed_51 : decode cX8_feed 51 = .ok (.if_icmp .ne 7, 3) := by decide +kernel
theorem dX8_feed_54 : decode cX8_feed 54 = .ok (.iload_n 3, 1) := by decide +kernel
theorem dX8_feed_55 : decode cX8_feed 55 = .ok (.goto 16, 3) := by decide +kernel
theorem dX8_feed_58 : decode cX8_feed 58 = .ok (.iload 6, 2) := by decide +kernel
theorem dX8_feed_60 : decode cX8_feed 60 = .ok (.iconst 3, 1) := by decide +kernel
theorem dX8_feed_61 : decode cX8_feed 61 = .ok (.if_icmp .ne 8, 3) := by decide +kernel
theorem dX8_feed_64 : decode cX8_feed 64 = .ok (.iload 4, 2) := by decide +kernel
theorem dX8_feed_66 : decode cX8_feed 66 = .ok (.goto 5, 3) := by decide +kernel
theorem dX8_feed_69 : decode cX8_feed 69 = .ok (.iload 5, 2) := by decide +kernel
theorem dX8_feed_71 : decode cX8_feed 71 = .ok (.istore 7, 2) := by decide +kernel
theorem dX8_feed_73 : decode cX8_feed 73 = .ok (.bipush 24, 2) := by decide +kernel
theorem dX8_feed_75 : decode cX8_feed 75 = .ok (.istore 8, 2) := by decide +kernel
theorem dX8_feed_77 : decode cX8_feed 77 = .ok (.iload 8, 2) := by decide +kernel
theorem dX8_feed_79 : decode cX8_feed 79 = .ok (.ifCond .lt 34, 3) := by decide +kernel
theorem dX8_feed_82 : decode cX8_feed 82 = .ok (.aload_n 0, 1) := by decide +kernel
theorem dX8_feed_83 : decode cX8_feed 83 = .ok (.getfield 29, 3) := by decide +kernel
theorem dX8_feed_86 : decode cX8_feed 86 = .ok (.aload_n 0, 1) := by decide +kernel
theorem dX8_feed_87 : decode cX8_feed 87 = .ok (.getfield 125, 3) := by decide +kernel
theorem dX8_feed_90 : decode cX8_feed 90 = .ok (.iload 7, 2) := by decide +kernel
theorem dX8_feed_92 : decode cX8_feed 92 = .ok (.iload 8, 2) := by decide +kernel
theorem dX8_feed_94 : decode cX8_feed 94 = .ok (.ishr, 1) := by decide +kernel
theorem dX8_feed_95 : decode cX8_feed 95 = .ok (.i2b, 1) := by decide +kernel
theorem dX8_feed_96 : decode cX8_feed 96 = .ok (.bastore, 1) := by decide +kernel
theorem dX8_feed_97 : decode cX8_feed 97 = .ok (.aload_n 0, 1) := by decide +kernel
theorem dX8_feed_98 : decode cX8_feed 98 = .ok (.dup, 1) := by decide +kernel
theorem dX8_feed_99 : decode cX8_feed 99 = .ok (.getfield 125, 3) := by decide +kernel
theorem dX8_feed_102 : decode cX8_feed 102 = .ok (.iconst 1, 1) := by decide +kernel
theorem dX8_feed_103 : decode cX8_feed 103 = .ok (.iadd, 1) := by decide +kernel
theorem dX8_feed_104 : decode cX8_feed 104 = .ok (.putfield 125, 3) := by decide +kernel
theorem dX8_feed_107 : decode cX8_feed 107 = .ok (.iinc 8 (-8), 3) := by decide +kernel
theorem dX8_feed_110 : decode cX8_feed 110 = .ok (.goto (-33), 3) := by decide +kernel
theorem dX8_feed_113 : decode cX8_feed 113 = .ok (.iinc 6 1, 3) := by decide +kernel
theorem dX8_feed_116 : decode cX8_feed 116 = .ok (.goto (-93), 3) := by decide +kernel
theorem dX8_feed_119 : decode cX8_feed 119 = .ok (.aload_n 0, 1) := by decide +kernel
theorem dX8_feed_120 : decode cX8_feed 120 = .ok (.getfield 125, 3) := by decide +kernel
theorem dX8_feed_123 : decode cX8_feed 123 = .ok (.ireturn, 1) := by decide +kernel
theorem dX8_octet_0 : decode cX8_octet 0 = .ok (.aload_n 0, 1) := by decide +kernel
theorem dX8_octet_1 : decode cX8_octet 1 = .ok (.iconst 0, 1) := by decide +kernel
theorem dX8_octet_2 : decode cX8_octet 2 = .ok (.putfield 101, 3) := by decide +kernel
theorem dX8_octet_5 : decode cX8_octet 5 = .ok (.iload_n 1, 1) := by decide +kernel
theorem dX8_octet_6 : decode cX8_octet 6 = .ok (.ifCond .lt 20, 3) := by decide +kernel
theorem dX8_octet_9 : decode cX8_octet 9 = .ok (.iload_n 1, 1) := by decide +kernel
theorem dX8_octet_10 : decode cX8_octet 10 = .ok (.aload_n 0, 1) := by decide +kernel
theorem dX8_octet_11 : decode cX8_octet 11 = .ok (.getfield 128, 3) := by decide +kernel
theorem dX8_octet_14 : decode cX8_octet 14 = .ok (.if_icmp .ge 12, 3) := by decide +kernel
theorem dX8_octet_17 : decode cX8_octet 17 = .ok (.aload_n 0, 1) := by decide +kernel
theorem dX8_octet_18 : decode cX8_octet 18 = .ok (.getfield 33, 3) := by decide +kernel
theorem dX8_octet_21 : decode cX8_octet 21 = .ok (.iload_n 1, 1) := by decide +kernel
theorem dX8_octet_22 : decode cX8_octet 22 = .ok (.baload, 1) := by decide +kernel
theorem dX8_octet_23 : decode cX8_octet 23 = .ok (.goto 4, 3) := by decide +kernel
theorem dX8_octet_26 : decode cX8_octet 26 = .ok (.iconst (-1), 1) := by decide +kernel
theorem dX8_octet_27 : decode cX8_octet 27 = .ok (.ireturn, 1) := by decide +kernel
theorem dX8_adds_0 : decode cX8_adds 0 = .ok (.aload_n 0, 1) := by decide +kernel
theorem dX8_adds_1 : decode cX8_adds 1 = .ok (.getfield 42, 3) := by decide +kernel
theorem dX8_adds_4 : decode cX8_adds 4 = .ok (.bipush 9, 2) := by decide +kernel
theorem dX8_adds_6 : decode cX8_adds 6 = .ok (.iload_n 1, 1) := by decide +kernel
theorem dX8_adds_7 : decode cX8_adds 7 = .ok (.imul, 1) := by decide +kernel
theorem dX8_adds_8 : decode cX8_adds 8 = .ok (.aload_n 0, 1) := by decide +kernel
theorem dX8_adds_9 : decode cX8_adds 9 = .ok (.getfield 45, 3) := by decide +kernel
theorem dX8_adds_12 : decode cX8_adds 12 = .ok (.iload_n 1, 1) := by decide +kernel
theorem dX8_adds_13 : decode cX8_adds 13 = .ok (.iaload, 1) := by decide +kernel
theorem dX8_adds_14 : decode cX8_adds 14 = .ok (.iadd, 1) := by decide +kernel
theorem dX8_adds_15 : decode cX8_adds 15 = .ok (.iload_n 2, 1) := by decide +kernel
theorem dX8_adds_16 : decode cX8_adds 16 = .ok (.iastore, 1) := by decide +kernel
theorem dX8_adds_17 : decode cX8_adds 17 = .ok (.aload_n 0, 1) := by decide +kernel
theorem dX8_adds_18 : decode cX8_adds 18 = .ok (.getfield 45, 3) := by decide +kernel
theorem dX8_adds_21 : decode cX8_adds 21 = .ok (.iload_n 1, 1) := by decide +kernel
theorem dX8_adds_22 : decode cX8_adds 22 = .ok (.dup2, 1) := by decide +kernel
theorem dX8_adds_23 : decode cX8_adds 23 = .ok (.iaload, 1) := by decide +kernel
theorem dX8_adds_24 : decode cX8_adds 24 = .ok (.iconst 1, 1) := by decide +kernel
theorem dX8_adds_25 : decode cX8_adds 25 = .ok (.iadd, 1) := by decide +kernel
theorem dX8_adds_26 : decode cX8_adds 26 = .ok (.iastore, 1) := by decide +kernel
theorem dX8_adds_27 : decode cX8_adds 27 = .ok (.return_, 1) := by decide +kernel
theorem dX8_newList_0 : decode cX8_newList 0 = .ok (.aload_n 0, 1) := by decide +kernel
theorem dX8_newList_1 : decode cX8_newList 1 = .ok (.getfield 45, 3) := by decide +kernel
theorem dX8_newList_4 : decode cX8_newList 4 = .ok (.aload_n 0, 1) := by decide +kernel
theorem dX8_newList_5 : decode cX8_newList 5 = .ok (.getfield 131, 3) := by decide +kernel
theorem dX8_newList_8 : decode cX8_newList 8 = .ok (.iconst 0, 1) := by decide +kernel
theorem dX8_newList_9 : decode cX8_newList 9 = .ok (.iastore, 1) := by decide +kernel
theorem dX8_newList_10 : decode cX8_newList 10 = .ok (.aload_n 0, 1) := by decide +kernel
theorem dX8_newList_11 : decode cX8_newList 11 = .ok (.dup, 1) := by decide +kernel
theorem dX8_newList_12 : decode cX8_newList 12 = .ok (.getfield 131, 3) := by decide +kernel
theorem dX8_newList_15 : decode cX8_newList 15 = .ok (.iconst 1, 1) := by decide +kernel
theorem dX8_newList_16 : decode cX8_newList 16 = .ok (.iadd, 1) := by decide +kernel
theorem dX8_newList_17 : decode cX8_newList 17 = .ok (.putfield 131, 3) := by decide +kernel
theorem dX8_newList_20 : decode cX8_newList 20 = .ok (.aload_n 0, 1) := by decide +kernel
theorem dX8_newList_21 : decode cX8_newList 21 = .ok (.getfield 131, 3) := by decide +kernel
theorem dX8_newList_24 : decode cX8_newList 24 = .ok (.iconst 1, 1) := by decide +kernel
theorem dX8_newList_25 : decode cX8_newList 25 = .ok (.isub, 1) := by decide +kernel
theorem dX8_newList_26 : decode cX8_newList 26 = .ok (.ireturn, 1) := by decide +kernel
theorem dX8_becomes_0 : decode cX8_becomes 0 = .ok (.iconst 0, 1) := by decide +kernel
theorem dX8_becomes_1 : decode cX8_becomes 1 = .ok (.istore_n 1, 1) := by decide +kernel
theorem dX8_becomes_2 : decode cX8_becomes 2 = .ok (.iload_n 1, 1) := by decide +kernel
theorem dX8_becomes_3 : decode cX8_becomes 3 = .ok (.sipush 756, 3) := by decide +kernel
theorem dX8_becomes_6 : decode cX8_becomes 6 = .ok (.if_icmp .ge 21, 3) := by decide +kernel
theorem dX8_becomes_9 : decode cX8_becomes 9 = .ok (.aload_n 0, 1) := by decide +kernel
theorem dX8_becomes_10 : decode cX8_becomes 10 = .ok (.getfield 36, 3) := by decide +kernel
theorem dX8_becomes_13 : decode cX8_becomes 13 = .ok (.iload_n 1, 1) := by decide +kernel
theorem dX8_becomes_14 : decode cX8_becomes 14 = .ok (.aload_n 0, 1) := by decide +kernel
theorem dX8_becomes_15 : decode cX8_becomes 15 = .ok (.getfield 42, 3) := by decide +kernel
theorem dX8_becomes_18 : decode cX8_becomes 18 = .ok (.iload_n 1, 1) := by decide +kernel
theorem dX8_becomes_19 : decode cX8_becomes 19 = .ok (.iaload, 1) := by decide +kernel
theorem dX8_becomes_20 : decode cX8_becomes 20 = .ok (.iastore, 1) := by decide +kernel
theorem dX8_becomes_21 : decode cX8_becomes 21 = .ok (.iinc 1 1, 3) := by decide +kernel
theorem dX8_becomes_24 : decode cX8_becomes 24 = .ok (.goto (-22), 3) := by decide +kernel
theorem dX8_becomes_27 : decode cX8_becomes 27 = .ok (.iconst 0, 1) := by decide +kernel
theorem dX8_becomes_28 : decode cX8_becomes 28 = .ok (.istore_n 1, 1) := by decide +kernel
theorem dX8_becomes_29 : decode cX8_becomes 29 = .ok (.iload_n 1, 1) := by decide +kernel
theorem dX8_becomes_30 : decode cX8_becomes 30 = .ok (.bipush 84, 2) := by decide +kernel
theorem dX8_becomes_32 : decode cX8_becomes 32 = .ok (.if_icmp .ge 21, 3) := by decide +kernel
theorem dX8_becomes_35 : decode cX8_becomes 35 = .ok (.aload_n 0, 1) := by decide +kernel
theorem dX8_becomes_36 : decode cX8_becomes 36 = .ok (.getfield 39, 3) := by decide +kernel
theorem dX8_becomes_39 : decode cX8_becomes 39 = .ok (.iload_n 1, 1) := by decide +kernel
theorem dX8_becomes_40 : decode cX8_becomes 40 = .ok (.aload_n 0, 1) := by decide +kernel
theorem dX8_becomes_41 : decode cX8_becomes 41 = .ok (.getfield 45, 3) := by decide +kernel
theorem dX8_becomes_44 : decode cX8_becomes 44 = .ok (.iload_n 1, 1) := by decide +kernel
theorem dX8_becomes_45 : decode cX8_becomes 45 = .ok (.iaload, 1) := by decide +kernel
theorem dX8_becomes_46 : decode cX8_becomes 46 = .ok (.iastore, 1) := by decide +kernel
theorem dX8_becomes_47 : decode cX8_becomes 47 = .ok (.iinc 1 1, 3) := by decide +kernel
theorem dX8_becomes_50 : decode cX8_becomes 50 = .ok (.goto (-21), 3) := by decide +kernel
theorem dX8_becomes_53 : decode cX8_becomes 53 = .ok (.aload_n 0, 1) := by decide +kernel
theorem dX8_becomes_54 : decode cX8_becomes 54 = .ok (.aload_n 0, 1) := by decide +kernel
theorem dX8_becomes_55 : decode cX8_becomes 55 = .ok (.getfield 131, 3) := by decide +kernel
theorem dX8_becomes_58 : decode cX8_becomes 58 = .ok (.putfield 119, 3) := by decide +kernel
theorem dX8_becomes_61 : decode cX8_becomes 61 = .ok (.return_, 1) := by decide +kernel
theorem dX8_byteAt_0 : decode cX8_byteAt 0 = .ok (.iload_n 1, 1) := by decide +kernel
theorem dX8_byteAt_1 : decode cX8_byteAt 1 = .ok (.aload_n 0, 1) := by decide +kernel
theorem dX8_byteAt_2 : decode cX8_byteAt 2 = .ok (.getfield 134, 3) := by decide +kernel
theorem dX8_byteAt_5 : decode cX8_byteAt 5 = .ok (.if_icmp .ge 16, 3) := by decide +kernel
theorem dX8_byteAt_8 : decode cX8_byteAt 8 = .ok (.aload_n 0, 1) := by decide +kernel
theorem dX8_byteAt_9 : decode cX8_byteAt 9 = .ok (.getfield 29, 3) := by decide +kernel
theorem dX8_byteAt_12 : decode cX8_byteAt 12 = .ok (.iload_n 1, 1) := by decide +kernel
theorem dX8_byteAt_13 : decode cX8_byteAt 13 = .ok (.baload, 1) := by decide +kernel
theorem dX8_byteAt_14 : decode cX8_byteAt 14 = .ok (.sipush 255, 3) := by decide +kernel
theorem dX8_byteAt_17 : decode cX8_byteAt 17 = .ok (.iand, 1) := by decide +kernel
theorem dX8_byteAt_18 : decode cX8_byteAt 18 = .ok (.goto 4, 3) := by decide +kernel
theorem dX8_byteAt_21 : decode cX8_byteAt 21 = .ok (.iconst 0, 1) := by decide +kernel
theorem dX8_byteAt_22 : decode cX8_byteAt 22 = .ok (.ireturn, 1) := by decide +kernel
theorem dX8_wrong_0 : decode cX8_wrong 0 = .ok (.aload_n 0, 1) := by decide +kernel
theorem dX8_wrong_1 : decode cX8_wrong 1 = .ok (.getfield 137, 3) := by decide +kernel
theorem dX8_wrong_4 : decode cX8_wrong 4 = .ok (.ifCond .le 4, 3) := by decide +kernel
theorem dX8_wrong_7 : decode cX8_wrong 7 = .ok (.return_, 1) := by decide +kernel
theorem dX8_wrong_8 : decode cX8_wrong 8 = .ok (.aload_n 0, 1) := by decide +kernel
theorem dX8_wrong_9 : decode cX8_wrong 9 = .ok (.iload_n 1, 1) := by decide +kernel
theorem dX8_wrong_10 : decode cX8_wrong 10 = .ok (.putfield 137, 3) := by decide +kernel
theorem dX8_wrong_13 : decode cX8_wrong 13 = .ok (.aload_n 0, 1) := by decide +kernel
theorem dX8_wrong_14 : decode cX8_wrong 14 = .ok (.iload_n 2, 1) := by decide +kernel
theorem dX8_wrong_15 : decode cX8_wrong 15 = .ok (.putfield 48, 3) := by decide +kernel
theorem dX8_wrong_18 : decode cX8_wrong 18 = .ok (.return_, 1) := by decide +kernel
set_option maxRecDepth 20000 in
theorem ggX8_blanks_X8_byteAt : GoodIn wsX8_blanks wsX8_byteAt := goodIn_r _ [7, 2, 8, 9, 10, 11, 12, 13, 14, 15, 16, 17, 18, 19, 20, 21, 22, 23, 24, 25, 26, 27, 28, 29, 30, 31, 32, 33, 34, 35, 36, 37, 38, 39, 40, 41, 42, 43, 44, 45, 46, 47, 48, 49, 50] (by decide +kernel) (by decide +kernel)
set_option maxRecDepth 20000 in
theorem gX8_blanks_X8_byteAt : GoodIn wsX8_blanks (wsV RX8 143 RX8 yX8_byteAt wsX8_byteAt) := goodIn_app (goodIn_of _ (by decide +kernel)) ggX8_blanks_X8_byteAt
theorem dX8_blanks_0 : decode cX8_blanks 0 = .ok (.aload_n 0, 1) := by decide +kernel
theorem dX8_blanks_1 : decode cX8_blanks 1 = .ok (.getfield 140, 3) := by decide +kernel
theorem dX8_blanks_4 : decode cX8_blanks 4 = .ok (.aload_n 0, 1) := by decide +kernel
theorem dX8_blanks_5 : decode cX8_blanks 5 = .ok (.getfield 134, 3) := by decide +kernel
theorem dX8_blanks_8 : decode cX8_blanks 8 = .ok (.if_icmp .ge 29, 3) := by decide +kernel
theorem dX8_blanks_11 : decode cX8_blanks 11 = .ok (.aload_n 0, 1) := by decide +kernel
theorem dX8_blanks_12 : decode cX8_blanks 12 = .ok (.aload_n 0, 1) := by decide +kernel
theorem dX8_blanks_13 : decode cX8_blanks 13 = .ok (.getfield 140, 3) := by decide +kernel
theorem dX8_blanks_16 : decode cX8_blanks 16 = .ok (.invokevirtual 143, 3) := by decide +kernel
theorem dX8_blanks_19 : decode cX8_blanks 19 = .ok (.bipush 32, 2) := by decide +kernel
theorem dX8_blanks_21 : decode cX8_blanks 21 = .ok (.if_icmp .ne 16, 3) := by decide +kernel
theorem dX8_blanks_24 : decode cX8_blanks 24 = .ok (.aload_n 0, 1) := by decide +kernel
theorem dX8_blanks_25 : decode cX8_blanks 25 = .ok (.dup, 1) := by decide +kernel
theorem dX8_blanks_26 : decode cX8_blanks 26 = .ok (.getfield 140, 3) := by decide +kernel
theorem dX8_blanks_29 : decode cX8_blanks 29 = .ok (.iconst 1, 1) := by decide +kernel
theorem dX8_blanks_30 : decode cX8_blanks 30 = .ok (.iadd, 1) := by decide +kernel
theorem dX8_blanks_31 : decode cX8_blanks 31 = .ok (.putfield 140, 3) := by decide +kernel
theorem dX8_blanks_34 : decode cX8_blanks 34 = .ok (.goto (-34), 3) := by decide +kernel
theorem dX8_blanks_37 : decode cX8_blanks 37 = .ok (.return_, 1) := by decide +kernel
theorem dX8_isDigit_0 : decode cX8_isDigit 0 = .ok (.iload_n 0, 1) := by decide +kernel
theorem dX8_isDigit_1 : decode cX8_isDigit 1 = .ok (.bipush 48, 2) := by decide +kernel
theorem dX8_isDigit_3 : decode cX8_isDigit 3 = .ok (.if_icmp .lt 13, 3) := by decide +kernel
theorem dX8_isDigit_6 : decode cX8_isDigit 6 = .ok (.iload_n 0, 1) := by decide +kernel
theorem dX8_isDigit_7 : decode cX8_isDigit 7 = .ok (.bipush 57, 2) := by decide +kernel
theorem dX8_isDigit_9 : decode cX8_isDigit 9 = .ok (.if_icmp .gt 7, 3) := by decide +kernel
theorem dX8_isDigit_12 : decode cX8_isDigit 12 = .ok (.iconst 1, 1) := by decide +kernel
theorem dX8_isDigit_13 : decode cX8_isDigit 13 = .ok (.goto 4, 3) := by decide +kernel
theorem dX8_isDigit_16 : decode cX8_isDigit 16 = .ok (.iconst 0, 1) := by decide +kernel
theorem dX8_isDigit_17 : decode cX8_isDigit 17 = .ok (.ireturn, 1) := by decide +kernel
set_option maxRecDepth 20000 in
theorem ggX8_reads_X8_blanks : GoodIn wsX8_reads wsX8_blanks := goodIn_r _ [13, 1, 2, 14, 15, 16, 12, 17, 18, 41, 42, 43, 44, 45, 46, 47, 48, 49, 50, 51, 52, 53, 54, 55, 56, 57, 58, 59, 60, 61, 62, 63, 64, 65, 66, 67, 68, 69, 70, 71, 72, 73, 74, 75, 76, 77, 78, 79, 80, 81, 82] (by decide +kernel) (by decide +kernel)
set_option maxRecDepth 20000 in
theorem gX8_reads_X8_blanks : GoodIn wsX8_reads (wsV RX8 147 RX8 yX8_blanks wsX8_blanks) := goodIn_app (goodIn_of _ (by decide +kernel)) ggX8_reads_X8_blanks
set_option maxRecDepth 20000 in
theorem ggX8_reads_X8_byteAt : GoodIn wsX8_reads wsX8_byteAt := goodIn_r _ [17, 2, 18, 41, 42, 43, 44, 45, 46, 47, 48, 49, 50, 51, 52, 53, 54, 55, 56, 57, 58, 59, 60, 61, 62, 63, 64, 65, 66, 67, 68, 69, 70, 71, 72, 73, 74, 75, 76, 77, 78, 79, 80, 81, 82] (by decide +kernel) (by decide +kernel)
set_option maxRecDepth 20000 in
theorem gX8_reads_X8_byteAt : GoodIn wsX8_reads (wsV RX8 143 RX8 yX8_byteAt wsX8_byteAt) := goodIn_app (goodIn_of _ (by decide +kernel)) ggX8_reads_X8_byteAt
set_option maxRecDepth 20000 in
theorem ggX8_reads_X8_wrong : GoodIn wsX8_reads wsX8_wrong := goodIn_r _ [22, 4, 23, 41, 42, 43, 44, 45, 46, 47, 48, 49, 50, 51, 52, 53, 54, 55, 56, 57, 58, 59, 60, 61, 62, 63, 64, 65, 66, 67, 68, 69, 70, 71, 72, 73, 74, 75, 76, 77, 78, 79, 80, 81, 82] (by decide +kernel) (by decide +kernel)
set_option maxRecDepth 20000 in
theorem gX8_reads_X8_wrong : GoodIn wsX8_reads (wsV RX8 150 RX8 yX8_wrong wsX8_wrong) := goodIn_app (goodIn_of _ (by decide +kernel)) ggX8_reads_X8_wrong
set_option maxRecDepth 20000 in
theorem ggX8_reads_X8_newList : GoodIn wsX8_reads wsX8_newList := goodIn_r _ [27, 5, 28, 41, 42, 43, 44, 45, 46, 47, 48, 49, 50, 51, 52, 53, 54, 55, 56, 57, 58, 59, 60, 61, 62, 63, 64, 65, 66, 67, 68, 69, 70, 71, 72, 73, 74, 75, 76, 77, 78, 79, 80, 81, 82] (by decide +kernel) (by decide +kernel)
set_option maxRecDepth 20000 in
theorem gX8_reads_X8_newList : GoodIn wsX8_reads (wsV RX8 154 RX8 yX8_newList wsX8_newList) := goodIn_app (goodIn_of _ (by decide +kernel)) ggX8_reads_X8_newList
set_option maxRecDepth 20000 in
theorem ggX8_reads_X8_isDigit : GoodIn wsX8_reads wsX8_isDigit := goodIn_r _ [31] (by decide +kernel) (by decide +kernel)
set_option maxRecDepth 20000 in
theorem gX8_reads_X8_isDigit : GoodIn wsX8_reads (va_wsS RX8 158 yX8_isDigit wsX8_isDigit) := goodIn_app (goodIn_of _ (by decide +kernel)) ggX8_reads_X8_isDigit
set_option maxRecDepth 20000 in
theorem ggX8_reads_X8_number : GoodIn wsX8_reads wsX8_number := goodIn_r _ [35, 1, 7, 8, 5, 6, 4, 14, 15, 16, 12, 17, 2, 18, 29, 30, 31, 19, 20, 21, 22, 23, 36, 37, 38, 39, 40, 41, 42, 43, 44, 45, 46, 47, 48, 49, 50, 51, 52, 53, 54, 55, 56, 57, 58, 59, 60, 61, 62, 63, 64, 65, 66, 67, 68, 69, 70, 71, 72, 73, 74, 75, 76, 77, 78, 79, 80, 81, 82] (by decide +kernel) (by decide +kernel)
set_option maxRecDepth 20000 in
theorem gX8_reads_X8_number : GoodIn wsX8_reads (wsV RX8 161 RX8 yX8_number wsX8_number) := goodIn_app (goodIn_of _ (by decide +kernel)) ggX8_reads_X8_number
set_option maxRecDepth 20000 in
theorem ggX8_reads_X8_adds : GoodIn wsX8_reads wsX8_adds := goodIn_r _ [39, 40, 5, 41, 42, 43, 44, 45, 46, 47, 48, 49, 50, 51, 52, 53, 54, 55, 56, 57, 58, 59, 60, 61, 62, 63, 64, 65, 66, 67, 68, 69, 70, 71, 72, 73, 74, 75, 76, 77, 78, 79, 80, 81, 82] (by decide +kernel) (by decide +kernel)
set_option maxRecDepth 20000 in
theorem gX8_reads_X8_adds : GoodIn wsX8_reads (wsV RX8 165 RX8 yX8_adds wsX8_adds) := goodIn_app (goodIn_of _ (by decide +kernel)) ggX8_reads_X8_adds
theorem dX8_reads_0 : decode cX8_reads 0 = .ok (.aload_n 0, 1) := by decide +kernel
theorem dX8_reads_1 : decode cX8_reads 1 = .ok (.invokevirtual 147, 3) := by decide +kernel
theorem dX8_reads_4 : decode cX8_reads 4 = .ok (.aload_n 0, 1) := by decide +kernel
theorem dX8_reads_5 : decode cX8_reads 5 = .ok (.getfield 140, 3) := by decide +kernel
theorem dX8_reads_8 : decode cX8_reads 8 = .ok (.aload_n 0, 1) := by decide +kernel
theorem dX8_reads_9 : decode cX8_reads 9 = .ok (.getfield 134, 3) := by decide +kernel
theorem dX8_reads_12 : decode cX8_reads 12 = .ok (.if_icmp .ge 16, 3) := by decide +kernel
theorem dX8_reads_15 : decode cX8_reads 15 = .ok (.aload_n 0, 1) := by decide +kernel
theorem dX8_reads_16 : decode cX8_reads 16 = .ok (.aload_n 0, 1) := by decide +kernel
theorem dX8_reads_17 : decode cX8_reads 17 = .ok (.getfield 140, 3) := by decide +kernel
theorem dX8_reads_20 : decode cX8_reads 20 = .ok (.invokevirtual 143, 3) := by decide +kernel
theorem dX8_reads_23 : decode cX8_reads 23 = .ok (.bipush 40, 2) := by decide +kernel
theorem dX8_reads_25 : decode cX8_reads 25 = .ok (.if_icmp .eq 13, 3) := by decide +kernel
theorem dX8_reads_28 : decode cX8_reads 28 = .ok (.aload_n 0, 1) := by decide +kernel
theorem dX8_reads_29 : decode cX8_reads 29 = .ok (.iconst 1, 1) := by decide +kernel
theorem dX8_reads_30 : decode cX8_reads 30 = .ok (.aload_n 0, 1) := by decide +kernel
theorem dX8_reads_31 : decode cX8_reads 31 = .ok (.getfield 140, 3) := by decide +kernel
theorem dX8_reads_34 : decode cX8_reads 34 = .ok (.invokevirtual 150, 3) := by decide +kernel
theorem dX8_reads_37 : decode cX8_reads 37 = .ok (.return_, 1) := by decide +kernel
theorem dX8_reads_38 : decode cX8_reads 38 = .ok (.aload_n 0, 1) := by decide +kernel
theorem dX8_reads_39 : decode cX8_reads 39 = .ok (.dup, 1) := by decide +kernel
theorem dX8_reads_40 : decode cX8_reads 40 = .ok (.getfield 140, 3) := by decide +kernel
theorem dX8_reads_43 : decode cX8_reads 43 = .ok (.iconst 1, 1) := by decide +kernel
theorem dX8_reads_44 : decode cX8_reads 44 = .ok (.iadd, 1) := by decide +kernel
theorem dX8_reads_45 : decode cX8_reads 45 = .ok (.putfield 140, 3) := by decide +kernel
theorem dX8_reads_48 : decode cX8_reads 48 = .ok (.iconst 1, 1) := by decide +kernel
theorem dX8_reads_49 : decode cX8_reads 49 = .ok (.istore_n 1, 1) := by decide +kernel
theorem dX8_reads_50 : decode cX8_reads 50 = .ok (.aload_n 0, 1) := by decide +kernel
theorem dX8_reads_51 : decode cX8_reads 51 = .ok (.getfield 55, 3) := by decide +kernel
theorem dX8_reads_54 : decode cX8_reads 54 = .ok (.iconst 0, 1) := by decide +kernel
theorem dX8_reads_55 : decode cX8_reads 55 = .ok (.aload_n 0, 1) := by decide +kernel
theorem dX8_reads_56 : decode cX8_reads 56 = .ok (.invokevirtual 154, 3) := by decide +kernel
theorem dX8_reads_59 : decode cX8_reads 59 = .ok (.iastore, 1) := by decide +kernel
theorem dX8_reads_60 : decode cX8_reads 60 = .ok (.iload_n 1, 1) := by decide +kernel
theorem dX8_reads_61 : decode cX8_reads 61 = .ok (.ifCond .le 204, 3) := by decide +kernel
theorem dX8_reads_64 : decode cX8_reads 64 = .ok (.aload_n 0, 1) := by decide +kernel
theorem dX8_reads_65 : decode cX8_reads 65 = .ok (.getfield 137, 3) := by decide +kernel
theorem dX8_reads_68 : decode cX8_reads 68 = .ok (.ifCond .ne 197, 3) := by decide +kernel
theorem dX8_reads_71 : decode cX8_reads 71 = .ok (.aload_n 0, 1) := by decide +kernel
theorem dX8_reads_72 : decode cX8_reads 72 = .ok (.invokevirtual 147, 3) := by decide +kernel
theorem dX8_reads_75 : decode cX8_reads 75 = .ok (.aload_n 0, 1) := by decide +kernel
theorem dX8_reads_76 : decode cX8_reads 76 = .ok (.getfield 140, 3) := by decide +kernel
theorem dX8_reads_79 : decode cX8_reads 79 = .ok (.aload_n 0, 1) := by decide +kernel
theorem dX8_reads_80 : decode cX8_reads 80 = .ok (.getfield 134, 3) := by decide +kernel
theorem dX8_reads_83 : decode cX8_reads 83 = .ok (.if_icmp .ge 14, 3) := by decide +kernel
theorem dX8_reads_86 : decode cX8_reads 86 = .ok (.aload_n 0, 1) := by decide +kernel
theorem dX8_reads_87 : decode cX8_reads 87 = .ok (.aload_n 0, 1) := by decide +kernel
theorem dX8_reads_88 : decode cX8_reads 88 = .ok (.getfield 140, 3) := by decide +kernel
theorem dX8_reads_91 : decode cX8_reads 91 = .ok (.invokevirtual 143, 3) := by decide +kernel
theorem dX8_reads_94 : decode cX8_reads 94 = .ok (.goto 4, 3) := by decide +kernel
theorem dX8_reads_97 : decode cX8_reads 97 = .ok (.iconst 0, 1) := by decide +kernel
theorem dX8_reads_98 : decode cX8_reads 98 = .ok (.istore_n 2, 1) := by decide +kernel
theorem dX8_reads_99 : decode cX8_reads 99 = .ok (.aload_n 0, 1) := by decide +kernel
theorem dX8_reads_100 : decode cX8_reads 100 = .ok (.getfield 55, 3) := by decide +kernel
theorem dX8_reads_103 : decode cX8_reads 103 = .ok (.iload_n 1, 1) := by decide +kernel
theorem dX8_reads_104 : decode cX8_reads 104 = .ok (.iconst 1, 1) := by decide +kernel
theorem dX8_reads_105 : decode cX8_reads 105 = .ok (.isub, 1) := by decide +kernel
theorem dX8_reads_106 : decode cX8_reads 106 = .ok (.iaload, 1) := by decide +kernel
theorem dX8_reads_107 : decode cX8_reads 107 = .ok (.istore_n 3, 1) := by decide +kernel
theorem dX8_reads_108 : decode cX8_reads 108 = .ok (.iload_n 2, 1) := by decide +kernel
theorem dX8_reads_109 : decode cX8_reads 109 = .ok (.invokestatic 158, 3) := by decide +kernel
theorem dX8_reads_112 : decode cX8_reads 112 = .ok (.ifCond .eq 11, 3) := by decide +kernel
theorem dX8_reads_115 : decode cX8_reads 115 = .ok (.aload_n 0, 1) := by decide +kernel
theorem dX8_reads_116 : decode cX8_reads 116 = .ok (.iload_n 3, 1) := by decide +kernel
theorem dX8_reads_117 : decode cX8_reads 117 = .ok (.invokevirtual 161, 3) := by decide +kernel
theorem dX8_reads_120 : decode cX8_reads 120 = .ok (.goto 142, 3) := by decide +kernel
theorem dX8_reads_123 : decode cX8_reads 123 = .ok (.iload_n 2, 1) := by decide +kernel
theorem dX8_reads_124 : decode cX8_reads 124 = .ok (.bipush 40, 2) := by decide +kernel
theorem dX8_reads_126 : decode cX8_reads 126 = .ok (.if_icmp .ne 72, 3) := by decide +kernel
theorem dX8_reads_129 : decode cX8_reads 129 = .ok (.aload_n 0, 1) := by decide +kernel
theorem dX8_reads_130 : decode cX8_reads 130 = .ok (.getfield 45, 3) := by decide +kernel
theorem dX8_reads_133 : decode cX8_reads 133 = .ok (.iload_n 3, 1) := by decide +kernel
theorem dX8_reads_134 : decode cX8_reads 134 = .ok (.iaload, 1) := by decide +kernel
theorem dX8_reads_135 : decode cX8_reads 135 = .ok (.aload_n 0, 1) := by decide +kernel
theorem dX8_reads_136 : decode cX8_reads 136 = .ok (.getfield 23, 3) := by decide +kernel
theorem dX8_reads_139 : decode cX8_reads 139 = .ok (.if_icmp .eq 9, 3) := by decide +kernel
theorem dX8_reads_142 : decode cX8_reads 142 = .ok (.iload_n 1, 1) := by decide +kernel
theorem dX8_reads_143 : decode cX8_reads 143 = .ok (.bipush 40, 2) := by decide +kernel
theorem dX8_reads_145 : decode cX8_reads 145 = .ok (.if_icmp .ne 13, 3) := by decide +kernel
theorem dX8_reads_148 : decode cX8_reads 148 = .ok (.aload_n 0, 1) := by decide +kernel
theorem dX8_reads_149 : decode cX8_reads 149 = .ok (.iconst 4, 1) := by decide +kernel
theorem dX8_reads_150 : decode cX8_reads 150 = .ok (.aload_n 0, 1) := by decide +kernel
theorem dX8_reads_151 : decode cX8_reads 151 = .ok (.getfield 140, 3) := by decide +kernel
theorem dX8_reads_154 : decode cX8_reads 154 = .ok (.invokevirtual 150, 3) := by decide +kernel
theorem dX8_reads_157 : decode cX8_reads 157 = .ok (.return_, 1) := by decide +kernel
theorem dX8_reads_158 : decode cX8_reads 158 = .ok (.aload_n 0, 1) := by decide +kernel
theorem dX8_reads_159 : decode cX8_reads 159 = .ok (.invokevirtual 154, 3) := by decide +kernel
theorem dX8_reads_162 : decode cX8_reads 162 = .ok (.istore 4, 2) := by decide +kernel
theorem dX8_reads_164 : decode cX8_reads 164 = .ok (.aload_n 0, 1) := by decide +kernel
theorem dX8_reads_165 : decode cX8_reads 165 = .ok (.iload_n 3, 1) := by decide +kernel
theorem dX8_reads_166 : decode cX8_reads 166 = .ok (.bipush (-2), 2) := by decide +kernel
theorem dX8_reads_168 : decode cX8_reads 168 = .ok (.iload 4, 2) := by decide +kernel
theorem dX8_reads_170 : decode cX8_reads 170 = .ok (.isub, 1) := by decide +kernel
theorem dX8_reads_171 : decode cX8_reads 171 = .ok (.invokevirtual 165, 3) := by decide +kernel
theorem dX8_reads_174 : decode cX8_reads 174 = .ok (.aload_n 0, 1) := by decide +kernel
theorem dX8_reads_175 : decode cX8_reads 175 = .ok (.getfield 55, 3) := by decide +kernel
theorem dX8_reads_178 : decode cX8_reads 178 = .ok (.iload_n 1, 1) := by decide +kernel
theorem dX8_reads_179 : decode cX8_reads 179 = .ok (.iload 4, 2) := by decide +kernel
theorem dX8_reads_181 : decode cX8_reads 181 = .ok (.iastore, 1) := by decide +kernel
theorem dX8_reads_182 : decode cX8_reads 182 = .ok (.iinc 1 1, 3) := by decide +kernel
theorem dX8_reads_185 : decode cX8_reads 185 = .ok (.aload_n 0, 1) := by decide +kernel
theorem dX8_reads_186 : decode cX8_reads 186 = .ok (.dup, 1) := by decide +kernel
theorem dX8_reads_187 : decode cX8_reads 187 = .ok (.getfield 140, 3) := by decide +kernel
theorem dX8_reads_190 : decode cX8_reads 190 = .ok (.iconst 1, 1) := by decide +kernel
theorem dX8_reads_191 : decode cX8_reads 191 = .ok (.iadd, 1) := by decide +kernel
theorem dX8_reads_192 : decode cX8_reads 192 = .ok (.putfield 140, 3) := by decide +kernel
theorem dX8_reads_195 : decode cX8_reads 195 = .ok (.goto 67, 3) := by decide +kernel
theorem dX8_reads_198 : decode cX8_reads 198 = .ok (.iload_n 2, 1) := by decide +kernel
theorem dX8_reads_199 : decode cX8_reads 199 = .ok (.bipush 41, 2) := by decide +kernel
