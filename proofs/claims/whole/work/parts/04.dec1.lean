theorem dX0_init_0 : decode cX0_init 0 = .ok (.aload_n 0, 1) := by decide +kernel
theorem dX0_init_1 : decode cX0_init 1 = .ok (.invokespecial 3, 3) := by decide +kernel
theorem dX0_init_4 : decode cX0_init 4 = .ok (.aload_n 0, 1) := by decide +kernel
theorem dX0_init_5 : decode cX0_init 5 = .ok (.iconst 4, 1) := by decide +kernel
theorem dX0_init_6 : decode cX0_init 6 = .ok (.newarray .long, 2) := by decide +kernel
theorem dX0_init_8 : decode cX0_init 8 = .ok (.putfield 9, 3) := by decide +kernel
theorem dX0_init_11 : decode cX0_init 11 = .ok (.aload_n 0, 1) := by decide +kernel
theorem dX0_init_12 : decode cX0_init 12 = .ok (.iconst 4, 1) := by decide +kernel
theorem dX0_init_13 : decode cX0_init 13 = .ok (.newarray .int, 2) := by decide +kernel
theorem dX0_init_15 : decode cX0_init 15 = .ok (.putfield 15, 3) := by decide +kernel
theorem dX0_init_18 : decode cX0_init 18 = .ok (.aload_n 0, 1) := by decide +kernel
theorem dX0_init_19 : decode cX0_init 19 = .ok (.iconst 4, 1) := by decide +kernel
theorem dX0_init_20 : decode cX0_init 20 = .ok (.iconst 3, 1) := by decide +kernel
theorem dX0_init_21 : decode cX0_init 21 = .ok (.multianewarray 19 2, 4) := by decide +kernel
theorem dX0_init_25 : decode cX0_init 25 = .ok (.putfield 21, 3) := by decide +kernel
theorem dX0_init_28 : decode cX0_init 28 = .ok (.aload_n 0, 1) := by decide +kernel
theorem dX0_init_29 : decode cX0_init 29 = .ok (.iconst (-1), 1) := by decide +kernel
theorem dX0_init_30 : decode cX0_init 30 = .ok (.putfield 24, 3) := by decide +kernel
theorem dX0_init_33 : decode cX0_init 33 = .ok (.aload_n 0, 1) := by decide +kernel
theorem dX0_init_34 : decode cX0_init 34 = .ok (.bipush 66, 2) := by decide +kernel
theorem dX0_init_36 : decode cX0_init 36 = .ok (.newarray .int, 2) := by decide +kernel
theorem dX0_init_38 : decode cX0_init 38 = .ok (.putfield 28, 3) := by decide +kernel
theorem dX0_init_41 : decode cX0_init 41 = .ok (.aload_n 0, 1) := by decide +kernel
theorem dX0_init_42 : decode cX0_init 42 = .ok (.bipush 66, 2) := by decide +kernel
theorem dX0_init_44 : decode cX0_init 44 = .ok (.newarray .int, 2) := by decide +kernel
theorem dX0_init_46 : decode cX0_init 46 = .ok (.putfield 31, 3) := by decide +kernel
theorem dX0_init_49 : decode cX0_init 49 = .ok (.aload_n 0, 1) := by decide +kernel
theorem dX0_init_50 : decode cX0_init 50 = .ok (.iconst 0, 1) := by decide +kernel
theorem dX0_init_51 : decode cX0_init 51 = .ok (.putfield 34, 3) := by decide +kernel
theorem dX0_init_54 : decode cX0_init 54 = .ok (.aload_n 0, 1) := by decide +kernel
theorem dX0_init_55 : decode cX0_init 55 = .ok (.bipush 12, 2) := by decide +kernel
theorem dX0_init_57 : decode cX0_init 57 = .ok (.newarray .long, 2) := by decide +kernel
theorem dX0_init_59 : decode cX0_init 59 = .ok (.putfield 37, 3) := by decide +kernel
theorem dX0_init_62 : decode cX0_init 62 = .ok (.aload_n 0, 1) := by decide +kernel
theorem dX0_init_63 : decode cX0_init 63 = .ok (.bipush 12, 2) := by decide +kernel
theorem dX0_init_65 : decode cX0_init 65 = .ok (.newarray .long, 2) := by decide +kernel
theorem dX0_init_67 : decode cX0_init 67 = .ok (.putfield 40, 3) := by decide +kernel
theorem dX0_init_70 : decode cX0_init 70 = .ok (.aload_n 0, 1) := by decide +kernel
theorem dX0_init_71 : decode cX0_init 71 = .ok (.lconst 0, 1) := by decide +kernel
theorem dX0_init_72 : decode cX0_init 72 = .ok (.putfield 43, 3) := by decide +kernel
theorem dX0_init_75 : decode cX0_init 75 = .ok (.aload_n 0, 1) := by decide +kernel
theorem dX0_init_76 : decode cX0_init 76 = .ok (.iconst 3, 1) := by decide +kernel
theorem dX0_init_77 : decode cX0_init 77 = .ok (.newarray .int, 2) := by decide +kernel
theorem dX0_init_79 : decode cX0_init 79 = .ok (.putfield 47, 3) := by decide +kernel
theorem dX0_init_82 : decode cX0_init 82 = .ok (.return_, 1) := by decide +kernel
theorem dX0_forget_0 : decode cX0_forget 0 = .ok (.aload_n 0, 1) := by decide +kernel
theorem dX0_forget_1 : decode cX0_forget 1 = .ok (.iconst (-1), 1) := by decide +kernel
theorem dX0_forget_2 : decode cX0_forget 2 = .ok (.putfield 24, 3) := by decide +kernel
theorem dX0_forget_5 : decode cX0_forget 5 = .ok (.return_, 1) := by decide +kernel
theorem dX0_partner_0 : decode cX0_partner 0 = .ok (.aload_n 0, 1) := by decide +kernel
theorem dX0_partner_1 : decode cX0_partner 1 = .ok (.getfield 21, 3) := by decide +kernel
theorem dX0_partner_4 : decode cX0_partner 4 = .ok (.iload_n 1, 1) := by decide +kernel
theorem dX0_partner_5 : decode cX0_partner 5 = .ok (.aaload, 1) := by decide +kernel
theorem dX0_partner_6 : decode cX0_partner 6 = .ok (.iload_n 2, 1) := by decide +kernel
theorem dX0_partner_7 : decode cX0_partner 7 = .ok (.iaload, 1) := by decide +kernel
theorem dX0_partner_8 : decode cX0_partner 8 = .ok (.istore 4, 2) := by decide +kernel
theorem dX0_partner_10 : decode cX0_partner 10 = .ok (.iload_n 3, 1) := by decide +kernel
theorem dX0_partner_11 : decode cX0_partner 11 = .ok (.ifCond .ne 13, 3) := by decide +kernel
theorem dX0_partner_14 : decode cX0_partner 14 = .ok (.aload_n 0, 1) := by decide +kernel
theorem dX0_partner_15 : decode cX0_partner 15 = .ok (.getfield 28, 3) := by decide +kernel
theorem dX0_partner_18 : decode cX0_partner 18 = .ok (.iload 4, 2) := by decide +kernel
theorem dX0_partner_20 : decode cX0_partner 20 = .ok (.iaload, 1) := by decide +kernel
theorem dX0_partner_21 : decode cX0_partner 21 = .ok (.goto 10, 3) := by decide +kernel
theorem dX0_partner_24 : decode cX0_partner 24 = .ok (.aload_n 0, 1) := by decide +kernel
theorem dX0_partner_25 : decode cX0_partner 25 = .ok (.getfield 31, 3) := by decide +kernel
theorem dX0_partner_28 : decode cX0_partner 28 = .ok (.iload 4, 2) := by decide +kernel
theorem dX0_partner_30 : decode cX0_partner 30 = .ok (.iaload, 1) := by decide +kernel
theorem dX0_partner_31 : decode cX0_partner 31 = .ok (.ireturn, 1) := by decide +kernel
set_option maxRecDepth 20000 in
theorem ggX0_reckon_X0_begin : GoodIn wsX0_reckon wsX0_begin := goodIn_r _ [13, 14, 15, 16, 17, 18, 19, 20, 21, 22, 23, 2, 3, 1, 24, 25, 26, 27, 28, 29, 30, 31, 32, 33, 34, 35, 36, 12, 37, 38, 39, 40, 41, 42, 43, 44, 45, 46, 47, 80, 81, 82, 83, 69, 70, 71, 72, 73, 74, 75, 76, 77, 78, 79, 84, 85, 86, 87, 88, 89, 90, 91] (by decide +kernel) (by decide +kernel)
set_option maxRecDepth 20000 in
theorem gX0_reckon_X0_begin : GoodIn wsX0_reckon (wsV RX0 50 RX0 yX0_begin wsX0_begin) := goodIn_app (goodIn_of _ (by decide +kernel)) ggX0_reckon_X0_begin
set_option maxRecDepth 20000 in
theorem ggX0_reckon_X0_tryRows : GoodIn wsX0_reckon wsX0_tryRows := goodIn_r _ [51, 38, 52, 2, 53, 54, 55, 12, 56, 39, 40, 57, 58, 59, 60, 21, 23, 15, 61, 62, 63, 64, 48, 49, 50, 65, 66, 67, 68, 3, 4, 5, 6, 7, 8, 69, 70, 71, 72, 73, 74, 75, 76, 77, 78, 79] (by decide +kernel) (by decide +kernel)
set_option maxRecDepth 20000 in
theorem gX0_reckon_X0_tryRows : GoodIn wsX0_reckon (wsV RX0 60 RX0 yX0_tryRows wsX0_tryRows) := goodIn_app (goodIn_of _ (by decide +kernel)) ggX0_reckon_X0_tryRows
theorem dX0_reckon_0 : decode cX0_reckon 0 = .ok (.aload_n 0, 1) := by decide +kernel
theorem dX0_reckon_1 : decode cX0_reckon 1 = .ok (.getfield 24, 3) := by decide +kernel
theorem dX0_reckon_4 : decode cX0_reckon 4 = .ok (.iconst (-1), 1) := by decide +kernel
theorem dX0_reckon_5 : decode cX0_reckon 5 = .ok (.if_icmp .ne 9, 3) := by decide +kernel
theorem dX0_reckon_8 : decode cX0_reckon 8 = .ok (.aload_n 0, 1) := by decide +kernel
theorem dX0_reckon_9 : decode cX0_reckon 9 = .ok (.aload_n 2, 1) := by decide +kernel
theorem dX0_reckon_10 : decode cX0_reckon 10 = .ok (.aload_n 3, 1) := by decide +kernel
theorem dX0_reckon_11 : decode cX0_reckon 11 = .ok (.invokevirtual 50, 3) := by decide +kernel
theorem dX0_reckon_14 : decode cX0_reckon 14 = .ok (.aload_n 0, 1) := by decide +kernel
theorem dX0_reckon_15 : decode cX0_reckon 15 = .ok (.getfield 24, 3) := by decide +kernel
theorem dX0_reckon_18 : decode cX0_reckon 18 = .ok (.iconst 1, 1) := by decide +kernel
theorem dX0_reckon_19 : decode cX0_reckon 19 = .ok (.iadd, 1) := by decide +kernel
theorem dX0_reckon_20 : decode cX0_reckon 20 = .ok (.istore 4, 2) := by decide +kernel
theorem dX0_reckon_22 : decode cX0_reckon 22 = .ok (.iload 4, 2) := by decide +kernel
theorem dX0_reckon_24 : decode cX0_reckon 24 = .ok (.iload_n 1, 1) := by decide +kernel
theorem dX0_reckon_25 : decode cX0_reckon 25 = .ok (.if_icmp .gt 82, 3) := by decide +kernel
theorem dX0_reckon_28 : decode cX0_reckon 28 = .ok (.aload_n 0, 1) := by decide +kernel
theorem dX0_reckon_29 : decode cX0_reckon 29 = .ok (.getfield 9, 3) := by decide +kernel
theorem dX0_reckon_32 : decode cX0_reckon 32 = .ok (.iload 4, 2) := by decide +kernel
theorem dX0_reckon_34 : decode cX0_reckon 34 = .ok (.aload_n 0, 1) := by decide +kernel
theorem dX0_reckon_35 : decode cX0_reckon 35 = .ok (.getfield 9, 3) := by decide +kernel
theorem dX0_reckon_38 : decode cX0_reckon 38 = .ok (.iload 4, 2) := by decide +kernel
theorem dX0_reckon_40 : decode cX0_reckon 40 = .ok (.iconst 1, 1) := by decide +kernel
theorem dX0_reckon_41 : decode cX0_reckon 41 = .ok (.isub, 1) := by decide +kernel
theorem dX0_reckon_42 : decode cX0_reckon 42 = .ok (.laload, 1) := by decide +kernel
theorem dX0_reckon_43 : decode cX0_reckon 43 = .ok (.lastore, 1) := by decide +kernel
theorem dX0_reckon_44 : decode cX0_reckon 44 = .ok (.aload_n 0, 1) := by decide +kernel
theorem dX0_reckon_45 : decode cX0_reckon 45 = .ok (.getfield 15, 3) := by decide +kernel
theorem dX0_reckon_48 : decode cX0_reckon 48 = .ok (.iload 4, 2) := by decide +kernel
theorem dX0_reckon_50 : decode cX0_reckon 50 = .ok (.aload_n 0, 1) := by decide +kernel
theorem dX0_reckon_51 : decode cX0_reckon 51 = .ok (.getfield 15, 3) := by decide +kernel
theorem dX0_reckon_54 : decode cX0_reckon 54 = .ok (.iload 4, 2) := by decide +kernel
theorem dX0_reckon_56 : decode cX0_reckon 56 = .ok (.iconst 1, 1) := by decide +kernel
theorem dX0_reckon_57 : decode cX0_reckon 57 = .ok (.isub, 1) := by decide +kernel
theorem dX0_reckon_58 : decode cX0_reckon 58 = .ok (.iaload, 1) := by decide +kernel
theorem dX0_reckon_59 : decode cX0_reckon 59 = .ok (.iastore, 1) := by decide +kernel
theorem dX0_reckon_60 : decode cX0_reckon 60 = .ok (.aload_n 0, 1) := by decide +kernel
theorem dX0_reckon_61 : decode cX0_reckon 61 = .ok (.getfield 21, 3) := by decide +kernel
theorem dX0_reckon_64 : decode cX0_reckon 64 = .ok (.iload 4, 2) := by decide +kernel
theorem dX0_reckon_66 : decode cX0_reckon 66 = .ok (.iconst 1, 1) := by decide +kernel
theorem dX0_reckon_67 : decode cX0_reckon 67 = .ok (.isub, 1) := by decide +kernel
theorem dX0_reckon_68 : decode cX0_reckon 68 = .ok (.aaload, 1) := by decide +kernel
theorem dX0_reckon_69 : decode cX0_reckon 69 = .ok (.iconst 0, 1) := by decide +kernel
theorem dX0_reckon_70 : decode cX0_reckon 70 = .ok (.aload_n 0, 1) := by decide +kernel
theorem dX0_reckon_71 : decode cX0_reckon 71 = .ok (.getfield 21, 3) := by decide +kernel
theorem dX0_reckon_74 : decode cX0_reckon 74 = .ok (.iload 4, 2) := by decide +kernel
theorem dX0_reckon_76 : decode cX0_reckon 76 = .ok (.aaload, 1) := by decide +kernel
theorem dX0_reckon_77 : decode cX0_reckon 77 = .ok (.iconst 0, 1) := by decide +kernel
theorem dX0_reckon_78 : decode cX0_reckon 78 = .ok (.iconst 3, 1) := by decide +kernel
theorem dX0_reckon_79 : decode cX0_reckon 79 = .ok (.invokestatic 54, 3) := by decide +kernel
theorem dX0_reckon_82 : decode cX0_reckon 82 = .ok (.aload_n 0, 1) := by decide +kernel
theorem dX0_reckon_83 : decode cX0_reckon 83 = .ok (.iconst 0, 1) := by decide +kernel
theorem dX0_reckon_84 : decode cX0_reckon 84 = .ok (.iload 4, 2) := by decide +kernel
theorem dX0_reckon_86 : decode cX0_reckon 86 = .ok (.aload_n 0, 1) := by decide +kernel
theorem dX0_reckon_87 : decode cX0_reckon 87 = .ok (.getfield 9, 3) := by decide +kernel
theorem dX0_reckon_90 : decode cX0_reckon 90 = .ok (.iconst 0, 1) := by decide +kernel
theorem dX0_reckon_91 : decode cX0_reckon 91 = .ok (.laload, 1) := by decide +kernel
theorem dX0_reckon_92 : decode cX0_reckon 92 = .ok (.invokevirtual 60, 3) := by decide +kernel
theorem dX0_reckon_95 : decode cX0_reckon 95 = .ok (.aload_n 0, 1) := by decide +kernel
theorem dX0_reckon_96 : decode cX0_reckon 96 = .ok (.iload 4, 2) := by decide +kernel
theorem dX0_reckon_98 : decode cX0_reckon 98 = .ok (.putfield 24, 3) := by decide +kernel
theorem dX0_reckon_101 : decode cX0_reckon 101 = .ok (.iinc 4 1, 3) := by decide +kernel
theorem dX0_reckon_104 : decode cX0_reckon 104 = .ok (.goto (-82), 3) := by decide +kernel
theorem dX0_reckon_107 : decode cX0_reckon 107 = .ok (.return_, 1) := by decide +kernel
set_option maxRecDepth 20000 in
theorem ggX0_begin_X5_stepsTo : GoodIn wsX0_begin wsX5_stepsTo := goodIn_r _ [18, 19, 20, 21, 22, 23, 39, 40, 41, 42, 54, 55, 56, 57, 58, 59, 60, 61] (by decide +kernel) (by decide +kernel)
set_option maxRecDepth 20000 in
theorem gX0_begin_X5_stepsTo : GoodIn wsX0_begin (wsV RX0 80 RX5 yX5_stepsTo wsX5_stepsTo) := goodIn_app (goodIn_of _ (by decide +kernel)) ggX0_begin_X5_stepsTo
set_option maxRecDepth 20000 in
theorem ggX0_begin_X0_listPairs : GoodIn wsX0_begin wsX0_listPairs := goodIn_r _ [28, 29, 8, 30, 31, 43, 44, 45, 46, 47, 48, 49, 50, 51, 52, 53] (by decide +kernel) (by decide +kernel)
set_option maxRecDepth 20000 in
theorem gX0_begin_X0_listPairs : GoodIn wsX0_begin (wsV RX0 86 RX0 yX0_listPairs wsX0_listPairs) := goodIn_app (goodIn_of _ (by decide +kernel)) ggX0_begin_X0_listPairs
set_option maxRecDepth 20000 in
theorem ggX0_begin_X5_totalCost : GoodIn wsX0_begin wsX5_totalCost := goodIn_r _ [35, 36, 37, 38, 15, 16, 17, 18, 19, 20, 21, 22, 23, 39, 40, 41, 42, 54, 55, 56, 57, 58, 59, 60, 61] (by decide +kernel) (by decide +kernel)
set_option maxRecDepth 20000 in
theorem gX0_begin_X5_totalCost : GoodIn wsX0_begin (wsV RX0 90 RX5 yX5_totalCost wsX5_totalCost) := goodIn_app (goodIn_of _ (by decide +kernel)) ggX0_begin_X5_totalCost
theorem dX0_begin_0 : decode cX0_begin 0 = .ok (.aload_n 0, 1) := by decide +kernel
theorem dX0_begin_1 : decode cX0_begin 1 = .ok (.aload_n 1, 1) := by decide +kernel
theorem dX0_begin_2 : decode cX0_begin 2 = .ok (.getfield 64, 3) := by decide +kernel
theorem dX0_begin_5 : decode cX0_begin 5 = .ok (.iconst 3, 1) := by decide +kernel
theorem dX0_begin_6 : decode cX0_begin 6 = .ok (.iaload, 1) := by decide +kernel
theorem dX0_begin_7 : decode cX0_begin 7 = .ok (.i2l, 1) := by decide +kernel
theorem dX0_begin_8 : decode cX0_begin 8 = .ok (.putfield 43, 3) := by decide +kernel
theorem dX0_begin_11 : decode cX0_begin 11 = .ok (.aload_n 1, 1) := by decide +kernel
theorem dX0_begin_12 : decode cX0_begin 12 = .ok (.getfield 69, 3) := by decide +kernel
theorem dX0_begin_15 : decode cX0_begin 15 = .ok (.bipush 12, 2) := by decide +kernel
theorem dX0_begin_17 : decode cX0_begin 17 = .ok (.invokestatic 72, 3) := by decide +kernel
theorem dX0_begin_20 : decode cX0_begin 20 = .ok (.istore_n 3, 1) := by decide +kernel
theorem dX0_begin_21 : decode cX0_begin 21 = .ok (.iconst 0, 1) := by decide +kernel
theorem dX0_begin_22 : decode cX0_begin 22 = .ok (.istore 4, 2) := by decide +kernel
theorem dX0_begin_24 : decode cX0_begin 24 = .ok (.iload 4, 2) := by decide +kernel
theorem dX0_begin_26 : decode cX0_begin 26 = .ok (.iload_n 3, 1) := by decide +kernel
theorem dX0_begin_27 : decode cX0_begin 27 = .ok (.if_icmp .ge 39, 3) := by decide +kernel
theorem dX0_begin_30 : decode cX0_begin 30 = .ok (.aload_n 0, 1) := by decide +kernel
theorem dX0_begin_31 : decode cX0_begin 31 = .ok (.getfield 37, 3) := by decide +kernel
theorem dX0_begin_34 : decode cX0_begin 34 = .ok (.iload 4, 2) := by decide +kernel
theorem dX0_begin_36 : decode cX0_begin 36 = .ok (.aload_n 1, 1) := by decide +kernel
theorem dX0_begin_37 : decode cX0_begin 37 = .ok (.getfield 78, 3) := by decide +kernel
theorem dX0_begin_40 : decode cX0_begin 40 = .ok (.iload 4, 2) := by decide +kernel
theorem dX0_begin_42 : decode cX0_begin 42 = .ok (.iaload, 1) := by decide +kernel
theorem dX0_begin_43 : decode cX0_begin 43 = .ok (.i2l, 1) := by decide +kernel
theorem dX0_begin_44 : decode cX0_begin 44 = .ok (.lastore, 1) := by decide +kernel
theorem dX0_begin_45 : decode cX0_begin 45 = .ok (.aload_n 0, 1) := by decide +kernel
theorem dX0_begin_46 : decode cX0_begin 46 = .ok (.getfield 40, 3) := by decide +kernel
theorem dX0_begin_49 : decode cX0_begin 49 = .ok (.iload 4, 2) := by decide +kernel
theorem dX0_begin_51 : decode cX0_begin 51 = .ok (.aload_n 2, 1) := by decide +kernel
theorem dX0_begin_52 : decode cX0_begin 52 = .ok (.iload 4, 2) := by decide +kernel
theorem dX0_begin_54 : decode cX0_begin 54 = .ok (.aload_n 1, 1) := by decide +kernel
theorem dX0_begin_55 : decode cX0_begin 55 = .ok (.invokevirtual 80, 3) := by decide +kernel
theorem dX0_begin_58 : decode cX0_begin 58 = .ok (.i2l, 1) := by decide +kernel
theorem dX0_begin_59 : decode cX0_begin 59 = .ok (.lastore, 1) := by decide +kernel
theorem dX0_begin_60 : decode cX0_begin 60 = .ok (.iinc 4 1, 3) := by decide +kernel
theorem dX0_begin_63 : decode cX0_begin 63 = .ok (.goto (-39), 3) := by decide +kernel
theorem dX0_begin_66 : decode cX0_begin 66 = .ok (.aload_n 0, 1) := by decide +kernel
theorem dX0_begin_67 : decode cX0_begin 67 = .ok (.iload_n 3, 1) := by decide +kernel
theorem dX0_begin_68 : decode cX0_begin 68 = .ok (.invokevirtual 86, 3) := by decide +kernel
theorem dX0_begin_71 : decode cX0_begin 71 = .ok (.aload_n 0, 1) := by decide +kernel
theorem dX0_begin_72 : decode cX0_begin 72 = .ok (.getfield 9, 3) := by decide +kernel
theorem dX0_begin_75 : decode cX0_begin 75 = .ok (.iconst 0, 1) := by decide +kernel
theorem dX0_begin_76 : decode cX0_begin 76 = .ok (.aload_n 2, 1) := by decide +kernel
theorem dX0_begin_77 : decode cX0_begin 77 = .ok (.aload_n 1, 1) := by decide +kernel
theorem dX0_begin_78 : decode cX0_begin 78 = .ok (.invokevirtual 90, 3) := by decide +kernel
theorem dX0_begin_81 : decode cX0_begin 81 = .ok (.lastore, 1) := by decide +kernel
theorem dX0_begin_82 : decode cX0_begin 82 = .ok (.aload_n 0, 1) := by decide +kernel
theorem dX0_begin_83 : decode cX0_begin 83 = .ok (.getfield 15, 3) := by decide +kernel
theorem dX0_begin_86 : decode cX0_begin 86 = .ok (.iconst 0, 1) := by decide +kernel
theorem dX0_begin_87 : decode cX0_begin 87 = .ok (.iconst 0, 1) := by decide +kernel
theorem dX0_begin_88 : decode cX0_begin 88 = .ok (.iastore, 1) := by decide +kernel
theorem dX0_begin_89 : decode cX0_begin 89 = .ok (.aload_n 0, 1) := by decide +kernel
theorem dX0_begin_90 : decode cX0_begin 90 = .ok (.iconst 0, 1) := by decide +kernel
theorem dX0_begin_91 : decode cX0_begin 91 = .ok (.putfield 24, 3) := by decide +kernel
theorem dX0_begin_94 : decode cX0_begin 94 = .ok (.return_, 1) := by decide +kernel
theorem dX0_listPairs_0 : decode cX0_listPairs 0 = .ok (.aload_n 0, 1) := by decide +kernel
theorem dX0_listPairs_1 : decode cX0_listPairs 1 = .ok (.iconst 0, 1) := by decide +kernel
theorem dX0_listPairs_2 : decode cX0_listPairs 2 = .ok (.putfield 34, 3) := by decide +kernel
theorem dX0_listPairs_5 : decode cX0_listPairs 5 = .ok (.iconst 0, 1) := by decide +kernel
theorem dX0_listPairs_6 : decode cX0_listPairs 6 = .ok (.istore_n 2, 1) := by decide +kernel
theorem dX0_listPairs_7 : decode cX0_listPairs 7 = .ok (.iload_n 2, 1) := by decide +kernel
theorem dX0_listPairs_8 : decode cX0_listPairs 8 = .ok (.iload_n 1, 1) := by decide +kernel
theorem dX0_listPairs_9 : decode cX0_listPairs 9 = .ok (.if_icmp .ge 79, 3) := by decide +kernel
theorem dX0_listPairs_12 : decode cX0_listPairs 12 = .ok (.iload_n 2, 1) := by decide +kernel
theorem dX0_listPairs_13 : decode cX0_listPairs 13 = .ok (.iconst 1, 1) := by decide +kernel
theorem dX0_listPairs_14 : decode cX0_listPairs 14 = .ok (.iadd, 1) := by decide +kernel
theorem dX0_listPairs_15 : decode cX0_listPairs 15 = .ok (.istore_n 3, 1) := by decide +kernel
theorem dX0_listPairs_16 : decode cX0_listPairs 16 = .ok (.iload_n 3, 1) := by decide +kernel
theorem dX0_listPairs_17 : decode cX0_listPairs 17 = .ok (.iload_n 1, 1) := by decide +kernel
theorem dX0_listPairs_18 : decode cX0_listPairs 18 = .ok (.if_icmp .ge 64, 3) := by decide +kernel
theorem dX0_listPairs_21 : decode cX0_listPairs 21 = .ok (.aload_n 0, 1) := by decide +kernel
theorem dX0_listPairs_22 : decode cX0_listPairs 22 = .ok (.getfield 37, 3) := by decide +kernel
theorem dX0_listPairs_25 : decode cX0_listPairs 25 = .ok (.iload_n 2, 1) := by decide +kernel
theorem dX0_listPairs_26 : decode cX0_listPairs 26 = .ok (.laload, 1) := by decide +kernel
theorem dX0_listPairs_27 : decode cX0_listPairs 27 = .ok (.aload_n 0, 1) := by decide +kernel
theorem dX0_listPairs_28 : decode cX0_listPairs 28 = .ok (.getfield 37, 3) := by decide +kernel
theorem dX0_listPairs_31 : decode cX0_listPairs 31 = .ok (.iload_n 3, 1) := by decide +kernel
theorem dX0_listPairs_32 : decode cX0_listPairs 32 = .ok (.laload, 1) := by decide +kernel
theorem dX0_listPairs_33 : decode cX0_listPairs 33 = .ok (.lcmp, 1) := by decide +kernel
theorem dX0_listPairs_34 : decode cX0_listPairs 34 = .ok (.ifCond .eq 42, 3) := by decide +kernel
theorem dX0_listPairs_37 : decode cX0_listPairs 37 = .ok (.aload_n 0, 1) := by decide +kernel
theorem dX0_listPairs_38 : decode cX0_listPairs 38 = .ok (.getfield 34, 3) := by decide +kernel
theorem dX0_listPairs_41 : decode cX0_listPairs 41 = .ok (.bipush 66, 2) := by decide +kernel
theorem dX0_listPairs_43 : decode cX0_listPairs 43 = .ok (.if_icmp .ge 33, 3) := by decide +kernel
theorem dX0_listPairs_46 : decode cX0_listPairs 46 = .ok (.aload_n 0, 1) := by decide +kernel
theorem dX0_listPairs_47 : decode cX0_listPairs 47 = .ok (.getfield 28, 3) := by decide +kernel
theorem dX0_listPairs_50 : decode cX0_listPairs 50 = .ok (.aload_n 0, 1) := by decide +kernel
theorem dX0_listPairs_51 : decode cX0_listPairs 51 = .ok (.getfield 34, 3) := by decide +kernel
theorem dX0_listPairs_54 : decode cX0_listPairs 54 = .ok (.iload_n 2, 1) := by decide +kernel
theorem dX0_listPairs_55 : decode cX0_listPairs 55 = .ok (.iastore, 1) := by decide +kernel
theorem dX0_listPairs_56 : decode cX0_listPairs 56 = .ok (.aload_n 0, 1) := by decide +kernel
theorem dX0_listPairs_57 : decode cX0_listPairs 57 = .ok (.getfield 31, 3) := by decide +kernel
theorem dX0_listPairs_60 : decode cX0_listPairs 60 = .ok (.aload_n 0, 1) := by decide +kernel
theorem dX0_listPairs_61 : decode cX0_listPairs 61 = .ok (.getfield 34, 3) := by decide +kernel
theorem dX0_listPairs_64 : decode cX0_listPairs 64 = .ok (.iload_n 3, 1) := by decide +kernel
theorem dX0_listPairs_65 : decode cX0_listPairs 65 = .ok (.iastore, 1) := by decide +kernel
theorem dX0_listPairs_66 : decode cX0_listPairs 66 = .ok (.aload_n 0, 1) := by decide +kernel
theorem dX0_listPairs_67 : decode cX0_listPairs 67 = .ok (.dup, 1) := by decide +kernel
theorem dX0_listPairs_68 : decode cX0_listPairs 68 = .ok (.getfield 34, 3) := by decide +kernel
theorem dX0_listPairs_71 : decode cX0_listPairs 71 = .ok (.iconst 1, 1) := by decide +kernel
theorem dX0_listPairs_72 : decode cX0_listPairs 72 = .ok (.iadd, 1) := by decide +kernel
theorem dX0_listPairs_73 : decode cX0_listPairs 73 = .ok (.putfield 34, 3) := by decide +kernel
theorem dX0_listPairs_76 : decode cX0_listPairs 76 = .ok (.iinc 3 1, 3) := by decide +kernel
theorem dX0_listPairs_79 : decode cX0_listPairs 79 = .ok (.goto (-63), 3) := by decide +kernel
theorem dX0_listPairs_82 : decode cX0_listPairs 82 = .ok (.iinc 2 1, 3) := by decide +kernel
theorem dX0_listPairs_85 : decode cX0_listPairs 85 = .ok (.goto (-78), 3) := by decide +kernel
theorem dX0_listPairs_88 : decode cX0_listPairs 88 = .ok (.return_, 1) := by decide +kernel
set_option maxRecDepth 20000 in
theorem ggX0_tryRows_X0_isNeedless : GoodIn wsX0_tryRows wsX0_isNeedless := goodIn_r _ [8, 9, 10, 35, 36, 37, 38, 39, 40, 41, 42, 43, 44, 45] (by decide +kernel) (by decide +kernel)
set_option maxRecDepth 20000 in
theorem gX0_tryRows_X0_isNeedless : GoodIn wsX0_tryRows (wsV RX0 94 RX0 yX0_isNeedless wsX0_isNeedless) := goodIn_app (goodIn_of _ (by decide +kernel)) ggX0_tryRows_X0_isNeedless
set_option maxRecDepth 20000 in
theorem ggX0_tryRows_X0_change : GoodIn wsX0_tryRows wsX0_change := goodIn_r _ [14, 9, 10, 15, 16, 17, 35, 36, 37, 38, 39, 40, 41, 42, 43, 44, 45] (by decide +kernel) (by decide +kernel)
set_option maxRecDepth 20000 in
theorem gX0_tryRows_X0_change : GoodIn wsX0_tryRows (wsV RX0 98 RX0 yX0_change wsX0_change) := goodIn_app (goodIn_of _ (by decide +kernel)) ggX0_tryRows_X0_change
set_option maxRecDepth 20000 in
theorem ggX0_tryRows_X0_tradeSteps : GoodIn wsX0_tryRows wsX0_tradeSteps := goodIn_r _ [21, 16, 9, 10, 35, 36, 37, 38, 39, 40, 41, 42, 43, 44, 45] (by decide +kernel) (by decide +kernel)
set_option maxRecDepth 20000 in
theorem gX0_tryRows_X0_tradeSteps : GoodIn wsX0_tryRows (wsV RX0 102 RX0 yX0_tradeSteps wsX0_tradeSteps) := goodIn_app (goodIn_of _ (by decide +kernel)) ggX0_tryRows_X0_tradeSteps
set_option maxRecDepth 20000 in
theorem ggX0_tryRows_X0_tryRows : GoodIn wsX0_tryRows wsX0_tryRows := goodIn_r _ [0, 1, 2, 3, 4, 5, 6, 7, 8, 9, 10, 11, 12, 13, 14, 15, 16, 17, 18, 19, 20, 21, 22, 23, 24, 25, 26, 27, 28, 29, 30, 31, 32, 33, 34, 35, 36, 37, 38, 39, 40, 41, 42, 43, 44, 45] (by decide +kernel) (by decide +kernel)
set_option maxRecDepth 20000 in
theorem gX0_tryRows_X0_tryRows : GoodIn wsX0_tryRows (wsV RX0 60 RX0 yX0_tryRows wsX0_tryRows) := goodIn_app (goodIn_of _ (by decide +kernel)) ggX0_tryRows_X0_tryRows
set_option maxRecDepth 20000 in
theorem ggX0_tryRows_X0_keepRow : GoodIn wsX0_tryRows wsX0_keepRow := goodIn_r _ [28, 3, 29, 2, 30, 31, 32, 33, 34, 35, 36, 37, 38, 39, 40, 41, 42, 43, 44, 45] (by decide +kernel) (by decide +kernel)
set_option maxRecDepth 20000 in
theorem gX0_tryRows_X0_keepRow : GoodIn wsX0_tryRows (wsV RX0 105 RX0 yX0_keepRow wsX0_keepRow) := goodIn_app (goodIn_of _ (by decide +kernel)) ggX0_tryRows_X0_keepRow
theorem dX0_tryRows_0 : decode cX0_tryRows 0 = .ok (.iload_n 1, 1) := by decide +kernel
theorem dX0_tryRows_1 : decode cX0_tryRows 1 = .ok (.iload_n 2, 1) := by decide +kernel
theorem dX0_tryRows_2 : decode cX0_tryRows 2 = .ok (.if_icmp .ge 8, 3) := by decide +kernel
theorem dX0_tryRows_5 : decode cX0_tryRows 5 = .ok (.iload_n 1, 1) := by decide +kernel
theorem dX0_tryRows_6 : decode cX0_tryRows 6 = .ok (.iconst 3, 1) := by decide +kernel
theorem dX0_tryRows_7 : decode cX0_tryRows 7 = .ok (.if_icmp .lt 4, 3) := by decide +kernel
theorem dX0_tryRows_10 : decode cX0_tryRows 10 = .ok (.return_, 1) := by decide +kernel
theorem dX0_tryRows_11 : decode cX0_tryRows 11 = .ok (.iload_n 1, 1) := by decide +kernel
theorem dX0_tryRows_12 : decode cX0_tryRows 12 = .ok (.iconst 1, 1) := by decide +kernel
theorem dX0_tryRows_13 : decode cX0_tryRows 13 = .ok (.iadd, 1) := by decide +kernel
theorem dX0_tryRows_14 : decode cX0_tryRows 14 = .ok (.iload_n 2, 1) := by decide +kernel
theorem dX0_tryRows_15 : decode cX0_tryRows 15 = .ok (.if_icmp .ne 7, 3) := by decide +kernel
theorem dX0_tryRows_18 : decode cX0_tryRows 18 = .ok (.iconst 1, 1) := by decide +kernel
theorem dX0_tryRows_19 : decode cX0_tryRows 19 = .ok (.goto 4, 3) := by decide +kernel
theorem dX0_tryRows_22 : decode cX0_tryRows 22 = .ok (.iconst 0, 1) := by decide +kernel
theorem dX0_tryRows_23 : decode cX0_tryRows 23 = .ok (.istore 5, 2) := by decide +kernel
theorem dX0_tryRows_25 : decode cX0_tryRows 25 = .ok (.iconst 0, 1) := by decide +kernel
theorem dX0_tryRows_26 : decode cX0_tryRows 26 = .ok (.istore 6, 2) := by decide +kernel
theorem dX0_tryRows_28 : decode cX0_tryRows 28 = .ok (.iload 6, 2) := by decide +kernel
theorem dX0_tryRows_30 : decode cX0_tryRows 30 = .ok (.aload_n 0, 1) := by decide +kernel
theorem dX0_tryRows_31 : decode cX0_tryRows 31 = .ok (.getfield 34, 3) := by decide +kernel
theorem dX0_tryRows_34 : decode cX0_tryRows 34 = .ok (.if_icmp .ge 100, 3) := by decide +kernel
theorem dX0_tryRows_37 : decode cX0_tryRows 37 = .ok (.iload_n 1, 1) := by decide +kernel
theorem dX0_tryRows_38 : decode cX0_tryRows 38 = .ok (.ifCond .le 23, 3) := by decide +kernel
theorem dX0_tryRows_41 : decode cX0_tryRows 41 = .ok (.aload_n 0, 1) := by decide +kernel
theorem dX0_tryRows_42 : decode cX0_tryRows 42 = .ok (.aload_n 0, 1) := by decide +kernel
theorem dX0_tryRows_43 : decode cX0_tryRows 43 = .ok (.getfield 47, 3) := by decide +kernel
theorem dX0_tryRows_46 : decode cX0_tryRows 46 = .ok (.iload_n 1, 1) := by decide +kernel
theorem dX0_tryRows_47 : decode cX0_tryRows 47 = .ok (.iconst 1, 1) := by decide +kernel
theorem dX0_tryRows_48 : decode cX0_tryRows 48 = .ok (.isub, 1) := by decide +kernel
theorem dX0_tryRows_49 : decode cX0_tryRows 49 = .ok (.iaload, 1) := by decide +kernel
theorem dX0_tryRows_50 : decode cX0_tryRows 50 = .ok (.iload 6, 2) := by decide +kernel
theorem dX0_tryRows_52 : decode cX0_tryRows 52 = .ok (.invokevirtual 94, 3) := by decide +kernel
theorem dX0_tryRows_55 : decode cX0_tryRows 55 = .ok (.ifCond .eq 6, 3) := by decide +kernel
theorem dX0_tryRows_58 : decode cX0_tryRows 58 = .ok (.goto 70, 3) := by decide +kernel
theorem dX0_tryRows_61 : decode cX0_tryRows 61 = .ok (.aload_n 0, 1) := by decide +kernel
theorem dX0_tryRows_62 : decode cX0_tryRows 62 = .ok (.getfield 47, 3) := by decide +kernel
theorem dX0_tryRows_65 : decode cX0_tryRows 65 = .ok (.iload_n 1, 1) := by decide +kernel
theorem dX0_tryRows_66 : decode cX0_tryRows 66 = .ok (.iload 6, 2) := by decide +kernel
theorem dX0_tryRows_68 : decode cX0_tryRows 68 = .ok (.iastore, 1) := by decide +kernel
theorem dX0_tryRows_69 : decode cX0_tryRows 69 = .ok (.lload_n 3, 1) := by decide +kernel
theorem dX0_tryRows_70 : decode cX0_tryRows 70 = .ok (.aload_n 0, 1) := by decide +kernel
theorem dX0_tryRows_71 : decode cX0_tryRows 71 = .ok (.iload 6, 2) := by decide +kernel
theorem dX0_tryRows_73 : decode cX0_tryRows 73 = .ok (.invokevirtual 98, 3) := by decide +kernel
theorem dX0_tryRows_76 : decode cX0_tryRows 76 = .ok (.ladd, 1) := by decide +kernel
theorem dX0_tryRows_77 : decode cX0_tryRows 77 = .ok (.lstore 7, 2) := by decide +kernel
theorem dX0_tryRows_79 : decode cX0_tryRows 79 = .ok (.iload 5, 2) := by decide +kernel
theorem dX0_tryRows_81 : decode cX0_tryRows 81 = .ok (.ifCond .ne 28, 3) := by decide +kernel
theorem dX0_tryRows_84 : decode cX0_tryRows 84 = .ok (.aload_n 0, 1) := by decide +kernel
theorem dX0_tryRows_85 : decode cX0_tryRows 85 = .ok (.iload 6, 2) := by decide +kernel
theorem dX0_tryRows_87 : decode cX0_tryRows 87 = .ok (.invokevirtual 102, 3) := by decide +kernel
theorem dX0_tryRows_90 : decode cX0_tryRows 90 = .ok (.aload_n 0, 1) := by decide +kernel
theorem dX0_tryRows_91 : decode cX0_tryRows 91 = .ok (.iload_n 1, 1) := by decide +kernel
theorem dX0_tryRows_92 : decode cX0_tryRows 92 = .ok (.iconst 1, 1) := by decide +kernel
theorem dX0_tryRows_93 : decode cX0_tryRows 93 = .ok (.iadd, 1) := by decide +kernel
theorem dX0_tryRows_94 : decode cX0_tryRows 94 = .ok (.iload_n 2, 1) := by decide +kernel
theorem dX0_tryRows_95 : decode cX0_tryRows 95 = .ok (.lload 7, 2) := by decide +kernel
theorem dX0_tryRows_97 : decode cX0_tryRows 97 = .ok (.invokevirtual 60, 3) := by decide +kernel
theorem dX0_tryRows_100 : decode cX0_tryRows 100 = .ok (.aload_n 0, 1) := by decide +kernel
theorem dX0_tryRows_101 : decode cX0_tryRows 101 = .ok (.iload 6, 2) := by decide +kernel
theorem dX0_tryRows_103 : decode cX0_tryRows 103 = .ok (.invokevirtual 102, 3) := by decide +kernel
theorem dX0_tryRows_106 : decode cX0_tryRows 106 = .ok (.goto 22, 3) := by decide +kernel
theorem dX0_tryRows_109 : decode cX0_tryRows 109 = .ok (.lload 7, 2) := by decide +kernel
theorem dX0_tryRows_111 : decode cX0_tryRows 111 = .ok (.aload_n 0, 1) := by decide +kernel
theorem dX0_tryRows_112 : decode cX0_tryRows 112 = .ok (.getfield 9, 3) := by decide +kernel
theorem dX0_tryRows_115 : decode cX0_tryRows 115 = .ok (.iload_n 2, 1) := by decide +kernel
theorem dX0_tryRows_116 : decode cX0_tryRows 116 = .ok (.laload, 1) := by decide +kernel
theorem dX0_tryRows_117 : decode cX0_tryRows 117 = .ok (.lcmp, 1) := by decide +kernel
theorem dX0_tryRows_118 : decode cX0_tryRows 118 = .ok (.ifCond .ge 10, 3) := by decide +kernel
theorem dX0_tryRows_121 : decode cX0_tryRows 121 = .ok (.aload_n 0, 1) := by decide +kernel
theorem dX0_tryRows_122 : decode cX0_tryRows 122 = .ok (.iload_n 2, 1) := by decide +kernel
theorem dX0_tryRows_123 : decode cX0_tryRows 123 = .ok (.lload 7, 2) := by decide +kernel
theorem dX0_tryRows_125 : decode cX0_tryRows 125 = .ok (.invokevirtual 105, 3) := by decide +kernel
theorem dX0_tryRows_128 : decode cX0_tryRows 128 = .ok (.iinc 6 1, 3) := by decide +kernel
theorem dX0_tryRows_131 : decode cX0_tryRows 131 = .ok (.goto (-103), 3) := by decide +kernel
theorem dX0_tryRows_134 : decode cX0_tryRows 134 = .ok (.return_, 1) := by decide +kernel
theorem dX0_isNeedless_0 : decode cX0_isNeedless 0 = .ok (.iload_n 2, 1) := by decide +kernel
theorem dX0_isNeedless_1 : decode cX0_isNeedless 1 = .ok (.iload_n 1, 1) := by decide +kernel
theorem dX0_isNeedless_2 : decode cX0_isNeedless 2 = .ok (.if_icmp .lt 14, 3) := by decide +kernel
theorem dX0_isNeedless_5 : decode cX0_isNeedless 5 = .ok (.iload_n 2, 1) := by decide +kernel
theorem dX0_isNeedless_6 : decode cX0_isNeedless 6 = .ok (.iload_n 1, 1) := by decide +kernel
theorem dX0_isNeedless_7 : decode cX0_isNeedless 7 = .ok (.if_icmp .ne 7, 3) := by decide +kernel
theorem dX0_isNeedless_10 : decode cX0_isNeedless 10 = .ok (.iconst 1, 1) := by decide +kernel
theorem dX0_isNeedless_11 : decode cX0_isNeedless 11 = .ok (.goto 4, 3) := by decide +kernel
theorem dX0_isNeedless_14 : decode cX0_isNeedless 14 = .ok (.iconst 0, 1) := by decide +kernel
theorem dX0_isNeedless_15 : decode cX0_isNeedless 15 = .ok (.ireturn, 1) := by decide +kernel
theorem dX0_isNeedless_16 : decode cX0_isNeedless 16 = .ok (.aload_n 0, 1) := by decide +kernel
theorem dX0_isNeedless_17 : decode cX0_isNeedless 17 = .ok (.getfield 28, 3) := by decide +kernel
theorem dX0_isNeedless_20 : decode cX0_isNeedless 20 = .ok (.iload_n 2, 1) := by decide +kernel
theorem dX0_isNeedless_21 : decode cX0_isNeedless 21 = .ok (.iaload, 1) := by decide +kernel
theorem dX0_isNeedless_22 : decode cX0_isNeedless 22 = .ok (.aload_n 0, 1) := by decide +kernel
theorem dX0_isNeedless_23 : decode cX0_isNeedless 23 = .ok (.getfield 28, 3) := by decide +kernel
theorem dX0_isNeedless_26 : decode cX0_isNeedless 26 = .ok (.iload_n 1, 1) := by decide +kernel
theorem dX0_isNeedless_27 : decode cX0_isNeedless 27 = .ok (.iaload, 1) := by decide +kernel
theorem dX0_isNeedless_28 : decode cX0_isNeedless 28 = .ok (.if_icmp .eq 52, 3) := by decide +kernel
theorem dX0_isNeedless_31 : decode cX0_isNeedless 31 = .ok (.aload_n 0, 1) := by decide +kernel
theorem dX0_isNeedless_32 : decode cX0_isNeedless 32 = .ok (.getfield 28, 3) := by decide +kernel
theorem dX0_isNeedless_35 : decode cX0_isNeedless 35 = .ok (.iload_n 2, 1) := by decide +kernel
theorem dX0_isNeedless_36 : decode cX0_isNeedless 36 = .ok (.iaload, 1) := by decide +kernel
theorem dX0_isNeedless_37 : decode cX0_isNeedless 37 = .ok (.aload_n 0, 1) := by decide +kernel
theorem dX0_isNeedless_38 : decode cX0_isNeedless 38 = .ok (.getfield 31, 3) := by decide +kernel
theorem dX0_isNeedless_41 : decode cX0_isNeedless 41 = .ok (.iload_n 1, 1) := by decide +kernel
theorem dX0_isNeedless_42 : decode cX0_isNeedless 42 = .ok (.iaload, 1) := by decide +kernel
theorem dX0_isNeedless_43 : decode cX0_isNeedless 43 = .ok (.if_icmp .eq 37, 3) := by decide +kernel
theorem dX0_isNeedless_46 : decode cX0_isNeedless 46 = .ok (.aload_n 0, 1) := by decide +kernel
theorem dX0_isNeedless_47 : decode cX0_isNeedless 47 = .ok (.getfield 31, 3) := by decide +kernel
theorem dX0_isNeedless_50 : decode cX0_isNeedless 50 = .ok (.iload_n 2, 1) := by decide +kernel
theorem dX0_isNeedless_51 : decode cX0_isNeedless 51 = .ok (.iaload, 1) := by decide +kernel
theorem dX0_isNeedless_52 : decode cX0_isNeedless 52 = .ok (.aload_n 0, 1) := by decide +kernel
theorem dX0_isNeedless_53 : decode cX0_isNeedless 53 = .ok (.getfield 28, 3) := by decide +kernel
theorem dX0_isNeedless_56 : decode cX0_isNeedless 56 = .ok (.iload_n 1, 1) := by decide +kernel
theorem dX0_isNeedless_57 : decode cX0_isNeedless 57 = .ok (.iaload, 1) := by decide +kernel
theorem dX0_isNeedless_58 : decode cX0_isNeedless 58 = .ok (.if_icmp .eq 22, 3) := by decide +kernel
theorem dX0_isNeedless_61 : decode cX0_isNeedless 61 = .ok (.aload_n 0, 1) := by decide +kernel
theorem dX0_isNeedless_62 : decode cX0_isNeedless 62 = .ok (.getfield 31, 3) := by decide +kernel
theorem dX0_isNeedless_65 : decode cX0_isNeedless 65 = .ok (.iload_n 2, 1) := by decide +kernel
theorem dX0_isNeedless_66 : decode cX0_isNeedless 66 = .ok (.iaload, 1) := by decide +kernel
theorem dX0_isNeedless_67 : decode cX0_isNeedless 67 = .ok (.aload_n 0, 1) := by decide +kernel
theorem dX0_isNeedless_68 : decode cX0_isNeedless 68 = .ok (.getfield 31, 3) := by decide +kernel
theorem dX0_isNeedless_71 : decode cX0_isNeedless 71 = .ok (.iload_n 1, 1) := by decide +kernel
theorem dX0_isNeedless_72 : decode cX0_isNeedless 72 = .ok (.iaload, 1) := by decide +kernel
theorem dX0_isNeedless_73 : decode cX0_isNeedless 73 = .ok (.if_icmp .eq 7, 3) := by decide +kernel
theorem dX0_isNeedless_76 : decode cX0_isNeedless 76 = .ok (.iconst 1, 1) := by decide +kernel
theorem dX0_isNeedless_77 : decode cX0_isNeedless 77 = .ok (.goto 4, 3) := by decide +kernel
theorem dX0_isNeedless_80 : decode cX0_isNeedless 80 = .ok (.iconst 0, 1) := by decide +kernel
theorem dX0_isNeedless_81 : decode cX0_isNeedless 81 = .ok (.ireturn, 1) := by decide +kernel
theorem dX0_change_0 : decode cX0_change 0 = .ok (.aload_n 0, 1) := by decide +kernel
theorem dX0_change_1 : decode cX0_change 1 = .ok (.getfield 28, 3) := by decide +kernel
theorem dX0_change_4 : decode cX0_change 4 = .ok (.iload_n 1, 1) := by decide +kernel
theorem dX0_change_5 : decode cX0_change 5 = .ok (.iaload, 1) := by decide +kernel
theorem dX0_change_6 : decode cX0_change 6 = .ok (.istore_n 2, 1) := by decide +kernel
theorem dX0_change_7 : decode cX0_change 7 = .ok (.aload_n 0, 1) := by decide +kernel
theorem dX0_change_8 : decode cX0_change 8 = .ok (.getfield 31, 3) := by decide +kernel
theorem dX0_change_11 : decode cX0_change 11 = .ok (.iload_n 1, 1) := by decide +kernel
theorem dX0_change_12 : decode cX0_change 12 = .ok (.iaload, 1) := by decide +kernel
theorem dX0_change_13 : decode cX0_change 13 = .ok (.istore_n 3, 1) := by decide +kernel
theorem dX0_change_14 : decode cX0_change 14 = .ok (.aload_n 0, 1) := by decide +kernel
theorem dX0_change_15 : decode cX0_change 15 = .ok (.getfield 37, 3) := by decide +kernel
theorem dX0_change_18 : decode cX0_change 18 = .ok (.iload_n 2, 1) := by decide +kernel
theorem dX0_change_19 : decode cX0_change 19 = .ok (.laload, 1) := by decide +kernel
theorem dX0_change_20 : decode cX0_change 20 = .ok (.aload_n 0, 1) := by decide +kernel
theorem dX0_change_21 : decode cX0_change 21 = .ok (.getfield 37, 3) := by decide +kernel
theorem dX0_change_24 : decode cX0_change 24 = .ok (.iload_n 3, 1) := by decide +kernel
theorem dX0_change_25 : decode cX0_change 25 = .ok (.laload, 1) := by decide +kernel
theorem dX0_change_26 : decode cX0_change 26 = .ok (.lsub, 1) := by decide +kernel
theorem dX0_change_27 : decode cX0_change 27 = .ok (.aload_n 0, 1) := by decide +kernel
theorem dX0_change_28 : decode cX0_change 28 = .ok (.getfield 40, 3) := by decide +kernel
theorem dX0_change_31 : decode cX0_change 31 = .ok (.iload_n 3, 1) := by decide +kernel
theorem dX0_change_32 : decode cX0_change 32 = .ok (.laload, 1) := by decide +kernel
theorem dX0_change_33 : decode cX0_change 33 = .ok (.aload_n 0, 1) := by decide +kernel
theorem dX0_change_34 : decode cX0_change 34 = .ok (.getfield 40, 3) := by decide +kernel
theorem dX0_change_37 : decode cX0_change 37 = .ok (.iload_n 2, 1) := by decide +kernel
theorem dX0_change_38 : decode cX0_change 38 = .ok (.laload, 1) := by decide +kernel
theorem dX0_change_39 : decode cX0_change 39 = .ok (.lsub, 1) := by decide +kernel
theorem dX0_change_40 : decode cX0_change 40 = .ok (.lmul, 1) := by decide +kernel
theorem dX0_change_41 : decode cX0_change 41 = .ok (.aload_n 0, 1) := by decide +kernel
theorem dX0_change_42 : decode cX0_change 42 = .ok (.getfield 43, 3) := by decide +kernel
theorem dX0_change_45 : decode cX0_change 45 = .ok (.aload_n 0, 1) := by decide +kernel
theorem dX0_change_46 : decode cX0_change 46 = .ok (.getfield 37, 3) := by decide +kernel
theorem dX0_change_49 : decode cX0_change 49 = .ok (.iload_n 2, 1) := by decide +kernel
theorem dX0_change_50 : decode cX0_change 50 = .ok (.laload, 1) := by decide +kernel
theorem dX0_change_51 : decode cX0_change 51 = .ok (.aload_n 0, 1) := by decide +kernel
theorem dX0_change_52 : decode cX0_change 52 = .ok (.getfield 37, 3) := by decide +kernel
theorem dX0_change_55 : decode cX0_change 55 = .ok (.iload_n 3, 1) := by decide +kernel
theorem dX0_change_56 : decode cX0_change 56 = .ok (.laload, 1) := by decide +kernel
theorem dX0_change_57 : decode cX0_change 57 = .ok (.ladd, 1) := by decide +kernel
theorem dX0_change_58 : decode cX0_change 58 = .ok (.lmul, 1) := by decide +kernel
theorem dX0_change_59 : decode cX0_change 59 = .ok (.ladd, 1) := by decide +kernel
theorem dX0_change_60 : decode cX0_change 60 = .ok (.lreturn, 1) := by decide +kernel
theorem dX0_tradeSteps_0 : decode cX0_tradeSteps 0 = .ok (.aload_n 0, 1) := by decide +kernel
theorem dX0_tradeSteps_1 : decode cX0_tradeSteps 1 = .ok (.getfield 40, 3) := by decide +kernel
theorem dX0_tradeSteps_4 : decode cX0_tradeSteps 4 = .ok (.aload_n 0, 1) := by decide +kernel
theorem dX0_tradeSteps_5 : decode cX0_tradeSteps 5 = .ok (.getfield 28, 3) := by decide +kernel
theorem dX0_tradeSteps_8 : decode cX0_tradeSteps 8 = .ok (.iload_n 1, 1) := by decide +kernel
theorem dX0_tradeSteps_9 : decode cX0_tradeSteps 9 = .ok (.iaload, 1) := by decide +kernel
theorem dX0_tradeSteps_10 : decode cX0_tradeSteps 10 = .ok (.laload, 1) := by decide +kernel
theorem dX0_tradeSteps_11 : decode cX0_tradeSteps 11 = .ok (.lstore_n 2, 1) := by decide +kernel
theorem dX0_tradeSteps_12 : decode cX0_tradeSteps 12 = .ok (.aload_n 0, 1) := by decide +kernel
theorem dX0_tradeSteps_13 : decode cX0_tradeSteps 13 = .ok (.getfield 40, 3) := by decide +kernel
theorem dX0_tradeSteps_16 : decode cX0_tradeSteps 16 = .ok (.aload_n 0, 1) := by decide +kernel
theorem dX0_tradeSteps_17 : decode cX0_tradeSteps 17 = .ok (.getfield 28, 3) := by decide +kernel
theorem dX0_tradeSteps_20 : decode cX0_tradeSteps 20 = .ok (.iload_n 1, 1) := by decide +kernel
theorem dX0_tradeSteps_21 : decode cX0_tradeSteps 21 = .ok (.iaload, 1) := by decide +kernel
theorem dX0_tradeSteps_22 : decode cX0_tradeSteps 22 = .ok (.aload_n 0, 1) := by decide +kernel
theorem dX0_tradeSteps_23 : decode cX0_tradeSteps 23 = .ok (.getfield 40, 3) := by decide +kernel
theorem dX0_tradeSteps_26 : decode cX0_tradeSteps 26 = .ok (.aload_n 0, 1) := by decide +kernel
theorem dX0_tradeSteps_27 : decode cX0_tradeSteps 27 = .ok (.getfield 31, 3) := by decide +kernel
theorem dX0_tradeSteps_30 : decode cX0_tradeSteps 30 = .ok (.iload_n 1, 1) := by decide +kernel
theorem dX0_tradeSteps_31 : decode cX0_tradeSteps 31 = .ok (.iaload, 1) := by decide +kernel
theorem dX0_tradeSteps_32 : decode cX0_tradeSteps 32 = .ok (.laload, 1) := by decide +kernel
theorem dX0_tradeSteps_33 : decode cX0_tradeSteps 33 = .ok (.lastore, 1) := by decide +kernel
theorem dX0_tradeSteps_34 : decode cX0_tradeSteps 34 = .ok (.aload_n 0, 1) := by decide +kernel
theorem dX0_tradeSteps_35 : decode cX0_tradeSteps 35 = .ok (.getfield 40, 3) := by decide +kernel
theorem dX0_tradeSteps_38 : decode cX0_tradeSteps 38 = .ok (.aload_n 0, 1) := by decide +kernel
theorem dX0_tradeSteps_39 : decode cX0_tradeSteps 39 = .ok (.getfield 31, 3) := by decide +kernel
theorem dX0_tradeSteps_42 : decode cX0_tradeSteps 42 = .ok (.iload_n 1, 1) := by decide +kernel
theorem dX0_tradeSteps_43 : decode cX0_tradeSteps 43 = .ok (.iaload, 1) := by decide +kernel
theorem dX0_tradeSteps_44 : decode cX0_tradeSteps 44 = .ok (.lload_n 2, 1) := by decide +kernel
theorem dX0_tradeSteps_45 : decode cX0_tradeSteps 45 = .ok (.lastore, 1) := by decide +kernel
theorem dX0_tradeSteps_46 : decode cX0_tradeSteps 46 = .ok (.return_, 1) := by decide +kernel
theorem dX0_keepRow_0 : decode cX0_keepRow 0 = .ok (.aload_n 0, 1) := by decide +kernel
theorem dX0_keepRow_1 : decode cX0_keepRow 1 = .ok (.getfield 9, 3) := by decide +kernel
theorem dX0_keepRow_4 : decode cX0_keepRow 4 = .ok (.iload_n 1, 1) := by decide +kernel
theorem dX0_keepRow_5 : decode cX0_keepRow 5 = .ok (.lload_n 2, 1) := by decide +kernel
theorem dX0_keepRow_6 : decode cX0_keepRow 6 = .ok (.lastore, 1) := by decide +kernel
theorem dX0_keepRow_7 : decode cX0_keepRow 7 = .ok (.aload_n 0, 1) := by decide +kernel
theorem dX0_keepRow_8 : decode cX0_keepRow 8 = .ok (.getfield 15, 3) := by decide +kernel
theorem dX0_keepRow_11 : decode cX0_keepRow 11 = .ok (.iload_n 1, 1) := by decide +kernel
theorem dX0_keepRow_12 : decode cX0_keepRow 12 = .ok (.iload_n 1, 1) := by decide +kernel
theorem dX0_keepRow_13 : decode cX0_keepRow 13 = .ok (.iastore, 1) := by decide +kernel
theorem dX0_keepRow_14 : decode cX0_keepRow 14 = .ok (.aload_n 0, 1) := by decide +kernel
theorem dX0_keepRow_15 : decode cX0_keepRow 15 = .ok (.getfield 47, 3) := by decide +kernel
theorem dX0_keepRow_18 : decode cX0_keepRow 18 = .ok (.iconst 0, 1) := by decide +kernel
theorem dX0_keepRow_19 : decode cX0_keepRow 19 = .ok (.aload_n 0, 1) := by decide +kernel
theorem dX0_keepRow_20 : decode cX0_keepRow 20 = .ok (.getfield 21, 3) := by decide +kernel
theorem dX0_keepRow_23 : decode cX0_keepRow 23 = .ok (.iload_n 1, 1) := by decide +kernel
theorem dX0_keepRow_24 : decode cX0_keepRow 24 = .ok (.aaload, 1) := by decide +kernel
theorem dX0_keepRow_25 : decode cX0_keepRow 25 = .ok (.iconst 0, 1) := by decide +kernel
theorem dX0_keepRow_26 : decode cX0_keepRow 26 = .ok (.iconst 3, 1) := by decide +kernel
theorem dX0_keepRow_27 : decode cX0_keepRow 27 = .ok (.invokestatic 54, 3) := by decide +kernel
theorem dX0_keepRow_30 : decode cX0_keepRow 30 = .ok (.return_, 1) := by decide +kernel
theorem dX1_init_0 : decode cX1_init 0 = .ok (.aload_n 0, 1) := by decide +kernel
theorem dX1_init_1 : decode cX1_init 1 = .ok (.invokespecial 3, 3) := by decide +kernel
theorem dX1_init_4 : decode cX1_init 4 = .ok (.aload_n 0, 1) := by decide +kernel
theorem dX1_init_5 : decode cX1_init 5 = .ok (.sipush 189, 3) := by decide +kernel
theorem dX1_init_8 : decode cX1_init 8 = .ok (.newarray .byte, 2) := by decide +kernel
theorem dX1_init_10 : decode cX1_init 10 = .ok (.putfield 11, 3) := by decide +kernel
theorem dX1_init_13 : decode cX1_init 13 = .ok (.aload_n 0, 1) := by decide +kernel
theorem dX1_init_14 : decode cX1_init 14 = .ok (.iconst 0, 1) := by decide +kernel
theorem dX1_init_15 : decode cX1_init 15 = .ok (.putfield 15, 3) := by decide +kernel
theorem dX1_init_18 : decode cX1_init 18 = .ok (.return_, 1) := by decide +kernel
set_option maxRecDepth 20000 in
theorem ggX1_write_X1_put : GoodIn wsX1_write wsX1_put := goodIn_r _ [9, 1, 10, 21, 22] (by decide +kernel) (by decide +kernel)
set_option maxRecDepth 20000 in
theorem gX1_write_X1_put : GoodIn wsX1_write (wsV RX1 19 RX1 yX1_put wsX1_put) := goodIn_app (goodIn_of _ (by decide +kernel)) ggX1_write_X1_put
set_option maxRecDepth 20000 in
theorem ggX1_write_X5_itemAt : GoodIn wsX1_write wsX5_itemAt := goodIn_r _ [15, 16, 23, 24, 25, 26, 27, 28, 29, 30] (by decide +kernel) (by decide +kernel)
set_option maxRecDepth 20000 in
theorem gX1_write_X5_itemAt : GoodIn wsX1_write (wsV RX1 35 RX5 yX5_itemAt wsX5_itemAt) := goodIn_app (goodIn_of _ (by decide +kernel)) ggX1_write_X5_itemAt
set_option maxRecDepth 20000 in
theorem ggX1_write_X1_putNumber : GoodIn wsX1_write wsX1_putNumber := goodIn_r _ [20, 5, 6, 7, 8, 9, 1, 10, 21, 22] (by decide +kernel) (by decide +kernel)
set_option maxRecDepth 20000 in
theorem gX1_write_X1_putNumber : GoodIn wsX1_write (wsV RX1 39 RX1 yX1_putNumber wsX1_putNumber) := goodIn_app (goodIn_of _ (by decide +kernel)) ggX1_write_X1_putNumber
theorem dX1_write_0 : decode cX1_write 0 = .ok (.aload_n 0, 1) := by decide +kernel
theorem dX1_write_1 : decode cX1_write 1 = .ok (.iconst 0, 1) := by decide +kernel
theorem dX1_write_2 : decode cX1_write 2 = .ok (.putfield 15, 3) := by decide +kernel
theorem dX1_write_5 : decode cX1_write 5 = .ok (.aload_n 0, 1) := by decide +kernel
theorem dX1_write_6 : decode cX1_write 6 = .ok (.bipush 40, 2) := by decide +kernel
theorem dX1_write_8 : decode cX1_write 8 = .ok (.invokevirtual 19, 3) := by decide +kernel
theorem dX1_write_11 : decode cX1_write 11 = .ok (.iconst 0, 1) := by decide +kernel
theorem dX1_write_12 : decode cX1_write 12 = .ok (.istore_n 2, 1) := by decide +kernel
theorem dX1_write_13 : decode cX1_write 13 = .ok (.iconst 1, 1) := by decide +kernel
theorem dX1_write_14 : decode cX1_write 14 = .ok (.istore_n 3, 1) := by decide +kernel
theorem dX1_write_15 : decode cX1_write 15 = .ok (.iconst 0, 1) := by decide +kernel
theorem dX1_write_16 : decode cX1_write 16 = .ok (.istore 4, 2) := by decide +kernel
theorem dX1_write_18 : decode cX1_write 18 = .ok (.iload 4, 2) := by decide +kernel
theorem dX1_write_20 : decode cX1_write 20 = .ok (.sipush 160, 3) := by decide +kernel
theorem dX1_write_23 : decode cX1_write 23 = .ok (.if_icmp .ge 98, 3) := by decide +kernel
theorem dX1_write_26 : decode cX1_write 26 = .ok (.iload_n 2, 1) := by decide +kernel
theorem dX1_write_27 : decode cX1_write 27 = .ok (.iconst (-1), 1) := by decide +kernel
theorem dX1_write_28 : decode cX1_write 28 = .ok (.if_icmp .eq 93, 3) := by decide +kernel
theorem dX1_write_31 : decode cX1_write 31 = .ok (.iload_n 3, 1) := by decide +kernel
theorem dX1_write_32 : decode cX1_write 32 = .ok (.aload_n 1, 1) := by decide +kernel
theorem dX1_write_33 : decode cX1_write 33 = .ok (.getfield 23, 3) := by decide +kernel
theorem dX1_write_36 : decode cX1_write 36 = .ok (.iload_n 2, 1) := by decide +kernel
theorem dX1_write_37 : decode cX1_write 37 = .ok (.iaload, 1) := by decide +kernel
theorem dX1_write_38 : decode cX1_write 38 = .ok (.if_icmp .le 28, 3) := by decide +kernel
theorem dX1_write_41 : decode cX1_write 41 = .ok (.aload_n 0, 1) := by decide +kernel
theorem dX1_write_42 : decode cX1_write 42 = .ok (.bipush 41, 2) := by decide +kernel
theorem dX1_write_44 : decode cX1_write 44 = .ok (.invokevirtual 19, 3) := by decide +kernel
theorem dX1_write_47 : decode cX1_write 47 = .ok (.aload_n 1, 1) := by decide +kernel
theorem dX1_write_48 : decode cX1_write 48 = .ok (.getfield 29, 3) := by decide +kernel
theorem dX1_write_51 : decode cX1_write 51 = .ok (.iload_n 2, 1) := by decide +kernel
theorem dX1_write_52 : decode cX1_write 52 = .ok (.iaload, 1) := by decide +kernel
theorem dX1_write_53 : decode cX1_write 53 = .ok (.iconst 1, 1) := by decide +kernel
theorem dX1_write_54 : decode cX1_write 54 = .ok (.iadd, 1) := by decide +kernel
theorem dX1_write_55 : decode cX1_write 55 = .ok (.istore_n 3, 1) := by decide +kernel
theorem dX1_write_56 : decode cX1_write 56 = .ok (.aload_n 1, 1) := by decide +kernel
theorem dX1_write_57 : decode cX1_write 57 = .ok (.getfield 32, 3) := by decide +kernel
theorem dX1_write_60 : decode cX1_write 60 = .ok (.iload_n 2, 1) := by decide +kernel
theorem dX1_write_61 : decode cX1_write 61 = .ok (.iaload, 1) := by decide +kernel
theorem dX1_write_62 : decode cX1_write 62 = .ok (.istore_n 2, 1) := by decide +kernel
theorem dX1_write_63 : decode cX1_write 63 = .ok (.goto 52, 3) := by decide +kernel
theorem dX1_write_66 : decode cX1_write 66 = .ok (.iload_n 3, 1) := by decide +kernel
theorem dX1_write_67 : decode cX1_write 67 = .ok (.iconst 1, 1) := by decide +kernel
theorem dX1_write_68 : decode cX1_write 68 = .ok (.if_icmp .le 9, 3) := by decide +kernel
theorem dX1_write_71 : decode cX1_write 71 = .ok (.aload_n 0, 1) := by decide +kernel
theorem dX1_write_72 : decode cX1_write 72 = .ok (.bipush 32, 2) := by decide +kernel
theorem dX1_write_74 : decode cX1_write 74 = .ok (.invokevirtual 19, 3) := by decide +kernel
theorem dX1_write_77 : decode cX1_write 77 = .ok (.aload_n 1, 1) := by decide +kernel
theorem dX1_write_78 : decode cX1_write 78 = .ok (.iload_n 2, 1) := by decide +kernel
theorem dX1_write_79 : decode cX1_write 79 = .ok (.iload_n 3, 1) := by decide +kernel
theorem dX1_write_80 : decode cX1_write 80 = .ok (.invokevirtual 35, 3) := by decide +kernel
theorem dX1_write_83 : decode cX1_write 83 = .ok (.istore 5, 2) := by decide +kernel
theorem dX1_write_85 : decode cX1_write 85 = .ok (.iload 5, 2) := by decide +kernel
theorem dX1_write_87 : decode cX1_write 87 = .ok (.ifCond .lt 15, 3) := by decide +kernel
theorem dX1_write_90 : decode cX1_write 90 = .ok (.aload_n 0, 1) := by decide +kernel
theorem dX1_write_91 : decode cX1_write 91 = .ok (.iload 5, 2) := by decide +kernel
theorem dX1_write_93 : decode cX1_write 93 = .ok (.invokevirtual 39, 3) := by decide +kernel
theorem dX1_write_96 : decode cX1_write 96 = .ok (.iinc 3 1, 3) := by decide +kernel
theorem dX1_write_99 : decode cX1_write 99 = .ok (.goto 16, 3) := by decide +kernel
theorem dX1_write_102 : decode cX1_write 102 = .ok (.aload_n 0, 1) := by decide +kernel
theorem dX1_write_103 : decode cX1_write 103 = .ok (.bipush 40, 2) := by decide +kernel
theorem dX1_write_105 : decode cX1_write 105 = .ok (.invokevirtual 19, 3) := by decide +kernel
theorem dX1_write_108 : decode cX1_write 108 = .ok (.iload 5, 2) := by decide +kernel
theorem dX1_write_110 : decode cX1_write 110 = .ok (.iconst (-1), 1) := by decide +kernel
theorem dX1_write_111 : decode cX1_write 111 = .ok (.ixor, 1) := by decide +kernel
theorem dX1_write_112 : decode cX1_write 112 = .ok (.istore_n 2, 1) := by decide +kernel
theorem dX1_write_113 : decode cX1_write 113 = .ok (.iconst 1, 1) := by decide +kernel
theorem dX1_write_114 : decode cX1_write 114 = .ok (.istore_n 3, 1) := by decide +kernel
theorem dX1_write_115 : decode cX1_write 115 = .ok (.iinc 4 1, 3) := by decide +kernel
theorem dX1_write_118 : decode cX1_write 118 = .ok (.goto (-100), 3) := by decide +kernel
theorem dX1_write_121 : decode cX1_write 121 = .ok (.return_, 1) := by decide +kernel
set_option maxRecDepth 20000 in
theorem ggX1_putNumber_X1_put : GoodIn wsX1_putNumber wsX1_put := goodIn_r _ [5, 6, 7, 8, 9] (by decide +kernel) (by decide +kernel)
set_option maxRecDepth 20000 in
theorem gX1_putNumber_X1_put : GoodIn wsX1_putNumber (wsV RX1 19 RX1 yX1_put wsX1_put) := goodIn_app (goodIn_of _ (by decide +kernel)) ggX1_putNumber_X1_put
theorem dX1_putNumber_0 : decode cX1_putNumber 0 = .ok (.iload_n 1, 1) := by decide +kernel
theorem dX1_putNumber_1 : decode cX1_putNumber 1 = .ok (.bipush 10, 2) := by decide +kernel
theorem dX1_putNumber_3 : decode cX1_putNumber 3 = .ok (.if_icmp .lt 14, 3) := by decide +kernel
theorem dX1_putNumber_6 : decode cX1_putNumber 6 = .ok (.aload_n 0, 1) := by decide +kernel
theorem dX1_putNumber_7 : decode cX1_putNumber 7 = .ok (.bipush 48, 2) := by decide +kernel
theorem dX1_putNumber_9 : decode cX1_putNumber 9 = .ok (.iload_n 1, 1) := by decide +kernel
theorem dX1_putNumber_10 : decode cX1_putNumber 10 = .ok (.bipush 10, 2) := by decide +kernel
theorem dX1_putNumber_12 : decode cX1_putNumber 12 = .ok (.idiv, 1) := by decide +kernel
theorem dX1_putNumber_13 : decode cX1_putNumber 13 = .ok (.iadd, 1) := by decide +kernel
theorem dX1_putNumber_14 : decode cX1_putNumber 14 = .ok (.invokevirtual 19, 3) := by decide +kernel
theorem dX1_putNumber_17 : decode cX1_putNumber 17 = .ok (.aload_n 0, 1) := by decide +kernel
theorem dX1_putNumber_18 : decode cX1_putNumber 18 = .ok (.bipush 48, 2) := by decide +kernel
theorem dX1_putNumber_20 : decode cX1_putNumber 20 = .ok (.iload_n 1, 1) := by decide +kernel
theorem dX1_putNumber_21 : decode cX1_putNumber 21 = .ok (.bipush 10, 2) := by decide +kernel
theorem dX1_putNumber_23 : decode cX1_putNumber 23 = .ok (.irem, 1) := by decide +kernel
theorem dX1_putNumber_24 : decode cX1_putNumber 24 = .ok (.iadd, 1) := by decide +kernel
theorem dX1_putNumber_25 : decode cX1_putNumber 25 = .ok (.invokevirtual 19, 3) := by decide +kernel
theorem dX1_putNumber_28 : decode cX1_putNumber 28 = .ok (.return_, 1) := by decide +kernel
theorem dX1_put_0 : decode cX1_put 0 = .ok (.aload_n 0, 1) := by decide +kernel
theorem dX1_put_1 : decode cX1_put 1 = .ok (.getfield 15, 3) := by decide +kernel
theorem dX1_put_4 : decode cX1_put 4 = .ok (.sipush 189, 3) := by decide +kernel
theorem dX1_put_7 : decode cX1_put 7 = .ok (.if_icmp .ge 24, 3) := by decide +kernel
theorem dX1_put_10 : decode cX1_put 10 = .ok (.aload_n 0, 1) := by decide +kernel
theorem dX1_put_11 : decode cX1_put 11 = .ok (.getfield 11, 3) := by decide +kernel
theorem dX1_put_14 : decode cX1_put 14 = .ok (.aload_n 0, 1) := by decide +kernel
theorem dX1_put_15 : decode cX1_put 15 = .ok (.getfield 15, 3) := by decide +kernel
theorem dX1_put_18 : decode cX1_put 18 = .ok (.iload_n 1, 1) := by decide +kernel
theorem dX1_put_19 : decode cX1_put 19 = .ok (.i2b, 1) := by decide +kernel
theorem dX1_put_20 : decode cX1_put 20 = .ok (.bastore, 1) := by decide +kernel
theorem dX1_put_21 : decode cX1_put 21 = .ok (.aload_n 0, 1) := by decide +kernel
theorem dX1_put_22 : decode cX1_put 22 = .ok (.dup, 1) := by decide +kernel
theorem dX1_put_23 : decode cX1_put 23 = .ok (.getfield 15, 3) := by decide +kernel
theorem dX1_put_26 : decode cX1_put 26 = .ok (.iconst 1, 1) := by decide +kernel
theorem dX1_put_27 : decode cX1_put 27 = .ok (.iadd, 1) := by decide +kernel
theorem dX1_put_28 : decode cX1_put 28 = .ok (.putfield 15, 3) := by decide +kernel
theorem dX1_put_31 : decode cX1_put 31 = .ok (.return_, 1) := by decide +kernel
theorem dX2_init_0 : decode cX2_init 0 = .ok (.aload_n 0, 1) := by decide +kernel
theorem dX2_init_1 : decode cX2_init 1 = .ok (.invokespecial 3, 3) := by decide +kernel
theorem dX2_init_4 : decode cX2_init 4 = .ok (.aload_n 0, 1) := by decide +kernel
theorem dX2_init_5 : decode cX2_init 5 = .ok (.iconst 0, 1) := by decide +kernel
theorem dX2_init_6 : decode cX2_init 6 = .ok (.putfield 9, 3) := by decide +kernel
theorem dX2_init_9 : decode cX2_init 9 = .ok (.aload_n 0, 1) := by decide +kernel
theorem dX2_init_10 : decode cX2_init 10 = .ok (.iconst (-1), 1) := by decide +kernel
theorem dX2_init_11 : decode cX2_init 11 = .ok (.putfield 15, 3) := by decide +kernel
theorem dX2_init_14 : decode cX2_init 14 = .ok (.aload_n 0, 1) := by decide +kernel
theorem dX2_init_15 : decode cX2_init 15 = .ok (.bipush 40, 2) := by decide +kernel
theorem dX2_init_17 : decode cX2_init 17 = .ok (.newarray .int, 2) := by decide +kernel
theorem dX2_init_19 : decode cX2_init 19 = .ok (.putfield 18, 3) := by decide +kernel
theorem dX2_init_22 : decode cX2_init 22 = .ok (.aload_n 0, 1) := by decide +kernel
theorem dX2_init_23 : decode cX2_init 23 = .ok (.iconst 0, 1) := by decide +kernel
theorem dX2_init_24 : decode cX2_init 24 = .ok (.putfield 22, 3) := by decide +kernel
theorem dX2_init_27 : decode cX2_init 27 = .ok (.aload_n 0, 1) := by decide +kernel
theorem dX2_init_28 : decode cX2_init 28 = .ok (.bipush 40, 2) := by decide +kernel
theorem dX2_init_30 : decode cX2_init 30 = .ok (.newarray .boolean, 2) := by decide +kernel
theorem dX2_init_32 : decode cX2_init 32 = .ok (.putfield 25, 3) := by decide +kernel
theorem dX2_init_35 : decode cX2_init 35 = .ok (.aload_n 0, 1) := by decide +kernel
theorem dX2_init_36 : decode cX2_init 36 = .ok (.iconst 0, 1) := by decide +kernel
theorem dX2_init_37 : decode cX2_init 37 = .ok (.putfield 29, 3) := by decide +kernel
theorem dX2_init_40 : decode cX2_init 40 = .ok (.return_, 1) := by decide +kernel
set_option maxRecDepth 20000 in
theorem ggX2_readTree_X5_clear : GoodIn wsX2_readTree wsX5_clear := goodIn_r _ [10, 11, 87, 88, 89, 90, 91, 92, 93, 94] (by decide +kernel) (by decide +kernel)
set_option maxRecDepth 20000 in
theorem gX2_readTree_X5_clear : GoodIn wsX2_readTree (wsV RX2 32 RX5 yX5_clear wsX5_clear) := goodIn_app (goodIn_of _ (by decide +kernel)) ggX2_readTree_X5_clear
set_option maxRecDepth 20000 in
theorem ggX2_readTree_X2_readByte : GoodIn wsX2_readTree wsX2_readByte := goodIn_r _ [16, 17, 18, 15, 19, 20, 21, 22, 23, 24, 25, 26, 3, 27, 5, 28, 4, 29, 30, 31, 32, 1, 2, 33, 34, 35, 36, 37, 38, 39, 40, 41, 9, 42, 43, 44, 45, 46, 47, 48, 49, 50, 51, 52, 53, 54, 55, 56, 57, 58, 59, 60, 61, 62, 11, 63, 64, 65, 66, 67, 68, 69, 70, 71, 72, 73, 74, 75, 76, 81, 82, 83, 84, 85, 86, 95, 96, 97, 98, 87, 88, 89, 90, 91, 92, 93, 94] (by decide +kernel) (by decide +kernel)
set_option maxRecDepth 20000 in
theorem gX2_readTree_X2_readByte : GoodIn wsX2_readTree (wsV RX2 37 RX2 yX2_readByte wsX2_readByte) := goodIn_app (goodIn_of _ (by decide +kernel)) ggX2_readTree_X2_readByte
set_option maxRecDepth 20000 in
theorem ggX2_readTree_X2_readEnd : GoodIn wsX2_readTree wsX2_readEnd := goodIn_r _ [80, 3, 4, 27, 65, 66, 67, 9, 68, 11, 29, 30, 31, 15, 32, 1, 2, 81, 82, 83, 84, 85, 86, 95, 96, 97, 98, 87, 88, 89, 90, 91, 92, 93, 94] (by decide +kernel) (by decide +kernel)
set_option maxRecDepth 20000 in
theorem gX2_readTree_X2_readEnd : GoodIn wsX2_readTree (wsV RX2 41 RX2 yX2_readEnd wsX2_readEnd) := goodIn_app (goodIn_of _ (by decide +kernel)) ggX2_readTree_X2_readEnd
theorem dX2_readTree_0 : decode cX2_readTree 0 = .ok (.aload_n 0, 1) := by decide +kernel
theorem dX2_readTree_1 : decode cX2_readTree 1 = .ok (.iconst 0, 1) := by decide +kernel
theorem dX2_readTree_2 : decode cX2_readTree 2 = .ok (.putfield 9, 3) := by decide +kernel
theorem dX2_readTree_5 : decode cX2_readTree 5 = .ok (.aload_n 0, 1) := by decide +kernel
theorem dX2_readTree_6 : decode cX2_readTree 6 = .ok (.iconst (-1), 1) := by decide +kernel
theorem dX2_readTree_7 : decode cX2_readTree 7 = .ok (.putfield 15, 3) := by decide +kernel
theorem dX2_readTree_10 : decode cX2_readTree 10 = .ok (.aload_n 0, 1) := by decide +kernel
theorem dX2_readTree_11 : decode cX2_readTree 11 = .ok (.iconst 0, 1) := by decide +kernel
theorem dX2_readTree_12 : decode cX2_readTree 12 = .ok (.putfield 22, 3) := by decide +kernel
theorem dX2_readTree_15 : decode cX2_readTree 15 = .ok (.aload_n 0, 1) := by decide +kernel
theorem dX2_readTree_16 : decode cX2_readTree 16 = .ok (.iconst 0, 1) := by decide +kernel
theorem dX2_readTree_17 : decode cX2_readTree 17 = .ok (.putfield 29, 3) := by decide +kernel
theorem dX2_readTree_20 : decode cX2_readTree 20 = .ok (.iconst 0, 1) := by decide +kernel
theorem dX2_readTree_21 : decode cX2_readTree 21 = .ok (.istore 5, 2) := by decide +kernel
theorem dX2_readTree_23 : decode cX2_readTree 23 = .ok (.iload 5, 2) := by decide +kernel
theorem dX2_readTree_25 : decode cX2_readTree 25 = .ok (.bipush 40, 2) := by decide +kernel
theorem dX2_readTree_27 : decode cX2_readTree 27 = .ok (.if_icmp .ge 17, 3) := by decide +kernel
theorem dX2_readTree_30 : decode cX2_readTree 30 = .ok (.aload_n 0, 1) := by decide +kernel
theorem dX2_readTree_31 : decode cX2_readTree 31 = .ok (.getfield 25, 3) := by decide +kernel
theorem dX2_readTree_34 : decode cX2_readTree 34 = .ok (.iload 5, 2) := by decide +kernel
theorem dX2_readTree_36 : decode cX2_readTree 36 = .ok (.iconst 0, 1) := by decide +kernel
theorem dX2_readTree_37 : decode cX2_readTree 37 = .ok (.bastore, 1) := by decide +kernel
theorem dX2_readTree_38 : decode cX2_readTree 38 = .ok (.iinc 5 1, 3) := by decide +kernel
theorem dX2_readTree_41 : decode cX2_readTree 41 = .ok (.goto (-18), 3) := by decide +kernel
theorem dX2_readTree_44 : decode cX2_readTree 44 = .ok (.aload 4, 2) := by decide +kernel
theorem dX2_readTree_46 : decode cX2_readTree 46 = .ok (.invokevirtual 32, 3) := by decide +kernel
theorem dX2_readTree_49 : decode cX2_readTree 49 = .ok (.iconst 0, 1) := by decide +kernel
theorem dX2_readTree_50 : decode cX2_readTree 50 = .ok (.istore 5, 2) := by decide +kernel
theorem dX2_readTree_52 : decode cX2_readTree 52 = .ok (.iload 5, 2) := by decide +kernel
theorem dX2_readTree_54 : decode cX2_readTree 54 = .ok (.iload_n 2, 1) := by decide +kernel
theorem dX2_readTree_55 : decode cX2_readTree 55 = .ok (.if_icmp .ge 27, 3) := by decide +kernel
theorem dX2_readTree_58 : decode cX2_readTree 58 = .ok (.aload_n 0, 1) := by decide +kernel
theorem dX2_readTree_59 : decode cX2_readTree 59 = .ok (.getfield 9, 3) := by decide +kernel
theorem dX2_readTree_62 : decode cX2_readTree 62 = .ok (.ifCond .ne 20, 3) := by decide +kernel
theorem dX2_readTree_65 : decode cX2_readTree 65 = .ok (.aload_n 0, 1) := by decide +kernel
theorem dX2_readTree_66 : decode cX2_readTree 66 = .ok (.aload_n 1, 1) := by decide +kernel
theorem dX2_readTree_67 : decode cX2_readTree 67 = .ok (.iload 5, 2) := by decide +kernel
theorem dX2_readTree_69 : decode cX2_readTree 69 = .ok (.iload_n 2, 1) := by decide +kernel
theorem dX2_readTree_70 : decode cX2_readTree 70 = .ok (.aload_n 3, 1) := by decide +kernel
theorem dX2_readTree_71 : decode cX2_readTree 71 = .ok (.aload 4, 2) := by decide +kernel
theorem dX2_readTree_73 : decode cX2_readTree 73 = .ok (.invokevirtual 37, 3) := by decide +kernel
theorem dX2_readTree_76 : decode cX2_readTree 76 = .ok (.iinc 5 1, 3) := by decide +kernel
theorem dX2_readTree_79 : decode cX2_readTree 79 = .ok (.goto (-27), 3) := by decide +kernel
theorem dX2_readTree_82 : decode cX2_readTree 82 = .ok (.aload_n 0, 1) := by decide +kernel
theorem dX2_readTree_83 : decode cX2_readTree 83 = .ok (.getfield 9, 3) := by decide +kernel
theorem dX2_readTree_86 : decode cX2_readTree 86 = .ok (.ifCond .ne 11, 3) := by decide +kernel
theorem dX2_readTree_89 : decode cX2_readTree 89 = .ok (.aload_n 0, 1) := by decide +kernel
theorem dX2_readTree_90 : decode cX2_readTree 90 = .ok (.iload_n 2, 1) := by decide +kernel
theorem dX2_readTree_91 : decode cX2_readTree 91 = .ok (.aload_n 3, 1) := by decide +kernel
theorem dX2_readTree_92 : decode cX2_readTree 92 = .ok (.aload 4, 2) := by decide +kernel
theorem dX2_readTree_94 : decode cX2_readTree 94 = .ok (.invokevirtual 41, 3) := by decide +kernel
theorem dX2_readTree_97 : decode cX2_readTree 97 = .ok (.return_, 1) := by decide +kernel
set_option maxRecDepth 20000 in
theorem ggX2_readByte_X2_isDigit : GoodIn wsX2_readByte wsX2_isDigit := goodIn_r _ [4] (by decide +kernel) (by decide +kernel)
set_option maxRecDepth 20000 in
theorem gX2_readByte_X2_isDigit : GoodIn wsX2_readByte (va_wsS RX2 45 yX2_isDigit wsX2_isDigit) := goodIn_app (goodIn_of _ (by decide +kernel)) ggX2_readByte_X2_isDigit
set_option maxRecDepth 20000 in
theorem ggX2_readByte_X2_numberAt : GoodIn wsX2_readByte wsX2_numberAt := goodIn_r _ [7, 1, 2, 3, 4] (by decide +kernel) (by decide +kernel)
set_option maxRecDepth 20000 in
theorem gX2_readByte_X2_numberAt : GoodIn wsX2_readByte (va_wsS RX2 49 yX2_numberAt wsX2_numberAt) := goodIn_app (goodIn_of _ (by decide +kernel)) ggX2_readByte_X2_numberAt
set_option maxRecDepth 20000 in
theorem ggX2_readByte_X2_readNumber : GoodIn wsX2_readByte wsX2_readNumber := goodIn_r _ [11, 12, 13, 14, 15, 16, 17, 18, 19, 3, 20, 21, 22, 23, 24, 25, 26, 27, 28, 29, 30, 31, 32, 33, 34, 35, 36, 37, 38, 39, 40, 41, 69, 70, 71, 72, 73, 74, 75, 76, 77, 78, 79, 80, 81, 82, 83, 84, 85, 86] (by decide +kernel) (by decide +kernel)
set_option maxRecDepth 20000 in
theorem gX2_readByte_X2_readNumber : GoodIn wsX2_readByte (wsV RX2 53 RX2 yX2_readNumber wsX2_readNumber) := goodIn_app (goodIn_of _ (by decide +kernel)) ggX2_readByte_X2_readNumber
set_option maxRecDepth 20000 in
theorem ggX2_readByte_X2_openList : GoodIn wsX2_readByte wsX2_openList := goodIn_r _ [45, 12, 15, 46, 47, 48, 3, 49, 23, 24, 25, 26, 27, 28, 17, 18, 19, 20, 21, 22, 50, 51, 52, 32, 53, 54, 36, 55, 56, 37, 38, 39, 40, 41, 57, 58, 59, 60, 61, 62, 63, 64, 69, 70, 71, 72, 73, 74, 79, 80, 81, 82, 83, 84, 85, 86, 75, 76, 77, 78] (by decide +kernel) (by decide +kernel)
set_option maxRecDepth 20000 in
theorem gX2_readByte_X2_openList : GoodIn wsX2_readByte (wsV RX2 57 RX2 yX2_openList wsX2_openList) := goodIn_app (goodIn_of _ (by decide +kernel)) ggX2_readByte_X2_openList
set_option maxRecDepth 20000 in
theorem ggX2_readByte_X2_closeList : GoodIn wsX2_readByte wsX2_closeList := goodIn_r _ [68, 12, 27, 15, 17, 18, 19, 3, 20, 21, 22, 69, 70, 71, 72, 73, 74, 79, 80, 81, 82, 83, 84, 85, 86] (by decide +kernel) (by decide +kernel)
set_option maxRecDepth 20000 in
theorem gX2_readByte_X2_closeList : GoodIn wsX2_readByte (wsV RX2 60 RX2 yX2_closeList wsX2_closeList) := goodIn_app (goodIn_of _ (by decide +kernel)) ggX2_readByte_X2_closeList
set_option maxRecDepth 20000 in
theorem ggX2_readByte_X2_refuse : GoodIn wsX2_readByte wsX2_refuse := goodIn_r _ [20, 21, 22, 69, 70, 71, 72, 73, 74] (by decide +kernel) (by decide +kernel)
set_option maxRecDepth 20000 in
theorem gX2_readByte_X2_refuse : GoodIn wsX2_readByte (wsV RX2 64 RX2 yX2_refuse wsX2_refuse) := goodIn_app (goodIn_of _ (by decide +kernel)) ggX2_readByte_X2_refuse
theorem dX2_readByte_0 : decode cX2_readByte 0 = .ok (.aload_n 1, 1) := by decide +kernel
theorem dX2_readByte_1 : decode cX2_readByte 1 = .ok (.iload_n 2, 1) := by decide +kernel
theorem dX2_readByte_2 : decode cX2_readByte 2 = .ok (.baload, 1) := by decide +kernel
theorem dX2_readByte_3 : decode cX2_readByte 3 = .ok (.istore 6, 2) := by decide +kernel
theorem dX2_readByte_5 : decode cX2_readByte 5 = .ok (.iload 6, 2) := by decide +kernel
theorem dX2_readByte_7 : decode cX2_readByte 7 = .ok (.invokestatic 45, 3) := by decide +kernel
theorem dX2_readByte_10 : decode cX2_readByte 10 = .ok (.ifCond .eq 36, 3) := by decide +kernel
theorem dX2_readByte_13 : decode cX2_readByte 13 = .ok (.iload_n 2, 1) := by decide +kernel
theorem dX2_readByte_14 : decode cX2_readByte 14 = .ok (.ifCond .eq 14, 3) := by decide +kernel
theorem dX2_readByte_17 : decode cX2_readByte 17 = .ok (.aload_n 1, 1) := by decide +kernel
theorem dX2_readByte_18 : decode cX2_readByte 18 = .ok (.iload_n 2, 1) := by decide +kernel
theorem dX2_readByte_19 : decode cX2_readByte 19 = .ok (.iconst 1, 1) := by decide +kernel
theorem dX2_readByte_20 : decode cX2_readByte 20 = .ok (.isub, 1) := by decide +kernel
theorem dX2_readByte_21 : decode cX2_readByte 21 = .ok (.baload, 1) := by decide +kernel
theorem dX2_readByte_22 : decode cX2_readByte 22 = .ok (.invokestatic 45, 3) := by decide +kernel
theorem dX2_readByte_25 : decode cX2_readByte 25 = .ok (.ifCond .ne 70, 3) := by decide +kernel
theorem dX2_readByte_28 : decode cX2_readByte 28 = .ok (.aload_n 0, 1) := by decide +kernel
theorem dX2_readByte_29 : decode cX2_readByte 29 = .ok (.aload_n 1, 1) := by decide +kernel
theorem dX2_readByte_30 : decode cX2_readByte 30 = .ok (.iload_n 2, 1) := by decide +kernel
theorem dX2_readByte_31 : decode cX2_readByte 31 = .ok (.iload_n 3, 1) := by decide +kernel
theorem dX2_readByte_32 : decode cX2_readByte 32 = .ok (.invokestatic 49, 3) := by decide +kernel
theorem dX2_readByte_35 : decode cX2_readByte 35 = .ok (.iload_n 2, 1) := by decide +kernel
theorem dX2_readByte_36 : decode cX2_readByte 36 = .ok (.aload 4, 2) := by decide +kernel
theorem dX2_readByte_38 : decode cX2_readByte 38 = .ok (.aload 5, 2) := by decide +kernel
theorem dX2_readByte_40 : decode cX2_readByte 40 = .ok (.invokevirtual 53, 3) := by decide +kernel
theorem dX2_readByte_43 : decode cX2_readByte 43 = .ok (.goto 52, 3) := by decide +kernel
theorem dX2_readByte_46 : decode cX2_readByte 46 = .ok (.iload 6, 2) := by decide +kernel
theorem dX2_readByte_48 : decode cX2_readByte 48 = .ok (.bipush 40, 2) := by decide +kernel
theorem dX2_readByte_50 : decode cX2_readByte 50 = .ok (.if_icmp .ne 15, 3) := by decide +kernel
theorem dX2_readByte_53 : decode cX2_readByte 53 = .ok (.aload_n 0, 1) := by decide +kernel
theorem dX2_readByte_54 : decode cX2_readByte 54 = .ok (.iload_n 2, 1) := by decide +kernel
theorem dX2_readByte_55 : decode cX2_readByte 55 = .ok (.aload 4, 2) := by decide +kernel
theorem dX2_readByte_57 : decode cX2_readByte 57 = .ok (.aload 5, 2) := by decide +kernel
theorem dX2_readByte_59 : decode cX2_readByte 59 = .ok (.invokevirtual 57, 3) := by decide +kernel
theorem dX2_readByte_62 : decode cX2_readByte 62 = .ok (.goto 33, 3) := by decide +kernel
theorem dX2_readByte_65 : decode cX2_readByte 65 = .ok (.iload 6, 2) := by decide +kernel
theorem dX2_readByte_67 : decode cX2_readByte 67 = .ok (.bipush 41, 2) := by decide +kernel
theorem dX2_readByte_69 : decode cX2_readByte 69 = .ok (.if_icmp .ne 13, 3) := by decide +kernel
theorem dX2_readByte_72 : decode cX2_readByte 72 = .ok (.aload_n 0, 1) := by decide +kernel
theorem dX2_readByte_73 : decode cX2_readByte 73 = .ok (.iload_n 2, 1) := by decide +kernel
theorem dX2_readByte_74 : decode cX2_readByte 74 = .ok (.aload 5, 2) := by decide +kernel
theorem dX2_readByte_76 : decode cX2_readByte 76 = .ok (.invokevirtual 60, 3) := by decide +kernel
theorem dX2_readByte_79 : decode cX2_readByte 79 = .ok (.goto 16, 3) := by decide +kernel
theorem dX2_readByte_82 : decode cX2_readByte 82 = .ok (.iload 6, 2) := by decide +kernel
theorem dX2_readByte_84 : decode cX2_readByte 84 = .ok (.bipush 32, 2) := by decide +kernel
theorem dX2_readByte_86 : decode cX2_readByte 86 = .ok (.if_icmp .eq 9, 3) := by decide +kernel
theorem dX2_readByte_89 : decode cX2_readByte 89 = .ok (.aload_n 0, 1) := by decide +kernel
theorem dX2_readByte_90 : decode cX2_readByte 90 = .ok (.iconst 1, 1) := by decide +kernel
theorem dX2_readByte_91 : decode cX2_readByte 91 = .ok (.iload_n 2, 1) := by decide +kernel
theorem dX2_readByte_92 : decode cX2_readByte 92 = .ok (.invokevirtual 64, 3) := by decide +kernel
theorem dX2_readByte_95 : decode cX2_readByte 95 = .ok (.return_, 1) := by decide +kernel
theorem dX2_isDigit_0 : decode cX2_isDigit 0 = .ok (.iload_n 0, 1) := by decide +kernel
theorem dX2_isDigit_1 : decode cX2_isDigit 1 = .ok (.bipush 48, 2) := by decide +kernel
theorem dX2_isDigit_3 : decode cX2_isDigit 3 = .ok (.if_icmp .lt 13, 3) := by decide +kernel
theorem dX2_isDigit_6 : decode cX2_isDigit 6 = .ok (.iload_n 0, 1) := by decide +kernel
theorem dX2_isDigit_7 : decode cX2_isDigit 7 = .ok (.bipush 57, 2) := by decide +kernel
theorem dX2_isDigit_9 : decode cX2_isDigit 9 = .ok (.if_icmp .gt 7, 3) := by decide +kernel
theorem dX2_isDigit_12 : decode cX2_isDigit 12 = .ok (.iconst 1, 1) := by decide +kernel
theorem dX2_isDigit_13 : decode cX2_isDigit 13 = .ok (.goto 4, 3) := by decide +kernel
theorem dX2_isDigit_16 : decode cX2_isDigit 16 = .ok (.iconst 0, 1) := by decide +kernel
theorem dX2_isDigit_17 : decode cX2_isDigit 17 = .ok (.ireturn, 1) := by decide +kernel
set_option maxRecDepth 20000 in
theorem ggX2_numberAt_X2_isDigit : GoodIn wsX2_numberAt wsX2_isDigit := goodIn_r _ [4] (by decide +kernel) (by decide +kernel)
set_option maxRecDepth 20000 in
theorem gX2_numberAt_X2_isDigit : GoodIn wsX2_numberAt (va_wsS RX2 45 yX2_isDigit wsX2_isDigit) := goodIn_app (goodIn_of _ (by decide +kernel)) ggX2_numberAt_X2_isDigit
theorem dX2_numberAt_0 : decode cX2_numberAt 0 = .ok (.iconst 0, 1) := by decide +kernel
theorem dX2_numberAt_1 : decode cX2_numberAt 1 = .ok (.istore_n 3, 1) := by decide +kernel
theorem dX2_numberAt_2 : decode cX2_numberAt 2 = .ok (.iload_n 1, 1) := by decide +kernel
theorem dX2_numberAt_3 : decode cX2_numberAt 3 = .ok (.istore 4, 2) := by decide +kernel
theorem dX2_numberAt_5 : decode cX2_numberAt 5 = .ok (.iload 4, 2) := by decide +kernel
theorem dX2_numberAt_7 : decode cX2_numberAt 7 = .ok (.iload_n 2, 1) := by decide +kernel
theorem dX2_numberAt_8 : decode cX2_numberAt 8 = .ok (.if_icmp .ge 38, 3) := by decide +kernel
theorem dX2_numberAt_11 : decode cX2_numberAt 11 = .ok (.aload_n 0, 1) := by decide +kernel
theorem dX2_numberAt_12 : decode cX2_numberAt 12 = .ok (.iload 4, 2) := by decide +kernel
theorem dX2_numberAt_14 : decode cX2_numberAt 14 = .ok (.baload, 1) := by decide +kernel
theorem dX2_numberAt_15 : decode cX2_numberAt 15 = .ok (.invokestatic 45, 3) := by decide +kernel
theorem dX2_numberAt_18 : decode cX2_numberAt 18 = .ok (.ifCond .eq 28, 3) := by decide +kernel
theorem dX2_numberAt_21 : decode cX2_numberAt 21 = .ok (.iload_n 3, 1) := by decide +kernel
theorem dX2_numberAt_22 : decode cX2_numberAt 22 = .ok (.bipush 40, 2) := by decide +kernel
theorem dX2_numberAt_24 : decode cX2_numberAt 24 = .ok (.if_icmp .ge 16, 3) := by decide +kernel
theorem dX2_numberAt_27 : decode cX2_numberAt 27 = .ok (.iload_n 3, 1) := by decide +kernel
theorem dX2_numberAt_28 : decode cX2_numberAt 28 = .ok (.bipush 10, 2) := by decide +kernel
theorem dX2_numberAt_30 : decode cX2_numberAt 30 = .ok (.imul, 1) := by decide +kernel
theorem dX2_numberAt_31 : decode cX2_numberAt 31 = .ok (.aload_n 0, 1) := by decide +kernel
theorem dX2_numberAt_32 : decode cX2_numberAt 32 = .ok (.iload 4, 2) := by decide +kernel
theorem dX2_numberAt_34 : decode cX2_numberAt 34 = .ok (.baload, 1) := by decide +kernel
theorem dX2_numberAt_35 : decode cX2_numberAt 35 = .ok (.bipush 48, 2) := by decide +kernel
theorem dX2_numberAt_37 : decode cX2_numberAt 37 = .ok (.isub, 1) := by decide +kernel
theorem dX2_numberAt_38 : decode cX2_numberAt 38 = .ok (.iadd, 1) := by decide +kernel
theorem dX2_numberAt_39 : decode cX2_numberAt 39 = .ok (.istore_n 3, 1) := by decide +kernel
theorem dX2_numberAt_40 : decode cX2_numberAt 40 = .ok (.iinc 4 1, 3) := by decide +kernel
theorem dX2_numberAt_43 : decode cX2_numberAt 43 = .ok (.goto (-38), 3) := by decide +kernel
theorem dX2_numberAt_46 : decode cX2_numberAt 46 = .ok (.iload_n 3, 1) := by decide +kernel
theorem dX2_numberAt_47 : decode cX2_numberAt 47 = .ok (.ireturn, 1) := by decide +kernel
set_option maxRecDepth 20000 in
theorem ggX2_readNumber_X2_refuse : GoodIn wsX2_readNumber wsX2_refuse := goodIn_r _ [10, 11, 12, 32, 33, 34, 35, 36, 37] (by decide +kernel) (by decide +kernel)
set_option maxRecDepth 20000 in
theorem gX2_readNumber_X2_refuse : GoodIn wsX2_readNumber (wsV RX2 64 RX2 yX2_refuse wsX2_refuse) := goodIn_app (goodIn_of _ (by decide +kernel)) ggX2_readNumber_X2_refuse
set_option maxRecDepth 20000 in
theorem ggX2_readNumber_X2_isFull : GoodIn wsX2_readNumber wsX2_isFull := goodIn_r _ [16, 17, 4, 1, 18, 42, 43, 44, 45, 46, 47, 48, 49, 32, 33, 34, 35, 36, 37, 38, 39, 40, 41] (by decide +kernel) (by decide +kernel)
set_option maxRecDepth 20000 in
theorem gX2_readNumber_X2_isFull : GoodIn wsX2_readNumber (wsV RX2 73 RX2 yX2_isFull wsX2_isFull) := goodIn_app (goodIn_of _ (by decide +kernel)) ggX2_readNumber_X2_isFull
set_option maxRecDepth 20000 in
theorem ggX2_readNumber_X5_addCommand : GoodIn wsX2_readNumber wsX5_addCommand := goodIn_r _ [23, 24, 25, 26, 27, 28, 29, 22, 30, 31, 42, 43, 44, 45, 46, 47, 48, 49] (by decide +kernel) (by decide +kernel)
set_option maxRecDepth 20000 in
theorem gX2_readNumber_X5_addCommand : GoodIn wsX2_readNumber (wsV RX2 77 RX5 yX5_addCommand wsX5_addCommand) := goodIn_app (goodIn_of _ (by decide +kernel)) ggX2_readNumber_X5_addCommand
theorem dX2_readNumber_0 : decode cX2_readNumber 0 = .ok (.aload_n 0, 1) := by decide +kernel
theorem dX2_readNumber_1 : decode cX2_readNumber 1 = .ok (.getfield 22, 3) := by decide +kernel
theorem dX2_readNumber_4 : decode cX2_readNumber 4 = .ok (.ifCond .ne 12, 3) := by decide +kernel
theorem dX2_readNumber_7 : decode cX2_readNumber 7 = .ok (.aload_n 0, 1) := by decide +kernel
theorem dX2_readNumber_8 : decode cX2_readNumber 8 = .ok (.iconst 1, 1) := by decide +kernel
theorem dX2_readNumber_9 : decode cX2_readNumber 9 = .ok (.iload_n 2, 1) := by decide +kernel
theorem dX2_readNumber_10 : decode cX2_readNumber 10 = .ok (.invokevirtual 64, 3) := by decide +kernel
theorem dX2_readNumber_13 : decode cX2_readNumber 13 = .ok (.goto 94, 3) := by decide +kernel
theorem dX2_readNumber_16 : decode cX2_readNumber 16 = .ok (.iload_n 1, 1) := by decide +kernel
theorem dX2_readNumber_17 : decode cX2_readNumber 17 = .ok (.aload_n 3, 1) := by decide +kernel
theorem dX2_readNumber_18 : decode cX2_readNumber 18 = .ok (.getfield 68, 3) := by decide +kernel
theorem dX2_readNumber_21 : decode cX2_readNumber 21 = .ok (.if_icmp .lt 12, 3) := by decide +kernel
theorem dX2_readNumber_24 : decode cX2_readNumber 24 = .ok (.aload_n 0, 1) := by decide +kernel
theorem dX2_readNumber_25 : decode cX2_readNumber 25 = .ok (.iconst 2, 1) := by decide +kernel
theorem dX2_readNumber_26 : decode cX2_readNumber 26 = .ok (.iload_n 2, 1) := by decide +kernel
theorem dX2_readNumber_27 : decode cX2_readNumber 27 = .ok (.invokevirtual 64, 3) := by decide +kernel
theorem dX2_readNumber_30 : decode cX2_readNumber 30 = .ok (.goto 77, 3) := by decide +kernel
theorem dX2_readNumber_33 : decode cX2_readNumber 33 = .ok (.aload_n 0, 1) := by decide +kernel
theorem dX2_readNumber_34 : decode cX2_readNumber 34 = .ok (.getfield 25, 3) := by decide +kernel
theorem dX2_readNumber_37 : decode cX2_readNumber 37 = .ok (.iload_n 1, 1) := by decide +kernel
theorem dX2_readNumber_38 : decode cX2_readNumber 38 = .ok (.baload, 1) := by decide +kernel
theorem dX2_readNumber_39 : decode cX2_readNumber 39 = .ok (.ifCond .eq 12, 3) := by decide +kernel
theorem dX2_readNumber_42 : decode cX2_readNumber 42 = .ok (.aload_n 0, 1) := by decide +kernel
theorem dX2_readNumber_43 : decode cX2_readNumber 43 = .ok (.iconst 3, 1) := by decide +kernel
theorem dX2_readNumber_44 : decode cX2_readNumber 44 = .ok (.iload_n 2, 1) := by decide +kernel
theorem dX2_readNumber_45 : decode cX2_readNumber 45 = .ok (.invokevirtual 64, 3) := by decide +kernel
theorem dX2_readNumber_48 : decode cX2_readNumber 48 = .ok (.goto 59, 3) := by decide +kernel
theorem dX2_readNumber_51 : decode cX2_readNumber 51 = .ok (.aload_n 0, 1) := by decide +kernel
theorem dX2_readNumber_52 : decode cX2_readNumber 52 = .ok (.aload_n 3, 1) := by decide +kernel
theorem dX2_readNumber_53 : decode cX2_readNumber 53 = .ok (.aload 4, 2) := by decide +kernel
theorem dX2_readNumber_55 : decode cX2_readNumber 55 = .ok (.invokevirtual 73, 3) := by decide +kernel
theorem dX2_readNumber_58 : decode cX2_readNumber 58 = .ok (.ifCond .ne 23, 3) := by decide +kernel
theorem dX2_readNumber_61 : decode cX2_readNumber 61 = .ok (.aload 4, 2) := by decide +kernel
theorem dX2_readNumber_63 : decode cX2_readNumber 63 = .ok (.aload_n 0, 1) := by decide +kernel
theorem dX2_readNumber_64 : decode cX2_readNumber 64 = .ok (.getfield 18, 3) := by decide +kernel
theorem dX2_readNumber_67 : decode cX2_readNumber 67 = .ok (.aload_n 0, 1) := by decide +kernel
theorem dX2_readNumber_68 : decode cX2_readNumber 68 = .ok (.getfield 22, 3) := by decide +kernel
theorem dX2_readNumber_71 : decode cX2_readNumber 71 = .ok (.iconst 1, 1) := by decide +kernel
theorem dX2_readNumber_72 : decode cX2_readNumber 72 = .ok (.isub, 1) := by decide +kernel
theorem dX2_readNumber_73 : decode cX2_readNumber 73 = .ok (.iaload, 1) := by decide +kernel
theorem dX2_readNumber_74 : decode cX2_readNumber 74 = .ok (.iload_n 1, 1) := by decide +kernel
theorem dX2_readNumber_75 : decode cX2_readNumber 75 = .ok (.invokevirtual 77, 3) := by decide +kernel
theorem dX2_readNumber_78 : decode cX2_readNumber 78 = .ok (.ifCond .ne 12, 3) := by decide +kernel
theorem dX2_readNumber_81 : decode cX2_readNumber 81 = .ok (.aload_n 0, 1) := by decide +kernel
theorem dX2_readNumber_82 : decode cX2_readNumber 82 = .ok (.iconst 4, 1) := by decide +kernel
theorem dX2_readNumber_83 : decode cX2_readNumber 83 = .ok (.iload_n 2, 1) := by decide +kernel
theorem dX2_readNumber_84 : decode cX2_readNumber 84 = .ok (.invokevirtual 64, 3) := by decide +kernel
theorem dX2_readNumber_87 : decode cX2_readNumber 87 = .ok (.goto 20, 3) := by decide +kernel
theorem dX2_readNumber_90 : decode cX2_readNumber 90 = .ok (.aload_n 0, 1) := by decide +kernel
theorem dX2_readNumber_91 : decode cX2_readNumber 91 = .ok (.getfield 25, 3) := by decide +kernel
theorem dX2_readNumber_94 : decode cX2_readNumber 94 = .ok (.iload_n 1, 1) := by decide +kernel
theorem dX2_readNumber_95 : decode cX2_readNumber 95 = .ok (.iconst 1, 1) := by decide +kernel
theorem dX2_readNumber_96 : decode cX2_readNumber 96 = .ok (.bastore, 1) := by decide +kernel
theorem dX2_readNumber_97 : decode cX2_readNumber 97 = .ok (.aload_n 0, 1) := by decide +kernel
theorem dX2_readNumber_98 : decode cX2_readNumber 98 = .ok (.dup, 1) := by decide +kernel
theorem dX2_readNumber_99 : decode cX2_readNumber 99 = .ok (.getfield 29, 3) := by decide +kernel
theorem dX2_readNumber_102 : decode cX2_readNumber 102 = .ok (.iconst 1, 1) := by decide +kernel
theorem dX2_readNumber_103 : decode cX2_readNumber 103 = .ok (.iadd, 1) := by decide +kernel
theorem dX2_readNumber_104 : decode cX2_readNumber 104 = .ok (.putfield 29, 3) := by decide +kernel
theorem dX2_readNumber_107 : decode cX2_readNumber 107 = .ok (.return_, 1) := by decide +kernel
set_option maxRecDepth 20000 in
theorem ggX2_openList_X2_openMenu : GoodIn wsX2_openList wsX2_openMenu := goodIn_r _ [7, 1, 2, 8, 9, 10, 6, 11, 12, 13, 14, 15, 16, 17, 18, 19, 20, 21, 22, 23, 24, 25, 26, 27, 28, 29, 30, 31, 32, 33, 42, 43, 44, 45, 46, 47, 48, 49, 50, 51, 52, 53, 54, 55, 56, 57, 58, 59] (by decide +kernel) (by decide +kernel)
set_option maxRecDepth 20000 in
theorem gX2_openList_X2_openMenu : GoodIn wsX2_openList (wsV RX2 81 RX2 yX2_openMenu wsX2_openMenu) := goodIn_app (goodIn_of _ (by decide +kernel)) ggX2_openList_X2_openMenu
set_option maxRecDepth 20000 in
theorem ggX2_openList_X5_exists : GoodIn wsX2_openList wsX5_exists := goodIn_r _ [37, 25, 48, 49, 50, 51, 52, 53, 54, 55] (by decide +kernel) (by decide +kernel)
set_option maxRecDepth 20000 in
theorem gX2_openList_X5_exists : GoodIn wsX2_openList (wsV RX2 84 RX5 yX5_exists wsX5_exists) := goodIn_app (goodIn_of _ (by decide +kernel)) ggX2_openList_X5_exists
set_option maxRecDepth 20000 in
theorem ggX2_openList_X2_refuse : GoodIn wsX2_openList wsX2_refuse := goodIn_r _ [17, 18, 19, 42, 43, 44, 45, 46, 47] (by decide +kernel) (by decide +kernel)
set_option maxRecDepth 20000 in
theorem gX2_openList_X2_refuse : GoodIn wsX2_openList (wsV RX2 64 RX2 yX2_refuse wsX2_refuse) := goodIn_app (goodIn_of _ (by decide +kernel)) ggX2_openList_X2_refuse
set_option maxRecDepth 20000 in
theorem ggX2_openList_X5_begin : GoodIn wsX2_openList wsX5_begin := goodIn_r _ [41, 25, 26, 27, 28, 48, 49, 50, 51, 52, 53, 54, 55] (by decide +kernel) (by decide +kernel)
set_option maxRecDepth 20000 in
theorem gX2_openList_X5_begin : GoodIn wsX2_openList (wsV RX2 88 RX5 yX5_begin wsX5_begin) := goodIn_app (goodIn_of _ (by decide +kernel)) ggX2_openList_X5_begin
theorem dX2_openList_0 : decode cX2_openList 0 = .ok (.aload_n 0, 1) := by decide +kernel
theorem dX2_openList_1 : decode cX2_openList 1 = .ok (.getfield 22, 3) := by decide +kernel
theorem dX2_openList_4 : decode cX2_openList 4 = .ok (.ifCond .le 13, 3) := by decide +kernel
theorem dX2_openList_7 : decode cX2_openList 7 = .ok (.aload_n 0, 1) := by decide +kernel
theorem dX2_openList_8 : decode cX2_openList 8 = .ok (.iload_n 1, 1) := by decide +kernel
theorem dX2_openList_9 : decode cX2_openList 9 = .ok (.aload_n 2, 1) := by decide +kernel
theorem dX2_openList_10 : decode cX2_openList 10 = .ok (.aload_n 3, 1) := by decide +kernel
theorem dX2_openList_11 : decode cX2_openList 11 = .ok (.invokevirtual 81, 3) := by decide +kernel
theorem dX2_openList_14 : decode cX2_openList 14 = .ok (.goto 35, 3) := by decide +kernel
theorem dX2_openList_17 : decode cX2_openList 17 = .ok (.aload_n 3, 1) := by decide +kernel
theorem dX2_openList_18 : decode cX2_openList 18 = .ok (.invokevirtual 84, 3) := by decide +kernel
theorem dX2_openList_21 : decode cX2_openList 21 = .ok (.ifCond .eq 12, 3) := by decide +kernel
theorem dX2_openList_24 : decode cX2_openList 24 = .ok (.aload_n 0, 1) := by decide +kernel
theorem dX2_openList_25 : decode cX2_openList 25 = .ok (.iconst 1, 1) := by decide +kernel
theorem dX2_openList_26 : decode cX2_openList 26 = .ok (.iload_n 1, 1) := by decide +kernel
theorem dX2_openList_27 : decode cX2_openList 27 = .ok (.invokevirtual 64, 3) := by decide +kernel
theorem dX2_openList_30 : decode cX2_openList 30 = .ok (.goto 19, 3) := by decide +kernel
theorem dX2_openList_33 : decode cX2_openList 33 = .ok (.aload_n 3, 1) := by decide +kernel
theorem dX2_openList_34 : decode cX2_openList 34 = .ok (.invokevirtual 88, 3) := by decide +kernel
theorem dX2_openList_37 : decode cX2_openList 37 = .ok (.aload_n 0, 1) := by decide +kernel
theorem dX2_openList_38 : decode cX2_openList 38 = .ok (.getfield 18, 3) := by decide +kernel
theorem dX2_openList_41 : decode cX2_openList 41 = .ok (.iconst 0, 1) := by decide +kernel
theorem dX2_openList_42 : decode cX2_openList 42 = .ok (.iconst 0, 1) := by decide +kernel
theorem dX2_openList_43 : decode cX2_openList 43 = .ok (.iastore, 1) := by decide +kernel
theorem dX2_openList_44 : decode cX2_openList 44 = .ok (.aload_n 0, 1) := by decide +kernel
theorem dX2_openList_45 : decode cX2_openList 45 = .ok (.iconst 1, 1) := by decide +kernel
theorem dX2_openList_46 : decode cX2_openList 46 = .ok (.putfield 22, 3) := by decide +kernel
theorem dX2_openList_49 : decode cX2_openList 49 = .ok (.return_, 1) := by decide +kernel
set_option maxRecDepth 20000 in
theorem ggX2_openMenu_X2_isFull : GoodIn wsX2_openMenu wsX2_isFull := goodIn_r _ [7, 8, 2, 1, 9, 36, 37, 38, 39, 40, 41, 42, 43, 30, 31, 32, 33, 34, 35, 44, 45, 46, 47] (by decide +kernel) (by decide +kernel)
set_option maxRecDepth 20000 in
theorem gX2_openMenu_X2_isFull : GoodIn wsX2_openMenu (wsV RX2 73 RX2 yX2_isFull wsX2_isFull) := goodIn_app (goodIn_of _ (by decide +kernel)) ggX2_openMenu_X2_isFull
set_option maxRecDepth 20000 in
theorem ggX2_openMenu_X2_refuse : GoodIn wsX2_openMenu wsX2_refuse := goodIn_r _ [13, 14, 15, 30, 31, 32, 33, 34, 35] (by decide +kernel) (by decide +kernel)
set_option maxRecDepth 20000 in
theorem gX2_openMenu_X2_refuse : GoodIn wsX2_openMenu (wsV RX2 64 RX2 yX2_refuse wsX2_refuse) := goodIn_app (goodIn_of _ (by decide +kernel)) ggX2_openMenu_X2_refuse
set_option maxRecDepth 20000 in
theorem ggX2_openMenu_X5_addMenu : GoodIn wsX2_openMenu wsX5_addMenu := goodIn_r _ [20, 21, 22, 23, 24, 25, 26, 27, 19, 28, 29, 36, 37, 38, 39, 40, 41, 42, 43] (by decide +kernel) (by decide +kernel)
set_option maxRecDepth 20000 in
theorem gX2_openMenu_X5_addMenu : GoodIn wsX2_openMenu (wsV RX2 91 RX5 yX5_addMenu wsX5_addMenu) := goodIn_app (goodIn_of _ (by decide +kernel)) ggX2_openMenu_X5_addMenu
theorem dX2_openMenu_0 : decode cX2_openMenu 0 = .ok (.aload_n 0, 1) := by decide +kernel
theorem dX2_openMenu_1 : decode cX2_openMenu 1 = .ok (.getfield 22, 3) := by decide +kernel
theorem dX2_openMenu_4 : decode cX2_openMenu 4 = .ok (.bipush 40, 2) := by decide +kernel
theorem dX2_openMenu_6 : decode cX2_openMenu 6 = .ok (.if_icmp .ge 12, 3) := by decide +kernel
theorem dX2_openMenu_9 : decode cX2_openMenu 9 = .ok (.aload_n 0, 1) := by decide +kernel
theorem dX2_openMenu_10 : decode cX2_openMenu 10 = .ok (.aload_n 2, 1) := by decide +kernel
theorem dX2_openMenu_11 : decode cX2_openMenu 11 = .ok (.aload_n 3, 1) := by decide +kernel
theorem dX2_openMenu_12 : decode cX2_openMenu 12 = .ok (.invokevirtual 73, 3) := by decide +kernel
theorem dX2_openMenu_15 : decode cX2_openMenu 15 = .ok (.ifCond .eq 10, 3) := by decide +kernel
theorem dX2_openMenu_18 : decode cX2_openMenu 18 = .ok (.aload_n 0, 1) := by decide +kernel
theorem dX2_openMenu_19 : decode cX2_openMenu 19 = .ok (.iconst 4, 1) := by decide +kernel
theorem dX2_openMenu_20 : decode cX2_openMenu 20 = .ok (.iload_n 1, 1) := by decide +kernel
theorem dX2_openMenu_21 : decode cX2_openMenu 21 = .ok (.invokevirtual 64, 3) := by decide +kernel
theorem dX2_openMenu_24 : decode cX2_openMenu 24 = .ok (.return_, 1) := by decide +kernel
theorem dX2_openMenu_25 : decode cX2_openMenu 25 = .ok (.aload_n 3, 1) := by decide +kernel
theorem dX2_openMenu_26 : decode cX2_openMenu 26 = .ok (.aload_n 0, 1) := by decide +kernel
theorem dX2_openMenu_27 : decode cX2_openMenu 27 = .ok (.getfield 18, 3) := by decide +kernel
theorem dX2_openMenu_30 : decode cX2_openMenu 30 = .ok (.aload_n 0, 1) := by decide +kernel
theorem dX2_openMenu_31 : decode cX2_openMenu 31 = .ok (.getfield 22, 3) := by decide +kernel
theorem dX2_openMenu_34 : decode cX2_openMenu 34 = .ok (.iconst 1, 1) := by decide +kernel
theorem dX2_openMenu_35 : decode cX2_openMenu 35 = .ok (.isub, 1) := by decide +kernel
theorem dX2_openMenu_36 : decode cX2_openMenu 36 = .ok (.iaload, 1) := by decide +kernel
theorem dX2_openMenu_37 : decode cX2_openMenu 37 = .ok (.invokevirtual 91, 3) := by decide +kernel
theorem dX2_openMenu_40 : decode cX2_openMenu 40 = .ok (.istore 4, 2) := by decide +kernel
theorem dX2_openMenu_42 : decode cX2_openMenu 42 = .ok (.iload 4, 2) := by decide +kernel
theorem dX2_openMenu_44 : decode cX2_openMenu 44 = .ok (.iconst (-1), 1) := by decide +kernel
theorem dX2_openMenu_45 : decode cX2_openMenu 45 = .ok (.if_icmp .ne 10, 3) := by decide +kernel
theorem dX2_openMenu_48 : decode cX2_openMenu 48 = .ok (.aload_n 0, 1) := by decide +kernel
theorem dX2_openMenu_49 : decode cX2_openMenu 49 = .ok (.iconst 4, 1) := by decide +kernel
theorem dX2_openMenu_50 : decode cX2_openMenu 50 = .ok (.iload_n 1, 1) := by decide +kernel
theorem dX2_openMenu_51 : decode cX2_openMenu 51 = .ok (.invokevirtual 64, 3) := by decide +kernel
theorem dX2_openMenu_54 : decode cX2_openMenu 54 = .ok (.return_, 1) := by decide +kernel
theorem dX2_openMenu_55 : decode cX2_openMenu 55 = .ok (.aload_n 0, 1) := by decide +kernel
theorem dX2_openMenu_56 : decode cX2_openMenu 56 = .ok (.getfield 18, 3) := by decide +kernel
theorem dX2_openMenu_59 : decode cX2_openMenu 59 = .ok (.aload_n 0, 1) := by decide +kernel
theorem dX2_openMenu_60 : decode cX2_openMenu 60 = .ok (.getfield 22, 3) := by decide +kernel
theorem dX2_openMenu_63 : decode cX2_openMenu 63 = .ok (.iload 4, 2) := by decide +kernel
theorem dX2_openMenu_65 : decode cX2_openMenu 65 = .ok (.iastore, 1) := by decide +kernel
theorem dX2_openMenu_66 : decode cX2_openMenu 66 = .ok (.aload_n 0, 1) := by decide +kernel
theorem dX2_openMenu_67 : decode cX2_openMenu 67 = .ok (.dup, 1) := by decide +kernel
theorem dX2_openMenu_68 : decode cX2_openMenu 68 = .ok (.getfield 22, 3) := by decide +kernel
theorem dX2_openMenu_71 : decode cX2_openMenu 71 = .ok (.iconst 1, 1) := by decide +kernel
theorem dX2_openMenu_72 : decode cX2_openMenu 72 = .ok (.iadd, 1) := by decide +kernel
theorem dX2_openMenu_73 : decode cX2_openMenu 73 = .ok (.putfield 22, 3) := by decide +kernel
theorem dX2_openMenu_76 : decode cX2_openMenu 76 = .ok (.return_, 1) := by decide +kernel
theorem dX2_isFull_0 : decode cX2_isFull 0 = .ok (.aload_n 2, 1) := by decide +kernel
theorem dX2_isFull_1 : decode cX2_isFull 1 = .ok (.getfield 95, 3) := by decide +kernel
theorem dX2_isFull_4 : decode cX2_isFull 4 = .ok (.aload_n 0, 1) := by decide +kernel
theorem dX2_isFull_5 : decode cX2_isFull 5 = .ok (.getfield 18, 3) := by decide +kernel
theorem dX2_isFull_8 : decode cX2_isFull 8 = .ok (.aload_n 0, 1) := by decide +kernel
theorem dX2_isFull_9 : decode cX2_isFull 9 = .ok (.getfield 22, 3) := by decide +kernel
theorem dX2_isFull_12 : decode cX2_isFull 12 = .ok (.iconst 1, 1) := by decide +kernel
theorem dX2_isFull_13 : decode cX2_isFull 13 = .ok (.isub, 1) := by decide +kernel
theorem dX2_isFull_14 : decode cX2_isFull 14 = .ok (.iaload, 1) := by decide +kernel
theorem dX2_isFull_15 : decode cX2_isFull 15 = .ok (.iaload, 1) := by decide +kernel
theorem dX2_isFull_16 : decode cX2_isFull 16 = .ok (.aload_n 1, 1) := by decide +kernel
theorem dX2_isFull_17 : decode cX2_isFull 17 = .ok (.getfield 98, 3) := by decide +kernel
theorem dX2_isFull_20 : decode cX2_isFull 20 = .ok (.iconst 2, 1) := by decide +kernel
theorem dX2_isFull_21 : decode cX2_isFull 21 = .ok (.iaload, 1) := by decide +kernel
theorem dX2_isFull_22 : decode cX2_isFull 22 = .ok (.if_icmp .lt 7, 3) := by decide +kernel
theorem dX2_isFull_25 : decode cX2_isFull 25 = .ok (.iconst 1, 1) := by decide +kernel
theorem dX2_isFull_26 : decode cX2_isFull 26 = .ok (.goto 4, 3) := by decide +kernel
theorem dX2_isFull_29 : decode cX2_isFull 29 = .ok (.iconst 0, 1) := by decide +kernel
theorem dX2_isFull_30 : decode cX2_isFull 30 = .ok (.ireturn, 1) := by decide +kernel
set_option maxRecDepth 20000 in
theorem ggX2_closeList_X2_refuse : GoodIn wsX2_closeList wsX2_refuse := goodIn_r _ [8, 9, 10, 11, 12, 13, 14, 15, 16] (by decide +kernel) (by decide +kernel)
set_option maxRecDepth 20000 in
theorem gX2_closeList_X2_refuse : GoodIn wsX2_closeList (wsV RX2 64 RX2 yX2_refuse wsX2_refuse) := goodIn_app (goodIn_of _ (by decide +kernel)) ggX2_closeList_X2_refuse
theorem dX2_closeList_0 : decode cX2_closeList 0 = .ok (.aload_n 0, 1) := by decide +kernel
theorem dX2_closeList_1 : decode cX2_closeList 1 = .ok (.getfield 22, 3) := by decide +kernel
theorem dX2_closeList_4 : decode cX2_closeList 4 = .ok (.ifCond .ne 7, 3) := by decide +kernel
theorem dX2_closeList_7 : decode cX2_closeList 7 = .ok (.iconst 0, 1) := by decide +kernel
theorem dX2_closeList_8 : decode cX2_closeList 8 = .ok (.goto 19, 3) := by decide +kernel
theorem dX2_closeList_11 : decode cX2_closeList 11 = .ok (.aload_n 2, 1) := by decide +kernel
theorem dX2_closeList_12 : decode cX2_closeList 12 = .ok (.getfield 95, 3) := by decide +kernel
theorem dX2_closeList_15 : decode cX2_closeList 15 = .ok (.aload_n 0, 1) := by decide +kernel
theorem dX2_closeList_16 : decode cX2_closeList 16 = .ok (.getfield 18, 3) := by decide +kernel
theorem dX2_closeList_19 : decode cX2_closeList 19 = .ok (.aload_n 0, 1) := by decide +kernel
theorem dX2_closeList_20 : decode cX2_closeList 20 = .ok (.getfield 22, 3) := by decide +kernel
theorem dX2_closeList_23 : decode cX2_closeList 23 = .ok (.iconst 1, 1) := by decide +kernel
theorem dX2_closeList_24 : decode cX2_closeList 24 = .ok (.isub, 1) := by decide +kernel
theorem dX2_closeList_25 : decode cX2_closeList 25 = .ok (.iaload, 1) := by decide +kernel
theorem dX2_closeList_26 : decode cX2_closeList 26 = .ok (.iaload, 1) := by decide +kernel
theorem dX2_closeList_27 : decode cX2_closeList 27 = .ok (.istore_n 3, 1) := by decide +kernel
theorem dX2_closeList_28 : decode cX2_closeList 28 = .ok (.iload_n 3, 1) := by decide +kernel
theorem dX2_closeList_29 : decode cX2_closeList 29 = .ok (.ifCond .ne 12, 3) := by decide +kernel
theorem dX2_closeList_32 : decode cX2_closeList 32 = .ok (.aload_n 0, 1) := by decide +kernel
theorem dX2_closeList_33 : decode cX2_closeList 33 = .ok (.iconst 1, 1) := by decide +kernel
theorem dX2_closeList_34 : decode cX2_closeList 34 = .ok (.iload_n 1, 1) := by decide +kernel
theorem dX2_closeList_35 : decode cX2_closeList 35 = .ok (.invokevirtual 64, 3) := by decide +kernel
theorem dX2_closeList_38 : decode cX2_closeList 38 = .ok (.goto 35, 3) := by decide +kernel
theorem dX2_closeList_41 : decode cX2_closeList 41 = .ok (.iload_n 3, 1) := by decide +kernel
theorem dX2_closeList_42 : decode cX2_closeList 42 = .ok (.iconst 1, 1) := by decide +kernel
theorem dX2_closeList_43 : decode cX2_closeList 43 = .ok (.if_icmp .ne 20, 3) := by decide +kernel
theorem dX2_closeList_46 : decode cX2_closeList 46 = .ok (.aload_n 0, 1) := by decide +kernel
theorem dX2_closeList_47 : decode cX2_closeList 47 = .ok (.getfield 22, 3) := by decide +kernel
theorem dX2_closeList_50 : decode cX2_closeList 50 = .ok (.iconst 1, 1) := by decide +kernel
theorem dX2_closeList_51 : decode cX2_closeList 51 = .ok (.if_icmp .le 12, 3) := by decide +kernel
theorem dX2_closeList_54 : decode cX2_closeList 54 = .ok (.aload_n 0, 1) := by decide +kernel
theorem dX2_closeList_55 : decode cX2_closeList 55 = .ok (.iconst 5, 1) := by decide +kernel
theorem dX2_closeList_56 : decode cX2_closeList 56 = .ok (.iload_n 1, 1) := by decide +kernel
theorem dX2_closeList_57 : decode cX2_closeList 57 = .ok (.invokevirtual 64, 3) := by decide +kernel
theorem dX2_closeList_60 : decode cX2_closeList 60 = .ok (.goto 13, 3) := by decide +kernel
theorem dX2_closeList_63 : decode cX2_closeList 63 = .ok (.aload_n 0, 1) := by decide +kernel
theorem dX2_closeList_64 : decode cX2_closeList 64 = .ok (.dup, 1) := by decide +kernel
theorem dX2_closeList_65 : decode cX2_closeList 65 = .ok (.getfield 22, 3) := by decide +kernel
theorem dX2_closeList_68 : decode cX2_closeList 68 = .ok (.iconst 1, 1) := by decide +kernel
theorem dX2_closeList_69 : decode cX2_closeList 69 = .ok (.isub, 1) := by decide +kernel
theorem dX2_closeList_70 : decode cX2_closeList 70 = .ok (.putfield 22, 3) := by decide +kernel
theorem dX2_closeList_73 : decode cX2_closeList 73 = .ok (.return_, 1) := by decide +kernel
set_option maxRecDepth 20000 in
theorem ggX2_readEnd_X5_exists : GoodIn wsX2_readEnd wsX5_exists := goodIn_r _ [8, 9, 27, 28, 29, 30, 31, 32, 33, 34] (by decide +kernel) (by decide +kernel)
set_option maxRecDepth 20000 in
theorem gX2_readEnd_X5_exists : GoodIn wsX2_readEnd (wsV RX2 84 RX5 yX5_exists wsX5_exists) := goodIn_app (goodIn_of _ (by decide +kernel)) ggX2_readEnd_X5_exists
set_option maxRecDepth 20000 in
theorem ggX2_readEnd_X2_refuse : GoodIn wsX2_readEnd wsX2_refuse := goodIn_r _ [14, 15, 16, 17, 18, 19, 20, 21, 22] (by decide +kernel) (by decide +kernel)
set_option maxRecDepth 20000 in
theorem gX2_readEnd_X2_refuse : GoodIn wsX2_readEnd (wsV RX2 64 RX2 yX2_refuse wsX2_refuse) := goodIn_app (goodIn_of _ (by decide +kernel)) ggX2_readEnd_X2_refuse
theorem dX2_readEnd_0 : decode cX2_readEnd 0 = .ok (.aload_n 0, 1) := by decide +kernel
theorem dX2_readEnd_1 : decode cX2_readEnd 1 = .ok (.getfield 22, 3) := by decide +kernel
theorem dX2_readEnd_4 : decode cX2_readEnd 4 = .ok (.ifCond .gt 10, 3) := by decide +kernel
theorem dX2_readEnd_7 : decode cX2_readEnd 7 = .ok (.aload_n 3, 1) := by decide +kernel
theorem dX2_readEnd_8 : decode cX2_readEnd 8 = .ok (.invokevirtual 84, 3) := by decide +kernel
theorem dX2_readEnd_11 : decode cX2_readEnd 11 = .ok (.ifCond .ne 12, 3) := by decide +kernel
theorem dX2_readEnd_14 : decode cX2_readEnd 14 = .ok (.aload_n 0, 1) := by decide +kernel
theorem dX2_readEnd_15 : decode cX2_readEnd 15 = .ok (.iconst 1, 1) := by decide +kernel
theorem dX2_readEnd_16 : decode cX2_readEnd 16 = .ok (.iload_n 1, 1) := by decide +kernel
theorem dX2_readEnd_17 : decode cX2_readEnd 17 = .ok (.invokevirtual 64, 3) := by decide +kernel
theorem dX2_readEnd_20 : decode cX2_readEnd 20 = .ok (.goto 21, 3) := by decide +kernel
theorem dX2_readEnd_23 : decode cX2_readEnd 23 = .ok (.aload_n 0, 1) := by decide +kernel
theorem dX2_readEnd_24 : decode cX2_readEnd 24 = .ok (.getfield 29, 3) := by decide +kernel
theorem dX2_readEnd_27 : decode cX2_readEnd 27 = .ok (.aload_n 2, 1) := by decide +kernel
theorem dX2_readEnd_28 : decode cX2_readEnd 28 = .ok (.getfield 68, 3) := by decide +kernel
theorem dX2_readEnd_31 : decode cX2_readEnd 31 = .ok (.if_icmp .ge 10, 3) := by decide +kernel
theorem dX2_readEnd_34 : decode cX2_readEnd 34 = .ok (.aload_n 0, 1) := by decide +kernel
theorem dX2_readEnd_35 : decode cX2_readEnd 35 = .ok (.bipush 6, 2) := by decide +kernel
theorem dX2_readEnd_37 : decode cX2_readEnd 37 = .ok (.iload_n 1, 1) := by decide +kernel
theorem dX2_readEnd_38 : decode cX2_readEnd 38 = .ok (.invokevirtual 64, 3) := by decide +kernel
theorem dX2_readEnd_41 : decode cX2_readEnd 41 = .ok (.return_, 1) := by decide +kernel
theorem dX2_refuse_0 : decode cX2_refuse 0 = .ok (.aload_n 0, 1) := by decide +kernel
theorem dX2_refuse_1 : decode cX2_refuse 1 = .ok (.iload_n 1, 1) := by decide +kernel
theorem dX2_refuse_2 : decode cX2_refuse 2 = .ok (.putfield 9, 3) := by decide +kernel
theorem dX2_refuse_5 : decode cX2_refuse 5 = .ok (.aload_n 0, 1) := by decide +kernel
theorem dX2_refuse_6 : decode cX2_refuse 6 = .ok (.iload_n 2, 1) := by decide +kernel
theorem dX2_refuse_7 : decode cX2_refuse 7 = .ok (.putfield 15, 3) := by decide +kernel
theorem dX2_refuse_10 : decode cX2_refuse 10 = .ok (.return_, 1) := by decide +kernel
theorem dX3_init_0 : decode cX3_init 0 = .ok (.aload_n 0, 1) := by decide +kernel
theorem dX3_init_1 : decode cX3_init 1 = .ok (.invokespecial 3, 3) := by decide +kernel
theorem dX3_init_4 : decode cX3_init 4 = .ok (.aload_n 0, 1) := by decide +kernel
theorem dX3_init_5 : decode cX3_init 5 = .ok (.bipush 41, 2) := by decide +kernel
theorem dX3_init_7 : decode cX3_init 7 = .ok (.newarray .long, 2) := by decide +kernel
theorem dX3_init_9 : decode cX3_init 9 = .ok (.putfield 11, 3) := by decide +kernel
theorem dX3_init_12 : decode cX3_init 12 = .ok (.aload_n 0, 1) := by decide +kernel
theorem dX3_init_13 : decode cX3_init 13 = .ok (.sipush 1681, 3) := by decide +kernel
theorem dX3_init_16 : decode cX3_init 16 = .ok (.newarray .long, 2) := by decide +kernel
theorem dX3_init_18 : decode cX3_init 18 = .ok (.putfield 15, 3) := by decide +kernel
theorem dX3_init_21 : decode cX3_init 21 = .ok (.aload_n 0, 1) := by decide +kernel
theorem dX3_init_22 : decode cX3_init 22 = .ok (.bipush 9, 2) := by decide +kernel
theorem dX3_init_24 : decode cX3_init 24 = .ok (.sipush 1681, 3) := by decide +kernel
theorem dX3_init_27 : decode cX3_init 27 = .ok (.multianewarray 18 2, 4) := by decide +kernel
theorem dX3_init_31 : decode cX3_init 31 = .ok (.putfield 20, 3) := by decide +kernel
theorem dX3_init_34 : decode cX3_init 34 = .ok (.aload_n 0, 1) := by decide +kernel
theorem dX3_init_35 : decode cX3_init 35 = .ok (.bipush 40, 2) := by decide +kernel
theorem dX3_init_37 : decode cX3_init 37 = .ok (.newarray .int, 2) := by decide +kernel
theorem dX3_init_39 : decode cX3_init 39 = .ok (.putfield 23, 3) := by decide +kernel
theorem dX3_init_42 : decode cX3_init 42 = .ok (.aload_n 0, 1) := by decide +kernel
theorem dX3_init_43 : decode cX3_init 43 = .ok (.bipush 40, 2) := by decide +kernel
theorem dX3_init_45 : decode cX3_init 45 = .ok (.newarray .int, 2) := by decide +kernel
theorem dX3_init_47 : decode cX3_init 47 = .ok (.putfield 27, 3) := by decide +kernel
theorem dX3_init_50 : decode cX3_init 50 = .ok (.return_, 1) := by decide +kernel
set_option maxRecDepth 20000 in
theorem ggX3_reckon_X3_reckonSpan : GoodIn wsX3_reckon wsX3_reckonSpan := goodIn_r _ [8, 9, 2, 10, 11, 12, 13, 14, 15, 16, 17, 18, 19, 7, 20, 21, 22, 23, 24, 25, 26, 27, 28, 29, 30, 31, 32, 33, 34, 35, 36, 37] (by decide +kernel) (by decide +kernel)
set_option maxRecDepth 20000 in
theorem gX3_reckon_X3_reckonSpan : GoodIn wsX3_reckon (wsV RX3 39 RX3 yX3_reckonSpan wsX3_reckonSpan) := goodIn_app (goodIn_of _ (by decide +kernel)) ggX3_reckon_X3_reckonSpan
theorem dX3_reckon_0 : decode cX3_reckon 0 = .ok (.iconst 0, 1) := by decide +kernel
theorem dX3_reckon_1 : decode cX3_reckon 1 = .ok (.istore_n 2, 1) := by decide +kernel
theorem dX3_reckon_2 : decode cX3_reckon 2 = .ok (.iload_n 2, 1) := by decide +kernel
theorem dX3_reckon_3 : decode cX3_reckon 3 = .ok (.aload_n 1, 1) := by decide +kernel
theorem dX3_reckon_4 : decode cX3_reckon 4 = .ok (.getfield 30, 3) := by decide +kernel
theorem dX3_reckon_7 : decode cX3_reckon 7 = .ok (.if_icmp .ge 31, 3) := by decide +kernel
theorem dX3_reckon_10 : decode cX3_reckon 10 = .ok (.aload_n 0, 1) := by decide +kernel
theorem dX3_reckon_11 : decode cX3_reckon 11 = .ok (.getfield 11, 3) := by decide +kernel
theorem dX3_reckon_14 : decode cX3_reckon 14 = .ok (.iload_n 2, 1) := by decide +kernel
theorem dX3_reckon_15 : decode cX3_reckon 15 = .ok (.iconst 1, 1) := by decide +kernel
theorem dX3_reckon_16 : decode cX3_reckon 16 = .ok (.iadd, 1) := by decide +kernel
theorem dX3_reckon_17 : decode cX3_reckon 17 = .ok (.aload_n 0, 1) := by decide +kernel
theorem dX3_reckon_18 : decode cX3_reckon 18 = .ok (.getfield 11, 3) := by decide +kernel
theorem dX3_reckon_21 : decode cX3_reckon 21 = .ok (.iload_n 2, 1) := by decide +kernel
theorem dX3_reckon_22 : decode cX3_reckon 22 = .ok (.laload, 1) := by decide +kernel
theorem dX3_reckon_23 : decode cX3_reckon 23 = .ok (.aload_n 1, 1) := by decide +kernel
theorem dX3_reckon_24 : decode cX3_reckon 24 = .ok (.getfield 36, 3) := by decide +kernel
theorem dX3_reckon_27 : decode cX3_reckon 27 = .ok (.iload_n 2, 1) := by decide +kernel
theorem dX3_reckon_28 : decode cX3_reckon 28 = .ok (.iaload, 1) := by decide +kernel
theorem dX3_reckon_29 : decode cX3_reckon 29 = .ok (.i2l, 1) := by decide +kernel
theorem dX3_reckon_30 : decode cX3_reckon 30 = .ok (.ladd, 1) := by decide +kernel
theorem dX3_reckon_31 : decode cX3_reckon 31 = .ok (.lastore, 1) := by decide +kernel
theorem dX3_reckon_32 : decode cX3_reckon 32 = .ok (.iinc 2 1, 3) := by decide +kernel
theorem dX3_reckon_35 : decode cX3_reckon 35 = .ok (.goto (-33), 3) := by decide +kernel
theorem dX3_reckon_38 : decode cX3_reckon 38 = .ok (.iconst 1, 1) := by decide +kernel
theorem dX3_reckon_39 : decode cX3_reckon 39 = .ok (.istore_n 2, 1) := by decide +kernel
theorem dX3_reckon_40 : decode cX3_reckon 40 = .ok (.iload_n 2, 1) := by decide +kernel
theorem dX3_reckon_41 : decode cX3_reckon 41 = .ok (.aload_n 1, 1) := by decide +kernel
theorem dX3_reckon_42 : decode cX3_reckon 42 = .ok (.getfield 30, 3) := by decide +kernel
theorem dX3_reckon_45 : decode cX3_reckon 45 = .ok (.if_icmp .gt 36, 3) := by decide +kernel
theorem dX3_reckon_48 : decode cX3_reckon 48 = .ok (.iconst 0, 1) := by decide +kernel
theorem dX3_reckon_49 : decode cX3_reckon 49 = .ok (.istore_n 3, 1) := by decide +kernel
theorem dX3_reckon_50 : decode cX3_reckon 50 = .ok (.iload_n 3, 1) := by decide +kernel
theorem dX3_reckon_51 : decode cX3_reckon 51 = .ok (.iload_n 2, 1) := by decide +kernel
theorem dX3_reckon_52 : decode cX3_reckon 52 = .ok (.iadd, 1) := by decide +kernel
theorem dX3_reckon_53 : decode cX3_reckon 53 = .ok (.aload_n 1, 1) := by decide +kernel
theorem dX3_reckon_54 : decode cX3_reckon 54 = .ok (.getfield 30, 3) := by decide +kernel
theorem dX3_reckon_57 : decode cX3_reckon 57 = .ok (.if_icmp .gt 18, 3) := by decide +kernel
theorem dX3_reckon_60 : decode cX3_reckon 60 = .ok (.aload_n 0, 1) := by decide +kernel
theorem dX3_reckon_61 : decode cX3_reckon 61 = .ok (.iload_n 3, 1) := by decide +kernel
theorem dX3_reckon_62 : decode cX3_reckon 62 = .ok (.iload_n 3, 1) := by decide +kernel
theorem dX3_reckon_63 : decode cX3_reckon 63 = .ok (.iload_n 2, 1) := by decide +kernel
theorem dX3_reckon_64 : decode cX3_reckon 64 = .ok (.iadd, 1) := by decide +kernel
theorem dX3_reckon_65 : decode cX3_reckon 65 = .ok (.aload_n 1, 1) := by decide +kernel
theorem dX3_reckon_66 : decode cX3_reckon 66 = .ok (.invokevirtual 39, 3) := by decide +kernel
theorem dX3_reckon_69 : decode cX3_reckon 69 = .ok (.iinc 3 1, 3) := by decide +kernel
theorem dX3_reckon_72 : decode cX3_reckon 72 = .ok (.goto (-22), 3) := by decide +kernel
theorem dX3_reckon_75 : decode cX3_reckon 75 = .ok (.iinc 2 1, 3) := by decide +kernel
theorem dX3_reckon_78 : decode cX3_reckon 78 = .ok (.goto (-38), 3) := by decide +kernel
theorem dX3_reckon_81 : decode cX3_reckon 81 = .ok (.return_, 1) := by decide +kernel
set_option maxRecDepth 20000 in
theorem ggX3_reckonSpan_X3_lookPay : GoodIn wsX3_reckonSpan wsX3_lookPay := goodIn_r _ [14, 2, 1, 3, 27, 28, 29, 30, 31, 23, 24, 25, 26] (by decide +kernel) (by decide +kernel)
set_option maxRecDepth 20000 in
theorem gX3_reckonSpan_X3_lookPay : GoodIn wsX3_reckonSpan (wsV RX3 46 RX3 yX3_lookPay wsX3_lookPay) := goodIn_app (goodIn_of _ (by decide +kernel)) ggX3_reckonSpan_X3_lookPay
set_option maxRecDepth 20000 in
theorem ggX3_reckonSpan_X3_leastSplit : GoodIn wsX3_reckonSpan wsX3_leastSplit := goodIn_r _ [18, 6, 7, 8, 9, 19, 20, 21, 13, 22, 4, 5, 27, 28, 29, 30, 31] (by decide +kernel) (by decide +kernel)
set_option maxRecDepth 20000 in
theorem gX3_reckonSpan_X3_leastSplit : GoodIn wsX3_reckonSpan (wsV RX3 52 RX3 yX3_leastSplit wsX3_leastSplit) := goodIn_app (goodIn_of _ (by decide +kernel)) ggX3_reckonSpan_X3_leastSplit
theorem dX3_reckonSpan_0 : decode cX3_reckonSpan 0 = .ok (.aload_n 3, 1) := by decide +kernel
theorem dX3_reckonSpan_1 : decode cX3_reckonSpan 1 = .ok (.getfield 43, 3) := by decide +kernel
theorem dX3_reckonSpan_4 : decode cX3_reckonSpan 4 = .ok (.iconst 2, 1) := by decide +kernel
theorem dX3_reckonSpan_5 : decode cX3_reckonSpan 5 = .ok (.iaload, 1) := by decide +kernel
theorem dX3_reckonSpan_6 : decode cX3_reckonSpan 6 = .ok (.istore 4, 2) := by decide +kernel
theorem dX3_reckonSpan_8 : decode cX3_reckonSpan 8 = .ok (.iload_n 1, 1) := by decide +kernel
theorem dX3_reckonSpan_9 : decode cX3_reckonSpan 9 = .ok (.bipush 41, 2) := by decide +kernel
theorem dX3_reckonSpan_11 : decode cX3_reckonSpan 11 = .ok (.imul, 1) := by decide +kernel
theorem dX3_reckonSpan_12 : decode cX3_reckonSpan 12 = .ok (.iload_n 2, 1) := by decide +kernel
theorem dX3_reckonSpan_13 : decode cX3_reckonSpan 13 = .ok (.iadd, 1) := by decide +kernel
theorem dX3_reckonSpan_14 : decode cX3_reckonSpan 14 = .ok (.istore 5, 2) := by decide +kernel
theorem dX3_reckonSpan_16 : decode cX3_reckonSpan 16 = .ok (.aload_n 0, 1) := by decide +kernel
theorem dX3_reckonSpan_17 : decode cX3_reckonSpan 17 = .ok (.iload_n 1, 1) := by decide +kernel
theorem dX3_reckonSpan_18 : decode cX3_reckonSpan 18 = .ok (.iload_n 2, 1) := by decide +kernel
theorem dX3_reckonSpan_19 : decode cX3_reckonSpan 19 = .ok (.aload_n 3, 1) := by decide +kernel
theorem dX3_reckonSpan_20 : decode cX3_reckonSpan 20 = .ok (.invokevirtual 46, 3) := by decide +kernel
theorem dX3_reckonSpan_23 : decode cX3_reckonSpan 23 = .ok (.lstore 6, 2) := by decide +kernel
theorem dX3_reckonSpan_25 : decode cX3_reckonSpan 25 = .ok (.iload_n 2, 1) := by decide +kernel
theorem dX3_reckonSpan_26 : decode cX3_reckonSpan 26 = .ok (.iload_n 1, 1) := by decide +kernel
theorem dX3_reckonSpan_27 : decode cX3_reckonSpan 27 = .ok (.isub, 1) := by decide +kernel
theorem dX3_reckonSpan_28 : decode cX3_reckonSpan 28 = .ok (.iconst 1, 1) := by decide +kernel
theorem dX3_reckonSpan_29 : decode cX3_reckonSpan 29 = .ok (.if_icmp .ne 7, 3) := by decide +kernel
theorem dX3_reckonSpan_32 : decode cX3_reckonSpan 32 = .ok (.iconst 1, 1) := by decide +kernel
theorem dX3_reckonSpan_33 : decode cX3_reckonSpan 33 = .ok (.goto 4, 3) := by decide +kernel
theorem dX3_reckonSpan_36 : decode cX3_reckonSpan 36 = .ok (.iconst 0, 1) := by decide +kernel
theorem dX3_reckonSpan_37 : decode cX3_reckonSpan 37 = .ok (.istore 8, 2) := by decide +kernel
theorem dX3_reckonSpan_39 : decode cX3_reckonSpan 39 = .ok (.lconst 0, 1) := by decide +kernel
theorem dX3_reckonSpan_40 : decode cX3_reckonSpan 40 = .ok (.lstore 9, 2) := by decide +kernel
theorem dX3_reckonSpan_42 : decode cX3_reckonSpan 42 = .ok (.iload 8, 2) := by decide +kernel
theorem dX3_reckonSpan_44 : decode cX3_reckonSpan 44 = .ok (.ifCond .ne 48, 3) := by decide +kernel
theorem dX3_reckonSpan_47 : decode cX3_reckonSpan 47 = .ok (.aload_n 0, 1) := by decide +kernel
theorem dX3_reckonSpan_48 : decode cX3_reckonSpan 48 = .ok (.getfield 11, 3) := by decide +kernel
theorem dX3_reckonSpan_51 : decode cX3_reckonSpan 51 = .ok (.iload_n 2, 1) := by decide +kernel
theorem dX3_reckonSpan_52 : decode cX3_reckonSpan 52 = .ok (.laload, 1) := by decide +kernel
theorem dX3_reckonSpan_53 : decode cX3_reckonSpan 53 = .ok (.aload_n 0, 1) := by decide +kernel
theorem dX3_reckonSpan_54 : decode cX3_reckonSpan 54 = .ok (.getfield 11, 3) := by decide +kernel
theorem dX3_reckonSpan_57 : decode cX3_reckonSpan 57 = .ok (.iload_n 1, 1) := by decide +kernel
theorem dX3_reckonSpan_58 : decode cX3_reckonSpan 58 = .ok (.laload, 1) := by decide +kernel
theorem dX3_reckonSpan_59 : decode cX3_reckonSpan 59 = .ok (.lsub, 1) := by decide +kernel
theorem dX3_reckonSpan_60 : decode cX3_reckonSpan 60 = .ok (.aload_n 3, 1) := by decide +kernel
theorem dX3_reckonSpan_61 : decode cX3_reckonSpan 61 = .ok (.getfield 43, 3) := by decide +kernel
theorem dX3_reckonSpan_64 : decode cX3_reckonSpan 64 = .ok (.iconst 1, 1) := by decide +kernel
theorem dX3_reckonSpan_65 : decode cX3_reckonSpan 65 = .ok (.iaload, 1) := by decide +kernel
theorem dX3_reckonSpan_66 : decode cX3_reckonSpan 66 = .ok (.i2l, 1) := by decide +kernel
theorem dX3_reckonSpan_67 : decode cX3_reckonSpan 67 = .ok (.lmul, 1) := by decide +kernel
theorem dX3_reckonSpan_68 : decode cX3_reckonSpan 68 = .ok (.ldc2_w 50, 3) := by decide +kernel
theorem dX3_reckonSpan_71 : decode cX3_reckonSpan 71 = .ok (.lmul, 1) := by decide +kernel
theorem dX3_reckonSpan_72 : decode cX3_reckonSpan 72 = .ok (.lstore 11, 2) := by decide +kernel
theorem dX3_reckonSpan_74 : decode cX3_reckonSpan 74 = .ok (.lload 6, 2) := by decide +kernel
theorem dX3_reckonSpan_76 : decode cX3_reckonSpan 76 = .ok (.aload_n 0, 1) := by decide +kernel
theorem dX3_reckonSpan_77 : decode cX3_reckonSpan 77 = .ok (.iload_n 1, 1) := by decide +kernel
theorem dX3_reckonSpan_78 : decode cX3_reckonSpan 78 = .ok (.iload_n 2, 1) := by decide +kernel
theorem dX3_reckonSpan_79 : decode cX3_reckonSpan 79 = .ok (.iload 4, 2) := by decide +kernel
theorem dX3_reckonSpan_81 : decode cX3_reckonSpan 81 = .ok (.invokevirtual 52, 3) := by decide +kernel
theorem dX3_reckonSpan_84 : decode cX3_reckonSpan 84 = .ok (.ladd, 1) := by decide +kernel
theorem dX3_reckonSpan_85 : decode cX3_reckonSpan 85 = .ok (.lload 11, 2) := by decide +kernel
theorem dX3_reckonSpan_87 : decode cX3_reckonSpan 87 = .ok (.ladd, 1) := by decide +kernel
theorem dX3_reckonSpan_88 : decode cX3_reckonSpan 88 = .ok (.lconst 1, 1) := by decide +kernel
theorem dX3_reckonSpan_89 : decode cX3_reckonSpan 89 = .ok (.ladd, 1) := by decide +kernel
theorem dX3_reckonSpan_90 : decode cX3_reckonSpan 90 = .ok (.lstore 9, 2) := by decide +kernel
theorem dX3_reckonSpan_92 : decode cX3_reckonSpan 92 = .ok (.aload_n 0, 1) := by decide +kernel
theorem dX3_reckonSpan_93 : decode cX3_reckonSpan 93 = .ok (.getfield 15, 3) := by decide +kernel
theorem dX3_reckonSpan_96 : decode cX3_reckonSpan 96 = .ok (.iload 5, 2) := by decide +kernel
theorem dX3_reckonSpan_98 : decode cX3_reckonSpan 98 = .ok (.lload 9, 2) := by decide +kernel
theorem dX3_reckonSpan_100 : decode cX3_reckonSpan 100 = .ok (.lastore, 1) := by decide +kernel
theorem dX3_reckonSpan_101 : decode cX3_reckonSpan 101 = .ok (.iconst 1, 1) := by decide +kernel
theorem dX3_reckonSpan_102 : decode cX3_reckonSpan 102 = .ok (.istore 11, 2) := by decide +kernel
theorem dX3_reckonSpan_104 : decode cX3_reckonSpan 104 = .ok (.iload 11, 2) := by decide +kernel
theorem dX3_reckonSpan_106 : decode cX3_reckonSpan 106 = .ok (.iload 4, 2) := by decide +kernel
theorem dX3_reckonSpan_108 : decode cX3_reckonSpan 108 = .ok (.if_icmp .ge 63, 3) := by decide +kernel
theorem dX3_reckonSpan_111 : decode cX3_reckonSpan 111 = .ok (.iload 8, 2) := by decide +kernel
theorem dX3_reckonSpan_113 : decode cX3_reckonSpan 113 = .ok (.ifCond .ne 9, 3) := by decide +kernel
theorem dX3_reckonSpan_116 : decode cX3_reckonSpan 116 = .ok (.iload 11, 2) := by decide +kernel
theorem dX3_reckonSpan_118 : decode cX3_reckonSpan 118 = .ok (.iconst 1, 1) := by decide +kernel
theorem dX3_reckonSpan_119 : decode cX3_reckonSpan 119 = .ok (.if_icmp .ne 7, 3) := by decide +kernel
theorem dX3_reckonSpan_122 : decode cX3_reckonSpan 122 = .ok (.iconst 1, 1) := by decide +kernel
theorem dX3_reckonSpan_123 : decode cX3_reckonSpan 123 = .ok (.goto 4, 3) := by decide +kernel
theorem dX3_reckonSpan_126 : decode cX3_reckonSpan 126 = .ok (.iconst 0, 1) := by decide +kernel
theorem dX3_reckonSpan_127 : decode cX3_reckonSpan 127 = .ok (.istore 12, 2) := by decide +kernel
theorem dX3_reckonSpan_129 : decode cX3_reckonSpan 129 = .ok (.aload_n 0, 1) := by decide +kernel
theorem dX3_reckonSpan_130 : decode cX3_reckonSpan 130 = .ok (.getfield 20, 3) := by decide +kernel
theorem dX3_reckonSpan_133 : decode cX3_reckonSpan 133 = .ok (.iload 11, 2) := by decide +kernel
theorem dX3_reckonSpan_135 : decode cX3_reckonSpan 135 = .ok (.aaload, 1) := by decide +kernel
theorem dX3_reckonSpan_136 : decode cX3_reckonSpan 136 = .ok (.iload 5, 2) := by decide +kernel
theorem dX3_reckonSpan_138 : decode cX3_reckonSpan 138 = .ok (.lload 6, 2) := by decide +kernel
theorem dX3_reckonSpan_140 : decode cX3_reckonSpan 140 = .ok (.iload 12, 2) := by decide +kernel
theorem dX3_reckonSpan_142 : decode cX3_reckonSpan 142 = .ok (.ifCond .eq 8, 3) := by decide +kernel
theorem dX3_reckonSpan_145 : decode cX3_reckonSpan 145 = .ok (.lload 9, 2) := by decide +kernel
theorem dX3_reckonSpan_147 : decode cX3_reckonSpan 147 = .ok (.goto 16, 3) := by decide +kernel
theorem dX3_reckonSpan_150 : decode cX3_reckonSpan 150 = .ok (.lload 9, 2) := by decide +kernel
theorem dX3_reckonSpan_152 : decode cX3_reckonSpan 152 = .ok (.aload_n 0, 1) := by decide +kernel
theorem dX3_reckonSpan_153 : decode cX3_reckonSpan 153 = .ok (.iload_n 1, 1) := by decide +kernel
theorem dX3_reckonSpan_154 : decode cX3_reckonSpan 154 = .ok (.iload_n 2, 1) := by decide +kernel
theorem dX3_reckonSpan_155 : decode cX3_reckonSpan 155 = .ok (.iload 11, 2) := by decide +kernel
theorem dX3_reckonSpan_157 : decode cX3_reckonSpan 157 = .ok (.invokevirtual 52, 3) := by decide +kernel
theorem dX3_reckonSpan_160 : decode cX3_reckonSpan 160 = .ok (.invokestatic 56, 3) := by decide +kernel
theorem dX3_reckonSpan_163 : decode cX3_reckonSpan 163 = .ok (.ladd, 1) := by decide +kernel
theorem dX3_reckonSpan_164 : decode cX3_reckonSpan 164 = .ok (.lastore, 1) := by decide +kernel
theorem dX3_reckonSpan_165 : decode cX3_reckonSpan 165 = .ok (.iinc 11 1, 3) := by decide +kernel
theorem dX3_reckonSpan_168 : decode cX3_reckonSpan 168 = .ok (.goto (-64), 3) := by decide +kernel
theorem dX3_reckonSpan_171 : decode cX3_reckonSpan 171 = .ok (.return_, 1) := by decide +kernel
theorem dX3_lookPay_0 : decode cX3_lookPay 0 = .ok (.aload_n 0, 1) := by decide +kernel
theorem dX3_lookPay_1 : decode cX3_lookPay 1 = .ok (.getfield 11, 3) := by decide +kernel
theorem dX3_lookPay_4 : decode cX3_lookPay 4 = .ok (.iload_n 2, 1) := by decide +kernel
theorem dX3_lookPay_5 : decode cX3_lookPay 5 = .ok (.laload, 1) := by decide +kernel
theorem dX3_lookPay_6 : decode cX3_lookPay 6 = .ok (.aload_n 0, 1) := by decide +kernel
theorem dX3_lookPay_7 : decode cX3_lookPay 7 = .ok (.getfield 11, 3) := by decide +kernel
theorem dX3_lookPay_10 : decode cX3_lookPay 10 = .ok (.iload_n 1, 1) := by decide +kernel
theorem dX3_lookPay_11 : decode cX3_lookPay 11 = .ok (.laload, 1) := by decide +kernel
theorem dX3_lookPay_12 : decode cX3_lookPay 12 = .ok (.lsub, 1) := by decide +kernel
theorem dX3_lookPay_13 : decode cX3_lookPay 13 = .ok (.aload_n 3, 1) := by decide +kernel
theorem dX3_lookPay_14 : decode cX3_lookPay 14 = .ok (.getfield 43, 3) := by decide +kernel
theorem dX3_lookPay_17 : decode cX3_lookPay 17 = .ok (.iconst 0, 1) := by decide +kernel
theorem dX3_lookPay_18 : decode cX3_lookPay 18 = .ok (.iaload, 1) := by decide +kernel
theorem dX3_lookPay_19 : decode cX3_lookPay 19 = .ok (.i2l, 1) := by decide +kernel
theorem dX3_lookPay_20 : decode cX3_lookPay 20 = .ok (.lmul, 1) := by decide +kernel
theorem dX3_lookPay_21 : decode cX3_lookPay 21 = .ok (.ldc2_w 50, 3) := by decide +kernel
theorem dX3_lookPay_24 : decode cX3_lookPay 24 = .ok (.lmul, 1) := by decide +kernel
theorem dX3_lookPay_25 : decode cX3_lookPay 25 = .ok (.lreturn, 1) := by decide +kernel
set_option maxRecDepth 20000 in
theorem ggX3_leastSplit_X3_splitAt : GoodIn wsX3_leastSplit wsX3_splitAt := goodIn_r _ [9, 10, 11, 12, 13, 14, 15, 16] (by decide +kernel) (by decide +kernel)
set_option maxRecDepth 20000 in
theorem gX3_leastSplit_X3_splitAt : GoodIn wsX3_leastSplit (wsV RX3 62 RX3 yX3_splitAt wsX3_splitAt) := goodIn_app (goodIn_of _ (by decide +kernel)) ggX3_leastSplit_X3_splitAt
theorem dX3_leastSplit_0 : decode cX3_leastSplit 0 = .ok (.aload_n 0, 1) := by decide +kernel
theorem dX3_leastSplit_1 : decode cX3_leastSplit 1 = .ok (.iload_n 1, 1) := by decide +kernel
theorem dX3_leastSplit_2 : decode cX3_leastSplit 2 = .ok (.iload_n 1, 1) := by decide +kernel
theorem dX3_leastSplit_3 : decode cX3_leastSplit 3 = .ok (.iconst 1, 1) := by decide +kernel
theorem dX3_leastSplit_4 : decode cX3_leastSplit 4 = .ok (.iadd, 1) := by decide +kernel
theorem dX3_leastSplit_5 : decode cX3_leastSplit 5 = .ok (.iload_n 2, 1) := by decide +kernel
theorem dX3_leastSplit_6 : decode cX3_leastSplit 6 = .ok (.iload_n 3, 1) := by decide +kernel
theorem dX3_leastSplit_7 : decode cX3_leastSplit 7 = .ok (.invokevirtual 62, 3) := by decide +kernel
theorem dX3_leastSplit_10 : decode cX3_leastSplit 10 = .ok (.lstore 4, 2) := by decide +kernel
theorem dX3_leastSplit_12 : decode cX3_leastSplit 12 = .ok (.iload_n 1, 1) := by decide +kernel
theorem dX3_leastSplit_13 : decode cX3_leastSplit 13 = .ok (.iconst 2, 1) := by decide +kernel
theorem dX3_leastSplit_14 : decode cX3_leastSplit 14 = .ok (.iadd, 1) := by decide +kernel
theorem dX3_leastSplit_15 : decode cX3_leastSplit 15 = .ok (.istore 6, 2) := by decide +kernel
theorem dX3_leastSplit_17 : decode cX3_leastSplit 17 = .ok (.iload 6, 2) := by decide +kernel
theorem dX3_leastSplit_19 : decode cX3_leastSplit 19 = .ok (.iload_n 2, 1) := by decide +kernel
theorem dX3_leastSplit_20 : decode cX3_leastSplit 20 = .ok (.if_icmp .ge 25, 3) := by decide +kernel
theorem dX3_leastSplit_23 : decode cX3_leastSplit 23 = .ok (.lload 4, 2) := by decide +kernel
theorem dX3_leastSplit_25 : decode cX3_leastSplit 25 = .ok (.aload_n 0, 1) := by decide +kernel
theorem dX3_leastSplit_26 : decode cX3_leastSplit 26 = .ok (.iload_n 1, 1) := by decide +kernel
theorem dX3_leastSplit_27 : decode cX3_leastSplit 27 = .ok (.iload 6, 2) := by decide +kernel
theorem dX3_leastSplit_29 : decode cX3_leastSplit 29 = .ok (.iload_n 2, 1) := by decide +kernel
theorem dX3_leastSplit_30 : decode cX3_leastSplit 30 = .ok (.iload_n 3, 1) := by decide +kernel
theorem dX3_leastSplit_31 : decode cX3_leastSplit 31 = .ok (.invokevirtual 62, 3) := by decide +kernel
theorem dX3_leastSplit_34 : decode cX3_leastSplit 34 = .ok (.invokestatic 56, 3) := by decide +kernel
theorem dX3_leastSplit_37 : decode cX3_leastSplit 37 = .ok (.lstore 4, 2) := by decide +kernel
theorem dX3_leastSplit_39 : decode cX3_leastSplit 39 = .ok (.iinc 6 1, 3) := by decide +kernel
theorem dX3_leastSplit_42 : decode cX3_leastSplit 42 = .ok (.goto (-25), 3) := by decide +kernel
theorem dX3_leastSplit_45 : decode cX3_leastSplit 45 = .ok (.lload 4, 2) := by decide +kernel
theorem dX3_leastSplit_47 : decode cX3_leastSplit 47 = .ok (.lreturn, 1) := by decide +kernel
theorem dX3_splitAt_0 : decode cX3_splitAt 0 = .ok (.aload_n 0, 1) := by decide +kernel
theorem dX3_splitAt_1 : decode cX3_splitAt 1 = .ok (.getfield 15, 3) := by decide +kernel
theorem dX3_splitAt_4 : decode cX3_splitAt 4 = .ok (.iload_n 1, 1) := by decide +kernel
theorem dX3_splitAt_5 : decode cX3_splitAt 5 = .ok (.bipush 41, 2) := by decide +kernel
theorem dX3_splitAt_7 : decode cX3_splitAt 7 = .ok (.imul, 1) := by decide +kernel
theorem dX3_splitAt_8 : decode cX3_splitAt 8 = .ok (.iload_n 2, 1) := by decide +kernel
theorem dX3_splitAt_9 : decode cX3_splitAt 9 = .ok (.iadd, 1) := by decide +kernel
theorem dX3_splitAt_10 : decode cX3_splitAt 10 = .ok (.laload, 1) := by decide +kernel
theorem dX3_splitAt_11 : decode cX3_splitAt 11 = .ok (.aload_n 0, 1) := by decide +kernel
theorem dX3_splitAt_12 : decode cX3_splitAt 12 = .ok (.getfield 20, 3) := by decide +kernel
theorem dX3_splitAt_15 : decode cX3_splitAt 15 = .ok (.iload 4, 2) := by decide +kernel
theorem dX3_splitAt_17 : decode cX3_splitAt 17 = .ok (.iconst 1, 1) := by decide +kernel
theorem dX3_splitAt_18 : decode cX3_splitAt 18 = .ok (.isub, 1) := by decide +kernel
theorem dX3_splitAt_19 : decode cX3_splitAt 19 = .ok (.aaload, 1) := by decide +kernel
theorem dX3_splitAt_20 : decode cX3_splitAt 20 = .ok (.iload_n 2, 1) := by decide +kernel
theorem dX3_splitAt_21 : decode cX3_splitAt 21 = .ok (.bipush 41, 2) := by decide +kernel
theorem dX3_splitAt_23 : decode cX3_splitAt 23 = .ok (.imul, 1) := by decide +kernel
theorem dX3_splitAt_24 : decode cX3_splitAt 24 = .ok (.iload_n 3, 1) := by decide +kernel
theorem dX3_splitAt_25 : decode cX3_splitAt 25 = .ok (.iadd, 1) := by decide +kernel
theorem dX3_splitAt_26 : decode cX3_splitAt 26 = .ok (.laload, 1) := by decide +kernel
theorem dX3_splitAt_27 : decode cX3_splitAt 27 = .ok (.ladd, 1) := by decide +kernel
theorem dX3_splitAt_28 : decode cX3_splitAt 28 = .ok (.lreturn, 1) := by decide +kernel
set_option maxRecDepth 20000 in
theorem ggX3_build_X5_begin : GoodIn wsX3_build wsX5_begin := goodIn_r _ [9, 10, 11, 12, 13, 72, 73, 74, 75, 76, 77, 78, 79] (by decide +kernel) (by decide +kernel)
set_option maxRecDepth 20000 in
theorem gX3_build_X5_begin : GoodIn wsX3_build (wsV RX3 66 RX5 yX5_begin wsX5_begin) := goodIn_app (goodIn_of _ (by decide +kernel)) ggX3_build_X5_begin
set_option maxRecDepth 20000 in
theorem ggX3_build_X3_splitList : GoodIn wsX3_build wsX3_splitList := goodIn_r _ [18, 1, 2, 19, 20, 21, 22, 17, 23, 24, 25, 26, 27, 28, 29, 30, 31, 32, 33, 34, 35, 36, 37, 38, 39, 40, 41, 42, 43, 44, 45, 46, 47, 48, 49, 50, 8, 51, 52, 53, 11, 54, 55, 56, 57, 58, 59, 60, 61, 62, 10, 12, 13, 63, 64, 65, 66, 67, 68, 69, 70, 71, 72, 73, 74, 75, 76, 77, 78, 79] (by decide +kernel) (by decide +kernel)
set_option maxRecDepth 20000 in
theorem gX3_build_X3_splitList : GoodIn wsX3_build (wsV RX3 74 RX3 yX3_splitList wsX3_splitList) := goodIn_app (goodIn_of _ (by decide +kernel)) ggX3_build_X3_splitList
theorem dX3_build_0 : decode cX3_build 0 = .ok (.aload_n 2, 1) := by decide +kernel
theorem dX3_build_1 : decode cX3_build 1 = .ok (.invokevirtual 66, 3) := by decide +kernel
theorem dX3_build_4 : decode cX3_build 4 = .ok (.aload_n 0, 1) := by decide +kernel
theorem dX3_build_5 : decode cX3_build 5 = .ok (.getfield 23, 3) := by decide +kernel
theorem dX3_build_8 : decode cX3_build 8 = .ok (.iconst 0, 1) := by decide +kernel
theorem dX3_build_9 : decode cX3_build 9 = .ok (.iconst 0, 1) := by decide +kernel
theorem dX3_build_10 : decode cX3_build 10 = .ok (.iastore, 1) := by decide +kernel
theorem dX3_build_11 : decode cX3_build 11 = .ok (.aload_n 0, 1) := by decide +kernel
theorem dX3_build_12 : decode cX3_build 12 = .ok (.getfield 27, 3) := by decide +kernel
theorem dX3_build_15 : decode cX3_build 15 = .ok (.iconst 0, 1) := by decide +kernel
theorem dX3_build_16 : decode cX3_build 16 = .ok (.aload_n 1, 1) := by decide +kernel
theorem dX3_build_17 : decode cX3_build 17 = .ok (.getfield 30, 3) := by decide +kernel
theorem dX3_build_20 : decode cX3_build 20 = .ok (.iastore, 1) := by decide +kernel
theorem dX3_build_21 : decode cX3_build 21 = .ok (.iconst 0, 1) := by decide +kernel
theorem dX3_build_22 : decode cX3_build 22 = .ok (.istore_n 3, 1) := by decide +kernel
theorem dX3_build_23 : decode cX3_build 23 = .ok (.iload_n 3, 1) := by decide +kernel
theorem dX3_build_24 : decode cX3_build 24 = .ok (.aload_n 2, 1) := by decide +kernel
theorem dX3_build_25 : decode cX3_build 25 = .ok (.getfield 71, 3) := by decide +kernel
theorem dX3_build_28 : decode cX3_build 28 = .ok (.if_icmp .ge 22, 3) := by decide +kernel
theorem dX3_build_31 : decode cX3_build 31 = .ok (.iload_n 3, 1) := by decide +kernel
theorem dX3_build_32 : decode cX3_build 32 = .ok (.bipush 40, 2) := by decide +kernel
theorem dX3_build_34 : decode cX3_build 34 = .ok (.if_icmp .ge 16, 3) := by decide +kernel
theorem dX3_build_37 : decode cX3_build 37 = .ok (.aload_n 0, 1) := by decide +kernel
theorem dX3_build_38 : decode cX3_build 38 = .ok (.iload_n 3, 1) := by decide +kernel
theorem dX3_build_39 : decode cX3_build 39 = .ok (.aload_n 1, 1) := by decide +kernel
theorem dX3_build_40 : decode cX3_build 40 = .ok (.aload_n 2, 1) := by decide +kernel
theorem dX3_build_41 : decode cX3_build 41 = .ok (.invokevirtual 74, 3) := by decide +kernel
theorem dX3_build_44 : decode cX3_build 44 = .ok (.iinc 3 1, 3) := by decide +kernel
theorem dX3_build_47 : decode cX3_build 47 = .ok (.goto (-24), 3) := by decide +kernel
theorem dX3_build_50 : decode cX3_build 50 = .ok (.return_, 1) := by decide +kernel
set_option maxRecDepth 20000 in
theorem ggX3_splitList_X3_firstCut : GoodIn wsX3_splitList wsX3_firstCut := goodIn_r _ [8, 9, 10, 11, 12, 7, 13, 14, 15, 16, 17, 18, 19, 20, 21, 22, 23, 24, 25, 26, 27, 3, 28, 53, 54, 55, 56, 57, 58, 59, 60, 61] (by decide +kernel) (by decide +kernel)
set_option maxRecDepth 20000 in
theorem gX3_splitList_X3_firstCut : GoodIn wsX3_splitList (wsV RX3 78 RX3 yX3_firstCut wsX3_firstCut) := goodIn_app (goodIn_of _ (by decide +kernel)) ggX3_splitList_X3_firstCut
set_option maxRecDepth 20000 in
theorem ggX3_splitList_X3_addSpan : GoodIn wsX3_splitList wsX3_addSpan := goodIn_r _ [32, 1, 2, 33, 34, 35, 36, 37, 38, 39, 40, 41, 42, 43, 44, 45, 46, 47, 48, 49, 50, 51, 52, 53, 54, 55, 56, 57, 62, 63, 64, 65, 66, 67, 68, 69] (by decide +kernel) (by decide +kernel)
set_option maxRecDepth 20000 in
theorem gX3_splitList_X3_addSpan : GoodIn wsX3_splitList (wsV RX3 82 RX3 yX3_addSpan wsX3_addSpan) := goodIn_app (goodIn_of _ (by decide +kernel)) ggX3_splitList_X3_addSpan
theorem dX3_splitList_0 : decode cX3_splitList 0 = .ok (.aload_n 0, 1) := by decide +kernel
theorem dX3_splitList_1 : decode cX3_splitList 1 = .ok (.getfield 23, 3) := by decide +kernel
theorem dX3_splitList_4 : decode cX3_splitList 4 = .ok (.iload_n 1, 1) := by decide +kernel
theorem dX3_splitList_5 : decode cX3_splitList 5 = .ok (.iaload, 1) := by decide +kernel
theorem dX3_splitList_6 : decode cX3_splitList 6 = .ok (.istore 4, 2) := by decide +kernel
theorem dX3_splitList_8 : decode cX3_splitList 8 = .ok (.aload_n 0, 1) := by decide +kernel
theorem dX3_splitList_9 : decode cX3_splitList 9 = .ok (.getfield 27, 3) := by decide +kernel
theorem dX3_splitList_12 : decode cX3_splitList 12 = .ok (.iload_n 1, 1) := by decide +kernel
theorem dX3_splitList_13 : decode cX3_splitList 13 = .ok (.iaload, 1) := by decide +kernel
theorem dX3_splitList_14 : decode cX3_splitList 14 = .ok (.istore 5, 2) := by decide +kernel
theorem dX3_splitList_16 : decode cX3_splitList 16 = .ok (.aload_n 2, 1) := by decide +kernel
theorem dX3_splitList_17 : decode cX3_splitList 17 = .ok (.getfield 43, 3) := by decide +kernel
theorem dX3_splitList_20 : decode cX3_splitList 20 = .ok (.iconst 2, 1) := by decide +kernel
theorem dX3_splitList_21 : decode cX3_splitList 21 = .ok (.iaload, 1) := by decide +kernel
theorem dX3_splitList_22 : decode cX3_splitList 22 = .ok (.istore 6, 2) := by decide +kernel
theorem dX3_splitList_24 : decode cX3_splitList 24 = .ok (.iload 6, 2) := by decide +kernel
theorem dX3_splitList_26 : decode cX3_splitList 26 = .ok (.istore 7, 2) := by decide +kernel
theorem dX3_splitList_28 : decode cX3_splitList 28 = .ok (.iload 7, 2) := by decide +kernel
theorem dX3_splitList_30 : decode cX3_splitList 30 = .ok (.ifCond .le 74, 3) := by decide +kernel
theorem dX3_splitList_33 : decode cX3_splitList 33 = .ok (.iload 4, 2) := by decide +kernel
theorem dX3_splitList_35 : decode cX3_splitList 35 = .ok (.iload 5, 2) := by decide +kernel
theorem dX3_splitList_37 : decode cX3_splitList 37 = .ok (.if_icmp .ge 67, 3) := by decide +kernel
theorem dX3_splitList_40 : decode cX3_splitList 40 = .ok (.iload 5, 2) := by decide +kernel
theorem dX3_splitList_42 : decode cX3_splitList 42 = .ok (.istore 8, 2) := by decide +kernel
theorem dX3_splitList_44 : decode cX3_splitList 44 = .ok (.iload 7, 2) := by decide +kernel
theorem dX3_splitList_46 : decode cX3_splitList 46 = .ok (.iconst 1, 1) := by decide +kernel
theorem dX3_splitList_47 : decode cX3_splitList 47 = .ok (.if_icmp .le 37, 3) := by decide +kernel
theorem dX3_splitList_50 : decode cX3_splitList 50 = .ok (.iload 5, 2) := by decide +kernel
theorem dX3_splitList_52 : decode cX3_splitList 52 = .ok (.iload 4, 2) := by decide +kernel
theorem dX3_splitList_54 : decode cX3_splitList 54 = .ok (.isub, 1) := by decide +kernel
theorem dX3_splitList_55 : decode cX3_splitList 55 = .ok (.iconst 1, 1) := by decide +kernel
theorem dX3_splitList_56 : decode cX3_splitList 56 = .ok (.if_icmp .le 28, 3) := by decide +kernel
theorem dX3_splitList_59 : decode cX3_splitList 59 = .ok (.aload_n 0, 1) := by decide +kernel
theorem dX3_splitList_60 : decode cX3_splitList 60 = .ok (.iload 4, 2) := by decide +kernel
theorem dX3_splitList_62 : decode cX3_splitList 62 = .ok (.iload 5, 2) := by decide +kernel
theorem dX3_splitList_64 : decode cX3_splitList 64 = .ok (.iload 7, 2) := by decide +kernel
theorem dX3_splitList_66 : decode cX3_splitList 66 = .ok (.iload 7, 2) := by decide +kernel
theorem dX3_splitList_68 : decode cX3_splitList 68 = .ok (.iload 6, 2) := by decide +kernel
theorem dX3_splitList_70 : decode cX3_splitList 70 = .ok (.if_icmp .ne 7, 3) := by decide +kernel
theorem dX3_splitList_73 : decode cX3_splitList 73 = .ok (.iconst 1, 1) := by decide +kernel
theorem dX3_splitList_74 : decode cX3_splitList 74 = .ok (.goto 4, 3) := by decide +kernel
theorem dX3_splitList_77 : decode cX3_splitList 77 = .ok (.iconst 0, 1) := by decide +kernel
theorem dX3_splitList_78 : decode cX3_splitList 78 = .ok (.aload_n 2, 1) := by decide +kernel
theorem dX3_splitList_79 : decode cX3_splitList 79 = .ok (.invokevirtual 78, 3) := by decide +kernel
theorem dX3_splitList_82 : decode cX3_splitList 82 = .ok (.istore 8, 2) := by decide +kernel
theorem dX3_splitList_84 : decode cX3_splitList 84 = .ok (.aload_n 0, 1) := by decide +kernel
theorem dX3_splitList_85 : decode cX3_splitList 85 = .ok (.iload_n 1, 1) := by decide +kernel
theorem dX3_splitList_86 : decode cX3_splitList 86 = .ok (.iload 4, 2) := by decide +kernel
theorem dX3_splitList_88 : decode cX3_splitList 88 = .ok (.iload 8, 2) := by decide +kernel
theorem dX3_splitList_90 : decode cX3_splitList 90 = .ok (.aload_n 3, 1) := by decide +kernel
theorem dX3_splitList_91 : decode cX3_splitList 91 = .ok (.invokevirtual 82, 3) := by decide +kernel
theorem dX3_splitList_94 : decode cX3_splitList 94 = .ok (.iload 8, 2) := by decide +kernel
theorem dX3_splitList_96 : decode cX3_splitList 96 = .ok (.istore 4, 2) := by decide +kernel
theorem dX3_splitList_98 : decode cX3_splitList 98 = .ok (.iinc 7 (-1), 3) := by decide +kernel
theorem dX3_splitList_101 : decode cX3_splitList 101 = .ok (.goto (-73), 3) := by decide +kernel
theorem dX3_splitList_104 : decode cX3_splitList 104 = .ok (.return_, 1) := by decide +kernel
set_option maxRecDepth 20000 in
theorem ggX3_firstCut_X3_leastSplit : GoodIn wsX3_firstCut wsX3_leastSplit := goodIn_r _ [6, 7, 8, 9, 10, 11, 12, 13, 5, 14, 15, 1, 23, 24, 25, 26, 27] (by decide +kernel) (by decide +kernel)
set_option maxRecDepth 20000 in
theorem gX3_firstCut_X3_leastSplit : GoodIn wsX3_firstCut (wsV RX3 52 RX3 yX3_leastSplit wsX3_leastSplit) := goodIn_app (goodIn_of _ (by decide +kernel)) ggX3_firstCut_X3_leastSplit
set_option maxRecDepth 20000 in
theorem ggX3_firstCut_X3_lookPay : GoodIn wsX3_firstCut wsX3_lookPay := goodIn_r _ [19, 20, 21, 22, 23, 24, 25, 26, 27, 28, 29, 30, 31] (by decide +kernel) (by decide +kernel)
set_option maxRecDepth 20000 in
theorem gX3_firstCut_X3_lookPay : GoodIn wsX3_firstCut (wsV RX3 46 RX3 yX3_lookPay wsX3_lookPay) := goodIn_app (goodIn_of _ (by decide +kernel)) ggX3_firstCut_X3_lookPay
set_option maxRecDepth 20000 in
theorem ggX3_firstCut_X3_splitAt : GoodIn wsX3_firstCut wsX3_splitAt := goodIn_r _ [14, 15, 1, 23, 24, 25, 26, 27] (by decide +kernel) (by decide +kernel)
set_option maxRecDepth 20000 in
theorem gX3_firstCut_X3_splitAt : GoodIn wsX3_firstCut (wsV RX3 62 RX3 yX3_splitAt wsX3_splitAt) := goodIn_app (goodIn_of _ (by decide +kernel)) ggX3_firstCut_X3_splitAt
theorem dX3_firstCut_0 : decode cX3_firstCut 0 = .ok (.iload 4, 2) := by decide +kernel
theorem dX3_firstCut_2 : decode cX3_firstCut 2 = .ok (.ifCond .eq 13, 3) := by decide +kernel
theorem dX3_firstCut_5 : decode cX3_firstCut 5 = .ok (.aload_n 0, 1) := by decide +kernel
theorem dX3_firstCut_6 : decode cX3_firstCut 6 = .ok (.iload_n 1, 1) := by decide +kernel
theorem dX3_firstCut_7 : decode cX3_firstCut 7 = .ok (.iload_n 2, 1) := by decide +kernel
theorem dX3_firstCut_8 : decode cX3_firstCut 8 = .ok (.iload_n 3, 1) := by decide +kernel
theorem dX3_firstCut_9 : decode cX3_firstCut 9 = .ok (.invokevirtual 52, 3) := by decide +kernel
theorem dX3_firstCut_12 : decode cX3_firstCut 12 = .ok (.goto 25, 3) := by decide +kernel
theorem dX3_firstCut_15 : decode cX3_firstCut 15 = .ok (.aload_n 0, 1) := by decide +kernel
theorem dX3_firstCut_16 : decode cX3_firstCut 16 = .ok (.getfield 20, 3) := by decide +kernel
theorem dX3_firstCut_19 : decode cX3_firstCut 19 = .ok (.iload_n 3, 1) := by decide +kernel
theorem dX3_firstCut_20 : decode cX3_firstCut 20 = .ok (.aaload, 1) := by decide +kernel
theorem dX3_firstCut_21 : decode cX3_firstCut 21 = .ok (.iload_n 1, 1) := by decide +kernel
theorem dX3_firstCut_22 : decode cX3_firstCut 22 = .ok (.bipush 41, 2) := by decide +kernel
theorem dX3_firstCut_24 : decode cX3_firstCut 24 = .ok (.imul, 1) := by decide +kernel
theorem dX3_firstCut_25 : decode cX3_firstCut 25 = .ok (.iload_n 2, 1) := by decide +kernel
theorem dX3_firstCut_26 : decode cX3_firstCut 26 = .ok (.iadd, 1) := by decide +kernel
theorem dX3_firstCut_27 : decode cX3_firstCut 27 = .ok (.laload, 1) := by decide +kernel
theorem dX3_firstCut_28 : decode cX3_firstCut 28 = .ok (.aload_n 0, 1) := by decide +kernel
theorem dX3_firstCut_29 : decode cX3_firstCut 29 = .ok (.iload_n 1, 1) := by decide +kernel
theorem dX3_firstCut_30 : decode cX3_firstCut 30 = .ok (.iload_n 2, 1) := by decide +kernel
theorem dX3_firstCut_31 : decode cX3_firstCut 31 = .ok (.aload 5, 2) := by decide +kernel
theorem dX3_firstCut_33 : decode cX3_firstCut 33 = .ok (.invokevirtual 46, 3) := by decide +kernel
theorem dX3_firstCut_36 : decode cX3_firstCut 36 = .ok (.lsub, 1) := by decide +kernel
theorem dX3_firstCut_37 : decode cX3_firstCut 37 = .ok (.lstore 6, 2) := by decide +kernel
theorem dX3_firstCut_39 : decode cX3_firstCut 39 = .ok (.iload_n 1, 1) := by decide +kernel
theorem dX3_firstCut_40 : decode cX3_firstCut 40 = .ok (.iconst 1, 1) := by decide +kernel
theorem dX3_firstCut_41 : decode cX3_firstCut 41 = .ok (.iadd, 1) := by decide +kernel
theorem dX3_firstCut_42 : decode cX3_firstCut 42 = .ok (.istore 8, 2) := by decide +kernel
theorem dX3_firstCut_44 : decode cX3_firstCut 44 = .ok (.iload 8, 2) := by decide +kernel
theorem dX3_firstCut_46 : decode cX3_firstCut 46 = .ok (.iload_n 2, 1) := by decide +kernel
theorem dX3_firstCut_47 : decode cX3_firstCut 47 = .ok (.if_icmp .ge 27, 3) := by decide +kernel
theorem dX3_firstCut_50 : decode cX3_firstCut 50 = .ok (.aload_n 0, 1) := by decide +kernel
theorem dX3_firstCut_51 : decode cX3_firstCut 51 = .ok (.iload_n 1, 1) := by decide +kernel
theorem dX3_firstCut_52 : decode cX3_firstCut 52 = .ok (.iload 8, 2) := by decide +kernel
theorem dX3_firstCut_54 : decode cX3_firstCut 54 = .ok (.iload_n 2, 1) := by decide +kernel
theorem dX3_firstCut_55 : decode cX3_firstCut 55 = .ok (.iload_n 3, 1) := by decide +kernel
theorem dX3_firstCut_56 : decode cX3_firstCut 56 = .ok (.invokevirtual 62, 3) := by decide +kernel
theorem dX3_firstCut_59 : decode cX3_firstCut 59 = .ok (.lload 6, 2) := by decide +kernel
theorem dX3_firstCut_61 : decode cX3_firstCut 61 = .ok (.lcmp, 1) := by decide +kernel
theorem dX3_firstCut_62 : decode cX3_firstCut 62 = .ok (.ifCond .ne 6, 3) := by decide +kernel
theorem dX3_firstCut_65 : decode cX3_firstCut 65 = .ok (.iload 8, 2) := by decide +kernel
theorem dX3_firstCut_67 : decode cX3_firstCut 67 = .ok (.ireturn, 1) := by decide +kernel
theorem dX3_firstCut_68 : decode cX3_firstCut 68 = .ok (.iinc 8 1, 3) := by decide +kernel
theorem dX3_firstCut_71 : decode cX3_firstCut 71 = .ok (.goto (-27), 3) := by decide +kernel
theorem dX3_firstCut_74 : decode cX3_firstCut 74 = .ok (.iload_n 2, 1) := by decide +kernel
theorem dX3_firstCut_75 : decode cX3_firstCut 75 = .ok (.ireturn, 1) := by decide +kernel
set_option maxRecDepth 20000 in
theorem ggX3_addSpan_X5_addCommand : GoodIn wsX3_addSpan wsX5_addCommand := goodIn_r _ [7, 8, 9, 10, 11, 12, 13, 6, 14, 15, 28, 29, 30, 31, 32, 33, 34, 35] (by decide +kernel) (by decide +kernel)
set_option maxRecDepth 20000 in
theorem gX3_addSpan_X5_addCommand : GoodIn wsX3_addSpan (wsV RX3 86 RX5 yX5_addCommand wsX5_addCommand) := goodIn_app (goodIn_of _ (by decide +kernel)) ggX3_addSpan_X5_addCommand
set_option maxRecDepth 20000 in
theorem ggX3_addSpan_X5_addMenu : GoodIn wsX3_addSpan wsX5_addMenu := goodIn_r _ [19, 20, 10, 21, 22, 11, 12, 13, 6, 14, 15, 28, 29, 30, 31, 32, 33, 34, 35] (by decide +kernel) (by decide +kernel)
set_option maxRecDepth 20000 in
theorem gX3_addSpan_X5_addMenu : GoodIn wsX3_addSpan (wsV RX3 90 RX5 yX5_addMenu wsX5_addMenu) := goodIn_app (goodIn_of _ (by decide +kernel)) ggX3_addSpan_X5_addMenu
theorem dX3_addSpan_0 : decode cX3_addSpan 0 = .ok (.iload_n 3, 1) := by decide +kernel
theorem dX3_addSpan_1 : decode cX3_addSpan 1 = .ok (.iload_n 2, 1) := by decide +kernel
theorem dX3_addSpan_2 : decode cX3_addSpan 2 = .ok (.isub, 1) := by decide +kernel
theorem dX3_addSpan_3 : decode cX3_addSpan 3 = .ok (.iconst 1, 1) := by decide +kernel
theorem dX3_addSpan_4 : decode cX3_addSpan 4 = .ok (.if_icmp .ne 12, 3) := by decide +kernel
theorem dX3_addSpan_7 : decode cX3_addSpan 7 = .ok (.aload 4, 2) := by decide +kernel
theorem dX3_addSpan_9 : decode cX3_addSpan 9 = .ok (.iload_n 1, 1) := by decide +kernel
theorem dX3_addSpan_10 : decode cX3_addSpan 10 = .ok (.iload_n 2, 1) := by decide +kernel
theorem dX3_addSpan_11 : decode cX3_addSpan 11 = .ok (.invokevirtual 86, 3) := by decide +kernel
theorem dX3_addSpan_14 : decode cX3_addSpan 14 = .ok (.pop, 1) := by decide +kernel
theorem dX3_addSpan_15 : decode cX3_addSpan 15 = .ok (.return_, 1) := by decide +kernel
theorem dX3_addSpan_16 : decode cX3_addSpan 16 = .ok (.aload 4, 2) := by decide +kernel
theorem dX3_addSpan_18 : decode cX3_addSpan 18 = .ok (.iload_n 1, 1) := by decide +kernel
theorem dX3_addSpan_19 : decode cX3_addSpan 19 = .ok (.invokevirtual 90, 3) := by decide +kernel
theorem dX3_addSpan_22 : decode cX3_addSpan 22 = .ok (.istore 5, 2) := by decide +kernel
theorem dX3_addSpan_24 : decode cX3_addSpan 24 = .ok (.iload 5, 2) := by decide +kernel
theorem dX3_addSpan_26 : decode cX3_addSpan 26 = .ok (.iconst (-1), 1) := by decide +kernel
theorem dX3_addSpan_27 : decode cX3_addSpan 27 = .ok (.if_icmp .eq 26, 3) := by decide +kernel
theorem dX3_addSpan_30 : decode cX3_addSpan 30 = .ok (.iload 5, 2) := by decide +kernel
theorem dX3_addSpan_32 : decode cX3_addSpan 32 = .ok (.bipush 40, 2) := by decide +kernel
theorem dX3_addSpan_34 : decode cX3_addSpan 34 = .ok (.if_icmp .ge 19, 3) := by decide +kernel
theorem dX3_addSpan_37 : decode cX3_addSpan 37 = .ok (.aload_n 0, 1) := by decide +kernel
theorem dX3_addSpan_38 : decode cX3_addSpan 38 = .ok (.getfield 23, 3) := by decide +kernel
theorem dX3_addSpan_41 : decode cX3_addSpan 41 = .ok (.iload 5, 2) := by decide +kernel
theorem dX3_addSpan_43 : decode cX3_addSpan 43 = .ok (.iload_n 2, 1) := by decide +kernel
theorem dX3_addSpan_44 : decode cX3_addSpan 44 = .ok (.iastore, 1) := by decide +kernel
theorem dX3_addSpan_45 : decode cX3_addSpan 45 = .ok (.aload_n 0, 1) := by decide +kernel
theorem dX3_addSpan_46 : decode cX3_addSpan 46 = .ok (.getfield 27, 3) := by decide +kernel
theorem dX3_addSpan_49 : decode cX3_addSpan 49 = .ok (.iload 5, 2) := by decide +kernel
theorem dX3_addSpan_51 : decode cX3_addSpan 51 = .ok (.iload_n 3, 1) := by decide +kernel
theorem dX3_addSpan_52 : decode cX3_addSpan 52 = .ok (.iastore, 1) := by decide +kernel
theorem dX3_addSpan_53 : decode cX3_addSpan 53 = .ok (.return_, 1) := by decide +kernel
theorem dX4_init_0 : decode cX4_init 0 = .ok (.aload_n 0, 1) := by decide +kernel
theorem dX4_init_1 : decode cX4_init 1 = .ok (.invokespecial 3, 3) := by decide +kernel
theorem dX4_init_4 : decode cX4_init 4 = .ok (.aload_n 0, 1) := by decide +kernel
theorem dX4_init_5 : decode cX4_init 5 = .ok (.sipush 1024, 3) := by decide +kernel
theorem dX4_init_8 : decode cX4_init 8 = .ok (.newarray .long, 2) := by decide +kernel
theorem dX4_init_10 : decode cX4_init 10 = .ok (.putfield 11, 3) := by decide +kernel
theorem dX4_init_13 : decode cX4_init 13 = .ok (.aload_n 0, 1) := by decide +kernel
theorem dX4_init_14 : decode cX4_init 14 = .ok (.sipush 1024, 3) := by decide +kernel
theorem dX4_init_17 : decode cX4_init 17 = .ok (.newarray .long, 2) := by decide +kernel
theorem dX4_init_19 : decode cX4_init 19 = .ok (.putfield 15, 3) := by decide +kernel
theorem dX4_init_22 : decode cX4_init 22 = .ok (.aload_n 0, 1) := by decide +kernel
theorem dX4_init_23 : decode cX4_init 23 = .ok (.bipush 9, 2) := by decide +kernel
theorem dX4_init_25 : decode cX4_init 25 = .ok (.sipush 1024, 3) := by decide +kernel
theorem dX4_init_28 : decode cX4_init 28 = .ok (.multianewarray 18 2, 4) := by decide +kernel
theorem dX4_init_32 : decode cX4_init 32 = .ok (.putfield 20, 3) := by decide +kernel
theorem dX4_init_35 : decode cX4_init 35 = .ok (.aload_n 0, 1) := by decide +kernel
theorem dX4_init_36 : decode cX4_init 36 = .ok (.bipush 10, 2) := by decide +kernel
theorem dX4_init_38 : decode cX4_init 38 = .ok (.newarray .long, 2) := by decide +kernel
theorem dX4_init_40 : decode cX4_init 40 = .ok (.putfield 23, 3) := by decide +kernel
theorem dX4_init_43 : decode cX4_init 43 = .ok (.return_, 1) := by decide +kernel
set_option maxRecDepth 20000 in
theorem ggX4_leastCost_X4_reckonGroup : GoodIn wsX4_leastCost wsX4_reckonGroup := goodIn_r _ [6, 7, 8, 9, 10, 11, 12, 13, 14, 15, 16, 17, 18, 19, 20, 21, 22, 23, 24, 25, 26, 27, 28, 29, 30, 31, 32, 33, 5, 34, 35, 36, 37, 38, 39, 40, 41, 42, 43, 44, 45, 46, 47] (by decide +kernel) (by decide +kernel)
set_option maxRecDepth 20000 in
theorem gX4_leastCost_X4_reckonGroup : GoodIn wsX4_leastCost (wsV RX4 32 RX4 yX4_reckonGroup wsX4_reckonGroup) := goodIn_app (goodIn_of _ (by decide +kernel)) ggX4_leastCost_X4_reckonGroup
theorem dX4_leastCost_0 : decode cX4_leastCost 0 = .ok (.lconst 0, 1) := by decide +kernel
theorem dX4_leastCost_1 : decode cX4_leastCost 1 = .ok (.lstore_n 2, 1) := by decide +kernel
theorem dX4_leastCost_2 : decode cX4_leastCost 2 = .ok (.iconst 1, 1) := by decide +kernel
theorem dX4_leastCost_3 : decode cX4_leastCost 3 = .ok (.istore 4, 2) := by decide +kernel
theorem dX4_leastCost_5 : decode cX4_leastCost 5 = .ok (.iload 4, 2) := by decide +kernel
theorem dX4_leastCost_7 : decode cX4_leastCost 7 = .ok (.iconst 1, 1) := by decide +kernel
theorem dX4_leastCost_8 : decode cX4_leastCost 8 = .ok (.aload_n 1, 1) := by decide +kernel
theorem dX4_leastCost_9 : decode cX4_leastCost 9 = .ok (.getfield 26, 3) := by decide +kernel
theorem dX4_leastCost_12 : decode cX4_leastCost 12 = .ok (.ishl, 1) := by decide +kernel
theorem dX4_leastCost_13 : decode cX4_leastCost 13 = .ok (.if_icmp .ge 25, 3) := by decide +kernel
theorem dX4_leastCost_16 : decode cX4_leastCost 16 = .ok (.iload 4, 2) := by decide +kernel
theorem dX4_leastCost_18 : decode cX4_leastCost 18 = .ok (.sipush 1024, 3) := by decide +kernel
theorem dX4_leastCost_21 : decode cX4_leastCost 21 = .ok (.if_icmp .ge 17, 3) := by decide +kernel
theorem dX4_leastCost_24 : decode cX4_leastCost 24 = .ok (.aload_n 0, 1) := by decide +kernel
theorem dX4_leastCost_25 : decode cX4_leastCost 25 = .ok (.iload 4, 2) := by decide +kernel
theorem dX4_leastCost_27 : decode cX4_leastCost 27 = .ok (.aload_n 1, 1) := by decide +kernel
theorem dX4_leastCost_28 : decode cX4_leastCost 28 = .ok (.invokevirtual 32, 3) := by decide +kernel
theorem dX4_leastCost_31 : decode cX4_leastCost 31 = .ok (.lstore_n 2, 1) := by decide +kernel
theorem dX4_leastCost_32 : decode cX4_leastCost 32 = .ok (.iinc 4 1, 3) := by decide +kernel
theorem dX4_leastCost_35 : decode cX4_leastCost 35 = .ok (.goto (-30), 3) := by decide +kernel
theorem dX4_leastCost_38 : decode cX4_leastCost 38 = .ok (.lload_n 2, 1) := by decide +kernel
theorem dX4_leastCost_39 : decode cX4_leastCost 39 = .ok (.lreturn, 1) := by decide +kernel
set_option maxRecDepth 20000 in
theorem ggX4_reckonGroup_J6_bitCount_0f7a4 : GoodIn wsX4_reckonGroup wsJ6_bitCount_0f7a4 := goodIn_r _ [17, 18, 19, 20] (by decide +kernel) (by decide +kernel)
set_option maxRecDepth 20000 in
theorem gX4_reckonGroup_J6_bitCount_0f7a4 : GoodIn wsX4_reckonGroup (va_wsS RX4 40 yJ6_bitCount_0f7a4 wsJ6_bitCount_0f7a4) := goodIn_app (goodIn_of _ (by decide +kernel)) ggX4_reckonGroup_J6_bitCount_0f7a4
set_option maxRecDepth 20000 in
theorem ggX4_reckonGroup_J6_numberOfTrailingZeros_0f7a4 : GoodIn wsX4_reckonGroup wsJ6_numberOfTrailingZeros_0f7a4 := goodIn_r _ [23, 24] (by decide +kernel) (by decide +kernel)
set_option maxRecDepth 20000 in
theorem gX4_reckonGroup_J6_numberOfTrailingZeros_0f7a4 : GoodIn wsX4_reckonGroup (va_wsS RX4 49 yJ6_numberOfTrailingZeros_0f7a4 wsJ6_numberOfTrailingZeros_0f7a4) := goodIn_app (goodIn_of _ (by decide +kernel)) ggX4_reckonGroup_J6_numberOfTrailingZeros_0f7a4
set_option maxRecDepth 20000 in
theorem ggX4_reckonGroup_X4_splitGroup : GoodIn wsX4_reckonGroup wsX4_splitGroup := goodIn_r _ [29, 10, 30, 4, 5, 11, 12, 8, 13, 31, 32, 33, 34, 39, 40, 41, 42] (by decide +kernel) (by decide +kernel)
set_option maxRecDepth 20000 in
theorem gX4_reckonGroup_X4_splitGroup : GoodIn wsX4_reckonGroup (wsV RX4 58 RX4 yX4_splitGroup wsX4_splitGroup) := goodIn_app (goodIn_of _ (by decide +kernel)) ggX4_reckonGroup_X4_splitGroup
theorem dX4_reckonGroup_0 : decode cX4_reckonGroup 0 = .ok (.aload_n 2, 1) := by decide +kernel
theorem dX4_reckonGroup_1 : decode cX4_reckonGroup 1 = .ok (.getfield 36, 3) := by decide +kernel
theorem dX4_reckonGroup_4 : decode cX4_reckonGroup 4 = .ok (.iconst 2, 1) := by decide +kernel
theorem dX4_reckonGroup_5 : decode cX4_reckonGroup 5 = .ok (.iaload, 1) := by decide +kernel
theorem dX4_reckonGroup_6 : decode cX4_reckonGroup 6 = .ok (.istore_n 3, 1) := by decide +kernel
theorem dX4_reckonGroup_7 : decode cX4_reckonGroup 7 = .ok (.iload_n 1, 1) := by decide +kernel
theorem dX4_reckonGroup_8 : decode cX4_reckonGroup 8 = .ok (.invokestatic 40, 3) := by decide +kernel
theorem dX4_reckonGroup_11 : decode cX4_reckonGroup 11 = .ok (.istore 4, 2) := by decide +kernel
theorem dX4_reckonGroup_13 : decode cX4_reckonGroup 13 = .ok (.aload_n 0, 1) := by decide +kernel
theorem dX4_reckonGroup_14 : decode cX4_reckonGroup 14 = .ok (.getfield 11, 3) := by decide +kernel
theorem dX4_reckonGroup_17 : decode cX4_reckonGroup 17 = .ok (.iload_n 1, 1) := by decide +kernel
theorem dX4_reckonGroup_18 : decode cX4_reckonGroup 18 = .ok (.aload_n 0, 1) := by decide +kernel
theorem dX4_reckonGroup_19 : decode cX4_reckonGroup 19 = .ok (.getfield 11, 3) := by decide +kernel
theorem dX4_reckonGroup_22 : decode cX4_reckonGroup 22 = .ok (.iload_n 1, 1) := by decide +kernel
theorem dX4_reckonGroup_23 : decode cX4_reckonGroup 23 = .ok (.iload_n 1, 1) := by decide +kernel
theorem dX4_reckonGroup_24 : decode cX4_reckonGroup 24 = .ok (.iconst 1, 1) := by decide +kernel
theorem dX4_reckonGroup_25 : decode cX4_reckonGroup 25 = .ok (.isub, 1) := by decide +kernel
theorem dX4_reckonGroup_26 : decode cX4_reckonGroup 26 = .ok (.iand, 1) := by decide +kernel
theorem dX4_reckonGroup_27 : decode cX4_reckonGroup 27 = .ok (.laload, 1) := by decide +kernel
theorem dX4_reckonGroup_28 : decode cX4_reckonGroup 28 = .ok (.aload_n 2, 1) := by decide +kernel
theorem dX4_reckonGroup_29 : decode cX4_reckonGroup 29 = .ok (.getfield 46, 3) := by decide +kernel
theorem dX4_reckonGroup_32 : decode cX4_reckonGroup 32 = .ok (.iload_n 1, 1) := by decide +kernel
theorem dX4_reckonGroup_33 : decode cX4_reckonGroup 33 = .ok (.invokestatic 49, 3) := by decide +kernel
theorem dX4_reckonGroup_36 : decode cX4_reckonGroup 36 = .ok (.iaload, 1) := by decide +kernel
theorem dX4_reckonGroup_37 : decode cX4_reckonGroup 37 = .ok (.i2l, 1) := by decide +kernel
theorem dX4_reckonGroup_38 : decode cX4_reckonGroup 38 = .ok (.ladd, 1) := by decide +kernel
theorem dX4_reckonGroup_39 : decode cX4_reckonGroup 39 = .ok (.lastore, 1) := by decide +kernel
theorem dX4_reckonGroup_40 : decode cX4_reckonGroup 40 = .ok (.aload_n 0, 1) := by decide +kernel
theorem dX4_reckonGroup_41 : decode cX4_reckonGroup 41 = .ok (.getfield 11, 3) := by decide +kernel
theorem dX4_reckonGroup_44 : decode cX4_reckonGroup 44 = .ok (.iload_n 1, 1) := by decide +kernel
theorem dX4_reckonGroup_45 : decode cX4_reckonGroup 45 = .ok (.laload, 1) := by decide +kernel
theorem dX4_reckonGroup_46 : decode cX4_reckonGroup 46 = .ok (.aload_n 2, 1) := by decide +kernel
theorem dX4_reckonGroup_47 : decode cX4_reckonGroup 47 = .ok (.getfield 36, 3) := by decide +kernel
theorem dX4_reckonGroup_50 : decode cX4_reckonGroup 50 = .ok (.iconst 0, 1) := by decide +kernel
theorem dX4_reckonGroup_51 : decode cX4_reckonGroup 51 = .ok (.iaload, 1) := by decide +kernel
theorem dX4_reckonGroup_52 : decode cX4_reckonGroup 52 = .ok (.i2l, 1) := by decide +kernel
theorem dX4_reckonGroup_53 : decode cX4_reckonGroup 53 = .ok (.lmul, 1) := by decide +kernel
theorem dX4_reckonGroup_54 : decode cX4_reckonGroup 54 = .ok (.lstore 5, 2) := by decide +kernel
theorem dX4_reckonGroup_56 : decode cX4_reckonGroup 56 = .ok (.iload 4, 2) := by decide +kernel
theorem dX4_reckonGroup_58 : decode cX4_reckonGroup 58 = .ok (.iconst 1, 1) := by decide +kernel
theorem dX4_reckonGroup_59 : decode cX4_reckonGroup 59 = .ok (.if_icmp .ne 39, 3) := by decide +kernel
theorem dX4_reckonGroup_62 : decode cX4_reckonGroup 62 = .ok (.aload_n 0, 1) := by decide +kernel
theorem dX4_reckonGroup_63 : decode cX4_reckonGroup 63 = .ok (.getfield 15, 3) := by decide +kernel
theorem dX4_reckonGroup_66 : decode cX4_reckonGroup 66 = .ok (.iload_n 1, 1) := by decide +kernel
theorem dX4_reckonGroup_67 : decode cX4_reckonGroup 67 = .ok (.lconst 0, 1) := by decide +kernel
theorem dX4_reckonGroup_68 : decode cX4_reckonGroup 68 = .ok (.lastore, 1) := by decide +kernel
theorem dX4_reckonGroup_69 : decode cX4_reckonGroup 69 = .ok (.iconst 1, 1) := by decide +kernel
theorem dX4_reckonGroup_70 : decode cX4_reckonGroup 70 = .ok (.istore 7, 2) := by decide +kernel
theorem dX4_reckonGroup_72 : decode cX4_reckonGroup 72 = .ok (.iload 7, 2) := by decide +kernel
theorem dX4_reckonGroup_74 : decode cX4_reckonGroup 74 = .ok (.iload_n 3, 1) := by decide +kernel
theorem dX4_reckonGroup_75 : decode cX4_reckonGroup 75 = .ok (.if_icmp .ge 20, 3) := by decide +kernel
theorem dX4_reckonGroup_78 : decode cX4_reckonGroup 78 = .ok (.aload_n 0, 1) := by decide +kernel
theorem dX4_reckonGroup_79 : decode cX4_reckonGroup 79 = .ok (.getfield 20, 3) := by decide +kernel
theorem dX4_reckonGroup_82 : decode cX4_reckonGroup 82 = .ok (.iload 7, 2) := by decide +kernel
theorem dX4_reckonGroup_84 : decode cX4_reckonGroup 84 = .ok (.aaload, 1) := by decide +kernel
theorem dX4_reckonGroup_85 : decode cX4_reckonGroup 85 = .ok (.iload_n 1, 1) := by decide +kernel
theorem dX4_reckonGroup_86 : decode cX4_reckonGroup 86 = .ok (.lload 5, 2) := by decide +kernel
theorem dX4_reckonGroup_88 : decode cX4_reckonGroup 88 = .ok (.lastore, 1) := by decide +kernel
theorem dX4_reckonGroup_89 : decode cX4_reckonGroup 89 = .ok (.iinc 7 1, 3) := by decide +kernel
theorem dX4_reckonGroup_92 : decode cX4_reckonGroup 92 = .ok (.goto (-20), 3) := by decide +kernel
theorem dX4_reckonGroup_95 : decode cX4_reckonGroup 95 = .ok (.lload 5, 2) := by decide +kernel
theorem dX4_reckonGroup_97 : decode cX4_reckonGroup 97 = .ok (.lreturn, 1) := by decide +kernel
theorem dX4_reckonGroup_98 : decode cX4_reckonGroup 98 = .ok (.iload_n 3, 1) := by decide +kernel
theorem dX4_reckonGroup_99 : decode cX4_reckonGroup 99 = .ok (.iload 4, 2) := by decide +kernel
theorem dX4_reckonGroup_101 : decode cX4_reckonGroup 101 = .ok (.invokestatic 52, 3) := by decide +kernel
theorem dX4_reckonGroup_104 : decode cX4_reckonGroup 104 = .ok (.istore 7, 2) := by decide +kernel
theorem dX4_reckonGroup_106 : decode cX4_reckonGroup 106 = .ok (.aload_n 0, 1) := by decide +kernel
theorem dX4_reckonGroup_107 : decode cX4_reckonGroup 107 = .ok (.iload_n 1, 1) := by decide +kernel
theorem dX4_reckonGroup_108 : decode cX4_reckonGroup 108 = .ok (.iload 7, 2) := by decide +kernel
theorem dX4_reckonGroup_110 : decode cX4_reckonGroup 110 = .ok (.invokevirtual 58, 3) := by decide +kernel
theorem dX4_reckonGroup_113 : decode cX4_reckonGroup 113 = .ok (.lload 5, 2) := by decide +kernel
theorem dX4_reckonGroup_115 : decode cX4_reckonGroup 115 = .ok (.aload_n 0, 1) := by decide +kernel
theorem dX4_reckonGroup_116 : decode cX4_reckonGroup 116 = .ok (.getfield 23, 3) := by decide +kernel
theorem dX4_reckonGroup_119 : decode cX4_reckonGroup 119 = .ok (.iload 7, 2) := by decide +kernel
theorem dX4_reckonGroup_121 : decode cX4_reckonGroup 121 = .ok (.laload, 1) := by decide +kernel
theorem dX4_reckonGroup_122 : decode cX4_reckonGroup 122 = .ok (.ladd, 1) := by decide +kernel
theorem dX4_reckonGroup_123 : decode cX4_reckonGroup 123 = .ok (.lstore 8, 2) := by decide +kernel
theorem dX4_reckonGroup_125 : decode cX4_reckonGroup 125 = .ok (.lload 8, 2) := by decide +kernel
theorem dX4_reckonGroup_127 : decode cX4_reckonGroup 127 = .ok (.aload_n 0, 1) := by decide +kernel
theorem dX4_reckonGroup_128 : decode cX4_reckonGroup 128 = .ok (.getfield 11, 3) := by decide +kernel
theorem dX4_reckonGroup_131 : decode cX4_reckonGroup 131 = .ok (.iload_n 1, 1) := by decide +kernel
theorem dX4_reckonGroup_132 : decode cX4_reckonGroup 132 = .ok (.laload, 1) := by decide +kernel
theorem dX4_reckonGroup_133 : decode cX4_reckonGroup 133 = .ok (.aload_n 2, 1) := by decide +kernel
theorem dX4_reckonGroup_134 : decode cX4_reckonGroup 134 = .ok (.getfield 36, 3) := by decide +kernel
theorem dX4_reckonGroup_137 : decode cX4_reckonGroup 137 = .ok (.iconst 1, 1) := by decide +kernel
theorem dX4_reckonGroup_138 : decode cX4_reckonGroup 138 = .ok (.iaload, 1) := by decide +kernel
theorem dX4_reckonGroup_139 : decode cX4_reckonGroup 139 = .ok (.i2l, 1) := by decide +kernel
theorem dX4_reckonGroup_140 : decode cX4_reckonGroup 140 = .ok (.lmul, 1) := by decide +kernel
theorem dX4_reckonGroup_141 : decode cX4_reckonGroup 141 = .ok (.ladd, 1) := by decide +kernel
theorem dX4_reckonGroup_142 : decode cX4_reckonGroup 142 = .ok (.lstore 10, 2) := by decide +kernel
theorem dX4_reckonGroup_144 : decode cX4_reckonGroup 144 = .ok (.aload_n 0, 1) := by decide +kernel
theorem dX4_reckonGroup_145 : decode cX4_reckonGroup 145 = .ok (.getfield 15, 3) := by decide +kernel
theorem dX4_reckonGroup_148 : decode cX4_reckonGroup 148 = .ok (.iload_n 1, 1) := by decide +kernel
theorem dX4_reckonGroup_149 : decode cX4_reckonGroup 149 = .ok (.lload 10, 2) := by decide +kernel
theorem dX4_reckonGroup_151 : decode cX4_reckonGroup 151 = .ok (.lastore, 1) := by decide +kernel
theorem dX4_reckonGroup_152 : decode cX4_reckonGroup 152 = .ok (.aload_n 0, 1) := by decide +kernel
theorem dX4_reckonGroup_153 : decode cX4_reckonGroup 153 = .ok (.getfield 20, 3) := by decide +kernel
theorem dX4_reckonGroup_156 : decode cX4_reckonGroup 156 = .ok (.iconst 1, 1) := by decide +kernel
theorem dX4_reckonGroup_157 : decode cX4_reckonGroup 157 = .ok (.aaload, 1) := by decide +kernel
theorem dX4_reckonGroup_158 : decode cX4_reckonGroup 158 = .ok (.iload_n 1, 1) := by decide +kernel
theorem dX4_reckonGroup_159 : decode cX4_reckonGroup 159 = .ok (.lload 5, 2) := by decide +kernel
theorem dX4_reckonGroup_161 : decode cX4_reckonGroup 161 = .ok (.lload 10, 2) := by decide +kernel
theorem dX4_reckonGroup_163 : decode cX4_reckonGroup 163 = .ok (.ladd, 1) := by decide +kernel
theorem dX4_reckonGroup_164 : decode cX4_reckonGroup 164 = .ok (.lastore, 1) := by decide +kernel
theorem dX4_reckonGroup_165 : decode cX4_reckonGroup 165 = .ok (.iconst 2, 1) := by decide +kernel
theorem dX4_reckonGroup_166 : decode cX4_reckonGroup 166 = .ok (.istore 12, 2) := by decide +kernel
theorem dX4_reckonGroup_168 : decode cX4_reckonGroup 168 = .ok (.iload 12, 2) := by decide +kernel
theorem dX4_reckonGroup_170 : decode cX4_reckonGroup 170 = .ok (.iload_n 3, 1) := by decide +kernel
theorem dX4_reckonGroup_171 : decode cX4_reckonGroup 171 = .ok (.if_icmp .ge 38, 3) := by decide +kernel
theorem dX4_reckonGroup_174 : decode cX4_reckonGroup 174 = .ok (.aload_n 0, 1) := by decide +kernel
theorem dX4_reckonGroup_175 : decode cX4_reckonGroup 175 = .ok (.getfield 20, 3) := by decide +kernel
theorem dX4_reckonGroup_178 : decode cX4_reckonGroup 178 = .ok (.iload 12, 2) := by decide +kernel
theorem dX4_reckonGroup_180 : decode cX4_reckonGroup 180 = .ok (.aaload, 1) := by decide +kernel
theorem dX4_reckonGroup_181 : decode cX4_reckonGroup 181 = .ok (.iload_n 1, 1) := by decide +kernel
theorem dX4_reckonGroup_182 : decode cX4_reckonGroup 182 = .ok (.lload 5, 2) := by decide +kernel
theorem dX4_reckonGroup_184 : decode cX4_reckonGroup 184 = .ok (.lload 10, 2) := by decide +kernel
theorem dX4_reckonGroup_186 : decode cX4_reckonGroup 186 = .ok (.aload_n 0, 1) := by decide +kernel
theorem dX4_reckonGroup_187 : decode cX4_reckonGroup 187 = .ok (.getfield 23, 3) := by decide +kernel
theorem dX4_reckonGroup_190 : decode cX4_reckonGroup 190 = .ok (.iload 12, 2) := by decide +kernel
theorem dX4_reckonGroup_192 : decode cX4_reckonGroup 192 = .ok (.iload 7, 2) := by decide +kernel
theorem dX4_reckonGroup_194 : decode cX4_reckonGroup 194 = .ok (.invokestatic 52, 3) := by decide +kernel
theorem dX4_reckonGroup_197 : decode cX4_reckonGroup 197 = .ok (.laload, 1) := by decide +kernel
theorem dX4_reckonGroup_198 : decode cX4_reckonGroup 198 = .ok (.invokestatic 62, 3) := by decide +kernel
theorem dX4_reckonGroup_201 : decode cX4_reckonGroup 201 = .ok (.ladd, 1) := by decide +kernel
theorem dX4_reckonGroup_202 : decode cX4_reckonGroup 202 = .ok (.lastore, 1) := by decide +kernel
theorem dX4_reckonGroup_203 : decode cX4_reckonGroup 203 = .ok (.iinc 12 1, 3) := by decide +kernel
theorem dX4_reckonGroup_206 : decode cX4_reckonGroup 206 = .ok (.goto (-38), 3) := by decide +kernel
theorem dX4_reckonGroup_209 : decode cX4_reckonGroup 209 = .ok (.lload 8, 2) := by decide +kernel
theorem dX4_reckonGroup_211 : decode cX4_reckonGroup 211 = .ok (.lreturn, 1) := by decide +kernel
set_option maxRecDepth 20000 in
theorem ggX4_splitGroup_J7_fill_d0a16 : GoodIn wsX4_splitGroup wsJ7_fill_d0a16 := goodIn_r _ [12] (by decide +kernel) (by decide +kernel)
set_option maxRecDepth 20000 in
theorem gX4_splitGroup_J7_fill_d0a16 : GoodIn wsX4_splitGroup (va_wsS RX4 67 yJ7_fill_d0a16 wsJ7_fill_d0a16) := goodIn_app (goodIn_of _ (by decide +kernel)) ggX4_splitGroup_J7_fill_d0a16
theorem dX4_splitGroup_0 : decode cX4_splitGroup 0 = .ok (.aload_n 0, 1) := by decide +kernel
theorem dX4_splitGroup_1 : decode cX4_splitGroup 1 = .ok (.getfield 23, 3) := by decide +kernel
theorem dX4_splitGroup_4 : decode cX4_splitGroup 4 = .ok (.ldc2_w 65, 3) := by decide +kernel
theorem dX4_splitGroup_7 : decode cX4_splitGroup 7 = .ok (.invokestatic 67, 3) := by decide +kernel
theorem dX4_splitGroup_10 : decode cX4_splitGroup 10 = .ok (.iload_n 1, 1) := by decide +kernel
theorem dX4_splitGroup_11 : decode cX4_splitGroup 11 = .ok (.iconst 1, 1) := by decide +kernel
theorem dX4_splitGroup_12 : decode cX4_splitGroup 12 = .ok (.isub, 1) := by decide +kernel
theorem dX4_splitGroup_13 : decode cX4_splitGroup 13 = .ok (.iload_n 1, 1) := by decide +kernel
theorem dX4_splitGroup_14 : decode cX4_splitGroup 14 = .ok (.iand, 1) := by decide +kernel
theorem dX4_splitGroup_15 : decode cX4_splitGroup 15 = .ok (.istore_n 3, 1) := by decide +kernel
theorem dX4_splitGroup_16 : decode cX4_splitGroup 16 = .ok (.iload_n 3, 1) := by decide +kernel
theorem dX4_splitGroup_17 : decode cX4_splitGroup 17 = .ok (.ifCond .le 68, 3) := by decide +kernel
theorem dX4_splitGroup_20 : decode cX4_splitGroup 20 = .ok (.iload_n 1, 1) := by decide +kernel
theorem dX4_splitGroup_21 : decode cX4_splitGroup 21 = .ok (.iload_n 3, 1) := by decide +kernel
theorem dX4_splitGroup_22 : decode cX4_splitGroup 22 = .ok (.ixor, 1) := by decide +kernel
theorem dX4_splitGroup_23 : decode cX4_splitGroup 23 = .ok (.istore 4, 2) := by decide +kernel
theorem dX4_splitGroup_25 : decode cX4_splitGroup 25 = .ok (.iconst 2, 1) := by decide +kernel
theorem dX4_splitGroup_26 : decode cX4_splitGroup 26 = .ok (.istore 5, 2) := by decide +kernel
theorem dX4_splitGroup_28 : decode cX4_splitGroup 28 = .ok (.iload 5, 2) := by decide +kernel
theorem dX4_splitGroup_30 : decode cX4_splitGroup 30 = .ok (.iload_n 2, 1) := by decide +kernel
theorem dX4_splitGroup_31 : decode cX4_splitGroup 31 = .ok (.if_icmp .gt 45, 3) := by decide +kernel
theorem dX4_splitGroup_34 : decode cX4_splitGroup 34 = .ok (.aload_n 0, 1) := by decide +kernel
theorem dX4_splitGroup_35 : decode cX4_splitGroup 35 = .ok (.getfield 23, 3) := by decide +kernel
theorem dX4_splitGroup_38 : decode cX4_splitGroup 38 = .ok (.iload 5, 2) := by decide +kernel
theorem dX4_splitGroup_40 : decode cX4_splitGroup 40 = .ok (.aload_n 0, 1) := by decide +kernel
theorem dX4_splitGroup_41 : decode cX4_splitGroup 41 = .ok (.getfield 23, 3) := by decide +kernel
theorem dX4_splitGroup_44 : decode cX4_splitGroup 44 = .ok (.iload 5, 2) := by decide +kernel
theorem dX4_splitGroup_46 : decode cX4_splitGroup 46 = .ok (.laload, 1) := by decide +kernel
theorem dX4_splitGroup_47 : decode cX4_splitGroup 47 = .ok (.aload_n 0, 1) := by decide +kernel
theorem dX4_splitGroup_48 : decode cX4_splitGroup 48 = .ok (.getfield 15, 3) := by decide +kernel
theorem dX4_splitGroup_51 : decode cX4_splitGroup 51 = .ok (.iload_n 3, 1) := by decide +kernel
theorem dX4_splitGroup_52 : decode cX4_splitGroup 52 = .ok (.laload, 1) := by decide +kernel
theorem dX4_splitGroup_53 : decode cX4_splitGroup 53 = .ok (.aload_n 0, 1) := by decide +kernel
theorem dX4_splitGroup_54 : decode cX4_splitGroup 54 = .ok (.getfield 20, 3) := by decide +kernel
theorem dX4_splitGroup_57 : decode cX4_splitGroup 57 = .ok (.iload 5, 2) := by decide +kernel
theorem dX4_splitGroup_59 : decode cX4_splitGroup 59 = .ok (.iconst 1, 1) := by decide +kernel
theorem dX4_splitGroup_60 : decode cX4_splitGroup 60 = .ok (.isub, 1) := by decide +kernel
theorem dX4_splitGroup_61 : decode cX4_splitGroup 61 = .ok (.aaload, 1) := by decide +kernel
theorem dX4_splitGroup_62 : decode cX4_splitGroup 62 = .ok (.iload 4, 2) := by decide +kernel
theorem dX4_splitGroup_64 : decode cX4_splitGroup 64 = .ok (.laload, 1) := by decide +kernel
theorem dX4_splitGroup_65 : decode cX4_splitGroup 65 = .ok (.ladd, 1) := by decide +kernel
theorem dX4_splitGroup_66 : decode cX4_splitGroup 66 = .ok (.invokestatic 62, 3) := by decide +kernel
theorem dX4_splitGroup_69 : decode cX4_splitGroup 69 = .ok (.lastore, 1) := by decide +kernel
theorem dX4_splitGroup_70 : decode cX4_splitGroup 70 = .ok (.iinc 5 1, 3) := by decide +kernel
theorem dX4_splitGroup_73 : decode cX4_splitGroup 73 = .ok (.goto (-45), 3) := by decide +kernel
theorem dX4_splitGroup_76 : decode cX4_splitGroup 76 = .ok (.iload_n 3, 1) := by decide +kernel
theorem dX4_splitGroup_77 : decode cX4_splitGroup 77 = .ok (.iconst 1, 1) := by decide +kernel
theorem dX4_splitGroup_78 : decode cX4_splitGroup 78 = .ok (.isub, 1) := by decide +kernel
theorem dX4_splitGroup_79 : decode cX4_splitGroup 79 = .ok (.iload_n 1, 1) := by decide +kernel
theorem dX4_splitGroup_80 : decode cX4_splitGroup 80 = .ok (.iand, 1) := by decide +kernel
theorem dX4_splitGroup_81 : decode cX4_splitGroup 81 = .ok (.istore_n 3, 1) := by decide +kernel
theorem dX4_splitGroup_82 : decode cX4_splitGroup 82 = .ok (.goto (-66), 3) := by decide +kernel
theorem dX4_splitGroup_85 : decode cX4_splitGroup 85 = .ok (.return_, 1) := by decide +kernel
theorem dX5_init_0 : decode cX5_init 0 = .ok (.aload_n 0, 1) := by decide +kernel
theorem dX5_init_1 : decode cX5_init 1 = .ok (.invokespecial 3, 3) := by decide +kernel
theorem dX5_init_4 : decode cX5_init 4 = .ok (.aload_n 0, 1) := by decide +kernel
theorem dX5_init_5 : decode cX5_init 5 = .ok (.iconst 0, 1) := by decide +kernel
theorem dX5_init_6 : decode cX5_init 6 = .ok (.putfield 9, 3) := by decide +kernel
theorem dX5_init_9 : decode cX5_init 9 = .ok (.aload_n 0, 1) := by decide +kernel
theorem dX5_init_10 : decode cX5_init 10 = .ok (.bipush 80, 2) := by decide +kernel
theorem dX5_init_12 : decode cX5_init 12 = .ok (.newarray .int, 2) := by decide +kernel
theorem dX5_init_14 : decode cX5_init 14 = .ok (.putfield 15, 3) := by decide +kernel
theorem dX5_init_17 : decode cX5_init 17 = .ok (.aload_n 0, 1) := by decide +kernel
theorem dX5_init_18 : decode cX5_init 18 = .ok (.bipush 80, 2) := by decide +kernel
theorem dX5_init_20 : decode cX5_init 20 = .ok (.newarray .int, 2) := by decide +kernel
theorem dX5_init_22 : decode cX5_init 22 = .ok (.putfield 19, 3) := by decide +kernel
theorem dX5_init_25 : decode cX5_init 25 = .ok (.aload_n 0, 1) := by decide +kernel
theorem dX5_init_26 : decode cX5_init 26 = .ok (.bipush 80, 2) := by decide +kernel
theorem dX5_init_28 : decode cX5_init 28 = .ok (.newarray .int, 2) := by decide +kernel
theorem dX5_init_30 : decode cX5_init 30 = .ok (.putfield 22, 3) := by decide +kernel
theorem dX5_init_33 : decode cX5_init 33 = .ok (.aload_n 0, 1) := by decide +kernel
theorem dX5_init_34 : decode cX5_init 34 = .ok (.sipush 720, 3) := by decide +kernel
theorem dX5_init_37 : decode cX5_init 37 = .ok (.newarray .int, 2) := by decide +kernel
theorem dX5_init_39 : decode cX5_init 39 = .ok (.putfield 25, 3) := by decide +kernel
theorem dX5_init_42 : decode cX5_init 42 = .ok (.aload_n 0, 1) := by decide +kernel
theorem dX5_init_43 : decode cX5_init 43 = .ok (.bipush 40, 2) := by decide +kernel
theorem dX5_init_45 : decode cX5_init 45 = .ok (.newarray .int, 2) := by decide +kernel
theorem dX5_init_47 : decode cX5_init 47 = .ok (.putfield 28, 3) := by decide +kernel
theorem dX5_init_50 : decode cX5_init 50 = .ok (.aload_n 0, 1) := by decide +kernel
theorem dX5_init_51 : decode cX5_init 51 = .ok (.bipush 40, 2) := by decide +kernel
theorem dX5_init_53 : decode cX5_init 53 = .ok (.newarray .int, 2) := by decide +kernel
theorem dX5_init_55 : decode cX5_init 55 = .ok (.putfield 31, 3) := by decide +kernel
theorem dX5_init_58 : decode cX5_init 58 = .ok (.aload_n 0, 1) := by decide +kernel
theorem dX5_init_59 : decode cX5_init 59 = .ok (.bipush 24, 2) := by decide +kernel
theorem dX5_init_61 : decode cX5_init 61 = .ok (.newarray .int, 2) := by decide +kernel
theorem dX5_init_63 : decode cX5_init 63 = .ok (.putfield 34, 3) := by decide +kernel
theorem dX5_init_66 : decode cX5_init 66 = .ok (.return_, 1) := by decide +kernel
theorem dX5_exists_0 : decode cX5_exists 0 = .ok (.aload_n 0, 1) := by decide +kernel
theorem dX5_exists_1 : decode cX5_exists 1 = .ok (.getfield 9, 3) := by decide +kernel
theorem dX5_exists_4 : decode cX5_exists 4 = .ok (.ifCond .le 7, 3) := by decide +kernel
theorem dX5_exists_7 : decode cX5_exists 7 = .ok (.iconst 1, 1) := by decide +kernel
theorem dX5_exists_8 : decode cX5_exists 8 = .ok (.goto 4, 3) := by decide +kernel
theorem dX5_exists_11 : decode cX5_exists 11 = .ok (.iconst 0, 1) := by decide +kernel
theorem dX5_exists_12 : decode cX5_exists 12 = .ok (.ireturn, 1) := by decide +kernel
theorem dX5_clear_0 : decode cX5_clear 0 = .ok (.aload_n 0, 1) := by decide +kernel
theorem dX5_clear_1 : decode cX5_clear 1 = .ok (.iconst 0, 1) := by decide +kernel
theorem dX5_clear_2 : decode cX5_clear 2 = .ok (.putfield 9, 3) := by decide +kernel
theorem dX5_clear_5 : decode cX5_clear 5 = .ok (.return_, 1) := by decide +kernel
theorem dX5_begin_0 : decode cX5_begin 0 = .ok (.aload_n 0, 1) := by decide +kernel
theorem dX5_begin_1 : decode cX5_begin 1 = .ok (.iconst 1, 1) := by decide +kernel
theorem dX5_begin_2 : decode cX5_begin 2 = .ok (.putfield 9, 3) := by decide +kernel
theorem dX5_begin_5 : decode cX5_begin 5 = .ok (.aload_n 0, 1) := by decide +kernel
theorem dX5_begin_6 : decode cX5_begin 6 = .ok (.getfield 15, 3) := by decide +kernel
theorem dX5_begin_9 : decode cX5_begin 9 = .ok (.iconst 0, 1) := by decide +kernel
theorem dX5_begin_10 : decode cX5_begin 10 = .ok (.iconst 0, 1) := by decide +kernel
theorem dX5_begin_11 : decode cX5_begin 11 = .ok (.iastore, 1) := by decide +kernel
theorem dX5_begin_12 : decode cX5_begin 12 = .ok (.aload_n 0, 1) := by decide +kernel
theorem dX5_begin_13 : decode cX5_begin 13 = .ok (.getfield 19, 3) := by decide +kernel
theorem dX5_begin_16 : decode cX5_begin 16 = .ok (.iconst 0, 1) := by decide +kernel
theorem dX5_begin_17 : decode cX5_begin 17 = .ok (.iconst (-1), 1) := by decide +kernel
theorem dX5_begin_18 : decode cX5_begin 18 = .ok (.iastore, 1) := by decide +kernel
theorem dX5_begin_19 : decode cX5_begin 19 = .ok (.aload_n 0, 1) := by decide +kernel
theorem dX5_begin_20 : decode cX5_begin 20 = .ok (.getfield 22, 3) := by decide +kernel
theorem dX5_begin_23 : decode cX5_begin 23 = .ok (.iconst 0, 1) := by decide +kernel
theorem dX5_begin_24 : decode cX5_begin 24 = .ok (.iconst 0, 1) := by decide +kernel
theorem dX5_begin_25 : decode cX5_begin 25 = .ok (.iastore, 1) := by decide +kernel
theorem dX5_begin_26 : decode cX5_begin 26 = .ok (.return_, 1) := by decide +kernel
set_option maxRecDepth 20000 in
theorem ggX5_addCommand_X5_addItem : GoodIn wsX5_addCommand wsX5_addItem := goodIn_r _ [8, 3, 9, 10, 11, 12, 13, 14, 15, 16, 17] (by decide +kernel) (by decide +kernel)
set_option maxRecDepth 20000 in
theorem gX5_addCommand_X5_addItem : GoodIn wsX5_addCommand (wsV RX5 37 RX5 yX5_addItem wsX5_addItem) := goodIn_app (goodIn_of _ (by decide +kernel)) ggX5_addCommand_X5_addItem
theorem dX5_addCommand_0 : decode cX5_addCommand 0 = .ok (.aload_n 0, 1) := by decide +kernel
theorem dX5_addCommand_1 : decode cX5_addCommand 1 = .ok (.iload_n 1, 1) := by decide +kernel
theorem dX5_addCommand_2 : decode cX5_addCommand 2 = .ok (.iload_n 2, 1) := by decide +kernel
theorem dX5_addCommand_3 : decode cX5_addCommand 3 = .ok (.invokevirtual 37, 3) := by decide +kernel
theorem dX5_addCommand_6 : decode cX5_addCommand 6 = .ok (.ifCond .ne 5, 3) := by decide +kernel
theorem dX5_addCommand_9 : decode cX5_addCommand 9 = .ok (.iconst 0, 1) := by decide +kernel
theorem dX5_addCommand_10 : decode cX5_addCommand 10 = .ok (.ireturn, 1) := by decide +kernel
theorem dX5_addCommand_11 : decode cX5_addCommand 11 = .ok (.aload_n 0, 1) := by decide +kernel
theorem dX5_addCommand_12 : decode cX5_addCommand 12 = .ok (.getfield 28, 3) := by decide +kernel
theorem dX5_addCommand_15 : decode cX5_addCommand 15 = .ok (.iload_n 2, 1) := by decide +kernel
theorem dX5_addCommand_16 : decode cX5_addCommand 16 = .ok (.iload_n 1, 1) := by decide +kernel
theorem dX5_addCommand_17 : decode cX5_addCommand 17 = .ok (.iastore, 1) := by decide +kernel
theorem dX5_addCommand_18 : decode cX5_addCommand 18 = .ok (.aload_n 0, 1) := by decide +kernel
theorem dX5_addCommand_19 : decode cX5_addCommand 19 = .ok (.getfield 31, 3) := by decide +kernel
theorem dX5_addCommand_22 : decode cX5_addCommand 22 = .ok (.iload_n 2, 1) := by decide +kernel
theorem dX5_addCommand_23 : decode cX5_addCommand 23 = .ok (.aload_n 0, 1) := by decide +kernel
theorem dX5_addCommand_24 : decode cX5_addCommand 24 = .ok (.getfield 15, 3) := by decide +kernel
theorem dX5_addCommand_27 : decode cX5_addCommand 27 = .ok (.iload_n 1, 1) := by decide +kernel
theorem dX5_addCommand_28 : decode cX5_addCommand 28 = .ok (.iaload, 1) := by decide +kernel
theorem dX5_addCommand_29 : decode cX5_addCommand 29 = .ok (.iastore, 1) := by decide +kernel
theorem dX5_addCommand_30 : decode cX5_addCommand 30 = .ok (.iconst 1, 1) := by decide +kernel
theorem dX5_addCommand_31 : decode cX5_addCommand 31 = .ok (.ireturn, 1) := by decide +kernel
set_option maxRecDepth 20000 in
theorem ggX5_addMenu_X5_addItem : GoodIn wsX5_addMenu wsX5_addItem := goodIn_r _ [9, 2, 10, 11, 12, 13, 14, 15, 16, 17, 18] (by decide +kernel) (by decide +kernel)
set_option maxRecDepth 20000 in
theorem gX5_addMenu_X5_addItem : GoodIn wsX5_addMenu (wsV RX5 37 RX5 yX5_addItem wsX5_addItem) := goodIn_app (goodIn_of _ (by decide +kernel)) ggX5_addMenu_X5_addItem
theorem dX5_addMenu_0 : decode cX5_addMenu 0 = .ok (.aload_n 0, 1) := by decide +kernel
theorem dX5_addMenu_1 : decode cX5_addMenu 1 = .ok (.getfield 9, 3) := by decide +kernel
theorem dX5_addMenu_4 : decode cX5_addMenu 4 = .ok (.istore_n 2, 1) := by decide +kernel
theorem dX5_addMenu_5 : decode cX5_addMenu 5 = .ok (.iload_n 2, 1) := by decide +kernel
theorem dX5_addMenu_6 : decode cX5_addMenu 6 = .ok (.bipush 80, 2) := by decide +kernel
theorem dX5_addMenu_8 : decode cX5_addMenu 8 = .ok (.if_icmp .ge 14, 3) := by decide +kernel
theorem dX5_addMenu_11 : decode cX5_addMenu 11 = .ok (.aload_n 0, 1) := by decide +kernel
theorem dX5_addMenu_12 : decode cX5_addMenu 12 = .ok (.iload_n 1, 1) := by decide +kernel
theorem dX5_addMenu_13 : decode cX5_addMenu 13 = .ok (.iload_n 2, 1) := by decide +kernel
theorem dX5_addMenu_14 : decode cX5_addMenu 14 = .ok (.iconst (-1), 1) := by decide +kernel
theorem dX5_addMenu_15 : decode cX5_addMenu 15 = .ok (.ixor, 1) := by decide +kernel
theorem dX5_addMenu_16 : decode cX5_addMenu 16 = .ok (.invokevirtual 37, 3) := by decide +kernel
theorem dX5_addMenu_19 : decode cX5_addMenu 19 = .ok (.ifCond .ne 5, 3) := by decide +kernel
theorem dX5_addMenu_22 : decode cX5_addMenu 22 = .ok (.iconst (-1), 1) := by decide +kernel
theorem dX5_addMenu_23 : decode cX5_addMenu 23 = .ok (.ireturn, 1) := by decide +kernel
theorem dX5_addMenu_24 : decode cX5_addMenu 24 = .ok (.aload_n 0, 1) := by decide +kernel
theorem dX5_addMenu_25 : decode cX5_addMenu 25 = .ok (.iload_n 2, 1) := by decide +kernel
theorem dX5_addMenu_26 : decode cX5_addMenu 26 = .ok (.iconst 1, 1) := by decide +kernel
theorem dX5_addMenu_27 : decode cX5_addMenu 27 = .ok (.iadd, 1) := by decide +kernel
theorem dX5_addMenu_28 : decode cX5_addMenu 28 = .ok (.putfield 9, 3) := by decide +kernel
theorem dX5_addMenu_31 : decode cX5_addMenu 31 = .ok (.aload_n 0, 1) := by decide +kernel
theorem dX5_addMenu_32 : decode cX5_addMenu 32 = .ok (.getfield 15, 3) := by decide +kernel
theorem dX5_addMenu_35 : decode cX5_addMenu 35 = .ok (.iload_n 2, 1) := by decide +kernel
theorem dX5_addMenu_36 : decode cX5_addMenu 36 = .ok (.iconst 0, 1) := by decide +kernel
theorem dX5_addMenu_37 : decode cX5_addMenu 37 = .ok (.iastore, 1) := by decide +kernel
theorem dX5_addMenu_38 : decode cX5_addMenu 38 = .ok (.aload_n 0, 1) := by decide +kernel
theorem dX5_addMenu_39 : decode cX5_addMenu 39 = .ok (.getfield 19, 3) := by decide +kernel
theorem dX5_addMenu_42 : decode cX5_addMenu 42 = .ok (.iload_n 2, 1) := by decide +kernel
theorem dX5_addMenu_43 : decode cX5_addMenu 43 = .ok (.iload_n 1, 1) := by decide +kernel
theorem dX5_addMenu_44 : decode cX5_addMenu 44 = .ok (.iastore, 1) := by decide +kernel
theorem dX5_addMenu_45 : decode cX5_addMenu 45 = .ok (.aload_n 0, 1) := by decide +kernel
theorem dX5_addMenu_46 : decode cX5_addMenu 46 = .ok (.getfield 22, 3) := by decide +kernel
theorem dX5_addMenu_49 : decode cX5_addMenu 49 = .ok (.iload_n 2, 1) := by decide +kernel
theorem dX5_addMenu_50 : decode cX5_addMenu 50 = .ok (.aload_n 0, 1) := by decide +kernel
theorem dX5_addMenu_51 : decode cX5_addMenu 51 = .ok (.getfield 15, 3) := by decide +kernel
theorem dX5_addMenu_54 : decode cX5_addMenu 54 = .ok (.iload_n 1, 1) := by decide +kernel
theorem dX5_addMenu_55 : decode cX5_addMenu 55 = .ok (.iaload, 1) := by decide +kernel
theorem dX5_addMenu_56 : decode cX5_addMenu 56 = .ok (.iastore, 1) := by decide +kernel
theorem dX5_addMenu_57 : decode cX5_addMenu 57 = .ok (.iload_n 2, 1) := by decide +kernel
theorem dX5_addMenu_58 : decode cX5_addMenu 58 = .ok (.ireturn, 1) := by decide +kernel
theorem dX5_addItem_0 : decode cX5_addItem 0 = .ok (.aload_n 0, 1) := by decide +kernel
theorem dX5_addItem_1 : decode cX5_addItem 1 = .ok (.getfield 15, 3) := by decide +kernel
theorem dX5_addItem_4 : decode cX5_addItem 4 = .ok (.iload_n 1, 1) := by decide +kernel
theorem dX5_addItem_5 : decode cX5_addItem 5 = .ok (.iaload, 1) := by decide +kernel
theorem dX5_addItem_6 : decode cX5_addItem 6 = .ok (.bipush 9, 2) := by decide +kernel
theorem dX5_addItem_8 : decode cX5_addItem 8 = .ok (.if_icmp .lt 5, 3) := by decide +kernel
theorem dX5_addItem_11 : decode cX5_addItem 11 = .ok (.iconst 0, 1) := by decide +kernel
theorem dX5_addItem_12 : decode cX5_addItem 12 = .ok (.ireturn, 1) := by decide +kernel
theorem dX5_addItem_13 : decode cX5_addItem 13 = .ok (.aload_n 0, 1) := by decide +kernel
theorem dX5_addItem_14 : decode cX5_addItem 14 = .ok (.getfield 25, 3) := by decide +kernel
theorem dX5_addItem_17 : decode cX5_addItem 17 = .ok (.iload_n 1, 1) := by decide +kernel
theorem dX5_addItem_18 : decode cX5_addItem 18 = .ok (.bipush 9, 2) := by decide +kernel
theorem dX5_addItem_20 : decode cX5_addItem 20 = .ok (.imul, 1) := by decide +kernel
theorem dX5_addItem_21 : decode cX5_addItem 21 = .ok (.aload_n 0, 1) := by decide +kernel
theorem dX5_addItem_22 : decode cX5_addItem 22 = .ok (.getfield 15, 3) := by decide +kernel
theorem dX5_addItem_25 : decode cX5_addItem 25 = .ok (.iload_n 1, 1) := by decide +kernel
theorem dX5_addItem_26 : decode cX5_addItem 26 = .ok (.iaload, 1) := by decide +kernel
theorem dX5_addItem_27 : decode cX5_addItem 27 = .ok (.iadd, 1) := by decide +kernel
theorem dX5_addItem_28 : decode cX5_addItem 28 = .ok (.iload_n 2, 1) := by decide +kernel
theorem dX5_addItem_29 : decode cX5_addItem 29 = .ok (.iastore, 1) := by decide +kernel
theorem dX5_addItem_30 : decode cX5_addItem 30 = .ok (.aload_n 0, 1) := by decide +kernel
theorem dX5_addItem_31 : decode cX5_addItem 31 = .ok (.getfield 15, 3) := by decide +kernel
theorem dX5_addItem_34 : decode cX5_addItem 34 = .ok (.iload_n 1, 1) := by decide +kernel
theorem dX5_addItem_35 : decode cX5_addItem 35 = .ok (.dup2, 1) := by decide +kernel
theorem dX5_addItem_36 : decode cX5_addItem 36 = .ok (.iaload, 1) := by decide +kernel
theorem dX5_addItem_37 : decode cX5_addItem 37 = .ok (.iconst 1, 1) := by decide +kernel
theorem dX5_addItem_38 : decode cX5_addItem 38 = .ok (.iadd, 1) := by decide +kernel
theorem dX5_addItem_39 : decode cX5_addItem 39 = .ok (.iastore, 1) := by decide +kernel
theorem dX5_addItem_40 : decode cX5_addItem 40 = .ok (.iconst 1, 1) := by decide +kernel
theorem dX5_addItem_41 : decode cX5_addItem 41 = .ok (.ireturn, 1) := by decide +kernel
theorem dX5_itemAt_0 : decode cX5_itemAt 0 = .ok (.aload_n 0, 1) := by decide +kernel
theorem dX5_itemAt_1 : decode cX5_itemAt 1 = .ok (.getfield 25, 3) := by decide +kernel
theorem dX5_itemAt_4 : decode cX5_itemAt 4 = .ok (.iload_n 1, 1) := by decide +kernel
theorem dX5_itemAt_5 : decode cX5_itemAt 5 = .ok (.bipush 9, 2) := by decide +kernel
theorem dX5_itemAt_7 : decode cX5_itemAt 7 = .ok (.imul, 1) := by decide +kernel
theorem dX5_itemAt_8 : decode cX5_itemAt 8 = .ok (.iload_n 2, 1) := by decide +kernel
theorem dX5_itemAt_9 : decode cX5_itemAt 9 = .ok (.iadd, 1) := by decide +kernel
theorem dX5_itemAt_10 : decode cX5_itemAt 10 = .ok (.iconst 1, 1) := by decide +kernel
theorem dX5_itemAt_11 : decode cX5_itemAt 11 = .ok (.isub, 1) := by decide +kernel
theorem dX5_itemAt_12 : decode cX5_itemAt 12 = .ok (.iaload, 1) := by decide +kernel
theorem dX5_itemAt_13 : decode cX5_itemAt 13 = .ok (.ireturn, 1) := by decide +kernel
set_option maxRecDepth 20000 in
theorem ggX5_trade_X5_seat : GoodIn wsX5_trade wsX5_seat := goodIn_r _ [7, 1, 2, 8, 9, 10, 11, 12, 13, 14, 15, 16] (by decide +kernel) (by decide +kernel)
set_option maxRecDepth 20000 in
theorem gX5_trade_X5_seat : GoodIn wsX5_trade (wsV RX5 41 RX5 yX5_seat wsX5_seat) := goodIn_app (goodIn_of _ (by decide +kernel)) ggX5_trade_X5_seat
theorem dX5_trade_0 : decode cX5_trade 0 = .ok (.aload_n 0, 1) := by decide +kernel
theorem dX5_trade_1 : decode cX5_trade 1 = .ok (.getfield 28, 3) := by decide +kernel
theorem dX5_trade_4 : decode cX5_trade 4 = .ok (.iload_n 1, 1) := by decide +kernel
theorem dX5_trade_5 : decode cX5_trade 5 = .ok (.iaload, 1) := by decide +kernel
theorem dX5_trade_6 : decode cX5_trade 6 = .ok (.istore_n 3, 1) := by decide +kernel
theorem dX5_trade_7 : decode cX5_trade 7 = .ok (.aload_n 0, 1) := by decide +kernel
theorem dX5_trade_8 : decode cX5_trade 8 = .ok (.getfield 31, 3) := by decide +kernel
theorem dX5_trade_11 : decode cX5_trade 11 = .ok (.iload_n 1, 1) := by decide +kernel
theorem dX5_trade_12 : decode cX5_trade 12 = .ok (.iaload, 1) := by decide +kernel
theorem dX5_trade_13 : decode cX5_trade 13 = .ok (.istore 4, 2) := by decide +kernel
theorem dX5_trade_15 : decode cX5_trade 15 = .ok (.aload_n 0, 1) := by decide +kernel
theorem dX5_trade_16 : decode cX5_trade 16 = .ok (.iload_n 1, 1) := by decide +kernel
theorem dX5_trade_17 : decode cX5_trade 17 = .ok (.aload_n 0, 1) := by decide +kernel
theorem dX5_trade_18 : decode cX5_trade 18 = .ok (.getfield 28, 3) := by decide +kernel
theorem dX5_trade_21 : decode cX5_trade 21 = .ok (.iload_n 2, 1) := by decide +kernel
theorem dX5_trade_22 : decode cX5_trade 22 = .ok (.iaload, 1) := by decide +kernel
theorem dX5_trade_23 : decode cX5_trade 23 = .ok (.aload_n 0, 1) := by decide +kernel
theorem dX5_trade_24 : decode cX5_trade 24 = .ok (.getfield 31, 3) := by decide +kernel
theorem dX5_trade_27 : decode cX5_trade 27 = .ok (.iload_n 2, 1) := by decide +kernel
theorem dX5_trade_28 : decode cX5_trade 28 = .ok (.iaload, 1) := by decide +kernel
