set_option maxRecDepth 20000 in
theorem gX6_gcd_X6_is : GoodIn wsX6_gcd (wsV RX6 61 RX6 yX6_is wsX6_is) := goodIn_app (goodIn_of _ (by decide +kernel)) ggX6_gcd_X6_is
set_option maxRecDepth 20000 in
theorem ggX6_gcd_X6_move : GoodIn wsX6_gcd wsX6_move := goodIn_r _ [12, 1, 13, 2, 50, 51, 52, 53, 54, 55, 56, 57, 58] rfl (by decide +kernel)
set_option maxRecDepth 20000 in
theorem gX6_gcd_X6_move : GoodIn wsX6_gcd (wsV RX6 51 RX6 yX6_move wsX6_move) := goodIn_app (goodIn_of _ (by decide +kernel)) ggX6_gcd_X6_move
set_option maxRecDepth 20000 in
theorem ggX6_gcd_X6_divide : GoodIn wsX6_gcd wsX6_divide := goodIn_r _ [17, 2, 1, 18, 13, 19, 20, 21, 22, 23, 6, 24, 25, 26, 27, 28, 9, 10, 11, 12, 29, 30, 31, 32, 33, 34, 35, 36, 37, 38, 39, 40, 41, 42, 43, 44, 50, 51, 52, 53, 54, 55, 56, 57, 58] rfl (by decide +kernel)
set_option maxRecDepth 20000 in
theorem gX6_gcd_X6_divide : GoodIn wsX6_gcd (wsV RX6 87 RX6 yX6_divide wsX6_divide) := goodIn_app (goodIn_of _ (by decide +kernel)) ggX6_gcd_X6_divide
set_option maxRecDepth 20000 in
theorem ggX6_gcd_X6_keep : GoodIn wsX6_gcd wsX6_keep := goodIn_r _ [48, 1, 49, 9, 10, 11, 6, 12, 13, 2, 50, 51, 52, 53, 54, 55, 56, 57, 58] rfl (by decide +kernel)
set_option maxRecDepth 20000 in
theorem gX6_gcd_X6_keep : GoodIn wsX6_gcd (wsV RX6 69 RX6 yX6_keep wsX6_keep) := goodIn_app (goodIn_of _ (by decide +kernel)) ggX6_gcd_X6_keep
theorem dX6_gcd_0 : decode cX6_gcd 0 = .ok (.aload_n 0, 1) := by decide +kernel
theorem dX6_gcd_1 : decode cX6_gcd 1 = .ok (.iload_n 1, 1) := by decide +kernel
theorem dX6_gcd_2 : decode cX6_gcd 2 = .ok (.invokevirtual 61, 3) := by decide +kernel
theorem dX6_gcd_5 : decode cX6_gcd 5 = .ok (.ifCond .eq 19, 3) := by decide +kernel
theorem dX6_gcd_8 : decode cX6_gcd 8 = .ok (.aload_n 0, 1) := by decide +kernel
theorem dX6_gcd_9 : decode cX6_gcd 9 = .ok (.iload_n 2, 1) := by decide +kernel
theorem dX6_gcd_10 : decode cX6_gcd 10 = .ok (.invokevirtual 61, 3) := by decide +kernel
theorem dX6_gcd_13 : decode cX6_gcd 13 = .ok (.ifCond .eq 11, 3) := by decide +kernel
theorem dX6_gcd_16 : decode cX6_gcd 16 = .ok (.aload_n 0, 1) := by decide +kernel
theorem dX6_gcd_17 : decode cX6_gcd 17 = .ok (.iload_n 3, 1) := by decide +kernel
theorem dX6_gcd_18 : decode cX6_gcd 18 = .ok (.invokevirtual 61, 3) := by decide +kernel
theorem dX6_gcd_21 : decode cX6_gcd 21 = .ok (.ifCond .ne 5, 3) := by decide +kernel
theorem dX6_gcd_24 : decode cX6_gcd 24 = .ok (.iconst (-1), 1) := by decide +kernel
theorem dX6_gcd_25 : decode cX6_gcd 25 = .ok (.ireturn, 1) := by decide +kernel
theorem dX6_gcd_26 : decode cX6_gcd 26 = .ok (.aload_n 0, 1) := by decide +kernel
theorem dX6_gcd_27 : decode cX6_gcd 27 = .ok (.bipush 20, 2) := by decide +kernel
theorem dX6_gcd_29 : decode cX6_gcd 29 = .ok (.iload_n 2, 1) := by decide +kernel
theorem dX6_gcd_30 : decode cX6_gcd 30 = .ok (.invokevirtual 51, 3) := by decide +kernel
theorem dX6_gcd_33 : decode cX6_gcd 33 = .ok (.aload_n 0, 1) := by decide +kernel
theorem dX6_gcd_34 : decode cX6_gcd 34 = .ok (.bipush 21, 2) := by decide +kernel
theorem dX6_gcd_36 : decode cX6_gcd 36 = .ok (.iload_n 3, 1) := by decide +kernel
theorem dX6_gcd_37 : decode cX6_gcd 37 = .ok (.invokevirtual 51, 3) := by decide +kernel
theorem dX6_gcd_40 : decode cX6_gcd 40 = .ok (.aload_n 0, 1) := by decide +kernel
theorem dX6_gcd_41 : decode cX6_gcd 41 = .ok (.getfield 13, 3) := by decide +kernel
theorem dX6_gcd_44 : decode cX6_gcd 44 = .ok (.bipush 21, 2) := by decide +kernel
theorem dX6_gcd_46 : decode cX6_gcd 46 = .ok (.iaload, 1) := by decide +kernel
theorem dX6_gcd_47 : decode cX6_gcd 47 = .ok (.ifCond .le 30, 3) := by decide +kernel
theorem dX6_gcd_50 : decode cX6_gcd 50 = .ok (.aload_n 0, 1) := by decide +kernel
theorem dX6_gcd_51 : decode cX6_gcd 51 = .ok (.bipush 20, 2) := by decide +kernel
theorem dX6_gcd_53 : decode cX6_gcd 53 = .ok (.bipush 21, 2) := by decide +kernel
theorem dX6_gcd_55 : decode cX6_gcd 55 = .ok (.invokevirtual 87, 3) := by decide +kernel
theorem dX6_gcd_58 : decode cX6_gcd 58 = .ok (.aload_n 0, 1) := by decide +kernel
theorem dX6_gcd_59 : decode cX6_gcd 59 = .ok (.bipush 20, 2) := by decide +kernel
theorem dX6_gcd_61 : decode cX6_gcd 61 = .ok (.bipush 21, 2) := by decide +kernel
theorem dX6_gcd_63 : decode cX6_gcd 63 = .ok (.invokevirtual 51, 3) := by decide +kernel
theorem dX6_gcd_66 : decode cX6_gcd 66 = .ok (.aload_n 0, 1) := by decide +kernel
theorem dX6_gcd_67 : decode cX6_gcd 67 = .ok (.bipush 21, 2) := by decide +kernel
theorem dX6_gcd_69 : decode cX6_gcd 69 = .ok (.bipush 17, 2) := by decide +kernel
theorem dX6_gcd_71 : decode cX6_gcd 71 = .ok (.invokevirtual 51, 3) := by decide +kernel
theorem dX6_gcd_74 : decode cX6_gcd 74 = .ok (.goto (-34), 3) := by decide +kernel
theorem dX6_gcd_77 : decode cX6_gcd 77 = .ok (.aload_n 0, 1) := by decide +kernel
theorem dX6_gcd_78 : decode cX6_gcd 78 = .ok (.getfield 16, 3) := by decide +kernel
theorem dX6_gcd_81 : decode cX6_gcd 81 = .ok (.bipush 20, 2) := by decide +kernel
theorem dX6_gcd_83 : decode cX6_gcd 83 = .ok (.iconst 0, 1) := by decide +kernel
theorem dX6_gcd_84 : decode cX6_gcd 84 = .ok (.bastore, 1) := by decide +kernel
theorem dX6_gcd_85 : decode cX6_gcd 85 = .ok (.aload_n 0, 1) := by decide +kernel
theorem dX6_gcd_86 : decode cX6_gcd 86 = .ok (.iload_n 1, 1) := by decide +kernel
theorem dX6_gcd_87 : decode cX6_gcd 87 = .ok (.bipush 20, 2) := by decide +kernel
theorem dX6_gcd_89 : decode cX6_gcd 89 = .ok (.invokevirtual 69, 3) := by decide +kernel
theorem dX6_gcd_92 : decode cX6_gcd 92 = .ok (.ireturn, 1) := by decide +kernel
set_option maxRecDepth 20000 in
theorem ggX6_timesRest_X6_times : GoodIn wsX6_timesRest wsX6_times := goodIn_r _ [5, 6, 7, 8, 9, 10, 11, 12, 4, 13, 14, 15, 16, 17, 18, 19, 20, 21, 44, 45, 46, 47, 48, 49, 50, 51, 52] rfl (by decide +kernel)
set_option maxRecDepth 20000 in
theorem gX6_timesRest_X6_times : GoodIn wsX6_timesRest (wsV RX6 84 RX6 yX6_times wsX6_times) := goodIn_app (goodIn_of _ (by decide +kernel)) ggX6_timesRest_X6_times
set_option maxRecDepth 20000 in
theorem ggX6_timesRest_X6_divide : GoodIn wsX6_timesRest wsX6_divide := goodIn_r _ [25, 9, 6, 26, 7, 8, 27, 28, 29, 30, 4, 31, 14, 15, 16, 17, 32, 33, 34, 35, 36, 37, 38, 39, 10, 11, 12, 13, 18, 19, 20, 21, 40, 41, 42, 43, 44, 45, 46, 47, 48, 49, 50, 51, 52] rfl (by decide +kernel)
set_option maxRecDepth 20000 in
theorem gX6_timesRest_X6_divide : GoodIn wsX6_timesRest (wsV RX6 87 RX6 yX6_divide wsX6_divide) := goodIn_app (goodIn_of _ (by decide +kernel)) ggX6_timesRest_X6_divide
set_option maxRecDepth 20000 in
theorem ggX6_timesRest_X6_move : GoodIn wsX6_timesRest wsX6_move := goodIn_r _ [35, 6, 7, 9, 44, 45, 46, 47, 48, 49, 50, 51, 52] rfl (by decide +kernel)
set_option maxRecDepth 20000 in
theorem gX6_timesRest_X6_move : GoodIn wsX6_timesRest (wsV RX6 51 RX6 yX6_move wsX6_move) := goodIn_app (goodIn_of _ (by decide +kernel)) ggX6_timesRest_X6_move
theorem dX6_timesRest_0 : decode cX6_timesRest 0 = .ok (.aload_n 0, 1) := by decide +kernel
theorem dX6_timesRest_1 : decode cX6_timesRest 1 = .ok (.bipush 15, 2) := by decide +kernel
theorem dX6_timesRest_3 : decode cX6_timesRest 3 = .ok (.bipush 20, 2) := by decide +kernel
theorem dX6_timesRest_5 : decode cX6_timesRest 5 = .ok (.iload_n 1, 1) := by decide +kernel
theorem dX6_timesRest_6 : decode cX6_timesRest 6 = .ok (.invokevirtual 84, 3) := by decide +kernel
theorem dX6_timesRest_9 : decode cX6_timesRest 9 = .ok (.aload_n 0, 1) := by decide +kernel
theorem dX6_timesRest_10 : decode cX6_timesRest 10 = .ok (.bipush 15, 2) := by decide +kernel
theorem dX6_timesRest_12 : decode cX6_timesRest 12 = .ok (.bipush 22, 2) := by decide +kernel
theorem dX6_timesRest_14 : decode cX6_timesRest 14 = .ok (.invokevirtual 87, 3) := by decide +kernel
theorem dX6_timesRest_17 : decode cX6_timesRest 17 = .ok (.aload_n 0, 1) := by decide +kernel
theorem dX6_timesRest_18 : decode cX6_timesRest 18 = .ok (.bipush 20, 2) := by decide +kernel
theorem dX6_timesRest_20 : decode cX6_timesRest 20 = .ok (.bipush 17, 2) := by decide +kernel
theorem dX6_timesRest_22 : decode cX6_timesRest 22 = .ok (.invokevirtual 51, 3) := by decide +kernel
theorem dX6_timesRest_25 : decode cX6_timesRest 25 = .ok (.return_, 1) := by decide +kernel
set_option maxRecDepth 20000 in
theorem ggX6_powMod_X6_is : GoodIn wsX6_powMod wsX6_is := goodIn_r _ [7, 8, 70, 71, 72, 73, 74, 75, 76, 77, 78] rfl (by decide +kernel)
set_option maxRecDepth 20000 in
theorem gX6_powMod_X6_is : GoodIn wsX6_powMod (wsV RX6 61 RX6 yX6_is wsX6_is) := goodIn_app (goodIn_of _ (by decide +kernel)) ggX6_powMod_X6_is
set_option maxRecDepth 20000 in
theorem ggX6_powMod_X6_move : GoodIn wsX6_powMod wsX6_move := goodIn_r _ [12, 1, 13, 2, 70, 71, 72, 73, 74, 75, 76, 77, 78] rfl (by decide +kernel)
set_option maxRecDepth 20000 in
theorem gX6_powMod_X6_move : GoodIn wsX6_powMod (wsV RX6 51 RX6 yX6_move wsX6_move) := goodIn_app (goodIn_of _ (by decide +kernel)) ggX6_powMod_X6_move
set_option maxRecDepth 20000 in
theorem ggX6_powMod_X6_divide : GoodIn wsX6_powMod wsX6_divide := goodIn_r _ [17, 2, 1, 18, 13, 19, 20, 21, 22, 23, 6, 24, 25, 26, 27, 28, 9, 10, 11, 12, 29, 30, 31, 32, 33, 34, 35, 36, 37, 38, 39, 40, 41, 42, 43, 44, 70, 71, 72, 73, 74, 75, 76, 77, 78] rfl (by decide +kernel)
set_option maxRecDepth 20000 in
theorem gX6_powMod_X6_divide : GoodIn wsX6_powMod (wsV RX6 87 RX6 yX6_divide wsX6_divide) := goodIn_app (goodIn_of _ (by decide +kernel)) ggX6_powMod_X6_divide
set_option maxRecDepth 20000 in
theorem ggX6_powMod_X6_minus : GoodIn wsX6_powMod wsX6_minus := goodIn_r _ [48, 1, 20, 25, 26, 27, 6, 28, 13, 33, 34, 35, 36, 37, 38, 39, 40, 2, 70, 71, 72, 73, 74, 75, 76, 77, 78] rfl (by decide +kernel)
set_option maxRecDepth 20000 in
theorem gX6_powMod_X6_minus : GoodIn wsX6_powMod (wsV RX6 77 RX6 yX6_minus wsX6_minus) := goodIn_app (goodIn_of _ (by decide +kernel)) ggX6_powMod_X6_minus
set_option maxRecDepth 20000 in
theorem ggX6_powMod_X6_bitsOf : GoodIn wsX6_powMod wsX6_bitsOf := goodIn_r _ [52, 1, 25, 26, 27, 6, 28, 13, 70, 71, 72, 73, 74, 75, 76, 77, 78] rfl (by decide +kernel)
set_option maxRecDepth 20000 in
theorem gX6_powMod_X6_bitsOf : GoodIn wsX6_powMod (wsV RX6 90 RX6 yX6_bitsOf wsX6_bitsOf) := goodIn_app (goodIn_of _ (by decide +kernel)) ggX6_powMod_X6_bitsOf
set_option maxRecDepth 20000 in
theorem ggX6_powMod_X6_small : GoodIn wsX6_powMod wsX6_small := goodIn_r _ [56, 19, 1, 2, 33, 34, 35, 6, 36, 13, 70, 71, 72, 73, 74, 75, 76, 77, 78] rfl (by decide +kernel)
set_option maxRecDepth 20000 in
theorem gX6_powMod_X6_small : GoodIn wsX6_powMod (wsV RX6 65 RX6 yX6_small wsX6_small) := goodIn_app (goodIn_of _ (by decide +kernel)) ggX6_powMod_X6_small
set_option maxRecDepth 20000 in
theorem ggX6_powMod_X6_timesRest : GoodIn wsX6_powMod wsX6_timesRest := goodIn_r _ [60, 61, 62, 63, 6, 64, 1, 13, 19, 2, 33, 34, 35, 36, 25, 26, 27, 28, 37, 38, 39, 40, 14, 15, 16, 17, 18, 20, 21, 22, 23, 24, 9, 10, 11, 12, 29, 30, 31, 32, 41, 42, 43, 44, 70, 71, 72, 73, 74, 75, 76, 77, 78] rfl (by decide +kernel)
set_option maxRecDepth 20000 in
theorem gX6_powMod_X6_timesRest : GoodIn wsX6_powMod (wsV RX6 96 RX6 yX6_timesRest wsX6_timesRest) := goodIn_app (goodIn_of _ (by decide +kernel)) ggX6_powMod_X6_timesRest
set_option maxRecDepth 20000 in
theorem ggX6_powMod_X6_digit : GoodIn wsX6_powMod wsX6_digit := goodIn_r _ [28, 1, 13, 70, 71, 72, 73, 74, 75, 76, 77, 78] rfl (by decide +kernel)
set_option maxRecDepth 20000 in
theorem gX6_powMod_X6_digit : GoodIn wsX6_powMod (wsV RX6 39 RX6 yX6_digit wsX6_digit) := goodIn_app (goodIn_of _ (by decide +kernel)) ggX6_powMod_X6_digit
set_option maxRecDepth 20000 in
theorem ggX6_powMod_X6_keep : GoodIn wsX6_powMod wsX6_keep := goodIn_r _ [68, 1, 69, 9, 10, 11, 6, 12, 13, 2, 70, 71, 72, 73, 74, 75, 76, 77, 78] rfl (by decide +kernel)
set_option maxRecDepth 20000 in
theorem gX6_powMod_X6_keep : GoodIn wsX6_powMod (wsV RX6 69 RX6 yX6_keep wsX6_keep) := goodIn_app (goodIn_of _ (by decide +kernel)) ggX6_powMod_X6_keep
theorem dX6_powMod_0 : decode cX6_powMod 0 = .ok (.aload_n 0, 1) := by decide +kernel
theorem dX6_powMod_1 : decode cX6_powMod 1 = .ok (.iload_n 1, 1) := by decide +kernel
theorem dX6_powMod_2 : decode cX6_powMod 2 = .ok (.invokevirtual 61, 3) := by decide +kernel
theorem dX6_powMod_5 : decode cX6_powMod 5 = .ok (.ifCond .eq 28, 3) := by decide +kernel
theorem dX6_powMod_8 : decode cX6_powMod 8 = .ok (.aload_n 0, 1) := by decide +kernel
theorem dX6_powMod_9 : decode cX6_powMod 9 = .ok (.iload_n 2, 1) := by decide +kernel
theorem dX6_powMod_10 : decode cX6_powMod 10 = .ok (.invokevirtual 61, 3) := by decide +kernel
theorem dX6_powMod_13 : decode cX6_powMod 13 = .ok (.ifCond .eq 20, 3) := by decide +kernel
theorem dX6_powMod_16 : decode cX6_powMod 16 = .ok (.aload_n 0, 1) := by decide +kernel
theorem dX6_powMod_17 : decode cX6_powMod 17 = .ok (.iload_n 3, 1) := by decide +kernel
theorem dX6_powMod_18 : decode cX6_powMod 18 = .ok (.invokevirtual 61, 3) := by decide +kernel
theorem dX6_powMod_21 : decode cX6_powMod 21 = .ok (.ifCond .eq 12, 3) := by decide +kernel
theorem dX6_powMod_24 : decode cX6_powMod 24 = .ok (.aload_n 0, 1) := by decide +kernel
theorem dX6_powMod_25 : decode cX6_powMod 25 = .ok (.iload 4, 2) := by decide +kernel
theorem dX6_powMod_27 : decode cX6_powMod 27 = .ok (.invokevirtual 61, 3) := by decide +kernel
theorem dX6_powMod_30 : decode cX6_powMod 30 = .ok (.ifCond .ne 5, 3) := by decide +kernel
theorem dX6_powMod_33 : decode cX6_powMod 33 = .ok (.iconst (-1), 1) := by decide +kernel
theorem dX6_powMod_34 : decode cX6_powMod 34 = .ok (.ireturn, 1) := by decide +kernel
theorem dX6_powMod_35 : decode cX6_powMod 35 = .ok (.aload_n 0, 1) := by decide +kernel
theorem dX6_powMod_36 : decode cX6_powMod 36 = .ok (.getfield 13, 3) := by decide +kernel
theorem dX6_powMod_39 : decode cX6_powMod 39 = .ok (.iload 4, 2) := by decide +kernel
theorem dX6_powMod_41 : decode cX6_powMod 41 = .ok (.iaload, 1) := by decide +kernel
theorem dX6_powMod_42 : decode cX6_powMod 42 = .ok (.ifCond .eq 32, 3) := by decide +kernel
theorem dX6_powMod_45 : decode cX6_powMod 45 = .ok (.aload_n 0, 1) := by decide +kernel
theorem dX6_powMod_46 : decode cX6_powMod 46 = .ok (.getfield 16, 3) := by decide +kernel
theorem dX6_powMod_49 : decode cX6_powMod 49 = .ok (.iload 4, 2) := by decide +kernel
theorem dX6_powMod_51 : decode cX6_powMod 51 = .ok (.baload, 1) := by decide +kernel
theorem dX6_powMod_52 : decode cX6_powMod 52 = .ok (.ifCond .ne 22, 3) := by decide +kernel
theorem dX6_powMod_55 : decode cX6_powMod 55 = .ok (.aload_n 0, 1) := by decide +kernel
theorem dX6_powMod_56 : decode cX6_powMod 56 = .ok (.getfield 16, 3) := by decide +kernel
theorem dX6_powMod_59 : decode cX6_powMod 59 = .ok (.iload_n 3, 1) := by decide +kernel
theorem dX6_powMod_60 : decode cX6_powMod 60 = .ok (.baload, 1) := by decide +kernel
theorem dX6_powMod_61 : decode cX6_powMod 61 = .ok (.ifCond .ne 13, 3) := by decide +kernel
theorem dX6_powMod_64 : decode cX6_powMod 64 = .ok (.aload_n 0, 1) := by decide +kernel
theorem dX6_powMod_65 : decode cX6_powMod 65 = .ok (.getfield 13, 3) := by decide +kernel
theorem dX6_powMod_68 : decode cX6_powMod 68 = .ok (.iload_n 3, 1) := by decide +kernel
theorem dX6_powMod_69 : decode cX6_powMod 69 = .ok (.iaload, 1) := by decide +kernel
theorem dX6_powMod_70 : decode cX6_powMod 70 = .ok (.iconst 4, 1) := by decide +kernel
theorem dX6_powMod_71 : decode cX6_powMod 71 = .ok (.if_icmp .le 6, 3) := by decide +kernel
theorem dX6_powMod_74 : decode cX6_powMod 74 = .ok (.bipush (-2), 2) := by decide +kernel
theorem dX6_powMod_76 : decode cX6_powMod 76 = .ok (.ireturn, 1) := by decide +kernel
theorem dX6_powMod_77 : decode cX6_powMod 77 = .ok (.aload_n 0, 1) := by decide +kernel
theorem dX6_powMod_78 : decode cX6_powMod 78 = .ok (.bipush 22, 2) := by decide +kernel
theorem dX6_powMod_80 : decode cX6_powMod 80 = .ok (.iload 4, 2) := by decide +kernel
theorem dX6_powMod_82 : decode cX6_powMod 82 = .ok (.invokevirtual 51, 3) := by decide +kernel
theorem dX6_powMod_85 : decode cX6_powMod 85 = .ok (.aload_n 0, 1) := by decide +kernel
theorem dX6_powMod_86 : decode cX6_powMod 86 = .ok (.iload_n 2, 1) := by decide +kernel
theorem dX6_powMod_87 : decode cX6_powMod 87 = .ok (.bipush 22, 2) := by decide +kernel
theorem dX6_powMod_89 : decode cX6_powMod 89 = .ok (.invokevirtual 87, 3) := by decide +kernel
theorem dX6_powMod_92 : decode cX6_powMod 92 = .ok (.aload_n 0, 1) := by decide +kernel
theorem dX6_powMod_93 : decode cX6_powMod 93 = .ok (.bipush 21, 2) := by decide +kernel
theorem dX6_powMod_95 : decode cX6_powMod 95 = .ok (.bipush 17, 2) := by decide +kernel
theorem dX6_powMod_97 : decode cX6_powMod 97 = .ok (.invokevirtual 51, 3) := by decide +kernel
theorem dX6_powMod_100 : decode cX6_powMod 100 = .ok (.aload_n 0, 1) := by decide +kernel
theorem dX6_powMod_101 : decode cX6_powMod 101 = .ok (.getfield 16, 3) := by decide +kernel
theorem dX6_powMod_104 : decode cX6_powMod 104 = .ok (.iload_n 2, 1) := by decide +kernel
theorem dX6_powMod_105 : decode cX6_powMod 105 = .ok (.baload, 1) := by decide +kernel
theorem dX6_powMod_106 : decode cX6_powMod 106 = .ok (.ifCond .eq 23, 3) := by decide +kernel
theorem dX6_powMod_109 : decode cX6_powMod 109 = .ok (.aload_n 0, 1) := by decide +kernel
theorem dX6_powMod_110 : decode cX6_powMod 110 = .ok (.getfield 13, 3) := by decide +kernel
theorem dX6_powMod_113 : decode cX6_powMod 113 = .ok (.bipush 17, 2) := by decide +kernel
theorem dX6_powMod_115 : decode cX6_powMod 115 = .ok (.iaload, 1) := by decide +kernel
theorem dX6_powMod_116 : decode cX6_powMod 116 = .ok (.ifCond .le 13, 3) := by decide +kernel
theorem dX6_powMod_119 : decode cX6_powMod 119 = .ok (.aload_n 0, 1) := by decide +kernel
theorem dX6_powMod_120 : decode cX6_powMod 120 = .ok (.bipush 21, 2) := by decide +kernel
theorem dX6_powMod_122 : decode cX6_powMod 122 = .ok (.bipush 22, 2) := by decide +kernel
theorem dX6_powMod_124 : decode cX6_powMod 124 = .ok (.bipush 17, 2) := by decide +kernel
theorem dX6_powMod_126 : decode cX6_powMod 126 = .ok (.invokevirtual 77, 3) := by decide +kernel
theorem dX6_powMod_129 : decode cX6_powMod 129 = .ok (.aload_n 0, 1) := by decide +kernel
theorem dX6_powMod_130 : decode cX6_powMod 130 = .ok (.getfield 16, 3) := by decide +kernel
theorem dX6_powMod_133 : decode cX6_powMod 133 = .ok (.bipush 21, 2) := by decide +kernel
theorem dX6_powMod_135 : decode cX6_powMod 135 = .ok (.iconst 0, 1) := by decide +kernel
theorem dX6_powMod_136 : decode cX6_powMod 136 = .ok (.bastore, 1) := by decide +kernel
theorem dX6_powMod_137 : decode cX6_powMod 137 = .ok (.aload_n 0, 1) := by decide +kernel
theorem dX6_powMod_138 : decode cX6_powMod 138 = .ok (.iload_n 3, 1) := by decide +kernel
theorem dX6_powMod_139 : decode cX6_powMod 139 = .ok (.invokevirtual 90, 3) := by decide +kernel
theorem dX6_powMod_142 : decode cX6_powMod 142 = .ok (.istore 5, 2) := by decide +kernel
theorem dX6_powMod_144 : decode cX6_powMod 144 = .ok (.aload_n 0, 1) := by decide +kernel
theorem dX6_powMod_145 : decode cX6_powMod 145 = .ok (.bipush 13, 2) := by decide +kernel
theorem dX6_powMod_147 : decode cX6_powMod 147 = .ok (.iload_n 3, 1) := by decide +kernel
theorem dX6_powMod_148 : decode cX6_powMod 148 = .ok (.invokevirtual 51, 3) := by decide +kernel
theorem dX6_powMod_151 : decode cX6_powMod 151 = .ok (.aload_n 0, 1) := by decide +kernel
theorem dX6_powMod_152 : decode cX6_powMod 152 = .ok (.bipush 12, 2) := by decide +kernel
theorem dX6_powMod_154 : decode cX6_powMod 154 = .ok (.lconst 1, 1) := by decide +kernel
theorem dX6_powMod_155 : decode cX6_powMod 155 = .ok (.invokevirtual 65, 3) := by decide +kernel
theorem dX6_powMod_158 : decode cX6_powMod 158 = .ok (.aload_n 0, 1) := by decide +kernel
theorem dX6_powMod_159 : decode cX6_powMod 159 = .ok (.bipush 12, 2) := by decide +kernel
theorem dX6_powMod_161 : decode cX6_powMod 161 = .ok (.bipush 22, 2) := by decide +kernel
theorem dX6_powMod_163 : decode cX6_powMod 163 = .ok (.invokevirtual 87, 3) := by decide +kernel
theorem dX6_powMod_166 : decode cX6_powMod 166 = .ok (.aload_n 0, 1) := by decide +kernel
theorem dX6_powMod_167 : decode cX6_powMod 167 = .ok (.bipush 20, 2) := by decide +kernel
theorem dX6_powMod_169 : decode cX6_powMod 169 = .ok (.bipush 17, 2) := by decide +kernel
theorem dX6_powMod_171 : decode cX6_powMod 171 = .ok (.invokevirtual 51, 3) := by decide +kernel
theorem dX6_powMod_174 : decode cX6_powMod 174 = .ok (.iload 5, 2) := by decide +kernel
theorem dX6_powMod_176 : decode cX6_powMod 176 = .ok (.iconst 1, 1) := by decide +kernel
theorem dX6_powMod_177 : decode cX6_powMod 177 = .ok (.isub, 1) := by decide +kernel
theorem dX6_powMod_178 : decode cX6_powMod 178 = .ok (.istore 6, 2) := by decide +kernel
theorem dX6_powMod_180 : decode cX6_powMod 180 = .ok (.iload 6, 2) := by decide +kernel
theorem dX6_powMod_182 : decode cX6_powMod 182 = .ok (.ifCond .lt 51, 3) := by decide +kernel
theorem dX6_powMod_185 : decode cX6_powMod 185 = .ok (.aload_n 0, 1) := by decide +kernel
theorem dX6_powMod_186 : decode cX6_powMod 186 = .ok (.bipush 12, 2) := by decide +kernel
theorem dX6_powMod_188 : decode cX6_powMod 188 = .ok (.bipush 20, 2) := by decide +kernel
theorem dX6_powMod_190 : decode cX6_powMod 190 = .ok (.invokevirtual 51, 3) := by decide +kernel
theorem dX6_powMod_193 : decode cX6_powMod 193 = .ok (.aload_n 0, 1) := by decide +kernel
theorem dX6_powMod_194 : decode cX6_powMod 194 = .ok (.bipush 12, 2) := by decide +kernel
theorem dX6_powMod_196 : decode cX6_powMod 196 = .ok (.invokevirtual 96, 3) := by decide +kernel
theorem dX6_powMod_199 : decode cX6_powMod 199 = .ok (.aload_n 0, 1) := by decide +kernel
theorem dX6_powMod_200 : decode cX6_powMod 200 = .ok (.bipush 13, 2) := by decide +kernel
theorem dX6_powMod_202 : decode cX6_powMod 202 = .ok (.iload 6, 2) := by decide +kernel
theorem dX6_powMod_204 : decode cX6_powMod 204 = .ok (.iconst 4, 1) := by decide +kernel
theorem dX6_powMod_205 : decode cX6_powMod 205 = .ok (.ishr, 1) := by decide +kernel
theorem dX6_powMod_206 : decode cX6_powMod 206 = .ok (.invokevirtual 39, 3) := by decide +kernel
theorem dX6_powMod_209 : decode cX6_powMod 209 = .ok (.iload 6, 2) := by decide +kernel
theorem dX6_powMod_211 : decode cX6_powMod 211 = .ok (.bipush 15, 2) := by decide +kernel
theorem dX6_powMod_213 : decode cX6_powMod 213 = .ok (.iand, 1) := by decide +kernel
theorem dX6_powMod_214 : decode cX6_powMod 214 = .ok (.ishr, 1) := by decide +kernel
theorem dX6_powMod_215 : decode cX6_powMod 215 = .ok (.iconst 1, 1) := by decide +kernel
theorem dX6_powMod_216 : decode cX6_powMod 216 = .ok (.iand, 1) := by decide +kernel
theorem dX6_powMod_217 : decode cX6_powMod 217 = .ok (.iconst 1, 1) := by decide +kernel
theorem dX6_powMod_218 : decode cX6_powMod 218 = .ok (.if_icmp .ne 9, 3) := by decide +kernel
theorem dX6_powMod_221 : decode cX6_powMod 221 = .ok (.aload_n 0, 1) := by decide +kernel
theorem dX6_powMod_222 : decode cX6_powMod 222 = .ok (.bipush 21, 2) := by decide +kernel
theorem dX6_powMod_224 : decode cX6_powMod 224 = .ok (.invokevirtual 96, 3) := by decide +kernel
theorem dX6_powMod_227 : decode cX6_powMod 227 = .ok (.iinc 6 (-1), 3) := by decide +kernel
theorem dX6_powMod_230 : decode cX6_powMod 230 = .ok (.goto (-50), 3) := by decide +kernel
theorem dX6_powMod_233 : decode cX6_powMod 233 = .ok (.aload_n 0, 1) := by decide +kernel
theorem dX6_powMod_234 : decode cX6_powMod 234 = .ok (.iload_n 1, 1) := by decide +kernel
theorem dX6_powMod_235 : decode cX6_powMod 235 = .ok (.bipush 20, 2) := by decide +kernel
theorem dX6_powMod_237 : decode cX6_powMod 237 = .ok (.invokevirtual 69, 3) := by decide +kernel
theorem dX6_powMod_240 : decode cX6_powMod 240 = .ok (.ireturn, 1) := by decide +kernel
set_option maxRecDepth 20000 in
theorem ggX6_root_X6_is : GoodIn wsX6_root wsX6_is := goodIn_r _ [8, 9, 62, 63, 64, 65, 66, 67, 68, 69, 70] rfl (by decide +kernel)
set_option maxRecDepth 20000 in
theorem gX6_root_X6_is : GoodIn wsX6_root (wsV RX6 61 RX6 yX6_is wsX6_is) := goodIn_app (goodIn_of _ (by decide +kernel)) ggX6_root_X6_is
set_option maxRecDepth 20000 in
theorem ggX6_root_X6_bitsOf : GoodIn wsX6_root wsX6_bitsOf := goodIn_r _ [13, 2, 14, 15, 16, 7, 17, 18, 62, 63, 64, 65, 66, 67, 68, 69, 70] rfl (by decide +kernel)
set_option maxRecDepth 20000 in
theorem gX6_root_X6_bitsOf : GoodIn wsX6_root (wsV RX6 90 RX6 yX6_bitsOf wsX6_bitsOf) := goodIn_app (goodIn_of _ (by decide +kernel)) ggX6_root_X6_bitsOf
set_option maxRecDepth 20000 in
theorem ggX6_root_X6_digit : GoodIn wsX6_root wsX6_digit := goodIn_r _ [17, 2, 18, 62, 63, 64, 65, 66, 67, 68, 69, 70] rfl (by decide +kernel)
set_option maxRecDepth 20000 in
theorem gX6_root_X6_digit : GoodIn wsX6_root (wsV RX6 39 RX6 yX6_digit wsX6_digit) := goodIn_app (goodIn_of _ (by decide +kernel)) ggX6_root_X6_digit
set_option maxRecDepth 20000 in
theorem ggX6_root_X6_shiftUp : GoodIn wsX6_root wsX6_shiftUp := goodIn_r _ [22, 2, 23, 14, 15, 16, 7, 17, 18, 24, 25, 26, 27, 28, 29, 30, 31, 1, 62, 63, 64, 65, 66, 67, 68, 69, 70] rfl (by decide +kernel)
set_option maxRecDepth 20000 in
theorem gX6_root_X6_shiftUp : GoodIn wsX6_root (wsV RX6 55 RX6 yX6_shiftUp wsX6_shiftUp) := goodIn_app (goodIn_of _ (by decide +kernel)) ggX6_root_X6_shiftUp
set_option maxRecDepth 20000 in
theorem ggX6_root_X6_small : GoodIn wsX6_root wsX6_small := goodIn_r _ [35, 36, 2, 1, 24, 25, 26, 7, 27, 18, 62, 63, 64, 65, 66, 67, 68, 69, 70] rfl (by decide +kernel)
set_option maxRecDepth 20000 in
theorem gX6_root_X6_small : GoodIn wsX6_root (wsV RX6 65 RX6 yX6_small wsX6_small) := goodIn_app (goodIn_of _ (by decide +kernel)) ggX6_root_X6_small
set_option maxRecDepth 20000 in
theorem ggX6_root_X6_plus : GoodIn wsX6_root wsX6_plus := goodIn_r _ [40, 2, 23, 14, 15, 16, 7, 17, 18, 24, 25, 26, 27, 28, 29, 30, 31, 1, 62, 63, 64, 65, 66, 67, 68, 69, 70] rfl (by decide +kernel)
set_option maxRecDepth 20000 in
theorem gX6_root_X6_plus : GoodIn wsX6_root (wsV RX6 74 RX6 yX6_plus wsX6_plus) := goodIn_app (goodIn_of _ (by decide +kernel)) ggX6_root_X6_plus
set_option maxRecDepth 20000 in
theorem ggX6_root_X6_order : GoodIn wsX6_root wsX6_order := goodIn_r _ [44, 2, 14, 15, 16, 7, 17, 18, 62, 63, 64, 65, 66, 67, 68, 69, 70] rfl (by decide +kernel)
set_option maxRecDepth 20000 in
theorem gX6_root_X6_order : GoodIn wsX6_root (wsV RX6 48 RX6 yX6_order wsX6_order) := goodIn_app (goodIn_of _ (by decide +kernel)) ggX6_root_X6_order
set_option maxRecDepth 20000 in
theorem ggX6_root_X6_minus : GoodIn wsX6_root wsX6_minus := goodIn_r _ [48, 2, 23, 14, 15, 16, 7, 17, 18, 24, 25, 26, 27, 28, 29, 30, 31, 1, 62, 63, 64, 65, 66, 67, 68, 69, 70] rfl (by decide +kernel)
set_option maxRecDepth 20000 in
theorem gX6_root_X6_minus : GoodIn wsX6_root (wsV RX6 77 RX6 yX6_minus wsX6_minus) := goodIn_app (goodIn_of _ (by decide +kernel)) ggX6_root_X6_minus
set_option maxRecDepth 20000 in
theorem ggX6_root_X6_move : GoodIn wsX6_root wsX6_move := goodIn_r _ [52, 2, 18, 1, 62, 63, 64, 65, 66, 67, 68, 69, 70] rfl (by decide +kernel)
set_option maxRecDepth 20000 in
theorem gX6_root_X6_move : GoodIn wsX6_root (wsV RX6 51 RX6 yX6_move wsX6_move) := goodIn_app (goodIn_of _ (by decide +kernel)) ggX6_root_X6_move
set_option maxRecDepth 20000 in
theorem ggX6_root_X6_shiftDown : GoodIn wsX6_root wsX6_shiftDown := goodIn_r _ [56, 2, 18, 23, 24, 25, 26, 7, 27, 28, 29, 30, 31, 1, 62, 63, 64, 65, 66, 67, 68, 69, 70] rfl (by decide +kernel)
set_option maxRecDepth 20000 in
theorem gX6_root_X6_shiftDown : GoodIn wsX6_root (wsV RX6 58 RX6 yX6_shiftDown wsX6_shiftDown) := goodIn_app (goodIn_of _ (by decide +kernel)) ggX6_root_X6_shiftDown
set_option maxRecDepth 20000 in
theorem ggX6_root_X6_keep : GoodIn wsX6_root wsX6_keep := goodIn_r _ [60, 2, 61, 49, 50, 51, 7, 52, 18, 1, 62, 63, 64, 65, 66, 67, 68, 69, 70] rfl (by decide +kernel)
set_option maxRecDepth 20000 in
theorem gX6_root_X6_keep : GoodIn wsX6_root (wsV RX6 69 RX6 yX6_keep wsX6_keep) := goodIn_app (goodIn_of _ (by decide +kernel)) ggX6_root_X6_keep
theorem dX6_root_0 : decode cX6_root 0 = .ok (.aload_n 0, 1) := by decide +kernel
theorem dX6_root_1 : decode cX6_root 1 = .ok (.iload_n 1, 1) := by decide +kernel
theorem dX6_root_2 : decode cX6_root 2 = .ok (.invokevirtual 61, 3) := by decide +kernel
theorem dX6_root_5 : decode cX6_root 5 = .ok (.ifCond .eq 11, 3) := by decide +kernel
theorem dX6_root_8 : decode cX6_root 8 = .ok (.aload_n 0, 1) := by decide +kernel
theorem dX6_root_9 : decode cX6_root 9 = .ok (.iload_n 2, 1) := by decide +kernel
theorem dX6_root_10 : decode cX6_root 10 = .ok (.invokevirtual 61, 3) := by decide +kernel
theorem dX6_root_13 : decode cX6_root 13 = .ok (.ifCond .ne 5, 3) := by decide +kernel
theorem dX6_root_16 : decode cX6_root 16 = .ok (.iconst (-1), 1) := by decide +kernel
theorem dX6_root_17 : decode cX6_root 17 = .ok (.ireturn, 1) := by decide +kernel
theorem dX6_root_18 : decode cX6_root 18 = .ok (.aload_n 0, 1) := by decide +kernel
theorem dX6_root_19 : decode cX6_root 19 = .ok (.getfield 16, 3) := by decide +kernel
theorem dX6_root_22 : decode cX6_root 22 = .ok (.iload_n 2, 1) := by decide +kernel
theorem dX6_root_23 : decode cX6_root 23 = .ok (.baload, 1) := by decide +kernel
theorem dX6_root_24 : decode cX6_root 24 = .ok (.ifCond .eq 6, 3) := by decide +kernel
theorem dX6_root_27 : decode cX6_root 27 = .ok (.bipush (-2), 2) := by decide +kernel
theorem dX6_root_29 : decode cX6_root 29 = .ok (.ireturn, 1) := by decide +kernel
theorem dX6_root_30 : decode cX6_root 30 = .ok (.aload_n 0, 1) := by decide +kernel
theorem dX6_root_31 : decode cX6_root 31 = .ok (.getfield 13, 3) := by decide +kernel
theorem dX6_root_34 : decode cX6_root 34 = .ok (.bipush 20, 2) := by decide +kernel
theorem dX6_root_36 : decode cX6_root 36 = .ok (.iconst 0, 1) := by decide +kernel
theorem dX6_root_37 : decode cX6_root 37 = .ok (.iastore, 1) := by decide +kernel
theorem dX6_root_38 : decode cX6_root 38 = .ok (.aload_n 0, 1) := by decide +kernel
theorem dX6_root_39 : decode cX6_root 39 = .ok (.getfield 13, 3) := by decide +kernel
theorem dX6_root_42 : decode cX6_root 42 = .ok (.bipush 21, 2) := by decide +kernel
theorem dX6_root_44 : decode cX6_root 44 = .ok (.iconst 0, 1) := by decide +kernel
theorem dX6_root_45 : decode cX6_root 45 = .ok (.iastore, 1) := by decide +kernel
theorem dX6_root_46 : decode cX6_root 46 = .ok (.aload_n 0, 1) := by decide +kernel
theorem dX6_root_47 : decode cX6_root 47 = .ok (.getfield 16, 3) := by decide +kernel
theorem dX6_root_50 : decode cX6_root 50 = .ok (.bipush 20, 2) := by decide +kernel
theorem dX6_root_52 : decode cX6_root 52 = .ok (.iconst 0, 1) := by decide +kernel
theorem dX6_root_53 : decode cX6_root 53 = .ok (.bastore, 1) := by decide +kernel
theorem dX6_root_54 : decode cX6_root 54 = .ok (.aload_n 0, 1) := by decide +kernel
theorem dX6_root_55 : decode cX6_root 55 = .ok (.getfield 16, 3) := by decide +kernel
theorem dX6_root_58 : decode cX6_root 58 = .ok (.bipush 21, 2) := by decide +kernel
theorem dX6_root_60 : decode cX6_root 60 = .ok (.iconst 0, 1) := by decide +kernel
theorem dX6_root_61 : decode cX6_root 61 = .ok (.bastore, 1) := by decide +kernel
theorem dX6_root_62 : decode cX6_root 62 = .ok (.aload_n 0, 1) := by decide +kernel
theorem dX6_root_63 : decode cX6_root 63 = .ok (.iload_n 2, 1) := by decide +kernel
theorem dX6_root_64 : decode cX6_root 64 = .ok (.invokevirtual 90, 3) := by decide +kernel
theorem dX6_root_67 : decode cX6_root 67 = .ok (.iconst 1, 1) := by decide +kernel
theorem dX6_root_68 : decode cX6_root 68 = .ok (.iadd, 1) := by decide +kernel
theorem dX6_root_69 : decode cX6_root 69 = .ok (.iconst 2, 1) := by decide +kernel
theorem dX6_root_70 : decode cX6_root 70 = .ok (.idiv, 1) := by decide +kernel
theorem dX6_root_71 : decode cX6_root 71 = .ok (.iconst 1, 1) := by decide +kernel
theorem dX6_root_72 : decode cX6_root 72 = .ok (.isub, 1) := by decide +kernel
theorem dX6_root_73 : decode cX6_root 73 = .ok (.istore_n 3, 1) := by decide +kernel
theorem dX6_root_74 : decode cX6_root 74 = .ok (.iload_n 3, 1) := by decide +kernel
theorem dX6_root_75 : decode cX6_root 75 = .ok (.ifCond .lt 141, 3) := by decide +kernel
theorem dX6_root_78 : decode cX6_root 78 = .ok (.aload_n 0, 1) := by decide +kernel
theorem dX6_root_79 : decode cX6_root 79 = .ok (.iload_n 2, 1) := by decide +kernel
theorem dX6_root_80 : decode cX6_root 80 = .ok (.iload_n 3, 1) := by decide +kernel
theorem dX6_root_81 : decode cX6_root 81 = .ok (.iconst 3, 1) := by decide +kernel
theorem dX6_root_82 : decode cX6_root 82 = .ok (.ishr, 1) := by decide +kernel
theorem dX6_root_83 : decode cX6_root 83 = .ok (.invokevirtual 39, 3) := by decide +kernel
theorem dX6_root_86 : decode cX6_root 86 = .ok (.iconst 2, 1) := by decide +kernel
theorem dX6_root_87 : decode cX6_root 87 = .ok (.iload_n 3, 1) := by decide +kernel
theorem dX6_root_88 : decode cX6_root 88 = .ok (.bipush 7, 2) := by decide +kernel
theorem dX6_root_90 : decode cX6_root 90 = .ok (.iand, 1) := by decide +kernel
theorem dX6_root_91 : decode cX6_root 91 = .ok (.imul, 1) := by decide +kernel
theorem dX6_root_92 : decode cX6_root 92 = .ok (.ishr, 1) := by decide +kernel
theorem dX6_root_93 : decode cX6_root 93 = .ok (.iconst 3, 1) := by decide +kernel
theorem dX6_root_94 : decode cX6_root 94 = .ok (.iand, 1) := by decide +kernel
theorem dX6_root_95 : decode cX6_root 95 = .ok (.istore 4, 2) := by decide +kernel
theorem dX6_root_97 : decode cX6_root 97 = .ok (.aload_n 0, 1) := by decide +kernel
theorem dX6_root_98 : decode cX6_root 98 = .ok (.bipush 12, 2) := by decide +kernel
theorem dX6_root_100 : decode cX6_root 100 = .ok (.bipush 20, 2) := by decide +kernel
theorem dX6_root_102 : decode cX6_root 102 = .ok (.iconst 2, 1) := by decide +kernel
theorem dX6_root_103 : decode cX6_root 103 = .ok (.invokevirtual 55, 3) := by decide +kernel
theorem dX6_root_106 : decode cX6_root 106 = .ok (.aload_n 0, 1) := by decide +kernel
theorem dX6_root_107 : decode cX6_root 107 = .ok (.bipush 13, 2) := by decide +kernel
theorem dX6_root_109 : decode cX6_root 109 = .ok (.iload 4, 2) := by decide +kernel
theorem dX6_root_111 : decode cX6_root 111 = .ok (.i2l, 1) := by decide +kernel
theorem dX6_root_112 : decode cX6_root 112 = .ok (.invokevirtual 65, 3) := by decide +kernel
theorem dX6_root_115 : decode cX6_root 115 = .ok (.aload_n 0, 1) := by decide +kernel
theorem dX6_root_116 : decode cX6_root 116 = .ok (.bipush 20, 2) := by decide +kernel
theorem dX6_root_118 : decode cX6_root 118 = .ok (.bipush 12, 2) := by decide +kernel
theorem dX6_root_120 : decode cX6_root 120 = .ok (.bipush 13, 2) := by decide +kernel
theorem dX6_root_122 : decode cX6_root 122 = .ok (.invokevirtual 74, 3) := by decide +kernel
theorem dX6_root_125 : decode cX6_root 125 = .ok (.aload_n 0, 1) := by decide +kernel
theorem dX6_root_126 : decode cX6_root 126 = .ok (.bipush 12, 2) := by decide +kernel
theorem dX6_root_128 : decode cX6_root 128 = .ok (.bipush 21, 2) := by decide +kernel
theorem dX6_root_130 : decode cX6_root 130 = .ok (.iconst 1, 1) := by decide +kernel
theorem dX6_root_131 : decode cX6_root 131 = .ok (.invokevirtual 55, 3) := by decide +kernel
theorem dX6_root_134 : decode cX6_root 134 = .ok (.aload_n 0, 1) := by decide +kernel
theorem dX6_root_135 : decode cX6_root 135 = .ok (.bipush 13, 2) := by decide +kernel
theorem dX6_root_137 : decode cX6_root 137 = .ok (.lconst 1, 1) := by decide +kernel
theorem dX6_root_138 : decode cX6_root 138 = .ok (.invokevirtual 65, 3) := by decide +kernel
theorem dX6_root_141 : decode cX6_root 141 = .ok (.aload_n 0, 1) := by decide +kernel
theorem dX6_root_142 : decode cX6_root 142 = .ok (.bipush 14, 2) := by decide +kernel
theorem dX6_root_144 : decode cX6_root 144 = .ok (.bipush 12, 2) := by decide +kernel
theorem dX6_root_146 : decode cX6_root 146 = .ok (.bipush 13, 2) := by decide +kernel
theorem dX6_root_148 : decode cX6_root 148 = .ok (.invokevirtual 74, 3) := by decide +kernel
theorem dX6_root_151 : decode cX6_root 151 = .ok (.aload_n 0, 1) := by decide +kernel
theorem dX6_root_152 : decode cX6_root 152 = .ok (.bipush 14, 2) := by decide +kernel
theorem dX6_root_154 : decode cX6_root 154 = .ok (.bipush 20, 2) := by decide +kernel
theorem dX6_root_156 : decode cX6_root 156 = .ok (.invokevirtual 48, 3) := by decide +kernel
theorem dX6_root_159 : decode cX6_root 159 = .ok (.ifCond .gt 43, 3) := by decide +kernel
theorem dX6_root_162 : decode cX6_root 162 = .ok (.aload_n 0, 1) := by decide +kernel
theorem dX6_root_163 : decode cX6_root 163 = .ok (.bipush 15, 2) := by decide +kernel
theorem dX6_root_165 : decode cX6_root 165 = .ok (.bipush 20, 2) := by decide +kernel
theorem dX6_root_167 : decode cX6_root 167 = .ok (.bipush 14, 2) := by decide +kernel
theorem dX6_root_169 : decode cX6_root 169 = .ok (.invokevirtual 77, 3) := by decide +kernel
theorem dX6_root_172 : decode cX6_root 172 = .ok (.aload_n 0, 1) := by decide +kernel
theorem dX6_root_173 : decode cX6_root 173 = .ok (.bipush 20, 2) := by decide +kernel
theorem dX6_root_175 : decode cX6_root 175 = .ok (.bipush 15, 2) := by decide +kernel
theorem dX6_root_177 : decode cX6_root 177 = .ok (.invokevirtual 51, 3) := by decide +kernel
theorem dX6_root_180 : decode cX6_root 180 = .ok (.aload_n 0, 1) := by decide +kernel
theorem dX6_root_181 : decode cX6_root 181 = .ok (.bipush 13, 2) := by decide +kernel
theorem dX6_root_183 : decode cX6_root 183 = .ok (.ldc2_w 100, 3) := by decide +kernel
theorem dX6_root_186 : decode cX6_root 186 = .ok (.invokevirtual 65, 3) := by decide +kernel
theorem dX6_root_189 : decode cX6_root 189 = .ok (.aload_n 0, 1) := by decide +kernel
theorem dX6_root_190 : decode cX6_root 190 = .ok (.bipush 21, 2) := by decide +kernel
theorem dX6_root_192 : decode cX6_root 192 = .ok (.bipush 12, 2) := by decide +kernel
theorem dX6_root_194 : decode cX6_root 194 = .ok (.bipush 13, 2) := by decide +kernel
theorem dX6_root_196 : decode cX6_root 196 = .ok (.invokevirtual 74, 3) := by decide +kernel
theorem dX6_root_199 : decode cX6_root 199 = .ok (.goto 11, 3) := by decide +kernel
theorem dX6_root_202 : decode cX6_root 202 = .ok (.aload_n 0, 1) := by decide +kernel
theorem dX6_root_203 : decode cX6_root 203 = .ok (.bipush 21, 2) := by decide +kernel
theorem dX6_root_205 : decode cX6_root 205 = .ok (.bipush 12, 2) := by decide +kernel
theorem dX6_root_207 : decode cX6_root 207 = .ok (.invokevirtual 51, 3) := by decide +kernel
theorem dX6_root_210 : decode cX6_root 210 = .ok (.iinc 3 (-1), 3) := by decide +kernel
theorem dX6_root_213 : decode cX6_root 213 = .ok (.goto (-139), 3) := by decide +kernel
theorem dX6_root_216 : decode cX6_root 216 = .ok (.aload_n 0, 1) := by decide +kernel
theorem dX6_root_217 : decode cX6_root 217 = .ok (.bipush 14, 2) := by decide +kernel
theorem dX6_root_219 : decode cX6_root 219 = .ok (.bipush 21, 2) := by decide +kernel
theorem dX6_root_221 : decode cX6_root 221 = .ok (.iconst 1, 1) := by decide +kernel
theorem dX6_root_222 : decode cX6_root 222 = .ok (.invokevirtual 58, 3) := by decide +kernel
theorem dX6_root_225 : decode cX6_root 225 = .ok (.aload_n 0, 1) := by decide +kernel
theorem dX6_root_226 : decode cX6_root 226 = .ok (.getfield 16, 3) := by decide +kernel
theorem dX6_root_229 : decode cX6_root 229 = .ok (.bipush 14, 2) := by decide +kernel
theorem dX6_root_231 : decode cX6_root 231 = .ok (.iconst 0, 1) := by decide +kernel
theorem dX6_root_232 : decode cX6_root 232 = .ok (.bastore, 1) := by decide +kernel
theorem dX6_root_233 : decode cX6_root 233 = .ok (.aload_n 0, 1) := by decide +kernel
theorem dX6_root_234 : decode cX6_root 234 = .ok (.iload_n 1, 1) := by decide +kernel
theorem dX6_root_235 : decode cX6_root 235 = .ok (.bipush 14, 2) := by decide +kernel
theorem dX6_root_237 : decode cX6_root 237 = .ok (.invokevirtual 69, 3) := by decide +kernel
theorem dX6_root_240 : decode cX6_root 240 = .ok (.ireturn, 1) := by decide +kernel
set_option maxRecDepth 20000 in
theorem ggX6_cmp_X6_is : GoodIn wsX6_cmp wsX6_is := goodIn_r _ [6, 7, 18, 19, 20, 21, 22, 23, 24, 25, 26] rfl (by decide +kernel)
set_option maxRecDepth 20000 in
theorem gX6_cmp_X6_is : GoodIn wsX6_cmp (wsV RX6 61 RX6 yX6_is wsX6_is) := goodIn_app (goodIn_of _ (by decide +kernel)) ggX6_cmp_X6_is
set_option maxRecDepth 20000 in
theorem ggX6_cmp_X6_order : GoodIn wsX6_cmp wsX6_order := goodIn_r _ [11, 12, 13, 14, 15, 5, 16, 17, 18, 19, 20, 21, 22, 23, 24, 25, 26] rfl (by decide +kernel)
set_option maxRecDepth 20000 in
theorem gX6_cmp_X6_order : GoodIn wsX6_cmp (wsV RX6 48 RX6 yX6_order wsX6_order) := goodIn_app (goodIn_of _ (by decide +kernel)) ggX6_cmp_X6_order
theorem dX6_cmp_0 : decode cX6_cmp 0 = .ok (.aload_n 0, 1) := by decide +kernel
theorem dX6_cmp_1 : decode cX6_cmp 1 = .ok (.iload_n 1, 1) := by decide +kernel
theorem dX6_cmp_2 : decode cX6_cmp 2 = .ok (.invokevirtual 61, 3) := by decide +kernel
theorem dX6_cmp_5 : decode cX6_cmp 5 = .ok (.ifCond .eq 11, 3) := by decide +kernel
theorem dX6_cmp_8 : decode cX6_cmp 8 = .ok (.aload_n 0, 1) := by decide +kernel
theorem dX6_cmp_9 : decode cX6_cmp 9 = .ok (.iload_n 2, 1) := by decide +kernel
theorem dX6_cmp_10 : decode cX6_cmp 10 = .ok (.invokevirtual 61, 3) := by decide +kernel
theorem dX6_cmp_13 : decode cX6_cmp 13 = .ok (.ifCond .ne 5, 3) := by decide +kernel
theorem dX6_cmp_16 : decode cX6_cmp 16 = .ok (.iconst 2, 1) := by decide +kernel
theorem dX6_cmp_17 : decode cX6_cmp 17 = .ok (.ireturn, 1) := by decide +kernel
theorem dX6_cmp_18 : decode cX6_cmp 18 = .ok (.aload_n 0, 1) := by decide +kernel
theorem dX6_cmp_19 : decode cX6_cmp 19 = .ok (.getfield 16, 3) := by decide +kernel
theorem dX6_cmp_22 : decode cX6_cmp 22 = .ok (.iload_n 1, 1) := by decide +kernel
theorem dX6_cmp_23 : decode cX6_cmp 23 = .ok (.baload, 1) := by decide +kernel
theorem dX6_cmp_24 : decode cX6_cmp 24 = .ok (.aload_n 0, 1) := by decide +kernel
theorem dX6_cmp_25 : decode cX6_cmp 25 = .ok (.getfield 16, 3) := by decide +kernel
theorem dX6_cmp_28 : decode cX6_cmp 28 = .ok (.iload_n 2, 1) := by decide +kernel
theorem dX6_cmp_29 : decode cX6_cmp 29 = .ok (.baload, 1) := by decide +kernel
theorem dX6_cmp_30 : decode cX6_cmp 30 = .ok (.if_icmp .eq 18, 3) := by decide +kernel
theorem dX6_cmp_33 : decode cX6_cmp 33 = .ok (.aload_n 0, 1) := by decide +kernel
theorem dX6_cmp_34 : decode cX6_cmp 34 = .ok (.getfield 16, 3) := by decide +kernel
theorem dX6_cmp_37 : decode cX6_cmp 37 = .ok (.iload_n 1, 1) := by decide +kernel
theorem dX6_cmp_38 : decode cX6_cmp 38 = .ok (.baload, 1) := by decide +kernel
theorem dX6_cmp_39 : decode cX6_cmp 39 = .ok (.ifCond .eq 7, 3) := by decide +kernel
theorem dX6_cmp_42 : decode cX6_cmp 42 = .ok (.iconst (-1), 1) := by decide +kernel
theorem dX6_cmp_43 : decode cX6_cmp 43 = .ok (.goto 4, 3) := by decide +kernel
theorem dX6_cmp_46 : decode cX6_cmp 46 = .ok (.iconst 1, 1) := by decide +kernel
theorem dX6_cmp_47 : decode cX6_cmp 47 = .ok (.ireturn, 1) := by decide +kernel
theorem dX6_cmp_48 : decode cX6_cmp 48 = .ok (.aload_n 0, 1) := by decide +kernel
theorem dX6_cmp_49 : decode cX6_cmp 49 = .ok (.getfield 16, 3) := by decide +kernel
theorem dX6_cmp_52 : decode cX6_cmp 52 = .ok (.iload_n 1, 1) := by decide +kernel
theorem dX6_cmp_53 : decode cX6_cmp 53 = .ok (.baload, 1) := by decide +kernel
theorem dX6_cmp_54 : decode cX6_cmp 54 = .ok (.ifCond .eq 12, 3) := by decide +kernel
theorem dX6_cmp_57 : decode cX6_cmp 57 = .ok (.aload_n 0, 1) := by decide +kernel
theorem dX6_cmp_58 : decode cX6_cmp 58 = .ok (.iload_n 2, 1) := by decide +kernel
theorem dX6_cmp_59 : decode cX6_cmp 59 = .ok (.iload_n 1, 1) := by decide +kernel
theorem dX6_cmp_60 : decode cX6_cmp 60 = .ok (.invokevirtual 48, 3) := by decide +kernel
theorem dX6_cmp_63 : decode cX6_cmp 63 = .ok (.goto 9, 3) := by decide +kernel
theorem dX6_cmp_66 : decode cX6_cmp 66 = .ok (.aload_n 0, 1) := by decide +kernel
theorem dX6_cmp_67 : decode cX6_cmp 67 = .ok (.iload_n 1, 1) := by decide +kernel
theorem dX6_cmp_68 : decode cX6_cmp 68 = .ok (.iload_n 2, 1) := by decide +kernel
theorem dX6_cmp_69 : decode cX6_cmp 69 = .ok (.invokevirtual 48, 3) := by decide +kernel
theorem dX6_cmp_72 : decode cX6_cmp 72 = .ok (.ireturn, 1) := by decide +kernel
set_option maxRecDepth 20000 in
theorem ggX6_sign_X6_is : GoodIn wsX6_sign wsX6_is := goodIn_r _ [7, 8, 9, 10, 11, 12, 13, 14, 15, 16, 17] rfl (by decide +kernel)
set_option maxRecDepth 20000 in
theorem gX6_sign_X6_is : GoodIn wsX6_sign (wsV RX6 61 RX6 yX6_is wsX6_is) := goodIn_app (goodIn_of _ (by decide +kernel)) ggX6_sign_X6_is
theorem dX6_sign_0 : decode cX6_sign 0 = .ok (.aload_n 0, 1) := by decide +kernel
theorem dX6_sign_1 : decode cX6_sign 1 = .ok (.iload_n 1, 1) := by decide +kernel
theorem dX6_sign_2 : decode cX6_sign 2 = .ok (.invokevirtual 61, 3) := by decide +kernel
theorem dX6_sign_5 : decode cX6_sign 5 = .ok (.ifCond .ne 7, 3) := by decide +kernel
theorem dX6_sign_8 : decode cX6_sign 8 = .ok (.iconst 2, 1) := by decide +kernel
theorem dX6_sign_9 : decode cX6_sign 9 = .ok (.goto 30, 3) := by decide +kernel
theorem dX6_sign_12 : decode cX6_sign 12 = .ok (.aload_n 0, 1) := by decide +kernel
theorem dX6_sign_13 : decode cX6_sign 13 = .ok (.getfield 16, 3) := by decide +kernel
theorem dX6_sign_16 : decode cX6_sign 16 = .ok (.iload_n 1, 1) := by decide +kernel
theorem dX6_sign_17 : decode cX6_sign 17 = .ok (.baload, 1) := by decide +kernel
theorem dX6_sign_18 : decode cX6_sign 18 = .ok (.ifCond .eq 7, 3) := by decide +kernel
theorem dX6_sign_21 : decode cX6_sign 21 = .ok (.iconst (-1), 1) := by decide +kernel
theorem dX6_sign_22 : decode cX6_sign 22 = .ok (.goto 17, 3) := by decide +kernel
theorem dX6_sign_25 : decode cX6_sign 25 = .ok (.aload_n 0, 1) := by decide +kernel
theorem dX6_sign_26 : decode cX6_sign 26 = .ok (.getfield 13, 3) := by decide +kernel
theorem dX6_sign_29 : decode cX6_sign 29 = .ok (.iload_n 1, 1) := by decide +kernel
theorem dX6_sign_30 : decode cX6_sign 30 = .ok (.iaload, 1) := by decide +kernel
theorem dX6_sign_31 : decode cX6_sign 31 = .ok (.ifCond .ne 7, 3) := by decide +kernel
theorem dX6_sign_34 : decode cX6_sign 34 = .ok (.iconst 0, 1) := by decide +kernel
theorem dX6_sign_35 : decode cX6_sign 35 = .ok (.goto 4, 3) := by decide +kernel
theorem dX6_sign_38 : decode cX6_sign 38 = .ok (.iconst 1, 1) := by decide +kernel
theorem dX6_sign_39 : decode cX6_sign 39 = .ok (.ireturn, 1) := by decide +kernel
set_option maxRecDepth 20000 in
theorem ggX6_length_X6_is : GoodIn wsX6_length wsX6_is := goodIn_r _ [6, 7, 17, 18, 19, 20, 21, 22, 23, 24, 25] rfl (by decide +kernel)
set_option maxRecDepth 20000 in
theorem gX6_length_X6_is : GoodIn wsX6_length (wsV RX6 61 RX6 yX6_is wsX6_is) := goodIn_app (goodIn_of _ (by decide +kernel)) ggX6_length_X6_is
set_option maxRecDepth 20000 in
theorem ggX6_length_X6_bitsOf : GoodIn wsX6_length wsX6_bitsOf := goodIn_r _ [11, 1, 12, 13, 14, 5, 15, 16, 17, 18, 19, 20, 21, 22, 23, 24, 25] rfl (by decide +kernel)
set_option maxRecDepth 20000 in
theorem gX6_length_X6_bitsOf : GoodIn wsX6_length (wsV RX6 90 RX6 yX6_bitsOf wsX6_bitsOf) := goodIn_app (goodIn_of _ (by decide +kernel)) ggX6_length_X6_bitsOf
theorem dX6_length_0 : decode cX6_length 0 = .ok (.aload_n 0, 1) := by decide +kernel
theorem dX6_length_1 : decode cX6_length 1 = .ok (.iload_n 1, 1) := by decide +kernel
theorem dX6_length_2 : decode cX6_length 2 = .ok (.invokevirtual 61, 3) := by decide +kernel
theorem dX6_length_5 : decode cX6_length 5 = .ok (.ifCond .eq 12, 3) := by decide +kernel
theorem dX6_length_8 : decode cX6_length 8 = .ok (.iload_n 2, 1) := by decide +kernel
theorem dX6_length_9 : decode cX6_length 9 = .ok (.ifCond .lt 8, 3) := by decide +kernel
theorem dX6_length_12 : decode cX6_length 12 = .ok (.iload_n 2, 1) := by decide +kernel
theorem dX6_length_13 : decode cX6_length 13 = .ok (.iconst 1, 1) := by decide +kernel
theorem dX6_length_14 : decode cX6_length 14 = .ok (.if_icmp .le 5, 3) := by decide +kernel
theorem dX6_length_17 : decode cX6_length 17 = .ok (.iconst (-1), 1) := by decide +kernel
theorem dX6_length_18 : decode cX6_length 18 = .ok (.ireturn, 1) := by decide +kernel
theorem dX6_length_19 : decode cX6_length 19 = .ok (.iload_n 2, 1) := by decide +kernel
theorem dX6_length_20 : decode cX6_length 20 = .ok (.ifCond .ne 16, 3) := by decide +kernel
theorem dX6_length_23 : decode cX6_length 23 = .ok (.aload_n 0, 1) := by decide +kernel
theorem dX6_length_24 : decode cX6_length 24 = .ok (.getfield 13, 3) := by decide +kernel
theorem dX6_length_27 : decode cX6_length 27 = .ok (.iload_n 1, 1) := by decide +kernel
theorem dX6_length_28 : decode cX6_length 28 = .ok (.iaload, 1) := by decide +kernel
theorem dX6_length_29 : decode cX6_length 29 = .ok (.iconst 1, 1) := by decide +kernel
theorem dX6_length_30 : decode cX6_length 30 = .ok (.iadd, 1) := by decide +kernel
theorem dX6_length_31 : decode cX6_length 31 = .ok (.iconst 2, 1) := by decide +kernel
theorem dX6_length_32 : decode cX6_length 32 = .ok (.idiv, 1) := by decide +kernel
theorem dX6_length_33 : decode cX6_length 33 = .ok (.goto 8, 3) := by decide +kernel
theorem dX6_length_36 : decode cX6_length 36 = .ok (.aload_n 0, 1) := by decide +kernel
theorem dX6_length_37 : decode cX6_length 37 = .ok (.iload_n 1, 1) := by decide +kernel
theorem dX6_length_38 : decode cX6_length 38 = .ok (.invokevirtual 90, 3) := by decide +kernel
theorem dX6_length_41 : decode cX6_length 41 = .ok (.ireturn, 1) := by decide +kernel
set_option maxRecDepth 20000 in
theorem ggX6_limb_X6_is : GoodIn wsX6_limb wsX6_is := goodIn_r _ [5, 6, 13, 14, 15, 16, 17, 18, 19, 20, 21] rfl (by decide +kernel)
set_option maxRecDepth 20000 in
theorem gX6_limb_X6_is : GoodIn wsX6_limb (wsV RX6 61 RX6 yX6_is wsX6_is) := goodIn_app (goodIn_of _ (by decide +kernel)) ggX6_limb_X6_is
set_option maxRecDepth 20000 in
theorem ggX6_limb_X6_digit : GoodIn wsX6_limb wsX6_digit := goodIn_r _ [10, 11, 12, 13, 14, 15, 16, 17, 18, 19, 20, 21] rfl (by decide +kernel)
set_option maxRecDepth 20000 in
theorem gX6_limb_X6_digit : GoodIn wsX6_limb (wsV RX6 39 RX6 yX6_digit wsX6_digit) := goodIn_app (goodIn_of _ (by decide +kernel)) ggX6_limb_X6_digit
theorem dX6_limb_0 : decode cX6_limb 0 = .ok (.aload_n 0, 1) := by decide +kernel
theorem dX6_limb_1 : decode cX6_limb 1 = .ok (.iload_n 1, 1) := by decide +kernel
theorem dX6_limb_2 : decode cX6_limb 2 = .ok (.invokevirtual 61, 3) := by decide +kernel
theorem dX6_limb_5 : decode cX6_limb 5 = .ok (.ifCond .eq 14, 3) := by decide +kernel
theorem dX6_limb_8 : decode cX6_limb 8 = .ok (.iload_n 2, 1) := by decide +kernel
theorem dX6_limb_9 : decode cX6_limb 9 = .ok (.ifCond .lt 10, 3) := by decide +kernel
theorem dX6_limb_12 : decode cX6_limb 12 = .ok (.iload_n 2, 1) := by decide +kernel
theorem dX6_limb_13 : decode cX6_limb 13 = .ok (.sipush 1000, 3) := by decide +kernel
theorem dX6_limb_16 : decode cX6_limb 16 = .ok (.if_icmp .le 5, 3) := by decide +kernel
theorem dX6_limb_19 : decode cX6_limb 19 = .ok (.iconst 0, 1) := by decide +kernel
theorem dX6_limb_20 : decode cX6_limb 20 = .ok (.ireturn, 1) := by decide +kernel
theorem dX6_limb_21 : decode cX6_limb 21 = .ok (.aload_n 0, 1) := by decide +kernel
theorem dX6_limb_22 : decode cX6_limb 22 = .ok (.iload_n 1, 1) := by decide +kernel
theorem dX6_limb_23 : decode cX6_limb 23 = .ok (.iconst 2, 1) := by decide +kernel
theorem dX6_limb_24 : decode cX6_limb 24 = .ok (.iload_n 2, 1) := by decide +kernel
theorem dX6_limb_25 : decode cX6_limb 25 = .ok (.imul, 1) := by decide +kernel
theorem dX6_limb_26 : decode cX6_limb 26 = .ok (.iconst 1, 1) := by decide +kernel
theorem dX6_limb_27 : decode cX6_limb 27 = .ok (.iadd, 1) := by decide +kernel
theorem dX6_limb_28 : decode cX6_limb 28 = .ok (.invokevirtual 39, 3) := by decide +kernel
theorem dX6_limb_31 : decode cX6_limb 31 = .ok (.bipush 16, 2) := by decide +kernel
theorem dX6_limb_33 : decode cX6_limb 33 = .ok (.ishl, 1) := by decide +kernel
theorem dX6_limb_34 : decode cX6_limb 34 = .ok (.aload_n 0, 1) := by decide +kernel
theorem dX6_limb_35 : decode cX6_limb 35 = .ok (.iload_n 1, 1) := by decide +kernel
theorem dX6_limb_36 : decode cX6_limb 36 = .ok (.iconst 2, 1) := by decide +kernel
theorem dX6_limb_37 : decode cX6_limb 37 = .ok (.iload_n 2, 1) := by decide +kernel
theorem dX6_limb_38 : decode cX6_limb 38 = .ok (.imul, 1) := by decide +kernel
theorem dX6_limb_39 : decode cX6_limb 39 = .ok (.invokevirtual 39, 3) := by decide +kernel
theorem dX6_limb_42 : decode cX6_limb 42 = .ok (.ior, 1) := by decide +kernel
theorem dX6_limb_43 : decode cX6_limb 43 = .ok (.ireturn, 1) := by decide +kernel
set_option maxRecDepth 20000 in
theorem ggX6_write_X6_is : GoodIn wsX6_write wsX6_is := goodIn_r _ [9, 10, 28, 29, 30, 31, 32, 33, 34, 35, 36] rfl (by decide +kernel)
set_option maxRecDepth 20000 in
theorem gX6_write_X6_is : GoodIn wsX6_write (wsV RX6 61 RX6 yX6_is wsX6_is) := goodIn_app (goodIn_of _ (by decide +kernel)) ggX6_write_X6_is
set_option maxRecDepth 20000 in
theorem ggX6_write_X6_move : GoodIn wsX6_write wsX6_move := goodIn_r _ [14, 1, 15, 3, 28, 29, 30, 31, 32, 33, 34, 35, 36] rfl (by decide +kernel)
set_option maxRecDepth 20000 in
theorem gX6_write_X6_move : GoodIn wsX6_write (wsV RX6 51 RX6 yX6_move wsX6_move) := goodIn_app (goodIn_of _ (by decide +kernel)) ggX6_write_X6_move
set_option maxRecDepth 20000 in
theorem ggX6_write_X6_digit : GoodIn wsX6_write wsX6_digit := goodIn_r _ [19, 1, 15, 28, 29, 30, 31, 32, 33, 34, 35, 36] rfl (by decide +kernel)
set_option maxRecDepth 20000 in
theorem gX6_write_X6_digit : GoodIn wsX6_write (wsV RX6 39 RX6 yX6_digit wsX6_digit) := goodIn_app (goodIn_of _ (by decide +kernel)) ggX6_write_X6_digit
set_option maxRecDepth 20000 in
theorem ggX6_write_X6_put : GoodIn wsX6_write wsX6_put := goodIn_r _ [23, 15, 28, 29, 30, 31, 32, 33, 34, 35, 36] rfl (by decide +kernel)
set_option maxRecDepth 20000 in
theorem gX6_write_X6_put : GoodIn wsX6_write (wsV RX6 35 RX6 yX6_put wsX6_put) := goodIn_app (goodIn_of _ (by decide +kernel)) ggX6_write_X6_put
set_option maxRecDepth 20000 in
theorem ggX6_write_X6_trim : GoodIn wsX6_write wsX6_trim := goodIn_r _ [27, 15, 1, 3, 28, 29, 30, 31, 32, 33, 34, 35, 36] rfl (by decide +kernel)
set_option maxRecDepth 20000 in
theorem gX6_write_X6_trim : GoodIn wsX6_write (wsV RX6 44 RX6 yX6_trim wsX6_trim) := goodIn_app (goodIn_of _ (by decide +kernel)) ggX6_write_X6_trim
theorem dX6_write_0 : decode cX6_write 0 = .ok (.aload_n 0, 1) := by decide +kernel
theorem dX6_write_1 : decode cX6_write 1 = .ok (.iload_n 1, 1) := by decide +kernel
theorem dX6_write_2 : decode cX6_write 2 = .ok (.invokevirtual 61, 3) := by decide +kernel
theorem dX6_write_5 : decode cX6_write 5 = .ok (.ifCond .ne 5, 3) := by decide +kernel
theorem dX6_write_8 : decode cX6_write 8 = .ok (.iconst (-1), 1) := by decide +kernel
theorem dX6_write_9 : decode cX6_write 9 = .ok (.ireturn, 1) := by decide +kernel
theorem dX6_write_10 : decode cX6_write 10 = .ok (.aload_n 0, 1) := by decide +kernel
theorem dX6_write_11 : decode cX6_write 11 = .ok (.bipush 20, 2) := by decide +kernel
theorem dX6_write_13 : decode cX6_write 13 = .ok (.iload_n 1, 1) := by decide +kernel
theorem dX6_write_14 : decode cX6_write 14 = .ok (.invokevirtual 51, 3) := by decide +kernel
theorem dX6_write_17 : decode cX6_write 17 = .ok (.iconst 0, 1) := by decide +kernel
theorem dX6_write_18 : decode cX6_write 18 = .ok (.istore_n 2, 1) := by decide +kernel
theorem dX6_write_19 : decode cX6_write 19 = .ok (.aload_n 0, 1) := by decide +kernel
theorem dX6_write_20 : decode cX6_write 20 = .ok (.getfield 13, 3) := by decide +kernel
theorem dX6_write_23 : decode cX6_write 23 = .ok (.bipush 20, 2) := by decide +kernel
theorem dX6_write_25 : decode cX6_write 25 = .ok (.iaload, 1) := by decide +kernel
theorem dX6_write_26 : decode cX6_write 26 = .ok (.ifCond .le 90, 3) := by decide +kernel
theorem dX6_write_29 : decode cX6_write 29 = .ok (.iconst 0, 1) := by decide +kernel
theorem dX6_write_30 : decode cX6_write 30 = .ok (.istore_n 3, 1) := by decide +kernel
theorem dX6_write_31 : decode cX6_write 31 = .ok (.aload_n 0, 1) := by decide +kernel
theorem dX6_write_32 : decode cX6_write 32 = .ok (.getfield 13, 3) := by decide +kernel
theorem dX6_write_35 : decode cX6_write 35 = .ok (.bipush 20, 2) := by decide +kernel
theorem dX6_write_37 : decode cX6_write 37 = .ok (.iaload, 1) := by decide +kernel
theorem dX6_write_38 : decode cX6_write 38 = .ok (.iconst 1, 1) := by decide +kernel
theorem dX6_write_39 : decode cX6_write 39 = .ok (.isub, 1) := by decide +kernel
theorem dX6_write_40 : decode cX6_write 40 = .ok (.istore 4, 2) := by decide +kernel
theorem dX6_write_42 : decode cX6_write 42 = .ok (.iload 4, 2) := by decide +kernel
theorem dX6_write_44 : decode cX6_write 44 = .ok (.ifCond .lt 43, 3) := by decide +kernel
theorem dX6_write_47 : decode cX6_write 47 = .ok (.iload_n 3, 1) := by decide +kernel
theorem dX6_write_48 : decode cX6_write 48 = .ok (.bipush 16, 2) := by decide +kernel
theorem dX6_write_50 : decode cX6_write 50 = .ok (.ishl, 1) := by decide +kernel
theorem dX6_write_51 : decode cX6_write 51 = .ok (.aload_n 0, 1) := by decide +kernel
theorem dX6_write_52 : decode cX6_write 52 = .ok (.bipush 20, 2) := by decide +kernel
theorem dX6_write_54 : decode cX6_write 54 = .ok (.iload 4, 2) := by decide +kernel
theorem dX6_write_56 : decode cX6_write 56 = .ok (.invokevirtual 39, 3) := by decide +kernel
theorem dX6_write_59 : decode cX6_write 59 = .ok (.ior, 1) := by decide +kernel
theorem dX6_write_60 : decode cX6_write 60 = .ok (.istore 5, 2) := by decide +kernel
theorem dX6_write_62 : decode cX6_write 62 = .ok (.aload_n 0, 1) := by decide +kernel
theorem dX6_write_63 : decode cX6_write 63 = .ok (.bipush 20, 2) := by decide +kernel
theorem dX6_write_65 : decode cX6_write 65 = .ok (.iload 4, 2) := by decide +kernel
theorem dX6_write_67 : decode cX6_write 67 = .ok (.iload 5, 2) := by decide +kernel
theorem dX6_write_69 : decode cX6_write 69 = .ok (.bipush 10, 2) := by decide +kernel
theorem dX6_write_71 : decode cX6_write 71 = .ok (.idiv, 1) := by decide +kernel
theorem dX6_write_72 : decode cX6_write 72 = .ok (.invokevirtual 35, 3) := by decide +kernel
theorem dX6_write_75 : decode cX6_write 75 = .ok (.iload 5, 2) := by decide +kernel
theorem dX6_write_77 : decode cX6_write 77 = .ok (.bipush 10, 2) := by decide +kernel
theorem dX6_write_79 : decode cX6_write 79 = .ok (.irem, 1) := by decide +kernel
theorem dX6_write_80 : decode cX6_write 80 = .ok (.istore_n 3, 1) := by decide +kernel
theorem dX6_write_81 : decode cX6_write 81 = .ok (.iinc 4 (-1), 3) := by decide +kernel
theorem dX6_write_84 : decode cX6_write 84 = .ok (.goto (-42), 3) := by decide +kernel
theorem dX6_write_87 : decode cX6_write 87 = .ok (.aload_n 0, 1) := by decide +kernel
theorem dX6_write_88 : decode cX6_write 88 = .ok (.bipush 20, 2) := by decide +kernel
theorem dX6_write_90 : decode cX6_write 90 = .ok (.aload_n 0, 1) := by decide +kernel
theorem dX6_write_91 : decode cX6_write 91 = .ok (.getfield 13, 3) := by decide +kernel
theorem dX6_write_94 : decode cX6_write 94 = .ok (.bipush 20, 2) := by decide +kernel
theorem dX6_write_96 : decode cX6_write 96 = .ok (.iaload, 1) := by decide +kernel
theorem dX6_write_97 : decode cX6_write 97 = .ok (.invokevirtual 44, 3) := by decide +kernel
theorem dX6_write_100 : decode cX6_write 100 = .ok (.aload_n 0, 1) := by decide +kernel
theorem dX6_write_101 : decode cX6_write 101 = .ok (.getfield 20, 3) := by decide +kernel
theorem dX6_write_104 : decode cX6_write 104 = .ok (.iload_n 2, 1) := by decide +kernel
theorem dX6_write_105 : decode cX6_write 105 = .ok (.bipush 48, 2) := by decide +kernel
theorem dX6_write_107 : decode cX6_write 107 = .ok (.iload_n 3, 1) := by decide +kernel
theorem dX6_write_108 : decode cX6_write 108 = .ok (.iadd, 1) := by decide +kernel
theorem dX6_write_109 : decode cX6_write 109 = .ok (.iastore, 1) := by decide +kernel
theorem dX6_write_110 : decode cX6_write 110 = .ok (.iinc 2 1, 3) := by decide +kernel
theorem dX6_write_113 : decode cX6_write 113 = .ok (.goto (-94), 3) := by decide +kernel
theorem dX6_write_116 : decode cX6_write 116 = .ok (.iload_n 2, 1) := by decide +kernel
theorem dX6_write_117 : decode cX6_write 117 = .ok (.ifCond .ne 14, 3) := by decide +kernel
theorem dX6_write_120 : decode cX6_write 120 = .ok (.aload_n 0, 1) := by decide +kernel
theorem dX6_write_121 : decode cX6_write 121 = .ok (.getfield 20, 3) := by decide +kernel
theorem dX6_write_124 : decode cX6_write 124 = .ok (.iload_n 2, 1) := by decide +kernel
theorem dX6_write_125 : decode cX6_write 125 = .ok (.bipush 48, 2) := by decide +kernel
theorem dX6_write_127 : decode cX6_write 127 = .ok (.iastore, 1) := by decide +kernel
theorem dX6_write_128 : decode cX6_write 128 = .ok (.iinc 2 1, 3) := by decide +kernel
theorem dX6_write_131 : decode cX6_write 131 = .ok (.aload_n 0, 1) := by decide +kernel
theorem dX6_write_132 : decode cX6_write 132 = .ok (.getfield 16, 3) := by decide +kernel
theorem dX6_write_135 : decode cX6_write 135 = .ok (.iload_n 1, 1) := by decide +kernel
theorem dX6_write_136 : decode cX6_write 136 = .ok (.baload, 1) := by decide +kernel
theorem dX6_write_137 : decode cX6_write 137 = .ok (.ifCond .eq 14, 3) := by decide +kernel
theorem dX6_write_140 : decode cX6_write 140 = .ok (.aload_n 0, 1) := by decide +kernel
theorem dX6_write_141 : decode cX6_write 141 = .ok (.getfield 20, 3) := by decide +kernel
theorem dX6_write_144 : decode cX6_write 144 = .ok (.iload_n 2, 1) := by decide +kernel
theorem dX6_write_145 : decode cX6_write 145 = .ok (.bipush 45, 2) := by decide +kernel
theorem dX6_write_147 : decode cX6_write 147 = .ok (.iastore, 1) := by decide +kernel
theorem dX6_write_148 : decode cX6_write 148 = .ok (.iinc 2 1, 3) := by decide +kernel
theorem dX6_write_151 : decode cX6_write 151 = .ok (.iconst 0, 1) := by decide +kernel
theorem dX6_write_152 : decode cX6_write 152 = .ok (.istore_n 3, 1) := by decide +kernel
theorem dX6_write_153 : decode cX6_write 153 = .ok (.iload_n 2, 1) := by decide +kernel
theorem dX6_write_154 : decode cX6_write 154 = .ok (.iconst 1, 1) := by decide +kernel
theorem dX6_write_155 : decode cX6_write 155 = .ok (.isub, 1) := by decide +kernel
theorem dX6_write_156 : decode cX6_write 156 = .ok (.istore 4, 2) := by decide +kernel
theorem dX6_write_158 : decode cX6_write 158 = .ok (.iload_n 3, 1) := by decide +kernel
theorem dX6_write_159 : decode cX6_write 159 = .ok (.iload 4, 2) := by decide +kernel
theorem dX6_write_161 : decode cX6_write 161 = .ok (.if_icmp .ge 42, 3) := by decide +kernel
theorem dX6_write_164 : decode cX6_write 164 = .ok (.aload_n 0, 1) := by decide +kernel
theorem dX6_write_165 : decode cX6_write 165 = .ok (.getfield 20, 3) := by decide +kernel
theorem dX6_write_168 : decode cX6_write 168 = .ok (.iload_n 3, 1) := by decide +kernel
theorem dX6_write_169 : decode cX6_write 169 = .ok (.iaload, 1) := by decide +kernel
theorem dX6_write_170 : decode cX6_write 170 = .ok (.istore 5, 2) := by decide +kernel
theorem dX6_write_172 : decode cX6_write 172 = .ok (.aload_n 0, 1) := by decide +kernel
theorem dX6_write_173 : decode cX6_write 173 = .ok (.getfield 20, 3) := by decide +kernel
theorem dX6_write_176 : decode cX6_write 176 = .ok (.iload_n 3, 1) := by decide +kernel
theorem dX6_write_177 : decode cX6_write 177 = .ok (.aload_n 0, 1) := by decide +kernel
theorem dX6_write_178 : decode cX6_write 178 = .ok (.getfield 20, 3) := by decide +kernel
theorem dX6_write_181 : decode cX6_write 181 = .ok (.iload 4, 2) := by decide +kernel
theorem dX6_write_183 : decode cX6_write 183 = .ok (.iaload, 1) := by decide +kernel
theorem dX6_write_184 : decode cX6_write 184 = .ok (.iastore, 1) := by decide +kernel
theorem dX6_write_185 : decode cX6_write 185 = .ok (.aload_n 0, 1) := by decide +kernel
theorem dX6_write_186 : decode cX6_write 186 = .ok (.getfield 20, 3) := by decide +kernel
theorem dX6_write_189 : decode cX6_write 189 = .ok (.iload 4, 2) := by decide +kernel
theorem dX6_write_191 : decode cX6_write 191 = .ok (.iload 5, 2) := by decide +kernel
theorem dX6_write_193 : decode cX6_write 193 = .ok (.iastore, 1) := by decide +kernel
theorem dX6_write_194 : decode cX6_write 194 = .ok (.iinc 3 1, 3) := by decide +kernel
theorem dX6_write_197 : decode cX6_write 197 = .ok (.iinc 4 (-1), 3) := by decide +kernel
theorem dX6_write_200 : decode cX6_write 200 = .ok (.goto (-42), 3) := by decide +kernel
theorem dX6_write_203 : decode cX6_write 203 = .ok (.aload_n 0, 1) := by decide +kernel
theorem dX6_write_204 : decode cX6_write 204 = .ok (.iload_n 2, 1) := by decide +kernel
theorem dX6_write_205 : decode cX6_write 205 = .ok (.putfield 102, 3) := by decide +kernel
theorem dX6_write_208 : decode cX6_write 208 = .ok (.iload_n 2, 1) := by decide +kernel
theorem dX6_write_209 : decode cX6_write 209 = .ok (.ireturn, 1) := by decide +kernel
theorem dX6_written_0 : decode cX6_written 0 = .ok (.iload_n 1, 1) := by decide +kernel
theorem dX6_written_1 : decode cX6_written 1 = .ok (.ifCond .lt 11, 3) := by decide +kernel
theorem dX6_written_4 : decode cX6_written 4 = .ok (.iload_n 1, 1) := by decide +kernel
theorem dX6_written_5 : decode cX6_written 5 = .ok (.aload_n 0, 1) := by decide +kernel
theorem dX6_written_6 : decode cX6_written 6 = .ok (.getfield 102, 3) := by decide +kernel
theorem dX6_written_9 : decode cX6_written 9 = .ok (.if_icmp .lt 7, 3) := by decide +kernel
theorem dX6_written_12 : decode cX6_written 12 = .ok (.iconst (-1), 1) := by decide +kernel
theorem dX6_written_13 : decode cX6_written 13 = .ok (.goto 9, 3) := by decide +kernel
theorem dX6_written_16 : decode cX6_written 16 = .ok (.aload_n 0, 1) := by decide +kernel
theorem dX6_written_17 : decode cX6_written 17 = .ok (.getfield 20, 3) := by decide +kernel
theorem dX6_written_20 : decode cX6_written 20 = .ok (.iload_n 1, 1) := by decide +kernel
theorem dX6_written_21 : decode cX6_written 21 = .ok (.iaload, 1) := by decide +kernel
theorem dX6_written_22 : decode cX6_written 22 = .ok (.ireturn, 1) := by decide +kernel
theorem dX6_type_0 : decode cX6_type 0 = .ok (.iload_n 3, 1) := by decide +kernel
theorem dX6_type_1 : decode cX6_type 1 = .ok (.iconst 1, 1) := by decide +kernel
theorem dX6_type_2 : decode cX6_type 2 = .ok (.if_icmp .lt 9, 3) := by decide +kernel
theorem dX6_type_5 : decode cX6_type 5 = .ok (.iload_n 3, 1) := by decide +kernel
theorem dX6_type_6 : decode cX6_type 6 = .ok (.bipush 8, 2) := by decide +kernel
theorem dX6_type_8 : decode cX6_type 8 = .ok (.if_icmp .le 5, 3) := by decide +kernel
theorem dX6_type_11 : decode cX6_type 11 = .ok (.iconst (-1), 1) := by decide +kernel
theorem dX6_type_12 : decode cX6_type 12 = .ok (.ireturn, 1) := by decide +kernel
theorem dX6_type_13 : decode cX6_type 13 = .ok (.aload_n 0, 1) := by decide +kernel
theorem dX6_type_14 : decode cX6_type 14 = .ok (.getfield 105, 3) := by decide +kernel
theorem dX6_type_17 : decode cX6_type 17 = .ok (.iload_n 3, 1) := by decide +kernel
theorem dX6_type_18 : decode cX6_type 18 = .ok (.iadd, 1) := by decide +kernel
theorem dX6_type_19 : decode cX6_type 19 = .ok (.sipush 1300, 3) := by decide +kernel
theorem dX6_type_22 : decode cX6_type 22 = .ok (.if_icmp .le 6, 3) := by decide +kernel
theorem dX6_type_25 : decode cX6_type 25 = .ok (.bipush (-3), 2) := by decide +kernel
theorem dX6_type_27 : decode cX6_type 27 = .ok (.ireturn, 1) := by decide +kernel
theorem dX6_type_28 : decode cX6_type 28 = .ok (.iload_n 3, 1) := by decide +kernel
theorem dX6_type_29 : decode cX6_type 29 = .ok (.iconst 1, 1) := by decide +kernel
theorem dX6_type_30 : decode cX6_type 30 = .ok (.isub, 1) := by decide +kernel
theorem dX6_type_31 : decode cX6_type 31 = .ok (.istore 4, 2) := by decide +kernel
theorem dX6_type_33 : decode cX6_type 33 = .ok (.iload 4, 2) := by decide +kernel
theorem dX6_type_35 : decode cX6_type 35 = .ok (.ifCond .lt 40, 3) := by decide +kernel
theorem dX6_type_38 : decode cX6_type 38 = .ok (.aload_n 0, 1) := by decide +kernel
theorem dX6_type_39 : decode cX6_type 39 = .ok (.getfield 23, 3) := by decide +kernel
theorem dX6_type_42 : decode cX6_type 42 = .ok (.aload_n 0, 1) := by decide +kernel
theorem dX6_type_43 : decode cX6_type 43 = .ok (.getfield 105, 3) := by decide +kernel
theorem dX6_type_46 : decode cX6_type 46 = .ok (.lload_n 1, 1) := by decide +kernel
theorem dX6_type_47 : decode cX6_type 47 = .ok (.bipush 8, 2) := by decide +kernel
theorem dX6_type_49 : decode cX6_type 49 = .ok (.iload 4, 2) := by decide +kernel
theorem dX6_type_51 : decode cX6_type 51 = .ok (.imul, 1) := by decide +kernel
theorem dX6_type_52 : decode cX6_type 52 = .ok (.lushr, 1) := by decide +kernel
theorem dX6_type_53 : decode cX6_type 53 = .ok (.l2i, 1) := by decide +kernel
theorem dX6_type_54 : decode cX6_type 54 = .ok (.sipush 255, 3) := by decide +kernel
theorem dX6_type_57 : decode cX6_type 57 = .ok (.iand, 1) := by decide +kernel
theorem dX6_type_58 : decode cX6_type 58 = .ok (.iastore, 1) := by decide +kernel
theorem dX6_type_59 : decode cX6_type 59 = .ok (.aload_n 0, 1) := by decide +kernel
theorem dX6_type_60 : decode cX6_type 60 = .ok (.dup, 1) := by decide +kernel
theorem dX6_type_61 : decode cX6_type 61 = .ok (.getfield 105, 3) := by decide +kernel
theorem dX6_type_64 : decode cX6_type 64 = .ok (.iconst 1, 1) := by decide +kernel
theorem dX6_type_65 : decode cX6_type 65 = .ok (.iadd, 1) := by decide +kernel
theorem dX6_type_66 : decode cX6_type 66 = .ok (.putfield 105, 3) := by decide +kernel
theorem dX6_type_69 : decode cX6_type 69 = .ok (.iinc 4 (-1), 3) := by decide +kernel
theorem dX6_type_72 : decode cX6_type 72 = .ok (.goto (-39), 3) := by decide +kernel
theorem dX6_type_75 : decode cX6_type 75 = .ok (.aload_n 0, 1) := by decide +kernel
theorem dX6_type_76 : decode cX6_type 76 = .ok (.getfield 105, 3) := by decide +kernel
theorem dX6_type_79 : decode cX6_type 79 = .ok (.ireturn, 1) := by decide +kernel
set_option maxRecDepth 20000 in
theorem ggX6_read_X6_is : GoodIn wsX6_read wsX6_is := goodIn_r _ [10, 11, 48, 49, 50, 51, 52, 53, 54, 55, 56] rfl (by decide +kernel)
set_option maxRecDepth 20000 in
theorem gX6_read_X6_is : GoodIn wsX6_read (wsV RX6 61 RX6 yX6_is wsX6_is) := goodIn_app (goodIn_of _ (by decide +kernel)) ggX6_read_X6_is
set_option maxRecDepth 20000 in
theorem ggX6_read_X6_small : GoodIn wsX6_read wsX6_small := goodIn_r _ [15, 16, 3, 4, 17, 18, 19, 9, 20, 21, 48, 49, 50, 51, 52, 53, 54, 55, 56] rfl (by decide +kernel)
set_option maxRecDepth 20000 in
theorem gX6_read_X6_small : GoodIn wsX6_read (wsV RX6 65 RX6 yX6_small wsX6_small) := goodIn_app (goodIn_of _ (by decide +kernel)) ggX6_read_X6_small
set_option maxRecDepth 20000 in
theorem ggX6_read_X6_times : GoodIn wsX6_read wsX6_times := goodIn_r _ [25, 3, 21, 16, 4, 17, 18, 19, 9, 20, 26, 27, 28, 29, 30, 31, 32, 33, 48, 49, 50, 51, 52, 53, 54, 55, 56] rfl (by decide +kernel)
set_option maxRecDepth 20000 in
theorem gX6_read_X6_times : GoodIn wsX6_read (wsV RX6 84 RX6 yX6_times wsX6_times) := goodIn_app (goodIn_of _ (by decide +kernel)) ggX6_read_X6_times
set_option maxRecDepth 20000 in
theorem ggX6_read_X6_plus : GoodIn wsX6_read wsX6_plus := goodIn_r _ [37, 3, 38, 26, 27, 28, 9, 29, 21, 17, 18, 19, 20, 30, 31, 32, 33, 4, 48, 49, 50, 51, 52, 53, 54, 55, 56] rfl (by decide +kernel)
set_option maxRecDepth 20000 in
theorem gX6_read_X6_plus : GoodIn wsX6_read (wsV RX6 74 RX6 yX6_plus wsX6_plus) := goodIn_app (goodIn_of _ (by decide +kernel)) ggX6_read_X6_plus
set_option maxRecDepth 20000 in
theorem ggX6_read_X6_keep : GoodIn wsX6_read wsX6_keep := goodIn_r _ [42, 3, 43, 44, 45, 46, 9, 47, 21, 4, 48, 49, 50, 51, 52, 53, 54, 55, 56] rfl (by decide +kernel)
set_option maxRecDepth 20000 in
theorem gX6_read_X6_keep : GoodIn wsX6_read (wsV RX6 69 RX6 yX6_keep wsX6_keep) := goodIn_app (goodIn_of _ (by decide +kernel)) ggX6_read_X6_keep
theorem dX6_read_0 : decode cX6_read 0 = .ok (.aload_n 0, 1) := by decide +kernel
theorem dX6_read_1 : decode cX6_read 1 = .ok (.iload_n 1, 1) := by decide +kernel
theorem dX6_read_2 : decode cX6_read 2 = .ok (.invokevirtual 61, 3) := by decide +kernel
theorem dX6_read_5 : decode cX6_read 5 = .ok (.ifCond .ne 5, 3) := by decide +kernel
theorem dX6_read_8 : decode cX6_read 8 = .ok (.iconst (-1), 1) := by decide +kernel
theorem dX6_read_9 : decode cX6_read 9 = .ok (.ireturn, 1) := by decide +kernel
theorem dX6_read_10 : decode cX6_read 10 = .ok (.aload_n 0, 1) := by decide +kernel
theorem dX6_read_11 : decode cX6_read 11 = .ok (.getfield 105, 3) := by decide +kernel
theorem dX6_read_14 : decode cX6_read 14 = .ok (.istore_n 2, 1) := by decide +kernel
theorem dX6_read_15 : decode cX6_read 15 = .ok (.aload_n 0, 1) := by decide +kernel
theorem dX6_read_16 : decode cX6_read 16 = .ok (.iconst 0, 1) := by decide +kernel
theorem dX6_read_17 : decode cX6_read 17 = .ok (.putfield 105, 3) := by decide +kernel
theorem dX6_read_20 : decode cX6_read 20 = .ok (.iload_n 2, 1) := by decide +kernel
theorem dX6_read_21 : decode cX6_read 21 = .ok (.ifCond .le 29, 3) := by decide +kernel
theorem dX6_read_24 : decode cX6_read 24 = .ok (.aload_n 0, 1) := by decide +kernel
theorem dX6_read_25 : decode cX6_read 25 = .ok (.getfield 23, 3) := by decide +kernel
theorem dX6_read_28 : decode cX6_read 28 = .ok (.iconst 0, 1) := by decide +kernel
theorem dX6_read_29 : decode cX6_read 29 = .ok (.iaload, 1) := by decide +kernel
theorem dX6_read_30 : decode cX6_read 30 = .ok (.bipush 43, 2) := by decide +kernel
theorem dX6_read_32 : decode cX6_read 32 = .ok (.if_icmp .eq 14, 3) := by decide +kernel
theorem dX6_read_35 : decode cX6_read 35 = .ok (.aload_n 0, 1) := by decide +kernel
theorem dX6_read_36 : decode cX6_read 36 = .ok (.getfield 23, 3) := by decide +kernel
theorem dX6_read_39 : decode cX6_read 39 = .ok (.iconst 0, 1) := by decide +kernel
theorem dX6_read_40 : decode cX6_read 40 = .ok (.iaload, 1) := by decide +kernel
theorem dX6_read_41 : decode cX6_read 41 = .ok (.bipush 45, 2) := by decide +kernel
theorem dX6_read_43 : decode cX6_read 43 = .ok (.if_icmp .ne 7, 3) := by decide +kernel
theorem dX6_read_46 : decode cX6_read 46 = .ok (.iconst 1, 1) := by decide +kernel
theorem dX6_read_47 : decode cX6_read 47 = .ok (.goto 4, 3) := by decide +kernel
theorem dX6_read_50 : decode cX6_read 50 = .ok (.iconst 0, 1) := by decide +kernel
theorem dX6_read_51 : decode cX6_read 51 = .ok (.istore_n 3, 1) := by decide +kernel
theorem dX6_read_52 : decode cX6_read 52 = .ok (.iload_n 3, 1) := by decide +kernel
theorem dX6_read_53 : decode cX6_read 53 = .ok (.istore 4, 2) := by decide +kernel
theorem dX6_read_55 : decode cX6_read 55 = .ok (.iload 4, 2) := by decide +kernel
theorem dX6_read_57 : decode cX6_read 57 = .ok (.iload_n 2, 1) := by decide +kernel
theorem dX6_read_58 : decode cX6_read 58 = .ok (.if_icmp .ge 39, 3) := by decide +kernel
theorem dX6_read_61 : decode cX6_read 61 = .ok (.aload_n 0, 1) := by decide +kernel
theorem dX6_read_62 : decode cX6_read 62 = .ok (.getfield 23, 3) := by decide +kernel
theorem dX6_read_65 : decode cX6_read 65 = .ok (.iload 4, 2) := by decide +kernel
theorem dX6_read_67 : decode cX6_read 67 = .ok (.iaload, 1) := by decide +kernel
theorem dX6_read_68 : decode cX6_read 68 = .ok (.bipush 48, 2) := by decide +kernel
theorem dX6_read_70 : decode cX6_read 70 = .ok (.if_icmp .lt 15, 3) := by decide +kernel
theorem dX6_read_73 : decode cX6_read 73 = .ok (.aload_n 0, 1) := by decide +kernel
theorem dX6_read_74 : decode cX6_read 74 = .ok (.getfield 23, 3) := by decide +kernel
theorem dX6_read_77 : decode cX6_read 77 = .ok (.iload 4, 2) := by decide +kernel
theorem dX6_read_79 : decode cX6_read 79 = .ok (.iaload, 1) := by decide +kernel
theorem dX6_read_80 : decode cX6_read 80 = .ok (.bipush 57, 2) := by decide +kernel
theorem dX6_read_82 : decode cX6_read 82 = .ok (.if_icmp .le 9, 3) := by decide +kernel
theorem dX6_read_85 : decode cX6_read 85 = .ok (.bipush (-10), 2) := by decide +kernel
theorem dX6_read_87 : decode cX6_read 87 = .ok (.iload 4, 2) := by decide +kernel
theorem dX6_read_89 : decode cX6_read 89 = .ok (.isub, 1) := by decide +kernel
theorem dX6_read_90 : decode cX6_read 90 = .ok (.ireturn, 1) := by decide +kernel
theorem dX6_read_91 : decode cX6_read 91 = .ok (.iinc 4 1, 3) := by decide +kernel
theorem dX6_read_94 : decode cX6_read 94 = .ok (.goto (-39), 3) := by decide +kernel
theorem dX6_read_97 : decode cX6_read 97 = .ok (.iload_n 2, 1) := by decide +kernel
theorem dX6_read_98 : decode cX6_read 98 = .ok (.iload_n 3, 1) := by decide +kernel
theorem dX6_read_99 : decode cX6_read 99 = .ok (.if_icmp .ne 8, 3) := by decide +kernel
theorem dX6_read_102 : decode cX6_read 102 = .ok (.bipush (-10), 2) := by decide +kernel
theorem dX6_read_104 : decode cX6_read 104 = .ok (.iload_n 2, 1) := by decide +kernel
theorem dX6_read_105 : decode cX6_read 105 = .ok (.isub, 1) := by decide +kernel
theorem dX6_read_106 : decode cX6_read 106 = .ok (.ireturn, 1) := by decide +kernel
theorem dX6_read_107 : decode cX6_read 107 = .ok (.aload_n 0, 1) := by decide +kernel
theorem dX6_read_108 : decode cX6_read 108 = .ok (.getfield 13, 3) := by decide +kernel
theorem dX6_read_111 : decode cX6_read 111 = .ok (.bipush 20, 2) := by decide +kernel
theorem dX6_read_113 : decode cX6_read 113 = .ok (.iconst 0, 1) := by decide +kernel
theorem dX6_read_114 : decode cX6_read 114 = .ok (.iastore, 1) := by decide +kernel
theorem dX6_read_115 : decode cX6_read 115 = .ok (.aload_n 0, 1) := by decide +kernel
theorem dX6_read_116 : decode cX6_read 116 = .ok (.getfield 16, 3) := by decide +kernel
theorem dX6_read_119 : decode cX6_read 119 = .ok (.bipush 20, 2) := by decide +kernel
theorem dX6_read_121 : decode cX6_read 121 = .ok (.iconst 0, 1) := by decide +kernel
theorem dX6_read_122 : decode cX6_read 122 = .ok (.bastore, 1) := by decide +kernel
theorem dX6_read_123 : decode cX6_read 123 = .ok (.aload_n 0, 1) := by decide +kernel
theorem dX6_read_124 : decode cX6_read 124 = .ok (.bipush 23, 2) := by decide +kernel
theorem dX6_read_126 : decode cX6_read 126 = .ok (.ldc2_w 108, 3) := by decide +kernel
theorem dX6_read_129 : decode cX6_read 129 = .ok (.invokevirtual 65, 3) := by decide +kernel
theorem dX6_read_132 : decode cX6_read 132 = .ok (.iload_n 3, 1) := by decide +kernel
theorem dX6_read_133 : decode cX6_read 133 = .ok (.istore 4, 2) := by decide +kernel
theorem dX6_read_135 : decode cX6_read 135 = .ok (.iload 4, 2) := by decide +kernel
theorem dX6_read_137 : decode cX6_read 137 = .ok (.iload_n 2, 1) := by decide +kernel
theorem dX6_read_138 : decode cX6_read 138 = .ok (.if_icmp .ge 46, 3) := by decide +kernel
theorem dX6_read_141 : decode cX6_read 141 = .ok (.aload_n 0, 1) := by decide +kernel
theorem dX6_read_142 : decode cX6_read 142 = .ok (.bipush 12, 2) := by decide +kernel
theorem dX6_read_144 : decode cX6_read 144 = .ok (.bipush 20, 2) := by decide +kernel
theorem dX6_read_146 : decode cX6_read 146 = .ok (.bipush 23, 2) := by decide +kernel
theorem dX6_read_148 : decode cX6_read 148 = .ok (.invokevirtual 84, 3) := by decide +kernel
theorem dX6_read_151 : decode cX6_read 151 = .ok (.aload_n 0, 1) := by decide +kernel
theorem dX6_read_152 : decode cX6_read 152 = .ok (.bipush 13, 2) := by decide +kernel
theorem dX6_read_154 : decode cX6_read 154 = .ok (.aload_n 0, 1) := by decide +kernel
theorem dX6_read_155 : decode cX6_read 155 = .ok (.getfield 23, 3) := by decide +kernel
theorem dX6_read_158 : decode cX6_read 158 = .ok (.iload 4, 2) := by decide +kernel
theorem dX6_read_160 : decode cX6_read 160 = .ok (.iaload, 1) := by decide +kernel
theorem dX6_read_161 : decode cX6_read 161 = .ok (.bipush 48, 2) := by decide +kernel
theorem dX6_read_163 : decode cX6_read 163 = .ok (.isub, 1) := by decide +kernel
theorem dX6_read_164 : decode cX6_read 164 = .ok (.i2l, 1) := by decide +kernel
theorem dX6_read_165 : decode cX6_read 165 = .ok (.invokevirtual 65, 3) := by decide +kernel
theorem dX6_read_168 : decode cX6_read 168 = .ok (.aload_n 0, 1) := by decide +kernel
