theorem dX6_init_0 : decode cX6_init 0 = .ok (.aload_n 0, 1) := by decide +kernel
theorem dX6_init_1 : decode cX6_init 1 = .ok (.invokespecial 1, 3) := by decide +kernel
theorem dX6_init_4 : decode cX6_init 4 = .ok (.aload_n 0, 1) := by decide +kernel
theorem dX6_init_5 : decode cX6_init 5 = .ok (.sipush 12480, 3) := by decide +kernel
theorem dX6_init_8 : decode cX6_init 8 = .ok (.newarray .int, 2) := by decide +kernel
theorem dX6_init_10 : decode cX6_init 10 = .ok (.putfield 7, 3) := by decide +kernel
theorem dX6_init_13 : decode cX6_init 13 = .ok (.aload_n 0, 1) := by decide +kernel
theorem dX6_init_14 : decode cX6_init 14 = .ok (.bipush 24, 2) := by decide +kernel
theorem dX6_init_16 : decode cX6_init 16 = .ok (.newarray .int, 2) := by decide +kernel
theorem dX6_init_18 : decode cX6_init 18 = .ok (.putfield 13, 3) := by decide +kernel
theorem dX6_init_21 : decode cX6_init 21 = .ok (.aload_n 0, 1) := by decide +kernel
theorem dX6_init_22 : decode cX6_init 22 = .ok (.bipush 24, 2) := by decide +kernel
theorem dX6_init_24 : decode cX6_init 24 = .ok (.newarray .boolean, 2) := by decide +kernel
theorem dX6_init_26 : decode cX6_init 26 = .ok (.putfield 16, 3) := by decide +kernel
theorem dX6_init_29 : decode cX6_init 29 = .ok (.aload_n 0, 1) := by decide +kernel
theorem dX6_init_30 : decode cX6_init 30 = .ok (.sipush 1400, 3) := by decide +kernel
theorem dX6_init_33 : decode cX6_init 33 = .ok (.newarray .int, 2) := by decide +kernel
theorem dX6_init_35 : decode cX6_init 35 = .ok (.putfield 20, 3) := by decide +kernel
theorem dX6_init_38 : decode cX6_init 38 = .ok (.aload_n 0, 1) := by decide +kernel
theorem dX6_init_39 : decode cX6_init 39 = .ok (.sipush 1300, 3) := by decide +kernel
theorem dX6_init_42 : decode cX6_init 42 = .ok (.newarray .int, 2) := by decide +kernel
theorem dX6_init_44 : decode cX6_init 44 = .ok (.putfield 23, 3) := by decide +kernel
theorem dX6_init_47 : decode cX6_init 47 = .ok (.aload_n 0, 1) := by decide +kernel
theorem dX6_init_48 : decode cX6_init 48 = .ok (.iload_n 1, 1) := by decide +kernel
theorem dX6_init_49 : decode cX6_init 49 = .ok (.iconst 1, 1) := by decide +kernel
theorem dX6_init_50 : decode cX6_init 50 = .ok (.if_icmp .ge 7, 3) := by decide +kernel
theorem dX6_init_53 : decode cX6_init 53 = .ok (.iconst 1, 1) := by decide +kernel
theorem dX6_init_54 : decode cX6_init 54 = .ok (.goto 15, 3) := by decide +kernel
theorem dX6_init_57 : decode cX6_init 57 = .ok (.iload_n 1, 1) := by decide +kernel
theorem dX6_init_58 : decode cX6_init 58 = .ok (.bipush 12, 2) := by decide +kernel
theorem dX6_init_60 : decode cX6_init 60 = .ok (.if_icmp .le 8, 3) := by decide +kernel
theorem dX6_init_63 : decode cX6_init 63 = .ok (.bipush 12, 2) := by decide +kernel
theorem dX6_init_65 : decode cX6_init 65 = .ok (.goto 4, 3) := by decide +kernel
theorem dX6_init_68 : decode cX6_init 68 = .ok (.iload_n 1, 1) := by decide +kernel
theorem dX6_init_69 : decode cX6_init 69 = .ok (.putfield 26, 3) := by decide +kernel
theorem dX6_init_72 : decode cX6_init 72 = .ok (.aload_n 0, 1) := by decide +kernel
theorem dX6_init_73 : decode cX6_init 73 = .ok (.iconst 2, 1) := by decide +kernel
theorem dX6_init_74 : decode cX6_init 74 = .ok (.iload_n 2, 1) := by decide +kernel
theorem dX6_init_75 : decode cX6_init 75 = .ok (.iconst 1, 1) := by decide +kernel
theorem dX6_init_76 : decode cX6_init 76 = .ok (.if_icmp .ge 7, 3) := by decide +kernel
theorem dX6_init_79 : decode cX6_init 79 = .ok (.iconst 1, 1) := by decide +kernel
theorem dX6_init_80 : decode cX6_init 80 = .ok (.goto 15, 3) := by decide +kernel
theorem dX6_init_83 : decode cX6_init 83 = .ok (.iload_n 2, 1) := by decide +kernel
theorem dX6_init_84 : decode cX6_init 84 = .ok (.bipush 120, 2) := by decide +kernel
theorem dX6_init_86 : decode cX6_init 86 = .ok (.if_icmp .le 8, 3) := by decide +kernel
theorem dX6_init_89 : decode cX6_init 89 = .ok (.bipush 120, 2) := by decide +kernel
theorem dX6_init_91 : decode cX6_init 91 = .ok (.goto 4, 3) := by decide +kernel
theorem dX6_init_94 : decode cX6_init 94 = .ok (.iload_n 2, 1) := by decide +kernel
theorem dX6_init_95 : decode cX6_init 95 = .ok (.imul, 1) := by decide +kernel
theorem dX6_init_96 : decode cX6_init 96 = .ok (.putfield 30, 3) := by decide +kernel
theorem dX6_init_99 : decode cX6_init 99 = .ok (.return_, 1) := by decide +kernel
theorem dX6_digit_0 : decode cX6_digit 0 = .ok (.iload_n 2, 1) := by decide +kernel
theorem dX6_digit_1 : decode cX6_digit 1 = .ok (.aload_n 0, 1) := by decide +kernel
theorem dX6_digit_2 : decode cX6_digit 2 = .ok (.getfield 13, 3) := by decide +kernel
theorem dX6_digit_5 : decode cX6_digit 5 = .ok (.iload_n 1, 1) := by decide +kernel
theorem dX6_digit_6 : decode cX6_digit 6 = .ok (.iaload, 1) := by decide +kernel
theorem dX6_digit_7 : decode cX6_digit 7 = .ok (.if_icmp .ge 18, 3) := by decide +kernel
theorem dX6_digit_10 : decode cX6_digit 10 = .ok (.aload_n 0, 1) := by decide +kernel
theorem dX6_digit_11 : decode cX6_digit 11 = .ok (.getfield 7, 3) := by decide +kernel
theorem dX6_digit_14 : decode cX6_digit 14 = .ok (.sipush 520, 3) := by decide +kernel
theorem dX6_digit_17 : decode cX6_digit 17 = .ok (.iload_n 1, 1) := by decide +kernel
theorem dX6_digit_18 : decode cX6_digit 18 = .ok (.imul, 1) := by decide +kernel
theorem dX6_digit_19 : decode cX6_digit 19 = .ok (.iload_n 2, 1) := by decide +kernel
theorem dX6_digit_20 : decode cX6_digit 20 = .ok (.iadd, 1) := by decide +kernel
theorem dX6_digit_21 : decode cX6_digit 21 = .ok (.iaload, 1) := by decide +kernel
theorem dX6_digit_22 : decode cX6_digit 22 = .ok (.goto 4, 3) := by decide +kernel
theorem dX6_digit_25 : decode cX6_digit 25 = .ok (.iconst 0, 1) := by decide +kernel
theorem dX6_digit_26 : decode cX6_digit 26 = .ok (.ireturn, 1) := by decide +kernel
theorem dX6_put_0 : decode cX6_put 0 = .ok (.aload_n 0, 1) := by decide +kernel
theorem dX6_put_1 : decode cX6_put 1 = .ok (.getfield 7, 3) := by decide +kernel
theorem dX6_put_4 : decode cX6_put 4 = .ok (.sipush 520, 3) := by decide +kernel
theorem dX6_put_7 : decode cX6_put 7 = .ok (.iload_n 1, 1) := by decide +kernel
theorem dX6_put_8 : decode cX6_put 8 = .ok (.imul, 1) := by decide +kernel
theorem dX6_put_9 : decode cX6_put 9 = .ok (.iload_n 2, 1) := by decide +kernel
theorem dX6_put_10 : decode cX6_put 10 = .ok (.iadd, 1) := by decide +kernel
theorem dX6_put_11 : decode cX6_put 11 = .ok (.iload_n 3, 1) := by decide +kernel
theorem dX6_put_12 : decode cX6_put 12 = .ok (.iastore, 1) := by decide +kernel
theorem dX6_put_13 : decode cX6_put 13 = .ok (.return_, 1) := by decide +kernel
theorem dX6_trim_0 : decode cX6_trim 0 = .ok (.iload_n 2, 1) := by decide +kernel
theorem dX6_trim_1 : decode cX6_trim 1 = .ok (.istore_n 3, 1) := by decide +kernel
theorem dX6_trim_2 : decode cX6_trim 2 = .ok (.iload_n 3, 1) := by decide +kernel
theorem dX6_trim_3 : decode cX6_trim 3 = .ok (.ifCond .le 26, 3) := by decide +kernel
theorem dX6_trim_6 : decode cX6_trim 6 = .ok (.aload_n 0, 1) := by decide +kernel
theorem dX6_trim_7 : decode cX6_trim 7 = .ok (.getfield 7, 3) := by decide +kernel
theorem dX6_trim_10 : decode cX6_trim 10 = .ok (.sipush 520, 3) := by decide +kernel
theorem dX6_trim_13 : decode cX6_trim 13 = .ok (.iload_n 1, 1) := by decide +kernel
theorem dX6_trim_14 : decode cX6_trim 14 = .ok (.imul, 1) := by decide +kernel
theorem dX6_trim_15 : decode cX6_trim 15 = .ok (.iload_n 3, 1) := by decide +kernel
theorem dX6_trim_16 : decode cX6_trim 16 = .ok (.iadd, 1) := by decide +kernel
theorem dX6_trim_17 : decode cX6_trim 17 = .ok (.iconst 1, 1) := by decide +kernel
theorem dX6_trim_18 : decode cX6_trim 18 = .ok (.isub, 1) := by decide +kernel
theorem dX6_trim_19 : decode cX6_trim 19 = .ok (.iaload, 1) := by decide +kernel
theorem dX6_trim_20 : decode cX6_trim 20 = .ok (.ifCond .ne 9, 3) := by decide +kernel
theorem dX6_trim_23 : decode cX6_trim 23 = .ok (.iinc 3 (-1), 3) := by decide +kernel
theorem dX6_trim_26 : decode cX6_trim 26 = .ok (.goto (-24), 3) := by decide +kernel
theorem dX6_trim_29 : decode cX6_trim 29 = .ok (.aload_n 0, 1) := by decide +kernel
theorem dX6_trim_30 : decode cX6_trim 30 = .ok (.getfield 13, 3) := by decide +kernel
theorem dX6_trim_33 : decode cX6_trim 33 = .ok (.iload_n 1, 1) := by decide +kernel
theorem dX6_trim_34 : decode cX6_trim 34 = .ok (.iload_n 3, 1) := by decide +kernel
theorem dX6_trim_35 : decode cX6_trim 35 = .ok (.iastore, 1) := by decide +kernel
theorem dX6_trim_36 : decode cX6_trim 36 = .ok (.aload_n 0, 1) := by decide +kernel
theorem dX6_trim_37 : decode cX6_trim 37 = .ok (.getfield 16, 3) := by decide +kernel
theorem dX6_trim_40 : decode cX6_trim 40 = .ok (.iload_n 1, 1) := by decide +kernel
theorem dX6_trim_41 : decode cX6_trim 41 = .ok (.aload_n 0, 1) := by decide +kernel
theorem dX6_trim_42 : decode cX6_trim 42 = .ok (.getfield 16, 3) := by decide +kernel
theorem dX6_trim_45 : decode cX6_trim 45 = .ok (.iload_n 1, 1) := by decide +kernel
theorem dX6_trim_46 : decode cX6_trim 46 = .ok (.baload, 1) := by decide +kernel
theorem dX6_trim_47 : decode cX6_trim 47 = .ok (.ifCond .eq 11, 3) := by decide +kernel
theorem dX6_trim_50 : decode cX6_trim 50 = .ok (.iload_n 3, 1) := by decide +kernel
theorem dX6_trim_51 : decode cX6_trim 51 = .ok (.ifCond .le 7, 3) := by decide +kernel
theorem dX6_trim_54 : decode cX6_trim 54 = .ok (.iconst 1, 1) := by decide +kernel
theorem dX6_trim_55 : decode cX6_trim 55 = .ok (.goto 4, 3) := by decide +kernel
theorem dX6_trim_58 : decode cX6_trim 58 = .ok (.iconst 0, 1) := by decide +kernel
theorem dX6_trim_59 : decode cX6_trim 59 = .ok (.bastore, 1) := by decide +kernel
theorem dX6_trim_60 : decode cX6_trim 60 = .ok (.return_, 1) := by decide +kernel
theorem dX6_move_0 : decode cX6_move 0 = .ok (.iconst 0, 1) := by decide +kernel
theorem dX6_move_1 : decode cX6_move 1 = .ok (.istore_n 3, 1) := by decide +kernel
theorem dX6_move_2 : decode cX6_move 2 = .ok (.iload_n 3, 1) := by decide +kernel
theorem dX6_move_3 : decode cX6_move 3 = .ok (.aload_n 0, 1) := by decide +kernel
theorem dX6_move_4 : decode cX6_move 4 = .ok (.getfield 13, 3) := by decide +kernel
theorem dX6_move_7 : decode cX6_move 7 = .ok (.iload_n 2, 1) := by decide +kernel
theorem dX6_move_8 : decode cX6_move 8 = .ok (.iaload, 1) := by decide +kernel
theorem dX6_move_9 : decode cX6_move 9 = .ok (.if_icmp .ge 33, 3) := by decide +kernel
theorem dX6_move_12 : decode cX6_move 12 = .ok (.aload_n 0, 1) := by decide +kernel
theorem dX6_move_13 : decode cX6_move 13 = .ok (.getfield 7, 3) := by decide +kernel
theorem dX6_move_16 : decode cX6_move 16 = .ok (.sipush 520, 3) := by decide +kernel
theorem dX6_move_19 : decode cX6_move 19 = .ok (.iload_n 1, 1) := by decide +kernel
theorem dX6_move_20 : decode cX6_move 20 = .ok (.imul, 1) := by decide +kernel
theorem dX6_move_21 : decode cX6_move 21 = .ok (.iload_n 3, 1) := by decide +kernel
theorem dX6_move_22 : decode cX6_move 22 = .ok (.iadd, 1) := by decide +kernel
theorem dX6_move_23 : decode cX6_move 23 = .ok (.aload_n 0, 1) := by decide +kernel
theorem dX6_move_24 : decode cX6_move 24 = .ok (.getfield 7, 3) := by decide +kernel
theorem dX6_move_27 : decode cX6_move 27 = .ok (.sipush 520, 3) := by decide +kernel
theorem dX6_move_30 : decode cX6_move 30 = .ok (.iload_n 2, 1) := by decide +kernel
theorem dX6_move_31 : decode cX6_move 31 = .ok (.imul, 1) := by decide +kernel
theorem dX6_move_32 : decode cX6_move 32 = .ok (.iload_n 3, 1) := by decide +kernel
theorem dX6_move_33 : decode cX6_move 33 = .ok (.iadd, 1) := by decide +kernel
theorem dX6_move_34 : decode cX6_move 34 = .ok (.iaload, 1) := by decide +kernel
theorem dX6_move_35 : decode cX6_move 35 = .ok (.iastore, 1) := by decide +kernel
theorem dX6_move_36 : decode cX6_move 36 = .ok (.iinc 3 1, 3) := by decide +kernel
theorem dX6_move_39 : decode cX6_move 39 = .ok (.goto (-37), 3) := by decide +kernel
theorem dX6_move_42 : decode cX6_move 42 = .ok (.aload_n 0, 1) := by decide +kernel
theorem dX6_move_43 : decode cX6_move 43 = .ok (.getfield 13, 3) := by decide +kernel
theorem dX6_move_46 : decode cX6_move 46 = .ok (.iload_n 1, 1) := by decide +kernel
theorem dX6_move_47 : decode cX6_move 47 = .ok (.aload_n 0, 1) := by decide +kernel
theorem dX6_move_48 : decode cX6_move 48 = .ok (.getfield 13, 3) := by decide +kernel
theorem dX6_move_51 : decode cX6_move 51 = .ok (.iload_n 2, 1) := by decide +kernel
theorem dX6_move_52 : decode cX6_move 52 = .ok (.iaload, 1) := by decide +kernel
theorem dX6_move_53 : decode cX6_move 53 = .ok (.iastore, 1) := by decide +kernel
theorem dX6_move_54 : decode cX6_move 54 = .ok (.aload_n 0, 1) := by decide +kernel
theorem dX6_move_55 : decode cX6_move 55 = .ok (.getfield 16, 3) := by decide +kernel
theorem dX6_move_58 : decode cX6_move 58 = .ok (.iload_n 1, 1) := by decide +kernel
theorem dX6_move_59 : decode cX6_move 59 = .ok (.aload_n 0, 1) := by decide +kernel
theorem dX6_move_60 : decode cX6_move 60 = .ok (.getfield 16, 3) := by decide +kernel
theorem dX6_move_63 : decode cX6_move 63 = .ok (.iload_n 2, 1) := by decide +kernel
theorem dX6_move_64 : decode cX6_move 64 = .ok (.baload, 1) := by decide +kernel
theorem dX6_move_65 : decode cX6_move 65 = .ok (.bastore, 1) := by decide +kernel
theorem dX6_move_66 : decode cX6_move 66 = .ok (.return_, 1) := by decide +kernel
set_option maxRecDepth 20000 in
theorem ggX6_small_X6_put : GoodIn wsX6_small wsX6_put := goodIn_r _ [8, 9, 10, 11, 12, 13, 14, 15, 16, 17, 18] rfl (by decide +kernel)
set_option maxRecDepth 20000 in
theorem gX6_small_X6_put : GoodIn wsX6_small (wsV RX6 35 RX6 yX6_put wsX6_put) := goodIn_app (goodIn_of _ (by decide +kernel)) ggX6_small_X6_put
theorem dX6_small_0 : decode cX6_small 0 = .ok (.iconst 0, 1) := by decide +kernel
theorem dX6_small_1 : decode cX6_small 1 = .ok (.istore 4, 2) := by decide +kernel
theorem dX6_small_3 : decode cX6_small 3 = .ok (.lload_n 2, 1) := by decide +kernel
theorem dX6_small_4 : decode cX6_small 4 = .ok (.lstore 5, 2) := by decide +kernel
theorem dX6_small_6 : decode cX6_small 6 = .ok (.lload 5, 2) := by decide +kernel
theorem dX6_small_8 : decode cX6_small 8 = .ok (.lconst 0, 1) := by decide +kernel
theorem dX6_small_9 : decode cX6_small 9 = .ok (.lcmp, 1) := by decide +kernel
theorem dX6_small_10 : decode cX6_small 10 = .ok (.ifCond .eq 30, 3) := by decide +kernel
theorem dX6_small_13 : decode cX6_small 13 = .ok (.aload_n 0, 1) := by decide +kernel
theorem dX6_small_14 : decode cX6_small 14 = .ok (.iload_n 1, 1) := by decide +kernel
theorem dX6_small_15 : decode cX6_small 15 = .ok (.iload 4, 2) := by decide +kernel
theorem dX6_small_17 : decode cX6_small 17 = .ok (.lload 5, 2) := by decide +kernel
theorem dX6_small_19 : decode cX6_small 19 = .ok (.ldc2_w 33, 3) := by decide +kernel
theorem dX6_small_22 : decode cX6_small 22 = .ok (.land, 1) := by decide +kernel
theorem dX6_small_23 : decode cX6_small 23 = .ok (.l2i, 1) := by decide +kernel
theorem dX6_small_24 : decode cX6_small 24 = .ok (.invokevirtual 35, 3) := by decide +kernel
theorem dX6_small_27 : decode cX6_small 27 = .ok (.iinc 4 1, 3) := by decide +kernel
theorem dX6_small_30 : decode cX6_small 30 = .ok (.lload 5, 2) := by decide +kernel
theorem dX6_small_32 : decode cX6_small 32 = .ok (.bipush 16, 2) := by decide +kernel
theorem dX6_small_34 : decode cX6_small 34 = .ok (.lushr, 1) := by decide +kernel
theorem dX6_small_35 : decode cX6_small 35 = .ok (.lstore 5, 2) := by decide +kernel
theorem dX6_small_37 : decode cX6_small 37 = .ok (.goto (-31), 3) := by decide +kernel
theorem dX6_small_40 : decode cX6_small 40 = .ok (.aload_n 0, 1) := by decide +kernel
theorem dX6_small_41 : decode cX6_small 41 = .ok (.getfield 13, 3) := by decide +kernel
theorem dX6_small_44 : decode cX6_small 44 = .ok (.iload_n 1, 1) := by decide +kernel
theorem dX6_small_45 : decode cX6_small 45 = .ok (.iload 4, 2) := by decide +kernel
theorem dX6_small_47 : decode cX6_small 47 = .ok (.iastore, 1) := by decide +kernel
theorem dX6_small_48 : decode cX6_small 48 = .ok (.aload_n 0, 1) := by decide +kernel
theorem dX6_small_49 : decode cX6_small 49 = .ok (.getfield 16, 3) := by decide +kernel
theorem dX6_small_52 : decode cX6_small 52 = .ok (.iload_n 1, 1) := by decide +kernel
theorem dX6_small_53 : decode cX6_small 53 = .ok (.iconst 0, 1) := by decide +kernel
theorem dX6_small_54 : decode cX6_small 54 = .ok (.bastore, 1) := by decide +kernel
theorem dX6_small_55 : decode cX6_small 55 = .ok (.return_, 1) := by decide +kernel
set_option maxRecDepth 20000 in
theorem ggX6_order_X6_digit : GoodIn wsX6_order wsX6_digit := goodIn_r _ [6, 1, 7, 8, 9, 10, 11, 12, 13, 14, 15, 16] rfl (by decide +kernel)
set_option maxRecDepth 20000 in
theorem gX6_order_X6_digit : GoodIn wsX6_order (wsV RX6 39 RX6 yX6_digit wsX6_digit) := goodIn_app (goodIn_of _ (by decide +kernel)) ggX6_order_X6_digit
theorem dX6_order_0 : decode cX6_order 0 = .ok (.aload_n 0, 1) := by decide +kernel
theorem dX6_order_1 : decode cX6_order 1 = .ok (.getfield 13, 3) := by decide +kernel
theorem dX6_order_4 : decode cX6_order 4 = .ok (.iload_n 1, 1) := by decide +kernel
theorem dX6_order_5 : decode cX6_order 5 = .ok (.iaload, 1) := by decide +kernel
theorem dX6_order_6 : decode cX6_order 6 = .ok (.aload_n 0, 1) := by decide +kernel
theorem dX6_order_7 : decode cX6_order 7 = .ok (.getfield 13, 3) := by decide +kernel
theorem dX6_order_10 : decode cX6_order 10 = .ok (.iload_n 2, 1) := by decide +kernel
theorem dX6_order_11 : decode cX6_order 11 = .ok (.iaload, 1) := by decide +kernel
theorem dX6_order_12 : decode cX6_order 12 = .ok (.if_icmp .eq 24, 3) := by decide +kernel
theorem dX6_order_15 : decode cX6_order 15 = .ok (.aload_n 0, 1) := by decide +kernel
theorem dX6_order_16 : decode cX6_order 16 = .ok (.getfield 13, 3) := by decide +kernel
theorem dX6_order_19 : decode cX6_order 19 = .ok (.iload_n 1, 1) := by decide +kernel
theorem dX6_order_20 : decode cX6_order 20 = .ok (.iaload, 1) := by decide +kernel
theorem dX6_order_21 : decode cX6_order 21 = .ok (.aload_n 0, 1) := by decide +kernel
theorem dX6_order_22 : decode cX6_order 22 = .ok (.getfield 13, 3) := by decide +kernel
theorem dX6_order_25 : decode cX6_order 25 = .ok (.iload_n 2, 1) := by decide +kernel
theorem dX6_order_26 : decode cX6_order 26 = .ok (.iaload, 1) := by decide +kernel
theorem dX6_order_27 : decode cX6_order 27 = .ok (.if_icmp .ge 7, 3) := by decide +kernel
theorem dX6_order_30 : decode cX6_order 30 = .ok (.iconst (-1), 1) := by decide +kernel
theorem dX6_order_31 : decode cX6_order 31 = .ok (.goto 4, 3) := by decide +kernel
theorem dX6_order_34 : decode cX6_order 34 = .ok (.iconst 1, 1) := by decide +kernel
theorem dX6_order_35 : decode cX6_order 35 = .ok (.ireturn, 1) := by decide +kernel
theorem dX6_order_36 : decode cX6_order 36 = .ok (.aload_n 0, 1) := by decide +kernel
theorem dX6_order_37 : decode cX6_order 37 = .ok (.getfield 13, 3) := by decide +kernel
theorem dX6_order_40 : decode cX6_order 40 = .ok (.iload_n 1, 1) := by decide +kernel
theorem dX6_order_41 : decode cX6_order 41 = .ok (.iaload, 1) := by decide +kernel
theorem dX6_order_42 : decode cX6_order 42 = .ok (.iconst 1, 1) := by decide +kernel
theorem dX6_order_43 : decode cX6_order 43 = .ok (.isub, 1) := by decide +kernel
theorem dX6_order_44 : decode cX6_order 44 = .ok (.istore_n 3, 1) := by decide +kernel
theorem dX6_order_45 : decode cX6_order 45 = .ok (.iload_n 3, 1) := by decide +kernel
theorem dX6_order_46 : decode cX6_order 46 = .ok (.ifCond .lt 45, 3) := by decide +kernel
theorem dX6_order_49 : decode cX6_order 49 = .ok (.aload_n 0, 1) := by decide +kernel
theorem dX6_order_50 : decode cX6_order 50 = .ok (.iload_n 1, 1) := by decide +kernel
theorem dX6_order_51 : decode cX6_order 51 = .ok (.iload_n 3, 1) := by decide +kernel
theorem dX6_order_52 : decode cX6_order 52 = .ok (.invokevirtual 39, 3) := by decide +kernel
theorem dX6_order_55 : decode cX6_order 55 = .ok (.aload_n 0, 1) := by decide +kernel
theorem dX6_order_56 : decode cX6_order 56 = .ok (.iload_n 2, 1) := by decide +kernel
theorem dX6_order_57 : decode cX6_order 57 = .ok (.iload_n 3, 1) := by decide +kernel
theorem dX6_order_58 : decode cX6_order 58 = .ok (.invokevirtual 39, 3) := by decide +kernel
theorem dX6_order_61 : decode cX6_order 61 = .ok (.if_icmp .eq 24, 3) := by decide +kernel
theorem dX6_order_64 : decode cX6_order 64 = .ok (.aload_n 0, 1) := by decide +kernel
theorem dX6_order_65 : decode cX6_order 65 = .ok (.iload_n 1, 1) := by decide +kernel
theorem dX6_order_66 : decode cX6_order 66 = .ok (.iload_n 3, 1) := by decide +kernel
theorem dX6_order_67 : decode cX6_order 67 = .ok (.invokevirtual 39, 3) := by decide +kernel
theorem dX6_order_70 : decode cX6_order 70 = .ok (.aload_n 0, 1) := by decide +kernel
theorem dX6_order_71 : decode cX6_order 71 = .ok (.iload_n 2, 1) := by decide +kernel
theorem dX6_order_72 : decode cX6_order 72 = .ok (.iload_n 3, 1) := by decide +kernel
theorem dX6_order_73 : decode cX6_order 73 = .ok (.invokevirtual 39, 3) := by decide +kernel
theorem dX6_order_76 : decode cX6_order 76 = .ok (.if_icmp .ge 7, 3) := by decide +kernel
theorem dX6_order_79 : decode cX6_order 79 = .ok (.iconst (-1), 1) := by decide +kernel
theorem dX6_order_80 : decode cX6_order 80 = .ok (.goto 4, 3) := by decide +kernel
theorem dX6_order_83 : decode cX6_order 83 = .ok (.iconst 1, 1) := by decide +kernel
theorem dX6_order_84 : decode cX6_order 84 = .ok (.ireturn, 1) := by decide +kernel
theorem dX6_order_85 : decode cX6_order 85 = .ok (.iinc 3 (-1), 3) := by decide +kernel
theorem dX6_order_88 : decode cX6_order 88 = .ok (.goto (-43), 3) := by decide +kernel
theorem dX6_order_91 : decode cX6_order 91 = .ok (.iconst 0, 1) := by decide +kernel
theorem dX6_order_92 : decode cX6_order 92 = .ok (.ireturn, 1) := by decide +kernel
set_option maxRecDepth 20000 in
theorem ggX6_plus_X6_digit : GoodIn wsX6_plus wsX6_digit := goodIn_r _ [7, 1, 8, 18, 19, 20, 21, 22, 23, 24, 25, 26] rfl (by decide +kernel)
set_option maxRecDepth 20000 in
theorem gX6_plus_X6_digit : GoodIn wsX6_plus (wsV RX6 39 RX6 yX6_digit wsX6_digit) := goodIn_app (goodIn_of _ (by decide +kernel)) ggX6_plus_X6_digit
set_option maxRecDepth 20000 in
theorem ggX6_plus_X6_put : GoodIn wsX6_plus wsX6_put := goodIn_r _ [12, 8, 18, 19, 20, 21, 22, 23, 24, 25, 26] rfl (by decide +kernel)
set_option maxRecDepth 20000 in
theorem gX6_plus_X6_put : GoodIn wsX6_plus (wsV RX6 35 RX6 yX6_put wsX6_put) := goodIn_app (goodIn_of _ (by decide +kernel)) ggX6_plus_X6_put
set_option maxRecDepth 20000 in
theorem ggX6_plus_X6_trim : GoodIn wsX6_plus wsX6_trim := goodIn_r _ [16, 8, 1, 17, 18, 19, 20, 21, 22, 23, 24, 25, 26] rfl (by decide +kernel)
set_option maxRecDepth 20000 in
theorem gX6_plus_X6_trim : GoodIn wsX6_plus (wsV RX6 44 RX6 yX6_trim wsX6_trim) := goodIn_app (goodIn_of _ (by decide +kernel)) ggX6_plus_X6_trim
theorem dX6_plus_0 : decode cX6_plus 0 = .ok (.aload_n 0, 1) := by decide +kernel
theorem dX6_plus_1 : decode cX6_plus 1 = .ok (.getfield 13, 3) := by decide +kernel
theorem dX6_plus_4 : decode cX6_plus 4 = .ok (.iload_n 2, 1) := by decide +kernel
theorem dX6_plus_5 : decode cX6_plus 5 = .ok (.iaload, 1) := by decide +kernel
theorem dX6_plus_6 : decode cX6_plus 6 = .ok (.aload_n 0, 1) := by decide +kernel
theorem dX6_plus_7 : decode cX6_plus 7 = .ok (.getfield 13, 3) := by decide +kernel
theorem dX6_plus_10 : decode cX6_plus 10 = .ok (.iload_n 3, 1) := by decide +kernel
theorem dX6_plus_11 : decode cX6_plus 11 = .ok (.iaload, 1) := by decide +kernel
theorem dX6_plus_12 : decode cX6_plus 12 = .ok (.if_icmp .le 12, 3) := by decide +kernel
theorem dX6_plus_15 : decode cX6_plus 15 = .ok (.aload_n 0, 1) := by decide +kernel
theorem dX6_plus_16 : decode cX6_plus 16 = .ok (.getfield 13, 3) := by decide +kernel
theorem dX6_plus_19 : decode cX6_plus 19 = .ok (.iload_n 2, 1) := by decide +kernel
theorem dX6_plus_20 : decode cX6_plus 20 = .ok (.iaload, 1) := by decide +kernel
theorem dX6_plus_21 : decode cX6_plus 21 = .ok (.goto 9, 3) := by decide +kernel
theorem dX6_plus_24 : decode cX6_plus 24 = .ok (.aload_n 0, 1) := by decide +kernel
theorem dX6_plus_25 : decode cX6_plus 25 = .ok (.getfield 13, 3) := by decide +kernel
theorem dX6_plus_28 : decode cX6_plus 28 = .ok (.iload_n 3, 1) := by decide +kernel
theorem dX6_plus_29 : decode cX6_plus 29 = .ok (.iaload, 1) := by decide +kernel
theorem dX6_plus_30 : decode cX6_plus 30 = .ok (.istore 4, 2) := by decide +kernel
theorem dX6_plus_32 : decode cX6_plus 32 = .ok (.iconst 0, 1) := by decide +kernel
theorem dX6_plus_33 : decode cX6_plus 33 = .ok (.istore 5, 2) := by decide +kernel
theorem dX6_plus_35 : decode cX6_plus 35 = .ok (.iconst 0, 1) := by decide +kernel
theorem dX6_plus_36 : decode cX6_plus 36 = .ok (.istore 6, 2) := by decide +kernel
theorem dX6_plus_38 : decode cX6_plus 38 = .ok (.iload 6, 2) := by decide +kernel
theorem dX6_plus_40 : decode cX6_plus 40 = .ok (.iload 4, 2) := by decide +kernel
theorem dX6_plus_42 : decode cX6_plus 42 = .ok (.if_icmp .ge 48, 3) := by decide +kernel
theorem dX6_plus_45 : decode cX6_plus 45 = .ok (.aload_n 0, 1) := by decide +kernel
theorem dX6_plus_46 : decode cX6_plus 46 = .ok (.iload_n 2, 1) := by decide +kernel
theorem dX6_plus_47 : decode cX6_plus 47 = .ok (.iload 6, 2) := by decide +kernel
theorem dX6_plus_49 : decode cX6_plus 49 = .ok (.invokevirtual 39, 3) := by decide +kernel
theorem dX6_plus_52 : decode cX6_plus 52 = .ok (.aload_n 0, 1) := by decide +kernel
theorem dX6_plus_53 : decode cX6_plus 53 = .ok (.iload_n 3, 1) := by decide +kernel
theorem dX6_plus_54 : decode cX6_plus 54 = .ok (.iload 6, 2) := by decide +kernel
theorem dX6_plus_56 : decode cX6_plus 56 = .ok (.invokevirtual 39, 3) := by decide +kernel
theorem dX6_plus_59 : decode cX6_plus 59 = .ok (.iadd, 1) := by decide +kernel
theorem dX6_plus_60 : decode cX6_plus 60 = .ok (.iload 5, 2) := by decide +kernel
theorem dX6_plus_62 : decode cX6_plus 62 = .ok (.iadd, 1) := by decide +kernel
theorem dX6_plus_63 : decode cX6_plus 63 = .ok (.istore 7, 2) := by decide +kernel
theorem dX6_plus_65 : decode cX6_plus 65 = .ok (.aload_n 0, 1) := by decide +kernel
theorem dX6_plus_66 : decode cX6_plus 66 = .ok (.iload_n 1, 1) := by decide +kernel
theorem dX6_plus_67 : decode cX6_plus 67 = .ok (.iload 6, 2) := by decide +kernel
theorem dX6_plus_69 : decode cX6_plus 69 = .ok (.iload 7, 2) := by decide +kernel
theorem dX6_plus_71 : decode cX6_plus 71 = .ok (.ldc 43, 2) := by decide +kernel
theorem dX6_plus_73 : decode cX6_plus 73 = .ok (.iand, 1) := by decide +kernel
theorem dX6_plus_74 : decode cX6_plus 74 = .ok (.invokevirtual 35, 3) := by decide +kernel
theorem dX6_plus_77 : decode cX6_plus 77 = .ok (.iload 7, 2) := by decide +kernel
theorem dX6_plus_79 : decode cX6_plus 79 = .ok (.bipush 16, 2) := by decide +kernel
theorem dX6_plus_81 : decode cX6_plus 81 = .ok (.ishr, 1) := by decide +kernel
theorem dX6_plus_82 : decode cX6_plus 82 = .ok (.istore 5, 2) := by decide +kernel
theorem dX6_plus_84 : decode cX6_plus 84 = .ok (.iinc 6 1, 3) := by decide +kernel
theorem dX6_plus_87 : decode cX6_plus 87 = .ok (.goto (-49), 3) := by decide +kernel
theorem dX6_plus_90 : decode cX6_plus 90 = .ok (.aload_n 0, 1) := by decide +kernel
theorem dX6_plus_91 : decode cX6_plus 91 = .ok (.iload_n 1, 1) := by decide +kernel
theorem dX6_plus_92 : decode cX6_plus 92 = .ok (.iload 4, 2) := by decide +kernel
theorem dX6_plus_94 : decode cX6_plus 94 = .ok (.iload 5, 2) := by decide +kernel
theorem dX6_plus_96 : decode cX6_plus 96 = .ok (.invokevirtual 35, 3) := by decide +kernel
theorem dX6_plus_99 : decode cX6_plus 99 = .ok (.aload_n 0, 1) := by decide +kernel
theorem dX6_plus_100 : decode cX6_plus 100 = .ok (.iload_n 1, 1) := by decide +kernel
theorem dX6_plus_101 : decode cX6_plus 101 = .ok (.iload 4, 2) := by decide +kernel
theorem dX6_plus_103 : decode cX6_plus 103 = .ok (.iconst 1, 1) := by decide +kernel
theorem dX6_plus_104 : decode cX6_plus 104 = .ok (.iadd, 1) := by decide +kernel
theorem dX6_plus_105 : decode cX6_plus 105 = .ok (.invokevirtual 44, 3) := by decide +kernel
theorem dX6_plus_108 : decode cX6_plus 108 = .ok (.return_, 1) := by decide +kernel
set_option maxRecDepth 20000 in
theorem ggX6_minus_X6_digit : GoodIn wsX6_minus wsX6_digit := goodIn_r _ [7, 1, 8, 18, 19, 20, 21, 22, 23, 24, 25, 26] rfl (by decide +kernel)
set_option maxRecDepth 20000 in
theorem gX6_minus_X6_digit : GoodIn wsX6_minus (wsV RX6 39 RX6 yX6_digit wsX6_digit) := goodIn_app (goodIn_of _ (by decide +kernel)) ggX6_minus_X6_digit
set_option maxRecDepth 20000 in
theorem ggX6_minus_X6_put : GoodIn wsX6_minus wsX6_put := goodIn_r _ [12, 8, 18, 19, 20, 21, 22, 23, 24, 25, 26] rfl (by decide +kernel)
set_option maxRecDepth 20000 in
theorem gX6_minus_X6_put : GoodIn wsX6_minus (wsV RX6 35 RX6 yX6_put wsX6_put) := goodIn_app (goodIn_of _ (by decide +kernel)) ggX6_minus_X6_put
set_option maxRecDepth 20000 in
theorem ggX6_minus_X6_trim : GoodIn wsX6_minus wsX6_trim := goodIn_r _ [16, 8, 1, 17, 18, 19, 20, 21, 22, 23, 24, 25, 26] rfl (by decide +kernel)
set_option maxRecDepth 20000 in
theorem gX6_minus_X6_trim : GoodIn wsX6_minus (wsV RX6 44 RX6 yX6_trim wsX6_trim) := goodIn_app (goodIn_of _ (by decide +kernel)) ggX6_minus_X6_trim
theorem dX6_minus_0 : decode cX6_minus 0 = .ok (.aload_n 0, 1) := by decide +kernel
theorem dX6_minus_1 : decode cX6_minus 1 = .ok (.getfield 13, 3) := by decide +kernel
theorem dX6_minus_4 : decode cX6_minus 4 = .ok (.iload_n 2, 1) := by decide +kernel
theorem dX6_minus_5 : decode cX6_minus 5 = .ok (.iaload, 1) := by decide +kernel
theorem dX6_minus_6 : decode cX6_minus 6 = .ok (.istore 4, 2) := by decide +kernel
theorem dX6_minus_8 : decode cX6_minus 8 = .ok (.iconst 0, 1) := by decide +kernel
theorem dX6_minus_9 : decode cX6_minus 9 = .ok (.istore 5, 2) := by decide +kernel
theorem dX6_minus_11 : decode cX6_minus 11 = .ok (.iconst 0, 1) := by decide +kernel
theorem dX6_minus_12 : decode cX6_minus 12 = .ok (.istore 6, 2) := by decide +kernel
theorem dX6_minus_14 : decode cX6_minus 14 = .ok (.iload 6, 2) := by decide +kernel
theorem dX6_minus_16 : decode cX6_minus 16 = .ok (.iload 4, 2) := by decide +kernel
theorem dX6_minus_18 : decode cX6_minus 18 = .ok (.if_icmp .ge 53, 3) := by decide +kernel
theorem dX6_minus_21 : decode cX6_minus 21 = .ok (.aload_n 0, 1) := by decide +kernel
theorem dX6_minus_22 : decode cX6_minus 22 = .ok (.iload_n 2, 1) := by decide +kernel
theorem dX6_minus_23 : decode cX6_minus 23 = .ok (.iload 6, 2) := by decide +kernel
theorem dX6_minus_25 : decode cX6_minus 25 = .ok (.invokevirtual 39, 3) := by decide +kernel
theorem dX6_minus_28 : decode cX6_minus 28 = .ok (.aload_n 0, 1) := by decide +kernel
theorem dX6_minus_29 : decode cX6_minus 29 = .ok (.iload_n 3, 1) := by decide +kernel
theorem dX6_minus_30 : decode cX6_minus 30 = .ok (.iload 6, 2) := by decide +kernel
theorem dX6_minus_32 : decode cX6_minus 32 = .ok (.invokevirtual 39, 3) := by decide +kernel
theorem dX6_minus_35 : decode cX6_minus 35 = .ok (.isub, 1) := by decide +kernel
theorem dX6_minus_36 : decode cX6_minus 36 = .ok (.iload 5, 2) := by decide +kernel
theorem dX6_minus_38 : decode cX6_minus 38 = .ok (.isub, 1) := by decide +kernel
theorem dX6_minus_39 : decode cX6_minus 39 = .ok (.istore 7, 2) := by decide +kernel
theorem dX6_minus_41 : decode cX6_minus 41 = .ok (.aload_n 0, 1) := by decide +kernel
theorem dX6_minus_42 : decode cX6_minus 42 = .ok (.iload_n 1, 1) := by decide +kernel
theorem dX6_minus_43 : decode cX6_minus 43 = .ok (.iload 6, 2) := by decide +kernel
theorem dX6_minus_45 : decode cX6_minus 45 = .ok (.iload 7, 2) := by decide +kernel
theorem dX6_minus_47 : decode cX6_minus 47 = .ok (.ldc 43, 2) := by decide +kernel
theorem dX6_minus_49 : decode cX6_minus 49 = .ok (.iand, 1) := by decide +kernel
theorem dX6_minus_50 : decode cX6_minus 50 = .ok (.invokevirtual 35, 3) := by decide +kernel
theorem dX6_minus_53 : decode cX6_minus 53 = .ok (.iload 7, 2) := by decide +kernel
theorem dX6_minus_55 : decode cX6_minus 55 = .ok (.ifCond .ge 7, 3) := by decide +kernel
theorem dX6_minus_58 : decode cX6_minus 58 = .ok (.iconst 1, 1) := by decide +kernel
theorem dX6_minus_59 : decode cX6_minus 59 = .ok (.goto 4, 3) := by decide +kernel
theorem dX6_minus_62 : decode cX6_minus 62 = .ok (.iconst 0, 1) := by decide +kernel
theorem dX6_minus_63 : decode cX6_minus 63 = .ok (.istore 5, 2) := by decide +kernel
theorem dX6_minus_65 : decode cX6_minus 65 = .ok (.iinc 6 1, 3) := by decide +kernel
theorem dX6_minus_68 : decode cX6_minus 68 = .ok (.goto (-54), 3) := by decide +kernel
theorem dX6_minus_71 : decode cX6_minus 71 = .ok (.aload_n 0, 1) := by decide +kernel
theorem dX6_minus_72 : decode cX6_minus 72 = .ok (.iload_n 1, 1) := by decide +kernel
theorem dX6_minus_73 : decode cX6_minus 73 = .ok (.iload 4, 2) := by decide +kernel
theorem dX6_minus_75 : decode cX6_minus 75 = .ok (.invokevirtual 44, 3) := by decide +kernel
theorem dX6_minus_78 : decode cX6_minus 78 = .ok (.return_, 1) := by decide +kernel
set_option maxRecDepth 20000 in
theorem ggX6_times_X6_put : GoodIn wsX6_times wsX6_put := goodIn_r _ [9, 2, 18, 19, 20, 21, 22, 23, 24, 25, 26] rfl (by decide +kernel)
set_option maxRecDepth 20000 in
theorem gX6_times_X6_put : GoodIn wsX6_times (wsV RX6 35 RX6 yX6_put wsX6_put) := goodIn_app (goodIn_of _ (by decide +kernel)) ggX6_times_X6_put
set_option maxRecDepth 20000 in
theorem ggX6_times_X6_digit : GoodIn wsX6_times wsX6_digit := goodIn_r _ [13, 1, 2, 18, 19, 20, 21, 22, 23, 24, 25, 26] rfl (by decide +kernel)
set_option maxRecDepth 20000 in
theorem gX6_times_X6_digit : GoodIn wsX6_times (wsV RX6 39 RX6 yX6_digit wsX6_digit) := goodIn_app (goodIn_of _ (by decide +kernel)) ggX6_times_X6_digit
set_option maxRecDepth 20000 in
theorem ggX6_times_X6_trim : GoodIn wsX6_times wsX6_trim := goodIn_r _ [17, 2, 1, 4, 18, 19, 20, 21, 22, 23, 24, 25, 26] rfl (by decide +kernel)
set_option maxRecDepth 20000 in
theorem gX6_times_X6_trim : GoodIn wsX6_times (wsV RX6 44 RX6 yX6_trim wsX6_trim) := goodIn_app (goodIn_of _ (by decide +kernel)) ggX6_times_X6_trim
theorem dX6_times_0 : decode cX6_times 0 = .ok (.aload_n 0, 1) := by decide +kernel
theorem dX6_times_1 : decode cX6_times 1 = .ok (.getfield 13, 3) := by decide +kernel
theorem dX6_times_4 : decode cX6_times 4 = .ok (.iload_n 2, 1) := by decide +kernel
theorem dX6_times_5 : decode cX6_times 5 = .ok (.iaload, 1) := by decide +kernel
theorem dX6_times_6 : decode cX6_times 6 = .ok (.aload_n 0, 1) := by decide +kernel
theorem dX6_times_7 : decode cX6_times 7 = .ok (.getfield 13, 3) := by decide +kernel
theorem dX6_times_10 : decode cX6_times 10 = .ok (.iload_n 3, 1) := by decide +kernel
theorem dX6_times_11 : decode cX6_times 11 = .ok (.iaload, 1) := by decide +kernel
theorem dX6_times_12 : decode cX6_times 12 = .ok (.iadd, 1) := by decide +kernel
theorem dX6_times_13 : decode cX6_times 13 = .ok (.istore 4, 2) := by decide +kernel
theorem dX6_times_15 : decode cX6_times 15 = .ok (.iconst 0, 1) := by decide +kernel
theorem dX6_times_16 : decode cX6_times 16 = .ok (.istore 5, 2) := by decide +kernel
theorem dX6_times_18 : decode cX6_times 18 = .ok (.iload 5, 2) := by decide +kernel
theorem dX6_times_20 : decode cX6_times 20 = .ok (.iload 4, 2) := by decide +kernel
theorem dX6_times_22 : decode cX6_times 22 = .ok (.if_icmp .ge 17, 3) := by decide +kernel
theorem dX6_times_25 : decode cX6_times 25 = .ok (.aload_n 0, 1) := by decide +kernel
theorem dX6_times_26 : decode cX6_times 26 = .ok (.iload_n 1, 1) := by decide +kernel
theorem dX6_times_27 : decode cX6_times 27 = .ok (.iload 5, 2) := by decide +kernel
theorem dX6_times_29 : decode cX6_times 29 = .ok (.iconst 0, 1) := by decide +kernel
theorem dX6_times_30 : decode cX6_times 30 = .ok (.invokevirtual 35, 3) := by decide +kernel
theorem dX6_times_33 : decode cX6_times 33 = .ok (.iinc 5 1, 3) := by decide +kernel
theorem dX6_times_36 : decode cX6_times 36 = .ok (.goto (-18), 3) := by decide +kernel
theorem dX6_times_39 : decode cX6_times 39 = .ok (.iconst 0, 1) := by decide +kernel
theorem dX6_times_40 : decode cX6_times 40 = .ok (.istore 5, 2) := by decide +kernel
theorem dX6_times_42 : decode cX6_times 42 = .ok (.iload 5, 2) := by decide +kernel
theorem dX6_times_44 : decode cX6_times 44 = .ok (.aload_n 0, 1) := by decide +kernel
theorem dX6_times_45 : decode cX6_times 45 = .ok (.getfield 13, 3) := by decide +kernel
theorem dX6_times_48 : decode cX6_times 48 = .ok (.iload_n 2, 1) := by decide +kernel
theorem dX6_times_49 : decode cX6_times 49 = .ok (.iaload, 1) := by decide +kernel
theorem dX6_times_50 : decode cX6_times 50 = .ok (.if_icmp .ge 117, 3) := by decide +kernel
theorem dX6_times_53 : decode cX6_times 53 = .ok (.lconst 0, 1) := by decide +kernel
theorem dX6_times_54 : decode cX6_times 54 = .ok (.lstore 6, 2) := by decide +kernel
theorem dX6_times_56 : decode cX6_times 56 = .ok (.aload_n 0, 1) := by decide +kernel
theorem dX6_times_57 : decode cX6_times 57 = .ok (.iload_n 2, 1) := by decide +kernel
theorem dX6_times_58 : decode cX6_times 58 = .ok (.iload 5, 2) := by decide +kernel
theorem dX6_times_60 : decode cX6_times 60 = .ok (.invokevirtual 39, 3) := by decide +kernel
theorem dX6_times_63 : decode cX6_times 63 = .ok (.i2l, 1) := by decide +kernel
theorem dX6_times_64 : decode cX6_times 64 = .ok (.lstore 8, 2) := by decide +kernel
theorem dX6_times_66 : decode cX6_times 66 = .ok (.iconst 0, 1) := by decide +kernel
theorem dX6_times_67 : decode cX6_times 67 = .ok (.istore 10, 2) := by decide +kernel
theorem dX6_times_69 : decode cX6_times 69 = .ok (.iload 10, 2) := by decide +kernel
theorem dX6_times_71 : decode cX6_times 71 = .ok (.aload_n 0, 1) := by decide +kernel
theorem dX6_times_72 : decode cX6_times 72 = .ok (.getfield 13, 3) := by decide +kernel
theorem dX6_times_75 : decode cX6_times 75 = .ok (.iload_n 3, 1) := by decide +kernel
theorem dX6_times_76 : decode cX6_times 76 = .ok (.iaload, 1) := by decide +kernel
theorem dX6_times_77 : decode cX6_times 77 = .ok (.if_icmp .ge 67, 3) := by decide +kernel
theorem dX6_times_80 : decode cX6_times 80 = .ok (.aload_n 0, 1) := by decide +kernel
theorem dX6_times_81 : decode cX6_times 81 = .ok (.getfield 7, 3) := by decide +kernel
theorem dX6_times_84 : decode cX6_times 84 = .ok (.sipush 520, 3) := by decide +kernel
theorem dX6_times_87 : decode cX6_times 87 = .ok (.iload_n 1, 1) := by decide +kernel
theorem dX6_times_88 : decode cX6_times 88 = .ok (.imul, 1) := by decide +kernel
theorem dX6_times_89 : decode cX6_times 89 = .ok (.iload 5, 2) := by decide +kernel
theorem dX6_times_91 : decode cX6_times 91 = .ok (.iadd, 1) := by decide +kernel
theorem dX6_times_92 : decode cX6_times 92 = .ok (.iload 10, 2) := by decide +kernel
theorem dX6_times_94 : decode cX6_times 94 = .ok (.iadd, 1) := by decide +kernel
theorem dX6_times_95 : decode cX6_times 95 = .ok (.iaload, 1) := by decide +kernel
theorem dX6_times_96 : decode cX6_times 96 = .ok (.i2l, 1) := by decide +kernel
theorem dX6_times_97 : decode cX6_times 97 = .ok (.lload 8, 2) := by decide +kernel
theorem dX6_times_99 : decode cX6_times 99 = .ok (.aload_n 0, 1) := by decide +kernel
theorem dX6_times_100 : decode cX6_times 100 = .ok (.iload_n 3, 1) := by decide +kernel
theorem dX6_times_101 : decode cX6_times 101 = .ok (.iload 10, 2) := by decide +kernel
theorem dX6_times_103 : decode cX6_times 103 = .ok (.invokevirtual 39, 3) := by decide +kernel
theorem dX6_times_106 : decode cX6_times 106 = .ok (.i2l, 1) := by decide +kernel
theorem dX6_times_107 : decode cX6_times 107 = .ok (.lmul, 1) := by decide +kernel
theorem dX6_times_108 : decode cX6_times 108 = .ok (.ladd, 1) := by decide +kernel
theorem dX6_times_109 : decode cX6_times 109 = .ok (.lload 6, 2) := by decide +kernel
theorem dX6_times_111 : decode cX6_times 111 = .ok (.ladd, 1) := by decide +kernel
theorem dX6_times_112 : decode cX6_times 112 = .ok (.lstore 11, 2) := by decide +kernel
theorem dX6_times_114 : decode cX6_times 114 = .ok (.aload_n 0, 1) := by decide +kernel
theorem dX6_times_115 : decode cX6_times 115 = .ok (.iload_n 1, 1) := by decide +kernel
theorem dX6_times_116 : decode cX6_times 116 = .ok (.iload 5, 2) := by decide +kernel
theorem dX6_times_118 : decode cX6_times 118 = .ok (.iload 10, 2) := by decide +kernel
theorem dX6_times_120 : decode cX6_times 120 = .ok (.iadd, 1) := by decide +kernel
theorem dX6_times_121 : decode cX6_times 121 = .ok (.lload 11, 2) := by decide +kernel
theorem dX6_times_123 : decode cX6_times 123 = .ok (.ldc2_w 33, 3) := by decide +kernel
theorem dX6_times_126 : decode cX6_times 126 = .ok (.land, 1) := by decide +kernel
theorem dX6_times_127 : decode cX6_times 127 = .ok (.l2i, 1) := by decide +kernel
theorem dX6_times_128 : decode cX6_times 128 = .ok (.invokevirtual 35, 3) := by decide +kernel
theorem dX6_times_131 : decode cX6_times 131 = .ok (.lload 11, 2) := by decide +kernel
theorem dX6_times_133 : decode cX6_times 133 = .ok (.bipush 16, 2) := by decide +kernel
theorem dX6_times_135 : decode cX6_times 135 = .ok (.lushr, 1) := by decide +kernel
theorem dX6_times_136 : decode cX6_times 136 = .ok (.lstore 6, 2) := by decide +kernel
theorem dX6_times_138 : decode cX6_times 138 = .ok (.iinc 10 1, 3) := by decide +kernel
theorem dX6_times_141 : decode cX6_times 141 = .ok (.goto (-72), 3) := by decide +kernel
theorem dX6_times_144 : decode cX6_times 144 = .ok (.aload_n 0, 1) := by decide +kernel
theorem dX6_times_145 : decode cX6_times 145 = .ok (.iload_n 1, 1) := by decide +kernel
theorem dX6_times_146 : decode cX6_times 146 = .ok (.iload 5, 2) := by decide +kernel
theorem dX6_times_148 : decode cX6_times 148 = .ok (.aload_n 0, 1) := by decide +kernel
theorem dX6_times_149 : decode cX6_times 149 = .ok (.getfield 13, 3) := by decide +kernel
theorem dX6_times_152 : decode cX6_times 152 = .ok (.iload_n 3, 1) := by decide +kernel
theorem dX6_times_153 : decode cX6_times 153 = .ok (.iaload, 1) := by decide +kernel
theorem dX6_times_154 : decode cX6_times 154 = .ok (.iadd, 1) := by decide +kernel
theorem dX6_times_155 : decode cX6_times 155 = .ok (.lload 6, 2) := by decide +kernel
theorem dX6_times_157 : decode cX6_times 157 = .ok (.l2i, 1) := by decide +kernel
theorem dX6_times_158 : decode cX6_times 158 = .ok (.invokevirtual 35, 3) := by decide +kernel
theorem dX6_times_161 : decode cX6_times 161 = .ok (.iinc 5 1, 3) := by decide +kernel
theorem dX6_times_164 : decode cX6_times 164 = .ok (.goto (-122), 3) := by decide +kernel
theorem dX6_times_167 : decode cX6_times 167 = .ok (.aload_n 0, 1) := by decide +kernel
theorem dX6_times_168 : decode cX6_times 168 = .ok (.getfield 16, 3) := by decide +kernel
theorem dX6_times_171 : decode cX6_times 171 = .ok (.iload_n 1, 1) := by decide +kernel
theorem dX6_times_172 : decode cX6_times 172 = .ok (.iconst 0, 1) := by decide +kernel
theorem dX6_times_173 : decode cX6_times 173 = .ok (.bastore, 1) := by decide +kernel
theorem dX6_times_174 : decode cX6_times 174 = .ok (.aload_n 0, 1) := by decide +kernel
theorem dX6_times_175 : decode cX6_times 175 = .ok (.iload_n 1, 1) := by decide +kernel
theorem dX6_times_176 : decode cX6_times 176 = .ok (.iload 4, 2) := by decide +kernel
theorem dX6_times_178 : decode cX6_times 178 = .ok (.invokevirtual 44, 3) := by decide +kernel
theorem dX6_times_181 : decode cX6_times 181 = .ok (.return_, 1) := by decide +kernel
set_option maxRecDepth 20000 in
theorem ggX6_shiftUp_X6_digit : GoodIn wsX6_shiftUp wsX6_digit := goodIn_r _ [7, 1, 8, 18, 19, 20, 21, 22, 23, 24, 25, 26] rfl (by decide +kernel)
set_option maxRecDepth 20000 in
theorem gX6_shiftUp_X6_digit : GoodIn wsX6_shiftUp (wsV RX6 39 RX6 yX6_digit wsX6_digit) := goodIn_app (goodIn_of _ (by decide +kernel)) ggX6_shiftUp_X6_digit
set_option maxRecDepth 20000 in
theorem ggX6_shiftUp_X6_put : GoodIn wsX6_shiftUp wsX6_put := goodIn_r _ [12, 8, 18, 19, 20, 21, 22, 23, 24, 25, 26] rfl (by decide +kernel)
set_option maxRecDepth 20000 in
theorem gX6_shiftUp_X6_put : GoodIn wsX6_shiftUp (wsV RX6 35 RX6 yX6_put wsX6_put) := goodIn_app (goodIn_of _ (by decide +kernel)) ggX6_shiftUp_X6_put
set_option maxRecDepth 20000 in
theorem ggX6_shiftUp_X6_trim : GoodIn wsX6_shiftUp wsX6_trim := goodIn_r _ [16, 8, 1, 17, 18, 19, 20, 21, 22, 23, 24, 25, 26] rfl (by decide +kernel)
set_option maxRecDepth 20000 in
theorem gX6_shiftUp_X6_trim : GoodIn wsX6_shiftUp (wsV RX6 44 RX6 yX6_trim wsX6_trim) := goodIn_app (goodIn_of _ (by decide +kernel)) ggX6_shiftUp_X6_trim
theorem dX6_shiftUp_0 : decode cX6_shiftUp 0 = .ok (.iload_n 3, 1) := by decide +kernel
theorem dX6_shiftUp_1 : decode cX6_shiftUp 1 = .ok (.iconst 4, 1) := by decide +kernel
theorem dX6_shiftUp_2 : decode cX6_shiftUp 2 = .ok (.ishr, 1) := by decide +kernel
theorem dX6_shiftUp_3 : decode cX6_shiftUp 3 = .ok (.istore 4, 2) := by decide +kernel
theorem dX6_shiftUp_5 : decode cX6_shiftUp 5 = .ok (.iload_n 3, 1) := by decide +kernel
theorem dX6_shiftUp_6 : decode cX6_shiftUp 6 = .ok (.bipush 15, 2) := by decide +kernel
theorem dX6_shiftUp_8 : decode cX6_shiftUp 8 = .ok (.iand, 1) := by decide +kernel
theorem dX6_shiftUp_9 : decode cX6_shiftUp 9 = .ok (.istore 5, 2) := by decide +kernel
theorem dX6_shiftUp_11 : decode cX6_shiftUp 11 = .ok (.aload_n 0, 1) := by decide +kernel
theorem dX6_shiftUp_12 : decode cX6_shiftUp 12 = .ok (.getfield 13, 3) := by decide +kernel
theorem dX6_shiftUp_15 : decode cX6_shiftUp 15 = .ok (.iload_n 2, 1) := by decide +kernel
theorem dX6_shiftUp_16 : decode cX6_shiftUp 16 = .ok (.iaload, 1) := by decide +kernel
theorem dX6_shiftUp_17 : decode cX6_shiftUp 17 = .ok (.iload 4, 2) := by decide +kernel
theorem dX6_shiftUp_19 : decode cX6_shiftUp 19 = .ok (.iadd, 1) := by decide +kernel
theorem dX6_shiftUp_20 : decode cX6_shiftUp 20 = .ok (.iconst 1, 1) := by decide +kernel
theorem dX6_shiftUp_21 : decode cX6_shiftUp 21 = .ok (.iadd, 1) := by decide +kernel
theorem dX6_shiftUp_22 : decode cX6_shiftUp 22 = .ok (.istore 6, 2) := by decide +kernel
theorem dX6_shiftUp_24 : decode cX6_shiftUp 24 = .ok (.iload 6, 2) := by decide +kernel
theorem dX6_shiftUp_26 : decode cX6_shiftUp 26 = .ok (.iconst 1, 1) := by decide +kernel
theorem dX6_shiftUp_27 : decode cX6_shiftUp 27 = .ok (.isub, 1) := by decide +kernel
theorem dX6_shiftUp_28 : decode cX6_shiftUp 28 = .ok (.istore 7, 2) := by decide +kernel
theorem dX6_shiftUp_30 : decode cX6_shiftUp 30 = .ok (.iload 7, 2) := by decide +kernel
theorem dX6_shiftUp_32 : decode cX6_shiftUp 32 = .ok (.ifCond .lt 81, 3) := by decide +kernel
theorem dX6_shiftUp_35 : decode cX6_shiftUp 35 = .ok (.iload 7, 2) := by decide +kernel
theorem dX6_shiftUp_37 : decode cX6_shiftUp 37 = .ok (.iload 4, 2) := by decide +kernel
theorem dX6_shiftUp_39 : decode cX6_shiftUp 39 = .ok (.if_icmp .lt 16, 3) := by decide +kernel
theorem dX6_shiftUp_42 : decode cX6_shiftUp 42 = .ok (.aload_n 0, 1) := by decide +kernel
theorem dX6_shiftUp_43 : decode cX6_shiftUp 43 = .ok (.iload_n 2, 1) := by decide +kernel
theorem dX6_shiftUp_44 : decode cX6_shiftUp 44 = .ok (.iload 7, 2) := by decide +kernel
theorem dX6_shiftUp_46 : decode cX6_shiftUp 46 = .ok (.iload 4, 2) := by decide +kernel
theorem dX6_shiftUp_48 : decode cX6_shiftUp 48 = .ok (.isub, 1) := by decide +kernel
theorem dX6_shiftUp_49 : decode cX6_shiftUp 49 = .ok (.invokevirtual 39, 3) := by decide +kernel
theorem dX6_shiftUp_52 : decode cX6_shiftUp 52 = .ok (.goto 4, 3) := by decide +kernel
theorem dX6_shiftUp_55 : decode cX6_shiftUp 55 = .ok (.iconst 0, 1) := by decide +kernel
theorem dX6_shiftUp_56 : decode cX6_shiftUp 56 = .ok (.istore 8, 2) := by decide +kernel
theorem dX6_shiftUp_58 : decode cX6_shiftUp 58 = .ok (.iload 7, 2) := by decide +kernel
theorem dX6_shiftUp_60 : decode cX6_shiftUp 60 = .ok (.iload 4, 2) := by decide +kernel
theorem dX6_shiftUp_62 : decode cX6_shiftUp 62 = .ok (.if_icmp .le 18, 3) := by decide +kernel
theorem dX6_shiftUp_65 : decode cX6_shiftUp 65 = .ok (.aload_n 0, 1) := by decide +kernel
theorem dX6_shiftUp_66 : decode cX6_shiftUp 66 = .ok (.iload_n 2, 1) := by decide +kernel
theorem dX6_shiftUp_67 : decode cX6_shiftUp 67 = .ok (.iload 7, 2) := by decide +kernel
theorem dX6_shiftUp_69 : decode cX6_shiftUp 69 = .ok (.iload 4, 2) := by decide +kernel
theorem dX6_shiftUp_71 : decode cX6_shiftUp 71 = .ok (.isub, 1) := by decide +kernel
theorem dX6_shiftUp_72 : decode cX6_shiftUp 72 = .ok (.iconst 1, 1) := by decide +kernel
theorem dX6_shiftUp_73 : decode cX6_shiftUp 73 = .ok (.isub, 1) := by decide +kernel
theorem dX6_shiftUp_74 : decode cX6_shiftUp 74 = .ok (.invokevirtual 39, 3) := by decide +kernel
theorem dX6_shiftUp_77 : decode cX6_shiftUp 77 = .ok (.goto 4, 3) := by decide +kernel
theorem dX6_shiftUp_80 : decode cX6_shiftUp 80 = .ok (.iconst 0, 1) := by decide +kernel
theorem dX6_shiftUp_81 : decode cX6_shiftUp 81 = .ok (.istore 9, 2) := by decide +kernel
theorem dX6_shiftUp_83 : decode cX6_shiftUp 83 = .ok (.aload_n 0, 1) := by decide +kernel
theorem dX6_shiftUp_84 : decode cX6_shiftUp 84 = .ok (.iload_n 1, 1) := by decide +kernel
theorem dX6_shiftUp_85 : decode cX6_shiftUp 85 = .ok (.iload 7, 2) := by decide +kernel
theorem dX6_shiftUp_87 : decode cX6_shiftUp 87 = .ok (.iload 8, 2) := by decide +kernel
theorem dX6_shiftUp_89 : decode cX6_shiftUp 89 = .ok (.iload 5, 2) := by decide +kernel
theorem dX6_shiftUp_91 : decode cX6_shiftUp 91 = .ok (.ishl, 1) := by decide +kernel
theorem dX6_shiftUp_92 : decode cX6_shiftUp 92 = .ok (.iload 9, 2) := by decide +kernel
theorem dX6_shiftUp_94 : decode cX6_shiftUp 94 = .ok (.iload 5, 2) := by decide +kernel
theorem dX6_shiftUp_96 : decode cX6_shiftUp 96 = .ok (.ishl, 1) := by decide +kernel
theorem dX6_shiftUp_97 : decode cX6_shiftUp 97 = .ok (.bipush 16, 2) := by decide +kernel
theorem dX6_shiftUp_99 : decode cX6_shiftUp 99 = .ok (.ishr, 1) := by decide +kernel
theorem dX6_shiftUp_100 : decode cX6_shiftUp 100 = .ok (.ior, 1) := by decide +kernel
theorem dX6_shiftUp_101 : decode cX6_shiftUp 101 = .ok (.ldc 43, 2) := by decide +kernel
theorem dX6_shiftUp_103 : decode cX6_shiftUp 103 = .ok (.iand, 1) := by decide +kernel
theorem dX6_shiftUp_104 : decode cX6_shiftUp 104 = .ok (.invokevirtual 35, 3) := by decide +kernel
theorem dX6_shiftUp_107 : decode cX6_shiftUp 107 = .ok (.iinc 7 (-1), 3) := by decide +kernel
theorem dX6_shiftUp_110 : decode cX6_shiftUp 110 = .ok (.goto (-80), 3) := by decide +kernel
theorem dX6_shiftUp_113 : decode cX6_shiftUp 113 = .ok (.aload_n 0, 1) := by decide +kernel
theorem dX6_shiftUp_114 : decode cX6_shiftUp 114 = .ok (.iload_n 1, 1) := by decide +kernel
theorem dX6_shiftUp_115 : decode cX6_shiftUp 115 = .ok (.iload 6, 2) := by decide +kernel
theorem dX6_shiftUp_117 : decode cX6_shiftUp 117 = .ok (.invokevirtual 44, 3) := by decide +kernel
theorem dX6_shiftUp_120 : decode cX6_shiftUp 120 = .ok (.return_, 1) := by decide +kernel
set_option maxRecDepth 20000 in
theorem ggX6_shiftDown_X6_put : GoodIn wsX6_shiftDown wsX6_put := goodIn_r _ [8, 2, 14, 15, 16, 17, 18, 19, 20, 21, 22] rfl (by decide +kernel)
set_option maxRecDepth 20000 in
theorem gX6_shiftDown_X6_put : GoodIn wsX6_shiftDown (wsV RX6 35 RX6 yX6_put wsX6_put) := goodIn_app (goodIn_of _ (by decide +kernel)) ggX6_shiftDown_X6_put
set_option maxRecDepth 20000 in
theorem ggX6_shiftDown_X6_trim : GoodIn wsX6_shiftDown wsX6_trim := goodIn_r _ [12, 2, 1, 13, 14, 15, 16, 17, 18, 19, 20, 21, 22] rfl (by decide +kernel)
set_option maxRecDepth 20000 in
theorem gX6_shiftDown_X6_trim : GoodIn wsX6_shiftDown (wsV RX6 44 RX6 yX6_trim wsX6_trim) := goodIn_app (goodIn_of _ (by decide +kernel)) ggX6_shiftDown_X6_trim
theorem dX6_shiftDown_0 : decode cX6_shiftDown 0 = .ok (.iload_n 3, 1) := by decide +kernel
theorem dX6_shiftDown_1 : decode cX6_shiftDown 1 = .ok (.iconst 4, 1) := by decide +kernel
theorem dX6_shiftDown_2 : decode cX6_shiftDown 2 = .ok (.ishr, 1) := by decide +kernel
theorem dX6_shiftDown_3 : decode cX6_shiftDown 3 = .ok (.istore 4, 2) := by decide +kernel
theorem dX6_shiftDown_5 : decode cX6_shiftDown 5 = .ok (.iload_n 3, 1) := by decide +kernel
theorem dX6_shiftDown_6 : decode cX6_shiftDown 6 = .ok (.bipush 15, 2) := by decide +kernel
theorem dX6_shiftDown_8 : decode cX6_shiftDown 8 = .ok (.iand, 1) := by decide +kernel
theorem dX6_shiftDown_9 : decode cX6_shiftDown 9 = .ok (.istore 5, 2) := by decide +kernel
theorem dX6_shiftDown_11 : decode cX6_shiftDown 11 = .ok (.aload_n 0, 1) := by decide +kernel
theorem dX6_shiftDown_12 : decode cX6_shiftDown 12 = .ok (.getfield 13, 3) := by decide +kernel
theorem dX6_shiftDown_15 : decode cX6_shiftDown 15 = .ok (.iload_n 2, 1) := by decide +kernel
theorem dX6_shiftDown_16 : decode cX6_shiftDown 16 = .ok (.iaload, 1) := by decide +kernel
theorem dX6_shiftDown_17 : decode cX6_shiftDown 17 = .ok (.iload 4, 2) := by decide +kernel
theorem dX6_shiftDown_19 : decode cX6_shiftDown 19 = .ok (.if_icmp .le 15, 3) := by decide +kernel
theorem dX6_shiftDown_22 : decode cX6_shiftDown 22 = .ok (.aload_n 0, 1) := by decide +kernel
theorem dX6_shiftDown_23 : decode cX6_shiftDown 23 = .ok (.getfield 13, 3) := by decide +kernel
theorem dX6_shiftDown_26 : decode cX6_shiftDown 26 = .ok (.iload_n 2, 1) := by decide +kernel
theorem dX6_shiftDown_27 : decode cX6_shiftDown 27 = .ok (.iaload, 1) := by decide +kernel
theorem dX6_shiftDown_28 : decode cX6_shiftDown 28 = .ok (.iload 4, 2) := by decide +kernel
theorem dX6_shiftDown_30 : decode cX6_shiftDown 30 = .ok (.isub, 1) := by decide +kernel
theorem dX6_shiftDown_31 : decode cX6_shiftDown 31 = .ok (.goto 4, 3) := by decide +kernel
theorem dX6_shiftDown_34 : decode cX6_shiftDown 34 = .ok (.iconst 0, 1) := by decide +kernel
theorem dX6_shiftDown_35 : decode cX6_shiftDown 35 = .ok (.istore 6, 2) := by decide +kernel
theorem dX6_shiftDown_37 : decode cX6_shiftDown 37 = .ok (.aload_n 0, 1) := by decide +kernel
theorem dX6_shiftDown_38 : decode cX6_shiftDown 38 = .ok (.getfield 13, 3) := by decide +kernel
theorem dX6_shiftDown_41 : decode cX6_shiftDown 41 = .ok (.iload_n 2, 1) := by decide +kernel
theorem dX6_shiftDown_42 : decode cX6_shiftDown 42 = .ok (.iaload, 1) := by decide +kernel
theorem dX6_shiftDown_43 : decode cX6_shiftDown 43 = .ok (.istore 7, 2) := by decide +kernel
theorem dX6_shiftDown_45 : decode cX6_shiftDown 45 = .ok (.iconst 0, 1) := by decide +kernel
theorem dX6_shiftDown_46 : decode cX6_shiftDown 46 = .ok (.istore 8, 2) := by decide +kernel
theorem dX6_shiftDown_48 : decode cX6_shiftDown 48 = .ok (.iload 8, 2) := by decide +kernel
theorem dX6_shiftDown_50 : decode cX6_shiftDown 50 = .ok (.iload 6, 2) := by decide +kernel
theorem dX6_shiftDown_52 : decode cX6_shiftDown 52 = .ok (.if_icmp .ge 98, 3) := by decide +kernel
theorem dX6_shiftDown_55 : decode cX6_shiftDown 55 = .ok (.iload 8, 2) := by decide +kernel
theorem dX6_shiftDown_57 : decode cX6_shiftDown 57 = .ok (.iload 4, 2) := by decide +kernel
theorem dX6_shiftDown_59 : decode cX6_shiftDown 59 = .ok (.iadd, 1) := by decide +kernel
theorem dX6_shiftDown_60 : decode cX6_shiftDown 60 = .ok (.iload 7, 2) := by decide +kernel
theorem dX6_shiftDown_62 : decode cX6_shiftDown 62 = .ok (.if_icmp .ge 22, 3) := by decide +kernel
theorem dX6_shiftDown_65 : decode cX6_shiftDown 65 = .ok (.aload_n 0, 1) := by decide +kernel
theorem dX6_shiftDown_66 : decode cX6_shiftDown 66 = .ok (.getfield 7, 3) := by decide +kernel
theorem dX6_shiftDown_69 : decode cX6_shiftDown 69 = .ok (.sipush 520, 3) := by decide +kernel
theorem dX6_shiftDown_72 : decode cX6_shiftDown 72 = .ok (.iload_n 2, 1) := by decide +kernel
theorem dX6_shiftDown_73 : decode cX6_shiftDown 73 = .ok (.imul, 1) := by decide +kernel
theorem dX6_shiftDown_74 : decode cX6_shiftDown 74 = .ok (.iload 8, 2) := by decide +kernel
theorem dX6_shiftDown_76 : decode cX6_shiftDown 76 = .ok (.iadd, 1) := by decide +kernel
theorem dX6_shiftDown_77 : decode cX6_shiftDown 77 = .ok (.iload 4, 2) := by decide +kernel
theorem dX6_shiftDown_79 : decode cX6_shiftDown 79 = .ok (.iadd, 1) := by decide +kernel
theorem dX6_shiftDown_80 : decode cX6_shiftDown 80 = .ok (.iaload, 1) := by decide +kernel
theorem dX6_shiftDown_81 : decode cX6_shiftDown 81 = .ok (.goto 4, 3) := by decide +kernel
theorem dX6_shiftDown_84 : decode cX6_shiftDown 84 = .ok (.iconst 0, 1) := by decide +kernel
theorem dX6_shiftDown_85 : decode cX6_shiftDown 85 = .ok (.istore 9, 2) := by decide +kernel
theorem dX6_shiftDown_87 : decode cX6_shiftDown 87 = .ok (.iload 8, 2) := by decide +kernel
theorem dX6_shiftDown_89 : decode cX6_shiftDown 89 = .ok (.iload 4, 2) := by decide +kernel
theorem dX6_shiftDown_91 : decode cX6_shiftDown 91 = .ok (.iadd, 1) := by decide +kernel
theorem dX6_shiftDown_92 : decode cX6_shiftDown 92 = .ok (.iconst 1, 1) := by decide +kernel
theorem dX6_shiftDown_93 : decode cX6_shiftDown 93 = .ok (.iadd, 1) := by decide +kernel
theorem dX6_shiftDown_94 : decode cX6_shiftDown 94 = .ok (.iload 7, 2) := by decide +kernel
theorem dX6_shiftDown_96 : decode cX6_shiftDown 96 = .ok (.if_icmp .ge 24, 3) := by decide +kernel
theorem dX6_shiftDown_99 : decode cX6_shiftDown 99 = .ok (.aload_n 0, 1) := by decide +kernel
theorem dX6_shiftDown_100 : decode cX6_shiftDown 100 = .ok (.getfield 7, 3) := by decide +kernel
theorem dX6_shiftDown_103 : decode cX6_shiftDown 103 = .ok (.sipush 520, 3) := by decide +kernel
theorem dX6_shiftDown_106 : decode cX6_shiftDown 106 = .ok (.iload_n 2, 1) := by decide +kernel
theorem dX6_shiftDown_107 : decode cX6_shiftDown 107 = .ok (.imul, 1) := by decide +kernel
theorem dX6_shiftDown_108 : decode cX6_shiftDown 108 = .ok (.iload 8, 2) := by decide +kernel
theorem dX6_shiftDown_110 : decode cX6_shiftDown 110 = .ok (.iadd, 1) := by decide +kernel
theorem dX6_shiftDown_111 : decode cX6_shiftDown 111 = .ok (.iload 4, 2) := by decide +kernel
theorem dX6_shiftDown_113 : decode cX6_shiftDown 113 = .ok (.iadd, 1) := by decide +kernel
theorem dX6_shiftDown_114 : decode cX6_shiftDown 114 = .ok (.iconst 1, 1) := by decide +kernel
theorem dX6_shiftDown_115 : decode cX6_shiftDown 115 = .ok (.iadd, 1) := by decide +kernel
theorem dX6_shiftDown_116 : decode cX6_shiftDown 116 = .ok (.iaload, 1) := by decide +kernel
theorem dX6_shiftDown_117 : decode cX6_shiftDown 117 = .ok (.goto 4, 3) := by decide +kernel
theorem dX6_shiftDown_120 : decode cX6_shiftDown 120 = .ok (.iconst 0, 1) := by decide +kernel
theorem dX6_shiftDown_121 : decode cX6_shiftDown 121 = .ok (.istore 10, 2) := by decide +kernel
theorem dX6_shiftDown_123 : decode cX6_shiftDown 123 = .ok (.aload_n 0, 1) := by decide +kernel
theorem dX6_shiftDown_124 : decode cX6_shiftDown 124 = .ok (.iload_n 1, 1) := by decide +kernel
theorem dX6_shiftDown_125 : decode cX6_shiftDown 125 = .ok (.iload 8, 2) := by decide +kernel
theorem dX6_shiftDown_127 : decode cX6_shiftDown 127 = .ok (.iload 10, 2) := by decide +kernel
theorem dX6_shiftDown_129 : decode cX6_shiftDown 129 = .ok (.bipush 16, 2) := by decide +kernel
theorem dX6_shiftDown_131 : decode cX6_shiftDown 131 = .ok (.ishl, 1) := by decide +kernel
theorem dX6_shiftDown_132 : decode cX6_shiftDown 132 = .ok (.iload 9, 2) := by decide +kernel
theorem dX6_shiftDown_134 : decode cX6_shiftDown 134 = .ok (.ior, 1) := by decide +kernel
theorem dX6_shiftDown_135 : decode cX6_shiftDown 135 = .ok (.iload 5, 2) := by decide +kernel
theorem dX6_shiftDown_137 : decode cX6_shiftDown 137 = .ok (.iushr, 1) := by decide +kernel
theorem dX6_shiftDown_138 : decode cX6_shiftDown 138 = .ok (.ldc 43, 2) := by decide +kernel
theorem dX6_shiftDown_140 : decode cX6_shiftDown 140 = .ok (.iand, 1) := by decide +kernel
theorem dX6_shiftDown_141 : decode cX6_shiftDown 141 = .ok (.invokevirtual 35, 3) := by decide +kernel
theorem dX6_shiftDown_144 : decode cX6_shiftDown 144 = .ok (.iinc 8 1, 3) := by decide +kernel
theorem dX6_shiftDown_147 : decode cX6_shiftDown 147 = .ok (.goto (-99), 3) := by decide +kernel
theorem dX6_shiftDown_150 : decode cX6_shiftDown 150 = .ok (.aload_n 0, 1) := by decide +kernel
theorem dX6_shiftDown_151 : decode cX6_shiftDown 151 = .ok (.iload_n 1, 1) := by decide +kernel
theorem dX6_shiftDown_152 : decode cX6_shiftDown 152 = .ok (.iload 6, 2) := by decide +kernel
theorem dX6_shiftDown_154 : decode cX6_shiftDown 154 = .ok (.invokevirtual 44, 3) := by decide +kernel
theorem dX6_shiftDown_157 : decode cX6_shiftDown 157 = .ok (.return_, 1) := by decide +kernel
set_option maxRecDepth 20000 in
theorem ggX6_divide_X6_order : GoodIn wsX6_divide wsX6_order := goodIn_r _ [11, 2, 12, 13, 14, 10, 15, 4, 36, 37, 38, 39, 40, 41, 42, 43, 44] rfl (by decide +kernel)
set_option maxRecDepth 20000 in
theorem gX6_divide_X6_order : GoodIn wsX6_divide (wsV RX6 48 RX6 yX6_order wsX6_order) := goodIn_app (goodIn_of _ (by decide +kernel)) ggX6_divide_X6_order
set_option maxRecDepth 20000 in
theorem ggX6_divide_X6_move : GoodIn wsX6_divide wsX6_move := goodIn_r _ [19, 2, 4, 1, 36, 37, 38, 39, 40, 41, 42, 43, 44] rfl (by decide +kernel)
set_option maxRecDepth 20000 in
theorem gX6_divide_X6_move : GoodIn wsX6_divide (wsV RX6 51 RX6 yX6_move wsX6_move) := goodIn_app (goodIn_of _ (by decide +kernel)) ggX6_divide_X6_move
set_option maxRecDepth 20000 in
theorem ggX6_divide_X6_digit : GoodIn wsX6_divide wsX6_digit := goodIn_r _ [15, 2, 4, 36, 37, 38, 39, 40, 41, 42, 43, 44] rfl (by decide +kernel)
set_option maxRecDepth 20000 in
theorem gX6_divide_X6_digit : GoodIn wsX6_divide (wsV RX6 39 RX6 yX6_digit wsX6_digit) := goodIn_app (goodIn_of _ (by decide +kernel)) ggX6_divide_X6_digit
set_option maxRecDepth 20000 in
theorem ggX6_divide_X6_shiftUp : GoodIn wsX6_divide wsX6_shiftUp := goodIn_r _ [23, 2, 6, 12, 13, 14, 10, 15, 4, 24, 25, 26, 27, 28, 29, 30, 31, 1, 36, 37, 38, 39, 40, 41, 42, 43, 44] rfl (by decide +kernel)
set_option maxRecDepth 20000 in
theorem gX6_divide_X6_shiftUp : GoodIn wsX6_divide (wsV RX6 55 RX6 yX6_shiftUp wsX6_shiftUp) := goodIn_app (goodIn_of _ (by decide +kernel)) ggX6_divide_X6_shiftUp
set_option maxRecDepth 20000 in
theorem ggX6_divide_X6_put : GoodIn wsX6_divide wsX6_put := goodIn_r _ [27, 4, 36, 37, 38, 39, 40, 41, 42, 43, 44] rfl (by decide +kernel)
set_option maxRecDepth 20000 in
theorem gX6_divide_X6_put : GoodIn wsX6_divide (wsV RX6 35 RX6 yX6_put wsX6_put) := goodIn_app (goodIn_of _ (by decide +kernel)) ggX6_divide_X6_put
set_option maxRecDepth 20000 in
theorem ggX6_divide_X6_trim : GoodIn wsX6_divide wsX6_trim := goodIn_r _ [31, 4, 2, 1, 36, 37, 38, 39, 40, 41, 42, 43, 44] rfl (by decide +kernel)
set_option maxRecDepth 20000 in
theorem gX6_divide_X6_trim : GoodIn wsX6_divide (wsV RX6 44 RX6 yX6_trim wsX6_trim) := goodIn_app (goodIn_of _ (by decide +kernel)) ggX6_divide_X6_trim
set_option maxRecDepth 20000 in
theorem ggX6_divide_X6_shiftDown : GoodIn wsX6_divide wsX6_shiftDown := goodIn_r _ [35, 2, 4, 6, 24, 25, 26, 10, 27, 28, 29, 30, 31, 1, 36, 37, 38, 39, 40, 41, 42, 43, 44] rfl (by decide +kernel)
set_option maxRecDepth 20000 in
theorem gX6_divide_X6_shiftDown : GoodIn wsX6_divide (wsV RX6 58 RX6 yX6_shiftDown wsX6_shiftDown) := goodIn_app (goodIn_of _ (by decide +kernel)) ggX6_divide_X6_shiftDown
theorem dX6_divide_0 : decode cX6_divide 0 = .ok (.aload_n 0, 1) := by decide +kernel
theorem dX6_divide_1 : decode cX6_divide 1 = .ok (.getfield 16, 3) := by decide +kernel
theorem dX6_divide_4 : decode cX6_divide 4 = .ok (.bipush 16, 2) := by decide +kernel
theorem dX6_divide_6 : decode cX6_divide 6 = .ok (.iconst 0, 1) := by decide +kernel
theorem dX6_divide_7 : decode cX6_divide 7 = .ok (.bastore, 1) := by decide +kernel
theorem dX6_divide_8 : decode cX6_divide 8 = .ok (.aload_n 0, 1) := by decide +kernel
theorem dX6_divide_9 : decode cX6_divide 9 = .ok (.getfield 16, 3) := by decide +kernel
theorem dX6_divide_12 : decode cX6_divide 12 = .ok (.bipush 17, 2) := by decide +kernel
theorem dX6_divide_14 : decode cX6_divide 14 = .ok (.iconst 0, 1) := by decide +kernel
theorem dX6_divide_15 : decode cX6_divide 15 = .ok (.bastore, 1) := by decide +kernel
theorem dX6_divide_16 : decode cX6_divide 16 = .ok (.aload_n 0, 1) := by decide +kernel
theorem dX6_divide_17 : decode cX6_divide 17 = .ok (.iload_n 1, 1) := by decide +kernel
theorem dX6_divide_18 : decode cX6_divide 18 = .ok (.iload_n 2, 1) := by decide +kernel
theorem dX6_divide_19 : decode cX6_divide 19 = .ok (.invokevirtual 48, 3) := by decide +kernel
theorem dX6_divide_22 : decode cX6_divide 22 = .ok (.ifCond .ge 27, 3) := by decide +kernel
theorem dX6_divide_25 : decode cX6_divide 25 = .ok (.aload_n 0, 1) := by decide +kernel
theorem dX6_divide_26 : decode cX6_divide 26 = .ok (.getfield 13, 3) := by decide +kernel
theorem dX6_divide_29 : decode cX6_divide 29 = .ok (.bipush 16, 2) := by decide +kernel
theorem dX6_divide_31 : decode cX6_divide 31 = .ok (.iconst 0, 1) := by decide +kernel
theorem dX6_divide_32 : decode cX6_divide 32 = .ok (.iastore, 1) := by decide +kernel
theorem dX6_divide_33 : decode cX6_divide 33 = .ok (.aload_n 0, 1) := by decide +kernel
theorem dX6_divide_34 : decode cX6_divide 34 = .ok (.bipush 17, 2) := by decide +kernel
theorem dX6_divide_36 : decode cX6_divide 36 = .ok (.iload_n 1, 1) := by decide +kernel
theorem dX6_divide_37 : decode cX6_divide 37 = .ok (.invokevirtual 51, 3) := by decide +kernel
theorem dX6_divide_40 : decode cX6_divide 40 = .ok (.aload_n 0, 1) := by decide +kernel
theorem dX6_divide_41 : decode cX6_divide 41 = .ok (.getfield 16, 3) := by decide +kernel
theorem dX6_divide_44 : decode cX6_divide 44 = .ok (.bipush 17, 2) := by decide +kernel
theorem dX6_divide_46 : decode cX6_divide 46 = .ok (.iconst 0, 1) := by decide +kernel
theorem dX6_divide_47 : decode cX6_divide 47 = .ok (.bastore, 1) := by decide +kernel
theorem dX6_divide_48 : decode cX6_divide 48 = .ok (.return_, 1) := by decide +kernel
theorem dX6_divide_49 : decode cX6_divide 49 = .ok (.iconst 0, 1) := by decide +kernel
theorem dX6_divide_50 : decode cX6_divide 50 = .ok (.istore_n 3, 1) := by decide +kernel
theorem dX6_divide_51 : decode cX6_divide 51 = .ok (.aload_n 0, 1) := by decide +kernel
theorem dX6_divide_52 : decode cX6_divide 52 = .ok (.iload_n 2, 1) := by decide +kernel
theorem dX6_divide_53 : decode cX6_divide 53 = .ok (.aload_n 0, 1) := by decide +kernel
theorem dX6_divide_54 : decode cX6_divide 54 = .ok (.getfield 13, 3) := by decide +kernel
theorem dX6_divide_57 : decode cX6_divide 57 = .ok (.iload_n 2, 1) := by decide +kernel
theorem dX6_divide_58 : decode cX6_divide 58 = .ok (.iaload, 1) := by decide +kernel
theorem dX6_divide_59 : decode cX6_divide 59 = .ok (.iconst 1, 1) := by decide +kernel
theorem dX6_divide_60 : decode cX6_divide 60 = .ok (.isub, 1) := by decide +kernel
theorem dX6_divide_61 : decode cX6_divide 61 = .ok (.invokevirtual 39, 3) := by decide +kernel
theorem dX6_divide_64 : decode cX6_divide 64 = .ok (.iload_n 3, 1) := by decide +kernel
theorem dX6_divide_65 : decode cX6_divide 65 = .ok (.ishl, 1) := by decide +kernel
theorem dX6_divide_66 : decode cX6_divide 66 = .ok (.ldc 54, 2) := by decide +kernel
theorem dX6_divide_68 : decode cX6_divide 68 = .ok (.iand, 1) := by decide +kernel
theorem dX6_divide_69 : decode cX6_divide 69 = .ok (.ifCond .ne 9, 3) := by decide +kernel
theorem dX6_divide_72 : decode cX6_divide 72 = .ok (.iinc 3 1, 3) := by decide +kernel
theorem dX6_divide_75 : decode cX6_divide 75 = .ok (.goto (-24), 3) := by decide +kernel
theorem dX6_divide_78 : decode cX6_divide 78 = .ok (.aload_n 0, 1) := by decide +kernel
theorem dX6_divide_79 : decode cX6_divide 79 = .ok (.bipush 18, 2) := by decide +kernel
theorem dX6_divide_81 : decode cX6_divide 81 = .ok (.iload_n 1, 1) := by decide +kernel
theorem dX6_divide_82 : decode cX6_divide 82 = .ok (.iload_n 3, 1) := by decide +kernel
theorem dX6_divide_83 : decode cX6_divide 83 = .ok (.invokevirtual 55, 3) := by decide +kernel
theorem dX6_divide_86 : decode cX6_divide 86 = .ok (.aload_n 0, 1) := by decide +kernel
theorem dX6_divide_87 : decode cX6_divide 87 = .ok (.bipush 19, 2) := by decide +kernel
theorem dX6_divide_89 : decode cX6_divide 89 = .ok (.iload_n 2, 1) := by decide +kernel
theorem dX6_divide_90 : decode cX6_divide 90 = .ok (.iload_n 3, 1) := by decide +kernel
theorem dX6_divide_91 : decode cX6_divide 91 = .ok (.invokevirtual 55, 3) := by decide +kernel
theorem dX6_divide_94 : decode cX6_divide 94 = .ok (.aload_n 0, 1) := by decide +kernel
theorem dX6_divide_95 : decode cX6_divide 95 = .ok (.getfield 13, 3) := by decide +kernel
theorem dX6_divide_98 : decode cX6_divide 98 = .ok (.bipush 19, 2) := by decide +kernel
theorem dX6_divide_100 : decode cX6_divide 100 = .ok (.iaload, 1) := by decide +kernel
theorem dX6_divide_101 : decode cX6_divide 101 = .ok (.istore 4, 2) := by decide +kernel
theorem dX6_divide_103 : decode cX6_divide 103 = .ok (.aload_n 0, 1) := by decide +kernel
theorem dX6_divide_104 : decode cX6_divide 104 = .ok (.getfield 13, 3) := by decide +kernel
theorem dX6_divide_107 : decode cX6_divide 107 = .ok (.iload_n 1, 1) := by decide +kernel
theorem dX6_divide_108 : decode cX6_divide 108 = .ok (.iaload, 1) := by decide +kernel
theorem dX6_divide_109 : decode cX6_divide 109 = .ok (.iconst 1, 1) := by decide +kernel
theorem dX6_divide_110 : decode cX6_divide 110 = .ok (.iadd, 1) := by decide +kernel
theorem dX6_divide_111 : decode cX6_divide 111 = .ok (.istore 5, 2) := by decide +kernel
theorem dX6_divide_113 : decode cX6_divide 113 = .ok (.aload_n 0, 1) := by decide +kernel
theorem dX6_divide_114 : decode cX6_divide 114 = .ok (.getfield 13, 3) := by decide +kernel
theorem dX6_divide_117 : decode cX6_divide 117 = .ok (.bipush 18, 2) := by decide +kernel
theorem dX6_divide_119 : decode cX6_divide 119 = .ok (.iaload, 1) := by decide +kernel
theorem dX6_divide_120 : decode cX6_divide 120 = .ok (.istore 6, 2) := by decide +kernel
theorem dX6_divide_122 : decode cX6_divide 122 = .ok (.iload 6, 2) := by decide +kernel
theorem dX6_divide_124 : decode cX6_divide 124 = .ok (.iload 5, 2) := by decide +kernel
theorem dX6_divide_126 : decode cX6_divide 126 = .ok (.if_icmp .ge 18, 3) := by decide +kernel
theorem dX6_divide_129 : decode cX6_divide 129 = .ok (.aload_n 0, 1) := by decide +kernel
theorem dX6_divide_130 : decode cX6_divide 130 = .ok (.bipush 18, 2) := by decide +kernel
theorem dX6_divide_132 : decode cX6_divide 132 = .ok (.iload 6, 2) := by decide +kernel
theorem dX6_divide_134 : decode cX6_divide 134 = .ok (.iconst 0, 1) := by decide +kernel
theorem dX6_divide_135 : decode cX6_divide 135 = .ok (.invokevirtual 35, 3) := by decide +kernel
theorem dX6_divide_138 : decode cX6_divide 138 = .ok (.iinc 6 1, 3) := by decide +kernel
theorem dX6_divide_141 : decode cX6_divide 141 = .ok (.goto (-19), 3) := by decide +kernel
theorem dX6_divide_144 : decode cX6_divide 144 = .ok (.aload_n 0, 1) := by decide +kernel
theorem dX6_divide_145 : decode cX6_divide 145 = .ok (.getfield 7, 3) := by decide +kernel
theorem dX6_divide_148 : decode cX6_divide 148 = .ok (.sipush 9880, 3) := by decide +kernel
theorem dX6_divide_151 : decode cX6_divide 151 = .ok (.iload 4, 2) := by decide +kernel
theorem dX6_divide_153 : decode cX6_divide 153 = .ok (.iadd, 1) := by decide +kernel
theorem dX6_divide_154 : decode cX6_divide 154 = .ok (.iconst 1, 1) := by decide +kernel
theorem dX6_divide_155 : decode cX6_divide 155 = .ok (.isub, 1) := by decide +kernel
theorem dX6_divide_156 : decode cX6_divide 156 = .ok (.iaload, 1) := by decide +kernel
theorem dX6_divide_157 : decode cX6_divide 157 = .ok (.i2l, 1) := by decide +kernel
theorem dX6_divide_158 : decode cX6_divide 158 = .ok (.lstore 6, 2) := by decide +kernel
theorem dX6_divide_160 : decode cX6_divide 160 = .ok (.iload 5, 2) := by decide +kernel
theorem dX6_divide_162 : decode cX6_divide 162 = .ok (.iload 4, 2) := by decide +kernel
theorem dX6_divide_164 : decode cX6_divide 164 = .ok (.isub, 1) := by decide +kernel
theorem dX6_divide_165 : decode cX6_divide 165 = .ok (.iconst 1, 1) := by decide +kernel
theorem dX6_divide_166 : decode cX6_divide 166 = .ok (.isub, 1) := by decide +kernel
theorem dX6_divide_167 : decode cX6_divide 167 = .ok (.istore 8, 2) := by decide +kernel
theorem dX6_divide_169 : decode cX6_divide 169 = .ok (.iload 8, 2) := by decide +kernel
theorem dX6_divide_171 : decode cX6_divide 171 = .ok (.ifCond .lt 296, 3) := by decide +kernel
theorem dX6_divide_174 : decode cX6_divide 174 = .ok (.aload_n 0, 1) := by decide +kernel
theorem dX6_divide_175 : decode cX6_divide 175 = .ok (.getfield 7, 3) := by decide +kernel
theorem dX6_divide_178 : decode cX6_divide 178 = .ok (.sipush 9360, 3) := by decide +kernel
theorem dX6_divide_181 : decode cX6_divide 181 = .ok (.iload 8, 2) := by decide +kernel
theorem dX6_divide_183 : decode cX6_divide 183 = .ok (.iadd, 1) := by decide +kernel
theorem dX6_divide_184 : decode cX6_divide 184 = .ok (.iload 4, 2) := by decide +kernel
theorem dX6_divide_186 : decode cX6_divide 186 = .ok (.iadd, 1) := by decide +kernel
theorem dX6_divide_187 : decode cX6_divide 187 = .ok (.iaload, 1) := by decide +kernel
theorem dX6_divide_188 : decode cX6_divide 188 = .ok (.i2l, 1) := by decide +kernel
theorem dX6_divide_189 : decode cX6_divide 189 = .ok (.bipush 16, 2) := by decide +kernel
theorem dX6_divide_191 : decode cX6_divide 191 = .ok (.lshl, 1) := by decide +kernel
theorem dX6_divide_192 : decode cX6_divide 192 = .ok (.aload_n 0, 1) := by decide +kernel
theorem dX6_divide_193 : decode cX6_divide 193 = .ok (.getfield 7, 3) := by decide +kernel
theorem dX6_divide_196 : decode cX6_divide 196 = .ok (.sipush 9360, 3) := by decide +kernel
theorem dX6_divide_199 : decode cX6_divide 199 = .ok (.iload 8, 2) := by decide +kernel
theorem dX6_divide_201 : decode cX6_divide 201 = .ok (.iadd, 1) := by decide +kernel
theorem dX6_divide_202 : decode cX6_divide 202 = .ok (.iload 4, 2) := by decide +kernel
theorem dX6_divide_204 : decode cX6_divide 204 = .ok (.iadd, 1) := by decide +kernel
theorem dX6_divide_205 : decode cX6_divide 205 = .ok (.iconst 1, 1) := by decide +kernel
theorem dX6_divide_206 : decode cX6_divide 206 = .ok (.isub, 1) := by decide +kernel
theorem dX6_divide_207 : decode cX6_divide 207 = .ok (.iaload, 1) := by decide +kernel
theorem dX6_divide_208 : decode cX6_divide 208 = .ok (.i2l, 1) := by decide +kernel
theorem dX6_divide_209 : decode cX6_divide 209 = .ok (.lor, 1) := by decide +kernel
theorem dX6_divide_210 : decode cX6_divide 210 = .ok (.lstore 9, 2) := by decide +kernel
theorem dX6_divide_212 : decode cX6_divide 212 = .ok (.lload 9, 2) := by decide +kernel
theorem dX6_divide_214 : decode cX6_divide 214 = .ok (.lload 6, 2) := by decide +kernel
theorem dX6_divide_216 : decode cX6_divide 216 = .ok (.ldiv, 1) := by decide +kernel
theorem dX6_divide_217 : decode cX6_divide 217 = .ok (.lstore 11, 2) := by decide +kernel
theorem dX6_divide_219 : decode cX6_divide 219 = .ok (.lload 11, 2) := by decide +kernel
theorem dX6_divide_221 : decode cX6_divide 221 = .ok (.ldc2_w 33, 3) := by decide +kernel
theorem dX6_divide_224 : decode cX6_divide 224 = .ok (.lcmp, 1) := by decide +kernel
theorem dX6_divide_225 : decode cX6_divide 225 = .ok (.ifCond .le 9, 3) := by decide +kernel
theorem dX6_divide_228 : decode cX6_divide 228 = .ok (.ldc2_w 33, 3) := by decide +kernel
theorem dX6_divide_231 : decode cX6_divide 231 = .ok (.goto 5, 3) := by decide +kernel
theorem dX6_divide_234 : decode cX6_divide 234 = .ok (.lload 11, 2) := by decide +kernel
theorem dX6_divide_236 : decode cX6_divide 236 = .ok (.lstore 11, 2) := by decide +kernel
theorem dX6_divide_238 : decode cX6_divide 238 = .ok (.lconst 0, 1) := by decide +kernel
theorem dX6_divide_239 : decode cX6_divide 239 = .ok (.lstore 13, 2) := by decide +kernel
theorem dX6_divide_241 : decode cX6_divide 241 = .ok (.iconst 0, 1) := by decide +kernel
theorem dX6_divide_242 : decode cX6_divide 242 = .ok (.istore 15, 2) := by decide +kernel
theorem dX6_divide_244 : decode cX6_divide 244 = .ok (.iload 15, 2) := by decide +kernel
theorem dX6_divide_246 : decode cX6_divide 246 = .ok (.iload 4, 2) := by decide +kernel
theorem dX6_divide_248 : decode cX6_divide 248 = .ok (.if_icmp .ge 71, 3) := by decide +kernel
theorem dX6_divide_251 : decode cX6_divide 251 = .ok (.aload_n 0, 1) := by decide +kernel
theorem dX6_divide_252 : decode cX6_divide 252 = .ok (.getfield 7, 3) := by decide +kernel
theorem dX6_divide_255 : decode cX6_divide 255 = .ok (.sipush 9360, 3) := by decide +kernel
theorem dX6_divide_258 : decode cX6_divide 258 = .ok (.iload 8, 2) := by decide +kernel
theorem dX6_divide_260 : decode cX6_divide 260 = .ok (.iadd, 1) := by decide +kernel
theorem dX6_divide_261 : decode cX6_divide 261 = .ok (.iload 15, 2) := by decide +kernel
theorem dX6_divide_263 : decode cX6_divide 263 = .ok (.iadd, 1) := by decide +kernel
theorem dX6_divide_264 : decode cX6_divide 264 = .ok (.iaload, 1) := by decide +kernel
theorem dX6_divide_265 : decode cX6_divide 265 = .ok (.i2l, 1) := by decide +kernel
theorem dX6_divide_266 : decode cX6_divide 266 = .ok (.lload 11, 2) := by decide +kernel
theorem dX6_divide_268 : decode cX6_divide 268 = .ok (.aload_n 0, 1) := by decide +kernel
theorem dX6_divide_269 : decode cX6_divide 269 = .ok (.getfield 7, 3) := by decide +kernel
theorem dX6_divide_272 : decode cX6_divide 272 = .ok (.sipush 9880, 3) := by decide +kernel
theorem dX6_divide_275 : decode cX6_divide 275 = .ok (.iload 15, 2) := by decide +kernel
theorem dX6_divide_277 : decode cX6_divide 277 = .ok (.iadd, 1) := by decide +kernel
theorem dX6_divide_278 : decode cX6_divide 278 = .ok (.iaload, 1) := by decide +kernel
theorem dX6_divide_279 : decode cX6_divide 279 = .ok (.i2l, 1) := by decide +kernel
theorem dX6_divide_280 : decode cX6_divide 280 = .ok (.lmul, 1) := by decide +kernel
theorem dX6_divide_281 : decode cX6_divide 281 = .ok (.lsub, 1) := by decide +kernel
theorem dX6_divide_282 : decode cX6_divide 282 = .ok (.lload 13, 2) := by decide +kernel
theorem dX6_divide_284 : decode cX6_divide 284 = .ok (.lsub, 1) := by decide +kernel
theorem dX6_divide_285 : decode cX6_divide 285 = .ok (.lstore 16, 2) := by decide +kernel
theorem dX6_divide_287 : decode cX6_divide 287 = .ok (.aload_n 0, 1) := by decide +kernel
theorem dX6_divide_288 : decode cX6_divide 288 = .ok (.bipush 18, 2) := by decide +kernel
theorem dX6_divide_290 : decode cX6_divide 290 = .ok (.iload 8, 2) := by decide +kernel
theorem dX6_divide_292 : decode cX6_divide 292 = .ok (.iload 15, 2) := by decide +kernel
theorem dX6_divide_294 : decode cX6_divide 294 = .ok (.iadd, 1) := by decide +kernel
theorem dX6_divide_295 : decode cX6_divide 295 = .ok (.lload 16, 2) := by decide +kernel
theorem dX6_divide_297 : decode cX6_divide 297 = .ok (.ldc2_w 33, 3) := by decide +kernel
theorem dX6_divide_300 : decode cX6_divide 300 = .ok (.land, 1) := by decide +kernel
theorem dX6_divide_301 : decode cX6_divide 301 = .ok (.l2i, 1) := by decide +kernel
theorem dX6_divide_302 : decode cX6_divide 302 = .ok (.invokevirtual 35, 3) := by decide +kernel
theorem dX6_divide_305 : decode cX6_divide 305 = .ok (.lload 16, 2) := by decide +kernel
theorem dX6_divide_307 : decode cX6_divide 307 = .ok (.bipush 16, 2) := by decide +kernel
theorem dX6_divide_309 : decode cX6_divide 309 = .ok (.lshr, 1) := by decide +kernel
theorem dX6_divide_310 : decode cX6_divide 310 = .ok (.lneg, 1) := by decide +kernel
