theorem dX3_init_0 : decode cX3_init 0 = .ok (.aload_n 0, 1) := by decide +kernel
theorem dX3_init_1 : decode cX3_init 1 = .ok (.invokespecial 1, 3) := by decide +kernel
theorem dX3_init_4 : decode cX3_init 4 = .ok (.aload_n 0, 1) := by decide +kernel
theorem dX3_init_5 : decode cX3_init 5 = .ok (.iload_n 1, 1) := by decide +kernel
theorem dX3_init_6 : decode cX3_init 6 = .ok (.bipush 10, 2) := by decide +kernel
theorem dX3_init_8 : decode cX3_init 8 = .ok (.imul, 1) := by decide +kernel
theorem dX3_init_9 : decode cX3_init 9 = .ok (.iconst 1, 1) := by decide +kernel
theorem dX3_init_10 : decode cX3_init 10 = .ok (.iadd, 1) := by decide +kernel
theorem dX3_init_11 : decode cX3_init 11 = .ok (.newarray .byte, 2) := by decide +kernel
theorem dX3_init_13 : decode cX3_init 13 = .ok (.putfield 9, 3) := by decide +kernel
theorem dX3_init_16 : decode cX3_init 16 = .ok (.aload_n 0, 1) := by decide +kernel
theorem dX3_init_17 : decode cX3_init 17 = .ok (.aload_n 0, 1) := by decide +kernel
theorem dX3_init_18 : decode cX3_init 18 = .ok (.getfield 9, 3) := by decide +kernel
theorem dX3_init_21 : decode cX3_init 21 = .ok (.arraylength, 1) := by decide +kernel
theorem dX3_init_22 : decode cX3_init 22 = .ok (.putfield 13, 3) := by decide +kernel
theorem dX3_init_25 : decode cX3_init 25 = .ok (.return_, 1) := by decide +kernel
theorem dX3_size_0 : decode cX3_size 0 = .ok (.aload_n 0, 1) := by decide +kernel
theorem dX3_size_1 : decode cX3_size 1 = .ok (.getfield 9, 3) := by decide +kernel
theorem dX3_size_4 : decode cX3_size 4 = .ok (.arraylength, 1) := by decide +kernel
theorem dX3_size_5 : decode cX3_size 5 = .ok (.aload_n 0, 1) := by decide +kernel
theorem dX3_size_6 : decode cX3_size 6 = .ok (.getfield 13, 3) := by decide +kernel
theorem dX3_size_9 : decode cX3_size 9 = .ok (.isub, 1) := by decide +kernel
theorem dX3_size_10 : decode cX3_size 10 = .ok (.ireturn, 1) := by decide +kernel
theorem dX3_at_0 : decode cX3_at 0 = .ok (.aload_n 0, 1) := by decide +kernel
theorem dX3_at_1 : decode cX3_at 1 = .ok (.getfield 9, 3) := by decide +kernel
theorem dX3_at_4 : decode cX3_at 4 = .ok (.aload_n 0, 1) := by decide +kernel
theorem dX3_at_5 : decode cX3_at 5 = .ok (.getfield 13, 3) := by decide +kernel
theorem dX3_at_8 : decode cX3_at 8 = .ok (.iload_n 1, 1) := by decide +kernel
theorem dX3_at_9 : decode cX3_at 9 = .ok (.iadd, 1) := by decide +kernel
theorem dX3_at_10 : decode cX3_at 10 = .ok (.baload, 1) := by decide +kernel
theorem dX3_at_11 : decode cX3_at 11 = .ok (.ireturn, 1) := by decide +kernel
set_option maxRecDepth 20000 in
theorem ggX3_print_X4_become : GoodIn wsX3_print wsX4_become := goodIn_r _ [9, 10, 11, 12, 13, 14, 15, 16, 41, 42, 43] rfl (by decide +kernel)
set_option maxRecDepth 20000 in
theorem gX3_print_X4_become : GoodIn wsX3_print (wsV RX3 17 RX4 yX4_become wsX4_become) := goodIn_app (goodIn_of _ (by decide +kernel)) ggX3_print_X4_become
set_option maxRecDepth 20000 in
theorem ggX3_print_X4_divideAndRest : GoodIn wsX3_print wsX4_divideAndRest := goodIn_r _ [20, 11, 10, 21, 16, 22, 23, 24, 8, 25, 41, 42, 43] rfl (by decide +kernel)
set_option maxRecDepth 20000 in
theorem gX3_print_X4_divideAndRest : GoodIn wsX3_print (wsV RX3 24 RX4 yX4_divideAndRest wsX4_divideAndRest) := goodIn_app (goodIn_of _ (by decide +kernel)) ggX3_print_X4_divideAndRest
set_option maxRecDepth 20000 in
theorem ggX3_print_X4_isZero : GoodIn wsX3_print wsX4_isZero := goodIn_r _ [29, 11, 41, 42, 43] rfl (by decide +kernel)
set_option maxRecDepth 20000 in
theorem gX3_print_X4_isZero : GoodIn wsX3_print (wsV RX3 28 RX4 yX4_isZero wsX4_isZero) := goodIn_app (goodIn_of _ (by decide +kernel)) ggX3_print_X4_isZero
set_option maxRecDepth 20000 in
theorem ggX3_print_X3_prependDigits : GoodIn wsX3_print wsX3_prependDigits := goodIn_r _ [34, 35, 36, 37, 33, 38, 2, 1, 39, 40] rfl (by decide +kernel)
set_option maxRecDepth 20000 in
theorem gX3_print_X3_prependDigits : GoodIn wsX3_print (wsV RX3 32 RX3 yX3_prependDigits wsX3_prependDigits) := goodIn_app (goodIn_of _ (by decide +kernel)) ggX3_print_X3_prependDigits
set_option maxRecDepth 20000 in
theorem ggX3_print_X3_prepend : GoodIn wsX3_print wsX3_prepend := goodIn_r _ [38, 2, 1, 39, 40] rfl (by decide +kernel)
set_option maxRecDepth 20000 in
theorem gX3_print_X3_prepend : GoodIn wsX3_print (wsV RX3 40 RX3 yX3_prepend wsX3_prepend) := goodIn_app (goodIn_of _ (by decide +kernel)) ggX3_print_X3_prepend
theorem dX3_print_0 : decode cX3_print 0 = .ok (.aload_n 2, 1) := by decide +kernel
theorem dX3_print_1 : decode cX3_print 1 = .ok (.aload_n 1, 1) := by decide +kernel
theorem dX3_print_2 : decode cX3_print 2 = .ok (.invokevirtual 17, 3) := by decide +kernel
theorem dX3_print_5 : decode cX3_print 5 = .ok (.aload_n 0, 1) := by decide +kernel
theorem dX3_print_6 : decode cX3_print 6 = .ok (.aload_n 0, 1) := by decide +kernel
theorem dX3_print_7 : decode cX3_print 7 = .ok (.getfield 9, 3) := by decide +kernel
theorem dX3_print_10 : decode cX3_print 10 = .ok (.arraylength, 1) := by decide +kernel
theorem dX3_print_11 : decode cX3_print 11 = .ok (.putfield 13, 3) := by decide +kernel
theorem dX3_print_14 : decode cX3_print 14 = .ok (.aload_n 2, 1) := by decide +kernel
theorem dX3_print_15 : decode cX3_print 15 = .ok (.ldc 23, 2) := by decide +kernel
theorem dX3_print_17 : decode cX3_print 17 = .ok (.invokevirtual 24, 3) := by decide +kernel
theorem dX3_print_20 : decode cX3_print 20 = .ok (.istore_n 3, 1) := by decide +kernel
theorem dX3_print_21 : decode cX3_print 21 = .ok (.iconst 0, 1) := by decide +kernel
theorem dX3_print_22 : decode cX3_print 22 = .ok (.istore 4, 2) := by decide +kernel
theorem dX3_print_24 : decode cX3_print 24 = .ok (.iload 4, 2) := by decide +kernel
theorem dX3_print_26 : decode cX3_print 26 = .ok (.aload_n 0, 1) := by decide +kernel
theorem dX3_print_27 : decode cX3_print 27 = .ok (.getfield 9, 3) := by decide +kernel
theorem dX3_print_30 : decode cX3_print 30 = .ok (.arraylength, 1) := by decide +kernel
theorem dX3_print_31 : decode cX3_print 31 = .ok (.if_icmp .ge 30, 3) := by decide +kernel
theorem dX3_print_34 : decode cX3_print 34 = .ok (.aload_n 2, 1) := by decide +kernel
theorem dX3_print_35 : decode cX3_print 35 = .ok (.invokevirtual 28, 3) := by decide +kernel
theorem dX3_print_38 : decode cX3_print 38 = .ok (.ifCond .ne 23, 3) := by decide +kernel
theorem dX3_print_41 : decode cX3_print 41 = .ok (.aload_n 0, 1) := by decide +kernel
theorem dX3_print_42 : decode cX3_print 42 = .ok (.iload_n 3, 1) := by decide +kernel
theorem dX3_print_43 : decode cX3_print 43 = .ok (.bipush 9, 2) := by decide +kernel
theorem dX3_print_45 : decode cX3_print 45 = .ok (.invokevirtual 32, 3) := by decide +kernel
theorem dX3_print_48 : decode cX3_print 48 = .ok (.aload_n 2, 1) := by decide +kernel
theorem dX3_print_49 : decode cX3_print 49 = .ok (.ldc 23, 2) := by decide +kernel
theorem dX3_print_51 : decode cX3_print 51 = .ok (.invokevirtual 24, 3) := by decide +kernel
theorem dX3_print_54 : decode cX3_print 54 = .ok (.istore_n 3, 1) := by decide +kernel
theorem dX3_print_55 : decode cX3_print 55 = .ok (.iinc 4 1, 3) := by decide +kernel
theorem dX3_print_58 : decode cX3_print 58 = .ok (.goto (-34), 3) := by decide +kernel
theorem dX3_print_61 : decode cX3_print 61 = .ok (.aload_n 0, 1) := by decide +kernel
theorem dX3_print_62 : decode cX3_print 62 = .ok (.iload_n 3, 1) := by decide +kernel
theorem dX3_print_63 : decode cX3_print 63 = .ok (.iconst 1, 1) := by decide +kernel
theorem dX3_print_64 : decode cX3_print 64 = .ok (.invokevirtual 32, 3) := by decide +kernel
theorem dX3_print_67 : decode cX3_print 67 = .ok (.aload_n 1, 1) := by decide +kernel
theorem dX3_print_68 : decode cX3_print 68 = .ok (.getfield 36, 3) := by decide +kernel
theorem dX3_print_71 : decode cX3_print 71 = .ok (.ifCond .eq 9, 3) := by decide +kernel
theorem dX3_print_74 : decode cX3_print 74 = .ok (.aload_n 0, 1) := by decide +kernel
theorem dX3_print_75 : decode cX3_print 75 = .ok (.bipush 45, 2) := by decide +kernel
theorem dX3_print_77 : decode cX3_print 77 = .ok (.invokevirtual 40, 3) := by decide +kernel
theorem dX3_print_80 : decode cX3_print 80 = .ok (.return_, 1) := by decide +kernel
set_option maxRecDepth 20000 in
theorem ggX3_prependDigits_X3_prepend : GoodIn wsX3_prependDigits wsX3_prepend := goodIn_r _ [5, 6, 7, 8, 9] rfl (by decide +kernel)
set_option maxRecDepth 20000 in
theorem gX3_prependDigits_X3_prepend : GoodIn wsX3_prependDigits (wsV RX3 40 RX3 yX3_prepend wsX3_prepend) := goodIn_app (goodIn_of _ (by decide +kernel)) ggX3_prependDigits_X3_prepend
theorem dX3_prependDigits_0 : decode cX3_prependDigits 0 = .ok (.iload_n 1, 1) := by decide +kernel
theorem dX3_prependDigits_1 : decode cX3_prependDigits 1 = .ok (.istore_n 3, 1) := by decide +kernel
theorem dX3_prependDigits_2 : decode cX3_prependDigits 2 = .ok (.iconst 0, 1) := by decide +kernel
theorem dX3_prependDigits_3 : decode cX3_prependDigits 3 = .ok (.istore 4, 2) := by decide +kernel
theorem dX3_prependDigits_5 : decode cX3_prependDigits 5 = .ok (.iload 4, 2) := by decide +kernel
theorem dX3_prependDigits_7 : decode cX3_prependDigits 7 = .ok (.bipush 9, 2) := by decide +kernel
theorem dX3_prependDigits_9 : decode cX3_prependDigits 9 = .ok (.if_icmp .ge 35, 3) := by decide +kernel
theorem dX3_prependDigits_12 : decode cX3_prependDigits 12 = .ok (.iload 4, 2) := by decide +kernel
theorem dX3_prependDigits_14 : decode cX3_prependDigits 14 = .ok (.iload_n 2, 1) := by decide +kernel
theorem dX3_prependDigits_15 : decode cX3_prependDigits 15 = .ok (.if_icmp .lt 7, 3) := by decide +kernel
theorem dX3_prependDigits_18 : decode cX3_prependDigits 18 = .ok (.iload_n 3, 1) := by decide +kernel
theorem dX3_prependDigits_19 : decode cX3_prependDigits 19 = .ok (.ifCond .le 25, 3) := by decide +kernel
theorem dX3_prependDigits_22 : decode cX3_prependDigits 22 = .ok (.aload_n 0, 1) := by decide +kernel
theorem dX3_prependDigits_23 : decode cX3_prependDigits 23 = .ok (.bipush 48, 2) := by decide +kernel
theorem dX3_prependDigits_25 : decode cX3_prependDigits 25 = .ok (.iload_n 3, 1) := by decide +kernel
theorem dX3_prependDigits_26 : decode cX3_prependDigits 26 = .ok (.bipush 10, 2) := by decide +kernel
theorem dX3_prependDigits_28 : decode cX3_prependDigits 28 = .ok (.irem, 1) := by decide +kernel
theorem dX3_prependDigits_29 : decode cX3_prependDigits 29 = .ok (.iadd, 1) := by decide +kernel
theorem dX3_prependDigits_30 : decode cX3_prependDigits 30 = .ok (.invokevirtual 40, 3) := by decide +kernel
theorem dX3_prependDigits_33 : decode cX3_prependDigits 33 = .ok (.iload_n 3, 1) := by decide +kernel
theorem dX3_prependDigits_34 : decode cX3_prependDigits 34 = .ok (.bipush 10, 2) := by decide +kernel
theorem dX3_prependDigits_36 : decode cX3_prependDigits 36 = .ok (.idiv, 1) := by decide +kernel
theorem dX3_prependDigits_37 : decode cX3_prependDigits 37 = .ok (.istore_n 3, 1) := by decide +kernel
theorem dX3_prependDigits_38 : decode cX3_prependDigits 38 = .ok (.iinc 4 1, 3) := by decide +kernel
theorem dX3_prependDigits_41 : decode cX3_prependDigits 41 = .ok (.goto (-36), 3) := by decide +kernel
theorem dX3_prependDigits_44 : decode cX3_prependDigits 44 = .ok (.return_, 1) := by decide +kernel
theorem dX3_prepend_0 : decode cX3_prepend 0 = .ok (.aload_n 0, 1) := by decide +kernel
theorem dX3_prepend_1 : decode cX3_prepend 1 = .ok (.getfield 13, 3) := by decide +kernel
theorem dX3_prepend_4 : decode cX3_prepend 4 = .ok (.ifCond .le 24, 3) := by decide +kernel
theorem dX3_prepend_7 : decode cX3_prepend 7 = .ok (.aload_n 0, 1) := by decide +kernel
theorem dX3_prepend_8 : decode cX3_prepend 8 = .ok (.dup, 1) := by decide +kernel
theorem dX3_prepend_9 : decode cX3_prepend 9 = .ok (.getfield 13, 3) := by decide +kernel
theorem dX3_prepend_12 : decode cX3_prepend 12 = .ok (.iconst 1, 1) := by decide +kernel
theorem dX3_prepend_13 : decode cX3_prepend 13 = .ok (.isub, 1) := by decide +kernel
theorem dX3_prepend_14 : decode cX3_prepend 14 = .ok (.putfield 13, 3) := by decide +kernel
theorem dX3_prepend_17 : decode cX3_prepend 17 = .ok (.aload_n 0, 1) := by decide +kernel
theorem dX3_prepend_18 : decode cX3_prepend 18 = .ok (.getfield 9, 3) := by decide +kernel
theorem dX3_prepend_21 : decode cX3_prepend 21 = .ok (.aload_n 0, 1) := by decide +kernel
theorem dX3_prepend_22 : decode cX3_prepend 22 = .ok (.getfield 13, 3) := by decide +kernel
theorem dX3_prepend_25 : decode cX3_prepend 25 = .ok (.iload_n 1, 1) := by decide +kernel
theorem dX3_prepend_26 : decode cX3_prepend 26 = .ok (.i2b, 1) := by decide +kernel
theorem dX3_prepend_27 : decode cX3_prepend 27 = .ok (.bastore, 1) := by decide +kernel
theorem dX3_prepend_28 : decode cX3_prepend 28 = .ok (.return_, 1) := by decide +kernel
