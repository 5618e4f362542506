set_option maxRecDepth 20000 in
theorem ggX0_init_X4_init : GoodIn wsX0_init wsX4_init := goodIn_r _ [14, 15, 2, 3, 9, 16, 17, 18, 19, 20, 21] rfl (by decide +kernel)
set_option maxRecDepth 20000 in
theorem gX0_init_X4_init : GoodIn wsX0_init (wsX4_init) := ggX0_init_X4_init
theorem dX0_init_0 : decode cX0_init 0 = .ok (.aload_n 0, 1) := by decide +kernel
theorem dX0_init_1 : decode cX0_init 1 = .ok (.invokespecial 1, 3) := by decide +kernel
theorem dX0_init_4 : decode cX0_init 4 = .ok (.aload_n 0, 1) := by decide +kernel
theorem dX0_init_5 : decode cX0_init 5 = .ok (.new 7, 3) := by decide +kernel
theorem dX0_init_8 : decode cX0_init 8 = .ok (.dup, 1) := by decide +kernel
theorem dX0_init_9 : decode cX0_init 9 = .ok (.iconst 2, 1) := by decide +kernel
theorem dX0_init_10 : decode cX0_init 10 = .ok (.iload_n 1, 1) := by decide +kernel
theorem dX0_init_11 : decode cX0_init 11 = .ok (.imul, 1) := by decide +kernel
theorem dX0_init_12 : decode cX0_init 12 = .ok (.invokespecial 9, 3) := by decide +kernel
theorem dX0_init_15 : decode cX0_init 15 = .ok (.putfield 12, 3) := by decide +kernel
theorem dX0_init_18 : decode cX0_init 18 = .ok (.aload_n 0, 1) := by decide +kernel
theorem dX0_init_19 : decode cX0_init 19 = .ok (.new 7, 3) := by decide +kernel
theorem dX0_init_22 : decode cX0_init 22 = .ok (.dup, 1) := by decide +kernel
theorem dX0_init_23 : decode cX0_init 23 = .ok (.iload_n 1, 1) := by decide +kernel
theorem dX0_init_24 : decode cX0_init 24 = .ok (.invokespecial 9, 3) := by decide +kernel
theorem dX0_init_27 : decode cX0_init 27 = .ok (.putfield 18, 3) := by decide +kernel
theorem dX0_init_30 : decode cX0_init 30 = .ok (.aload_n 0, 1) := by decide +kernel
theorem dX0_init_31 : decode cX0_init 31 = .ok (.iconst 2, 1) := by decide +kernel
theorem dX0_init_32 : decode cX0_init 32 = .ok (.iload_n 1, 1) := by decide +kernel
theorem dX0_init_33 : decode cX0_init 33 = .ok (.imul, 1) := by decide +kernel
theorem dX0_init_34 : decode cX0_init 34 = .ok (.iconst 1, 1) := by decide +kernel
theorem dX0_init_35 : decode cX0_init 35 = .ok (.iadd, 1) := by decide +kernel
theorem dX0_init_36 : decode cX0_init 36 = .ok (.newarray .int, 2) := by decide +kernel
theorem dX0_init_38 : decode cX0_init 38 = .ok (.putfield 21, 3) := by decide +kernel
theorem dX0_init_41 : decode cX0_init 41 = .ok (.aload_n 0, 1) := by decide +kernel
theorem dX0_init_42 : decode cX0_init 42 = .ok (.iload_n 1, 1) := by decide +kernel
theorem dX0_init_43 : decode cX0_init 43 = .ok (.newarray .int, 2) := by decide +kernel
theorem dX0_init_45 : decode cX0_init 45 = .ok (.putfield 25, 3) := by decide +kernel
theorem dX0_init_48 : decode cX0_init 48 = .ok (.return_, 1) := by decide +kernel
set_option maxRecDepth 20000 in
theorem ggX0_divide_X4_isZero : GoodIn wsX0_divide wsX4_isZero := goodIn_r _ [8, 9, 87, 88, 89] rfl (by decide +kernel)
set_option maxRecDepth 20000 in
theorem gX0_divide_X4_isZero : GoodIn wsX0_divide (wsV RX0 28 RX4 yX4_isZero wsX4_isZero) := goodIn_app (goodIn_of _ (by decide +kernel)) ggX0_divide_X4_isZero
set_option maxRecDepth 20000 in
theorem ggX0_divide_X4_becomeInt : GoodIn wsX0_divide wsX4_becomeInt := goodIn_r _ [13, 14, 15, 16, 17, 18, 19, 20, 21, 7, 22, 9, 23, 87, 88, 89] rfl (by decide +kernel)
set_option maxRecDepth 20000 in
theorem gX0_divide_X4_becomeInt : GoodIn wsX0_divide (wsV RX0 32 RX4 yX4_becomeInt wsX4_becomeInt) := goodIn_app (goodIn_of _ (by decide +kernel)) ggX0_divide_X4_becomeInt
set_option maxRecDepth 20000 in
theorem ggX0_divide_X4_compareSize : GoodIn wsX0_divide wsX4_compareSize := goodIn_r _ [27, 9, 14, 28, 87, 88, 89] rfl (by decide +kernel)
set_option maxRecDepth 20000 in
theorem gX0_divide_X4_compareSize : GoodIn wsX0_divide (wsV RX0 35 RX4 yX4_compareSize wsX4_compareSize) := goodIn_app (goodIn_of _ (by decide +kernel)) ggX0_divide_X4_compareSize
set_option maxRecDepth 20000 in
theorem ggX0_divide_X4_become : GoodIn wsX0_divide wsX4_become := goodIn_r _ [32, 14, 9, 33, 34, 35, 36, 23, 87, 88, 89] rfl (by decide +kernel)
set_option maxRecDepth 20000 in
theorem gX0_divide_X4_become : GoodIn wsX0_divide (wsV RX0 39 RX4 yX4_become wsX4_become) := goodIn_app (goodIn_of _ (by decide +kernel)) ggX0_divide_X4_become
set_option maxRecDepth 20000 in
theorem ggX0_divide_X0_divideByLimb : GoodIn wsX0_divide wsX0_divideByLimb := goodIn_r _ [41, 42, 43, 3, 1, 44, 2, 45, 46, 40, 47, 48, 20, 21, 7, 22, 9, 14, 23, 87, 88, 89, 83, 84, 85, 86] rfl (by decide +kernel)
set_option maxRecDepth 20000 in
theorem gX0_divide_X0_divideByLimb : GoodIn wsX0_divide (wsV RX0 47 RX0 yX0_divideByLimb wsX0_divideByLimb) := goodIn_app (goodIn_of _ (by decide +kernel)) ggX0_divide_X0_divideByLimb
set_option maxRecDepth 20000 in
theorem ggX0_divide_X0_divideLong : GoodIn wsX0_divide wsX0_divideLong := goodIn_r _ [52, 42, 3, 53, 54, 1, 44, 2, 55, 56, 57, 58, 59, 60, 61, 7, 62, 9, 14, 28, 63, 64, 65, 40, 66, 43, 45, 46, 47, 67, 68, 69, 70, 71, 72, 73, 74, 75, 76, 77, 78, 48, 20, 21, 22, 23, 79, 80, 81, 82, 87, 88, 89, 83, 84, 85, 86] rfl (by decide +kernel)
set_option maxRecDepth 20000 in
theorem gX0_divide_X0_divideLong : GoodIn wsX0_divide (wsV RX0 51 RX0 yX0_divideLong wsX0_divideLong) := goodIn_app (goodIn_of _ (by decide +kernel)) ggX0_divide_X0_divideLong
theorem dX0_divide_0 : decode cX0_divide 0 = .ok (.aload_n 2, 1) := by decide +kernel
theorem dX0_divide_1 : decode cX0_divide 1 = .ok (.invokevirtual 28, 3) := by decide +kernel
theorem dX0_divide_4 : decode cX0_divide 4 = .ok (.ifCond .eq 22, 3) := by decide +kernel
theorem dX0_divide_7 : decode cX0_divide 7 = .ok (.aload_n 0, 1) := by decide +kernel
theorem dX0_divide_8 : decode cX0_divide 8 = .ok (.getfield 12, 3) := by decide +kernel
theorem dX0_divide_11 : decode cX0_divide 11 = .ok (.iconst 0, 1) := by decide +kernel
theorem dX0_divide_12 : decode cX0_divide 12 = .ok (.invokevirtual 32, 3) := by decide +kernel
theorem dX0_divide_15 : decode cX0_divide 15 = .ok (.aload_n 0, 1) := by decide +kernel
theorem dX0_divide_16 : decode cX0_divide 16 = .ok (.getfield 18, 3) := by decide +kernel
theorem dX0_divide_19 : decode cX0_divide 19 = .ok (.iconst 0, 1) := by decide +kernel
theorem dX0_divide_20 : decode cX0_divide 20 = .ok (.invokevirtual 32, 3) := by decide +kernel
theorem dX0_divide_23 : decode cX0_divide 23 = .ok (.goto 53, 3) := by decide +kernel
theorem dX0_divide_26 : decode cX0_divide 26 = .ok (.aload_n 1, 1) := by decide +kernel
theorem dX0_divide_27 : decode cX0_divide 27 = .ok (.aload_n 2, 1) := by decide +kernel
theorem dX0_divide_28 : decode cX0_divide 28 = .ok (.invokevirtual 35, 3) := by decide +kernel
theorem dX0_divide_31 : decode cX0_divide 31 = .ok (.ifCond .ge 22, 3) := by decide +kernel
theorem dX0_divide_34 : decode cX0_divide 34 = .ok (.aload_n 0, 1) := by decide +kernel
theorem dX0_divide_35 : decode cX0_divide 35 = .ok (.getfield 12, 3) := by decide +kernel
theorem dX0_divide_38 : decode cX0_divide 38 = .ok (.iconst 0, 1) := by decide +kernel
theorem dX0_divide_39 : decode cX0_divide 39 = .ok (.invokevirtual 32, 3) := by decide +kernel
theorem dX0_divide_42 : decode cX0_divide 42 = .ok (.aload_n 0, 1) := by decide +kernel
theorem dX0_divide_43 : decode cX0_divide 43 = .ok (.getfield 18, 3) := by decide +kernel
theorem dX0_divide_46 : decode cX0_divide 46 = .ok (.aload_n 1, 1) := by decide +kernel
theorem dX0_divide_47 : decode cX0_divide 47 = .ok (.invokevirtual 39, 3) := by decide +kernel
theorem dX0_divide_50 : decode cX0_divide 50 = .ok (.goto 26, 3) := by decide +kernel
theorem dX0_divide_53 : decode cX0_divide 53 = .ok (.aload_n 2, 1) := by decide +kernel
theorem dX0_divide_54 : decode cX0_divide 54 = .ok (.getfield 43, 3) := by decide +kernel
theorem dX0_divide_57 : decode cX0_divide 57 = .ok (.iconst 1, 1) := by decide +kernel
theorem dX0_divide_58 : decode cX0_divide 58 = .ok (.if_icmp .ne 12, 3) := by decide +kernel
theorem dX0_divide_61 : decode cX0_divide 61 = .ok (.aload_n 0, 1) := by decide +kernel
theorem dX0_divide_62 : decode cX0_divide 62 = .ok (.aload_n 1, 1) := by decide +kernel
theorem dX0_divide_63 : decode cX0_divide 63 = .ok (.aload_n 2, 1) := by decide +kernel
theorem dX0_divide_64 : decode cX0_divide 64 = .ok (.invokevirtual 47, 3) := by decide +kernel
theorem dX0_divide_67 : decode cX0_divide 67 = .ok (.goto 9, 3) := by decide +kernel
theorem dX0_divide_70 : decode cX0_divide 70 = .ok (.aload_n 0, 1) := by decide +kernel
theorem dX0_divide_71 : decode cX0_divide 71 = .ok (.aload_n 1, 1) := by decide +kernel
theorem dX0_divide_72 : decode cX0_divide 72 = .ok (.aload_n 2, 1) := by decide +kernel
theorem dX0_divide_73 : decode cX0_divide 73 = .ok (.invokevirtual 51, 3) := by decide +kernel
theorem dX0_divide_76 : decode cX0_divide 76 = .ok (.return_, 1) := by decide +kernel
set_option maxRecDepth 20000 in
theorem ggX0_divideByLimb_X0_divideUnsigned : GoodIn wsX0_divideByLimb wsX0_divideUnsigned := goodIn_r _ [10] rfl (by decide +kernel)
set_option maxRecDepth 20000 in
theorem gX0_divideByLimb_X0_divideUnsigned : GoodIn wsX0_divideByLimb (va_wsS RX0 59 yX0_divideUnsigned wsX0_divideUnsigned) := goodIn_app (goodIn_of _ (by decide +kernel)) ggX0_divideByLimb_X0_divideUnsigned
set_option maxRecDepth 20000 in
theorem ggX0_divideByLimb_X4_settle : GoodIn wsX0_divideByLimb wsX4_settle := goodIn_r _ [15, 16, 17, 18, 19, 20, 21] rfl (by decide +kernel)
set_option maxRecDepth 20000 in
theorem gX0_divideByLimb_X4_settle : GoodIn wsX0_divideByLimb (wsV RX0 67 RX4 yX4_settle wsX4_settle) := goodIn_app (goodIn_of _ (by decide +kernel)) ggX0_divideByLimb_X4_settle
theorem dX0_divideByLimb_0 : decode cX0_divideByLimb 0 = .ok (.aload_n 2, 1) := by decide +kernel
theorem dX0_divideByLimb_1 : decode cX0_divideByLimb 1 = .ok (.getfield 54, 3) := by decide +kernel
theorem dX0_divideByLimb_4 : decode cX0_divideByLimb 4 = .ok (.iconst 0, 1) := by decide +kernel
theorem dX0_divideByLimb_5 : decode cX0_divideByLimb 5 = .ok (.iaload, 1) := by decide +kernel
theorem dX0_divideByLimb_6 : decode cX0_divideByLimb 6 = .ok (.i2l, 1) := by decide +kernel
theorem dX0_divideByLimb_7 : decode cX0_divideByLimb 7 = .ok (.ldc2_w 57, 3) := by decide +kernel
theorem dX0_divideByLimb_10 : decode cX0_divideByLimb 10 = .ok (.land, 1) := by decide +kernel
theorem dX0_divideByLimb_11 : decode cX0_divideByLimb 11 = .ok (.lstore_n 3, 1) := by decide +kernel
theorem dX0_divideByLimb_12 : decode cX0_divideByLimb 12 = .ok (.lconst 0, 1) := by decide +kernel
theorem dX0_divideByLimb_13 : decode cX0_divideByLimb 13 = .ok (.lstore 5, 2) := by decide +kernel
theorem dX0_divideByLimb_15 : decode cX0_divideByLimb 15 = .ok (.aload_n 1, 1) := by decide +kernel
theorem dX0_divideByLimb_16 : decode cX0_divideByLimb 16 = .ok (.getfield 43, 3) := by decide +kernel
theorem dX0_divideByLimb_19 : decode cX0_divideByLimb 19 = .ok (.iconst 1, 1) := by decide +kernel
theorem dX0_divideByLimb_20 : decode cX0_divideByLimb 20 = .ok (.isub, 1) := by decide +kernel
theorem dX0_divideByLimb_21 : decode cX0_divideByLimb 21 = .ok (.istore 7, 2) := by decide +kernel
theorem dX0_divideByLimb_23 : decode cX0_divideByLimb 23 = .ok (.iload 7, 2) := by decide +kernel
theorem dX0_divideByLimb_25 : decode cX0_divideByLimb 25 = .ok (.ifCond .lt 59, 3) := by decide +kernel
theorem dX0_divideByLimb_28 : decode cX0_divideByLimb 28 = .ok (.lload 5, 2) := by decide +kernel
theorem dX0_divideByLimb_30 : decode cX0_divideByLimb 30 = .ok (.bipush 32, 2) := by decide +kernel
theorem dX0_divideByLimb_32 : decode cX0_divideByLimb 32 = .ok (.lshl, 1) := by decide +kernel
theorem dX0_divideByLimb_33 : decode cX0_divideByLimb 33 = .ok (.aload_n 1, 1) := by decide +kernel
theorem dX0_divideByLimb_34 : decode cX0_divideByLimb 34 = .ok (.getfield 54, 3) := by decide +kernel
theorem dX0_divideByLimb_37 : decode cX0_divideByLimb 37 = .ok (.iload 7, 2) := by decide +kernel
theorem dX0_divideByLimb_39 : decode cX0_divideByLimb 39 = .ok (.iaload, 1) := by decide +kernel
theorem dX0_divideByLimb_40 : decode cX0_divideByLimb 40 = .ok (.i2l, 1) := by decide +kernel
theorem dX0_divideByLimb_41 : decode cX0_divideByLimb 41 = .ok (.ldc2_w 57, 3) := by decide +kernel
theorem dX0_divideByLimb_44 : decode cX0_divideByLimb 44 = .ok (.land, 1) := by decide +kernel
theorem dX0_divideByLimb_45 : decode cX0_divideByLimb 45 = .ok (.lor, 1) := by decide +kernel
theorem dX0_divideByLimb_46 : decode cX0_divideByLimb 46 = .ok (.lstore 8, 2) := by decide +kernel
theorem dX0_divideByLimb_48 : decode cX0_divideByLimb 48 = .ok (.lload 8, 2) := by decide +kernel
theorem dX0_divideByLimb_50 : decode cX0_divideByLimb 50 = .ok (.lload_n 3, 1) := by decide +kernel
theorem dX0_divideByLimb_51 : decode cX0_divideByLimb 51 = .ok (.invokestatic 59, 3) := by decide +kernel
theorem dX0_divideByLimb_54 : decode cX0_divideByLimb 54 = .ok (.lstore 10, 2) := by decide +kernel
theorem dX0_divideByLimb_56 : decode cX0_divideByLimb 56 = .ok (.aload_n 0, 1) := by decide +kernel
theorem dX0_divideByLimb_57 : decode cX0_divideByLimb 57 = .ok (.getfield 12, 3) := by decide +kernel
theorem dX0_divideByLimb_60 : decode cX0_divideByLimb 60 = .ok (.getfield 54, 3) := by decide +kernel
theorem dX0_divideByLimb_63 : decode cX0_divideByLimb 63 = .ok (.iload 7, 2) := by decide +kernel
theorem dX0_divideByLimb_65 : decode cX0_divideByLimb 65 = .ok (.lload 10, 2) := by decide +kernel
theorem dX0_divideByLimb_67 : decode cX0_divideByLimb 67 = .ok (.l2i, 1) := by decide +kernel
theorem dX0_divideByLimb_68 : decode cX0_divideByLimb 68 = .ok (.iastore, 1) := by decide +kernel
theorem dX0_divideByLimb_69 : decode cX0_divideByLimb 69 = .ok (.lload 8, 2) := by decide +kernel
theorem dX0_divideByLimb_71 : decode cX0_divideByLimb 71 = .ok (.lload 10, 2) := by decide +kernel
theorem dX0_divideByLimb_73 : decode cX0_divideByLimb 73 = .ok (.lload_n 3, 1) := by decide +kernel
theorem dX0_divideByLimb_74 : decode cX0_divideByLimb 74 = .ok (.lmul, 1) := by decide +kernel
theorem dX0_divideByLimb_75 : decode cX0_divideByLimb 75 = .ok (.lsub, 1) := by decide +kernel
theorem dX0_divideByLimb_76 : decode cX0_divideByLimb 76 = .ok (.lstore 5, 2) := by decide +kernel
theorem dX0_divideByLimb_78 : decode cX0_divideByLimb 78 = .ok (.iinc 7 (-1), 3) := by decide +kernel
theorem dX0_divideByLimb_81 : decode cX0_divideByLimb 81 = .ok (.goto (-58), 3) := by decide +kernel
theorem dX0_divideByLimb_84 : decode cX0_divideByLimb 84 = .ok (.aload_n 0, 1) := by decide +kernel
theorem dX0_divideByLimb_85 : decode cX0_divideByLimb 85 = .ok (.getfield 12, 3) := by decide +kernel
theorem dX0_divideByLimb_88 : decode cX0_divideByLimb 88 = .ok (.aload_n 1, 1) := by decide +kernel
theorem dX0_divideByLimb_89 : decode cX0_divideByLimb 89 = .ok (.getfield 43, 3) := by decide +kernel
theorem dX0_divideByLimb_92 : decode cX0_divideByLimb 92 = .ok (.aload_n 1, 1) := by decide +kernel
theorem dX0_divideByLimb_93 : decode cX0_divideByLimb 93 = .ok (.getfield 63, 3) := by decide +kernel
theorem dX0_divideByLimb_96 : decode cX0_divideByLimb 96 = .ok (.aload_n 2, 1) := by decide +kernel
theorem dX0_divideByLimb_97 : decode cX0_divideByLimb 97 = .ok (.getfield 63, 3) := by decide +kernel
theorem dX0_divideByLimb_100 : decode cX0_divideByLimb 100 = .ok (.if_icmp .eq 7, 3) := by decide +kernel
theorem dX0_divideByLimb_103 : decode cX0_divideByLimb 103 = .ok (.iconst 1, 1) := by decide +kernel
theorem dX0_divideByLimb_104 : decode cX0_divideByLimb 104 = .ok (.goto 4, 3) := by decide +kernel
theorem dX0_divideByLimb_107 : decode cX0_divideByLimb 107 = .ok (.iconst 0, 1) := by decide +kernel
theorem dX0_divideByLimb_108 : decode cX0_divideByLimb 108 = .ok (.invokevirtual 67, 3) := by decide +kernel
theorem dX0_divideByLimb_111 : decode cX0_divideByLimb 111 = .ok (.aload_n 0, 1) := by decide +kernel
theorem dX0_divideByLimb_112 : decode cX0_divideByLimb 112 = .ok (.getfield 18, 3) := by decide +kernel
theorem dX0_divideByLimb_115 : decode cX0_divideByLimb 115 = .ok (.getfield 54, 3) := by decide +kernel
theorem dX0_divideByLimb_118 : decode cX0_divideByLimb 118 = .ok (.iconst 0, 1) := by decide +kernel
theorem dX0_divideByLimb_119 : decode cX0_divideByLimb 119 = .ok (.lload 5, 2) := by decide +kernel
theorem dX0_divideByLimb_121 : decode cX0_divideByLimb 121 = .ok (.l2i, 1) := by decide +kernel
theorem dX0_divideByLimb_122 : decode cX0_divideByLimb 122 = .ok (.iastore, 1) := by decide +kernel
theorem dX0_divideByLimb_123 : decode cX0_divideByLimb 123 = .ok (.aload_n 0, 1) := by decide +kernel
theorem dX0_divideByLimb_124 : decode cX0_divideByLimb 124 = .ok (.getfield 18, 3) := by decide +kernel
theorem dX0_divideByLimb_127 : decode cX0_divideByLimb 127 = .ok (.iconst 1, 1) := by decide +kernel
theorem dX0_divideByLimb_128 : decode cX0_divideByLimb 128 = .ok (.aload_n 1, 1) := by decide +kernel
theorem dX0_divideByLimb_129 : decode cX0_divideByLimb 129 = .ok (.getfield 63, 3) := by decide +kernel
theorem dX0_divideByLimb_132 : decode cX0_divideByLimb 132 = .ok (.invokevirtual 67, 3) := by decide +kernel
theorem dX0_divideByLimb_135 : decode cX0_divideByLimb 135 = .ok (.return_, 1) := by decide +kernel
set_option maxRecDepth 20000 in
theorem ggX0_divideLong_J6_numberOfLeadingZeros_0f7a4 : GoodIn wsX0_divideLong wsJ6_numberOfLeadingZeros_0f7a4 := goodIn_r _ [11, 12] rfl (by decide +kernel)
set_option maxRecDepth 20000 in
theorem gX0_divideLong_J6_numberOfLeadingZeros_0f7a4 : GoodIn wsX0_divideLong (va_wsS RX0 71 yJ6_numberOfLeadingZeros_0f7a4 wsJ6_numberOfLeadingZeros_0f7a4) := goodIn_app (goodIn_of _ (by decide +kernel)) ggX0_divideLong_J6_numberOfLeadingZeros_0f7a4
set_option maxRecDepth 20000 in
theorem ggX0_divideLong_X4_shiftUp : GoodIn wsX0_divideLong wsX4_shiftUp := goodIn_r _ [16, 17, 18, 19, 50, 51, 52] rfl (by decide +kernel)
set_option maxRecDepth 20000 in
theorem gX0_divideLong_X4_shiftUp : GoodIn wsX0_divideLong (va_wsS RX0 77 yX4_shiftUp wsX4_shiftUp) := goodIn_app (goodIn_of _ (by decide +kernel)) ggX0_divideLong_X4_shiftUp
set_option maxRecDepth 20000 in
theorem ggX0_divideLong_X0_guessDigit : GoodIn wsX0_divideLong wsX0_guessDigit := goodIn_r _ [24, 4, 25, 3, 26, 27, 23, 28, 29, 30, 31, 32, 53, 54, 55, 56] rfl (by decide +kernel)
set_option maxRecDepth 20000 in
theorem gX0_divideLong_X0_guessDigit : GoodIn wsX0_divideLong (wsV RX0 81 RX0 yX0_guessDigit wsX0_guessDigit) := goodIn_app (goodIn_of _ (by decide +kernel)) ggX0_divideLong_X0_guessDigit
set_option maxRecDepth 20000 in
theorem ggX0_divideLong_X0_takeProduct : GoodIn wsX0_divideLong wsX0_takeProduct := goodIn_r _ [36, 4, 25, 3, 53, 54, 55, 56] rfl (by decide +kernel)
set_option maxRecDepth 20000 in
theorem gX0_divideLong_X0_takeProduct : GoodIn wsX0_divideLong (wsV RX0 85 RX0 yX0_takeProduct wsX0_takeProduct) := goodIn_app (goodIn_of _ (by decide +kernel)) ggX0_divideLong_X0_takeProduct
set_option maxRecDepth 20000 in
theorem ggX0_divideLong_X0_giveBack : GoodIn wsX0_divideLong wsX0_giveBack := goodIn_r _ [40, 3, 25, 4, 53, 54, 55, 56] rfl (by decide +kernel)
set_option maxRecDepth 20000 in
theorem gX0_divideLong_X0_giveBack : GoodIn wsX0_divideLong (wsV RX0 89 RX0 yX0_giveBack wsX0_giveBack) := goodIn_app (goodIn_of _ (by decide +kernel)) ggX0_divideLong_X0_giveBack
set_option maxRecDepth 20000 in
theorem ggX0_divideLong_X4_settle : GoodIn wsX0_divideLong wsX4_settle := goodIn_r _ [44, 17, 18, 45, 50, 51, 52] rfl (by decide +kernel)
set_option maxRecDepth 20000 in
theorem gX0_divideLong_X4_settle : GoodIn wsX0_divideLong (wsV RX0 67 RX4 yX4_settle wsX4_settle) := goodIn_app (goodIn_of _ (by decide +kernel)) ggX0_divideLong_X4_settle
set_option maxRecDepth 20000 in
theorem ggX0_divideLong_X4_shiftDown : GoodIn wsX0_divideLong wsX4_shiftDown := goodIn_r _ [49, 19, 18, 50, 51, 52] rfl (by decide +kernel)
set_option maxRecDepth 20000 in
theorem gX0_divideLong_X4_shiftDown : GoodIn wsX0_divideLong (wsV RX0 93 RX4 yX4_shiftDown wsX4_shiftDown) := goodIn_app (goodIn_of _ (by decide +kernel)) ggX0_divideLong_X4_shiftDown
theorem dX0_divideLong_0 : decode cX0_divideLong 0 = .ok (.aload_n 2, 1) := by decide +kernel
theorem dX0_divideLong_1 : decode cX0_divideLong 1 = .ok (.getfield 54, 3) := by decide +kernel
theorem dX0_divideLong_4 : decode cX0_divideLong 4 = .ok (.aload_n 2, 1) := by decide +kernel
theorem dX0_divideLong_5 : decode cX0_divideLong 5 = .ok (.getfield 43, 3) := by decide +kernel
theorem dX0_divideLong_8 : decode cX0_divideLong 8 = .ok (.iconst 1, 1) := by decide +kernel
theorem dX0_divideLong_9 : decode cX0_divideLong 9 = .ok (.isub, 1) := by decide +kernel
theorem dX0_divideLong_10 : decode cX0_divideLong 10 = .ok (.iaload, 1) := by decide +kernel
theorem dX0_divideLong_11 : decode cX0_divideLong 11 = .ok (.invokestatic 71, 3) := by decide +kernel
theorem dX0_divideLong_14 : decode cX0_divideLong 14 = .ok (.istore_n 3, 1) := by decide +kernel
theorem dX0_divideLong_15 : decode cX0_divideLong 15 = .ok (.aload_n 0, 1) := by decide +kernel
theorem dX0_divideLong_16 : decode cX0_divideLong 16 = .ok (.getfield 21, 3) := by decide +kernel
theorem dX0_divideLong_19 : decode cX0_divideLong 19 = .ok (.aload_n 1, 1) := by decide +kernel
theorem dX0_divideLong_20 : decode cX0_divideLong 20 = .ok (.getfield 43, 3) := by decide +kernel
theorem dX0_divideLong_23 : decode cX0_divideLong 23 = .ok (.aload_n 1, 1) := by decide +kernel
theorem dX0_divideLong_24 : decode cX0_divideLong 24 = .ok (.iload_n 3, 1) := by decide +kernel
theorem dX0_divideLong_25 : decode cX0_divideLong 25 = .ok (.aload_n 0, 1) := by decide +kernel
theorem dX0_divideLong_26 : decode cX0_divideLong 26 = .ok (.getfield 21, 3) := by decide +kernel
theorem dX0_divideLong_29 : decode cX0_divideLong 29 = .ok (.iconst 0, 1) := by decide +kernel
theorem dX0_divideLong_30 : decode cX0_divideLong 30 = .ok (.invokestatic 77, 3) := by decide +kernel
theorem dX0_divideLong_33 : decode cX0_divideLong 33 = .ok (.iastore, 1) := by decide +kernel
theorem dX0_divideLong_34 : decode cX0_divideLong 34 = .ok (.aload_n 2, 1) := by decide +kernel
theorem dX0_divideLong_35 : decode cX0_divideLong 35 = .ok (.iload_n 3, 1) := by decide +kernel
theorem dX0_divideLong_36 : decode cX0_divideLong 36 = .ok (.aload_n 0, 1) := by decide +kernel
theorem dX0_divideLong_37 : decode cX0_divideLong 37 = .ok (.getfield 25, 3) := by decide +kernel
theorem dX0_divideLong_40 : decode cX0_divideLong 40 = .ok (.iconst 0, 1) := by decide +kernel
theorem dX0_divideLong_41 : decode cX0_divideLong 41 = .ok (.invokestatic 77, 3) := by decide +kernel
theorem dX0_divideLong_44 : decode cX0_divideLong 44 = .ok (.pop, 1) := by decide +kernel
theorem dX0_divideLong_45 : decode cX0_divideLong 45 = .ok (.aload_n 1, 1) := by decide +kernel
theorem dX0_divideLong_46 : decode cX0_divideLong 46 = .ok (.getfield 43, 3) := by decide +kernel
theorem dX0_divideLong_49 : decode cX0_divideLong 49 = .ok (.aload_n 2, 1) := by decide +kernel
theorem dX0_divideLong_50 : decode cX0_divideLong 50 = .ok (.getfield 43, 3) := by decide +kernel
theorem dX0_divideLong_53 : decode cX0_divideLong 53 = .ok (.isub, 1) := by decide +kernel
theorem dX0_divideLong_54 : decode cX0_divideLong 54 = .ok (.istore 4, 2) := by decide +kernel
theorem dX0_divideLong_56 : decode cX0_divideLong 56 = .ok (.iload 4, 2) := by decide +kernel
theorem dX0_divideLong_58 : decode cX0_divideLong 58 = .ok (.ifCond .lt 70, 3) := by decide +kernel
theorem dX0_divideLong_61 : decode cX0_divideLong 61 = .ok (.aload_n 0, 1) := by decide +kernel
theorem dX0_divideLong_62 : decode cX0_divideLong 62 = .ok (.iload 4, 2) := by decide +kernel
theorem dX0_divideLong_64 : decode cX0_divideLong 64 = .ok (.aload_n 2, 1) := by decide +kernel
theorem dX0_divideLong_65 : decode cX0_divideLong 65 = .ok (.getfield 43, 3) := by decide +kernel
theorem dX0_divideLong_68 : decode cX0_divideLong 68 = .ok (.iadd, 1) := by decide +kernel
theorem dX0_divideLong_69 : decode cX0_divideLong 69 = .ok (.aload_n 2, 1) := by decide +kernel
theorem dX0_divideLong_70 : decode cX0_divideLong 70 = .ok (.getfield 43, 3) := by decide +kernel
theorem dX0_divideLong_73 : decode cX0_divideLong 73 = .ok (.invokevirtual 81, 3) := by decide +kernel
theorem dX0_divideLong_76 : decode cX0_divideLong 76 = .ok (.lstore 5, 2) := by decide +kernel
theorem dX0_divideLong_78 : decode cX0_divideLong 78 = .ok (.aload_n 0, 1) := by decide +kernel
theorem dX0_divideLong_79 : decode cX0_divideLong 79 = .ok (.lload 5, 2) := by decide +kernel
theorem dX0_divideLong_81 : decode cX0_divideLong 81 = .ok (.iload 4, 2) := by decide +kernel
theorem dX0_divideLong_83 : decode cX0_divideLong 83 = .ok (.aload_n 2, 1) := by decide +kernel
theorem dX0_divideLong_84 : decode cX0_divideLong 84 = .ok (.getfield 43, 3) := by decide +kernel
theorem dX0_divideLong_87 : decode cX0_divideLong 87 = .ok (.invokevirtual 85, 3) := by decide +kernel
theorem dX0_divideLong_90 : decode cX0_divideLong 90 = .ok (.ifCond .eq 19, 3) := by decide +kernel
theorem dX0_divideLong_93 : decode cX0_divideLong 93 = .ok (.lload 5, 2) := by decide +kernel
theorem dX0_divideLong_95 : decode cX0_divideLong 95 = .ok (.lconst 1, 1) := by decide +kernel
theorem dX0_divideLong_96 : decode cX0_divideLong 96 = .ok (.lsub, 1) := by decide +kernel
theorem dX0_divideLong_97 : decode cX0_divideLong 97 = .ok (.lstore 5, 2) := by decide +kernel
theorem dX0_divideLong_99 : decode cX0_divideLong 99 = .ok (.aload_n 0, 1) := by decide +kernel
theorem dX0_divideLong_100 : decode cX0_divideLong 100 = .ok (.iload 4, 2) := by decide +kernel
theorem dX0_divideLong_102 : decode cX0_divideLong 102 = .ok (.aload_n 2, 1) := by decide +kernel
theorem dX0_divideLong_103 : decode cX0_divideLong 103 = .ok (.getfield 43, 3) := by decide +kernel
theorem dX0_divideLong_106 : decode cX0_divideLong 106 = .ok (.invokevirtual 89, 3) := by decide +kernel
theorem dX0_divideLong_109 : decode cX0_divideLong 109 = .ok (.aload_n 0, 1) := by decide +kernel
theorem dX0_divideLong_110 : decode cX0_divideLong 110 = .ok (.getfield 12, 3) := by decide +kernel
theorem dX0_divideLong_113 : decode cX0_divideLong 113 = .ok (.getfield 54, 3) := by decide +kernel
theorem dX0_divideLong_116 : decode cX0_divideLong 116 = .ok (.iload 4, 2) := by decide +kernel
theorem dX0_divideLong_118 : decode cX0_divideLong 118 = .ok (.lload 5, 2) := by decide +kernel
theorem dX0_divideLong_120 : decode cX0_divideLong 120 = .ok (.l2i, 1) := by decide +kernel
theorem dX0_divideLong_121 : decode cX0_divideLong 121 = .ok (.iastore, 1) := by decide +kernel
theorem dX0_divideLong_122 : decode cX0_divideLong 122 = .ok (.iinc 4 (-1), 3) := by decide +kernel
theorem dX0_divideLong_125 : decode cX0_divideLong 125 = .ok (.goto (-69), 3) := by decide +kernel
theorem dX0_divideLong_128 : decode cX0_divideLong 128 = .ok (.aload_n 0, 1) := by decide +kernel
theorem dX0_divideLong_129 : decode cX0_divideLong 129 = .ok (.getfield 12, 3) := by decide +kernel
theorem dX0_divideLong_132 : decode cX0_divideLong 132 = .ok (.aload_n 1, 1) := by decide +kernel
theorem dX0_divideLong_133 : decode cX0_divideLong 133 = .ok (.getfield 43, 3) := by decide +kernel
theorem dX0_divideLong_136 : decode cX0_divideLong 136 = .ok (.aload_n 2, 1) := by decide +kernel
theorem dX0_divideLong_137 : decode cX0_divideLong 137 = .ok (.getfield 43, 3) := by decide +kernel
theorem dX0_divideLong_140 : decode cX0_divideLong 140 = .ok (.isub, 1) := by decide +kernel
theorem dX0_divideLong_141 : decode cX0_divideLong 141 = .ok (.iconst 1, 1) := by decide +kernel
theorem dX0_divideLong_142 : decode cX0_divideLong 142 = .ok (.iadd, 1) := by decide +kernel
theorem dX0_divideLong_143 : decode cX0_divideLong 143 = .ok (.aload_n 1, 1) := by decide +kernel
theorem dX0_divideLong_144 : decode cX0_divideLong 144 = .ok (.getfield 63, 3) := by decide +kernel
theorem dX0_divideLong_147 : decode cX0_divideLong 147 = .ok (.aload_n 2, 1) := by decide +kernel
theorem dX0_divideLong_148 : decode cX0_divideLong 148 = .ok (.getfield 63, 3) := by decide +kernel
theorem dX0_divideLong_151 : decode cX0_divideLong 151 = .ok (.if_icmp .eq 7, 3) := by decide +kernel
theorem dX0_divideLong_154 : decode cX0_divideLong 154 = .ok (.iconst 1, 1) := by decide +kernel
theorem dX0_divideLong_155 : decode cX0_divideLong 155 = .ok (.goto 4, 3) := by decide +kernel
theorem dX0_divideLong_158 : decode cX0_divideLong 158 = .ok (.iconst 0, 1) := by decide +kernel
theorem dX0_divideLong_159 : decode cX0_divideLong 159 = .ok (.invokevirtual 67, 3) := by decide +kernel
theorem dX0_divideLong_162 : decode cX0_divideLong 162 = .ok (.aload_n 0, 1) := by decide +kernel
theorem dX0_divideLong_163 : decode cX0_divideLong 163 = .ok (.getfield 18, 3) := by decide +kernel
theorem dX0_divideLong_166 : decode cX0_divideLong 166 = .ok (.aload_n 0, 1) := by decide +kernel
theorem dX0_divideLong_167 : decode cX0_divideLong 167 = .ok (.getfield 21, 3) := by decide +kernel
theorem dX0_divideLong_170 : decode cX0_divideLong 170 = .ok (.iconst 0, 1) := by decide +kernel
theorem dX0_divideLong_171 : decode cX0_divideLong 171 = .ok (.aload_n 2, 1) := by decide +kernel
theorem dX0_divideLong_172 : decode cX0_divideLong 172 = .ok (.getfield 43, 3) := by decide +kernel
theorem dX0_divideLong_175 : decode cX0_divideLong 175 = .ok (.iload_n 3, 1) := by decide +kernel
theorem dX0_divideLong_176 : decode cX0_divideLong 176 = .ok (.invokevirtual 93, 3) := by decide +kernel
theorem dX0_divideLong_179 : decode cX0_divideLong 179 = .ok (.aload_n 0, 1) := by decide +kernel
theorem dX0_divideLong_180 : decode cX0_divideLong 180 = .ok (.getfield 18, 3) := by decide +kernel
theorem dX0_divideLong_183 : decode cX0_divideLong 183 = .ok (.aload_n 2, 1) := by decide +kernel
theorem dX0_divideLong_184 : decode cX0_divideLong 184 = .ok (.getfield 43, 3) := by decide +kernel
theorem dX0_divideLong_187 : decode cX0_divideLong 187 = .ok (.aload_n 1, 1) := by decide +kernel
theorem dX0_divideLong_188 : decode cX0_divideLong 188 = .ok (.getfield 63, 3) := by decide +kernel
theorem dX0_divideLong_191 : decode cX0_divideLong 191 = .ok (.invokevirtual 67, 3) := by decide +kernel
theorem dX0_divideLong_194 : decode cX0_divideLong 194 = .ok (.return_, 1) := by decide +kernel
set_option maxRecDepth 20000 in
theorem ggX0_guessDigit_X0_divideUnsigned : GoodIn wsX0_guessDigit wsX0_divideUnsigned := goodIn_r _ [7] rfl (by decide +kernel)
set_option maxRecDepth 20000 in
theorem gX0_guessDigit_X0_divideUnsigned : GoodIn wsX0_guessDigit (va_wsS RX0 59 yX0_divideUnsigned wsX0_divideUnsigned) := goodIn_app (goodIn_of _ (by decide +kernel)) ggX0_guessDigit_X0_divideUnsigned
set_option maxRecDepth 20000 in
theorem ggX0_guessDigit_X0_isAbove : GoodIn wsX0_guessDigit wsX0_isAbove := goodIn_r _ [10, 11] rfl (by decide +kernel)
set_option maxRecDepth 20000 in
theorem gX0_guessDigit_X0_isAbove : GoodIn wsX0_guessDigit (va_wsS RX0 97 yX0_isAbove wsX0_isAbove) := goodIn_app (goodIn_of _ (by decide +kernel)) ggX0_guessDigit_X0_isAbove
theorem dX0_guessDigit_0 : decode cX0_guessDigit 0 = .ok (.aload_n 0, 1) := by decide +kernel
theorem dX0_guessDigit_1 : decode cX0_guessDigit 1 = .ok (.getfield 25, 3) := by decide +kernel
theorem dX0_guessDigit_4 : decode cX0_guessDigit 4 = .ok (.iload_n 2, 1) := by decide +kernel
theorem dX0_guessDigit_5 : decode cX0_guessDigit 5 = .ok (.iconst 1, 1) := by decide +kernel
theorem dX0_guessDigit_6 : decode cX0_guessDigit 6 = .ok (.isub, 1) := by decide +kernel
theorem dX0_guessDigit_7 : decode cX0_guessDigit 7 = .ok (.iaload, 1) := by decide +kernel
theorem dX0_guessDigit_8 : decode cX0_guessDigit 8 = .ok (.i2l, 1) := by decide +kernel
theorem dX0_guessDigit_9 : decode cX0_guessDigit 9 = .ok (.ldc2_w 57, 3) := by decide +kernel
theorem dX0_guessDigit_12 : decode cX0_guessDigit 12 = .ok (.land, 1) := by decide +kernel
theorem dX0_guessDigit_13 : decode cX0_guessDigit 13 = .ok (.lstore_n 3, 1) := by decide +kernel
theorem dX0_guessDigit_14 : decode cX0_guessDigit 14 = .ok (.aload_n 0, 1) := by decide +kernel
theorem dX0_guessDigit_15 : decode cX0_guessDigit 15 = .ok (.getfield 25, 3) := by decide +kernel
theorem dX0_guessDigit_18 : decode cX0_guessDigit 18 = .ok (.iload_n 2, 1) := by decide +kernel
theorem dX0_guessDigit_19 : decode cX0_guessDigit 19 = .ok (.iconst 2, 1) := by decide +kernel
theorem dX0_guessDigit_20 : decode cX0_guessDigit 20 = .ok (.isub, 1) := by decide +kernel
theorem dX0_guessDigit_21 : decode cX0_guessDigit 21 = .ok (.iaload, 1) := by decide +kernel
theorem dX0_guessDigit_22 : decode cX0_guessDigit 22 = .ok (.i2l, 1) := by decide +kernel
theorem dX0_guessDigit_23 : decode cX0_guessDigit 23 = .ok (.ldc2_w 57, 3) := by decide +kernel
theorem dX0_guessDigit_26 : decode cX0_guessDigit 26 = .ok (.land, 1) := by decide +kernel
theorem dX0_guessDigit_27 : decode cX0_guessDigit 27 = .ok (.lstore 5, 2) := by decide +kernel
theorem dX0_guessDigit_29 : decode cX0_guessDigit 29 = .ok (.aload_n 0, 1) := by decide +kernel
theorem dX0_guessDigit_30 : decode cX0_guessDigit 30 = .ok (.getfield 21, 3) := by decide +kernel
theorem dX0_guessDigit_33 : decode cX0_guessDigit 33 = .ok (.iload_n 1, 1) := by decide +kernel
theorem dX0_guessDigit_34 : decode cX0_guessDigit 34 = .ok (.iaload, 1) := by decide +kernel
theorem dX0_guessDigit_35 : decode cX0_guessDigit 35 = .ok (.i2l, 1) := by decide +kernel
theorem dX0_guessDigit_36 : decode cX0_guessDigit 36 = .ok (.ldc2_w 57, 3) := by decide +kernel
theorem dX0_guessDigit_39 : decode cX0_guessDigit 39 = .ok (.land, 1) := by decide +kernel
theorem dX0_guessDigit_40 : decode cX0_guessDigit 40 = .ok (.lstore 7, 2) := by decide +kernel
theorem dX0_guessDigit_42 : decode cX0_guessDigit 42 = .ok (.lload 7, 2) := by decide +kernel
theorem dX0_guessDigit_44 : decode cX0_guessDigit 44 = .ok (.bipush 32, 2) := by decide +kernel
theorem dX0_guessDigit_46 : decode cX0_guessDigit 46 = .ok (.lshl, 1) := by decide +kernel
theorem dX0_guessDigit_47 : decode cX0_guessDigit 47 = .ok (.aload_n 0, 1) := by decide +kernel
theorem dX0_guessDigit_48 : decode cX0_guessDigit 48 = .ok (.getfield 21, 3) := by decide +kernel
theorem dX0_guessDigit_51 : decode cX0_guessDigit 51 = .ok (.iload_n 1, 1) := by decide +kernel
theorem dX0_guessDigit_52 : decode cX0_guessDigit 52 = .ok (.iconst 1, 1) := by decide +kernel
theorem dX0_guessDigit_53 : decode cX0_guessDigit 53 = .ok (.isub, 1) := by decide +kernel
theorem dX0_guessDigit_54 : decode cX0_guessDigit 54 = .ok (.iaload, 1) := by decide +kernel
theorem dX0_guessDigit_55 : decode cX0_guessDigit 55 = .ok (.i2l, 1) := by decide +kernel
theorem dX0_guessDigit_56 : decode cX0_guessDigit 56 = .ok (.ldc2_w 57, 3) := by decide +kernel
theorem dX0_guessDigit_59 : decode cX0_guessDigit 59 = .ok (.land, 1) := by decide +kernel
theorem dX0_guessDigit_60 : decode cX0_guessDigit 60 = .ok (.lor, 1) := by decide +kernel
theorem dX0_guessDigit_61 : decode cX0_guessDigit 61 = .ok (.lstore 9, 2) := by decide +kernel
theorem dX0_guessDigit_63 : decode cX0_guessDigit 63 = .ok (.aload_n 0, 1) := by decide +kernel
theorem dX0_guessDigit_64 : decode cX0_guessDigit 64 = .ok (.getfield 21, 3) := by decide +kernel
theorem dX0_guessDigit_67 : decode cX0_guessDigit 67 = .ok (.iload_n 1, 1) := by decide +kernel
theorem dX0_guessDigit_68 : decode cX0_guessDigit 68 = .ok (.iconst 2, 1) := by decide +kernel
theorem dX0_guessDigit_69 : decode cX0_guessDigit 69 = .ok (.isub, 1) := by decide +kernel
theorem dX0_guessDigit_70 : decode cX0_guessDigit 70 = .ok (.iaload, 1) := by decide +kernel
theorem dX0_guessDigit_71 : decode cX0_guessDigit 71 = .ok (.i2l, 1) := by decide +kernel
theorem dX0_guessDigit_72 : decode cX0_guessDigit 72 = .ok (.ldc2_w 57, 3) := by decide +kernel
theorem dX0_guessDigit_75 : decode cX0_guessDigit 75 = .ok (.land, 1) := by decide +kernel
theorem dX0_guessDigit_76 : decode cX0_guessDigit 76 = .ok (.lstore 11, 2) := by decide +kernel
theorem dX0_guessDigit_78 : decode cX0_guessDigit 78 = .ok (.lload 7, 2) := by decide +kernel
theorem dX0_guessDigit_80 : decode cX0_guessDigit 80 = .ok (.lload_n 3, 1) := by decide +kernel
theorem dX0_guessDigit_81 : decode cX0_guessDigit 81 = .ok (.lcmp, 1) := by decide +kernel
theorem dX0_guessDigit_82 : decode cX0_guessDigit 82 = .ok (.ifCond .lt 9, 3) := by decide +kernel
theorem dX0_guessDigit_85 : decode cX0_guessDigit 85 = .ok (.ldc2_w 57, 3) := by decide +kernel
theorem dX0_guessDigit_88 : decode cX0_guessDigit 88 = .ok (.goto 9, 3) := by decide +kernel
theorem dX0_guessDigit_91 : decode cX0_guessDigit 91 = .ok (.lload 9, 2) := by decide +kernel
theorem dX0_guessDigit_93 : decode cX0_guessDigit 93 = .ok (.lload_n 3, 1) := by decide +kernel
theorem dX0_guessDigit_94 : decode cX0_guessDigit 94 = .ok (.invokestatic 59, 3) := by decide +kernel
theorem dX0_guessDigit_97 : decode cX0_guessDigit 97 = .ok (.lstore 13, 2) := by decide +kernel
theorem dX0_guessDigit_99 : decode cX0_guessDigit 99 = .ok (.lload 9, 2) := by decide +kernel
theorem dX0_guessDigit_101 : decode cX0_guessDigit 101 = .ok (.lload 13, 2) := by decide +kernel
theorem dX0_guessDigit_103 : decode cX0_guessDigit 103 = .ok (.lload_n 3, 1) := by decide +kernel
theorem dX0_guessDigit_104 : decode cX0_guessDigit 104 = .ok (.lmul, 1) := by decide +kernel
theorem dX0_guessDigit_105 : decode cX0_guessDigit 105 = .ok (.lsub, 1) := by decide +kernel
theorem dX0_guessDigit_106 : decode cX0_guessDigit 106 = .ok (.lstore 15, 2) := by decide +kernel
theorem dX0_guessDigit_108 : decode cX0_guessDigit 108 = .ok (.iconst 0, 1) := by decide +kernel
theorem dX0_guessDigit_109 : decode cX0_guessDigit 109 = .ok (.istore 17, 2) := by decide +kernel
theorem dX0_guessDigit_111 : decode cX0_guessDigit 111 = .ok (.iload 17, 2) := by decide +kernel
theorem dX0_guessDigit_113 : decode cX0_guessDigit 113 = .ok (.iconst 2, 1) := by decide +kernel
theorem dX0_guessDigit_114 : decode cX0_guessDigit 114 = .ok (.if_icmp .ge 52, 3) := by decide +kernel
theorem dX0_guessDigit_117 : decode cX0_guessDigit 117 = .ok (.lload 15, 2) := by decide +kernel
theorem dX0_guessDigit_119 : decode cX0_guessDigit 119 = .ok (.ldc2_w 57, 3) := by decide +kernel
theorem dX0_guessDigit_122 : decode cX0_guessDigit 122 = .ok (.lcmp, 1) := by decide +kernel
theorem dX0_guessDigit_123 : decode cX0_guessDigit 123 = .ok (.ifCond .gt 43, 3) := by decide +kernel
theorem dX0_guessDigit_126 : decode cX0_guessDigit 126 = .ok (.lload 13, 2) := by decide +kernel
theorem dX0_guessDigit_128 : decode cX0_guessDigit 128 = .ok (.lload 5, 2) := by decide +kernel
theorem dX0_guessDigit_130 : decode cX0_guessDigit 130 = .ok (.lmul, 1) := by decide +kernel
theorem dX0_guessDigit_131 : decode cX0_guessDigit 131 = .ok (.lload 15, 2) := by decide +kernel
theorem dX0_guessDigit_133 : decode cX0_guessDigit 133 = .ok (.bipush 32, 2) := by decide +kernel
theorem dX0_guessDigit_135 : decode cX0_guessDigit 135 = .ok (.lshl, 1) := by decide +kernel
theorem dX0_guessDigit_136 : decode cX0_guessDigit 136 = .ok (.lload 11, 2) := by decide +kernel
theorem dX0_guessDigit_138 : decode cX0_guessDigit 138 = .ok (.lor, 1) := by decide +kernel
theorem dX0_guessDigit_139 : decode cX0_guessDigit 139 = .ok (.invokestatic 97, 3) := by decide +kernel
theorem dX0_guessDigit_142 : decode cX0_guessDigit 142 = .ok (.ifCond .ne 6, 3) := by decide +kernel
theorem dX0_guessDigit_145 : decode cX0_guessDigit 145 = .ok (.goto 21, 3) := by decide +kernel
theorem dX0_guessDigit_148 : decode cX0_guessDigit 148 = .ok (.lload 13, 2) := by decide +kernel
theorem dX0_guessDigit_150 : decode cX0_guessDigit 150 = .ok (.lconst 1, 1) := by decide +kernel
theorem dX0_guessDigit_151 : decode cX0_guessDigit 151 = .ok (.lsub, 1) := by decide +kernel
theorem dX0_guessDigit_152 : decode cX0_guessDigit 152 = .ok (.lstore 13, 2) := by decide +kernel
theorem dX0_guessDigit_154 : decode cX0_guessDigit 154 = .ok (.lload 15, 2) := by decide +kernel
theorem dX0_guessDigit_156 : decode cX0_guessDigit 156 = .ok (.lload_n 3, 1) := by decide +kernel
theorem dX0_guessDigit_157 : decode cX0_guessDigit 157 = .ok (.ladd, 1) := by decide +kernel
theorem dX0_guessDigit_158 : decode cX0_guessDigit 158 = .ok (.lstore 15, 2) := by decide +kernel
theorem dX0_guessDigit_160 : decode cX0_guessDigit 160 = .ok (.iinc 17 1, 3) := by decide +kernel
theorem dX0_guessDigit_163 : decode cX0_guessDigit 163 = .ok (.goto (-52), 3) := by decide +kernel
theorem dX0_guessDigit_166 : decode cX0_guessDigit 166 = .ok (.lload 13, 2) := by decide +kernel
theorem dX0_guessDigit_168 : decode cX0_guessDigit 168 = .ok (.lreturn, 1) := by decide +kernel
theorem dX0_takeProduct_0 : decode cX0_takeProduct 0 = .ok (.lconst 0, 1) := by decide +kernel
theorem dX0_takeProduct_1 : decode cX0_takeProduct 1 = .ok (.lstore 5, 2) := by decide +kernel
theorem dX0_takeProduct_3 : decode cX0_takeProduct 3 = .ok (.iconst 0, 1) := by decide +kernel
theorem dX0_takeProduct_4 : decode cX0_takeProduct 4 = .ok (.istore 7, 2) := by decide +kernel
theorem dX0_takeProduct_6 : decode cX0_takeProduct 6 = .ok (.iload 7, 2) := by decide +kernel
theorem dX0_takeProduct_8 : decode cX0_takeProduct 8 = .ok (.iload 4, 2) := by decide +kernel
theorem dX0_takeProduct_10 : decode cX0_takeProduct 10 = .ok (.if_icmp .ge 84, 3) := by decide +kernel
theorem dX0_takeProduct_13 : decode cX0_takeProduct 13 = .ok (.aload_n 0, 1) := by decide +kernel
theorem dX0_takeProduct_14 : decode cX0_takeProduct 14 = .ok (.getfield 25, 3) := by decide +kernel
theorem dX0_takeProduct_17 : decode cX0_takeProduct 17 = .ok (.iload 7, 2) := by decide +kernel
theorem dX0_takeProduct_19 : decode cX0_takeProduct 19 = .ok (.iaload, 1) := by decide +kernel
theorem dX0_takeProduct_20 : decode cX0_takeProduct 20 = .ok (.i2l, 1) := by decide +kernel
theorem dX0_takeProduct_21 : decode cX0_takeProduct 21 = .ok (.ldc2_w 57, 3) := by decide +kernel
theorem dX0_takeProduct_24 : decode cX0_takeProduct 24 = .ok (.land, 1) := by decide +kernel
theorem dX0_takeProduct_25 : decode cX0_takeProduct 25 = .ok (.lload_n 1, 1) := by decide +kernel
theorem dX0_takeProduct_26 : decode cX0_takeProduct 26 = .ok (.lmul, 1) := by decide +kernel
theorem dX0_takeProduct_27 : decode cX0_takeProduct 27 = .ok (.lload 5, 2) := by decide +kernel
theorem dX0_takeProduct_29 : decode cX0_takeProduct 29 = .ok (.ladd, 1) := by decide +kernel
theorem dX0_takeProduct_30 : decode cX0_takeProduct 30 = .ok (.lstore 8, 2) := by decide +kernel
theorem dX0_takeProduct_32 : decode cX0_takeProduct 32 = .ok (.aload_n 0, 1) := by decide +kernel
theorem dX0_takeProduct_33 : decode cX0_takeProduct 33 = .ok (.getfield 21, 3) := by decide +kernel
theorem dX0_takeProduct_36 : decode cX0_takeProduct 36 = .ok (.iload_n 3, 1) := by decide +kernel
theorem dX0_takeProduct_37 : decode cX0_takeProduct 37 = .ok (.iload 7, 2) := by decide +kernel
theorem dX0_takeProduct_39 : decode cX0_takeProduct 39 = .ok (.iadd, 1) := by decide +kernel
theorem dX0_takeProduct_40 : decode cX0_takeProduct 40 = .ok (.iaload, 1) := by decide +kernel
theorem dX0_takeProduct_41 : decode cX0_takeProduct 41 = .ok (.i2l, 1) := by decide +kernel
theorem dX0_takeProduct_42 : decode cX0_takeProduct 42 = .ok (.ldc2_w 57, 3) := by decide +kernel
theorem dX0_takeProduct_45 : decode cX0_takeProduct 45 = .ok (.land, 1) := by decide +kernel
theorem dX0_takeProduct_46 : decode cX0_takeProduct 46 = .ok (.lload 8, 2) := by decide +kernel
theorem dX0_takeProduct_48 : decode cX0_takeProduct 48 = .ok (.ldc2_w 57, 3) := by decide +kernel
theorem dX0_takeProduct_51 : decode cX0_takeProduct 51 = .ok (.land, 1) := by decide +kernel
theorem dX0_takeProduct_52 : decode cX0_takeProduct 52 = .ok (.lsub, 1) := by decide +kernel
theorem dX0_takeProduct_53 : decode cX0_takeProduct 53 = .ok (.lstore 10, 2) := by decide +kernel
theorem dX0_takeProduct_55 : decode cX0_takeProduct 55 = .ok (.aload_n 0, 1) := by decide +kernel
theorem dX0_takeProduct_56 : decode cX0_takeProduct 56 = .ok (.getfield 21, 3) := by decide +kernel
theorem dX0_takeProduct_59 : decode cX0_takeProduct 59 = .ok (.iload_n 3, 1) := by decide +kernel
theorem dX0_takeProduct_60 : decode cX0_takeProduct 60 = .ok (.iload 7, 2) := by decide +kernel
theorem dX0_takeProduct_62 : decode cX0_takeProduct 62 = .ok (.iadd, 1) := by decide +kernel
theorem dX0_takeProduct_63 : decode cX0_takeProduct 63 = .ok (.lload 10, 2) := by decide +kernel
theorem dX0_takeProduct_65 : decode cX0_takeProduct 65 = .ok (.l2i, 1) := by decide +kernel
theorem dX0_takeProduct_66 : decode cX0_takeProduct 66 = .ok (.iastore, 1) := by decide +kernel
theorem dX0_takeProduct_67 : decode cX0_takeProduct 67 = .ok (.lload 8, 2) := by decide +kernel
theorem dX0_takeProduct_69 : decode cX0_takeProduct 69 = .ok (.bipush 32, 2) := by decide +kernel
theorem dX0_takeProduct_71 : decode cX0_takeProduct 71 = .ok (.lushr, 1) := by decide +kernel
theorem dX0_takeProduct_72 : decode cX0_takeProduct 72 = .ok (.lload 10, 2) := by decide +kernel
theorem dX0_takeProduct_74 : decode cX0_takeProduct 74 = .ok (.lconst 0, 1) := by decide +kernel
theorem dX0_takeProduct_75 : decode cX0_takeProduct 75 = .ok (.lcmp, 1) := by decide +kernel
theorem dX0_takeProduct_76 : decode cX0_takeProduct 76 = .ok (.ifCond .ge 7, 3) := by decide +kernel
theorem dX0_takeProduct_79 : decode cX0_takeProduct 79 = .ok (.iconst 1, 1) := by decide +kernel
theorem dX0_takeProduct_80 : decode cX0_takeProduct 80 = .ok (.goto 4, 3) := by decide +kernel
theorem dX0_takeProduct_83 : decode cX0_takeProduct 83 = .ok (.iconst 0, 1) := by decide +kernel
theorem dX0_takeProduct_84 : decode cX0_takeProduct 84 = .ok (.i2l, 1) := by decide +kernel
theorem dX0_takeProduct_85 : decode cX0_takeProduct 85 = .ok (.ladd, 1) := by decide +kernel
theorem dX0_takeProduct_86 : decode cX0_takeProduct 86 = .ok (.lstore 5, 2) := by decide +kernel
theorem dX0_takeProduct_88 : decode cX0_takeProduct 88 = .ok (.iinc 7 1, 3) := by decide +kernel
theorem dX0_takeProduct_91 : decode cX0_takeProduct 91 = .ok (.goto (-85), 3) := by decide +kernel
theorem dX0_takeProduct_94 : decode cX0_takeProduct 94 = .ok (.aload_n 0, 1) := by decide +kernel
theorem dX0_takeProduct_95 : decode cX0_takeProduct 95 = .ok (.getfield 21, 3) := by decide +kernel
theorem dX0_takeProduct_98 : decode cX0_takeProduct 98 = .ok (.iload_n 3, 1) := by decide +kernel
theorem dX0_takeProduct_99 : decode cX0_takeProduct 99 = .ok (.iload 4, 2) := by decide +kernel
theorem dX0_takeProduct_101 : decode cX0_takeProduct 101 = .ok (.iadd, 1) := by decide +kernel
theorem dX0_takeProduct_102 : decode cX0_takeProduct 102 = .ok (.iaload, 1) := by decide +kernel
theorem dX0_takeProduct_103 : decode cX0_takeProduct 103 = .ok (.i2l, 1) := by decide +kernel
theorem dX0_takeProduct_104 : decode cX0_takeProduct 104 = .ok (.ldc2_w 57, 3) := by decide +kernel
theorem dX0_takeProduct_107 : decode cX0_takeProduct 107 = .ok (.land, 1) := by decide +kernel
theorem dX0_takeProduct_108 : decode cX0_takeProduct 108 = .ok (.lload 5, 2) := by decide +kernel
theorem dX0_takeProduct_110 : decode cX0_takeProduct 110 = .ok (.lcmp, 1) := by decide +kernel
theorem dX0_takeProduct_111 : decode cX0_takeProduct 111 = .ok (.ifCond .ge 7, 3) := by decide +kernel
theorem dX0_takeProduct_114 : decode cX0_takeProduct 114 = .ok (.iconst 1, 1) := by decide +kernel
theorem dX0_takeProduct_115 : decode cX0_takeProduct 115 = .ok (.goto 4, 3) := by decide +kernel
theorem dX0_takeProduct_118 : decode cX0_takeProduct 118 = .ok (.iconst 0, 1) := by decide +kernel
theorem dX0_takeProduct_119 : decode cX0_takeProduct 119 = .ok (.ireturn, 1) := by decide +kernel
theorem dX0_giveBack_0 : decode cX0_giveBack 0 = .ok (.lconst 0, 1) := by decide +kernel
theorem dX0_giveBack_1 : decode cX0_giveBack 1 = .ok (.lstore_n 3, 1) := by decide +kernel
theorem dX0_giveBack_2 : decode cX0_giveBack 2 = .ok (.iconst 0, 1) := by decide +kernel
theorem dX0_giveBack_3 : decode cX0_giveBack 3 = .ok (.istore 5, 2) := by decide +kernel
theorem dX0_giveBack_5 : decode cX0_giveBack 5 = .ok (.iload 5, 2) := by decide +kernel
theorem dX0_giveBack_7 : decode cX0_giveBack 7 = .ok (.iload_n 2, 1) := by decide +kernel
theorem dX0_giveBack_8 : decode cX0_giveBack 8 = .ok (.if_icmp .ge 58, 3) := by decide +kernel
theorem dX0_giveBack_11 : decode cX0_giveBack 11 = .ok (.aload_n 0, 1) := by decide +kernel
theorem dX0_giveBack_12 : decode cX0_giveBack 12 = .ok (.getfield 21, 3) := by decide +kernel
theorem dX0_giveBack_15 : decode cX0_giveBack 15 = .ok (.iload_n 1, 1) := by decide +kernel
theorem dX0_giveBack_16 : decode cX0_giveBack 16 = .ok (.iload 5, 2) := by decide +kernel
theorem dX0_giveBack_18 : decode cX0_giveBack 18 = .ok (.iadd, 1) := by decide +kernel
theorem dX0_giveBack_19 : decode cX0_giveBack 19 = .ok (.iaload, 1) := by decide +kernel
theorem dX0_giveBack_20 : decode cX0_giveBack 20 = .ok (.i2l, 1) := by decide +kernel
theorem dX0_giveBack_21 : decode cX0_giveBack 21 = .ok (.ldc2_w 57, 3) := by decide +kernel
theorem dX0_giveBack_24 : decode cX0_giveBack 24 = .ok (.land, 1) := by decide +kernel
theorem dX0_giveBack_25 : decode cX0_giveBack 25 = .ok (.aload_n 0, 1) := by decide +kernel
theorem dX0_giveBack_26 : decode cX0_giveBack 26 = .ok (.getfield 25, 3) := by decide +kernel
theorem dX0_giveBack_29 : decode cX0_giveBack 29 = .ok (.iload 5, 2) := by decide +kernel
theorem dX0_giveBack_31 : decode cX0_giveBack 31 = .ok (.iaload, 1) := by decide +kernel
theorem dX0_giveBack_32 : decode cX0_giveBack 32 = .ok (.i2l, 1) := by decide +kernel
theorem dX0_giveBack_33 : decode cX0_giveBack 33 = .ok (.ldc2_w 57, 3) := by decide +kernel
theorem dX0_giveBack_36 : decode cX0_giveBack 36 = .ok (.land, 1) := by decide +kernel
theorem dX0_giveBack_37 : decode cX0_giveBack 37 = .ok (.ladd, 1) := by decide +kernel
theorem dX0_giveBack_38 : decode cX0_giveBack 38 = .ok (.lload_n 3, 1) := by decide +kernel
theorem dX0_giveBack_39 : decode cX0_giveBack 39 = .ok (.ladd, 1) := by decide +kernel
theorem dX0_giveBack_40 : decode cX0_giveBack 40 = .ok (.lstore 6, 2) := by decide +kernel
theorem dX0_giveBack_42 : decode cX0_giveBack 42 = .ok (.aload_n 0, 1) := by decide +kernel
theorem dX0_giveBack_43 : decode cX0_giveBack 43 = .ok (.getfield 21, 3) := by decide +kernel
theorem dX0_giveBack_46 : decode cX0_giveBack 46 = .ok (.iload_n 1, 1) := by decide +kernel
theorem dX0_giveBack_47 : decode cX0_giveBack 47 = .ok (.iload 5, 2) := by decide +kernel
theorem dX0_giveBack_49 : decode cX0_giveBack 49 = .ok (.iadd, 1) := by decide +kernel
theorem dX0_giveBack_50 : decode cX0_giveBack 50 = .ok (.lload 6, 2) := by decide +kernel
theorem dX0_giveBack_52 : decode cX0_giveBack 52 = .ok (.l2i, 1) := by decide +kernel
theorem dX0_giveBack_53 : decode cX0_giveBack 53 = .ok (.iastore, 1) := by decide +kernel
theorem dX0_giveBack_54 : decode cX0_giveBack 54 = .ok (.lload 6, 2) := by decide +kernel
theorem dX0_giveBack_56 : decode cX0_giveBack 56 = .ok (.bipush 32, 2) := by decide +kernel
theorem dX0_giveBack_58 : decode cX0_giveBack 58 = .ok (.lushr, 1) := by decide +kernel
theorem dX0_giveBack_59 : decode cX0_giveBack 59 = .ok (.lstore_n 3, 1) := by decide +kernel
theorem dX0_giveBack_60 : decode cX0_giveBack 60 = .ok (.iinc 5 1, 3) := by decide +kernel
theorem dX0_giveBack_63 : decode cX0_giveBack 63 = .ok (.goto (-58), 3) := by decide +kernel
theorem dX0_giveBack_66 : decode cX0_giveBack 66 = .ok (.return_, 1) := by decide +kernel
theorem dX0_isAbove_0 : decode cX0_isAbove 0 = .ok (.lload_n 0, 1) := by decide +kernel
theorem dX0_isAbove_1 : decode cX0_isAbove 1 = .ok (.ldc2_w 101, 3) := by decide +kernel
theorem dX0_isAbove_4 : decode cX0_isAbove 4 = .ok (.lxor, 1) := by decide +kernel
theorem dX0_isAbove_5 : decode cX0_isAbove 5 = .ok (.lload_n 2, 1) := by decide +kernel
theorem dX0_isAbove_6 : decode cX0_isAbove 6 = .ok (.ldc2_w 101, 3) := by decide +kernel
theorem dX0_isAbove_9 : decode cX0_isAbove 9 = .ok (.lxor, 1) := by decide +kernel
theorem dX0_isAbove_10 : decode cX0_isAbove 10 = .ok (.lcmp, 1) := by decide +kernel
theorem dX0_isAbove_11 : decode cX0_isAbove 11 = .ok (.ifCond .le 7, 3) := by decide +kernel
theorem dX0_isAbove_14 : decode cX0_isAbove 14 = .ok (.iconst 1, 1) := by decide +kernel
theorem dX0_isAbove_15 : decode cX0_isAbove 15 = .ok (.goto 4, 3) := by decide +kernel
theorem dX0_isAbove_18 : decode cX0_isAbove 18 = .ok (.iconst 0, 1) := by decide +kernel
theorem dX0_isAbove_19 : decode cX0_isAbove 19 = .ok (.ireturn, 1) := by decide +kernel
theorem dX0_divideUnsigned_0 : decode cX0_divideUnsigned 0 = .ok (.lload_n 2, 1) := by decide +kernel
theorem dX0_divideUnsigned_1 : decode cX0_divideUnsigned 1 = .ok (.lconst 0, 1) := by decide +kernel
theorem dX0_divideUnsigned_2 : decode cX0_divideUnsigned 2 = .ok (.lcmp, 1) := by decide +kernel
theorem dX0_divideUnsigned_3 : decode cX0_divideUnsigned 3 = .ok (.ifCond .gt 5, 3) := by decide +kernel
theorem dX0_divideUnsigned_6 : decode cX0_divideUnsigned 6 = .ok (.lconst 0, 1) := by decide +kernel
theorem dX0_divideUnsigned_7 : decode cX0_divideUnsigned 7 = .ok (.lreturn, 1) := by decide +kernel
theorem dX0_divideUnsigned_8 : decode cX0_divideUnsigned 8 = .ok (.lload_n 0, 1) := by decide +kernel
theorem dX0_divideUnsigned_9 : decode cX0_divideUnsigned 9 = .ok (.iconst 1, 1) := by decide +kernel
theorem dX0_divideUnsigned_10 : decode cX0_divideUnsigned 10 = .ok (.lushr, 1) := by decide +kernel
theorem dX0_divideUnsigned_11 : decode cX0_divideUnsigned 11 = .ok (.lload_n 2, 1) := by decide +kernel
theorem dX0_divideUnsigned_12 : decode cX0_divideUnsigned 12 = .ok (.ldiv, 1) := by decide +kernel
theorem dX0_divideUnsigned_13 : decode cX0_divideUnsigned 13 = .ok (.iconst 1, 1) := by decide +kernel
theorem dX0_divideUnsigned_14 : decode cX0_divideUnsigned 14 = .ok (.lshl, 1) := by decide +kernel
theorem dX0_divideUnsigned_15 : decode cX0_divideUnsigned 15 = .ok (.lstore 4, 2) := by decide +kernel
theorem dX0_divideUnsigned_17 : decode cX0_divideUnsigned 17 = .ok (.lload_n 0, 1) := by decide +kernel
theorem dX0_divideUnsigned_18 : decode cX0_divideUnsigned 18 = .ok (.lload 4, 2) := by decide +kernel
theorem dX0_divideUnsigned_20 : decode cX0_divideUnsigned 20 = .ok (.lload_n 2, 1) := by decide +kernel
theorem dX0_divideUnsigned_21 : decode cX0_divideUnsigned 21 = .ok (.lmul, 1) := by decide +kernel
theorem dX0_divideUnsigned_22 : decode cX0_divideUnsigned 22 = .ok (.lsub, 1) := by decide +kernel
theorem dX0_divideUnsigned_23 : decode cX0_divideUnsigned 23 = .ok (.lload_n 2, 1) := by decide +kernel
theorem dX0_divideUnsigned_24 : decode cX0_divideUnsigned 24 = .ok (.lcmp, 1) := by decide +kernel
theorem dX0_divideUnsigned_25 : decode cX0_divideUnsigned 25 = .ok (.ifCond .lt 10, 3) := by decide +kernel
theorem dX0_divideUnsigned_28 : decode cX0_divideUnsigned 28 = .ok (.lload 4, 2) := by decide +kernel
theorem dX0_divideUnsigned_30 : decode cX0_divideUnsigned 30 = .ok (.lconst 1, 1) := by decide +kernel
theorem dX0_divideUnsigned_31 : decode cX0_divideUnsigned 31 = .ok (.ladd, 1) := by decide +kernel
theorem dX0_divideUnsigned_32 : decode cX0_divideUnsigned 32 = .ok (.goto 5, 3) := by decide +kernel
theorem dX0_divideUnsigned_35 : decode cX0_divideUnsigned 35 = .ok (.lload 4, 2) := by decide +kernel
theorem dX0_divideUnsigned_37 : decode cX0_divideUnsigned 37 = .ok (.lreturn, 1) := by decide +kernel
