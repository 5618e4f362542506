set_option maxRecDepth 20000 in
theorem ggX1_init_X1_roomForHalves : GoodIn wsX1_init wsX1_roomForHalves := goodIn_r _ [14] rfl (by decide +kernel)
set_option maxRecDepth 20000 in
theorem gX1_init_X1_roomForHalves : GoodIn wsX1_init (va_wsS RX1 25 yX1_roomForHalves wsX1_roomForHalves) := goodIn_app (goodIn_of _ (by decide +kernel)) ggX1_init_X1_roomForHalves
theorem dX1_init_0 : decode cX1_init 0 = .ok (.aload_n 0, 1) := by decide +kernel
theorem dX1_init_1 : decode cX1_init 1 = .ok (.invokespecial 1, 3) := by decide +kernel
theorem dX1_init_4 : decode cX1_init 4 = .ok (.aload_n 0, 1) := by decide +kernel
theorem dX1_init_5 : decode cX1_init 5 = .ok (.iload_n 2, 1) := by decide +kernel
theorem dX1_init_6 : decode cX1_init 6 = .ok (.putfield 7, 3) := by decide +kernel
theorem dX1_init_9 : decode cX1_init 9 = .ok (.aload_n 0, 1) := by decide +kernel
theorem dX1_init_10 : decode cX1_init 10 = .ok (.iconst 0, 1) := by decide +kernel
theorem dX1_init_11 : decode cX1_init 11 = .ok (.putfield 13, 3) := by decide +kernel
theorem dX1_init_14 : decode cX1_init 14 = .ok (.aload_n 0, 1) := by decide +kernel
theorem dX1_init_15 : decode cX1_init 15 = .ok (.iload_n 1, 1) := by decide +kernel
theorem dX1_init_16 : decode cX1_init 16 = .ok (.putfield 16, 3) := by decide +kernel
theorem dX1_init_19 : decode cX1_init 19 = .ok (.aload_n 0, 1) := by decide +kernel
theorem dX1_init_20 : decode cX1_init 20 = .ok (.iconst 2, 1) := by decide +kernel
theorem dX1_init_21 : decode cX1_init 21 = .ok (.iload_n 1, 1) := by decide +kernel
theorem dX1_init_22 : decode cX1_init 22 = .ok (.imul, 1) := by decide +kernel
theorem dX1_init_23 : decode cX1_init 23 = .ok (.putfield 19, 3) := by decide +kernel
theorem dX1_init_26 : decode cX1_init 26 = .ok (.aload_n 0, 1) := by decide +kernel
theorem dX1_init_27 : decode cX1_init 27 = .ok (.iconst 4, 1) := by decide +kernel
theorem dX1_init_28 : decode cX1_init 28 = .ok (.iload_n 1, 1) := by decide +kernel
theorem dX1_init_29 : decode cX1_init 29 = .ok (.imul, 1) := by decide +kernel
theorem dX1_init_30 : decode cX1_init 30 = .ok (.putfield 22, 3) := by decide +kernel
theorem dX1_init_33 : decode cX1_init 33 = .ok (.aload_n 0, 1) := by decide +kernel
theorem dX1_init_34 : decode cX1_init 34 = .ok (.aload_n 0, 1) := by decide +kernel
theorem dX1_init_35 : decode cX1_init 35 = .ok (.getfield 22, 3) := by decide +kernel
theorem dX1_init_38 : decode cX1_init 38 = .ok (.iload_n 1, 1) := by decide +kernel
theorem dX1_init_39 : decode cX1_init 39 = .ok (.invokestatic 25, 3) := by decide +kernel
theorem dX1_init_42 : decode cX1_init 42 = .ok (.iadd, 1) := by decide +kernel
theorem dX1_init_43 : decode cX1_init 43 = .ok (.newarray .int, 2) := by decide +kernel
theorem dX1_init_45 : decode cX1_init 45 = .ok (.putfield 29, 3) := by decide +kernel
theorem dX1_init_48 : decode cX1_init 48 = .ok (.return_, 1) := by decide +kernel
theorem dX1_roomForHalves_0 : decode cX1_roomForHalves 0 = .ok (.iconst 0, 1) := by decide +kernel
theorem dX1_roomForHalves_1 : decode cX1_roomForHalves 1 = .ok (.istore_n 1, 1) := by decide +kernel
theorem dX1_roomForHalves_2 : decode cX1_roomForHalves 2 = .ok (.iload_n 0, 1) := by decide +kernel
theorem dX1_roomForHalves_3 : decode cX1_roomForHalves 3 = .ok (.istore_n 2, 1) := by decide +kernel
theorem dX1_roomForHalves_4 : decode cX1_roomForHalves 4 = .ok (.iconst 0, 1) := by decide +kernel
theorem dX1_roomForHalves_5 : decode cX1_roomForHalves 5 = .ok (.istore_n 3, 1) := by decide +kernel
theorem dX1_roomForHalves_6 : decode cX1_roomForHalves 6 = .ok (.iload_n 3, 1) := by decide +kernel
theorem dX1_roomForHalves_7 : decode cX1_roomForHalves 7 = .ok (.bipush 8, 2) := by decide +kernel
theorem dX1_roomForHalves_9 : decode cX1_roomForHalves 9 = .ok (.if_icmp .ge 23, 3) := by decide +kernel
theorem dX1_roomForHalves_12 : decode cX1_roomForHalves 12 = .ok (.iload_n 2, 1) := by decide +kernel
theorem dX1_roomForHalves_13 : decode cX1_roomForHalves 13 = .ok (.iconst 1, 1) := by decide +kernel
theorem dX1_roomForHalves_14 : decode cX1_roomForHalves 14 = .ok (.iadd, 1) := by decide +kernel
theorem dX1_roomForHalves_15 : decode cX1_roomForHalves 15 = .ok (.iconst 2, 1) := by decide +kernel
theorem dX1_roomForHalves_16 : decode cX1_roomForHalves 16 = .ok (.idiv, 1) := by decide +kernel
theorem dX1_roomForHalves_17 : decode cX1_roomForHalves 17 = .ok (.iconst 1, 1) := by decide +kernel
theorem dX1_roomForHalves_18 : decode cX1_roomForHalves 18 = .ok (.iadd, 1) := by decide +kernel
theorem dX1_roomForHalves_19 : decode cX1_roomForHalves 19 = .ok (.istore_n 2, 1) := by decide +kernel
theorem dX1_roomForHalves_20 : decode cX1_roomForHalves 20 = .ok (.iload_n 1, 1) := by decide +kernel
theorem dX1_roomForHalves_21 : decode cX1_roomForHalves 21 = .ok (.iconst 4, 1) := by decide +kernel
theorem dX1_roomForHalves_22 : decode cX1_roomForHalves 22 = .ok (.iload_n 2, 1) := by decide +kernel
theorem dX1_roomForHalves_23 : decode cX1_roomForHalves 23 = .ok (.imul, 1) := by decide +kernel
theorem dX1_roomForHalves_24 : decode cX1_roomForHalves 24 = .ok (.iadd, 1) := by decide +kernel
theorem dX1_roomForHalves_25 : decode cX1_roomForHalves 25 = .ok (.istore_n 1, 1) := by decide +kernel
theorem dX1_roomForHalves_26 : decode cX1_roomForHalves 26 = .ok (.iinc 3 1, 3) := by decide +kernel
theorem dX1_roomForHalves_29 : decode cX1_roomForHalves 29 = .ok (.goto (-23), 3) := by decide +kernel
theorem dX1_roomForHalves_32 : decode cX1_roomForHalves 32 = .ok (.iload_n 1, 1) := by decide +kernel
theorem dX1_roomForHalves_33 : decode cX1_roomForHalves 33 = .ok (.ireturn, 1) := by decide +kernel
set_option maxRecDepth 20000 in
theorem ggX1_product_X1_multiply : GoodIn wsX1_product wsX1_multiply := goodIn_r _ [17, 18, 19, 20, 21, 16, 22, 23, 24, 25, 3, 26, 27, 28, 29, 30, 31, 32, 33, 34, 35, 36, 37, 38, 13, 14, 15, 39, 40, 41, 42, 5, 6, 7, 8, 43, 44, 45, 46, 47, 48, 49, 50, 62, 63, 64, 65, 66, 67] rfl (by decide +kernel)
set_option maxRecDepth 20000 in
theorem gX1_product_X1_multiply : GoodIn wsX1_product (wsV RX1 47 RX1 yX1_multiply wsX1_multiply) := goodIn_app (goodIn_of _ (by decide +kernel)) ggX1_product_X1_multiply
set_option maxRecDepth 20000 in
theorem ggX1_product_X4_settle : GoodIn wsX1_product wsX4_settle := goodIn_r _ [55, 56, 57, 58, 59, 60, 61] rfl (by decide +kernel)
set_option maxRecDepth 20000 in
theorem gX1_product_X4_settle : GoodIn wsX1_product (wsV RX1 55 RX4 yX4_settle wsX4_settle) := goodIn_app (goodIn_of _ (by decide +kernel)) ggX1_product_X4_settle
theorem dX1_product_0 : decode cX1_product 0 = .ok (.aload_n 2, 1) := by decide +kernel
theorem dX1_product_1 : decode cX1_product 1 = .ok (.getfield 33, 3) := by decide +kernel
theorem dX1_product_4 : decode cX1_product 4 = .ok (.aload_n 3, 1) := by decide +kernel
theorem dX1_product_5 : decode cX1_product 5 = .ok (.getfield 33, 3) := by decide +kernel
theorem dX1_product_8 : decode cX1_product 8 = .ok (.if_icmp .lt 7, 3) := by decide +kernel
theorem dX1_product_11 : decode cX1_product 11 = .ok (.aload_n 2, 1) := by decide +kernel
theorem dX1_product_12 : decode cX1_product 12 = .ok (.goto 4, 3) := by decide +kernel
theorem dX1_product_15 : decode cX1_product 15 = .ok (.aload_n 3, 1) := by decide +kernel
theorem dX1_product_16 : decode cX1_product 16 = .ok (.astore 4, 2) := by decide +kernel
theorem dX1_product_18 : decode cX1_product 18 = .ok (.aload_n 2, 1) := by decide +kernel
theorem dX1_product_19 : decode cX1_product 19 = .ok (.getfield 33, 3) := by decide +kernel
theorem dX1_product_22 : decode cX1_product 22 = .ok (.aload_n 3, 1) := by decide +kernel
theorem dX1_product_23 : decode cX1_product 23 = .ok (.getfield 33, 3) := by decide +kernel
theorem dX1_product_26 : decode cX1_product 26 = .ok (.if_icmp .lt 7, 3) := by decide +kernel
theorem dX1_product_29 : decode cX1_product 29 = .ok (.aload_n 3, 1) := by decide +kernel
theorem dX1_product_30 : decode cX1_product 30 = .ok (.goto 4, 3) := by decide +kernel
theorem dX1_product_33 : decode cX1_product 33 = .ok (.aload_n 2, 1) := by decide +kernel
theorem dX1_product_34 : decode cX1_product 34 = .ok (.astore 5, 2) := by decide +kernel
theorem dX1_product_36 : decode cX1_product 36 = .ok (.aload 4, 2) := by decide +kernel
theorem dX1_product_38 : decode cX1_product 38 = .ok (.getfield 38, 3) := by decide +kernel
theorem dX1_product_41 : decode cX1_product 41 = .ok (.iconst 0, 1) := by decide +kernel
theorem dX1_product_42 : decode cX1_product 42 = .ok (.aload_n 0, 1) := by decide +kernel
theorem dX1_product_43 : decode cX1_product 43 = .ok (.getfield 29, 3) := by decide +kernel
theorem dX1_product_46 : decode cX1_product 46 = .ok (.aload_n 0, 1) := by decide +kernel
theorem dX1_product_47 : decode cX1_product 47 = .ok (.getfield 13, 3) := by decide +kernel
theorem dX1_product_50 : decode cX1_product 50 = .ok (.aload 4, 2) := by decide +kernel
theorem dX1_product_52 : decode cX1_product 52 = .ok (.getfield 33, 3) := by decide +kernel
theorem dX1_product_55 : decode cX1_product 55 = .ok (.invokestatic 41, 3) := by decide +kernel
theorem dX1_product_58 : decode cX1_product 58 = .ok (.aload 5, 2) := by decide +kernel
theorem dX1_product_60 : decode cX1_product 60 = .ok (.getfield 38, 3) := by decide +kernel
theorem dX1_product_63 : decode cX1_product 63 = .ok (.iconst 0, 1) := by decide +kernel
theorem dX1_product_64 : decode cX1_product 64 = .ok (.aload_n 0, 1) := by decide +kernel
theorem dX1_product_65 : decode cX1_product 65 = .ok (.getfield 29, 3) := by decide +kernel
theorem dX1_product_68 : decode cX1_product 68 = .ok (.aload_n 0, 1) := by decide +kernel
theorem dX1_product_69 : decode cX1_product 69 = .ok (.getfield 16, 3) := by decide +kernel
theorem dX1_product_72 : decode cX1_product 72 = .ok (.aload 5, 2) := by decide +kernel
theorem dX1_product_74 : decode cX1_product 74 = .ok (.getfield 33, 3) := by decide +kernel
theorem dX1_product_77 : decode cX1_product 77 = .ok (.invokestatic 41, 3) := by decide +kernel
theorem dX1_product_80 : decode cX1_product 80 = .ok (.aload_n 0, 1) := by decide +kernel
theorem dX1_product_81 : decode cX1_product 81 = .ok (.aload_n 0, 1) := by decide +kernel
theorem dX1_product_82 : decode cX1_product 82 = .ok (.getfield 13, 3) := by decide +kernel
theorem dX1_product_85 : decode cX1_product 85 = .ok (.aload 4, 2) := by decide +kernel
theorem dX1_product_87 : decode cX1_product 87 = .ok (.getfield 33, 3) := by decide +kernel
theorem dX1_product_90 : decode cX1_product 90 = .ok (.aload_n 0, 1) := by decide +kernel
theorem dX1_product_91 : decode cX1_product 91 = .ok (.getfield 16, 3) := by decide +kernel
theorem dX1_product_94 : decode cX1_product 94 = .ok (.aload 5, 2) := by decide +kernel
theorem dX1_product_96 : decode cX1_product 96 = .ok (.getfield 33, 3) := by decide +kernel
theorem dX1_product_99 : decode cX1_product 99 = .ok (.aload_n 0, 1) := by decide +kernel
theorem dX1_product_100 : decode cX1_product 100 = .ok (.getfield 19, 3) := by decide +kernel
theorem dX1_product_103 : decode cX1_product 103 = .ok (.aload_n 0, 1) := by decide +kernel
theorem dX1_product_104 : decode cX1_product 104 = .ok (.getfield 22, 3) := by decide +kernel
theorem dX1_product_107 : decode cX1_product 107 = .ok (.bipush 8, 2) := by decide +kernel
theorem dX1_product_109 : decode cX1_product 109 = .ok (.invokevirtual 47, 3) := by decide +kernel
theorem dX1_product_112 : decode cX1_product 112 = .ok (.aload 4, 2) := by decide +kernel
theorem dX1_product_114 : decode cX1_product 114 = .ok (.getfield 33, 3) := by decide +kernel
theorem dX1_product_117 : decode cX1_product 117 = .ok (.aload 5, 2) := by decide +kernel
theorem dX1_product_119 : decode cX1_product 119 = .ok (.getfield 33, 3) := by decide +kernel
theorem dX1_product_122 : decode cX1_product 122 = .ok (.iadd, 1) := by decide +kernel
theorem dX1_product_123 : decode cX1_product 123 = .ok (.istore 6, 2) := by decide +kernel
theorem dX1_product_125 : decode cX1_product 125 = .ok (.aload_n 0, 1) := by decide +kernel
theorem dX1_product_126 : decode cX1_product 126 = .ok (.getfield 29, 3) := by decide +kernel
theorem dX1_product_129 : decode cX1_product 129 = .ok (.aload_n 0, 1) := by decide +kernel
theorem dX1_product_130 : decode cX1_product 130 = .ok (.getfield 19, 3) := by decide +kernel
theorem dX1_product_133 : decode cX1_product 133 = .ok (.aload_n 1, 1) := by decide +kernel
theorem dX1_product_134 : decode cX1_product 134 = .ok (.getfield 38, 3) := by decide +kernel
theorem dX1_product_137 : decode cX1_product 137 = .ok (.iconst 0, 1) := by decide +kernel
theorem dX1_product_138 : decode cX1_product 138 = .ok (.iload 6, 2) := by decide +kernel
theorem dX1_product_140 : decode cX1_product 140 = .ok (.invokestatic 41, 3) := by decide +kernel
theorem dX1_product_143 : decode cX1_product 143 = .ok (.aload_n 1, 1) := by decide +kernel
theorem dX1_product_144 : decode cX1_product 144 = .ok (.iload 6, 2) := by decide +kernel
theorem dX1_product_146 : decode cX1_product 146 = .ok (.aload_n 2, 1) := by decide +kernel
theorem dX1_product_147 : decode cX1_product 147 = .ok (.getfield 51, 3) := by decide +kernel
theorem dX1_product_150 : decode cX1_product 150 = .ok (.aload_n 3, 1) := by decide +kernel
theorem dX1_product_151 : decode cX1_product 151 = .ok (.getfield 51, 3) := by decide +kernel
theorem dX1_product_154 : decode cX1_product 154 = .ok (.if_icmp .eq 7, 3) := by decide +kernel
theorem dX1_product_157 : decode cX1_product 157 = .ok (.iconst 1, 1) := by decide +kernel
theorem dX1_product_158 : decode cX1_product 158 = .ok (.goto 4, 3) := by decide +kernel
theorem dX1_product_161 : decode cX1_product 161 = .ok (.iconst 0, 1) := by decide +kernel
theorem dX1_product_162 : decode cX1_product 162 = .ok (.invokevirtual 55, 3) := by decide +kernel
theorem dX1_product_165 : decode cX1_product 165 = .ok (.return_, 1) := by decide +kernel
set_option maxRecDepth 20000 in
theorem ggX1_multiply_X1_multiplyByThree : GoodIn wsX1_multiply wsX1_multiplyByThree := goodIn_r _ [19, 20, 21, 22, 23, 24, 25, 26, 5, 27, 28, 29, 30, 10, 31, 32, 33, 34, 35, 36, 37, 38, 11, 39, 40, 41, 42, 0, 1, 2, 3, 4, 6, 7, 8, 9, 12, 13, 14, 15, 16, 17, 18, 43, 44, 45, 46, 47, 48] rfl (by decide +kernel)
set_option maxRecDepth 20000 in
theorem gX1_multiply_X1_multiplyByThree : GoodIn wsX1_multiply (wsV RX1 59 RX1 yX1_multiplyByThree wsX1_multiplyByThree) := goodIn_app (goodIn_of _ (by decide +kernel)) ggX1_multiply_X1_multiplyByThree
set_option maxRecDepth 20000 in
theorem ggX1_multiply_X1_multiplyLong : GoodIn wsX1_multiply wsX1_multiplyLong := goodIn_r _ [9, 10, 11, 12, 13, 14, 15, 16, 17, 18, 43, 44, 45, 46, 47, 48] rfl (by decide +kernel)
set_option maxRecDepth 20000 in
theorem gX1_multiply_X1_multiplyLong : GoodIn wsX1_multiply (wsV RX1 62 RX1 yX1_multiplyLong wsX1_multiplyLong) := goodIn_app (goodIn_of _ (by decide +kernel)) ggX1_multiply_X1_multiplyLong
theorem dX1_multiply_0 : decode cX1_multiply 0 = .ok (.iload 4, 2) := by decide +kernel
theorem dX1_multiply_2 : decode cX1_multiply 2 = .ok (.iload_n 2, 1) := by decide +kernel
theorem dX1_multiply_3 : decode cX1_multiply 3 = .ok (.iconst 1, 1) := by decide +kernel
theorem dX1_multiply_4 : decode cX1_multiply 4 = .ok (.iadd, 1) := by decide +kernel
theorem dX1_multiply_5 : decode cX1_multiply 5 = .ok (.iconst 2, 1) := by decide +kernel
theorem dX1_multiply_6 : decode cX1_multiply 6 = .ok (.idiv, 1) := by decide +kernel
theorem dX1_multiply_7 : decode cX1_multiply 7 = .ok (.if_icmp .le 7, 3) := by decide +kernel
theorem dX1_multiply_10 : decode cX1_multiply 10 = .ok (.iconst 1, 1) := by decide +kernel
theorem dX1_multiply_11 : decode cX1_multiply 11 = .ok (.goto 4, 3) := by decide +kernel
theorem dX1_multiply_14 : decode cX1_multiply 14 = .ok (.iconst 0, 1) := by decide +kernel
theorem dX1_multiply_15 : decode cX1_multiply 15 = .ok (.istore 8, 2) := by decide +kernel
theorem dX1_multiply_17 : decode cX1_multiply 17 = .ok (.iload 7, 2) := by decide +kernel
theorem dX1_multiply_19 : decode cX1_multiply 19 = .ok (.ifCond .le 35, 3) := by decide +kernel
theorem dX1_multiply_22 : decode cX1_multiply 22 = .ok (.iload 4, 2) := by decide +kernel
theorem dX1_multiply_24 : decode cX1_multiply 24 = .ok (.aload_n 0, 1) := by decide +kernel
theorem dX1_multiply_25 : decode cX1_multiply 25 = .ok (.getfield 7, 3) := by decide +kernel
theorem dX1_multiply_28 : decode cX1_multiply 28 = .ok (.if_icmp .lt 26, 3) := by decide +kernel
theorem dX1_multiply_31 : decode cX1_multiply 31 = .ok (.iload 8, 2) := by decide +kernel
theorem dX1_multiply_33 : decode cX1_multiply 33 = .ok (.ifCond .eq 21, 3) := by decide +kernel
theorem dX1_multiply_36 : decode cX1_multiply 36 = .ok (.aload_n 0, 1) := by decide +kernel
theorem dX1_multiply_37 : decode cX1_multiply 37 = .ok (.iload_n 1, 1) := by decide +kernel
theorem dX1_multiply_38 : decode cX1_multiply 38 = .ok (.iload_n 2, 1) := by decide +kernel
theorem dX1_multiply_39 : decode cX1_multiply 39 = .ok (.iload_n 3, 1) := by decide +kernel
theorem dX1_multiply_40 : decode cX1_multiply 40 = .ok (.iload 4, 2) := by decide +kernel
theorem dX1_multiply_42 : decode cX1_multiply 42 = .ok (.iload 5, 2) := by decide +kernel
theorem dX1_multiply_44 : decode cX1_multiply 44 = .ok (.iload 6, 2) := by decide +kernel
theorem dX1_multiply_46 : decode cX1_multiply 46 = .ok (.iload 7, 2) := by decide +kernel
theorem dX1_multiply_48 : decode cX1_multiply 48 = .ok (.invokevirtual 59, 3) := by decide +kernel
theorem dX1_multiply_51 : decode cX1_multiply 51 = .ok (.goto 14, 3) := by decide +kernel
theorem dX1_multiply_54 : decode cX1_multiply 54 = .ok (.aload_n 0, 1) := by decide +kernel
theorem dX1_multiply_55 : decode cX1_multiply 55 = .ok (.iload_n 1, 1) := by decide +kernel
theorem dX1_multiply_56 : decode cX1_multiply 56 = .ok (.iload_n 2, 1) := by decide +kernel
theorem dX1_multiply_57 : decode cX1_multiply 57 = .ok (.iload_n 3, 1) := by decide +kernel
theorem dX1_multiply_58 : decode cX1_multiply 58 = .ok (.iload 4, 2) := by decide +kernel
theorem dX1_multiply_60 : decode cX1_multiply 60 = .ok (.iload 5, 2) := by decide +kernel
theorem dX1_multiply_62 : decode cX1_multiply 62 = .ok (.invokevirtual 62, 3) := by decide +kernel
theorem dX1_multiply_65 : decode cX1_multiply 65 = .ok (.return_, 1) := by decide +kernel
set_option maxRecDepth 20000 in
theorem ggX1_multiplyLong_J7_fill_fda19 : GoodIn wsX1_multiplyLong wsJ7_fill_fda19 := goodIn_r _ [6, 7, 8, 5, 9] rfl (by decide +kernel)
set_option maxRecDepth 20000 in
theorem gX1_multiplyLong_J7_fill_fda19 : GoodIn wsX1_multiplyLong (va_wsS RX1 66 yJ7_fill_fda19 wsJ7_fill_fda19) := goodIn_app (goodIn_of _ (by decide +kernel)) ggX1_multiplyLong_J7_fill_fda19
theorem dX1_multiplyLong_0 : decode cX1_multiplyLong 0 = .ok (.aload_n 0, 1) := by decide +kernel
theorem dX1_multiplyLong_1 : decode cX1_multiplyLong 1 = .ok (.getfield 29, 3) := by decide +kernel
theorem dX1_multiplyLong_4 : decode cX1_multiplyLong 4 = .ok (.iload 5, 2) := by decide +kernel
theorem dX1_multiplyLong_6 : decode cX1_multiplyLong 6 = .ok (.iload 5, 2) := by decide +kernel
theorem dX1_multiplyLong_8 : decode cX1_multiplyLong 8 = .ok (.iload_n 2, 1) := by decide +kernel
theorem dX1_multiplyLong_9 : decode cX1_multiplyLong 9 = .ok (.iadd, 1) := by decide +kernel
theorem dX1_multiplyLong_10 : decode cX1_multiplyLong 10 = .ok (.iload 4, 2) := by decide +kernel
theorem dX1_multiplyLong_12 : decode cX1_multiplyLong 12 = .ok (.iadd, 1) := by decide +kernel
theorem dX1_multiplyLong_13 : decode cX1_multiplyLong 13 = .ok (.iconst 0, 1) := by decide +kernel
theorem dX1_multiplyLong_14 : decode cX1_multiplyLong 14 = .ok (.invokestatic 66, 3) := by decide +kernel
theorem dX1_multiplyLong_17 : decode cX1_multiplyLong 17 = .ok (.iconst 0, 1) := by decide +kernel
theorem dX1_multiplyLong_18 : decode cX1_multiplyLong 18 = .ok (.istore 6, 2) := by decide +kernel
theorem dX1_multiplyLong_20 : decode cX1_multiplyLong 20 = .ok (.iload 6, 2) := by decide +kernel
theorem dX1_multiplyLong_22 : decode cX1_multiplyLong 22 = .ok (.iload 4, 2) := by decide +kernel
theorem dX1_multiplyLong_24 : decode cX1_multiplyLong 24 = .ok (.if_icmp .ge 122, 3) := by decide +kernel
theorem dX1_multiplyLong_27 : decode cX1_multiplyLong 27 = .ok (.aload_n 0, 1) := by decide +kernel
theorem dX1_multiplyLong_28 : decode cX1_multiplyLong 28 = .ok (.getfield 29, 3) := by decide +kernel
theorem dX1_multiplyLong_31 : decode cX1_multiplyLong 31 = .ok (.iload_n 3, 1) := by decide +kernel
theorem dX1_multiplyLong_32 : decode cX1_multiplyLong 32 = .ok (.iload 6, 2) := by decide +kernel
theorem dX1_multiplyLong_34 : decode cX1_multiplyLong 34 = .ok (.iadd, 1) := by decide +kernel
theorem dX1_multiplyLong_35 : decode cX1_multiplyLong 35 = .ok (.iaload, 1) := by decide +kernel
theorem dX1_multiplyLong_36 : decode cX1_multiplyLong 36 = .ok (.i2l, 1) := by decide +kernel
theorem dX1_multiplyLong_37 : decode cX1_multiplyLong 37 = .ok (.ldc2_w 72, 3) := by decide +kernel
theorem dX1_multiplyLong_40 : decode cX1_multiplyLong 40 = .ok (.land, 1) := by decide +kernel
theorem dX1_multiplyLong_41 : decode cX1_multiplyLong 41 = .ok (.lstore 7, 2) := by decide +kernel
theorem dX1_multiplyLong_43 : decode cX1_multiplyLong 43 = .ok (.lconst 0, 1) := by decide +kernel
theorem dX1_multiplyLong_44 : decode cX1_multiplyLong 44 = .ok (.lstore 9, 2) := by decide +kernel
theorem dX1_multiplyLong_46 : decode cX1_multiplyLong 46 = .ok (.iconst 0, 1) := by decide +kernel
theorem dX1_multiplyLong_47 : decode cX1_multiplyLong 47 = .ok (.istore 11, 2) := by decide +kernel
theorem dX1_multiplyLong_49 : decode cX1_multiplyLong 49 = .ok (.iload 11, 2) := by decide +kernel
theorem dX1_multiplyLong_51 : decode cX1_multiplyLong 51 = .ok (.iload_n 2, 1) := by decide +kernel
theorem dX1_multiplyLong_52 : decode cX1_multiplyLong 52 = .ok (.if_icmp .ge 73, 3) := by decide +kernel
theorem dX1_multiplyLong_55 : decode cX1_multiplyLong 55 = .ok (.aload_n 0, 1) := by decide +kernel
theorem dX1_multiplyLong_56 : decode cX1_multiplyLong 56 = .ok (.getfield 29, 3) := by decide +kernel
theorem dX1_multiplyLong_59 : decode cX1_multiplyLong 59 = .ok (.iload_n 1, 1) := by decide +kernel
theorem dX1_multiplyLong_60 : decode cX1_multiplyLong 60 = .ok (.iload 11, 2) := by decide +kernel
theorem dX1_multiplyLong_62 : decode cX1_multiplyLong 62 = .ok (.iadd, 1) := by decide +kernel
theorem dX1_multiplyLong_63 : decode cX1_multiplyLong 63 = .ok (.iaload, 1) := by decide +kernel
theorem dX1_multiplyLong_64 : decode cX1_multiplyLong 64 = .ok (.i2l, 1) := by decide +kernel
theorem dX1_multiplyLong_65 : decode cX1_multiplyLong 65 = .ok (.ldc2_w 72, 3) := by decide +kernel
theorem dX1_multiplyLong_68 : decode cX1_multiplyLong 68 = .ok (.land, 1) := by decide +kernel
theorem dX1_multiplyLong_69 : decode cX1_multiplyLong 69 = .ok (.lload 7, 2) := by decide +kernel
theorem dX1_multiplyLong_71 : decode cX1_multiplyLong 71 = .ok (.lmul, 1) := by decide +kernel
theorem dX1_multiplyLong_72 : decode cX1_multiplyLong 72 = .ok (.aload_n 0, 1) := by decide +kernel
theorem dX1_multiplyLong_73 : decode cX1_multiplyLong 73 = .ok (.getfield 29, 3) := by decide +kernel
theorem dX1_multiplyLong_76 : decode cX1_multiplyLong 76 = .ok (.iload 5, 2) := by decide +kernel
theorem dX1_multiplyLong_78 : decode cX1_multiplyLong 78 = .ok (.iload 11, 2) := by decide +kernel
theorem dX1_multiplyLong_80 : decode cX1_multiplyLong 80 = .ok (.iadd, 1) := by decide +kernel
theorem dX1_multiplyLong_81 : decode cX1_multiplyLong 81 = .ok (.iload 6, 2) := by decide +kernel
theorem dX1_multiplyLong_83 : decode cX1_multiplyLong 83 = .ok (.iadd, 1) := by decide +kernel
theorem dX1_multiplyLong_84 : decode cX1_multiplyLong 84 = .ok (.iaload, 1) := by decide +kernel
theorem dX1_multiplyLong_85 : decode cX1_multiplyLong 85 = .ok (.i2l, 1) := by decide +kernel
theorem dX1_multiplyLong_86 : decode cX1_multiplyLong 86 = .ok (.ldc2_w 72, 3) := by decide +kernel
theorem dX1_multiplyLong_89 : decode cX1_multiplyLong 89 = .ok (.land, 1) := by decide +kernel
theorem dX1_multiplyLong_90 : decode cX1_multiplyLong 90 = .ok (.ladd, 1) := by decide +kernel
theorem dX1_multiplyLong_91 : decode cX1_multiplyLong 91 = .ok (.lload 9, 2) := by decide +kernel
theorem dX1_multiplyLong_93 : decode cX1_multiplyLong 93 = .ok (.ladd, 1) := by decide +kernel
theorem dX1_multiplyLong_94 : decode cX1_multiplyLong 94 = .ok (.lstore 12, 2) := by decide +kernel
theorem dX1_multiplyLong_96 : decode cX1_multiplyLong 96 = .ok (.aload_n 0, 1) := by decide +kernel
theorem dX1_multiplyLong_97 : decode cX1_multiplyLong 97 = .ok (.getfield 29, 3) := by decide +kernel
theorem dX1_multiplyLong_100 : decode cX1_multiplyLong 100 = .ok (.iload 5, 2) := by decide +kernel
theorem dX1_multiplyLong_102 : decode cX1_multiplyLong 102 = .ok (.iload 11, 2) := by decide +kernel
theorem dX1_multiplyLong_104 : decode cX1_multiplyLong 104 = .ok (.iadd, 1) := by decide +kernel
theorem dX1_multiplyLong_105 : decode cX1_multiplyLong 105 = .ok (.iload 6, 2) := by decide +kernel
theorem dX1_multiplyLong_107 : decode cX1_multiplyLong 107 = .ok (.iadd, 1) := by decide +kernel
theorem dX1_multiplyLong_108 : decode cX1_multiplyLong 108 = .ok (.lload 12, 2) := by decide +kernel
theorem dX1_multiplyLong_110 : decode cX1_multiplyLong 110 = .ok (.l2i, 1) := by decide +kernel
theorem dX1_multiplyLong_111 : decode cX1_multiplyLong 111 = .ok (.iastore, 1) := by decide +kernel
theorem dX1_multiplyLong_112 : decode cX1_multiplyLong 112 = .ok (.lload 12, 2) := by decide +kernel
theorem dX1_multiplyLong_114 : decode cX1_multiplyLong 114 = .ok (.bipush 32, 2) := by decide +kernel
theorem dX1_multiplyLong_116 : decode cX1_multiplyLong 116 = .ok (.lushr, 1) := by decide +kernel
theorem dX1_multiplyLong_117 : decode cX1_multiplyLong 117 = .ok (.lstore 9, 2) := by decide +kernel
theorem dX1_multiplyLong_119 : decode cX1_multiplyLong 119 = .ok (.iinc 11 1, 3) := by decide +kernel
theorem dX1_multiplyLong_122 : decode cX1_multiplyLong 122 = .ok (.goto (-73), 3) := by decide +kernel
theorem dX1_multiplyLong_125 : decode cX1_multiplyLong 125 = .ok (.aload_n 0, 1) := by decide +kernel
theorem dX1_multiplyLong_126 : decode cX1_multiplyLong 126 = .ok (.getfield 29, 3) := by decide +kernel
theorem dX1_multiplyLong_129 : decode cX1_multiplyLong 129 = .ok (.iload 5, 2) := by decide +kernel
theorem dX1_multiplyLong_131 : decode cX1_multiplyLong 131 = .ok (.iload_n 2, 1) := by decide +kernel
theorem dX1_multiplyLong_132 : decode cX1_multiplyLong 132 = .ok (.iadd, 1) := by decide +kernel
theorem dX1_multiplyLong_133 : decode cX1_multiplyLong 133 = .ok (.iload 6, 2) := by decide +kernel
theorem dX1_multiplyLong_135 : decode cX1_multiplyLong 135 = .ok (.iadd, 1) := by decide +kernel
theorem dX1_multiplyLong_136 : decode cX1_multiplyLong 136 = .ok (.lload 9, 2) := by decide +kernel
theorem dX1_multiplyLong_138 : decode cX1_multiplyLong 138 = .ok (.l2i, 1) := by decide +kernel
theorem dX1_multiplyLong_139 : decode cX1_multiplyLong 139 = .ok (.iastore, 1) := by decide +kernel
theorem dX1_multiplyLong_140 : decode cX1_multiplyLong 140 = .ok (.iinc 6 1, 3) := by decide +kernel
theorem dX1_multiplyLong_143 : decode cX1_multiplyLong 143 = .ok (.goto (-123), 3) := by decide +kernel
theorem dX1_multiplyLong_146 : decode cX1_multiplyLong 146 = .ok (.return_, 1) := by decide +kernel
set_option maxRecDepth 20000 in
theorem ggX1_multiplyByThree_X1_multiply : GoodIn wsX1_multiplyByThree wsX1_multiply := goodIn_r _ [27, 28, 29, 30, 31, 8, 32, 33, 34, 35, 13, 22, 36, 37, 38, 39, 40, 41, 42, 0, 1, 2, 3, 4, 5, 6, 7, 9, 10, 11, 12, 14, 15, 16, 17, 18, 19, 20, 21, 23, 24, 25, 26, 43, 44, 45, 46, 47, 48] rfl (by decide +kernel)
set_option maxRecDepth 20000 in
theorem gX1_multiplyByThree_X1_multiply : GoodIn wsX1_multiplyByThree (wsV RX1 47 RX1 yX1_multiply wsX1_multiply) := goodIn_app (goodIn_of _ (by decide +kernel)) ggX1_multiplyByThree_X1_multiply
set_option maxRecDepth 20000 in
theorem ggX1_multiplyByThree_X1_sumHalves : GoodIn wsX1_multiplyByThree wsX1_sumHalves := goodIn_r _ [12, 13, 14, 15, 16, 17, 18, 19, 20, 8, 21, 22, 43, 44, 45, 46, 47, 48] rfl (by decide +kernel)
set_option maxRecDepth 20000 in
theorem gX1_multiplyByThree_X1_sumHalves : GoodIn wsX1_multiplyByThree (wsV RX1 74 RX1 yX1_sumHalves wsX1_sumHalves) := goodIn_app (goodIn_of _ (by decide +kernel)) ggX1_multiplyByThree_X1_sumHalves
set_option maxRecDepth 20000 in
theorem ggX1_multiplyByThree_X1_subtractAt : GoodIn wsX1_multiplyByThree wsX1_subtractAt := goodIn_r _ [26, 13, 22, 43, 44, 45, 46, 47, 48] rfl (by decide +kernel)
set_option maxRecDepth 20000 in
theorem gX1_multiplyByThree_X1_subtractAt : GoodIn wsX1_multiplyByThree (wsV RX1 78 RX1 yX1_subtractAt wsX1_subtractAt) := goodIn_app (goodIn_of _ (by decide +kernel)) ggX1_multiplyByThree_X1_subtractAt
set_option maxRecDepth 20000 in
theorem ggX1_multiplyByThree_X1_addAt : GoodIn wsX1_multiplyByThree wsX1_addAt := goodIn_r _ [21, 13, 22, 43, 44, 45, 46, 47, 48] rfl (by decide +kernel)
set_option maxRecDepth 20000 in
theorem gX1_multiplyByThree_X1_addAt : GoodIn wsX1_multiplyByThree (wsV RX1 87 RX1 yX1_addAt wsX1_addAt) := goodIn_app (goodIn_of _ (by decide +kernel)) ggX1_multiplyByThree_X1_addAt
theorem dX1_multiplyByThree_0 : decode cX1_multiplyByThree 0 = .ok (.iload_n 2, 1) := by decide +kernel
theorem dX1_multiplyByThree_1 : decode cX1_multiplyByThree 1 = .ok (.iconst 1, 1) := by decide +kernel
theorem dX1_multiplyByThree_2 : decode cX1_multiplyByThree 2 = .ok (.iadd, 1) := by decide +kernel
theorem dX1_multiplyByThree_3 : decode cX1_multiplyByThree 3 = .ok (.iconst 2, 1) := by decide +kernel
theorem dX1_multiplyByThree_4 : decode cX1_multiplyByThree 4 = .ok (.idiv, 1) := by decide +kernel
theorem dX1_multiplyByThree_5 : decode cX1_multiplyByThree 5 = .ok (.istore 8, 2) := by decide +kernel
theorem dX1_multiplyByThree_7 : decode cX1_multiplyByThree 7 = .ok (.iload 8, 2) := by decide +kernel
theorem dX1_multiplyByThree_9 : decode cX1_multiplyByThree 9 = .ok (.iconst 1, 1) := by decide +kernel
theorem dX1_multiplyByThree_10 : decode cX1_multiplyByThree 10 = .ok (.iadd, 1) := by decide +kernel
theorem dX1_multiplyByThree_11 : decode cX1_multiplyByThree 11 = .ok (.istore 9, 2) := by decide +kernel
theorem dX1_multiplyByThree_13 : decode cX1_multiplyByThree 13 = .ok (.iload 5, 2) := by decide +kernel
theorem dX1_multiplyByThree_15 : decode cX1_multiplyByThree 15 = .ok (.iconst 2, 1) := by decide +kernel
theorem dX1_multiplyByThree_16 : decode cX1_multiplyByThree 16 = .ok (.iload 8, 2) := by decide +kernel
theorem dX1_multiplyByThree_18 : decode cX1_multiplyByThree 18 = .ok (.imul, 1) := by decide +kernel
theorem dX1_multiplyByThree_19 : decode cX1_multiplyByThree 19 = .ok (.iadd, 1) := by decide +kernel
theorem dX1_multiplyByThree_20 : decode cX1_multiplyByThree 20 = .ok (.istore 10, 2) := by decide +kernel
theorem dX1_multiplyByThree_22 : decode cX1_multiplyByThree 22 = .ok (.iload_n 2, 1) := by decide +kernel
theorem dX1_multiplyByThree_23 : decode cX1_multiplyByThree 23 = .ok (.iload 4, 2) := by decide +kernel
theorem dX1_multiplyByThree_25 : decode cX1_multiplyByThree 25 = .ok (.iadd, 1) := by decide +kernel
theorem dX1_multiplyByThree_26 : decode cX1_multiplyByThree 26 = .ok (.iconst 2, 1) := by decide +kernel
theorem dX1_multiplyByThree_27 : decode cX1_multiplyByThree 27 = .ok (.iload 8, 2) := by decide +kernel
theorem dX1_multiplyByThree_29 : decode cX1_multiplyByThree 29 = .ok (.imul, 1) := by decide +kernel
theorem dX1_multiplyByThree_30 : decode cX1_multiplyByThree 30 = .ok (.isub, 1) := by decide +kernel
theorem dX1_multiplyByThree_31 : decode cX1_multiplyByThree 31 = .ok (.istore 11, 2) := by decide +kernel
theorem dX1_multiplyByThree_33 : decode cX1_multiplyByThree 33 = .ok (.iload 6, 2) := by decide +kernel
theorem dX1_multiplyByThree_35 : decode cX1_multiplyByThree 35 = .ok (.iload 9, 2) := by decide +kernel
theorem dX1_multiplyByThree_37 : decode cX1_multiplyByThree 37 = .ok (.iadd, 1) := by decide +kernel
theorem dX1_multiplyByThree_38 : decode cX1_multiplyByThree 38 = .ok (.istore 12, 2) := by decide +kernel
theorem dX1_multiplyByThree_40 : decode cX1_multiplyByThree 40 = .ok (.iload 6, 2) := by decide +kernel
theorem dX1_multiplyByThree_42 : decode cX1_multiplyByThree 42 = .ok (.iconst 2, 1) := by decide +kernel
theorem dX1_multiplyByThree_43 : decode cX1_multiplyByThree 43 = .ok (.iload 9, 2) := by decide +kernel
theorem dX1_multiplyByThree_45 : decode cX1_multiplyByThree 45 = .ok (.imul, 1) := by decide +kernel
theorem dX1_multiplyByThree_46 : decode cX1_multiplyByThree 46 = .ok (.iadd, 1) := by decide +kernel
theorem dX1_multiplyByThree_47 : decode cX1_multiplyByThree 47 = .ok (.istore 13, 2) := by decide +kernel
theorem dX1_multiplyByThree_49 : decode cX1_multiplyByThree 49 = .ok (.aload_n 0, 1) := by decide +kernel
theorem dX1_multiplyByThree_50 : decode cX1_multiplyByThree 50 = .ok (.iload_n 1, 1) := by decide +kernel
theorem dX1_multiplyByThree_51 : decode cX1_multiplyByThree 51 = .ok (.iload 8, 2) := by decide +kernel
theorem dX1_multiplyByThree_53 : decode cX1_multiplyByThree 53 = .ok (.iload_n 3, 1) := by decide +kernel
theorem dX1_multiplyByThree_54 : decode cX1_multiplyByThree 54 = .ok (.iload 8, 2) := by decide +kernel
theorem dX1_multiplyByThree_56 : decode cX1_multiplyByThree 56 = .ok (.iload 5, 2) := by decide +kernel
theorem dX1_multiplyByThree_58 : decode cX1_multiplyByThree 58 = .ok (.iload 6, 2) := by decide +kernel
theorem dX1_multiplyByThree_60 : decode cX1_multiplyByThree 60 = .ok (.iload 7, 2) := by decide +kernel
theorem dX1_multiplyByThree_62 : decode cX1_multiplyByThree 62 = .ok (.iconst 1, 1) := by decide +kernel
theorem dX1_multiplyByThree_63 : decode cX1_multiplyByThree 63 = .ok (.isub, 1) := by decide +kernel
theorem dX1_multiplyByThree_64 : decode cX1_multiplyByThree 64 = .ok (.invokevirtual 47, 3) := by decide +kernel
theorem dX1_multiplyByThree_67 : decode cX1_multiplyByThree 67 = .ok (.aload_n 0, 1) := by decide +kernel
theorem dX1_multiplyByThree_68 : decode cX1_multiplyByThree 68 = .ok (.iload_n 1, 1) := by decide +kernel
theorem dX1_multiplyByThree_69 : decode cX1_multiplyByThree 69 = .ok (.iload 8, 2) := by decide +kernel
theorem dX1_multiplyByThree_71 : decode cX1_multiplyByThree 71 = .ok (.iadd, 1) := by decide +kernel
theorem dX1_multiplyByThree_72 : decode cX1_multiplyByThree 72 = .ok (.iload_n 2, 1) := by decide +kernel
theorem dX1_multiplyByThree_73 : decode cX1_multiplyByThree 73 = .ok (.iload 8, 2) := by decide +kernel
theorem dX1_multiplyByThree_75 : decode cX1_multiplyByThree 75 = .ok (.isub, 1) := by decide +kernel
theorem dX1_multiplyByThree_76 : decode cX1_multiplyByThree 76 = .ok (.iload_n 3, 1) := by decide +kernel
theorem dX1_multiplyByThree_77 : decode cX1_multiplyByThree 77 = .ok (.iload 8, 2) := by decide +kernel
theorem dX1_multiplyByThree_79 : decode cX1_multiplyByThree 79 = .ok (.iadd, 1) := by decide +kernel
theorem dX1_multiplyByThree_80 : decode cX1_multiplyByThree 80 = .ok (.iload 4, 2) := by decide +kernel
theorem dX1_multiplyByThree_82 : decode cX1_multiplyByThree 82 = .ok (.iload 8, 2) := by decide +kernel
theorem dX1_multiplyByThree_84 : decode cX1_multiplyByThree 84 = .ok (.isub, 1) := by decide +kernel
theorem dX1_multiplyByThree_85 : decode cX1_multiplyByThree 85 = .ok (.iload 10, 2) := by decide +kernel
theorem dX1_multiplyByThree_87 : decode cX1_multiplyByThree 87 = .ok (.iload 6, 2) := by decide +kernel
theorem dX1_multiplyByThree_89 : decode cX1_multiplyByThree 89 = .ok (.iload 7, 2) := by decide +kernel
theorem dX1_multiplyByThree_91 : decode cX1_multiplyByThree 91 = .ok (.iconst 1, 1) := by decide +kernel
theorem dX1_multiplyByThree_92 : decode cX1_multiplyByThree 92 = .ok (.isub, 1) := by decide +kernel
theorem dX1_multiplyByThree_93 : decode cX1_multiplyByThree 93 = .ok (.invokevirtual 47, 3) := by decide +kernel
theorem dX1_multiplyByThree_96 : decode cX1_multiplyByThree 96 = .ok (.aload_n 0, 1) := by decide +kernel
theorem dX1_multiplyByThree_97 : decode cX1_multiplyByThree 97 = .ok (.iload_n 1, 1) := by decide +kernel
theorem dX1_multiplyByThree_98 : decode cX1_multiplyByThree 98 = .ok (.iload_n 2, 1) := by decide +kernel
theorem dX1_multiplyByThree_99 : decode cX1_multiplyByThree 99 = .ok (.iload 8, 2) := by decide +kernel
theorem dX1_multiplyByThree_101 : decode cX1_multiplyByThree 101 = .ok (.iload 6, 2) := by decide +kernel
theorem dX1_multiplyByThree_103 : decode cX1_multiplyByThree 103 = .ok (.invokevirtual 74, 3) := by decide +kernel
theorem dX1_multiplyByThree_106 : decode cX1_multiplyByThree 106 = .ok (.aload_n 0, 1) := by decide +kernel
theorem dX1_multiplyByThree_107 : decode cX1_multiplyByThree 107 = .ok (.iload_n 3, 1) := by decide +kernel
theorem dX1_multiplyByThree_108 : decode cX1_multiplyByThree 108 = .ok (.iload 4, 2) := by decide +kernel
theorem dX1_multiplyByThree_110 : decode cX1_multiplyByThree 110 = .ok (.iload 8, 2) := by decide +kernel
theorem dX1_multiplyByThree_112 : decode cX1_multiplyByThree 112 = .ok (.iload 12, 2) := by decide +kernel
theorem dX1_multiplyByThree_114 : decode cX1_multiplyByThree 114 = .ok (.invokevirtual 74, 3) := by decide +kernel
theorem dX1_multiplyByThree_117 : decode cX1_multiplyByThree 117 = .ok (.aload_n 0, 1) := by decide +kernel
theorem dX1_multiplyByThree_118 : decode cX1_multiplyByThree 118 = .ok (.iload 6, 2) := by decide +kernel
theorem dX1_multiplyByThree_120 : decode cX1_multiplyByThree 120 = .ok (.iload 9, 2) := by decide +kernel
theorem dX1_multiplyByThree_122 : decode cX1_multiplyByThree 122 = .ok (.iload 12, 2) := by decide +kernel
theorem dX1_multiplyByThree_124 : decode cX1_multiplyByThree 124 = .ok (.iload 9, 2) := by decide +kernel
theorem dX1_multiplyByThree_126 : decode cX1_multiplyByThree 126 = .ok (.iload 13, 2) := by decide +kernel
theorem dX1_multiplyByThree_128 : decode cX1_multiplyByThree 128 = .ok (.iload 6, 2) := by decide +kernel
theorem dX1_multiplyByThree_130 : decode cX1_multiplyByThree 130 = .ok (.iconst 4, 1) := by decide +kernel
theorem dX1_multiplyByThree_131 : decode cX1_multiplyByThree 131 = .ok (.iload 9, 2) := by decide +kernel
theorem dX1_multiplyByThree_133 : decode cX1_multiplyByThree 133 = .ok (.imul, 1) := by decide +kernel
theorem dX1_multiplyByThree_134 : decode cX1_multiplyByThree 134 = .ok (.iadd, 1) := by decide +kernel
theorem dX1_multiplyByThree_135 : decode cX1_multiplyByThree 135 = .ok (.iload 7, 2) := by decide +kernel
theorem dX1_multiplyByThree_137 : decode cX1_multiplyByThree 137 = .ok (.iconst 1, 1) := by decide +kernel
theorem dX1_multiplyByThree_138 : decode cX1_multiplyByThree 138 = .ok (.isub, 1) := by decide +kernel
theorem dX1_multiplyByThree_139 : decode cX1_multiplyByThree 139 = .ok (.invokevirtual 47, 3) := by decide +kernel
theorem dX1_multiplyByThree_142 : decode cX1_multiplyByThree 142 = .ok (.aload_n 0, 1) := by decide +kernel
theorem dX1_multiplyByThree_143 : decode cX1_multiplyByThree 143 = .ok (.iload 13, 2) := by decide +kernel
theorem dX1_multiplyByThree_145 : decode cX1_multiplyByThree 145 = .ok (.iconst 2, 1) := by decide +kernel
theorem dX1_multiplyByThree_146 : decode cX1_multiplyByThree 146 = .ok (.iload 9, 2) := by decide +kernel
theorem dX1_multiplyByThree_148 : decode cX1_multiplyByThree 148 = .ok (.imul, 1) := by decide +kernel
theorem dX1_multiplyByThree_149 : decode cX1_multiplyByThree 149 = .ok (.iload 5, 2) := by decide +kernel
theorem dX1_multiplyByThree_151 : decode cX1_multiplyByThree 151 = .ok (.iconst 2, 1) := by decide +kernel
theorem dX1_multiplyByThree_152 : decode cX1_multiplyByThree 152 = .ok (.iload 8, 2) := by decide +kernel
theorem dX1_multiplyByThree_154 : decode cX1_multiplyByThree 154 = .ok (.imul, 1) := by decide +kernel
theorem dX1_multiplyByThree_155 : decode cX1_multiplyByThree 155 = .ok (.invokevirtual 78, 3) := by decide +kernel
theorem dX1_multiplyByThree_158 : decode cX1_multiplyByThree 158 = .ok (.aload_n 0, 1) := by decide +kernel
theorem dX1_multiplyByThree_159 : decode cX1_multiplyByThree 159 = .ok (.iload 13, 2) := by decide +kernel
theorem dX1_multiplyByThree_161 : decode cX1_multiplyByThree 161 = .ok (.iconst 2, 1) := by decide +kernel
theorem dX1_multiplyByThree_162 : decode cX1_multiplyByThree 162 = .ok (.iload 9, 2) := by decide +kernel
theorem dX1_multiplyByThree_164 : decode cX1_multiplyByThree 164 = .ok (.imul, 1) := by decide +kernel
theorem dX1_multiplyByThree_165 : decode cX1_multiplyByThree 165 = .ok (.iload 10, 2) := by decide +kernel
theorem dX1_multiplyByThree_167 : decode cX1_multiplyByThree 167 = .ok (.iload 11, 2) := by decide +kernel
theorem dX1_multiplyByThree_169 : decode cX1_multiplyByThree 169 = .ok (.invokevirtual 78, 3) := by decide +kernel
theorem dX1_multiplyByThree_172 : decode cX1_multiplyByThree 172 = .ok (.iload 11, 2) := by decide +kernel
theorem dX1_multiplyByThree_174 : decode cX1_multiplyByThree 174 = .ok (.iload 8, 2) := by decide +kernel
theorem dX1_multiplyByThree_176 : decode cX1_multiplyByThree 176 = .ok (.iadd, 1) := by decide +kernel
theorem dX1_multiplyByThree_177 : decode cX1_multiplyByThree 177 = .ok (.istore 14, 2) := by decide +kernel
theorem dX1_multiplyByThree_179 : decode cX1_multiplyByThree 179 = .ok (.aload_n 0, 1) := by decide +kernel
theorem dX1_multiplyByThree_180 : decode cX1_multiplyByThree 180 = .ok (.iload 5, 2) := by decide +kernel
theorem dX1_multiplyByThree_182 : decode cX1_multiplyByThree 182 = .ok (.iload 8, 2) := by decide +kernel
theorem dX1_multiplyByThree_184 : decode cX1_multiplyByThree 184 = .ok (.iadd, 1) := by decide +kernel
theorem dX1_multiplyByThree_185 : decode cX1_multiplyByThree 185 = .ok (.iload 14, 2) := by decide +kernel
theorem dX1_multiplyByThree_187 : decode cX1_multiplyByThree 187 = .ok (.iload 13, 2) := by decide +kernel
theorem dX1_multiplyByThree_189 : decode cX1_multiplyByThree 189 = .ok (.iconst 2, 1) := by decide +kernel
theorem dX1_multiplyByThree_190 : decode cX1_multiplyByThree 190 = .ok (.iload 9, 2) := by decide +kernel
theorem dX1_multiplyByThree_192 : decode cX1_multiplyByThree 192 = .ok (.imul, 1) := by decide +kernel
theorem dX1_multiplyByThree_193 : decode cX1_multiplyByThree 193 = .ok (.iload 14, 2) := by decide +kernel
theorem dX1_multiplyByThree_195 : decode cX1_multiplyByThree 195 = .ok (.invokestatic 81, 3) := by decide +kernel
theorem dX1_multiplyByThree_198 : decode cX1_multiplyByThree 198 = .ok (.invokevirtual 87, 3) := by decide +kernel
theorem dX1_multiplyByThree_201 : decode cX1_multiplyByThree 201 = .ok (.return_, 1) := by decide +kernel
set_option maxRecDepth 20000 in
theorem ggX1_sumHalves_X1_addAt : GoodIn wsX1_sumHalves wsX1_addAt := goodIn_r _ [10, 1, 11, 12, 13, 14, 15, 16, 17] rfl (by decide +kernel)
set_option maxRecDepth 20000 in
theorem gX1_sumHalves_X1_addAt : GoodIn wsX1_sumHalves (wsV RX1 87 RX1 yX1_addAt wsX1_addAt) := goodIn_app (goodIn_of _ (by decide +kernel)) ggX1_sumHalves_X1_addAt
theorem dX1_sumHalves_0 : decode cX1_sumHalves 0 = .ok (.aload_n 0, 1) := by decide +kernel
theorem dX1_sumHalves_1 : decode cX1_sumHalves 1 = .ok (.getfield 29, 3) := by decide +kernel
theorem dX1_sumHalves_4 : decode cX1_sumHalves 4 = .ok (.iload_n 1, 1) := by decide +kernel
theorem dX1_sumHalves_5 : decode cX1_sumHalves 5 = .ok (.aload_n 0, 1) := by decide +kernel
theorem dX1_sumHalves_6 : decode cX1_sumHalves 6 = .ok (.getfield 29, 3) := by decide +kernel
theorem dX1_sumHalves_9 : decode cX1_sumHalves 9 = .ok (.iload 4, 2) := by decide +kernel
theorem dX1_sumHalves_11 : decode cX1_sumHalves 11 = .ok (.iload_n 3, 1) := by decide +kernel
theorem dX1_sumHalves_12 : decode cX1_sumHalves 12 = .ok (.invokestatic 41, 3) := by decide +kernel
theorem dX1_sumHalves_15 : decode cX1_sumHalves 15 = .ok (.aload_n 0, 1) := by decide +kernel
theorem dX1_sumHalves_16 : decode cX1_sumHalves 16 = .ok (.getfield 29, 3) := by decide +kernel
theorem dX1_sumHalves_19 : decode cX1_sumHalves 19 = .ok (.iload 4, 2) := by decide +kernel
theorem dX1_sumHalves_21 : decode cX1_sumHalves 21 = .ok (.iload_n 3, 1) := by decide +kernel
theorem dX1_sumHalves_22 : decode cX1_sumHalves 22 = .ok (.iadd, 1) := by decide +kernel
theorem dX1_sumHalves_23 : decode cX1_sumHalves 23 = .ok (.iconst 0, 1) := by decide +kernel
theorem dX1_sumHalves_24 : decode cX1_sumHalves 24 = .ok (.iastore, 1) := by decide +kernel
theorem dX1_sumHalves_25 : decode cX1_sumHalves 25 = .ok (.aload_n 0, 1) := by decide +kernel
theorem dX1_sumHalves_26 : decode cX1_sumHalves 26 = .ok (.iload 4, 2) := by decide +kernel
theorem dX1_sumHalves_28 : decode cX1_sumHalves 28 = .ok (.iload_n 3, 1) := by decide +kernel
theorem dX1_sumHalves_29 : decode cX1_sumHalves 29 = .ok (.iconst 1, 1) := by decide +kernel
theorem dX1_sumHalves_30 : decode cX1_sumHalves 30 = .ok (.iadd, 1) := by decide +kernel
theorem dX1_sumHalves_31 : decode cX1_sumHalves 31 = .ok (.iload_n 1, 1) := by decide +kernel
theorem dX1_sumHalves_32 : decode cX1_sumHalves 32 = .ok (.iload_n 3, 1) := by decide +kernel
theorem dX1_sumHalves_33 : decode cX1_sumHalves 33 = .ok (.iadd, 1) := by decide +kernel
theorem dX1_sumHalves_34 : decode cX1_sumHalves 34 = .ok (.iload_n 2, 1) := by decide +kernel
theorem dX1_sumHalves_35 : decode cX1_sumHalves 35 = .ok (.iload_n 3, 1) := by decide +kernel
theorem dX1_sumHalves_36 : decode cX1_sumHalves 36 = .ok (.isub, 1) := by decide +kernel
theorem dX1_sumHalves_37 : decode cX1_sumHalves 37 = .ok (.invokevirtual 87, 3) := by decide +kernel
theorem dX1_sumHalves_40 : decode cX1_sumHalves 40 = .ok (.return_, 1) := by decide +kernel
theorem dX1_addAt_0 : decode cX1_addAt 0 = .ok (.lconst 0, 1) := by decide +kernel
theorem dX1_addAt_1 : decode cX1_addAt 1 = .ok (.lstore 5, 2) := by decide +kernel
theorem dX1_addAt_3 : decode cX1_addAt 3 = .ok (.iconst 0, 1) := by decide +kernel
theorem dX1_addAt_4 : decode cX1_addAt 4 = .ok (.istore 7, 2) := by decide +kernel
theorem dX1_addAt_6 : decode cX1_addAt 6 = .ok (.iload 7, 2) := by decide +kernel
theorem dX1_addAt_8 : decode cX1_addAt 8 = .ok (.iload 4, 2) := by decide +kernel
theorem dX1_addAt_10 : decode cX1_addAt 10 = .ok (.if_icmp .ge 62, 3) := by decide +kernel
theorem dX1_addAt_13 : decode cX1_addAt 13 = .ok (.aload_n 0, 1) := by decide +kernel
theorem dX1_addAt_14 : decode cX1_addAt 14 = .ok (.getfield 29, 3) := by decide +kernel
theorem dX1_addAt_17 : decode cX1_addAt 17 = .ok (.iload_n 1, 1) := by decide +kernel
theorem dX1_addAt_18 : decode cX1_addAt 18 = .ok (.iload 7, 2) := by decide +kernel
theorem dX1_addAt_20 : decode cX1_addAt 20 = .ok (.iadd, 1) := by decide +kernel
theorem dX1_addAt_21 : decode cX1_addAt 21 = .ok (.iaload, 1) := by decide +kernel
theorem dX1_addAt_22 : decode cX1_addAt 22 = .ok (.i2l, 1) := by decide +kernel
theorem dX1_addAt_23 : decode cX1_addAt 23 = .ok (.ldc2_w 72, 3) := by decide +kernel
theorem dX1_addAt_26 : decode cX1_addAt 26 = .ok (.land, 1) := by decide +kernel
theorem dX1_addAt_27 : decode cX1_addAt 27 = .ok (.aload_n 0, 1) := by decide +kernel
theorem dX1_addAt_28 : decode cX1_addAt 28 = .ok (.getfield 29, 3) := by decide +kernel
theorem dX1_addAt_31 : decode cX1_addAt 31 = .ok (.iload_n 3, 1) := by decide +kernel
theorem dX1_addAt_32 : decode cX1_addAt 32 = .ok (.iload 7, 2) := by decide +kernel
theorem dX1_addAt_34 : decode cX1_addAt 34 = .ok (.iadd, 1) := by decide +kernel
theorem dX1_addAt_35 : decode cX1_addAt 35 = .ok (.iaload, 1) := by decide +kernel
theorem dX1_addAt_36 : decode cX1_addAt 36 = .ok (.i2l, 1) := by decide +kernel
theorem dX1_addAt_37 : decode cX1_addAt 37 = .ok (.ldc2_w 72, 3) := by decide +kernel
theorem dX1_addAt_40 : decode cX1_addAt 40 = .ok (.land, 1) := by decide +kernel
theorem dX1_addAt_41 : decode cX1_addAt 41 = .ok (.ladd, 1) := by decide +kernel
theorem dX1_addAt_42 : decode cX1_addAt 42 = .ok (.lload 5, 2) := by decide +kernel
theorem dX1_addAt_44 : decode cX1_addAt 44 = .ok (.ladd, 1) := by decide +kernel
theorem dX1_addAt_45 : decode cX1_addAt 45 = .ok (.lstore 8, 2) := by decide +kernel
theorem dX1_addAt_47 : decode cX1_addAt 47 = .ok (.aload_n 0, 1) := by decide +kernel
theorem dX1_addAt_48 : decode cX1_addAt 48 = .ok (.getfield 29, 3) := by decide +kernel
theorem dX1_addAt_51 : decode cX1_addAt 51 = .ok (.iload_n 1, 1) := by decide +kernel
theorem dX1_addAt_52 : decode cX1_addAt 52 = .ok (.iload 7, 2) := by decide +kernel
theorem dX1_addAt_54 : decode cX1_addAt 54 = .ok (.iadd, 1) := by decide +kernel
theorem dX1_addAt_55 : decode cX1_addAt 55 = .ok (.lload 8, 2) := by decide +kernel
theorem dX1_addAt_57 : decode cX1_addAt 57 = .ok (.l2i, 1) := by decide +kernel
theorem dX1_addAt_58 : decode cX1_addAt 58 = .ok (.iastore, 1) := by decide +kernel
theorem dX1_addAt_59 : decode cX1_addAt 59 = .ok (.lload 8, 2) := by decide +kernel
theorem dX1_addAt_61 : decode cX1_addAt 61 = .ok (.bipush 32, 2) := by decide +kernel
theorem dX1_addAt_63 : decode cX1_addAt 63 = .ok (.lushr, 1) := by decide +kernel
theorem dX1_addAt_64 : decode cX1_addAt 64 = .ok (.lstore 5, 2) := by decide +kernel
theorem dX1_addAt_66 : decode cX1_addAt 66 = .ok (.iinc 7 1, 3) := by decide +kernel
theorem dX1_addAt_69 : decode cX1_addAt 69 = .ok (.goto (-63), 3) := by decide +kernel
theorem dX1_addAt_72 : decode cX1_addAt 72 = .ok (.iload 4, 2) := by decide +kernel
theorem dX1_addAt_74 : decode cX1_addAt 74 = .ok (.istore 7, 2) := by decide +kernel
theorem dX1_addAt_76 : decode cX1_addAt 76 = .ok (.iload 7, 2) := by decide +kernel
theorem dX1_addAt_78 : decode cX1_addAt 78 = .ok (.iload_n 2, 1) := by decide +kernel
theorem dX1_addAt_79 : decode cX1_addAt 79 = .ok (.if_icmp .ge 48, 3) := by decide +kernel
theorem dX1_addAt_82 : decode cX1_addAt 82 = .ok (.lload 5, 2) := by decide +kernel
theorem dX1_addAt_84 : decode cX1_addAt 84 = .ok (.lconst 0, 1) := by decide +kernel
theorem dX1_addAt_85 : decode cX1_addAt 85 = .ok (.lcmp, 1) := by decide +kernel
theorem dX1_addAt_86 : decode cX1_addAt 86 = .ok (.ifCond .eq 41, 3) := by decide +kernel
theorem dX1_addAt_89 : decode cX1_addAt 89 = .ok (.aload_n 0, 1) := by decide +kernel
theorem dX1_addAt_90 : decode cX1_addAt 90 = .ok (.getfield 29, 3) := by decide +kernel
theorem dX1_addAt_93 : decode cX1_addAt 93 = .ok (.iload_n 1, 1) := by decide +kernel
theorem dX1_addAt_94 : decode cX1_addAt 94 = .ok (.iload 7, 2) := by decide +kernel
theorem dX1_addAt_96 : decode cX1_addAt 96 = .ok (.iadd, 1) := by decide +kernel
theorem dX1_addAt_97 : decode cX1_addAt 97 = .ok (.dup2, 1) := by decide +kernel
theorem dX1_addAt_98 : decode cX1_addAt 98 = .ok (.iaload, 1) := by decide +kernel
theorem dX1_addAt_99 : decode cX1_addAt 99 = .ok (.iconst 1, 1) := by decide +kernel
theorem dX1_addAt_100 : decode cX1_addAt 100 = .ok (.iadd, 1) := by decide +kernel
theorem dX1_addAt_101 : decode cX1_addAt 101 = .ok (.iastore, 1) := by decide +kernel
theorem dX1_addAt_102 : decode cX1_addAt 102 = .ok (.aload_n 0, 1) := by decide +kernel
theorem dX1_addAt_103 : decode cX1_addAt 103 = .ok (.getfield 29, 3) := by decide +kernel
theorem dX1_addAt_106 : decode cX1_addAt 106 = .ok (.iload_n 1, 1) := by decide +kernel
theorem dX1_addAt_107 : decode cX1_addAt 107 = .ok (.iload 7, 2) := by decide +kernel
theorem dX1_addAt_109 : decode cX1_addAt 109 = .ok (.iadd, 1) := by decide +kernel
theorem dX1_addAt_110 : decode cX1_addAt 110 = .ok (.iaload, 1) := by decide +kernel
theorem dX1_addAt_111 : decode cX1_addAt 111 = .ok (.ifCond .ne 7, 3) := by decide +kernel
theorem dX1_addAt_114 : decode cX1_addAt 114 = .ok (.lconst 1, 1) := by decide +kernel
theorem dX1_addAt_115 : decode cX1_addAt 115 = .ok (.goto 4, 3) := by decide +kernel
theorem dX1_addAt_118 : decode cX1_addAt 118 = .ok (.lconst 0, 1) := by decide +kernel
theorem dX1_addAt_119 : decode cX1_addAt 119 = .ok (.lstore 5, 2) := by decide +kernel
theorem dX1_addAt_121 : decode cX1_addAt 121 = .ok (.iinc 7 1, 3) := by decide +kernel
theorem dX1_addAt_124 : decode cX1_addAt 124 = .ok (.goto (-48), 3) := by decide +kernel
theorem dX1_addAt_127 : decode cX1_addAt 127 = .ok (.return_, 1) := by decide +kernel
theorem dX1_subtractAt_0 : decode cX1_subtractAt 0 = .ok (.lconst 0, 1) := by decide +kernel
theorem dX1_subtractAt_1 : decode cX1_subtractAt 1 = .ok (.lstore 5, 2) := by decide +kernel
theorem dX1_subtractAt_3 : decode cX1_subtractAt 3 = .ok (.iconst 0, 1) := by decide +kernel
theorem dX1_subtractAt_4 : decode cX1_subtractAt 4 = .ok (.istore 7, 2) := by decide +kernel
theorem dX1_subtractAt_6 : decode cX1_subtractAt 6 = .ok (.iload 7, 2) := by decide +kernel
theorem dX1_subtractAt_8 : decode cX1_subtractAt 8 = .ok (.iload 4, 2) := by decide +kernel
theorem dX1_subtractAt_10 : decode cX1_subtractAt 10 = .ok (.if_icmp .ge 69, 3) := by decide +kernel
theorem dX1_subtractAt_13 : decode cX1_subtractAt 13 = .ok (.aload_n 0, 1) := by decide +kernel
theorem dX1_subtractAt_14 : decode cX1_subtractAt 14 = .ok (.getfield 29, 3) := by decide +kernel
theorem dX1_subtractAt_17 : decode cX1_subtractAt 17 = .ok (.iload_n 1, 1) := by decide +kernel
theorem dX1_subtractAt_18 : decode cX1_subtractAt 18 = .ok (.iload 7, 2) := by decide +kernel
theorem dX1_subtractAt_20 : decode cX1_subtractAt 20 = .ok (.iadd, 1) := by decide +kernel
theorem dX1_subtractAt_21 : decode cX1_subtractAt 21 = .ok (.iaload, 1) := by decide +kernel
theorem dX1_subtractAt_22 : decode cX1_subtractAt 22 = .ok (.i2l, 1) := by decide +kernel
theorem dX1_subtractAt_23 : decode cX1_subtractAt 23 = .ok (.ldc2_w 72, 3) := by decide +kernel
theorem dX1_subtractAt_26 : decode cX1_subtractAt 26 = .ok (.land, 1) := by decide +kernel
theorem dX1_subtractAt_27 : decode cX1_subtractAt 27 = .ok (.aload_n 0, 1) := by decide +kernel
theorem dX1_subtractAt_28 : decode cX1_subtractAt 28 = .ok (.getfield 29, 3) := by decide +kernel
theorem dX1_subtractAt_31 : decode cX1_subtractAt 31 = .ok (.iload_n 3, 1) := by decide +kernel
theorem dX1_subtractAt_32 : decode cX1_subtractAt 32 = .ok (.iload 7, 2) := by decide +kernel
theorem dX1_subtractAt_34 : decode cX1_subtractAt 34 = .ok (.iadd, 1) := by decide +kernel
theorem dX1_subtractAt_35 : decode cX1_subtractAt 35 = .ok (.iaload, 1) := by decide +kernel
theorem dX1_subtractAt_36 : decode cX1_subtractAt 36 = .ok (.i2l, 1) := by decide +kernel
theorem dX1_subtractAt_37 : decode cX1_subtractAt 37 = .ok (.ldc2_w 72, 3) := by decide +kernel
theorem dX1_subtractAt_40 : decode cX1_subtractAt 40 = .ok (.land, 1) := by decide +kernel
theorem dX1_subtractAt_41 : decode cX1_subtractAt 41 = .ok (.lsub, 1) := by decide +kernel
theorem dX1_subtractAt_42 : decode cX1_subtractAt 42 = .ok (.lload 5, 2) := by decide +kernel
theorem dX1_subtractAt_44 : decode cX1_subtractAt 44 = .ok (.lsub, 1) := by decide +kernel
theorem dX1_subtractAt_45 : decode cX1_subtractAt 45 = .ok (.lstore 8, 2) := by decide +kernel
theorem dX1_subtractAt_47 : decode cX1_subtractAt 47 = .ok (.aload_n 0, 1) := by decide +kernel
theorem dX1_subtractAt_48 : decode cX1_subtractAt 48 = .ok (.getfield 29, 3) := by decide +kernel
theorem dX1_subtractAt_51 : decode cX1_subtractAt 51 = .ok (.iload_n 1, 1) := by decide +kernel
theorem dX1_subtractAt_52 : decode cX1_subtractAt 52 = .ok (.iload 7, 2) := by decide +kernel
theorem dX1_subtractAt_54 : decode cX1_subtractAt 54 = .ok (.iadd, 1) := by decide +kernel
theorem dX1_subtractAt_55 : decode cX1_subtractAt 55 = .ok (.lload 8, 2) := by decide +kernel
theorem dX1_subtractAt_57 : decode cX1_subtractAt 57 = .ok (.l2i, 1) := by decide +kernel
theorem dX1_subtractAt_58 : decode cX1_subtractAt 58 = .ok (.iastore, 1) := by decide +kernel
theorem dX1_subtractAt_59 : decode cX1_subtractAt 59 = .ok (.lload 8, 2) := by decide +kernel
theorem dX1_subtractAt_61 : decode cX1_subtractAt 61 = .ok (.lconst 0, 1) := by decide +kernel
theorem dX1_subtractAt_62 : decode cX1_subtractAt 62 = .ok (.lcmp, 1) := by decide +kernel
theorem dX1_subtractAt_63 : decode cX1_subtractAt 63 = .ok (.ifCond .ge 7, 3) := by decide +kernel
theorem dX1_subtractAt_66 : decode cX1_subtractAt 66 = .ok (.lconst 1, 1) := by decide +kernel
theorem dX1_subtractAt_67 : decode cX1_subtractAt 67 = .ok (.goto 4, 3) := by decide +kernel
theorem dX1_subtractAt_70 : decode cX1_subtractAt 70 = .ok (.lconst 0, 1) := by decide +kernel
theorem dX1_subtractAt_71 : decode cX1_subtractAt 71 = .ok (.lstore 5, 2) := by decide +kernel
theorem dX1_subtractAt_73 : decode cX1_subtractAt 73 = .ok (.iinc 7 1, 3) := by decide +kernel
theorem dX1_subtractAt_76 : decode cX1_subtractAt 76 = .ok (.goto (-70), 3) := by decide +kernel
theorem dX1_subtractAt_79 : decode cX1_subtractAt 79 = .ok (.iload 4, 2) := by decide +kernel
theorem dX1_subtractAt_81 : decode cX1_subtractAt 81 = .ok (.istore 7, 2) := by decide +kernel
theorem dX1_subtractAt_83 : decode cX1_subtractAt 83 = .ok (.iload 7, 2) := by decide +kernel
theorem dX1_subtractAt_85 : decode cX1_subtractAt 85 = .ok (.iload_n 2, 1) := by decide +kernel
theorem dX1_subtractAt_86 : decode cX1_subtractAt 86 = .ok (.if_icmp .ge 49, 3) := by decide +kernel
theorem dX1_subtractAt_89 : decode cX1_subtractAt 89 = .ok (.lload 5, 2) := by decide +kernel
theorem dX1_subtractAt_91 : decode cX1_subtractAt 91 = .ok (.lconst 0, 1) := by decide +kernel
theorem dX1_subtractAt_92 : decode cX1_subtractAt 92 = .ok (.lcmp, 1) := by decide +kernel
theorem dX1_subtractAt_93 : decode cX1_subtractAt 93 = .ok (.ifCond .eq 42, 3) := by decide +kernel
theorem dX1_subtractAt_96 : decode cX1_subtractAt 96 = .ok (.aload_n 0, 1) := by decide +kernel
theorem dX1_subtractAt_97 : decode cX1_subtractAt 97 = .ok (.getfield 29, 3) := by decide +kernel
theorem dX1_subtractAt_100 : decode cX1_subtractAt 100 = .ok (.iload_n 1, 1) := by decide +kernel
theorem dX1_subtractAt_101 : decode cX1_subtractAt 101 = .ok (.iload 7, 2) := by decide +kernel
theorem dX1_subtractAt_103 : decode cX1_subtractAt 103 = .ok (.iadd, 1) := by decide +kernel
theorem dX1_subtractAt_104 : decode cX1_subtractAt 104 = .ok (.dup2, 1) := by decide +kernel
theorem dX1_subtractAt_105 : decode cX1_subtractAt 105 = .ok (.iaload, 1) := by decide +kernel
theorem dX1_subtractAt_106 : decode cX1_subtractAt 106 = .ok (.iconst 1, 1) := by decide +kernel
theorem dX1_subtractAt_107 : decode cX1_subtractAt 107 = .ok (.isub, 1) := by decide +kernel
theorem dX1_subtractAt_108 : decode cX1_subtractAt 108 = .ok (.iastore, 1) := by decide +kernel
theorem dX1_subtractAt_109 : decode cX1_subtractAt 109 = .ok (.aload_n 0, 1) := by decide +kernel
theorem dX1_subtractAt_110 : decode cX1_subtractAt 110 = .ok (.getfield 29, 3) := by decide +kernel
theorem dX1_subtractAt_113 : decode cX1_subtractAt 113 = .ok (.iload_n 1, 1) := by decide +kernel
theorem dX1_subtractAt_114 : decode cX1_subtractAt 114 = .ok (.iload 7, 2) := by decide +kernel
theorem dX1_subtractAt_116 : decode cX1_subtractAt 116 = .ok (.iadd, 1) := by decide +kernel
theorem dX1_subtractAt_117 : decode cX1_subtractAt 117 = .ok (.iaload, 1) := by decide +kernel
theorem dX1_subtractAt_118 : decode cX1_subtractAt 118 = .ok (.iconst (-1), 1) := by decide +kernel
theorem dX1_subtractAt_119 : decode cX1_subtractAt 119 = .ok (.if_icmp .ne 7, 3) := by decide +kernel
theorem dX1_subtractAt_122 : decode cX1_subtractAt 122 = .ok (.lconst 1, 1) := by decide +kernel
theorem dX1_subtractAt_123 : decode cX1_subtractAt 123 = .ok (.goto 4, 3) := by decide +kernel
theorem dX1_subtractAt_126 : decode cX1_subtractAt 126 = .ok (.lconst 0, 1) := by decide +kernel
theorem dX1_subtractAt_127 : decode cX1_subtractAt 127 = .ok (.lstore 5, 2) := by decide +kernel
theorem dX1_subtractAt_129 : decode cX1_subtractAt 129 = .ok (.iinc 7 1, 3) := by decide +kernel
theorem dX1_subtractAt_132 : decode cX1_subtractAt 132 = .ok (.goto (-49), 3) := by decide +kernel
theorem dX1_subtractAt_135 : decode cX1_subtractAt 135 = .ok (.return_, 1) := by decide +kernel
