set_option maxRecDepth 20000 in
theorem ggX5_init_X5_nearest : GoodIn wsX5_init wsX5_nearest := goodIn_r _ [31, 32, 33, 34, 35, 36, 37, 38] rfl (by decide +kernel)
set_option maxRecDepth 20000 in
theorem gX5_init_X5_nearest : GoodIn wsX5_init (va_wsS RX5 7 yX5_nearest wsX5_nearest) := goodIn_app (goodIn_of _ (by decide +kernel)) ggX5_init_X5_nearest
set_option maxRecDepth 20000 in
theorem ggX5_init_X4_init : GoodIn wsX5_init wsX4_init := goodIn_r _ [41, 42, 2, 3, 43, 44, 45, 46, 92, 93, 94] rfl (by decide +kernel)
set_option maxRecDepth 20000 in
theorem gX5_init_X4_init : GoodIn wsX5_init (wsX4_init) := ggX5_init_X4_init
set_option maxRecDepth 20000 in
theorem ggX5_init_X1_init : GoodIn wsX5_init wsX1_init := goodIn_r _ [49, 50, 2, 3, 51, 52, 53, 54, 55, 43, 56, 57, 58, 14, 59, 95, 96, 97, 98, 99, 100] rfl (by decide +kernel)
set_option maxRecDepth 20000 in
theorem gX5_init_X1_init : GoodIn wsX5_init (wsX1_init) := ggX5_init_X1_init
set_option maxRecDepth 20000 in
theorem ggX5_init_X0_init : GoodIn wsX5_init wsX0_init := goodIn_r _ [62, 63, 2, 3, 64, 7, 8, 65, 66, 43, 67, 68, 69, 40, 41, 42, 44, 45, 46, 92, 93, 94, 101, 102, 103, 104] rfl (by decide +kernel)
set_option maxRecDepth 20000 in
theorem gX5_init_X0_init : GoodIn wsX5_init (wsX0_init) := ggX5_init_X0_init
set_option maxRecDepth 20000 in
theorem ggX5_init_X3_init : GoodIn wsX5_init wsX3_init := goodIn_r _ [72, 73, 2, 3, 74, 75, 76, 105, 106] rfl (by decide +kernel)
set_option maxRecDepth 20000 in
theorem gX5_init_X3_init : GoodIn wsX5_init (wsX3_init) := ggX5_init_X3_init
set_option maxRecDepth 20000 in
theorem ggX5_init_X2_init : GoodIn wsX5_init wsX2_init := goodIn_r _ [79, 80, 2, 3, 74, 81, 82, 107, 108] rfl (by decide +kernel)
set_option maxRecDepth 20000 in
theorem gX5_init_X2_init : GoodIn wsX5_init (wsX2_init) := ggX5_init_X2_init
theorem dX5_init_0 : decode cX5_init 0 = .ok (.aload_n 0, 1) := by decide +kernel
theorem dX5_init_1 : decode cX5_init 1 = .ok (.invokespecial 1, 3) := by decide +kernel
theorem dX5_init_4 : decode cX5_init 4 = .ok (.aload_n 0, 1) := by decide +kernel
theorem dX5_init_5 : decode cX5_init 5 = .ok (.iload_n 2, 1) := by decide +kernel
theorem dX5_init_6 : decode cX5_init 6 = .ok (.iconst 1, 1) := by decide +kernel
theorem dX5_init_7 : decode cX5_init 7 = .ok (.bipush 120, 2) := by decide +kernel
theorem dX5_init_9 : decode cX5_init 9 = .ok (.invokestatic 7, 3) := by decide +kernel
theorem dX5_init_12 : decode cX5_init 12 = .ok (.putfield 13, 3) := by decide +kernel
theorem dX5_init_15 : decode cX5_init 15 = .ok (.aload_n 0, 1) := by decide +kernel
theorem dX5_init_16 : decode cX5_init 16 = .ok (.iload_n 1, 1) := by decide +kernel
theorem dX5_init_17 : decode cX5_init 17 = .ok (.iconst 1, 1) := by decide +kernel
theorem dX5_init_18 : decode cX5_init 18 = .ok (.bipush 12, 2) := by decide +kernel
theorem dX5_init_20 : decode cX5_init 20 = .ok (.invokestatic 7, 3) := by decide +kernel
theorem dX5_init_23 : decode cX5_init 23 = .ok (.anewarray 17, 3) := by decide +kernel
theorem dX5_init_26 : decode cX5_init 26 = .ok (.putfield 19, 3) := by decide +kernel
theorem dX5_init_29 : decode cX5_init 29 = .ok (.iconst 0, 1) := by decide +kernel
theorem dX5_init_30 : decode cX5_init 30 = .ok (.istore 4, 2) := by decide +kernel
theorem dX5_init_32 : decode cX5_init 32 = .ok (.iload 4, 2) := by decide +kernel
theorem dX5_init_34 : decode cX5_init 34 = .ok (.aload_n 0, 1) := by decide +kernel
theorem dX5_init_35 : decode cX5_init 35 = .ok (.getfield 19, 3) := by decide +kernel
theorem dX5_init_38 : decode cX5_init 38 = .ok (.arraylength, 1) := by decide +kernel
theorem dX5_init_39 : decode cX5_init 39 = .ok (.if_icmp .ge 27, 3) := by decide +kernel
theorem dX5_init_42 : decode cX5_init 42 = .ok (.aload_n 0, 1) := by decide +kernel
theorem dX5_init_43 : decode cX5_init 43 = .ok (.getfield 19, 3) := by decide +kernel
theorem dX5_init_46 : decode cX5_init 46 = .ok (.iload 4, 2) := by decide +kernel
theorem dX5_init_48 : decode cX5_init 48 = .ok (.new 17, 3) := by decide +kernel
theorem dX5_init_51 : decode cX5_init 51 = .ok (.dup, 1) := by decide +kernel
theorem dX5_init_52 : decode cX5_init 52 = .ok (.aload_n 0, 1) := by decide +kernel
theorem dX5_init_53 : decode cX5_init 53 = .ok (.getfield 13, 3) := by decide +kernel
theorem dX5_init_56 : decode cX5_init 56 = .ok (.invokespecial 23, 3) := by decide +kernel
theorem dX5_init_59 : decode cX5_init 59 = .ok (.aastore, 1) := by decide +kernel
theorem dX5_init_60 : decode cX5_init 60 = .ok (.iinc 4 1, 3) := by decide +kernel
theorem dX5_init_63 : decode cX5_init 63 = .ok (.goto (-31), 3) := by decide +kernel
theorem dX5_init_66 : decode cX5_init 66 = .ok (.aload_n 0, 1) := by decide +kernel
theorem dX5_init_67 : decode cX5_init 67 = .ok (.new 17, 3) := by decide +kernel
theorem dX5_init_70 : decode cX5_init 70 = .ok (.dup, 1) := by decide +kernel
theorem dX5_init_71 : decode cX5_init 71 = .ok (.iconst 2, 1) := by decide +kernel
theorem dX5_init_72 : decode cX5_init 72 = .ok (.aload_n 0, 1) := by decide +kernel
theorem dX5_init_73 : decode cX5_init 73 = .ok (.getfield 13, 3) := by decide +kernel
theorem dX5_init_76 : decode cX5_init 76 = .ok (.imul, 1) := by decide +kernel
theorem dX5_init_77 : decode cX5_init 77 = .ok (.iconst 1, 1) := by decide +kernel
theorem dX5_init_78 : decode cX5_init 78 = .ok (.iadd, 1) := by decide +kernel
theorem dX5_init_79 : decode cX5_init 79 = .ok (.invokespecial 23, 3) := by decide +kernel
theorem dX5_init_82 : decode cX5_init 82 = .ok (.putfield 26, 3) := by decide +kernel
theorem dX5_init_85 : decode cX5_init 85 = .ok (.aload_n 0, 1) := by decide +kernel
theorem dX5_init_86 : decode cX5_init 86 = .ok (.new 17, 3) := by decide +kernel
theorem dX5_init_89 : decode cX5_init 89 = .ok (.dup, 1) := by decide +kernel
theorem dX5_init_90 : decode cX5_init 90 = .ok (.aload_n 0, 1) := by decide +kernel
theorem dX5_init_91 : decode cX5_init 91 = .ok (.getfield 13, 3) := by decide +kernel
theorem dX5_init_94 : decode cX5_init 94 = .ok (.invokespecial 23, 3) := by decide +kernel
theorem dX5_init_97 : decode cX5_init 97 = .ok (.putfield 30, 3) := by decide +kernel
theorem dX5_init_100 : decode cX5_init 100 = .ok (.aload_n 0, 1) := by decide +kernel
theorem dX5_init_101 : decode cX5_init 101 = .ok (.new 17, 3) := by decide +kernel
theorem dX5_init_104 : decode cX5_init 104 = .ok (.dup, 1) := by decide +kernel
theorem dX5_init_105 : decode cX5_init 105 = .ok (.aload_n 0, 1) := by decide +kernel
theorem dX5_init_106 : decode cX5_init 106 = .ok (.getfield 13, 3) := by decide +kernel
theorem dX5_init_109 : decode cX5_init 109 = .ok (.invokespecial 23, 3) := by decide +kernel
theorem dX5_init_112 : decode cX5_init 112 = .ok (.putfield 33, 3) := by decide +kernel
theorem dX5_init_115 : decode cX5_init 115 = .ok (.aload_n 0, 1) := by decide +kernel
theorem dX5_init_116 : decode cX5_init 116 = .ok (.new 36, 3) := by decide +kernel
theorem dX5_init_119 : decode cX5_init 119 = .ok (.dup, 1) := by decide +kernel
theorem dX5_init_120 : decode cX5_init 120 = .ok (.aload_n 0, 1) := by decide +kernel
theorem dX5_init_121 : decode cX5_init 121 = .ok (.getfield 13, 3) := by decide +kernel
theorem dX5_init_124 : decode cX5_init 124 = .ok (.iload_n 3, 1) := by decide +kernel
theorem dX5_init_125 : decode cX5_init 125 = .ok (.iconst 4, 1) := by decide +kernel
theorem dX5_init_126 : decode cX5_init 126 = .ok (.bipush 60, 2) := by decide +kernel
theorem dX5_init_128 : decode cX5_init 128 = .ok (.invokestatic 7, 3) := by decide +kernel
theorem dX5_init_131 : decode cX5_init 131 = .ok (.invokespecial 38, 3) := by decide +kernel
theorem dX5_init_134 : decode cX5_init 134 = .ok (.putfield 41, 3) := by decide +kernel
theorem dX5_init_137 : decode cX5_init 137 = .ok (.aload_n 0, 1) := by decide +kernel
theorem dX5_init_138 : decode cX5_init 138 = .ok (.new 45, 3) := by decide +kernel
theorem dX5_init_141 : decode cX5_init 141 = .ok (.dup, 1) := by decide +kernel
theorem dX5_init_142 : decode cX5_init 142 = .ok (.aload_n 0, 1) := by decide +kernel
theorem dX5_init_143 : decode cX5_init 143 = .ok (.getfield 13, 3) := by decide +kernel
theorem dX5_init_146 : decode cX5_init 146 = .ok (.invokespecial 47, 3) := by decide +kernel
theorem dX5_init_149 : decode cX5_init 149 = .ok (.putfield 48, 3) := by decide +kernel
theorem dX5_init_152 : decode cX5_init 152 = .ok (.aload_n 0, 1) := by decide +kernel
theorem dX5_init_153 : decode cX5_init 153 = .ok (.new 52, 3) := by decide +kernel
theorem dX5_init_156 : decode cX5_init 156 = .ok (.dup, 1) := by decide +kernel
theorem dX5_init_157 : decode cX5_init 157 = .ok (.aload_n 0, 1) := by decide +kernel
theorem dX5_init_158 : decode cX5_init 158 = .ok (.getfield 13, 3) := by decide +kernel
theorem dX5_init_161 : decode cX5_init 161 = .ok (.invokespecial 54, 3) := by decide +kernel
theorem dX5_init_164 : decode cX5_init 164 = .ok (.putfield 55, 3) := by decide +kernel
theorem dX5_init_167 : decode cX5_init 167 = .ok (.aload_n 0, 1) := by decide +kernel
theorem dX5_init_168 : decode cX5_init 168 = .ok (.new 59, 3) := by decide +kernel
theorem dX5_init_171 : decode cX5_init 171 = .ok (.dup, 1) := by decide +kernel
theorem dX5_init_172 : decode cX5_init 172 = .ok (.invokespecial 61, 3) := by decide +kernel
theorem dX5_init_175 : decode cX5_init 175 = .ok (.putfield 62, 3) := by decide +kernel
theorem dX5_init_178 : decode cX5_init 178 = .ok (.return_, 1) := by decide +kernel
set_option maxRecDepth 20000 in
theorem ggX5_set_X5_isNone : GoodIn wsX5_set wsX5_isNone := goodIn_r _ [6, 1, 23, 24, 25, 26, 27, 28, 29, 30, 31] rfl (by decide +kernel)
set_option maxRecDepth 20000 in
theorem gX5_set_X5_isNone : GoodIn wsX5_set (wsV RX5 66 RX5 yX5_isNone wsX5_isNone) := goodIn_app (goodIn_of _ (by decide +kernel)) ggX5_set_X5_isNone
set_option maxRecDepth 20000 in
theorem ggX5_set_X4_becomeInt : GoodIn wsX5_set wsX4_becomeInt := goodIn_r _ [11, 12, 13, 14, 15, 16, 17, 18, 19, 10, 20, 21, 22, 32, 33, 34] rfl (by decide +kernel)
set_option maxRecDepth 20000 in
theorem gX5_set_X4_becomeInt : GoodIn wsX5_set (wsV RX5 70 RX4 yX4_becomeInt wsX4_becomeInt) := goodIn_app (goodIn_of _ (by decide +kernel)) ggX5_set_X4_becomeInt
theorem dX5_set_0 : decode cX5_set 0 = .ok (.aload_n 0, 1) := by decide +kernel
theorem dX5_set_1 : decode cX5_set 1 = .ok (.iload_n 1, 1) := by decide +kernel
theorem dX5_set_2 : decode cX5_set 2 = .ok (.invokevirtual 66, 3) := by decide +kernel
theorem dX5_set_5 : decode cX5_set 5 = .ok (.ifCond .eq 5, 3) := by decide +kernel
theorem dX5_set_8 : decode cX5_set 8 = .ok (.iconst (-1), 1) := by decide +kernel
theorem dX5_set_9 : decode cX5_set 9 = .ok (.ireturn, 1) := by decide +kernel
theorem dX5_set_10 : decode cX5_set 10 = .ok (.aload_n 0, 1) := by decide +kernel
theorem dX5_set_11 : decode cX5_set 11 = .ok (.getfield 19, 3) := by decide +kernel
theorem dX5_set_14 : decode cX5_set 14 = .ok (.iload_n 1, 1) := by decide +kernel
theorem dX5_set_15 : decode cX5_set 15 = .ok (.aaload, 1) := by decide +kernel
theorem dX5_set_16 : decode cX5_set 16 = .ok (.iload_n 2, 1) := by decide +kernel
theorem dX5_set_17 : decode cX5_set 17 = .ok (.invokevirtual 70, 3) := by decide +kernel
theorem dX5_set_20 : decode cX5_set 20 = .ok (.iconst 0, 1) := by decide +kernel
theorem dX5_set_21 : decode cX5_set 21 = .ok (.ireturn, 1) := by decide +kernel
set_option maxRecDepth 20000 in
theorem ggX5_push_X5_isNone : GoodIn wsX5_push wsX5_isNone := goodIn_r _ [7, 2, 34, 35, 36, 37, 38, 39, 40, 41, 42] rfl (by decide +kernel)
set_option maxRecDepth 20000 in
theorem gX5_push_X5_isNone : GoodIn wsX5_push (wsV RX5 66 RX5 yX5_isNone wsX5_isNone) := goodIn_app (goodIn_of _ (by decide +kernel)) ggX5_push_X5_isNone
set_option maxRecDepth 20000 in
theorem ggX5_push_X4_becomePushed : GoodIn wsX5_push wsX4_becomePushed := goodIn_r _ [12, 13, 14, 15, 16, 17, 18, 19, 20, 21, 22, 11, 23, 43, 44, 45] rfl (by decide +kernel)
set_option maxRecDepth 20000 in
theorem gX5_push_X4_becomePushed : GoodIn wsX5_push (wsV RX5 73 RX4 yX4_becomePushed wsX4_becomePushed) := goodIn_app (goodIn_of _ (by decide +kernel)) ggX5_push_X4_becomePushed
set_option maxRecDepth 20000 in
theorem ggX5_push_X5_put : GoodIn wsX5_push wsX5_put := goodIn_r _ [27, 1, 28, 29, 2, 30, 31, 32, 11, 33, 13, 14, 15, 16, 17, 18, 19, 34, 35, 36, 37, 38, 39, 40, 41, 42, 43, 44, 45] rfl (by decide +kernel)
set_option maxRecDepth 20000 in
theorem gX5_push_X5_put : GoodIn wsX5_push (wsV RX5 77 RX5 yX5_put wsX5_put) := goodIn_app (goodIn_of _ (by decide +kernel)) ggX5_push_X5_put
theorem dX5_push_0 : decode cX5_push 0 = .ok (.aload_n 0, 1) := by decide +kernel
theorem dX5_push_1 : decode cX5_push 1 = .ok (.iload_n 1, 1) := by decide +kernel
theorem dX5_push_2 : decode cX5_push 2 = .ok (.invokevirtual 66, 3) := by decide +kernel
theorem dX5_push_5 : decode cX5_push 5 = .ok (.ifCond .eq 5, 3) := by decide +kernel
theorem dX5_push_8 : decode cX5_push 8 = .ok (.iconst (-1), 1) := by decide +kernel
theorem dX5_push_9 : decode cX5_push 9 = .ok (.ireturn, 1) := by decide +kernel
theorem dX5_push_10 : decode cX5_push 10 = .ok (.aload_n 0, 1) := by decide +kernel
theorem dX5_push_11 : decode cX5_push 11 = .ok (.getfield 26, 3) := by decide +kernel
theorem dX5_push_14 : decode cX5_push 14 = .ok (.aload_n 0, 1) := by decide +kernel
theorem dX5_push_15 : decode cX5_push 15 = .ok (.getfield 19, 3) := by decide +kernel
theorem dX5_push_18 : decode cX5_push 18 = .ok (.iload_n 1, 1) := by decide +kernel
theorem dX5_push_19 : decode cX5_push 19 = .ok (.aaload, 1) := by decide +kernel
theorem dX5_push_20 : decode cX5_push 20 = .ok (.iload_n 2, 1) := by decide +kernel
theorem dX5_push_21 : decode cX5_push 21 = .ok (.invokevirtual 73, 3) := by decide +kernel
theorem dX5_push_24 : decode cX5_push 24 = .ok (.aload_n 0, 1) := by decide +kernel
theorem dX5_push_25 : decode cX5_push 25 = .ok (.iload_n 1, 1) := by decide +kernel
theorem dX5_push_26 : decode cX5_push 26 = .ok (.invokevirtual 77, 3) := by decide +kernel
theorem dX5_push_29 : decode cX5_push 29 = .ok (.ireturn, 1) := by decide +kernel
set_option maxRecDepth 20000 in
theorem ggX5_copy_X5_isNone : GoodIn wsX5_copy wsX5_isNone := goodIn_r _ [6, 1, 19, 20, 21, 22, 23, 24, 25, 26, 27] rfl (by decide +kernel)
set_option maxRecDepth 20000 in
theorem gX5_copy_X5_isNone : GoodIn wsX5_copy (wsV RX5 66 RX5 yX5_isNone wsX5_isNone) := goodIn_app (goodIn_of _ (by decide +kernel)) ggX5_copy_X5_isNone
set_option maxRecDepth 20000 in
theorem ggX5_copy_X4_become : GoodIn wsX5_copy wsX4_become := goodIn_r _ [11, 12, 13, 14, 15, 16, 17, 18, 28, 29, 30] rfl (by decide +kernel)
set_option maxRecDepth 20000 in
theorem gX5_copy_X4_become : GoodIn wsX5_copy (wsV RX5 81 RX4 yX4_become wsX4_become) := goodIn_app (goodIn_of _ (by decide +kernel)) ggX5_copy_X4_become
theorem dX5_copy_0 : decode cX5_copy 0 = .ok (.aload_n 0, 1) := by decide +kernel
theorem dX5_copy_1 : decode cX5_copy 1 = .ok (.iload_n 1, 1) := by decide +kernel
theorem dX5_copy_2 : decode cX5_copy 2 = .ok (.invokevirtual 66, 3) := by decide +kernel
theorem dX5_copy_5 : decode cX5_copy 5 = .ok (.ifCond .ne 11, 3) := by decide +kernel
theorem dX5_copy_8 : decode cX5_copy 8 = .ok (.aload_n 0, 1) := by decide +kernel
theorem dX5_copy_9 : decode cX5_copy 9 = .ok (.iload_n 2, 1) := by decide +kernel
theorem dX5_copy_10 : decode cX5_copy 10 = .ok (.invokevirtual 66, 3) := by decide +kernel
theorem dX5_copy_13 : decode cX5_copy 13 = .ok (.ifCond .eq 5, 3) := by decide +kernel
theorem dX5_copy_16 : decode cX5_copy 16 = .ok (.iconst (-1), 1) := by decide +kernel
theorem dX5_copy_17 : decode cX5_copy 17 = .ok (.ireturn, 1) := by decide +kernel
theorem dX5_copy_18 : decode cX5_copy 18 = .ok (.aload_n 0, 1) := by decide +kernel
theorem dX5_copy_19 : decode cX5_copy 19 = .ok (.getfield 19, 3) := by decide +kernel
theorem dX5_copy_22 : decode cX5_copy 22 = .ok (.iload_n 1, 1) := by decide +kernel
theorem dX5_copy_23 : decode cX5_copy 23 = .ok (.aaload, 1) := by decide +kernel
theorem dX5_copy_24 : decode cX5_copy 24 = .ok (.aload_n 0, 1) := by decide +kernel
theorem dX5_copy_25 : decode cX5_copy 25 = .ok (.getfield 19, 3) := by decide +kernel
theorem dX5_copy_28 : decode cX5_copy 28 = .ok (.iload_n 2, 1) := by decide +kernel
theorem dX5_copy_29 : decode cX5_copy 29 = .ok (.aaload, 1) := by decide +kernel
theorem dX5_copy_30 : decode cX5_copy 30 = .ok (.invokevirtual 81, 3) := by decide +kernel
theorem dX5_copy_33 : decode cX5_copy 33 = .ok (.iconst 0, 1) := by decide +kernel
theorem dX5_copy_34 : decode cX5_copy 34 = .ok (.ireturn, 1) := by decide +kernel
set_option maxRecDepth 20000 in
theorem ggX5_neg_X5_isNone : GoodIn wsX5_neg wsX5_isNone := goodIn_r _ [6, 1, 14, 15, 16, 17, 18, 19, 20, 21, 22] rfl (by decide +kernel)
set_option maxRecDepth 20000 in
theorem gX5_neg_X5_isNone : GoodIn wsX5_neg (wsV RX5 66 RX5 yX5_isNone wsX5_isNone) := goodIn_app (goodIn_of _ (by decide +kernel)) ggX5_neg_X5_isNone
set_option maxRecDepth 20000 in
theorem ggX5_neg_X4_turnSign : GoodIn wsX5_neg wsX4_turnSign := goodIn_r _ [11, 12, 13, 23, 24, 25] rfl (by decide +kernel)
set_option maxRecDepth 20000 in
theorem gX5_neg_X4_turnSign : GoodIn wsX5_neg (wsV RX5 85 RX4 yX4_turnSign wsX4_turnSign) := goodIn_app (goodIn_of _ (by decide +kernel)) ggX5_neg_X4_turnSign
theorem dX5_neg_0 : decode cX5_neg 0 = .ok (.aload_n 0, 1) := by decide +kernel
theorem dX5_neg_1 : decode cX5_neg 1 = .ok (.iload_n 1, 1) := by decide +kernel
theorem dX5_neg_2 : decode cX5_neg 2 = .ok (.invokevirtual 66, 3) := by decide +kernel
theorem dX5_neg_5 : decode cX5_neg 5 = .ok (.ifCond .eq 5, 3) := by decide +kernel
theorem dX5_neg_8 : decode cX5_neg 8 = .ok (.iconst (-1), 1) := by decide +kernel
theorem dX5_neg_9 : decode cX5_neg 9 = .ok (.ireturn, 1) := by decide +kernel
theorem dX5_neg_10 : decode cX5_neg 10 = .ok (.aload_n 0, 1) := by decide +kernel
theorem dX5_neg_11 : decode cX5_neg 11 = .ok (.getfield 19, 3) := by decide +kernel
theorem dX5_neg_14 : decode cX5_neg 14 = .ok (.iload_n 1, 1) := by decide +kernel
theorem dX5_neg_15 : decode cX5_neg 15 = .ok (.aaload, 1) := by decide +kernel
theorem dX5_neg_16 : decode cX5_neg 16 = .ok (.invokevirtual 85, 3) := by decide +kernel
theorem dX5_neg_19 : decode cX5_neg 19 = .ok (.iconst 0, 1) := by decide +kernel
theorem dX5_neg_20 : decode cX5_neg 20 = .ok (.ireturn, 1) := by decide +kernel
set_option maxRecDepth 20000 in
theorem ggX5_add_X5_isNone : GoodIn wsX5_add wsX5_isNone := goodIn_r _ [8, 2, 56, 57, 58, 59, 60, 61, 62, 63, 64] rfl (by decide +kernel)
set_option maxRecDepth 20000 in
theorem gX5_add_X5_isNone : GoodIn wsX5_add (wsV RX5 66 RX5 yX5_isNone wsX5_isNone) := goodIn_app (goodIn_of _ (by decide +kernel)) ggX5_add_X5_isNone
set_option maxRecDepth 20000 in
theorem ggX5_add_X4_becomeSum : GoodIn wsX5_add wsX4_becomeSum := goodIn_r _ [13, 14, 15, 16, 17, 18, 19, 20, 21, 22, 12, 23, 24, 25, 26, 27, 28, 29, 30, 31, 32, 33, 34, 35, 36, 37, 38, 39, 40, 41, 65, 66, 67] rfl (by decide +kernel)
set_option maxRecDepth 20000 in
theorem gX5_add_X4_becomeSum : GoodIn wsX5_add (wsV RX5 92 RX4 yX4_becomeSum wsX4_becomeSum) := goodIn_app (goodIn_of _ (by decide +kernel)) ggX5_add_X4_becomeSum
set_option maxRecDepth 20000 in
theorem ggX5_add_X5_put : GoodIn wsX5_add wsX5_put := goodIn_r _ [45, 1, 46, 47, 2, 48, 49, 50, 12, 51, 24, 15, 52, 53, 54, 55, 14, 56, 57, 58, 59, 60, 61, 62, 63, 64, 65, 66, 67] rfl (by decide +kernel)
set_option maxRecDepth 20000 in
theorem gX5_add_X5_put : GoodIn wsX5_add (wsV RX5 77 RX5 yX5_put wsX5_put) := goodIn_app (goodIn_of _ (by decide +kernel)) ggX5_add_X5_put
theorem dX5_add_0 : decode cX5_add 0 = .ok (.aload_n 0, 1) := by decide +kernel
theorem dX5_add_1 : decode cX5_add 1 = .ok (.iload_n 1, 1) := by decide +kernel
theorem dX5_add_2 : decode cX5_add 2 = .ok (.invokevirtual 66, 3) := by decide +kernel
theorem dX5_add_5 : decode cX5_add 5 = .ok (.ifCond .ne 19, 3) := by decide +kernel
theorem dX5_add_8 : decode cX5_add 8 = .ok (.aload_n 0, 1) := by decide +kernel
theorem dX5_add_9 : decode cX5_add 9 = .ok (.iload_n 2, 1) := by decide +kernel
theorem dX5_add_10 : decode cX5_add 10 = .ok (.invokevirtual 66, 3) := by decide +kernel
theorem dX5_add_13 : decode cX5_add 13 = .ok (.ifCond .ne 11, 3) := by decide +kernel
theorem dX5_add_16 : decode cX5_add 16 = .ok (.aload_n 0, 1) := by decide +kernel
theorem dX5_add_17 : decode cX5_add 17 = .ok (.iload_n 3, 1) := by decide +kernel
theorem dX5_add_18 : decode cX5_add 18 = .ok (.invokevirtual 66, 3) := by decide +kernel
theorem dX5_add_21 : decode cX5_add 21 = .ok (.ifCond .eq 5, 3) := by decide +kernel
theorem dX5_add_24 : decode cX5_add 24 = .ok (.iconst (-1), 1) := by decide +kernel
theorem dX5_add_25 : decode cX5_add 25 = .ok (.ireturn, 1) := by decide +kernel
theorem dX5_add_26 : decode cX5_add 26 = .ok (.aload_n 0, 1) := by decide +kernel
theorem dX5_add_27 : decode cX5_add 27 = .ok (.getfield 26, 3) := by decide +kernel
theorem dX5_add_30 : decode cX5_add 30 = .ok (.aload_n 0, 1) := by decide +kernel
theorem dX5_add_31 : decode cX5_add 31 = .ok (.getfield 19, 3) := by decide +kernel
theorem dX5_add_34 : decode cX5_add 34 = .ok (.iload_n 2, 1) := by decide +kernel
theorem dX5_add_35 : decode cX5_add 35 = .ok (.aaload, 1) := by decide +kernel
theorem dX5_add_36 : decode cX5_add 36 = .ok (.aload_n 0, 1) := by decide +kernel
theorem dX5_add_37 : decode cX5_add 37 = .ok (.getfield 19, 3) := by decide +kernel
theorem dX5_add_40 : decode cX5_add 40 = .ok (.iload_n 3, 1) := by decide +kernel
theorem dX5_add_41 : decode cX5_add 41 = .ok (.aaload, 1) := by decide +kernel
theorem dX5_add_42 : decode cX5_add 42 = .ok (.aload_n 0, 1) := by decide +kernel
theorem dX5_add_43 : decode cX5_add 43 = .ok (.getfield 19, 3) := by decide +kernel
theorem dX5_add_46 : decode cX5_add 46 = .ok (.iload_n 3, 1) := by decide +kernel
theorem dX5_add_47 : decode cX5_add 47 = .ok (.aaload, 1) := by decide +kernel
theorem dX5_add_48 : decode cX5_add 48 = .ok (.getfield 88, 3) := by decide +kernel
theorem dX5_add_51 : decode cX5_add 51 = .ok (.invokevirtual 92, 3) := by decide +kernel
theorem dX5_add_54 : decode cX5_add 54 = .ok (.aload_n 0, 1) := by decide +kernel
theorem dX5_add_55 : decode cX5_add 55 = .ok (.iload_n 1, 1) := by decide +kernel
theorem dX5_add_56 : decode cX5_add 56 = .ok (.invokevirtual 77, 3) := by decide +kernel
theorem dX5_add_59 : decode cX5_add 59 = .ok (.ireturn, 1) := by decide +kernel
set_option maxRecDepth 20000 in
theorem ggX5_sub_X5_isNone : GoodIn wsX5_sub wsX5_isNone := goodIn_r _ [8, 2, 56, 57, 58, 59, 60, 61, 62, 63, 64] rfl (by decide +kernel)
set_option maxRecDepth 20000 in
theorem gX5_sub_X5_isNone : GoodIn wsX5_sub (wsV RX5 66 RX5 yX5_isNone wsX5_isNone) := goodIn_app (goodIn_of _ (by decide +kernel)) ggX5_sub_X5_isNone
set_option maxRecDepth 20000 in
theorem ggX5_sub_X4_becomeSum : GoodIn wsX5_sub wsX4_becomeSum := goodIn_r _ [13, 14, 15, 16, 17, 18, 19, 20, 21, 22, 12, 23, 24, 25, 26, 27, 28, 29, 30, 31, 32, 33, 34, 35, 36, 37, 38, 39, 40, 41, 65, 66, 67] rfl (by decide +kernel)
set_option maxRecDepth 20000 in
theorem gX5_sub_X4_becomeSum : GoodIn wsX5_sub (wsV RX5 92 RX4 yX4_becomeSum wsX4_becomeSum) := goodIn_app (goodIn_of _ (by decide +kernel)) ggX5_sub_X4_becomeSum
set_option maxRecDepth 20000 in
theorem ggX5_sub_X5_put : GoodIn wsX5_sub wsX5_put := goodIn_r _ [45, 1, 46, 47, 2, 48, 49, 50, 12, 51, 24, 15, 52, 53, 54, 55, 14, 56, 57, 58, 59, 60, 61, 62, 63, 64, 65, 66, 67] rfl (by decide +kernel)
set_option maxRecDepth 20000 in
theorem gX5_sub_X5_put : GoodIn wsX5_sub (wsV RX5 77 RX5 yX5_put wsX5_put) := goodIn_app (goodIn_of _ (by decide +kernel)) ggX5_sub_X5_put
theorem dX5_sub_0 : decode cX5_sub 0 = .ok (.aload_n 0, 1) := by decide +kernel
theorem dX5_sub_1 : decode cX5_sub 1 = .ok (.iload_n 1, 1) := by decide +kernel
theorem dX5_sub_2 : decode cX5_sub 2 = .ok (.invokevirtual 66, 3) := by decide +kernel
theorem dX5_sub_5 : decode cX5_sub 5 = .ok (.ifCond .ne 19, 3) := by decide +kernel
theorem dX5_sub_8 : decode cX5_sub 8 = .ok (.aload_n 0, 1) := by decide +kernel
theorem dX5_sub_9 : decode cX5_sub 9 = .ok (.iload_n 2, 1) := by decide +kernel
theorem dX5_sub_10 : decode cX5_sub 10 = .ok (.invokevirtual 66, 3) := by decide +kernel
theorem dX5_sub_13 : decode cX5_sub 13 = .ok (.ifCond .ne 11, 3) := by decide +kernel
theorem dX5_sub_16 : decode cX5_sub 16 = .ok (.aload_n 0, 1) := by decide +kernel
theorem dX5_sub_17 : decode cX5_sub 17 = .ok (.iload_n 3, 1) := by decide +kernel
theorem dX5_sub_18 : decode cX5_sub 18 = .ok (.invokevirtual 66, 3) := by decide +kernel
theorem dX5_sub_21 : decode cX5_sub 21 = .ok (.ifCond .eq 5, 3) := by decide +kernel
theorem dX5_sub_24 : decode cX5_sub 24 = .ok (.iconst (-1), 1) := by decide +kernel
theorem dX5_sub_25 : decode cX5_sub 25 = .ok (.ireturn, 1) := by decide +kernel
theorem dX5_sub_26 : decode cX5_sub 26 = .ok (.aload_n 0, 1) := by decide +kernel
theorem dX5_sub_27 : decode cX5_sub 27 = .ok (.getfield 26, 3) := by decide +kernel
theorem dX5_sub_30 : decode cX5_sub 30 = .ok (.aload_n 0, 1) := by decide +kernel
theorem dX5_sub_31 : decode cX5_sub 31 = .ok (.getfield 19, 3) := by decide +kernel
theorem dX5_sub_34 : decode cX5_sub 34 = .ok (.iload_n 2, 1) := by decide +kernel
theorem dX5_sub_35 : decode cX5_sub 35 = .ok (.aaload, 1) := by decide +kernel
theorem dX5_sub_36 : decode cX5_sub 36 = .ok (.aload_n 0, 1) := by decide +kernel
theorem dX5_sub_37 : decode cX5_sub 37 = .ok (.getfield 19, 3) := by decide +kernel
theorem dX5_sub_40 : decode cX5_sub 40 = .ok (.iload_n 3, 1) := by decide +kernel
theorem dX5_sub_41 : decode cX5_sub 41 = .ok (.aaload, 1) := by decide +kernel
theorem dX5_sub_42 : decode cX5_sub 42 = .ok (.aload_n 0, 1) := by decide +kernel
theorem dX5_sub_43 : decode cX5_sub 43 = .ok (.getfield 19, 3) := by decide +kernel
theorem dX5_sub_46 : decode cX5_sub 46 = .ok (.iload_n 3, 1) := by decide +kernel
theorem dX5_sub_47 : decode cX5_sub 47 = .ok (.aaload, 1) := by decide +kernel
theorem dX5_sub_48 : decode cX5_sub 48 = .ok (.getfield 88, 3) := by decide +kernel
theorem dX5_sub_51 : decode cX5_sub 51 = .ok (.ifCond .ne 7, 3) := by decide +kernel
theorem dX5_sub_54 : decode cX5_sub 54 = .ok (.iconst 1, 1) := by decide +kernel
theorem dX5_sub_55 : decode cX5_sub 55 = .ok (.goto 4, 3) := by decide +kernel
theorem dX5_sub_58 : decode cX5_sub 58 = .ok (.iconst 0, 1) := by decide +kernel
theorem dX5_sub_59 : decode cX5_sub 59 = .ok (.invokevirtual 92, 3) := by decide +kernel
theorem dX5_sub_62 : decode cX5_sub 62 = .ok (.aload_n 0, 1) := by decide +kernel
theorem dX5_sub_63 : decode cX5_sub 63 = .ok (.iload_n 1, 1) := by decide +kernel
theorem dX5_sub_64 : decode cX5_sub 64 = .ok (.invokevirtual 77, 3) := by decide +kernel
theorem dX5_sub_67 : decode cX5_sub 67 = .ok (.ireturn, 1) := by decide +kernel
set_option maxRecDepth 20000 in
theorem ggX5_mul_X5_isNone : GoodIn wsX5_mul wsX5_isNone := goodIn_r _ [10, 1, 86, 87, 88, 89, 90, 91, 92, 93, 94] rfl (by decide +kernel)
set_option maxRecDepth 20000 in
theorem gX5_mul_X5_isNone : GoodIn wsX5_mul (wsV RX5 66 RX5 yX5_isNone wsX5_isNone) := goodIn_app (goodIn_of _ (by decide +kernel)) ggX5_mul_X5_isNone
set_option maxRecDepth 20000 in
theorem ggX5_mul_X4_isZero : GoodIn wsX5_mul wsX4_isZero := goodIn_r _ [15, 16, 95, 96, 97] rfl (by decide +kernel)
set_option maxRecDepth 20000 in
theorem gX5_mul_X4_isZero : GoodIn wsX5_mul (wsV RX5 96 RX4 yX4_isZero wsX4_isZero) := goodIn_app (goodIn_of _ (by decide +kernel)) ggX5_mul_X4_isZero
set_option maxRecDepth 20000 in
theorem ggX5_mul_X1_product : GoodIn wsX5_mul wsX1_product := goodIn_r _ [21, 22, 23, 24, 25, 26, 27, 28, 29, 30, 31, 32, 33, 34, 35, 36, 20, 37, 38, 39, 40, 41, 42, 43, 44, 45, 46, 47, 48, 49, 50, 51, 52, 53, 54, 55, 56, 57, 58, 59, 60, 61, 62, 63, 64, 65, 66, 67, 68, 69, 70, 71, 72, 73, 14, 74, 16, 75, 76, 95, 96, 97, 98, 99, 100, 101, 102, 103] rfl (by decide +kernel)
set_option maxRecDepth 20000 in
theorem gX5_mul_X1_product : GoodIn wsX5_mul (wsV RX5 103 RX1 yX1_product wsX1_product) := goodIn_app (goodIn_of _ (by decide +kernel)) ggX5_mul_X1_product
set_option maxRecDepth 20000 in
theorem ggX5_mul_X5_put : GoodIn wsX5_mul wsX5_put := goodIn_r _ [80, 5, 2, 3, 1, 81, 82, 83, 14, 84, 75, 16, 85, 27, 28, 29, 76, 86, 87, 88, 89, 90, 91, 92, 93, 94, 95, 96, 97] rfl (by decide +kernel)
set_option maxRecDepth 20000 in
theorem gX5_mul_X5_put : GoodIn wsX5_mul (wsV RX5 77 RX5 yX5_put wsX5_put) := goodIn_app (goodIn_of _ (by decide +kernel)) ggX5_mul_X5_put
theorem dX5_mul_0 : decode cX5_mul 0 = .ok (.aload_n 0, 1) := by decide +kernel
theorem dX5_mul_1 : decode cX5_mul 1 = .ok (.iload_n 1, 1) := by decide +kernel
theorem dX5_mul_2 : decode cX5_mul 2 = .ok (.invokevirtual 66, 3) := by decide +kernel
theorem dX5_mul_5 : decode cX5_mul 5 = .ok (.ifCond .ne 19, 3) := by decide +kernel
theorem dX5_mul_8 : decode cX5_mul 8 = .ok (.aload_n 0, 1) := by decide +kernel
theorem dX5_mul_9 : decode cX5_mul 9 = .ok (.iload_n 2, 1) := by decide +kernel
theorem dX5_mul_10 : decode cX5_mul 10 = .ok (.invokevirtual 66, 3) := by decide +kernel
theorem dX5_mul_13 : decode cX5_mul 13 = .ok (.ifCond .ne 11, 3) := by decide +kernel
theorem dX5_mul_16 : decode cX5_mul 16 = .ok (.aload_n 0, 1) := by decide +kernel
theorem dX5_mul_17 : decode cX5_mul 17 = .ok (.iload_n 3, 1) := by decide +kernel
theorem dX5_mul_18 : decode cX5_mul 18 = .ok (.invokevirtual 66, 3) := by decide +kernel
theorem dX5_mul_21 : decode cX5_mul 21 = .ok (.ifCond .eq 5, 3) := by decide +kernel
theorem dX5_mul_24 : decode cX5_mul 24 = .ok (.iconst (-1), 1) := by decide +kernel
theorem dX5_mul_25 : decode cX5_mul 25 = .ok (.ireturn, 1) := by decide +kernel
theorem dX5_mul_26 : decode cX5_mul 26 = .ok (.aload_n 0, 1) := by decide +kernel
theorem dX5_mul_27 : decode cX5_mul 27 = .ok (.getfield 19, 3) := by decide +kernel
theorem dX5_mul_30 : decode cX5_mul 30 = .ok (.iload_n 2, 1) := by decide +kernel
theorem dX5_mul_31 : decode cX5_mul 31 = .ok (.aaload, 1) := by decide +kernel
theorem dX5_mul_32 : decode cX5_mul 32 = .ok (.invokevirtual 96, 3) := by decide +kernel
theorem dX5_mul_35 : decode cX5_mul 35 = .ok (.ifCond .ne 46, 3) := by decide +kernel
theorem dX5_mul_38 : decode cX5_mul 38 = .ok (.aload_n 0, 1) := by decide +kernel
theorem dX5_mul_39 : decode cX5_mul 39 = .ok (.getfield 19, 3) := by decide +kernel
theorem dX5_mul_42 : decode cX5_mul 42 = .ok (.iload_n 3, 1) := by decide +kernel
theorem dX5_mul_43 : decode cX5_mul 43 = .ok (.aaload, 1) := by decide +kernel
theorem dX5_mul_44 : decode cX5_mul 44 = .ok (.invokevirtual 96, 3) := by decide +kernel
theorem dX5_mul_47 : decode cX5_mul 47 = .ok (.ifCond .ne 34, 3) := by decide +kernel
theorem dX5_mul_50 : decode cX5_mul 50 = .ok (.aload_n 0, 1) := by decide +kernel
theorem dX5_mul_51 : decode cX5_mul 51 = .ok (.getfield 19, 3) := by decide +kernel
theorem dX5_mul_54 : decode cX5_mul 54 = .ok (.iload_n 2, 1) := by decide +kernel
theorem dX5_mul_55 : decode cX5_mul 55 = .ok (.aaload, 1) := by decide +kernel
theorem dX5_mul_56 : decode cX5_mul 56 = .ok (.getfield 100, 3) := by decide +kernel
theorem dX5_mul_59 : decode cX5_mul 59 = .ok (.aload_n 0, 1) := by decide +kernel
theorem dX5_mul_60 : decode cX5_mul 60 = .ok (.getfield 19, 3) := by decide +kernel
theorem dX5_mul_63 : decode cX5_mul 63 = .ok (.iload_n 3, 1) := by decide +kernel
theorem dX5_mul_64 : decode cX5_mul 64 = .ok (.aaload, 1) := by decide +kernel
theorem dX5_mul_65 : decode cX5_mul 65 = .ok (.getfield 100, 3) := by decide +kernel
theorem dX5_mul_68 : decode cX5_mul 68 = .ok (.iadd, 1) := by decide +kernel
theorem dX5_mul_69 : decode cX5_mul 69 = .ok (.iconst 1, 1) := by decide +kernel
theorem dX5_mul_70 : decode cX5_mul 70 = .ok (.isub, 1) := by decide +kernel
theorem dX5_mul_71 : decode cX5_mul 71 = .ok (.aload_n 0, 1) := by decide +kernel
theorem dX5_mul_72 : decode cX5_mul 72 = .ok (.getfield 13, 3) := by decide +kernel
theorem dX5_mul_75 : decode cX5_mul 75 = .ok (.if_icmp .le 6, 3) := by decide +kernel
theorem dX5_mul_78 : decode cX5_mul 78 = .ok (.bipush (-3), 2) := by decide +kernel
theorem dX5_mul_80 : decode cX5_mul 80 = .ok (.ireturn, 1) := by decide +kernel
theorem dX5_mul_81 : decode cX5_mul 81 = .ok (.aload_n 0, 1) := by decide +kernel
theorem dX5_mul_82 : decode cX5_mul 82 = .ok (.getfield 41, 3) := by decide +kernel
theorem dX5_mul_85 : decode cX5_mul 85 = .ok (.aload_n 0, 1) := by decide +kernel
theorem dX5_mul_86 : decode cX5_mul 86 = .ok (.getfield 26, 3) := by decide +kernel
theorem dX5_mul_89 : decode cX5_mul 89 = .ok (.aload_n 0, 1) := by decide +kernel
theorem dX5_mul_90 : decode cX5_mul 90 = .ok (.getfield 19, 3) := by decide +kernel
theorem dX5_mul_93 : decode cX5_mul 93 = .ok (.iload_n 2, 1) := by decide +kernel
theorem dX5_mul_94 : decode cX5_mul 94 = .ok (.aaload, 1) := by decide +kernel
theorem dX5_mul_95 : decode cX5_mul 95 = .ok (.aload_n 0, 1) := by decide +kernel
theorem dX5_mul_96 : decode cX5_mul 96 = .ok (.getfield 19, 3) := by decide +kernel
theorem dX5_mul_99 : decode cX5_mul 99 = .ok (.iload_n 3, 1) := by decide +kernel
theorem dX5_mul_100 : decode cX5_mul 100 = .ok (.aaload, 1) := by decide +kernel
theorem dX5_mul_101 : decode cX5_mul 101 = .ok (.invokevirtual 103, 3) := by decide +kernel
theorem dX5_mul_104 : decode cX5_mul 104 = .ok (.aload_n 0, 1) := by decide +kernel
theorem dX5_mul_105 : decode cX5_mul 105 = .ok (.iload_n 1, 1) := by decide +kernel
theorem dX5_mul_106 : decode cX5_mul 106 = .ok (.invokevirtual 77, 3) := by decide +kernel
theorem dX5_mul_109 : decode cX5_mul 109 = .ok (.ireturn, 1) := by decide +kernel
set_option maxRecDepth 20000 in
theorem ggX5_divMod_X5_isNone : GoodIn wsX5_divMod wsX5_isNone := goodIn_r _ [9, 1, 98, 99, 100, 101, 102, 103, 104, 105, 106] rfl (by decide +kernel)
set_option maxRecDepth 20000 in
theorem gX5_divMod_X5_isNone : GoodIn wsX5_divMod (wsV RX5 66 RX5 yX5_isNone wsX5_isNone) := goodIn_app (goodIn_of _ (by decide +kernel)) ggX5_divMod_X5_isNone
set_option maxRecDepth 20000 in
theorem ggX5_divMod_X4_isZero : GoodIn wsX5_divMod wsX4_isZero := goodIn_r _ [14, 15, 111, 112, 113] rfl (by decide +kernel)
set_option maxRecDepth 20000 in
theorem gX5_divMod_X4_isZero : GoodIn wsX5_divMod (wsV RX5 96 RX4 yX4_isZero wsX4_isZero) := goodIn_app (goodIn_of _ (by decide +kernel)) ggX5_divMod_X4_isZero
set_option maxRecDepth 20000 in
theorem ggX5_divMod_X0_divide : GoodIn wsX5_divMod wsX0_divide := goodIn_r _ [20, 21, 22, 23, 24, 11, 12, 13, 14, 15, 25, 26, 27, 28, 29, 30, 31, 32, 33, 34, 35, 36, 37, 38, 39, 40, 41, 42, 43, 44, 45, 46, 47, 48, 49, 50, 51, 52, 53, 54, 19, 55, 56, 57, 58, 59, 60, 61, 62, 63, 64, 65, 66, 67, 68, 69, 70, 71, 72, 73, 74, 75, 76, 77, 78, 79, 80, 81, 82, 83, 84, 85, 86, 87, 88, 89, 90, 91, 92, 93, 94, 95, 96, 107, 108, 109, 110, 111, 112, 113] rfl (by decide +kernel)
set_option maxRecDepth 20000 in
theorem gX5_divMod_X0_divide : GoodIn wsX5_divMod (wsV RX5 107 RX0 yX0_divide wsX0_divide) := goodIn_app (goodIn_of _ (by decide +kernel)) ggX5_divMod_X0_divide
set_option maxRecDepth 20000 in
theorem ggX5_divMod_X4_become : GoodIn wsX5_divMod wsX4_become := goodIn_r _ [47, 29, 15, 48, 49, 50, 51, 38, 111, 112, 113] rfl (by decide +kernel)
set_option maxRecDepth 20000 in
theorem gX5_divMod_X4_become : GoodIn wsX5_divMod (wsV RX5 81 RX4 yX4_become wsX4_become) := goodIn_app (goodIn_of _ (by decide +kernel)) ggX5_divMod_X4_become
theorem dX5_divMod_0 : decode cX5_divMod 0 = .ok (.aload_n 0, 1) := by decide +kernel
theorem dX5_divMod_1 : decode cX5_divMod 1 = .ok (.iload_n 1, 1) := by decide +kernel
theorem dX5_divMod_2 : decode cX5_divMod 2 = .ok (.invokevirtual 66, 3) := by decide +kernel
theorem dX5_divMod_5 : decode cX5_divMod 5 = .ok (.ifCond .ne 28, 3) := by decide +kernel
theorem dX5_divMod_8 : decode cX5_divMod 8 = .ok (.aload_n 0, 1) := by decide +kernel
theorem dX5_divMod_9 : decode cX5_divMod 9 = .ok (.iload_n 2, 1) := by decide +kernel
theorem dX5_divMod_10 : decode cX5_divMod 10 = .ok (.invokevirtual 66, 3) := by decide +kernel
theorem dX5_divMod_13 : decode cX5_divMod 13 = .ok (.ifCond .ne 20, 3) := by decide +kernel
theorem dX5_divMod_16 : decode cX5_divMod 16 = .ok (.aload_n 0, 1) := by decide +kernel
theorem dX5_divMod_17 : decode cX5_divMod 17 = .ok (.iload_n 3, 1) := by decide +kernel
theorem dX5_divMod_18 : decode cX5_divMod 18 = .ok (.invokevirtual 66, 3) := by decide +kernel
theorem dX5_divMod_21 : decode cX5_divMod 21 = .ok (.ifCond .ne 12, 3) := by decide +kernel
theorem dX5_divMod_24 : decode cX5_divMod 24 = .ok (.aload_n 0, 1) := by decide +kernel
theorem dX5_divMod_25 : decode cX5_divMod 25 = .ok (.iload 4, 2) := by decide +kernel
theorem dX5_divMod_27 : decode cX5_divMod 27 = .ok (.invokevirtual 66, 3) := by decide +kernel
theorem dX5_divMod_30 : decode cX5_divMod 30 = .ok (.ifCond .eq 5, 3) := by decide +kernel
theorem dX5_divMod_33 : decode cX5_divMod 33 = .ok (.iconst (-1), 1) := by decide +kernel
theorem dX5_divMod_34 : decode cX5_divMod 34 = .ok (.ireturn, 1) := by decide +kernel
theorem dX5_divMod_35 : decode cX5_divMod 35 = .ok (.aload_n 0, 1) := by decide +kernel
theorem dX5_divMod_36 : decode cX5_divMod 36 = .ok (.getfield 19, 3) := by decide +kernel
theorem dX5_divMod_39 : decode cX5_divMod 39 = .ok (.iload 4, 2) := by decide +kernel
theorem dX5_divMod_41 : decode cX5_divMod 41 = .ok (.aaload, 1) := by decide +kernel
theorem dX5_divMod_42 : decode cX5_divMod 42 = .ok (.invokevirtual 96, 3) := by decide +kernel
theorem dX5_divMod_45 : decode cX5_divMod 45 = .ok (.ifCond .ne 8, 3) := by decide +kernel
theorem dX5_divMod_48 : decode cX5_divMod 48 = .ok (.iload_n 1, 1) := by decide +kernel
theorem dX5_divMod_49 : decode cX5_divMod 49 = .ok (.iload_n 2, 1) := by decide +kernel
theorem dX5_divMod_50 : decode cX5_divMod 50 = .ok (.if_icmp .ne 6, 3) := by decide +kernel
theorem dX5_divMod_53 : decode cX5_divMod 53 = .ok (.bipush (-2), 2) := by decide +kernel
theorem dX5_divMod_55 : decode cX5_divMod 55 = .ok (.ireturn, 1) := by decide +kernel
theorem dX5_divMod_56 : decode cX5_divMod 56 = .ok (.aload_n 0, 1) := by decide +kernel
theorem dX5_divMod_57 : decode cX5_divMod 57 = .ok (.getfield 48, 3) := by decide +kernel
theorem dX5_divMod_60 : decode cX5_divMod 60 = .ok (.aload_n 0, 1) := by decide +kernel
theorem dX5_divMod_61 : decode cX5_divMod 61 = .ok (.getfield 19, 3) := by decide +kernel
theorem dX5_divMod_64 : decode cX5_divMod 64 = .ok (.iload_n 3, 1) := by decide +kernel
theorem dX5_divMod_65 : decode cX5_divMod 65 = .ok (.aaload, 1) := by decide +kernel
theorem dX5_divMod_66 : decode cX5_divMod 66 = .ok (.aload_n 0, 1) := by decide +kernel
theorem dX5_divMod_67 : decode cX5_divMod 67 = .ok (.getfield 19, 3) := by decide +kernel
theorem dX5_divMod_70 : decode cX5_divMod 70 = .ok (.iload 4, 2) := by decide +kernel
theorem dX5_divMod_72 : decode cX5_divMod 72 = .ok (.aaload, 1) := by decide +kernel
theorem dX5_divMod_73 : decode cX5_divMod 73 = .ok (.invokevirtual 107, 3) := by decide +kernel
theorem dX5_divMod_76 : decode cX5_divMod 76 = .ok (.aload_n 0, 1) := by decide +kernel
theorem dX5_divMod_77 : decode cX5_divMod 77 = .ok (.getfield 19, 3) := by decide +kernel
theorem dX5_divMod_80 : decode cX5_divMod 80 = .ok (.iload_n 1, 1) := by decide +kernel
theorem dX5_divMod_81 : decode cX5_divMod 81 = .ok (.aaload, 1) := by decide +kernel
theorem dX5_divMod_82 : decode cX5_divMod 82 = .ok (.aload_n 0, 1) := by decide +kernel
theorem dX5_divMod_83 : decode cX5_divMod 83 = .ok (.getfield 48, 3) := by decide +kernel
theorem dX5_divMod_86 : decode cX5_divMod 86 = .ok (.getfield 111, 3) := by decide +kernel
theorem dX5_divMod_89 : decode cX5_divMod 89 = .ok (.invokevirtual 81, 3) := by decide +kernel
theorem dX5_divMod_92 : decode cX5_divMod 92 = .ok (.aload_n 0, 1) := by decide +kernel
theorem dX5_divMod_93 : decode cX5_divMod 93 = .ok (.getfield 19, 3) := by decide +kernel
theorem dX5_divMod_96 : decode cX5_divMod 96 = .ok (.iload_n 2, 1) := by decide +kernel
theorem dX5_divMod_97 : decode cX5_divMod 97 = .ok (.aaload, 1) := by decide +kernel
theorem dX5_divMod_98 : decode cX5_divMod 98 = .ok (.aload_n 0, 1) := by decide +kernel
theorem dX5_divMod_99 : decode cX5_divMod 99 = .ok (.getfield 48, 3) := by decide +kernel
theorem dX5_divMod_102 : decode cX5_divMod 102 = .ok (.getfield 114, 3) := by decide +kernel
theorem dX5_divMod_105 : decode cX5_divMod 105 = .ok (.invokevirtual 81, 3) := by decide +kernel
theorem dX5_divMod_108 : decode cX5_divMod 108 = .ok (.iconst 0, 1) := by decide +kernel
theorem dX5_divMod_109 : decode cX5_divMod 109 = .ok (.ireturn, 1) := by decide +kernel
set_option maxRecDepth 20000 in
theorem ggX5_shl_X5_isNone : GoodIn wsX5_shl wsX5_isNone := goodIn_r _ [9, 1, 67, 68, 69, 70, 71, 72, 73, 74, 75] rfl (by decide +kernel)
set_option maxRecDepth 20000 in
theorem gX5_shl_X5_isNone : GoodIn wsX5_shl (wsV RX5 66 RX5 yX5_isNone wsX5_isNone) := goodIn_app (goodIn_of _ (by decide +kernel)) ggX5_shl_X5_isNone
set_option maxRecDepth 20000 in
theorem ggX5_shl_X4_isZero : GoodIn wsX5_shl wsX4_isZero := goodIn_r _ [14, 15, 76, 77, 78] rfl (by decide +kernel)
set_option maxRecDepth 20000 in
theorem gX5_shl_X4_isZero : GoodIn wsX5_shl (wsV RX5 96 RX4 yX4_isZero wsX4_isZero) := goodIn_app (goodIn_of _ (by decide +kernel)) ggX5_shl_X4_isZero
set_option maxRecDepth 20000 in
theorem ggX5_shl_X4_becomeInt : GoodIn wsX5_shl wsX4_becomeInt := goodIn_r _ [19, 20, 21, 22, 23, 24, 25, 26, 27, 13, 28, 15, 29, 76, 77, 78] rfl (by decide +kernel)
set_option maxRecDepth 20000 in
theorem gX5_shl_X4_becomeInt : GoodIn wsX5_shl (wsV RX5 70 RX4 yX4_becomeInt wsX4_becomeInt) := goodIn_app (goodIn_of _ (by decide +kernel)) ggX5_shl_X4_becomeInt
set_option maxRecDepth 20000 in
theorem ggX5_shl_X4_bits : GoodIn wsX5_shl wsX4_bits := goodIn_r _ [33, 15, 20, 34, 35, 36, 37, 38, 76, 77, 78] rfl (by decide +kernel)
set_option maxRecDepth 20000 in
theorem gX5_shl_X4_bits : GoodIn wsX5_shl (wsV RX5 117 RX4 yX4_bits wsX4_bits) := goodIn_app (goodIn_of _ (by decide +kernel)) ggX5_shl_X4_bits
set_option maxRecDepth 20000 in
theorem ggX5_shl_X4_becomeShiftedUp : GoodIn wsX5_shl wsX4_becomeShiftedUp := goodIn_r _ [42, 20, 15, 29, 43, 44, 45, 46, 47, 48, 49, 50, 51, 13, 52, 53, 25, 26, 27, 28, 76, 77, 78] rfl (by decide +kernel)
set_option maxRecDepth 20000 in
theorem gX5_shl_X4_becomeShiftedUp : GoodIn wsX5_shl (wsV RX5 123 RX4 yX4_becomeShiftedUp wsX4_becomeShiftedUp) := goodIn_app (goodIn_of _ (by decide +kernel)) ggX5_shl_X4_becomeShiftedUp
set_option maxRecDepth 20000 in
theorem ggX5_shl_X5_put : GoodIn wsX5_shl wsX5_put := goodIn_r _ [57, 4, 58, 2, 1, 59, 60, 61, 13, 62, 20, 15, 63, 64, 65, 66, 29, 67, 68, 69, 70, 71, 72, 73, 74, 75, 76, 77, 78] rfl (by decide +kernel)
set_option maxRecDepth 20000 in
theorem gX5_shl_X5_put : GoodIn wsX5_shl (wsV RX5 77 RX5 yX5_put wsX5_put) := goodIn_app (goodIn_of _ (by decide +kernel)) ggX5_shl_X5_put
theorem dX5_shl_0 : decode cX5_shl 0 = .ok (.aload_n 0, 1) := by decide +kernel
theorem dX5_shl_1 : decode cX5_shl 1 = .ok (.iload_n 1, 1) := by decide +kernel
theorem dX5_shl_2 : decode cX5_shl 2 = .ok (.invokevirtual 66, 3) := by decide +kernel
theorem dX5_shl_5 : decode cX5_shl 5 = .ok (.ifCond .ne 11, 3) := by decide +kernel
theorem dX5_shl_8 : decode cX5_shl 8 = .ok (.aload_n 0, 1) := by decide +kernel
theorem dX5_shl_9 : decode cX5_shl 9 = .ok (.iload_n 2, 1) := by decide +kernel
theorem dX5_shl_10 : decode cX5_shl 10 = .ok (.invokevirtual 66, 3) := by decide +kernel
theorem dX5_shl_13 : decode cX5_shl 13 = .ok (.ifCond .eq 5, 3) := by decide +kernel
theorem dX5_shl_16 : decode cX5_shl 16 = .ok (.iconst (-1), 1) := by decide +kernel
theorem dX5_shl_17 : decode cX5_shl 17 = .ok (.ireturn, 1) := by decide +kernel
theorem dX5_shl_18 : decode cX5_shl 18 = .ok (.iload_n 3, 1) := by decide +kernel
theorem dX5_shl_19 : decode cX5_shl 19 = .ok (.ifCond .ge 6, 3) := by decide +kernel
theorem dX5_shl_22 : decode cX5_shl 22 = .ok (.bipush (-2), 2) := by decide +kernel
theorem dX5_shl_24 : decode cX5_shl 24 = .ok (.ireturn, 1) := by decide +kernel
theorem dX5_shl_25 : decode cX5_shl 25 = .ok (.aload_n 0, 1) := by decide +kernel
theorem dX5_shl_26 : decode cX5_shl 26 = .ok (.getfield 19, 3) := by decide +kernel
theorem dX5_shl_29 : decode cX5_shl 29 = .ok (.iload_n 2, 1) := by decide +kernel
theorem dX5_shl_30 : decode cX5_shl 30 = .ok (.aaload, 1) := by decide +kernel
theorem dX5_shl_31 : decode cX5_shl 31 = .ok (.invokevirtual 96, 3) := by decide +kernel
theorem dX5_shl_34 : decode cX5_shl 34 = .ok (.ifCond .eq 15, 3) := by decide +kernel
theorem dX5_shl_37 : decode cX5_shl 37 = .ok (.aload_n 0, 1) := by decide +kernel
theorem dX5_shl_38 : decode cX5_shl 38 = .ok (.getfield 19, 3) := by decide +kernel
theorem dX5_shl_41 : decode cX5_shl 41 = .ok (.iload_n 1, 1) := by decide +kernel
theorem dX5_shl_42 : decode cX5_shl 42 = .ok (.aaload, 1) := by decide +kernel
theorem dX5_shl_43 : decode cX5_shl 43 = .ok (.iconst 0, 1) := by decide +kernel
theorem dX5_shl_44 : decode cX5_shl 44 = .ok (.invokevirtual 70, 3) := by decide +kernel
theorem dX5_shl_47 : decode cX5_shl 47 = .ok (.iconst 0, 1) := by decide +kernel
theorem dX5_shl_48 : decode cX5_shl 48 = .ok (.ireturn, 1) := by decide +kernel
theorem dX5_shl_49 : decode cX5_shl 49 = .ok (.aload_n 0, 1) := by decide +kernel
theorem dX5_shl_50 : decode cX5_shl 50 = .ok (.getfield 19, 3) := by decide +kernel
theorem dX5_shl_53 : decode cX5_shl 53 = .ok (.iload_n 2, 1) := by decide +kernel
theorem dX5_shl_54 : decode cX5_shl 54 = .ok (.aaload, 1) := by decide +kernel
theorem dX5_shl_55 : decode cX5_shl 55 = .ok (.invokevirtual 117, 3) := by decide +kernel
theorem dX5_shl_58 : decode cX5_shl 58 = .ok (.i2l, 1) := by decide +kernel
theorem dX5_shl_59 : decode cX5_shl 59 = .ok (.iload_n 3, 1) := by decide +kernel
theorem dX5_shl_60 : decode cX5_shl 60 = .ok (.i2l, 1) := by decide +kernel
theorem dX5_shl_61 : decode cX5_shl 61 = .ok (.ladd, 1) := by decide +kernel
theorem dX5_shl_62 : decode cX5_shl 62 = .ok (.aload_n 0, 1) := by decide +kernel
theorem dX5_shl_63 : decode cX5_shl 63 = .ok (.getfield 13, 3) := by decide +kernel
theorem dX5_shl_66 : decode cX5_shl 66 = .ok (.i2l, 1) := by decide +kernel
theorem dX5_shl_67 : decode cX5_shl 67 = .ok (.ldc2_w 121, 3) := by decide +kernel
theorem dX5_shl_70 : decode cX5_shl 70 = .ok (.lmul, 1) := by decide +kernel
theorem dX5_shl_71 : decode cX5_shl 71 = .ok (.lcmp, 1) := by decide +kernel
theorem dX5_shl_72 : decode cX5_shl 72 = .ok (.ifCond .le 6, 3) := by decide +kernel
theorem dX5_shl_75 : decode cX5_shl 75 = .ok (.bipush (-3), 2) := by decide +kernel
theorem dX5_shl_77 : decode cX5_shl 77 = .ok (.ireturn, 1) := by decide +kernel
theorem dX5_shl_78 : decode cX5_shl 78 = .ok (.aload_n 0, 1) := by decide +kernel
theorem dX5_shl_79 : decode cX5_shl 79 = .ok (.getfield 26, 3) := by decide +kernel
theorem dX5_shl_82 : decode cX5_shl 82 = .ok (.aload_n 0, 1) := by decide +kernel
theorem dX5_shl_83 : decode cX5_shl 83 = .ok (.getfield 19, 3) := by decide +kernel
theorem dX5_shl_86 : decode cX5_shl 86 = .ok (.iload_n 2, 1) := by decide +kernel
theorem dX5_shl_87 : decode cX5_shl 87 = .ok (.aaload, 1) := by decide +kernel
theorem dX5_shl_88 : decode cX5_shl 88 = .ok (.iload_n 3, 1) := by decide +kernel
theorem dX5_shl_89 : decode cX5_shl 89 = .ok (.invokevirtual 123, 3) := by decide +kernel
theorem dX5_shl_92 : decode cX5_shl 92 = .ok (.aload_n 0, 1) := by decide +kernel
theorem dX5_shl_93 : decode cX5_shl 93 = .ok (.iload_n 1, 1) := by decide +kernel
theorem dX5_shl_94 : decode cX5_shl 94 = .ok (.invokevirtual 77, 3) := by decide +kernel
theorem dX5_shl_97 : decode cX5_shl 97 = .ok (.ireturn, 1) := by decide +kernel
set_option maxRecDepth 20000 in
theorem ggX5_shr_X5_isNone : GoodIn wsX5_shr wsX5_isNone := goodIn_r _ [7, 2, 51, 52, 53, 54, 55, 56, 57, 58, 59] rfl (by decide +kernel)
set_option maxRecDepth 20000 in
theorem gX5_shr_X5_isNone : GoodIn wsX5_shr (wsV RX5 66 RX5 yX5_isNone wsX5_isNone) := goodIn_app (goodIn_of _ (by decide +kernel)) ggX5_shr_X5_isNone
set_option maxRecDepth 20000 in
theorem ggX5_shr_X4_becomeShiftedDown : GoodIn wsX5_shr wsX4_becomeShiftedDown := goodIn_r _ [12, 13, 14, 15, 16, 17, 18, 19, 20, 21, 22, 11, 23, 24, 25, 26, 27, 28, 29, 30, 31, 32, 33, 34, 35, 36, 60, 61, 62] rfl (by decide +kernel)
set_option maxRecDepth 20000 in
theorem gX5_shr_X4_becomeShiftedDown : GoodIn wsX5_shr (wsV RX5 126 RX4 yX4_becomeShiftedDown wsX4_becomeShiftedDown) := goodIn_app (goodIn_of _ (by decide +kernel)) ggX5_shr_X4_becomeShiftedDown
set_option maxRecDepth 20000 in
theorem ggX5_shr_X5_put : GoodIn wsX5_shr wsX5_put := goodIn_r _ [40, 1, 41, 42, 2, 43, 44, 45, 11, 46, 18, 13, 47, 48, 49, 50, 19, 51, 52, 53, 54, 55, 56, 57, 58, 59, 60, 61, 62] rfl (by decide +kernel)
set_option maxRecDepth 20000 in
theorem gX5_shr_X5_put : GoodIn wsX5_shr (wsV RX5 77 RX5 yX5_put wsX5_put) := goodIn_app (goodIn_of _ (by decide +kernel)) ggX5_shr_X5_put
theorem dX5_shr_0 : decode cX5_shr 0 = .ok (.aload_n 0, 1) := by decide +kernel
theorem dX5_shr_1 : decode cX5_shr 1 = .ok (.iload_n 1, 1) := by decide +kernel
theorem dX5_shr_2 : decode cX5_shr 2 = .ok (.invokevirtual 66, 3) := by decide +kernel
theorem dX5_shr_5 : decode cX5_shr 5 = .ok (.ifCond .ne 11, 3) := by decide +kernel
theorem dX5_shr_8 : decode cX5_shr 8 = .ok (.aload_n 0, 1) := by decide +kernel
theorem dX5_shr_9 : decode cX5_shr 9 = .ok (.iload_n 2, 1) := by decide +kernel
theorem dX5_shr_10 : decode cX5_shr 10 = .ok (.invokevirtual 66, 3) := by decide +kernel
theorem dX5_shr_13 : decode cX5_shr 13 = .ok (.ifCond .eq 5, 3) := by decide +kernel
theorem dX5_shr_16 : decode cX5_shr 16 = .ok (.iconst (-1), 1) := by decide +kernel
theorem dX5_shr_17 : decode cX5_shr 17 = .ok (.ireturn, 1) := by decide +kernel
theorem dX5_shr_18 : decode cX5_shr 18 = .ok (.iload_n 3, 1) := by decide +kernel
theorem dX5_shr_19 : decode cX5_shr 19 = .ok (.ifCond .ge 6, 3) := by decide +kernel
theorem dX5_shr_22 : decode cX5_shr 22 = .ok (.bipush (-2), 2) := by decide +kernel
theorem dX5_shr_24 : decode cX5_shr 24 = .ok (.ireturn, 1) := by decide +kernel
theorem dX5_shr_25 : decode cX5_shr 25 = .ok (.aload_n 0, 1) := by decide +kernel
theorem dX5_shr_26 : decode cX5_shr 26 = .ok (.getfield 26, 3) := by decide +kernel
theorem dX5_shr_29 : decode cX5_shr 29 = .ok (.aload_n 0, 1) := by decide +kernel
theorem dX5_shr_30 : decode cX5_shr 30 = .ok (.getfield 19, 3) := by decide +kernel
theorem dX5_shr_33 : decode cX5_shr 33 = .ok (.iload_n 2, 1) := by decide +kernel
theorem dX5_shr_34 : decode cX5_shr 34 = .ok (.aaload, 1) := by decide +kernel
theorem dX5_shr_35 : decode cX5_shr 35 = .ok (.iload_n 3, 1) := by decide +kernel
theorem dX5_shr_36 : decode cX5_shr 36 = .ok (.invokevirtual 126, 3) := by decide +kernel
theorem dX5_shr_39 : decode cX5_shr 39 = .ok (.aload_n 0, 1) := by decide +kernel
theorem dX5_shr_40 : decode cX5_shr 40 = .ok (.iload_n 1, 1) := by decide +kernel
theorem dX5_shr_41 : decode cX5_shr 41 = .ok (.invokevirtual 77, 3) := by decide +kernel
theorem dX5_shr_44 : decode cX5_shr 44 = .ok (.ireturn, 1) := by decide +kernel
set_option maxRecDepth 20000 in
theorem ggX5_gcd_X5_isNone : GoodIn wsX5_gcd wsX5_isNone := goodIn_r _ [12, 2, 101, 102, 103, 104, 105, 106, 107, 108, 109] rfl (by decide +kernel)
set_option maxRecDepth 20000 in
theorem gX5_gcd_X5_isNone : GoodIn wsX5_gcd (wsV RX5 66 RX5 yX5_isNone wsX5_isNone) := goodIn_app (goodIn_of _ (by decide +kernel)) ggX5_gcd_X5_isNone
set_option maxRecDepth 20000 in
theorem ggX5_gcd_X4_become : GoodIn wsX5_gcd wsX4_become := goodIn_r _ [17, 18, 19, 20, 21, 22, 23, 24, 114, 115, 116] rfl (by decide +kernel)
set_option maxRecDepth 20000 in
theorem gX5_gcd_X4_become : GoodIn wsX5_gcd (wsV RX5 81 RX4 yX4_become wsX4_become) := goodIn_app (goodIn_of _ (by decide +kernel)) ggX5_gcd_X4_become
set_option maxRecDepth 20000 in
theorem ggX5_gcd_X4_isZero : GoodIn wsX5_gcd wsX4_isZero := goodIn_r _ [28, 19, 114, 115, 116] rfl (by decide +kernel)
set_option maxRecDepth 20000 in
theorem gX5_gcd_X4_isZero : GoodIn wsX5_gcd (wsV RX5 96 RX4 yX4_isZero wsX4_isZero) := goodIn_app (goodIn_of _ (by decide +kernel)) ggX5_gcd_X4_isZero
set_option maxRecDepth 20000 in
theorem ggX5_gcd_X0_divide : GoodIn wsX5_gcd wsX0_divide := goodIn_r _ [33, 34, 35, 36, 37, 26, 27, 16, 28, 19, 38, 39, 40, 41, 18, 42, 43, 44, 45, 46, 47, 48, 49, 24, 50, 51, 52, 53, 54, 55, 14, 15, 17, 20, 21, 22, 23, 56, 57, 58, 32, 59, 60, 61, 62, 63, 64, 65, 66, 67, 68, 69, 70, 71, 72, 73, 74, 75, 76, 77, 78, 79, 80, 81, 82, 83, 84, 85, 86, 87, 88, 89, 90, 91, 92, 93, 94, 95, 96, 97, 98, 99, 100, 110, 111, 112, 113, 114, 115, 116] rfl (by decide +kernel)
set_option maxRecDepth 20000 in
theorem gX5_gcd_X0_divide : GoodIn wsX5_gcd (wsV RX5 107 RX0 yX0_divide wsX0_divide) := goodIn_app (goodIn_of _ (by decide +kernel)) ggX5_gcd_X0_divide
theorem dX5_gcd_0 : decode cX5_gcd 0 = .ok (.aload_n 0, 1) := by decide +kernel
theorem dX5_gcd_1 : decode cX5_gcd 1 = .ok (.iload_n 1, 1) := by decide +kernel
theorem dX5_gcd_2 : decode cX5_gcd 2 = .ok (.invokevirtual 66, 3) := by decide +kernel
theorem dX5_gcd_5 : decode cX5_gcd 5 = .ok (.ifCond .ne 19, 3) := by decide +kernel
theorem dX5_gcd_8 : decode cX5_gcd 8 = .ok (.aload_n 0, 1) := by decide +kernel
theorem dX5_gcd_9 : decode cX5_gcd 9 = .ok (.iload_n 2, 1) := by decide +kernel
theorem dX5_gcd_10 : decode cX5_gcd 10 = .ok (.invokevirtual 66, 3) := by decide +kernel
theorem dX5_gcd_13 : decode cX5_gcd 13 = .ok (.ifCond .ne 11, 3) := by decide +kernel
theorem dX5_gcd_16 : decode cX5_gcd 16 = .ok (.aload_n 0, 1) := by decide +kernel
theorem dX5_gcd_17 : decode cX5_gcd 17 = .ok (.iload_n 3, 1) := by decide +kernel
theorem dX5_gcd_18 : decode cX5_gcd 18 = .ok (.invokevirtual 66, 3) := by decide +kernel
theorem dX5_gcd_21 : decode cX5_gcd 21 = .ok (.ifCond .eq 5, 3) := by decide +kernel
theorem dX5_gcd_24 : decode cX5_gcd 24 = .ok (.iconst (-1), 1) := by decide +kernel
theorem dX5_gcd_25 : decode cX5_gcd 25 = .ok (.ireturn, 1) := by decide +kernel
theorem dX5_gcd_26 : decode cX5_gcd 26 = .ok (.aload_n 0, 1) := by decide +kernel
theorem dX5_gcd_27 : decode cX5_gcd 27 = .ok (.getfield 30, 3) := by decide +kernel
theorem dX5_gcd_30 : decode cX5_gcd 30 = .ok (.aload_n 0, 1) := by decide +kernel
theorem dX5_gcd_31 : decode cX5_gcd 31 = .ok (.getfield 19, 3) := by decide +kernel
theorem dX5_gcd_34 : decode cX5_gcd 34 = .ok (.iload_n 2, 1) := by decide +kernel
theorem dX5_gcd_35 : decode cX5_gcd 35 = .ok (.aaload, 1) := by decide +kernel
theorem dX5_gcd_36 : decode cX5_gcd 36 = .ok (.invokevirtual 81, 3) := by decide +kernel
theorem dX5_gcd_39 : decode cX5_gcd 39 = .ok (.aload_n 0, 1) := by decide +kernel
theorem dX5_gcd_40 : decode cX5_gcd 40 = .ok (.getfield 33, 3) := by decide +kernel
theorem dX5_gcd_43 : decode cX5_gcd 43 = .ok (.aload_n 0, 1) := by decide +kernel
theorem dX5_gcd_44 : decode cX5_gcd 44 = .ok (.getfield 19, 3) := by decide +kernel
theorem dX5_gcd_47 : decode cX5_gcd 47 = .ok (.iload_n 3, 1) := by decide +kernel
theorem dX5_gcd_48 : decode cX5_gcd 48 = .ok (.aaload, 1) := by decide +kernel
theorem dX5_gcd_49 : decode cX5_gcd 49 = .ok (.invokevirtual 81, 3) := by decide +kernel
theorem dX5_gcd_52 : decode cX5_gcd 52 = .ok (.iconst 0, 1) := by decide +kernel
theorem dX5_gcd_53 : decode cX5_gcd 53 = .ok (.istore 4, 2) := by decide +kernel
theorem dX5_gcd_55 : decode cX5_gcd 55 = .ok (.iload 4, 2) := by decide +kernel
theorem dX5_gcd_57 : decode cX5_gcd 57 = .ok (.ldc 129, 2) := by decide +kernel
theorem dX5_gcd_59 : decode cX5_gcd 59 = .ok (.if_icmp .ge 59, 3) := by decide +kernel
theorem dX5_gcd_62 : decode cX5_gcd 62 = .ok (.aload_n 0, 1) := by decide +kernel
theorem dX5_gcd_63 : decode cX5_gcd 63 = .ok (.getfield 33, 3) := by decide +kernel
theorem dX5_gcd_66 : decode cX5_gcd 66 = .ok (.invokevirtual 96, 3) := by decide +kernel
theorem dX5_gcd_69 : decode cX5_gcd 69 = .ok (.ifCond .ne 49, 3) := by decide +kernel
theorem dX5_gcd_72 : decode cX5_gcd 72 = .ok (.aload_n 0, 1) := by decide +kernel
theorem dX5_gcd_73 : decode cX5_gcd 73 = .ok (.getfield 48, 3) := by decide +kernel
theorem dX5_gcd_76 : decode cX5_gcd 76 = .ok (.aload_n 0, 1) := by decide +kernel
theorem dX5_gcd_77 : decode cX5_gcd 77 = .ok (.getfield 30, 3) := by decide +kernel
theorem dX5_gcd_80 : decode cX5_gcd 80 = .ok (.aload_n 0, 1) := by decide +kernel
theorem dX5_gcd_81 : decode cX5_gcd 81 = .ok (.getfield 33, 3) := by decide +kernel
theorem dX5_gcd_84 : decode cX5_gcd 84 = .ok (.invokevirtual 107, 3) := by decide +kernel
theorem dX5_gcd_87 : decode cX5_gcd 87 = .ok (.aload_n 0, 1) := by decide +kernel
theorem dX5_gcd_88 : decode cX5_gcd 88 = .ok (.getfield 30, 3) := by decide +kernel
theorem dX5_gcd_91 : decode cX5_gcd 91 = .ok (.aload_n 0, 1) := by decide +kernel
theorem dX5_gcd_92 : decode cX5_gcd 92 = .ok (.getfield 33, 3) := by decide +kernel
theorem dX5_gcd_95 : decode cX5_gcd 95 = .ok (.invokevirtual 81, 3) := by decide +kernel
theorem dX5_gcd_98 : decode cX5_gcd 98 = .ok (.aload_n 0, 1) := by decide +kernel
theorem dX5_gcd_99 : decode cX5_gcd 99 = .ok (.getfield 33, 3) := by decide +kernel
theorem dX5_gcd_102 : decode cX5_gcd 102 = .ok (.aload_n 0, 1) := by decide +kernel
theorem dX5_gcd_103 : decode cX5_gcd 103 = .ok (.getfield 48, 3) := by decide +kernel
theorem dX5_gcd_106 : decode cX5_gcd 106 = .ok (.getfield 114, 3) := by decide +kernel
theorem dX5_gcd_109 : decode cX5_gcd 109 = .ok (.invokevirtual 81, 3) := by decide +kernel
theorem dX5_gcd_112 : decode cX5_gcd 112 = .ok (.iinc 4 1, 3) := by decide +kernel
theorem dX5_gcd_115 : decode cX5_gcd 115 = .ok (.goto (-60), 3) := by decide +kernel
theorem dX5_gcd_118 : decode cX5_gcd 118 = .ok (.aload_n 0, 1) := by decide +kernel
theorem dX5_gcd_119 : decode cX5_gcd 119 = .ok (.getfield 30, 3) := by decide +kernel
theorem dX5_gcd_122 : decode cX5_gcd 122 = .ok (.iconst 0, 1) := by decide +kernel
theorem dX5_gcd_123 : decode cX5_gcd 123 = .ok (.putfield 88, 3) := by decide +kernel
theorem dX5_gcd_126 : decode cX5_gcd 126 = .ok (.aload_n 0, 1) := by decide +kernel
theorem dX5_gcd_127 : decode cX5_gcd 127 = .ok (.getfield 19, 3) := by decide +kernel
theorem dX5_gcd_130 : decode cX5_gcd 130 = .ok (.iload_n 1, 1) := by decide +kernel
theorem dX5_gcd_131 : decode cX5_gcd 131 = .ok (.aaload, 1) := by decide +kernel
theorem dX5_gcd_132 : decode cX5_gcd 132 = .ok (.aload_n 0, 1) := by decide +kernel
theorem dX5_gcd_133 : decode cX5_gcd 133 = .ok (.getfield 30, 3) := by decide +kernel
theorem dX5_gcd_136 : decode cX5_gcd 136 = .ok (.invokevirtual 81, 3) := by decide +kernel
theorem dX5_gcd_139 : decode cX5_gcd 139 = .ok (.iconst 0, 1) := by decide +kernel
theorem dX5_gcd_140 : decode cX5_gcd 140 = .ok (.ireturn, 1) := by decide +kernel
set_option maxRecDepth 20000 in
theorem ggX5_powMod_X5_isNone : GoodIn wsX5_powMod wsX5_isNone := goodIn_r _ [10, 1, 196, 197, 198, 199, 200, 201, 202, 203, 204] rfl (by decide +kernel)
set_option maxRecDepth 20000 in
theorem gX5_powMod_X5_isNone : GoodIn wsX5_powMod (wsV RX5 66 RX5 yX5_isNone wsX5_isNone) := goodIn_app (goodIn_of _ (by decide +kernel)) ggX5_powMod_X5_isNone
set_option maxRecDepth 20000 in
theorem ggX5_powMod_X4_isZero : GoodIn wsX5_powMod wsX4_isZero := goodIn_r _ [15, 16, 205, 206, 207] rfl (by decide +kernel)
set_option maxRecDepth 20000 in
theorem gX5_powMod_X4_isZero : GoodIn wsX5_powMod (wsV RX5 96 RX4 yX4_isZero wsX4_isZero) := goodIn_app (goodIn_of _ (by decide +kernel)) ggX5_powMod_X4_isZero
set_option maxRecDepth 20000 in
theorem ggX5_powMod_X5_reduceToFirst : GoodIn wsX5_powMod wsX5_reduceToFirst := goodIn_r _ [20, 21, 22, 2, 5, 23, 24, 25, 26, 27, 28, 29, 30, 31, 12, 13, 14, 15, 16, 32, 33, 34, 35, 36, 37, 38, 39, 40, 41, 42, 43, 44, 45, 46, 47, 48, 49, 50, 51, 52, 53, 54, 55, 56, 57, 58, 59, 60, 61, 62, 63, 64, 65, 66, 67, 68, 69, 70, 71, 72, 73, 74, 75, 76, 77, 78, 79, 80, 81, 82, 83, 84, 85, 86, 87, 88, 89, 90, 91, 92, 93, 94, 95, 96, 97, 98, 99, 100, 101, 102, 103, 104, 105, 106, 107, 108, 109, 110, 111, 112, 113, 114, 115, 116, 117, 118, 119, 120, 121, 122, 123, 124, 196, 197, 198, 199, 200, 201, 202, 203, 204, 208, 209, 210, 211, 205, 206, 207] rfl (by decide +kernel)
set_option maxRecDepth 20000 in
theorem gX5_powMod_X5_reduceToFirst : GoodIn wsX5_powMod (wsV RX5 130 RX5 yX5_reduceToFirst wsX5_reduceToFirst) := goodIn_app (goodIn_of _ (by decide +kernel)) ggX5_powMod_X5_reduceToFirst
set_option maxRecDepth 20000 in
theorem ggX5_powMod_X5_oneToSecond : GoodIn wsX5_powMod wsX5_oneToSecond := goodIn_r _ [128, 4, 21, 22, 129, 33, 34, 14, 35, 36, 37, 38, 39, 40, 41, 42, 43, 44, 16, 45, 23, 24, 25, 26, 27, 28, 29, 30, 31, 12, 13, 15, 32, 46, 47, 48, 49, 50, 51, 52, 53, 54, 55, 56, 57, 58, 59, 60, 61, 62, 63, 64, 65, 66, 67, 68, 69, 70, 71, 72, 73, 74, 75, 76, 77, 78, 79, 80, 81, 82, 83, 84, 85, 86, 87, 88, 89, 90, 91, 92, 93, 94, 95, 96, 97, 98, 99, 100, 101, 102, 103, 124, 196, 197, 198, 199, 200, 201, 202, 203, 204, 208, 209, 210, 211, 205, 206, 207] rfl (by decide +kernel)
set_option maxRecDepth 20000 in
theorem gX5_powMod_X5_oneToSecond : GoodIn wsX5_powMod (wsV RX5 133 RX5 yX5_oneToSecond wsX5_oneToSecond) := goodIn_app (goodIn_of _ (by decide +kernel)) ggX5_powMod_X5_oneToSecond
set_option maxRecDepth 20000 in
theorem ggX5_powMod_X4_bits : GoodIn wsX5_powMod wsX4_bits := goodIn_r _ [133, 16, 36, 134, 77, 78, 79, 80, 205, 206, 207] rfl (by decide +kernel)
set_option maxRecDepth 20000 in
theorem gX5_powMod_X4_bits : GoodIn wsX5_powMod (wsV RX5 117 RX4 yX4_bits wsX4_bits) := goodIn_app (goodIn_of _ (by decide +kernel)) ggX5_powMod_X4_bits
set_option maxRecDepth 20000 in
theorem ggX5_powMod_X5_multiplySecond : GoodIn wsX5_powMod wsX5_multiplySecond := goodIn_r _ [138, 139, 140, 4, 21, 22, 141, 142, 143, 144, 145, 146, 147, 148, 149, 150, 56, 57, 58, 151, 152, 153, 154, 155, 156, 157, 158, 159, 160, 161, 162, 163, 164, 165, 166, 167, 168, 169, 170, 171, 172, 173, 174, 175, 176, 177, 39, 178, 179, 180, 181, 182, 183, 184, 185, 186, 187, 188, 189, 190, 191, 42, 43, 14, 44, 16, 36, 45, 23, 24, 25, 26, 27, 28, 29, 30, 31, 12, 13, 15, 32, 33, 34, 35, 37, 38, 40, 41, 46, 47, 48, 49, 50, 51, 52, 53, 54, 55, 59, 60, 61, 62, 63, 64, 65, 66, 67, 68, 69, 70, 71, 72, 73, 74, 75, 76, 77, 78, 79, 80, 81, 82, 83, 84, 85, 86, 87, 88, 89, 90, 91, 92, 93, 94, 95, 96, 97, 98, 99, 100, 101, 102, 103, 124, 196, 197, 198, 199, 200, 201, 202, 203, 204, 208, 209, 210, 211, 205, 206, 207, 212, 213, 214, 215, 216, 217] rfl (by decide +kernel)
set_option maxRecDepth 20000 in
theorem gX5_powMod_X5_multiplySecond : GoodIn wsX5_powMod (wsV RX5 136 RX5 yX5_multiplySecond wsX5_multiplySecond) := goodIn_app (goodIn_of _ (by decide +kernel)) ggX5_powMod_X5_multiplySecond
set_option maxRecDepth 20000 in
theorem ggX5_powMod_X4_hasBit : GoodIn wsX5_powMod wsX4_hasBit := goodIn_r _ [195, 16, 36, 205, 206, 207] rfl (by decide +kernel)
set_option maxRecDepth 20000 in
theorem gX5_powMod_X4_hasBit : GoodIn wsX5_powMod (wsV RX5 139 RX4 yX4_hasBit wsX4_hasBit) := goodIn_app (goodIn_of _ (by decide +kernel)) ggX5_powMod_X4_hasBit
set_option maxRecDepth 20000 in
theorem ggX5_powMod_X4_become : GoodIn wsX5_powMod wsX4_become := goodIn_r _ [54, 36, 16, 55, 56, 57, 58, 45, 205, 206, 207] rfl (by decide +kernel)
set_option maxRecDepth 20000 in
theorem gX5_powMod_X4_become : GoodIn wsX5_powMod (wsV RX5 81 RX4 yX4_become wsX4_become) := goodIn_app (goodIn_of _ (by decide +kernel)) ggX5_powMod_X4_become
theorem dX5_powMod_0 : decode cX5_powMod 0 = .ok (.aload_n 0, 1) := by decide +kernel
theorem dX5_powMod_1 : decode cX5_powMod 1 = .ok (.iload_n 1, 1) := by decide +kernel
theorem dX5_powMod_2 : decode cX5_powMod 2 = .ok (.invokevirtual 66, 3) := by decide +kernel
theorem dX5_powMod_5 : decode cX5_powMod 5 = .ok (.ifCond .ne 28, 3) := by decide +kernel
theorem dX5_powMod_8 : decode cX5_powMod 8 = .ok (.aload_n 0, 1) := by decide +kernel
theorem dX5_powMod_9 : decode cX5_powMod 9 = .ok (.iload_n 2, 1) := by decide +kernel
theorem dX5_powMod_10 : decode cX5_powMod 10 = .ok (.invokevirtual 66, 3) := by decide +kernel
theorem dX5_powMod_13 : decode cX5_powMod 13 = .ok (.ifCond .ne 20, 3) := by decide +kernel
theorem dX5_powMod_16 : decode cX5_powMod 16 = .ok (.aload_n 0, 1) := by decide +kernel
theorem dX5_powMod_17 : decode cX5_powMod 17 = .ok (.iload_n 3, 1) := by decide +kernel
theorem dX5_powMod_18 : decode cX5_powMod 18 = .ok (.invokevirtual 66, 3) := by decide +kernel
theorem dX5_powMod_21 : decode cX5_powMod 21 = .ok (.ifCond .ne 12, 3) := by decide +kernel
theorem dX5_powMod_24 : decode cX5_powMod 24 = .ok (.aload_n 0, 1) := by decide +kernel
theorem dX5_powMod_25 : decode cX5_powMod 25 = .ok (.iload 4, 2) := by decide +kernel
theorem dX5_powMod_27 : decode cX5_powMod 27 = .ok (.invokevirtual 66, 3) := by decide +kernel
theorem dX5_powMod_30 : decode cX5_powMod 30 = .ok (.ifCond .eq 5, 3) := by decide +kernel
theorem dX5_powMod_33 : decode cX5_powMod 33 = .ok (.iconst (-1), 1) := by decide +kernel
theorem dX5_powMod_34 : decode cX5_powMod 34 = .ok (.ireturn, 1) := by decide +kernel
theorem dX5_powMod_35 : decode cX5_powMod 35 = .ok (.aload_n 0, 1) := by decide +kernel
theorem dX5_powMod_36 : decode cX5_powMod 36 = .ok (.getfield 19, 3) := by decide +kernel
theorem dX5_powMod_39 : decode cX5_powMod 39 = .ok (.iload 4, 2) := by decide +kernel
theorem dX5_powMod_41 : decode cX5_powMod 41 = .ok (.aaload, 1) := by decide +kernel
theorem dX5_powMod_42 : decode cX5_powMod 42 = .ok (.getfield 88, 3) := by decide +kernel
theorem dX5_powMod_45 : decode cX5_powMod 45 = .ok (.ifCond .ne 41, 3) := by decide +kernel
theorem dX5_powMod_48 : decode cX5_powMod 48 = .ok (.aload_n 0, 1) := by decide +kernel
theorem dX5_powMod_49 : decode cX5_powMod 49 = .ok (.getfield 19, 3) := by decide +kernel
theorem dX5_powMod_52 : decode cX5_powMod 52 = .ok (.iload 4, 2) := by decide +kernel
theorem dX5_powMod_54 : decode cX5_powMod 54 = .ok (.aaload, 1) := by decide +kernel
theorem dX5_powMod_55 : decode cX5_powMod 55 = .ok (.invokevirtual 96, 3) := by decide +kernel
theorem dX5_powMod_58 : decode cX5_powMod 58 = .ok (.ifCond .ne 28, 3) := by decide +kernel
theorem dX5_powMod_61 : decode cX5_powMod 61 = .ok (.aload_n 0, 1) := by decide +kernel
theorem dX5_powMod_62 : decode cX5_powMod 62 = .ok (.getfield 19, 3) := by decide +kernel
theorem dX5_powMod_65 : decode cX5_powMod 65 = .ok (.iload_n 3, 1) := by decide +kernel
theorem dX5_powMod_66 : decode cX5_powMod 66 = .ok (.aaload, 1) := by decide +kernel
theorem dX5_powMod_67 : decode cX5_powMod 67 = .ok (.getfield 88, 3) := by decide +kernel
theorem dX5_powMod_70 : decode cX5_powMod 70 = .ok (.ifCond .ne 16, 3) := by decide +kernel
theorem dX5_powMod_73 : decode cX5_powMod 73 = .ok (.aload_n 0, 1) := by decide +kernel
theorem dX5_powMod_74 : decode cX5_powMod 74 = .ok (.getfield 19, 3) := by decide +kernel
theorem dX5_powMod_77 : decode cX5_powMod 77 = .ok (.iload_n 3, 1) := by decide +kernel
theorem dX5_powMod_78 : decode cX5_powMod 78 = .ok (.aaload, 1) := by decide +kernel
theorem dX5_powMod_79 : decode cX5_powMod 79 = .ok (.getfield 100, 3) := by decide +kernel
theorem dX5_powMod_82 : decode cX5_powMod 82 = .ok (.iconst 2, 1) := by decide +kernel
theorem dX5_powMod_83 : decode cX5_powMod 83 = .ok (.if_icmp .le 6, 3) := by decide +kernel
theorem dX5_powMod_86 : decode cX5_powMod 86 = .ok (.bipush (-2), 2) := by decide +kernel
theorem dX5_powMod_88 : decode cX5_powMod 88 = .ok (.ireturn, 1) := by decide +kernel
theorem dX5_powMod_89 : decode cX5_powMod 89 = .ok (.aload_n 0, 1) := by decide +kernel
theorem dX5_powMod_90 : decode cX5_powMod 90 = .ok (.aload_n 0, 1) := by decide +kernel
theorem dX5_powMod_91 : decode cX5_powMod 91 = .ok (.getfield 19, 3) := by decide +kernel
theorem dX5_powMod_94 : decode cX5_powMod 94 = .ok (.iload_n 2, 1) := by decide +kernel
theorem dX5_powMod_95 : decode cX5_powMod 95 = .ok (.aaload, 1) := by decide +kernel
theorem dX5_powMod_96 : decode cX5_powMod 96 = .ok (.aload_n 0, 1) := by decide +kernel
theorem dX5_powMod_97 : decode cX5_powMod 97 = .ok (.getfield 19, 3) := by decide +kernel
theorem dX5_powMod_100 : decode cX5_powMod 100 = .ok (.iload 4, 2) := by decide +kernel
theorem dX5_powMod_102 : decode cX5_powMod 102 = .ok (.aaload, 1) := by decide +kernel
theorem dX5_powMod_103 : decode cX5_powMod 103 = .ok (.invokevirtual 130, 3) := by decide +kernel
theorem dX5_powMod_106 : decode cX5_powMod 106 = .ok (.aload_n 0, 1) := by decide +kernel
theorem dX5_powMod_107 : decode cX5_powMod 107 = .ok (.aload_n 0, 1) := by decide +kernel
theorem dX5_powMod_108 : decode cX5_powMod 108 = .ok (.getfield 19, 3) := by decide +kernel
theorem dX5_powMod_111 : decode cX5_powMod 111 = .ok (.iload 4, 2) := by decide +kernel
theorem dX5_powMod_113 : decode cX5_powMod 113 = .ok (.aaload, 1) := by decide +kernel
theorem dX5_powMod_114 : decode cX5_powMod 114 = .ok (.invokevirtual 133, 3) := by decide +kernel
theorem dX5_powMod_117 : decode cX5_powMod 117 = .ok (.aload_n 0, 1) := by decide +kernel
theorem dX5_powMod_118 : decode cX5_powMod 118 = .ok (.getfield 19, 3) := by decide +kernel
theorem dX5_powMod_121 : decode cX5_powMod 121 = .ok (.iload_n 3, 1) := by decide +kernel
theorem dX5_powMod_122 : decode cX5_powMod 122 = .ok (.aaload, 1) := by decide +kernel
theorem dX5_powMod_123 : decode cX5_powMod 123 = .ok (.invokevirtual 117, 3) := by decide +kernel
theorem dX5_powMod_126 : decode cX5_powMod 126 = .ok (.iconst 1, 1) := by decide +kernel
theorem dX5_powMod_127 : decode cX5_powMod 127 = .ok (.isub, 1) := by decide +kernel
theorem dX5_powMod_128 : decode cX5_powMod 128 = .ok (.istore 5, 2) := by decide +kernel
theorem dX5_powMod_130 : decode cX5_powMod 130 = .ok (.iload 5, 2) := by decide +kernel
theorem dX5_powMod_132 : decode cX5_powMod 132 = .ok (.ifCond .lt 53, 3) := by decide +kernel
theorem dX5_powMod_135 : decode cX5_powMod 135 = .ok (.aload_n 0, 1) := by decide +kernel
theorem dX5_powMod_136 : decode cX5_powMod 136 = .ok (.aload_n 0, 1) := by decide +kernel
theorem dX5_powMod_137 : decode cX5_powMod 137 = .ok (.getfield 33, 3) := by decide +kernel
theorem dX5_powMod_140 : decode cX5_powMod 140 = .ok (.aload_n 0, 1) := by decide +kernel
theorem dX5_powMod_141 : decode cX5_powMod 141 = .ok (.getfield 19, 3) := by decide +kernel
theorem dX5_powMod_144 : decode cX5_powMod 144 = .ok (.iload 4, 2) := by decide +kernel
theorem dX5_powMod_146 : decode cX5_powMod 146 = .ok (.aaload, 1) := by decide +kernel
theorem dX5_powMod_147 : decode cX5_powMod 147 = .ok (.invokevirtual 136, 3) := by decide +kernel
theorem dX5_powMod_150 : decode cX5_powMod 150 = .ok (.aload_n 0, 1) := by decide +kernel
theorem dX5_powMod_151 : decode cX5_powMod 151 = .ok (.getfield 19, 3) := by decide +kernel
theorem dX5_powMod_154 : decode cX5_powMod 154 = .ok (.iload_n 3, 1) := by decide +kernel
theorem dX5_powMod_155 : decode cX5_powMod 155 = .ok (.aaload, 1) := by decide +kernel
theorem dX5_powMod_156 : decode cX5_powMod 156 = .ok (.iload 5, 2) := by decide +kernel
theorem dX5_powMod_158 : decode cX5_powMod 158 = .ok (.invokevirtual 139, 3) := by decide +kernel
theorem dX5_powMod_161 : decode cX5_powMod 161 = .ok (.ifCond .eq 18, 3) := by decide +kernel
theorem dX5_powMod_164 : decode cX5_powMod 164 = .ok (.aload_n 0, 1) := by decide +kernel
theorem dX5_powMod_165 : decode cX5_powMod 165 = .ok (.aload_n 0, 1) := by decide +kernel
theorem dX5_powMod_166 : decode cX5_powMod 166 = .ok (.getfield 30, 3) := by decide +kernel
theorem dX5_powMod_169 : decode cX5_powMod 169 = .ok (.aload_n 0, 1) := by decide +kernel
theorem dX5_powMod_170 : decode cX5_powMod 170 = .ok (.getfield 19, 3) := by decide +kernel
theorem dX5_powMod_173 : decode cX5_powMod 173 = .ok (.iload 4, 2) := by decide +kernel
theorem dX5_powMod_175 : decode cX5_powMod 175 = .ok (.aaload, 1) := by decide +kernel
theorem dX5_powMod_176 : decode cX5_powMod 176 = .ok (.invokevirtual 136, 3) := by decide +kernel
theorem dX5_powMod_179 : decode cX5_powMod 179 = .ok (.iinc 5 (-1), 3) := by decide +kernel
theorem dX5_powMod_182 : decode cX5_powMod 182 = .ok (.goto (-52), 3) := by decide +kernel
theorem dX5_powMod_185 : decode cX5_powMod 185 = .ok (.aload_n 0, 1) := by decide +kernel
theorem dX5_powMod_186 : decode cX5_powMod 186 = .ok (.getfield 19, 3) := by decide +kernel
theorem dX5_powMod_189 : decode cX5_powMod 189 = .ok (.iload_n 1, 1) := by decide +kernel
theorem dX5_powMod_190 : decode cX5_powMod 190 = .ok (.aaload, 1) := by decide +kernel
theorem dX5_powMod_191 : decode cX5_powMod 191 = .ok (.aload_n 0, 1) := by decide +kernel
theorem dX5_powMod_192 : decode cX5_powMod 192 = .ok (.getfield 33, 3) := by decide +kernel
theorem dX5_powMod_195 : decode cX5_powMod 195 = .ok (.invokevirtual 81, 3) := by decide +kernel
theorem dX5_powMod_198 : decode cX5_powMod 198 = .ok (.iconst 0, 1) := by decide +kernel
theorem dX5_powMod_199 : decode cX5_powMod 199 = .ok (.ireturn, 1) := by decide +kernel
set_option maxRecDepth 20000 in
theorem ggX5_root_X5_isNone : GoodIn wsX5_root wsX5_isNone := goodIn_r _ [8, 1, 160, 161, 162, 163, 164, 165, 166, 167, 168] rfl (by decide +kernel)
set_option maxRecDepth 20000 in
theorem gX5_root_X5_isNone : GoodIn wsX5_root (wsV RX5 66 RX5 yX5_isNone wsX5_isNone) := goodIn_app (goodIn_of _ (by decide +kernel)) ggX5_root_X5_isNone
set_option maxRecDepth 20000 in
theorem ggX5_root_X5_rootToFirst : GoodIn wsX5_root wsX5_rootToFirst := goodIn_r _ [12, 3, 13, 14, 15, 16, 17, 18, 19, 20, 21, 22, 23, 24, 25, 26, 27, 28, 29, 30, 31, 32, 33, 34, 35, 36, 37, 38, 39, 40, 41, 42, 43, 44, 45, 46, 47, 48, 49, 50, 51, 52, 53, 54, 55, 56, 57, 58, 59, 60, 61, 62, 63, 64, 65, 66, 67, 68, 69, 70, 71, 72, 73, 74, 75, 76, 77, 78, 79, 80, 81, 82, 83, 84, 85, 86, 87, 88, 89, 90, 91, 92, 93, 94, 95, 96, 97, 98, 99, 100, 101, 102, 103, 104, 105, 106, 107, 108, 109, 110, 111, 112, 113, 114, 115, 116, 117, 118, 119, 120, 121, 122, 123, 124, 125, 126, 127, 128, 129, 130, 131, 132, 133, 134, 135, 136, 137, 138, 139, 140, 141, 142, 143, 144, 145, 146, 147, 148, 149, 150, 151, 152, 153, 154, 155, 156, 157, 158, 159, 160, 161, 162, 163, 164, 165, 166, 167, 168, 172, 173, 174, 175, 169, 170, 171] rfl (by decide +kernel)
set_option maxRecDepth 20000 in
theorem gX5_root_X5_rootToFirst : GoodIn wsX5_root (wsV RX5 142 RX5 yX5_rootToFirst wsX5_rootToFirst) := goodIn_app (goodIn_of _ (by decide +kernel)) ggX5_root_X5_rootToFirst
set_option maxRecDepth 20000 in
theorem ggX5_root_X4_become : GoodIn wsX5_root wsX4_become := goodIn_r _ [76, 28, 23, 77, 78, 79, 80, 37, 169, 170, 171] rfl (by decide +kernel)
set_option maxRecDepth 20000 in
theorem gX5_root_X4_become : GoodIn wsX5_root (wsV RX5 81 RX4 yX4_become wsX4_become) := goodIn_app (goodIn_of _ (by decide +kernel)) ggX5_root_X4_become
theorem dX5_root_0 : decode cX5_root 0 = .ok (.aload_n 0, 1) := by decide +kernel
theorem dX5_root_1 : decode cX5_root 1 = .ok (.iload_n 1, 1) := by decide +kernel
theorem dX5_root_2 : decode cX5_root 2 = .ok (.invokevirtual 66, 3) := by decide +kernel
theorem dX5_root_5 : decode cX5_root 5 = .ok (.ifCond .ne 11, 3) := by decide +kernel
theorem dX5_root_8 : decode cX5_root 8 = .ok (.aload_n 0, 1) := by decide +kernel
theorem dX5_root_9 : decode cX5_root 9 = .ok (.iload_n 2, 1) := by decide +kernel
theorem dX5_root_10 : decode cX5_root 10 = .ok (.invokevirtual 66, 3) := by decide +kernel
theorem dX5_root_13 : decode cX5_root 13 = .ok (.ifCond .eq 5, 3) := by decide +kernel
theorem dX5_root_16 : decode cX5_root 16 = .ok (.iconst (-1), 1) := by decide +kernel
theorem dX5_root_17 : decode cX5_root 17 = .ok (.ireturn, 1) := by decide +kernel
theorem dX5_root_18 : decode cX5_root 18 = .ok (.aload_n 0, 1) := by decide +kernel
theorem dX5_root_19 : decode cX5_root 19 = .ok (.getfield 19, 3) := by decide +kernel
theorem dX5_root_22 : decode cX5_root 22 = .ok (.iload_n 2, 1) := by decide +kernel
theorem dX5_root_23 : decode cX5_root 23 = .ok (.aaload, 1) := by decide +kernel
theorem dX5_root_24 : decode cX5_root 24 = .ok (.getfield 88, 3) := by decide +kernel
theorem dX5_root_27 : decode cX5_root 27 = .ok (.ifCond .eq 6, 3) := by decide +kernel
theorem dX5_root_30 : decode cX5_root 30 = .ok (.bipush (-2), 2) := by decide +kernel
theorem dX5_root_32 : decode cX5_root 32 = .ok (.ireturn, 1) := by decide +kernel
theorem dX5_root_33 : decode cX5_root 33 = .ok (.aload_n 0, 1) := by decide +kernel
theorem dX5_root_34 : decode cX5_root 34 = .ok (.aload_n 0, 1) := by decide +kernel
theorem dX5_root_35 : decode cX5_root 35 = .ok (.getfield 19, 3) := by decide +kernel
theorem dX5_root_38 : decode cX5_root 38 = .ok (.iload_n 2, 1) := by decide +kernel
theorem dX5_root_39 : decode cX5_root 39 = .ok (.aaload, 1) := by decide +kernel
theorem dX5_root_40 : decode cX5_root 40 = .ok (.invokevirtual 142, 3) := by decide +kernel
theorem dX5_root_43 : decode cX5_root 43 = .ok (.aload_n 0, 1) := by decide +kernel
theorem dX5_root_44 : decode cX5_root 44 = .ok (.getfield 19, 3) := by decide +kernel
theorem dX5_root_47 : decode cX5_root 47 = .ok (.iload_n 1, 1) := by decide +kernel
theorem dX5_root_48 : decode cX5_root 48 = .ok (.aaload, 1) := by decide +kernel
theorem dX5_root_49 : decode cX5_root 49 = .ok (.aload_n 0, 1) := by decide +kernel
theorem dX5_root_50 : decode cX5_root 50 = .ok (.getfield 30, 3) := by decide +kernel
theorem dX5_root_53 : decode cX5_root 53 = .ok (.invokevirtual 81, 3) := by decide +kernel
theorem dX5_root_56 : decode cX5_root 56 = .ok (.iconst 0, 1) := by decide +kernel
theorem dX5_root_57 : decode cX5_root 57 = .ok (.ireturn, 1) := by decide +kernel
set_option maxRecDepth 20000 in
theorem ggX5_cmp_X5_isNone : GoodIn wsX5_cmp wsX5_isNone := goodIn_r _ [6, 1, 20, 21, 22, 23, 24, 25, 26, 27, 28] rfl (by decide +kernel)
set_option maxRecDepth 20000 in
theorem gX5_cmp_X5_isNone : GoodIn wsX5_cmp (wsV RX5 66 RX5 yX5_isNone wsX5_isNone) := goodIn_app (goodIn_of _ (by decide +kernel)) ggX5_cmp_X5_isNone
set_option maxRecDepth 20000 in
theorem ggX5_cmp_X4_compareValue : GoodIn wsX5_cmp wsX4_compareValue := goodIn_r _ [11, 12, 13, 14, 15, 10, 16, 17, 18, 19, 29, 30, 31] rfl (by decide +kernel)
set_option maxRecDepth 20000 in
theorem gX5_cmp_X4_compareValue : GoodIn wsX5_cmp (wsV RX5 145 RX4 yX4_compareValue wsX4_compareValue) := goodIn_app (goodIn_of _ (by decide +kernel)) ggX5_cmp_X4_compareValue
theorem dX5_cmp_0 : decode cX5_cmp 0 = .ok (.aload_n 0, 1) := by decide +kernel
theorem dX5_cmp_1 : decode cX5_cmp 1 = .ok (.iload_n 1, 1) := by decide +kernel
theorem dX5_cmp_2 : decode cX5_cmp 2 = .ok (.invokevirtual 66, 3) := by decide +kernel
theorem dX5_cmp_5 : decode cX5_cmp 5 = .ok (.ifCond .ne 11, 3) := by decide +kernel
theorem dX5_cmp_8 : decode cX5_cmp 8 = .ok (.aload_n 0, 1) := by decide +kernel
theorem dX5_cmp_9 : decode cX5_cmp 9 = .ok (.iload_n 2, 1) := by decide +kernel
theorem dX5_cmp_10 : decode cX5_cmp 10 = .ok (.invokevirtual 66, 3) := by decide +kernel
theorem dX5_cmp_13 : decode cX5_cmp 13 = .ok (.ifCond .eq 5, 3) := by decide +kernel
theorem dX5_cmp_16 : decode cX5_cmp 16 = .ok (.iconst 2, 1) := by decide +kernel
theorem dX5_cmp_17 : decode cX5_cmp 17 = .ok (.ireturn, 1) := by decide +kernel
theorem dX5_cmp_18 : decode cX5_cmp 18 = .ok (.aload_n 0, 1) := by decide +kernel
theorem dX5_cmp_19 : decode cX5_cmp 19 = .ok (.getfield 19, 3) := by decide +kernel
theorem dX5_cmp_22 : decode cX5_cmp 22 = .ok (.iload_n 1, 1) := by decide +kernel
theorem dX5_cmp_23 : decode cX5_cmp 23 = .ok (.aaload, 1) := by decide +kernel
theorem dX5_cmp_24 : decode cX5_cmp 24 = .ok (.aload_n 0, 1) := by decide +kernel
theorem dX5_cmp_25 : decode cX5_cmp 25 = .ok (.getfield 19, 3) := by decide +kernel
theorem dX5_cmp_28 : decode cX5_cmp 28 = .ok (.iload_n 2, 1) := by decide +kernel
theorem dX5_cmp_29 : decode cX5_cmp 29 = .ok (.aaload, 1) := by decide +kernel
theorem dX5_cmp_30 : decode cX5_cmp 30 = .ok (.invokevirtual 145, 3) := by decide +kernel
theorem dX5_cmp_33 : decode cX5_cmp 33 = .ok (.ireturn, 1) := by decide +kernel
set_option maxRecDepth 20000 in
theorem ggX5_sign_X5_isNone : GoodIn wsX5_sign wsX5_isNone := goodIn_r _ [6, 1, 14, 15, 16, 17, 18, 19, 20, 21, 22] rfl (by decide +kernel)
set_option maxRecDepth 20000 in
theorem gX5_sign_X5_isNone : GoodIn wsX5_sign (wsV RX5 66 RX5 yX5_isNone wsX5_isNone) := goodIn_app (goodIn_of _ (by decide +kernel)) ggX5_sign_X5_isNone
set_option maxRecDepth 20000 in
theorem ggX5_sign_X4_side : GoodIn wsX5_sign wsX4_side := goodIn_r _ [11, 12, 13, 23, 24, 25] rfl (by decide +kernel)
set_option maxRecDepth 20000 in
theorem gX5_sign_X4_side : GoodIn wsX5_sign (wsV RX5 149 RX4 yX4_side wsX4_side) := goodIn_app (goodIn_of _ (by decide +kernel)) ggX5_sign_X4_side
theorem dX5_sign_0 : decode cX5_sign 0 = .ok (.aload_n 0, 1) := by decide +kernel
theorem dX5_sign_1 : decode cX5_sign 1 = .ok (.iload_n 1, 1) := by decide +kernel
theorem dX5_sign_2 : decode cX5_sign 2 = .ok (.invokevirtual 66, 3) := by decide +kernel
theorem dX5_sign_5 : decode cX5_sign 5 = .ok (.ifCond .eq 5, 3) := by decide +kernel
theorem dX5_sign_8 : decode cX5_sign 8 = .ok (.iconst 2, 1) := by decide +kernel
theorem dX5_sign_9 : decode cX5_sign 9 = .ok (.ireturn, 1) := by decide +kernel
theorem dX5_sign_10 : decode cX5_sign 10 = .ok (.aload_n 0, 1) := by decide +kernel
theorem dX5_sign_11 : decode cX5_sign 11 = .ok (.getfield 19, 3) := by decide +kernel
theorem dX5_sign_14 : decode cX5_sign 14 = .ok (.iload_n 1, 1) := by decide +kernel
theorem dX5_sign_15 : decode cX5_sign 15 = .ok (.aaload, 1) := by decide +kernel
theorem dX5_sign_16 : decode cX5_sign 16 = .ok (.invokevirtual 149, 3) := by decide +kernel
theorem dX5_sign_19 : decode cX5_sign 19 = .ok (.ireturn, 1) := by decide +kernel
set_option maxRecDepth 20000 in
theorem ggX5_length_X5_isNone : GoodIn wsX5_length wsX5_isNone := goodIn_r _ [7, 1, 20, 21, 22, 23, 24, 25, 26, 27, 28] rfl (by decide +kernel)
