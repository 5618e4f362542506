theorem dX4_init_0 : decode cX4_init 0 = .ok (.aload_n 0, 1) := by decide +kernel
theorem dX4_init_1 : decode cX4_init 1 = .ok (.invokespecial 1, 3) := by decide +kernel
theorem dX4_init_4 : decode cX4_init 4 = .ok (.aload_n 0, 1) := by decide +kernel
theorem dX4_init_5 : decode cX4_init 5 = .ok (.iload_n 1, 1) := by decide +kernel
theorem dX4_init_6 : decode cX4_init 6 = .ok (.newarray .int, 2) := by decide +kernel
theorem dX4_init_8 : decode cX4_init 8 = .ok (.putfield 7, 3) := by decide +kernel
theorem dX4_init_11 : decode cX4_init 11 = .ok (.aload_n 0, 1) := by decide +kernel
theorem dX4_init_12 : decode cX4_init 12 = .ok (.iconst 0, 1) := by decide +kernel
theorem dX4_init_13 : decode cX4_init 13 = .ok (.putfield 13, 3) := by decide +kernel
theorem dX4_init_16 : decode cX4_init 16 = .ok (.aload_n 0, 1) := by decide +kernel
theorem dX4_init_17 : decode cX4_init 17 = .ok (.iconst 0, 1) := by decide +kernel
theorem dX4_init_18 : decode cX4_init 18 = .ok (.putfield 17, 3) := by decide +kernel
theorem dX4_init_21 : decode cX4_init 21 = .ok (.return_, 1) := by decide +kernel
theorem dX4_isZero_0 : decode cX4_isZero 0 = .ok (.aload_n 0, 1) := by decide +kernel
theorem dX4_isZero_1 : decode cX4_isZero 1 = .ok (.getfield 13, 3) := by decide +kernel
theorem dX4_isZero_4 : decode cX4_isZero 4 = .ok (.ifCond .ne 7, 3) := by decide +kernel
theorem dX4_isZero_7 : decode cX4_isZero 7 = .ok (.iconst 1, 1) := by decide +kernel
theorem dX4_isZero_8 : decode cX4_isZero 8 = .ok (.goto 4, 3) := by decide +kernel
theorem dX4_isZero_11 : decode cX4_isZero 11 = .ok (.iconst 0, 1) := by decide +kernel
theorem dX4_isZero_12 : decode cX4_isZero 12 = .ok (.ireturn, 1) := by decide +kernel
theorem dX4_side_0 : decode cX4_side 0 = .ok (.aload_n 0, 1) := by decide +kernel
theorem dX4_side_1 : decode cX4_side 1 = .ok (.getfield 13, 3) := by decide +kernel
theorem dX4_side_4 : decode cX4_side 4 = .ok (.ifCond .ne 5, 3) := by decide +kernel
theorem dX4_side_7 : decode cX4_side 7 = .ok (.iconst 0, 1) := by decide +kernel
theorem dX4_side_8 : decode cX4_side 8 = .ok (.ireturn, 1) := by decide +kernel
theorem dX4_side_9 : decode cX4_side 9 = .ok (.aload_n 0, 1) := by decide +kernel
theorem dX4_side_10 : decode cX4_side 10 = .ok (.getfield 17, 3) := by decide +kernel
theorem dX4_side_13 : decode cX4_side 13 = .ok (.ifCond .eq 7, 3) := by decide +kernel
theorem dX4_side_16 : decode cX4_side 16 = .ok (.iconst (-1), 1) := by decide +kernel
theorem dX4_side_17 : decode cX4_side 17 = .ok (.goto 4, 3) := by decide +kernel
theorem dX4_side_20 : decode cX4_side 20 = .ok (.iconst 1, 1) := by decide +kernel
theorem dX4_side_21 : decode cX4_side 21 = .ok (.ireturn, 1) := by decide +kernel
theorem dX4_turnSign_0 : decode cX4_turnSign 0 = .ok (.aload_n 0, 1) := by decide +kernel
theorem dX4_turnSign_1 : decode cX4_turnSign 1 = .ok (.aload_n 0, 1) := by decide +kernel
theorem dX4_turnSign_2 : decode cX4_turnSign 2 = .ok (.getfield 17, 3) := by decide +kernel
theorem dX4_turnSign_5 : decode cX4_turnSign 5 = .ok (.ifCond .ne 14, 3) := by decide +kernel
theorem dX4_turnSign_8 : decode cX4_turnSign 8 = .ok (.aload_n 0, 1) := by decide +kernel
theorem dX4_turnSign_9 : decode cX4_turnSign 9 = .ok (.getfield 13, 3) := by decide +kernel
theorem dX4_turnSign_12 : decode cX4_turnSign 12 = .ok (.ifCond .le 7, 3) := by decide +kernel
theorem dX4_turnSign_15 : decode cX4_turnSign 15 = .ok (.iconst 1, 1) := by decide +kernel
theorem dX4_turnSign_16 : decode cX4_turnSign 16 = .ok (.goto 4, 3) := by decide +kernel
theorem dX4_turnSign_19 : decode cX4_turnSign 19 = .ok (.iconst 0, 1) := by decide +kernel
theorem dX4_turnSign_20 : decode cX4_turnSign 20 = .ok (.putfield 17, 3) := by decide +kernel
theorem dX4_turnSign_23 : decode cX4_turnSign 23 = .ok (.return_, 1) := by decide +kernel
set_option maxRecDepth 20000 in
theorem ggX4_bits_J6_numberOfLeadingZeros_0f7a4 : GoodIn wsX4_bits wsJ6_numberOfLeadingZeros_0f7a4 := goodIn_r _ [6, 7] rfl (by decide +kernel)
set_option maxRecDepth 20000 in
theorem gX4_bits_J6_numberOfLeadingZeros_0f7a4 : GoodIn wsX4_bits (va_wsS RX4 21 yJ6_numberOfLeadingZeros_0f7a4 wsJ6_numberOfLeadingZeros_0f7a4) := goodIn_app (goodIn_of _ (by decide +kernel)) ggX4_bits_J6_numberOfLeadingZeros_0f7a4
theorem dX4_bits_0 : decode cX4_bits 0 = .ok (.aload_n 0, 1) := by decide +kernel
theorem dX4_bits_1 : decode cX4_bits 1 = .ok (.getfield 13, 3) := by decide +kernel
theorem dX4_bits_4 : decode cX4_bits 4 = .ok (.ifCond .ne 5, 3) := by decide +kernel
theorem dX4_bits_7 : decode cX4_bits 7 = .ok (.iconst 0, 1) := by decide +kernel
theorem dX4_bits_8 : decode cX4_bits 8 = .ok (.ireturn, 1) := by decide +kernel
theorem dX4_bits_9 : decode cX4_bits 9 = .ok (.aload_n 0, 1) := by decide +kernel
theorem dX4_bits_10 : decode cX4_bits 10 = .ok (.getfield 13, 3) := by decide +kernel
theorem dX4_bits_13 : decode cX4_bits 13 = .ok (.bipush 32, 2) := by decide +kernel
theorem dX4_bits_15 : decode cX4_bits 15 = .ok (.imul, 1) := by decide +kernel
theorem dX4_bits_16 : decode cX4_bits 16 = .ok (.aload_n 0, 1) := by decide +kernel
theorem dX4_bits_17 : decode cX4_bits 17 = .ok (.getfield 7, 3) := by decide +kernel
theorem dX4_bits_20 : decode cX4_bits 20 = .ok (.aload_n 0, 1) := by decide +kernel
theorem dX4_bits_21 : decode cX4_bits 21 = .ok (.getfield 13, 3) := by decide +kernel
theorem dX4_bits_24 : decode cX4_bits 24 = .ok (.iconst 1, 1) := by decide +kernel
theorem dX4_bits_25 : decode cX4_bits 25 = .ok (.isub, 1) := by decide +kernel
theorem dX4_bits_26 : decode cX4_bits 26 = .ok (.iaload, 1) := by decide +kernel
theorem dX4_bits_27 : decode cX4_bits 27 = .ok (.invokestatic 21, 3) := by decide +kernel
theorem dX4_bits_30 : decode cX4_bits 30 = .ok (.isub, 1) := by decide +kernel
theorem dX4_bits_31 : decode cX4_bits 31 = .ok (.ireturn, 1) := by decide +kernel
theorem dX4_hasBit_0 : decode cX4_hasBit 0 = .ok (.iload_n 1, 1) := by decide +kernel
theorem dX4_hasBit_1 : decode cX4_hasBit 1 = .ok (.bipush 32, 2) := by decide +kernel
theorem dX4_hasBit_3 : decode cX4_hasBit 3 = .ok (.idiv, 1) := by decide +kernel
theorem dX4_hasBit_4 : decode cX4_hasBit 4 = .ok (.istore_n 2, 1) := by decide +kernel
theorem dX4_hasBit_5 : decode cX4_hasBit 5 = .ok (.iload_n 2, 1) := by decide +kernel
theorem dX4_hasBit_6 : decode cX4_hasBit 6 = .ok (.aload_n 0, 1) := by decide +kernel
theorem dX4_hasBit_7 : decode cX4_hasBit 7 = .ok (.getfield 13, 3) := by decide +kernel
theorem dX4_hasBit_10 : decode cX4_hasBit 10 = .ok (.if_icmp .ge 23, 3) := by decide +kernel
theorem dX4_hasBit_13 : decode cX4_hasBit 13 = .ok (.aload_n 0, 1) := by decide +kernel
theorem dX4_hasBit_14 : decode cX4_hasBit 14 = .ok (.getfield 7, 3) := by decide +kernel
theorem dX4_hasBit_17 : decode cX4_hasBit 17 = .ok (.iload_n 2, 1) := by decide +kernel
theorem dX4_hasBit_18 : decode cX4_hasBit 18 = .ok (.iaload, 1) := by decide +kernel
theorem dX4_hasBit_19 : decode cX4_hasBit 19 = .ok (.iload_n 1, 1) := by decide +kernel
theorem dX4_hasBit_20 : decode cX4_hasBit 20 = .ok (.bipush 32, 2) := by decide +kernel
theorem dX4_hasBit_22 : decode cX4_hasBit 22 = .ok (.irem, 1) := by decide +kernel
theorem dX4_hasBit_23 : decode cX4_hasBit 23 = .ok (.iushr, 1) := by decide +kernel
theorem dX4_hasBit_24 : decode cX4_hasBit 24 = .ok (.iconst 1, 1) := by decide +kernel
theorem dX4_hasBit_25 : decode cX4_hasBit 25 = .ok (.iand, 1) := by decide +kernel
theorem dX4_hasBit_26 : decode cX4_hasBit 26 = .ok (.ifCond .eq 7, 3) := by decide +kernel
theorem dX4_hasBit_29 : decode cX4_hasBit 29 = .ok (.iconst 1, 1) := by decide +kernel
theorem dX4_hasBit_30 : decode cX4_hasBit 30 = .ok (.goto 4, 3) := by decide +kernel
theorem dX4_hasBit_33 : decode cX4_hasBit 33 = .ok (.iconst 0, 1) := by decide +kernel
theorem dX4_hasBit_34 : decode cX4_hasBit 34 = .ok (.ireturn, 1) := by decide +kernel
set_option maxRecDepth 20000 in
theorem ggX4_compareValue_X4_compareSize : GoodIn wsX4_compareValue wsX4_compareSize := goodIn_r _ [6, 7, 8, 9, 10, 11, 12] rfl (by decide +kernel)
set_option maxRecDepth 20000 in
theorem gX4_compareValue_X4_compareSize : GoodIn wsX4_compareValue (wsV RX4 27 RX4 yX4_compareSize wsX4_compareSize) := goodIn_app (goodIn_of _ (by decide +kernel)) ggX4_compareValue_X4_compareSize
theorem dX4_compareValue_0 : decode cX4_compareValue 0 = .ok (.aload_n 0, 1) := by decide +kernel
theorem dX4_compareValue_1 : decode cX4_compareValue 1 = .ok (.getfield 17, 3) := by decide +kernel
theorem dX4_compareValue_4 : decode cX4_compareValue 4 = .ok (.aload_n 1, 1) := by decide +kernel
theorem dX4_compareValue_5 : decode cX4_compareValue 5 = .ok (.getfield 17, 3) := by decide +kernel
theorem dX4_compareValue_8 : decode cX4_compareValue 8 = .ok (.if_icmp .eq 16, 3) := by decide +kernel
theorem dX4_compareValue_11 : decode cX4_compareValue 11 = .ok (.aload_n 0, 1) := by decide +kernel
theorem dX4_compareValue_12 : decode cX4_compareValue 12 = .ok (.getfield 17, 3) := by decide +kernel
theorem dX4_compareValue_15 : decode cX4_compareValue 15 = .ok (.ifCond .eq 7, 3) := by decide +kernel
theorem dX4_compareValue_18 : decode cX4_compareValue 18 = .ok (.iconst (-1), 1) := by decide +kernel
theorem dX4_compareValue_19 : decode cX4_compareValue 19 = .ok (.goto 4, 3) := by decide +kernel
theorem dX4_compareValue_22 : decode cX4_compareValue 22 = .ok (.iconst 1, 1) := by decide +kernel
theorem dX4_compareValue_23 : decode cX4_compareValue 23 = .ok (.ireturn, 1) := by decide +kernel
theorem dX4_compareValue_24 : decode cX4_compareValue 24 = .ok (.aload_n 0, 1) := by decide +kernel
theorem dX4_compareValue_25 : decode cX4_compareValue 25 = .ok (.getfield 17, 3) := by decide +kernel
theorem dX4_compareValue_28 : decode cX4_compareValue 28 = .ok (.ifCond .eq 11, 3) := by decide +kernel
theorem dX4_compareValue_31 : decode cX4_compareValue 31 = .ok (.aload_n 1, 1) := by decide +kernel
theorem dX4_compareValue_32 : decode cX4_compareValue 32 = .ok (.aload_n 0, 1) := by decide +kernel
theorem dX4_compareValue_33 : decode cX4_compareValue 33 = .ok (.invokevirtual 27, 3) := by decide +kernel
theorem dX4_compareValue_36 : decode cX4_compareValue 36 = .ok (.goto 8, 3) := by decide +kernel
theorem dX4_compareValue_39 : decode cX4_compareValue 39 = .ok (.aload_n 0, 1) := by decide +kernel
theorem dX4_compareValue_40 : decode cX4_compareValue 40 = .ok (.aload_n 1, 1) := by decide +kernel
theorem dX4_compareValue_41 : decode cX4_compareValue 41 = .ok (.invokevirtual 27, 3) := by decide +kernel
theorem dX4_compareValue_44 : decode cX4_compareValue 44 = .ok (.ireturn, 1) := by decide +kernel
theorem dX4_compareSize_0 : decode cX4_compareSize 0 = .ok (.aload_n 0, 1) := by decide +kernel
theorem dX4_compareSize_1 : decode cX4_compareSize 1 = .ok (.getfield 13, 3) := by decide +kernel
theorem dX4_compareSize_4 : decode cX4_compareSize 4 = .ok (.aload_n 1, 1) := by decide +kernel
theorem dX4_compareSize_5 : decode cX4_compareSize 5 = .ok (.getfield 13, 3) := by decide +kernel
theorem dX4_compareSize_8 : decode cX4_compareSize 8 = .ok (.if_icmp .eq 20, 3) := by decide +kernel
theorem dX4_compareSize_11 : decode cX4_compareSize 11 = .ok (.aload_n 0, 1) := by decide +kernel
theorem dX4_compareSize_12 : decode cX4_compareSize 12 = .ok (.getfield 13, 3) := by decide +kernel
theorem dX4_compareSize_15 : decode cX4_compareSize 15 = .ok (.aload_n 1, 1) := by decide +kernel
theorem dX4_compareSize_16 : decode cX4_compareSize 16 = .ok (.getfield 13, 3) := by decide +kernel
theorem dX4_compareSize_19 : decode cX4_compareSize 19 = .ok (.if_icmp .ge 7, 3) := by decide +kernel
theorem dX4_compareSize_22 : decode cX4_compareSize 22 = .ok (.iconst (-1), 1) := by decide +kernel
theorem dX4_compareSize_23 : decode cX4_compareSize 23 = .ok (.goto 4, 3) := by decide +kernel
theorem dX4_compareSize_26 : decode cX4_compareSize 26 = .ok (.iconst 1, 1) := by decide +kernel
theorem dX4_compareSize_27 : decode cX4_compareSize 27 = .ok (.ireturn, 1) := by decide +kernel
theorem dX4_compareSize_28 : decode cX4_compareSize 28 = .ok (.aload_n 0, 1) := by decide +kernel
theorem dX4_compareSize_29 : decode cX4_compareSize 29 = .ok (.getfield 13, 3) := by decide +kernel
theorem dX4_compareSize_32 : decode cX4_compareSize 32 = .ok (.iconst 1, 1) := by decide +kernel
theorem dX4_compareSize_33 : decode cX4_compareSize 33 = .ok (.isub, 1) := by decide +kernel
theorem dX4_compareSize_34 : decode cX4_compareSize 34 = .ok (.istore_n 2, 1) := by decide +kernel
theorem dX4_compareSize_35 : decode cX4_compareSize 35 = .ok (.iload_n 2, 1) := by decide +kernel
theorem dX4_compareSize_36 : decode cX4_compareSize 36 = .ok (.ifCond .lt 56, 3) := by decide +kernel
theorem dX4_compareSize_39 : decode cX4_compareSize 39 = .ok (.aload_n 0, 1) := by decide +kernel
theorem dX4_compareSize_40 : decode cX4_compareSize 40 = .ok (.getfield 7, 3) := by decide +kernel
theorem dX4_compareSize_43 : decode cX4_compareSize 43 = .ok (.iload_n 2, 1) := by decide +kernel
theorem dX4_compareSize_44 : decode cX4_compareSize 44 = .ok (.iaload, 1) := by decide +kernel
theorem dX4_compareSize_45 : decode cX4_compareSize 45 = .ok (.aload_n 1, 1) := by decide +kernel
theorem dX4_compareSize_46 : decode cX4_compareSize 46 = .ok (.getfield 7, 3) := by decide +kernel
theorem dX4_compareSize_49 : decode cX4_compareSize 49 = .ok (.iload_n 2, 1) := by decide +kernel
theorem dX4_compareSize_50 : decode cX4_compareSize 50 = .ok (.iaload, 1) := by decide +kernel
theorem dX4_compareSize_51 : decode cX4_compareSize 51 = .ok (.if_icmp .eq 35, 3) := by decide +kernel
theorem dX4_compareSize_54 : decode cX4_compareSize 54 = .ok (.aload_n 0, 1) := by decide +kernel
theorem dX4_compareSize_55 : decode cX4_compareSize 55 = .ok (.getfield 7, 3) := by decide +kernel
theorem dX4_compareSize_58 : decode cX4_compareSize 58 = .ok (.iload_n 2, 1) := by decide +kernel
theorem dX4_compareSize_59 : decode cX4_compareSize 59 = .ok (.iaload, 1) := by decide +kernel
theorem dX4_compareSize_60 : decode cX4_compareSize 60 = .ok (.i2l, 1) := by decide +kernel
theorem dX4_compareSize_61 : decode cX4_compareSize 61 = .ok (.ldc2_w 31, 3) := by decide +kernel
theorem dX4_compareSize_64 : decode cX4_compareSize 64 = .ok (.land, 1) := by decide +kernel
theorem dX4_compareSize_65 : decode cX4_compareSize 65 = .ok (.aload_n 1, 1) := by decide +kernel
theorem dX4_compareSize_66 : decode cX4_compareSize 66 = .ok (.getfield 7, 3) := by decide +kernel
theorem dX4_compareSize_69 : decode cX4_compareSize 69 = .ok (.iload_n 2, 1) := by decide +kernel
theorem dX4_compareSize_70 : decode cX4_compareSize 70 = .ok (.iaload, 1) := by decide +kernel
theorem dX4_compareSize_71 : decode cX4_compareSize 71 = .ok (.i2l, 1) := by decide +kernel
theorem dX4_compareSize_72 : decode cX4_compareSize 72 = .ok (.ldc2_w 31, 3) := by decide +kernel
theorem dX4_compareSize_75 : decode cX4_compareSize 75 = .ok (.land, 1) := by decide +kernel
theorem dX4_compareSize_76 : decode cX4_compareSize 76 = .ok (.lcmp, 1) := by decide +kernel
theorem dX4_compareSize_77 : decode cX4_compareSize 77 = .ok (.ifCond .ge 7, 3) := by decide +kernel
theorem dX4_compareSize_80 : decode cX4_compareSize 80 = .ok (.iconst (-1), 1) := by decide +kernel
theorem dX4_compareSize_81 : decode cX4_compareSize 81 = .ok (.goto 4, 3) := by decide +kernel
theorem dX4_compareSize_84 : decode cX4_compareSize 84 = .ok (.iconst 1, 1) := by decide +kernel
theorem dX4_compareSize_85 : decode cX4_compareSize 85 = .ok (.ireturn, 1) := by decide +kernel
theorem dX4_compareSize_86 : decode cX4_compareSize 86 = .ok (.iinc 2 (-1), 3) := by decide +kernel
theorem dX4_compareSize_89 : decode cX4_compareSize 89 = .ok (.goto (-54), 3) := by decide +kernel
theorem dX4_compareSize_92 : decode cX4_compareSize 92 = .ok (.iconst 0, 1) := by decide +kernel
theorem dX4_compareSize_93 : decode cX4_compareSize 93 = .ok (.ireturn, 1) := by decide +kernel
theorem dX4_settle_0 : decode cX4_settle 0 = .ok (.aload_n 0, 1) := by decide +kernel
theorem dX4_settle_1 : decode cX4_settle 1 = .ok (.iload_n 1, 1) := by decide +kernel
theorem dX4_settle_2 : decode cX4_settle 2 = .ok (.putfield 13, 3) := by decide +kernel
theorem dX4_settle_5 : decode cX4_settle 5 = .ok (.aload_n 0, 1) := by decide +kernel
theorem dX4_settle_6 : decode cX4_settle 6 = .ok (.getfield 13, 3) := by decide +kernel
theorem dX4_settle_9 : decode cX4_settle 9 = .ok (.ifCond .le 30, 3) := by decide +kernel
theorem dX4_settle_12 : decode cX4_settle 12 = .ok (.aload_n 0, 1) := by decide +kernel
theorem dX4_settle_13 : decode cX4_settle 13 = .ok (.getfield 7, 3) := by decide +kernel
theorem dX4_settle_16 : decode cX4_settle 16 = .ok (.aload_n 0, 1) := by decide +kernel
theorem dX4_settle_17 : decode cX4_settle 17 = .ok (.getfield 13, 3) := by decide +kernel
theorem dX4_settle_20 : decode cX4_settle 20 = .ok (.iconst 1, 1) := by decide +kernel
theorem dX4_settle_21 : decode cX4_settle 21 = .ok (.isub, 1) := by decide +kernel
theorem dX4_settle_22 : decode cX4_settle 22 = .ok (.iaload, 1) := by decide +kernel
theorem dX4_settle_23 : decode cX4_settle 23 = .ok (.ifCond .ne 16, 3) := by decide +kernel
theorem dX4_settle_26 : decode cX4_settle 26 = .ok (.aload_n 0, 1) := by decide +kernel
theorem dX4_settle_27 : decode cX4_settle 27 = .ok (.dup, 1) := by decide +kernel
theorem dX4_settle_28 : decode cX4_settle 28 = .ok (.getfield 13, 3) := by decide +kernel
theorem dX4_settle_31 : decode cX4_settle 31 = .ok (.iconst 1, 1) := by decide +kernel
theorem dX4_settle_32 : decode cX4_settle 32 = .ok (.isub, 1) := by decide +kernel
theorem dX4_settle_33 : decode cX4_settle 33 = .ok (.putfield 13, 3) := by decide +kernel
theorem dX4_settle_36 : decode cX4_settle 36 = .ok (.goto (-31), 3) := by decide +kernel
theorem dX4_settle_39 : decode cX4_settle 39 = .ok (.aload_n 0, 1) := by decide +kernel
theorem dX4_settle_40 : decode cX4_settle 40 = .ok (.iload_n 2, 1) := by decide +kernel
theorem dX4_settle_41 : decode cX4_settle 41 = .ok (.ifCond .eq 14, 3) := by decide +kernel
theorem dX4_settle_44 : decode cX4_settle 44 = .ok (.aload_n 0, 1) := by decide +kernel
theorem dX4_settle_45 : decode cX4_settle 45 = .ok (.getfield 13, 3) := by decide +kernel
theorem dX4_settle_48 : decode cX4_settle 48 = .ok (.ifCond .le 7, 3) := by decide +kernel
theorem dX4_settle_51 : decode cX4_settle 51 = .ok (.iconst 1, 1) := by decide +kernel
theorem dX4_settle_52 : decode cX4_settle 52 = .ok (.goto 4, 3) := by decide +kernel
theorem dX4_settle_55 : decode cX4_settle 55 = .ok (.iconst 0, 1) := by decide +kernel
theorem dX4_settle_56 : decode cX4_settle 56 = .ok (.putfield 17, 3) := by decide +kernel
theorem dX4_settle_59 : decode cX4_settle 59 = .ok (.return_, 1) := by decide +kernel
theorem dX4_become_0 : decode cX4_become 0 = .ok (.aload_n 1, 1) := by decide +kernel
theorem dX4_become_1 : decode cX4_become 1 = .ok (.getfield 7, 3) := by decide +kernel
theorem dX4_become_4 : decode cX4_become 4 = .ok (.iconst 0, 1) := by decide +kernel
theorem dX4_become_5 : decode cX4_become 5 = .ok (.aload_n 0, 1) := by decide +kernel
theorem dX4_become_6 : decode cX4_become 6 = .ok (.getfield 7, 3) := by decide +kernel
theorem dX4_become_9 : decode cX4_become 9 = .ok (.iconst 0, 1) := by decide +kernel
theorem dX4_become_10 : decode cX4_become 10 = .ok (.aload_n 1, 1) := by decide +kernel
theorem dX4_become_11 : decode cX4_become 11 = .ok (.getfield 13, 3) := by decide +kernel
theorem dX4_become_14 : decode cX4_become 14 = .ok (.invokestatic 33, 3) := by decide +kernel
theorem dX4_become_17 : decode cX4_become 17 = .ok (.aload_n 0, 1) := by decide +kernel
theorem dX4_become_18 : decode cX4_become 18 = .ok (.aload_n 1, 1) := by decide +kernel
theorem dX4_become_19 : decode cX4_become 19 = .ok (.getfield 13, 3) := by decide +kernel
theorem dX4_become_22 : decode cX4_become 22 = .ok (.putfield 13, 3) := by decide +kernel
theorem dX4_become_25 : decode cX4_become 25 = .ok (.aload_n 0, 1) := by decide +kernel
theorem dX4_become_26 : decode cX4_become 26 = .ok (.aload_n 1, 1) := by decide +kernel
theorem dX4_become_27 : decode cX4_become 27 = .ok (.getfield 17, 3) := by decide +kernel
theorem dX4_become_30 : decode cX4_become 30 = .ok (.putfield 17, 3) := by decide +kernel
theorem dX4_become_33 : decode cX4_become 33 = .ok (.return_, 1) := by decide +kernel
set_option maxRecDepth 20000 in
theorem ggX4_becomeInt_X4_settle : GoodIn wsX4_becomeInt wsX4_settle := goodIn_r _ [10, 11, 1, 12, 13, 14, 15] rfl (by decide +kernel)
set_option maxRecDepth 20000 in
theorem gX4_becomeInt_X4_settle : GoodIn wsX4_becomeInt (wsV RX4 45 RX4 yX4_settle wsX4_settle) := goodIn_app (goodIn_of _ (by decide +kernel)) ggX4_becomeInt_X4_settle
theorem dX4_becomeInt_0 : decode cX4_becomeInt 0 = .ok (.aload_n 0, 1) := by decide +kernel
theorem dX4_becomeInt_1 : decode cX4_becomeInt 1 = .ok (.getfield 7, 3) := by decide +kernel
theorem dX4_becomeInt_4 : decode cX4_becomeInt 4 = .ok (.iconst 0, 1) := by decide +kernel
theorem dX4_becomeInt_5 : decode cX4_becomeInt 5 = .ok (.iload_n 1, 1) := by decide +kernel
theorem dX4_becomeInt_6 : decode cX4_becomeInt 6 = .ok (.i2l, 1) := by decide +kernel
theorem dX4_becomeInt_7 : decode cX4_becomeInt 7 = .ok (.invokestatic 39, 3) := by decide +kernel
theorem dX4_becomeInt_10 : decode cX4_becomeInt 10 = .ok (.l2i, 1) := by decide +kernel
theorem dX4_becomeInt_11 : decode cX4_becomeInt 11 = .ok (.iastore, 1) := by decide +kernel
theorem dX4_becomeInt_12 : decode cX4_becomeInt 12 = .ok (.aload_n 0, 1) := by decide +kernel
theorem dX4_becomeInt_13 : decode cX4_becomeInt 13 = .ok (.iconst 1, 1) := by decide +kernel
theorem dX4_becomeInt_14 : decode cX4_becomeInt 14 = .ok (.iload_n 1, 1) := by decide +kernel
theorem dX4_becomeInt_15 : decode cX4_becomeInt 15 = .ok (.ifCond .ge 7, 3) := by decide +kernel
theorem dX4_becomeInt_18 : decode cX4_becomeInt 18 = .ok (.iconst 1, 1) := by decide +kernel
theorem dX4_becomeInt_19 : decode cX4_becomeInt 19 = .ok (.goto 4, 3) := by decide +kernel
theorem dX4_becomeInt_22 : decode cX4_becomeInt 22 = .ok (.iconst 0, 1) := by decide +kernel
theorem dX4_becomeInt_23 : decode cX4_becomeInt 23 = .ok (.invokevirtual 45, 3) := by decide +kernel
theorem dX4_becomeInt_26 : decode cX4_becomeInt 26 = .ok (.return_, 1) := by decide +kernel
set_option maxRecDepth 20000 in
theorem ggX4_becomePowerOfTwo_J7_fill_fda19 : GoodIn wsX4_becomePowerOfTwo wsJ7_fill_fda19 := goodIn_r _ [5, 6, 7, 4, 8] rfl (by decide +kernel)
set_option maxRecDepth 20000 in
theorem gX4_becomePowerOfTwo_J7_fill_fda19 : GoodIn wsX4_becomePowerOfTwo (va_wsS RX4 49 yJ7_fill_fda19 wsJ7_fill_fda19) := goodIn_app (goodIn_of _ (by decide +kernel)) ggX4_becomePowerOfTwo_J7_fill_fda19
set_option maxRecDepth 20000 in
theorem ggX4_becomePowerOfTwo_X4_settle : GoodIn wsX4_becomePowerOfTwo wsX4_settle := goodIn_r _ [13, 14, 1, 15, 16, 17, 18] rfl (by decide +kernel)
set_option maxRecDepth 20000 in
theorem gX4_becomePowerOfTwo_X4_settle : GoodIn wsX4_becomePowerOfTwo (wsV RX4 45 RX4 yX4_settle wsX4_settle) := goodIn_app (goodIn_of _ (by decide +kernel)) ggX4_becomePowerOfTwo_X4_settle
theorem dX4_becomePowerOfTwo_0 : decode cX4_becomePowerOfTwo 0 = .ok (.iload_n 1, 1) := by decide +kernel
theorem dX4_becomePowerOfTwo_1 : decode cX4_becomePowerOfTwo 1 = .ok (.bipush 32, 2) := by decide +kernel
theorem dX4_becomePowerOfTwo_3 : decode cX4_becomePowerOfTwo 3 = .ok (.idiv, 1) := by decide +kernel
theorem dX4_becomePowerOfTwo_4 : decode cX4_becomePowerOfTwo 4 = .ok (.istore_n 2, 1) := by decide +kernel
theorem dX4_becomePowerOfTwo_5 : decode cX4_becomePowerOfTwo 5 = .ok (.aload_n 0, 1) := by decide +kernel
theorem dX4_becomePowerOfTwo_6 : decode cX4_becomePowerOfTwo 6 = .ok (.getfield 7, 3) := by decide +kernel
theorem dX4_becomePowerOfTwo_9 : decode cX4_becomePowerOfTwo 9 = .ok (.iconst 0, 1) := by decide +kernel
theorem dX4_becomePowerOfTwo_10 : decode cX4_becomePowerOfTwo 10 = .ok (.iload_n 2, 1) := by decide +kernel
theorem dX4_becomePowerOfTwo_11 : decode cX4_becomePowerOfTwo 11 = .ok (.iconst 0, 1) := by decide +kernel
theorem dX4_becomePowerOfTwo_12 : decode cX4_becomePowerOfTwo 12 = .ok (.invokestatic 49, 3) := by decide +kernel
theorem dX4_becomePowerOfTwo_15 : decode cX4_becomePowerOfTwo 15 = .ok (.aload_n 0, 1) := by decide +kernel
theorem dX4_becomePowerOfTwo_16 : decode cX4_becomePowerOfTwo 16 = .ok (.getfield 7, 3) := by decide +kernel
theorem dX4_becomePowerOfTwo_19 : decode cX4_becomePowerOfTwo 19 = .ok (.iload_n 2, 1) := by decide +kernel
theorem dX4_becomePowerOfTwo_20 : decode cX4_becomePowerOfTwo 20 = .ok (.iconst 1, 1) := by decide +kernel
theorem dX4_becomePowerOfTwo_21 : decode cX4_becomePowerOfTwo 21 = .ok (.iload_n 1, 1) := by decide +kernel
theorem dX4_becomePowerOfTwo_22 : decode cX4_becomePowerOfTwo 22 = .ok (.bipush 32, 2) := by decide +kernel
theorem dX4_becomePowerOfTwo_24 : decode cX4_becomePowerOfTwo 24 = .ok (.irem, 1) := by decide +kernel
theorem dX4_becomePowerOfTwo_25 : decode cX4_becomePowerOfTwo 25 = .ok (.ishl, 1) := by decide +kernel
theorem dX4_becomePowerOfTwo_26 : decode cX4_becomePowerOfTwo 26 = .ok (.iastore, 1) := by decide +kernel
theorem dX4_becomePowerOfTwo_27 : decode cX4_becomePowerOfTwo 27 = .ok (.aload_n 0, 1) := by decide +kernel
theorem dX4_becomePowerOfTwo_28 : decode cX4_becomePowerOfTwo 28 = .ok (.iload_n 2, 1) := by decide +kernel
theorem dX4_becomePowerOfTwo_29 : decode cX4_becomePowerOfTwo 29 = .ok (.iconst 1, 1) := by decide +kernel
theorem dX4_becomePowerOfTwo_30 : decode cX4_becomePowerOfTwo 30 = .ok (.iadd, 1) := by decide +kernel
theorem dX4_becomePowerOfTwo_31 : decode cX4_becomePowerOfTwo 31 = .ok (.iconst 0, 1) := by decide +kernel
theorem dX4_becomePowerOfTwo_32 : decode cX4_becomePowerOfTwo 32 = .ok (.invokevirtual 45, 3) := by decide +kernel
theorem dX4_becomePowerOfTwo_35 : decode cX4_becomePowerOfTwo 35 = .ok (.return_, 1) := by decide +kernel
set_option maxRecDepth 20000 in
theorem ggX4_becomePushed_X4_settle : GoodIn wsX4_becomePushed wsX4_settle := goodIn_r _ [12, 2, 1, 7, 13, 14, 15] rfl (by decide +kernel)
set_option maxRecDepth 20000 in
theorem gX4_becomePushed_X4_settle : GoodIn wsX4_becomePushed (wsV RX4 45 RX4 yX4_settle wsX4_settle) := goodIn_app (goodIn_of _ (by decide +kernel)) ggX4_becomePushed_X4_settle
theorem dX4_becomePushed_0 : decode cX4_becomePushed 0 = .ok (.aload_n 1, 1) := by decide +kernel
theorem dX4_becomePushed_1 : decode cX4_becomePushed 1 = .ok (.getfield 7, 3) := by decide +kernel
theorem dX4_becomePushed_4 : decode cX4_becomePushed 4 = .ok (.iconst 0, 1) := by decide +kernel
theorem dX4_becomePushed_5 : decode cX4_becomePushed 5 = .ok (.aload_n 0, 1) := by decide +kernel
theorem dX4_becomePushed_6 : decode cX4_becomePushed 6 = .ok (.getfield 7, 3) := by decide +kernel
theorem dX4_becomePushed_9 : decode cX4_becomePushed 9 = .ok (.iconst 1, 1) := by decide +kernel
theorem dX4_becomePushed_10 : decode cX4_becomePushed 10 = .ok (.aload_n 1, 1) := by decide +kernel
theorem dX4_becomePushed_11 : decode cX4_becomePushed 11 = .ok (.getfield 13, 3) := by decide +kernel
theorem dX4_becomePushed_14 : decode cX4_becomePushed 14 = .ok (.invokestatic 33, 3) := by decide +kernel
theorem dX4_becomePushed_17 : decode cX4_becomePushed 17 = .ok (.aload_n 0, 1) := by decide +kernel
theorem dX4_becomePushed_18 : decode cX4_becomePushed 18 = .ok (.getfield 7, 3) := by decide +kernel
theorem dX4_becomePushed_21 : decode cX4_becomePushed 21 = .ok (.iconst 0, 1) := by decide +kernel
theorem dX4_becomePushed_22 : decode cX4_becomePushed 22 = .ok (.iload_n 2, 1) := by decide +kernel
theorem dX4_becomePushed_23 : decode cX4_becomePushed 23 = .ok (.iastore, 1) := by decide +kernel
theorem dX4_becomePushed_24 : decode cX4_becomePushed 24 = .ok (.aload_n 0, 1) := by decide +kernel
theorem dX4_becomePushed_25 : decode cX4_becomePushed 25 = .ok (.aload_n 1, 1) := by decide +kernel
theorem dX4_becomePushed_26 : decode cX4_becomePushed 26 = .ok (.getfield 13, 3) := by decide +kernel
theorem dX4_becomePushed_29 : decode cX4_becomePushed 29 = .ok (.iconst 1, 1) := by decide +kernel
theorem dX4_becomePushed_30 : decode cX4_becomePushed 30 = .ok (.iadd, 1) := by decide +kernel
theorem dX4_becomePushed_31 : decode cX4_becomePushed 31 = .ok (.aload_n 1, 1) := by decide +kernel
theorem dX4_becomePushed_32 : decode cX4_becomePushed 32 = .ok (.getfield 17, 3) := by decide +kernel
theorem dX4_becomePushed_35 : decode cX4_becomePushed 35 = .ok (.invokevirtual 45, 3) := by decide +kernel
theorem dX4_becomePushed_38 : decode cX4_becomePushed 38 = .ok (.return_, 1) := by decide +kernel
set_option maxRecDepth 20000 in
theorem ggX4_becomeSum_X4_addSizes : GoodIn wsX4_becomeSum wsX4_addSizes := goodIn_r _ [11, 2, 3, 4, 5, 6, 12, 13, 14, 15, 10, 16, 17, 30, 31, 32] rfl (by decide +kernel)
set_option maxRecDepth 20000 in
theorem gX4_becomeSum_X4_addSizes : GoodIn wsX4_becomeSum (wsV RX4 55 RX4 yX4_addSizes wsX4_addSizes) := goodIn_app (goodIn_of _ (by decide +kernel)) ggX4_becomeSum_X4_addSizes
set_option maxRecDepth 20000 in
theorem ggX4_becomeSum_X4_settle : GoodIn wsX4_becomeSum wsX4_settle := goodIn_r _ [21, 2, 12, 1, 30, 31, 32] rfl (by decide +kernel)
set_option maxRecDepth 20000 in
theorem gX4_becomeSum_X4_settle : GoodIn wsX4_becomeSum (wsV RX4 45 RX4 yX4_settle wsX4_settle) := goodIn_app (goodIn_of _ (by decide +kernel)) ggX4_becomeSum_X4_settle
set_option maxRecDepth 20000 in
theorem ggX4_becomeSum_X4_compareSize : GoodIn wsX4_becomeSum wsX4_compareSize := goodIn_r _ [25, 2, 12, 17, 30, 31, 32] rfl (by decide +kernel)
set_option maxRecDepth 20000 in
theorem gX4_becomeSum_X4_compareSize : GoodIn wsX4_becomeSum (wsV RX4 27 RX4 yX4_compareSize wsX4_compareSize) := goodIn_app (goodIn_of _ (by decide +kernel)) ggX4_becomeSum_X4_compareSize
set_option maxRecDepth 20000 in
theorem ggX4_becomeSum_X4_subtractSizes : GoodIn wsX4_becomeSum wsX4_subtractSizes := goodIn_r _ [29, 2, 12, 13, 14, 15, 10, 16, 17, 30, 31, 32] rfl (by decide +kernel)
set_option maxRecDepth 20000 in
theorem gX4_becomeSum_X4_subtractSizes : GoodIn wsX4_becomeSum (wsV RX4 63 RX4 yX4_subtractSizes wsX4_subtractSizes) := goodIn_app (goodIn_of _ (by decide +kernel)) ggX4_becomeSum_X4_subtractSizes
theorem dX4_becomeSum_0 : decode cX4_becomeSum 0 = .ok (.aload_n 1, 1) := by decide +kernel
theorem dX4_becomeSum_1 : decode cX4_becomeSum 1 = .ok (.getfield 17, 3) := by decide +kernel
theorem dX4_becomeSum_4 : decode cX4_becomeSum 4 = .ok (.iload_n 3, 1) := by decide +kernel
theorem dX4_becomeSum_5 : decode cX4_becomeSum 5 = .ok (.if_icmp .ne 30, 3) := by decide +kernel
theorem dX4_becomeSum_8 : decode cX4_becomeSum 8 = .ok (.aload_n 0, 1) := by decide +kernel
theorem dX4_becomeSum_9 : decode cX4_becomeSum 9 = .ok (.aload_n 1, 1) := by decide +kernel
theorem dX4_becomeSum_10 : decode cX4_becomeSum 10 = .ok (.aload_n 2, 1) := by decide +kernel
theorem dX4_becomeSum_11 : decode cX4_becomeSum 11 = .ok (.invokevirtual 55, 3) := by decide +kernel
theorem dX4_becomeSum_14 : decode cX4_becomeSum 14 = .ok (.aload_n 0, 1) := by decide +kernel
theorem dX4_becomeSum_15 : decode cX4_becomeSum 15 = .ok (.aload_n 1, 1) := by decide +kernel
theorem dX4_becomeSum_16 : decode cX4_becomeSum 16 = .ok (.getfield 13, 3) := by decide +kernel
theorem dX4_becomeSum_19 : decode cX4_becomeSum 19 = .ok (.aload_n 2, 1) := by decide +kernel
theorem dX4_becomeSum_20 : decode cX4_becomeSum 20 = .ok (.getfield 13, 3) := by decide +kernel
theorem dX4_becomeSum_23 : decode cX4_becomeSum 23 = .ok (.invokestatic 59, 3) := by decide +kernel
theorem dX4_becomeSum_26 : decode cX4_becomeSum 26 = .ok (.iconst 1, 1) := by decide +kernel
theorem dX4_becomeSum_27 : decode cX4_becomeSum 27 = .ok (.iadd, 1) := by decide +kernel
theorem dX4_becomeSum_28 : decode cX4_becomeSum 28 = .ok (.iload_n 3, 1) := by decide +kernel
theorem dX4_becomeSum_29 : decode cX4_becomeSum 29 = .ok (.invokevirtual 45, 3) := by decide +kernel
theorem dX4_becomeSum_32 : decode cX4_becomeSum 32 = .ok (.goto 47, 3) := by decide +kernel
theorem dX4_becomeSum_35 : decode cX4_becomeSum 35 = .ok (.aload_n 1, 1) := by decide +kernel
theorem dX4_becomeSum_36 : decode cX4_becomeSum 36 = .ok (.aload_n 2, 1) := by decide +kernel
theorem dX4_becomeSum_37 : decode cX4_becomeSum 37 = .ok (.invokevirtual 27, 3) := by decide +kernel
theorem dX4_becomeSum_40 : decode cX4_becomeSum 40 = .ok (.ifCond .lt 24, 3) := by decide +kernel
theorem dX4_becomeSum_43 : decode cX4_becomeSum 43 = .ok (.aload_n 0, 1) := by decide +kernel
theorem dX4_becomeSum_44 : decode cX4_becomeSum 44 = .ok (.aload_n 1, 1) := by decide +kernel
theorem dX4_becomeSum_45 : decode cX4_becomeSum 45 = .ok (.aload_n 2, 1) := by decide +kernel
theorem dX4_becomeSum_46 : decode cX4_becomeSum 46 = .ok (.invokevirtual 63, 3) := by decide +kernel
theorem dX4_becomeSum_49 : decode cX4_becomeSum 49 = .ok (.aload_n 0, 1) := by decide +kernel
theorem dX4_becomeSum_50 : decode cX4_becomeSum 50 = .ok (.aload_n 1, 1) := by decide +kernel
theorem dX4_becomeSum_51 : decode cX4_becomeSum 51 = .ok (.getfield 13, 3) := by decide +kernel
theorem dX4_becomeSum_54 : decode cX4_becomeSum 54 = .ok (.aload_n 1, 1) := by decide +kernel
theorem dX4_becomeSum_55 : decode cX4_becomeSum 55 = .ok (.getfield 17, 3) := by decide +kernel
theorem dX4_becomeSum_58 : decode cX4_becomeSum 58 = .ok (.invokevirtual 45, 3) := by decide +kernel
theorem dX4_becomeSum_61 : decode cX4_becomeSum 61 = .ok (.goto 18, 3) := by decide +kernel
theorem dX4_becomeSum_64 : decode cX4_becomeSum 64 = .ok (.aload_n 0, 1) := by decide +kernel
theorem dX4_becomeSum_65 : decode cX4_becomeSum 65 = .ok (.aload_n 2, 1) := by decide +kernel
theorem dX4_becomeSum_66 : decode cX4_becomeSum 66 = .ok (.aload_n 1, 1) := by decide +kernel
theorem dX4_becomeSum_67 : decode cX4_becomeSum 67 = .ok (.invokevirtual 63, 3) := by decide +kernel
theorem dX4_becomeSum_70 : decode cX4_becomeSum 70 = .ok (.aload_n 0, 1) := by decide +kernel
theorem dX4_becomeSum_71 : decode cX4_becomeSum 71 = .ok (.aload_n 2, 1) := by decide +kernel
theorem dX4_becomeSum_72 : decode cX4_becomeSum 72 = .ok (.getfield 13, 3) := by decide +kernel
theorem dX4_becomeSum_75 : decode cX4_becomeSum 75 = .ok (.iload_n 3, 1) := by decide +kernel
theorem dX4_becomeSum_76 : decode cX4_becomeSum 76 = .ok (.invokevirtual 45, 3) := by decide +kernel
theorem dX4_becomeSum_79 : decode cX4_becomeSum 79 = .ok (.return_, 1) := by decide +kernel
set_option maxRecDepth 20000 in
theorem ggX4_addSizes_X4_limbOrZero : GoodIn wsX4_addSizes wsX4_limbOrZero := goodIn_r _ [11, 1, 6, 12, 13, 14, 15] rfl (by decide +kernel)
set_option maxRecDepth 20000 in
theorem gX4_addSizes_X4_limbOrZero : GoodIn wsX4_addSizes (wsV RX4 66 RX4 yX4_limbOrZero wsX4_limbOrZero) := goodIn_app (goodIn_of _ (by decide +kernel)) ggX4_addSizes_X4_limbOrZero
theorem dX4_addSizes_0 : decode cX4_addSizes 0 = .ok (.aload_n 1, 1) := by decide +kernel
theorem dX4_addSizes_1 : decode cX4_addSizes 1 = .ok (.getfield 13, 3) := by decide +kernel
theorem dX4_addSizes_4 : decode cX4_addSizes 4 = .ok (.aload_n 2, 1) := by decide +kernel
theorem dX4_addSizes_5 : decode cX4_addSizes 5 = .ok (.getfield 13, 3) := by decide +kernel
theorem dX4_addSizes_8 : decode cX4_addSizes 8 = .ok (.invokestatic 59, 3) := by decide +kernel
theorem dX4_addSizes_11 : decode cX4_addSizes 11 = .ok (.istore_n 3, 1) := by decide +kernel
theorem dX4_addSizes_12 : decode cX4_addSizes 12 = .ok (.lconst 0, 1) := by decide +kernel
theorem dX4_addSizes_13 : decode cX4_addSizes 13 = .ok (.lstore 4, 2) := by decide +kernel
theorem dX4_addSizes_15 : decode cX4_addSizes 15 = .ok (.iconst 0, 1) := by decide +kernel
theorem dX4_addSizes_16 : decode cX4_addSizes 16 = .ok (.istore 6, 2) := by decide +kernel
theorem dX4_addSizes_18 : decode cX4_addSizes 18 = .ok (.iload 6, 2) := by decide +kernel
theorem dX4_addSizes_20 : decode cX4_addSizes 20 = .ok (.iload_n 3, 1) := by decide +kernel
theorem dX4_addSizes_21 : decode cX4_addSizes 21 = .ok (.if_icmp .ge 44, 3) := by decide +kernel
theorem dX4_addSizes_24 : decode cX4_addSizes 24 = .ok (.aload_n 1, 1) := by decide +kernel
theorem dX4_addSizes_25 : decode cX4_addSizes 25 = .ok (.iload 6, 2) := by decide +kernel
theorem dX4_addSizes_27 : decode cX4_addSizes 27 = .ok (.invokevirtual 66, 3) := by decide +kernel
theorem dX4_addSizes_30 : decode cX4_addSizes 30 = .ok (.aload_n 2, 1) := by decide +kernel
theorem dX4_addSizes_31 : decode cX4_addSizes 31 = .ok (.iload 6, 2) := by decide +kernel
theorem dX4_addSizes_33 : decode cX4_addSizes 33 = .ok (.invokevirtual 66, 3) := by decide +kernel
theorem dX4_addSizes_36 : decode cX4_addSizes 36 = .ok (.ladd, 1) := by decide +kernel
theorem dX4_addSizes_37 : decode cX4_addSizes 37 = .ok (.lload 4, 2) := by decide +kernel
theorem dX4_addSizes_39 : decode cX4_addSizes 39 = .ok (.ladd, 1) := by decide +kernel
theorem dX4_addSizes_40 : decode cX4_addSizes 40 = .ok (.lstore 7, 2) := by decide +kernel
theorem dX4_addSizes_42 : decode cX4_addSizes 42 = .ok (.aload_n 0, 1) := by decide +kernel
theorem dX4_addSizes_43 : decode cX4_addSizes 43 = .ok (.getfield 7, 3) := by decide +kernel
theorem dX4_addSizes_46 : decode cX4_addSizes 46 = .ok (.iload 6, 2) := by decide +kernel
theorem dX4_addSizes_48 : decode cX4_addSizes 48 = .ok (.lload 7, 2) := by decide +kernel
theorem dX4_addSizes_50 : decode cX4_addSizes 50 = .ok (.l2i, 1) := by decide +kernel
theorem dX4_addSizes_51 : decode cX4_addSizes 51 = .ok (.iastore, 1) := by decide +kernel
theorem dX4_addSizes_52 : decode cX4_addSizes 52 = .ok (.lload 7, 2) := by decide +kernel
theorem dX4_addSizes_54 : decode cX4_addSizes 54 = .ok (.bipush 32, 2) := by decide +kernel
theorem dX4_addSizes_56 : decode cX4_addSizes 56 = .ok (.lushr, 1) := by decide +kernel
theorem dX4_addSizes_57 : decode cX4_addSizes 57 = .ok (.lstore 4, 2) := by decide +kernel
theorem dX4_addSizes_59 : decode cX4_addSizes 59 = .ok (.iinc 6 1, 3) := by decide +kernel
theorem dX4_addSizes_62 : decode cX4_addSizes 62 = .ok (.goto (-44), 3) := by decide +kernel
theorem dX4_addSizes_65 : decode cX4_addSizes 65 = .ok (.aload_n 0, 1) := by decide +kernel
theorem dX4_addSizes_66 : decode cX4_addSizes 66 = .ok (.getfield 7, 3) := by decide +kernel
theorem dX4_addSizes_69 : decode cX4_addSizes 69 = .ok (.iload_n 3, 1) := by decide +kernel
theorem dX4_addSizes_70 : decode cX4_addSizes 70 = .ok (.lload 4, 2) := by decide +kernel
theorem dX4_addSizes_72 : decode cX4_addSizes 72 = .ok (.l2i, 1) := by decide +kernel
theorem dX4_addSizes_73 : decode cX4_addSizes 73 = .ok (.iastore, 1) := by decide +kernel
theorem dX4_addSizes_74 : decode cX4_addSizes 74 = .ok (.return_, 1) := by decide +kernel
set_option maxRecDepth 20000 in
theorem ggX4_subtractSizes_X4_limbOrZero : GoodIn wsX4_subtractSizes wsX4_limbOrZero := goodIn_r _ [7, 1, 2, 8, 9, 10, 11] rfl (by decide +kernel)
set_option maxRecDepth 20000 in
theorem gX4_subtractSizes_X4_limbOrZero : GoodIn wsX4_subtractSizes (wsV RX4 66 RX4 yX4_limbOrZero wsX4_limbOrZero) := goodIn_app (goodIn_of _ (by decide +kernel)) ggX4_subtractSizes_X4_limbOrZero
theorem dX4_subtractSizes_0 : decode cX4_subtractSizes 0 = .ok (.lconst 0, 1) := by decide +kernel
theorem dX4_subtractSizes_1 : decode cX4_subtractSizes 1 = .ok (.lstore_n 3, 1) := by decide +kernel
theorem dX4_subtractSizes_2 : decode cX4_subtractSizes 2 = .ok (.iconst 0, 1) := by decide +kernel
theorem dX4_subtractSizes_3 : decode cX4_subtractSizes 3 = .ok (.istore 5, 2) := by decide +kernel
theorem dX4_subtractSizes_5 : decode cX4_subtractSizes 5 = .ok (.iload 5, 2) := by decide +kernel
theorem dX4_subtractSizes_7 : decode cX4_subtractSizes 7 = .ok (.aload_n 1, 1) := by decide +kernel
theorem dX4_subtractSizes_8 : decode cX4_subtractSizes 8 = .ok (.getfield 13, 3) := by decide +kernel
theorem dX4_subtractSizes_11 : decode cX4_subtractSizes 11 = .ok (.if_icmp .ge 49, 3) := by decide +kernel
theorem dX4_subtractSizes_14 : decode cX4_subtractSizes 14 = .ok (.aload_n 1, 1) := by decide +kernel
theorem dX4_subtractSizes_15 : decode cX4_subtractSizes 15 = .ok (.iload 5, 2) := by decide +kernel
theorem dX4_subtractSizes_17 : decode cX4_subtractSizes 17 = .ok (.invokevirtual 66, 3) := by decide +kernel
theorem dX4_subtractSizes_20 : decode cX4_subtractSizes 20 = .ok (.aload_n 2, 1) := by decide +kernel
theorem dX4_subtractSizes_21 : decode cX4_subtractSizes 21 = .ok (.iload 5, 2) := by decide +kernel
theorem dX4_subtractSizes_23 : decode cX4_subtractSizes 23 = .ok (.invokevirtual 66, 3) := by decide +kernel
theorem dX4_subtractSizes_26 : decode cX4_subtractSizes 26 = .ok (.lsub, 1) := by decide +kernel
theorem dX4_subtractSizes_27 : decode cX4_subtractSizes 27 = .ok (.lload_n 3, 1) := by decide +kernel
theorem dX4_subtractSizes_28 : decode cX4_subtractSizes 28 = .ok (.lsub, 1) := by decide +kernel
theorem dX4_subtractSizes_29 : decode cX4_subtractSizes 29 = .ok (.lstore 6, 2) := by decide +kernel
theorem dX4_subtractSizes_31 : decode cX4_subtractSizes 31 = .ok (.aload_n 0, 1) := by decide +kernel
theorem dX4_subtractSizes_32 : decode cX4_subtractSizes 32 = .ok (.getfield 7, 3) := by decide +kernel
theorem dX4_subtractSizes_35 : decode cX4_subtractSizes 35 = .ok (.iload 5, 2) := by decide +kernel
theorem dX4_subtractSizes_37 : decode cX4_subtractSizes 37 = .ok (.lload 6, 2) := by decide +kernel
theorem dX4_subtractSizes_39 : decode cX4_subtractSizes 39 = .ok (.l2i, 1) := by decide +kernel
theorem dX4_subtractSizes_40 : decode cX4_subtractSizes 40 = .ok (.iastore, 1) := by decide +kernel
theorem dX4_subtractSizes_41 : decode cX4_subtractSizes 41 = .ok (.lload 6, 2) := by decide +kernel
theorem dX4_subtractSizes_43 : decode cX4_subtractSizes 43 = .ok (.lconst 0, 1) := by decide +kernel
theorem dX4_subtractSizes_44 : decode cX4_subtractSizes 44 = .ok (.lcmp, 1) := by decide +kernel
theorem dX4_subtractSizes_45 : decode cX4_subtractSizes 45 = .ok (.ifCond .ge 7, 3) := by decide +kernel
theorem dX4_subtractSizes_48 : decode cX4_subtractSizes 48 = .ok (.lconst 1, 1) := by decide +kernel
theorem dX4_subtractSizes_49 : decode cX4_subtractSizes 49 = .ok (.goto 4, 3) := by decide +kernel
theorem dX4_subtractSizes_52 : decode cX4_subtractSizes 52 = .ok (.lconst 0, 1) := by decide +kernel
theorem dX4_subtractSizes_53 : decode cX4_subtractSizes 53 = .ok (.lstore_n 3, 1) := by decide +kernel
theorem dX4_subtractSizes_54 : decode cX4_subtractSizes 54 = .ok (.iinc 5 1, 3) := by decide +kernel
theorem dX4_subtractSizes_57 : decode cX4_subtractSizes 57 = .ok (.goto (-52), 3) := by decide +kernel
theorem dX4_subtractSizes_60 : decode cX4_subtractSizes 60 = .ok (.return_, 1) := by decide +kernel
theorem dX4_limbOrZero_0 : decode cX4_limbOrZero 0 = .ok (.iload_n 1, 1) := by decide +kernel
theorem dX4_limbOrZero_1 : decode cX4_limbOrZero 1 = .ok (.aload_n 0, 1) := by decide +kernel
theorem dX4_limbOrZero_2 : decode cX4_limbOrZero 2 = .ok (.getfield 13, 3) := by decide +kernel
theorem dX4_limbOrZero_5 : decode cX4_limbOrZero 5 = .ok (.if_icmp .ge 17, 3) := by decide +kernel
theorem dX4_limbOrZero_8 : decode cX4_limbOrZero 8 = .ok (.aload_n 0, 1) := by decide +kernel
theorem dX4_limbOrZero_9 : decode cX4_limbOrZero 9 = .ok (.getfield 7, 3) := by decide +kernel
theorem dX4_limbOrZero_12 : decode cX4_limbOrZero 12 = .ok (.iload_n 1, 1) := by decide +kernel
theorem dX4_limbOrZero_13 : decode cX4_limbOrZero 13 = .ok (.iaload, 1) := by decide +kernel
theorem dX4_limbOrZero_14 : decode cX4_limbOrZero 14 = .ok (.i2l, 1) := by decide +kernel
theorem dX4_limbOrZero_15 : decode cX4_limbOrZero 15 = .ok (.ldc2_w 31, 3) := by decide +kernel
theorem dX4_limbOrZero_18 : decode cX4_limbOrZero 18 = .ok (.land, 1) := by decide +kernel
theorem dX4_limbOrZero_19 : decode cX4_limbOrZero 19 = .ok (.goto 4, 3) := by decide +kernel
theorem dX4_limbOrZero_22 : decode cX4_limbOrZero 22 = .ok (.lconst 0, 1) := by decide +kernel
theorem dX4_limbOrZero_23 : decode cX4_limbOrZero 23 = .ok (.lreturn, 1) := by decide +kernel
set_option maxRecDepth 20000 in
theorem ggX4_becomeShiftedUp_J7_fill_fda19 : GoodIn wsX4_becomeShiftedUp wsJ7_fill_fda19 := goodIn_r _ [7, 8, 9, 6, 10] rfl (by decide +kernel)
set_option maxRecDepth 20000 in
theorem gX4_becomeShiftedUp_J7_fill_fda19 : GoodIn wsX4_becomeShiftedUp (va_wsS RX4 49 yJ7_fill_fda19 wsJ7_fill_fda19) := goodIn_app (goodIn_of _ (by decide +kernel)) ggX4_becomeShiftedUp_J7_fill_fda19
set_option maxRecDepth 20000 in
theorem ggX4_becomeShiftedUp_X4_shiftUp : GoodIn wsX4_becomeShiftedUp wsX4_shiftUp := goodIn_r _ [14, 2, 1, 15, 20, 21, 22] rfl (by decide +kernel)
set_option maxRecDepth 20000 in
theorem gX4_becomeShiftedUp_X4_shiftUp : GoodIn wsX4_becomeShiftedUp (va_wsS RX4 70 yX4_shiftUp wsX4_shiftUp) := goodIn_app (goodIn_of _ (by decide +kernel)) ggX4_becomeShiftedUp_X4_shiftUp
set_option maxRecDepth 20000 in
theorem ggX4_becomeShiftedUp_X4_settle : GoodIn wsX4_becomeShiftedUp wsX4_settle := goodIn_r _ [19, 2, 1, 3, 20, 21, 22] rfl (by decide +kernel)
set_option maxRecDepth 20000 in
theorem gX4_becomeShiftedUp_X4_settle : GoodIn wsX4_becomeShiftedUp (wsV RX4 45 RX4 yX4_settle wsX4_settle) := goodIn_app (goodIn_of _ (by decide +kernel)) ggX4_becomeShiftedUp_X4_settle
theorem dX4_becomeShiftedUp_0 : decode cX4_becomeShiftedUp 0 = .ok (.iload_n 2, 1) := by decide +kernel
theorem dX4_becomeShiftedUp_1 : decode cX4_becomeShiftedUp 1 = .ok (.bipush 32, 2) := by decide +kernel
theorem dX4_becomeShiftedUp_3 : decode cX4_becomeShiftedUp 3 = .ok (.idiv, 1) := by decide +kernel
theorem dX4_becomeShiftedUp_4 : decode cX4_becomeShiftedUp 4 = .ok (.istore_n 3, 1) := by decide +kernel
theorem dX4_becomeShiftedUp_5 : decode cX4_becomeShiftedUp 5 = .ok (.aload_n 0, 1) := by decide +kernel
theorem dX4_becomeShiftedUp_6 : decode cX4_becomeShiftedUp 6 = .ok (.getfield 7, 3) := by decide +kernel
theorem dX4_becomeShiftedUp_9 : decode cX4_becomeShiftedUp 9 = .ok (.iconst 0, 1) := by decide +kernel
theorem dX4_becomeShiftedUp_10 : decode cX4_becomeShiftedUp 10 = .ok (.iload_n 3, 1) := by decide +kernel
theorem dX4_becomeShiftedUp_11 : decode cX4_becomeShiftedUp 11 = .ok (.iconst 0, 1) := by decide +kernel
theorem dX4_becomeShiftedUp_12 : decode cX4_becomeShiftedUp 12 = .ok (.invokestatic 49, 3) := by decide +kernel
theorem dX4_becomeShiftedUp_15 : decode cX4_becomeShiftedUp 15 = .ok (.aload_n 0, 1) := by decide +kernel
theorem dX4_becomeShiftedUp_16 : decode cX4_becomeShiftedUp 16 = .ok (.getfield 7, 3) := by decide +kernel
theorem dX4_becomeShiftedUp_19 : decode cX4_becomeShiftedUp 19 = .ok (.iload_n 3, 1) := by decide +kernel
theorem dX4_becomeShiftedUp_20 : decode cX4_becomeShiftedUp 20 = .ok (.aload_n 1, 1) := by decide +kernel
theorem dX4_becomeShiftedUp_21 : decode cX4_becomeShiftedUp 21 = .ok (.getfield 13, 3) := by decide +kernel
theorem dX4_becomeShiftedUp_24 : decode cX4_becomeShiftedUp 24 = .ok (.iadd, 1) := by decide +kernel
theorem dX4_becomeShiftedUp_25 : decode cX4_becomeShiftedUp 25 = .ok (.aload_n 1, 1) := by decide +kernel
theorem dX4_becomeShiftedUp_26 : decode cX4_becomeShiftedUp 26 = .ok (.iload_n 2, 1) := by decide +kernel
theorem dX4_becomeShiftedUp_27 : decode cX4_becomeShiftedUp 27 = .ok (.bipush 32, 2) := by decide +kernel
theorem dX4_becomeShiftedUp_29 : decode cX4_becomeShiftedUp 29 = .ok (.irem, 1) := by decide +kernel
theorem dX4_becomeShiftedUp_30 : decode cX4_becomeShiftedUp 30 = .ok (.aload_n 0, 1) := by decide +kernel
theorem dX4_becomeShiftedUp_31 : decode cX4_becomeShiftedUp 31 = .ok (.getfield 7, 3) := by decide +kernel
theorem dX4_becomeShiftedUp_34 : decode cX4_becomeShiftedUp 34 = .ok (.iload_n 3, 1) := by decide +kernel
theorem dX4_becomeShiftedUp_35 : decode cX4_becomeShiftedUp 35 = .ok (.invokestatic 70, 3) := by decide +kernel
theorem dX4_becomeShiftedUp_38 : decode cX4_becomeShiftedUp 38 = .ok (.iastore, 1) := by decide +kernel
theorem dX4_becomeShiftedUp_39 : decode cX4_becomeShiftedUp 39 = .ok (.aload_n 0, 1) := by decide +kernel
theorem dX4_becomeShiftedUp_40 : decode cX4_becomeShiftedUp 40 = .ok (.iload_n 3, 1) := by decide +kernel
theorem dX4_becomeShiftedUp_41 : decode cX4_becomeShiftedUp 41 = .ok (.aload_n 1, 1) := by decide +kernel
theorem dX4_becomeShiftedUp_42 : decode cX4_becomeShiftedUp 42 = .ok (.getfield 13, 3) := by decide +kernel
theorem dX4_becomeShiftedUp_45 : decode cX4_becomeShiftedUp 45 = .ok (.iadd, 1) := by decide +kernel
theorem dX4_becomeShiftedUp_46 : decode cX4_becomeShiftedUp 46 = .ok (.iconst 1, 1) := by decide +kernel
theorem dX4_becomeShiftedUp_47 : decode cX4_becomeShiftedUp 47 = .ok (.iadd, 1) := by decide +kernel
theorem dX4_becomeShiftedUp_48 : decode cX4_becomeShiftedUp 48 = .ok (.aload_n 1, 1) := by decide +kernel
theorem dX4_becomeShiftedUp_49 : decode cX4_becomeShiftedUp 49 = .ok (.getfield 17, 3) := by decide +kernel
theorem dX4_becomeShiftedUp_52 : decode cX4_becomeShiftedUp 52 = .ok (.invokevirtual 45, 3) := by decide +kernel
theorem dX4_becomeShiftedUp_55 : decode cX4_becomeShiftedUp 55 = .ok (.return_, 1) := by decide +kernel
theorem dX4_shiftUp_0 : decode cX4_shiftUp 0 = .ok (.lconst 0, 1) := by decide +kernel
theorem dX4_shiftUp_1 : decode cX4_shiftUp 1 = .ok (.lstore 4, 2) := by decide +kernel
theorem dX4_shiftUp_3 : decode cX4_shiftUp 3 = .ok (.iconst 0, 1) := by decide +kernel
theorem dX4_shiftUp_4 : decode cX4_shiftUp 4 = .ok (.istore 6, 2) := by decide +kernel
theorem dX4_shiftUp_6 : decode cX4_shiftUp 6 = .ok (.iload 6, 2) := by decide +kernel
theorem dX4_shiftUp_8 : decode cX4_shiftUp 8 = .ok (.aload_n 0, 1) := by decide +kernel
theorem dX4_shiftUp_9 : decode cX4_shiftUp 9 = .ok (.getfield 13, 3) := by decide +kernel
theorem dX4_shiftUp_12 : decode cX4_shiftUp 12 = .ok (.if_icmp .ge 44, 3) := by decide +kernel
theorem dX4_shiftUp_15 : decode cX4_shiftUp 15 = .ok (.aload_n 0, 1) := by decide +kernel
theorem dX4_shiftUp_16 : decode cX4_shiftUp 16 = .ok (.getfield 7, 3) := by decide +kernel
theorem dX4_shiftUp_19 : decode cX4_shiftUp 19 = .ok (.iload 6, 2) := by decide +kernel
theorem dX4_shiftUp_21 : decode cX4_shiftUp 21 = .ok (.iaload, 1) := by decide +kernel
theorem dX4_shiftUp_22 : decode cX4_shiftUp 22 = .ok (.i2l, 1) := by decide +kernel
theorem dX4_shiftUp_23 : decode cX4_shiftUp 23 = .ok (.ldc2_w 31, 3) := by decide +kernel
theorem dX4_shiftUp_26 : decode cX4_shiftUp 26 = .ok (.land, 1) := by decide +kernel
theorem dX4_shiftUp_27 : decode cX4_shiftUp 27 = .ok (.iload_n 1, 1) := by decide +kernel
theorem dX4_shiftUp_28 : decode cX4_shiftUp 28 = .ok (.lshl, 1) := by decide +kernel
theorem dX4_shiftUp_29 : decode cX4_shiftUp 29 = .ok (.lload 4, 2) := by decide +kernel
theorem dX4_shiftUp_31 : decode cX4_shiftUp 31 = .ok (.lor, 1) := by decide +kernel
theorem dX4_shiftUp_32 : decode cX4_shiftUp 32 = .ok (.lstore 7, 2) := by decide +kernel
theorem dX4_shiftUp_34 : decode cX4_shiftUp 34 = .ok (.aload_n 2, 1) := by decide +kernel
theorem dX4_shiftUp_35 : decode cX4_shiftUp 35 = .ok (.iload_n 3, 1) := by decide +kernel
theorem dX4_shiftUp_36 : decode cX4_shiftUp 36 = .ok (.iload 6, 2) := by decide +kernel
theorem dX4_shiftUp_38 : decode cX4_shiftUp 38 = .ok (.iadd, 1) := by decide +kernel
theorem dX4_shiftUp_39 : decode cX4_shiftUp 39 = .ok (.lload 7, 2) := by decide +kernel
theorem dX4_shiftUp_41 : decode cX4_shiftUp 41 = .ok (.l2i, 1) := by decide +kernel
theorem dX4_shiftUp_42 : decode cX4_shiftUp 42 = .ok (.iastore, 1) := by decide +kernel
theorem dX4_shiftUp_43 : decode cX4_shiftUp 43 = .ok (.lload 7, 2) := by decide +kernel
theorem dX4_shiftUp_45 : decode cX4_shiftUp 45 = .ok (.bipush 32, 2) := by decide +kernel
theorem dX4_shiftUp_47 : decode cX4_shiftUp 47 = .ok (.lushr, 1) := by decide +kernel
theorem dX4_shiftUp_48 : decode cX4_shiftUp 48 = .ok (.lstore 4, 2) := by decide +kernel
theorem dX4_shiftUp_50 : decode cX4_shiftUp 50 = .ok (.iinc 6 1, 3) := by decide +kernel
theorem dX4_shiftUp_53 : decode cX4_shiftUp 53 = .ok (.goto (-47), 3) := by decide +kernel
theorem dX4_shiftUp_56 : decode cX4_shiftUp 56 = .ok (.lload 4, 2) := by decide +kernel
theorem dX4_shiftUp_58 : decode cX4_shiftUp 58 = .ok (.l2i, 1) := by decide +kernel
theorem dX4_shiftUp_59 : decode cX4_shiftUp 59 = .ok (.ireturn, 1) := by decide +kernel
set_option maxRecDepth 20000 in
theorem ggX4_becomeShiftedDown_X4_shiftDown : GoodIn wsX4_becomeShiftedDown wsX4_shiftDown := goodIn_r _ [12, 13, 6, 26, 27, 28] rfl (by decide +kernel)
set_option maxRecDepth 20000 in
theorem gX4_becomeShiftedDown_X4_shiftDown : GoodIn wsX4_becomeShiftedDown (wsV RX4 77 RX4 yX4_shiftDown wsX4_shiftDown) := goodIn_app (goodIn_of _ (by decide +kernel)) ggX4_becomeShiftedDown_X4_shiftDown
set_option maxRecDepth 20000 in
theorem ggX4_becomeShiftedDown_X4_settle : GoodIn wsX4_becomeShiftedDown wsX4_settle := goodIn_r _ [17, 1, 6, 7, 26, 27, 28] rfl (by decide +kernel)
set_option maxRecDepth 20000 in
theorem gX4_becomeShiftedDown_X4_settle : GoodIn wsX4_becomeShiftedDown (wsV RX4 45 RX4 yX4_settle wsX4_settle) := goodIn_app (goodIn_of _ (by decide +kernel)) ggX4_becomeShiftedDown_X4_settle
set_option maxRecDepth 20000 in
theorem ggX4_becomeShiftedDown_X4_hasOneBelow : GoodIn wsX4_becomeShiftedDown wsX4_hasOneBelow := goodIn_r _ [21, 1, 2, 3, 4, 5, 6, 26, 27, 28] rfl (by decide +kernel)
set_option maxRecDepth 20000 in
theorem gX4_becomeShiftedDown_X4_hasOneBelow : GoodIn wsX4_becomeShiftedDown (wsV RX4 80 RX4 yX4_hasOneBelow wsX4_hasOneBelow) := goodIn_app (goodIn_of _ (by decide +kernel)) ggX4_becomeShiftedDown_X4_hasOneBelow
set_option maxRecDepth 20000 in
theorem ggX4_becomeShiftedDown_X4_scaleAndAdd : GoodIn wsX4_becomeShiftedDown wsX4_scaleAndAdd := goodIn_r _ [25, 1, 6, 13, 26, 27, 28] rfl (by decide +kernel)
set_option maxRecDepth 20000 in
theorem gX4_becomeShiftedDown_X4_scaleAndAdd : GoodIn wsX4_becomeShiftedDown (wsV RX4 84 RX4 yX4_scaleAndAdd wsX4_scaleAndAdd) := goodIn_app (goodIn_of _ (by decide +kernel)) ggX4_becomeShiftedDown_X4_scaleAndAdd
theorem dX4_becomeShiftedDown_0 : decode cX4_becomeShiftedDown 0 = .ok (.iload_n 2, 1) := by decide +kernel
theorem dX4_becomeShiftedDown_1 : decode cX4_becomeShiftedDown 1 = .ok (.bipush 32, 2) := by decide +kernel
theorem dX4_becomeShiftedDown_3 : decode cX4_becomeShiftedDown 3 = .ok (.idiv, 1) := by decide +kernel
theorem dX4_becomeShiftedDown_4 : decode cX4_becomeShiftedDown 4 = .ok (.aload_n 1, 1) := by decide +kernel
theorem dX4_becomeShiftedDown_5 : decode cX4_becomeShiftedDown 5 = .ok (.getfield 13, 3) := by decide +kernel
theorem dX4_becomeShiftedDown_8 : decode cX4_becomeShiftedDown 8 = .ok (.invokestatic 74, 3) := by decide +kernel
theorem dX4_becomeShiftedDown_11 : decode cX4_becomeShiftedDown 11 = .ok (.istore_n 3, 1) := by decide +kernel
theorem dX4_becomeShiftedDown_12 : decode cX4_becomeShiftedDown 12 = .ok (.aload_n 0, 1) := by decide +kernel
theorem dX4_becomeShiftedDown_13 : decode cX4_becomeShiftedDown 13 = .ok (.aload_n 1, 1) := by decide +kernel
theorem dX4_becomeShiftedDown_14 : decode cX4_becomeShiftedDown 14 = .ok (.getfield 7, 3) := by decide +kernel
theorem dX4_becomeShiftedDown_17 : decode cX4_becomeShiftedDown 17 = .ok (.iload_n 3, 1) := by decide +kernel
theorem dX4_becomeShiftedDown_18 : decode cX4_becomeShiftedDown 18 = .ok (.aload_n 1, 1) := by decide +kernel
theorem dX4_becomeShiftedDown_19 : decode cX4_becomeShiftedDown 19 = .ok (.getfield 13, 3) := by decide +kernel
theorem dX4_becomeShiftedDown_22 : decode cX4_becomeShiftedDown 22 = .ok (.iload_n 3, 1) := by decide +kernel
theorem dX4_becomeShiftedDown_23 : decode cX4_becomeShiftedDown 23 = .ok (.isub, 1) := by decide +kernel
theorem dX4_becomeShiftedDown_24 : decode cX4_becomeShiftedDown 24 = .ok (.iload_n 2, 1) := by decide +kernel
theorem dX4_becomeShiftedDown_25 : decode cX4_becomeShiftedDown 25 = .ok (.bipush 32, 2) := by decide +kernel
theorem dX4_becomeShiftedDown_27 : decode cX4_becomeShiftedDown 27 = .ok (.irem, 1) := by decide +kernel
theorem dX4_becomeShiftedDown_28 : decode cX4_becomeShiftedDown 28 = .ok (.invokevirtual 77, 3) := by decide +kernel
theorem dX4_becomeShiftedDown_31 : decode cX4_becomeShiftedDown 31 = .ok (.aload_n 0, 1) := by decide +kernel
theorem dX4_becomeShiftedDown_32 : decode cX4_becomeShiftedDown 32 = .ok (.aload_n 1, 1) := by decide +kernel
theorem dX4_becomeShiftedDown_33 : decode cX4_becomeShiftedDown 33 = .ok (.getfield 13, 3) := by decide +kernel
theorem dX4_becomeShiftedDown_36 : decode cX4_becomeShiftedDown 36 = .ok (.iload_n 3, 1) := by decide +kernel
theorem dX4_becomeShiftedDown_37 : decode cX4_becomeShiftedDown 37 = .ok (.isub, 1) := by decide +kernel
theorem dX4_becomeShiftedDown_38 : decode cX4_becomeShiftedDown 38 = .ok (.aload_n 1, 1) := by decide +kernel
theorem dX4_becomeShiftedDown_39 : decode cX4_becomeShiftedDown 39 = .ok (.getfield 17, 3) := by decide +kernel
theorem dX4_becomeShiftedDown_42 : decode cX4_becomeShiftedDown 42 = .ok (.invokevirtual 45, 3) := by decide +kernel
theorem dX4_becomeShiftedDown_45 : decode cX4_becomeShiftedDown 45 = .ok (.aload_n 1, 1) := by decide +kernel
theorem dX4_becomeShiftedDown_46 : decode cX4_becomeShiftedDown 46 = .ok (.getfield 17, 3) := by decide +kernel
theorem dX4_becomeShiftedDown_49 : decode cX4_becomeShiftedDown 49 = .ok (.ifCond .eq 22, 3) := by decide +kernel
theorem dX4_becomeShiftedDown_52 : decode cX4_becomeShiftedDown 52 = .ok (.aload_n 1, 1) := by decide +kernel
theorem dX4_becomeShiftedDown_53 : decode cX4_becomeShiftedDown 53 = .ok (.iload_n 2, 1) := by decide +kernel
theorem dX4_becomeShiftedDown_54 : decode cX4_becomeShiftedDown 54 = .ok (.invokevirtual 80, 3) := by decide +kernel
theorem dX4_becomeShiftedDown_57 : decode cX4_becomeShiftedDown 57 = .ok (.ifCond .eq 14, 3) := by decide +kernel
theorem dX4_becomeShiftedDown_60 : decode cX4_becomeShiftedDown 60 = .ok (.aload_n 0, 1) := by decide +kernel
theorem dX4_becomeShiftedDown_61 : decode cX4_becomeShiftedDown 61 = .ok (.iconst 1, 1) := by decide +kernel
theorem dX4_becomeShiftedDown_62 : decode cX4_becomeShiftedDown 62 = .ok (.iconst 1, 1) := by decide +kernel
theorem dX4_becomeShiftedDown_63 : decode cX4_becomeShiftedDown 63 = .ok (.invokevirtual 84, 3) := by decide +kernel
theorem dX4_becomeShiftedDown_66 : decode cX4_becomeShiftedDown 66 = .ok (.aload_n 0, 1) := by decide +kernel
theorem dX4_becomeShiftedDown_67 : decode cX4_becomeShiftedDown 67 = .ok (.iconst 1, 1) := by decide +kernel
theorem dX4_becomeShiftedDown_68 : decode cX4_becomeShiftedDown 68 = .ok (.putfield 17, 3) := by decide +kernel
theorem dX4_becomeShiftedDown_71 : decode cX4_becomeShiftedDown 71 = .ok (.return_, 1) := by decide +kernel
theorem dX4_shiftDown_0 : decode cX4_shiftDown 0 = .ok (.lconst 0, 1) := by decide +kernel
theorem dX4_shiftDown_1 : decode cX4_shiftDown 1 = .ok (.lstore 5, 2) := by decide +kernel
theorem dX4_shiftDown_3 : decode cX4_shiftDown 3 = .ok (.iload_n 3, 1) := by decide +kernel
theorem dX4_shiftDown_4 : decode cX4_shiftDown 4 = .ok (.iconst 1, 1) := by decide +kernel
theorem dX4_shiftDown_5 : decode cX4_shiftDown 5 = .ok (.isub, 1) := by decide +kernel
theorem dX4_shiftDown_6 : decode cX4_shiftDown 6 = .ok (.istore 7, 2) := by decide +kernel
theorem dX4_shiftDown_8 : decode cX4_shiftDown 8 = .ok (.iload 7, 2) := by decide +kernel
theorem dX4_shiftDown_10 : decode cX4_shiftDown 10 = .ok (.ifCond .lt 45, 3) := by decide +kernel
theorem dX4_shiftDown_13 : decode cX4_shiftDown 13 = .ok (.aload_n 1, 1) := by decide +kernel
theorem dX4_shiftDown_14 : decode cX4_shiftDown 14 = .ok (.iload_n 2, 1) := by decide +kernel
theorem dX4_shiftDown_15 : decode cX4_shiftDown 15 = .ok (.iload 7, 2) := by decide +kernel
theorem dX4_shiftDown_17 : decode cX4_shiftDown 17 = .ok (.iadd, 1) := by decide +kernel
theorem dX4_shiftDown_18 : decode cX4_shiftDown 18 = .ok (.iaload, 1) := by decide +kernel
theorem dX4_shiftDown_19 : decode cX4_shiftDown 19 = .ok (.i2l, 1) := by decide +kernel
theorem dX4_shiftDown_20 : decode cX4_shiftDown 20 = .ok (.ldc2_w 31, 3) := by decide +kernel
theorem dX4_shiftDown_23 : decode cX4_shiftDown 23 = .ok (.land, 1) := by decide +kernel
theorem dX4_shiftDown_24 : decode cX4_shiftDown 24 = .ok (.lstore 8, 2) := by decide +kernel
theorem dX4_shiftDown_26 : decode cX4_shiftDown 26 = .ok (.aload_n 0, 1) := by decide +kernel
theorem dX4_shiftDown_27 : decode cX4_shiftDown 27 = .ok (.getfield 7, 3) := by decide +kernel
theorem dX4_shiftDown_30 : decode cX4_shiftDown 30 = .ok (.iload 7, 2) := by decide +kernel
theorem dX4_shiftDown_32 : decode cX4_shiftDown 32 = .ok (.lload 5, 2) := by decide +kernel
theorem dX4_shiftDown_34 : decode cX4_shiftDown 34 = .ok (.bipush 32, 2) := by decide +kernel
theorem dX4_shiftDown_36 : decode cX4_shiftDown 36 = .ok (.lshl, 1) := by decide +kernel
theorem dX4_shiftDown_37 : decode cX4_shiftDown 37 = .ok (.lload 8, 2) := by decide +kernel
theorem dX4_shiftDown_39 : decode cX4_shiftDown 39 = .ok (.lor, 1) := by decide +kernel
theorem dX4_shiftDown_40 : decode cX4_shiftDown 40 = .ok (.iload 4, 2) := by decide +kernel
theorem dX4_shiftDown_42 : decode cX4_shiftDown 42 = .ok (.lushr, 1) := by decide +kernel
theorem dX4_shiftDown_43 : decode cX4_shiftDown 43 = .ok (.l2i, 1) := by decide +kernel
theorem dX4_shiftDown_44 : decode cX4_shiftDown 44 = .ok (.iastore, 1) := by decide +kernel
theorem dX4_shiftDown_45 : decode cX4_shiftDown 45 = .ok (.lload 8, 2) := by decide +kernel
theorem dX4_shiftDown_47 : decode cX4_shiftDown 47 = .ok (.lstore 5, 2) := by decide +kernel
theorem dX4_shiftDown_49 : decode cX4_shiftDown 49 = .ok (.iinc 7 (-1), 3) := by decide +kernel
theorem dX4_shiftDown_52 : decode cX4_shiftDown 52 = .ok (.goto (-44), 3) := by decide +kernel
theorem dX4_shiftDown_55 : decode cX4_shiftDown 55 = .ok (.return_, 1) := by decide +kernel
theorem dX4_hasOneBelow_0 : decode cX4_hasOneBelow 0 = .ok (.iload_n 1, 1) := by decide +kernel
theorem dX4_hasOneBelow_1 : decode cX4_hasOneBelow 1 = .ok (.bipush 32, 2) := by decide +kernel
theorem dX4_hasOneBelow_3 : decode cX4_hasOneBelow 3 = .ok (.idiv, 1) := by decide +kernel
theorem dX4_hasOneBelow_4 : decode cX4_hasOneBelow 4 = .ok (.aload_n 0, 1) := by decide +kernel
theorem dX4_hasOneBelow_5 : decode cX4_hasOneBelow 5 = .ok (.getfield 13, 3) := by decide +kernel
theorem dX4_hasOneBelow_8 : decode cX4_hasOneBelow 8 = .ok (.invokestatic 74, 3) := by decide +kernel
theorem dX4_hasOneBelow_11 : decode cX4_hasOneBelow 11 = .ok (.istore_n 2, 1) := by decide +kernel
theorem dX4_hasOneBelow_12 : decode cX4_hasOneBelow 12 = .ok (.iconst 0, 1) := by decide +kernel
theorem dX4_hasOneBelow_13 : decode cX4_hasOneBelow 13 = .ok (.istore_n 3, 1) := by decide +kernel
theorem dX4_hasOneBelow_14 : decode cX4_hasOneBelow 14 = .ok (.iload_n 3, 1) := by decide +kernel
theorem dX4_hasOneBelow_15 : decode cX4_hasOneBelow 15 = .ok (.iload_n 2, 1) := by decide +kernel
theorem dX4_hasOneBelow_16 : decode cX4_hasOneBelow 16 = .ok (.if_icmp .ge 20, 3) := by decide +kernel
theorem dX4_hasOneBelow_19 : decode cX4_hasOneBelow 19 = .ok (.aload_n 0, 1) := by decide +kernel
theorem dX4_hasOneBelow_20 : decode cX4_hasOneBelow 20 = .ok (.getfield 7, 3) := by decide +kernel
theorem dX4_hasOneBelow_23 : decode cX4_hasOneBelow 23 = .ok (.iload_n 3, 1) := by decide +kernel
theorem dX4_hasOneBelow_24 : decode cX4_hasOneBelow 24 = .ok (.iaload, 1) := by decide +kernel
theorem dX4_hasOneBelow_25 : decode cX4_hasOneBelow 25 = .ok (.ifCond .eq 5, 3) := by decide +kernel
theorem dX4_hasOneBelow_28 : decode cX4_hasOneBelow 28 = .ok (.iconst 1, 1) := by decide +kernel
theorem dX4_hasOneBelow_29 : decode cX4_hasOneBelow 29 = .ok (.ireturn, 1) := by decide +kernel
theorem dX4_hasOneBelow_30 : decode cX4_hasOneBelow 30 = .ok (.iinc 3 1, 3) := by decide +kernel
theorem dX4_hasOneBelow_33 : decode cX4_hasOneBelow 33 = .ok (.goto (-19), 3) := by decide +kernel
theorem dX4_hasOneBelow_36 : decode cX4_hasOneBelow 36 = .ok (.iload_n 2, 1) := by decide +kernel
theorem dX4_hasOneBelow_37 : decode cX4_hasOneBelow 37 = .ok (.aload_n 0, 1) := by decide +kernel
theorem dX4_hasOneBelow_38 : decode cX4_hasOneBelow 38 = .ok (.getfield 13, 3) := by decide +kernel
theorem dX4_hasOneBelow_41 : decode cX4_hasOneBelow 41 = .ok (.if_icmp .ge 25, 3) := by decide +kernel
theorem dX4_hasOneBelow_44 : decode cX4_hasOneBelow 44 = .ok (.aload_n 0, 1) := by decide +kernel
theorem dX4_hasOneBelow_45 : decode cX4_hasOneBelow 45 = .ok (.getfield 7, 3) := by decide +kernel
theorem dX4_hasOneBelow_48 : decode cX4_hasOneBelow 48 = .ok (.iload_n 2, 1) := by decide +kernel
theorem dX4_hasOneBelow_49 : decode cX4_hasOneBelow 49 = .ok (.iaload, 1) := by decide +kernel
theorem dX4_hasOneBelow_50 : decode cX4_hasOneBelow 50 = .ok (.iconst 1, 1) := by decide +kernel
theorem dX4_hasOneBelow_51 : decode cX4_hasOneBelow 51 = .ok (.iload_n 1, 1) := by decide +kernel
theorem dX4_hasOneBelow_52 : decode cX4_hasOneBelow 52 = .ok (.bipush 32, 2) := by decide +kernel
theorem dX4_hasOneBelow_54 : decode cX4_hasOneBelow 54 = .ok (.irem, 1) := by decide +kernel
theorem dX4_hasOneBelow_55 : decode cX4_hasOneBelow 55 = .ok (.ishl, 1) := by decide +kernel
theorem dX4_hasOneBelow_56 : decode cX4_hasOneBelow 56 = .ok (.iconst 1, 1) := by decide +kernel
theorem dX4_hasOneBelow_57 : decode cX4_hasOneBelow 57 = .ok (.isub, 1) := by decide +kernel
theorem dX4_hasOneBelow_58 : decode cX4_hasOneBelow 58 = .ok (.iand, 1) := by decide +kernel
theorem dX4_hasOneBelow_59 : decode cX4_hasOneBelow 59 = .ok (.ifCond .eq 7, 3) := by decide +kernel
theorem dX4_hasOneBelow_62 : decode cX4_hasOneBelow 62 = .ok (.iconst 1, 1) := by decide +kernel
theorem dX4_hasOneBelow_63 : decode cX4_hasOneBelow 63 = .ok (.goto 4, 3) := by decide +kernel
theorem dX4_hasOneBelow_66 : decode cX4_hasOneBelow 66 = .ok (.iconst 0, 1) := by decide +kernel
theorem dX4_hasOneBelow_67 : decode cX4_hasOneBelow 67 = .ok (.ireturn, 1) := by decide +kernel
theorem dX4_scaleAndAdd_0 : decode cX4_scaleAndAdd 0 = .ok (.iload_n 2, 1) := by decide +kernel
theorem dX4_scaleAndAdd_1 : decode cX4_scaleAndAdd 1 = .ok (.i2l, 1) := by decide +kernel
theorem dX4_scaleAndAdd_2 : decode cX4_scaleAndAdd 2 = .ok (.lstore_n 3, 1) := by decide +kernel
theorem dX4_scaleAndAdd_3 : decode cX4_scaleAndAdd 3 = .ok (.iconst 0, 1) := by decide +kernel
theorem dX4_scaleAndAdd_4 : decode cX4_scaleAndAdd 4 = .ok (.istore 5, 2) := by decide +kernel
theorem dX4_scaleAndAdd_6 : decode cX4_scaleAndAdd 6 = .ok (.iload 5, 2) := by decide +kernel
theorem dX4_scaleAndAdd_8 : decode cX4_scaleAndAdd 8 = .ok (.aload_n 0, 1) := by decide +kernel
theorem dX4_scaleAndAdd_9 : decode cX4_scaleAndAdd 9 = .ok (.getfield 13, 3) := by decide +kernel
theorem dX4_scaleAndAdd_12 : decode cX4_scaleAndAdd 12 = .ok (.if_icmp .ge 44, 3) := by decide +kernel
theorem dX4_scaleAndAdd_15 : decode cX4_scaleAndAdd 15 = .ok (.aload_n 0, 1) := by decide +kernel
theorem dX4_scaleAndAdd_16 : decode cX4_scaleAndAdd 16 = .ok (.getfield 7, 3) := by decide +kernel
theorem dX4_scaleAndAdd_19 : decode cX4_scaleAndAdd 19 = .ok (.iload 5, 2) := by decide +kernel
theorem dX4_scaleAndAdd_21 : decode cX4_scaleAndAdd 21 = .ok (.iaload, 1) := by decide +kernel
theorem dX4_scaleAndAdd_22 : decode cX4_scaleAndAdd 22 = .ok (.i2l, 1) := by decide +kernel
theorem dX4_scaleAndAdd_23 : decode cX4_scaleAndAdd 23 = .ok (.ldc2_w 31, 3) := by decide +kernel
theorem dX4_scaleAndAdd_26 : decode cX4_scaleAndAdd 26 = .ok (.land, 1) := by decide +kernel
theorem dX4_scaleAndAdd_27 : decode cX4_scaleAndAdd 27 = .ok (.iload_n 1, 1) := by decide +kernel
theorem dX4_scaleAndAdd_28 : decode cX4_scaleAndAdd 28 = .ok (.i2l, 1) := by decide +kernel
theorem dX4_scaleAndAdd_29 : decode cX4_scaleAndAdd 29 = .ok (.lmul, 1) := by decide +kernel
theorem dX4_scaleAndAdd_30 : decode cX4_scaleAndAdd 30 = .ok (.lload_n 3, 1) := by decide +kernel
theorem dX4_scaleAndAdd_31 : decode cX4_scaleAndAdd 31 = .ok (.ladd, 1) := by decide +kernel
theorem dX4_scaleAndAdd_32 : decode cX4_scaleAndAdd 32 = .ok (.lstore 6, 2) := by decide +kernel
theorem dX4_scaleAndAdd_34 : decode cX4_scaleAndAdd 34 = .ok (.aload_n 0, 1) := by decide +kernel
theorem dX4_scaleAndAdd_35 : decode cX4_scaleAndAdd 35 = .ok (.getfield 7, 3) := by decide +kernel
theorem dX4_scaleAndAdd_38 : decode cX4_scaleAndAdd 38 = .ok (.iload 5, 2) := by decide +kernel
theorem dX4_scaleAndAdd_40 : decode cX4_scaleAndAdd 40 = .ok (.lload 6, 2) := by decide +kernel
theorem dX4_scaleAndAdd_42 : decode cX4_scaleAndAdd 42 = .ok (.l2i, 1) := by decide +kernel
theorem dX4_scaleAndAdd_43 : decode cX4_scaleAndAdd 43 = .ok (.iastore, 1) := by decide +kernel
theorem dX4_scaleAndAdd_44 : decode cX4_scaleAndAdd 44 = .ok (.lload 6, 2) := by decide +kernel
theorem dX4_scaleAndAdd_46 : decode cX4_scaleAndAdd 46 = .ok (.bipush 32, 2) := by decide +kernel
theorem dX4_scaleAndAdd_48 : decode cX4_scaleAndAdd 48 = .ok (.lushr, 1) := by decide +kernel
theorem dX4_scaleAndAdd_49 : decode cX4_scaleAndAdd 49 = .ok (.lstore_n 3, 1) := by decide +kernel
theorem dX4_scaleAndAdd_50 : decode cX4_scaleAndAdd 50 = .ok (.iinc 5 1, 3) := by decide +kernel
theorem dX4_scaleAndAdd_53 : decode cX4_scaleAndAdd 53 = .ok (.goto (-47), 3) := by decide +kernel
theorem dX4_scaleAndAdd_56 : decode cX4_scaleAndAdd 56 = .ok (.lload_n 3, 1) := by decide +kernel
theorem dX4_scaleAndAdd_57 : decode cX4_scaleAndAdd 57 = .ok (.lconst 0, 1) := by decide +kernel
theorem dX4_scaleAndAdd_58 : decode cX4_scaleAndAdd 58 = .ok (.lcmp, 1) := by decide +kernel
theorem dX4_scaleAndAdd_59 : decode cX4_scaleAndAdd 59 = .ok (.ifCond .eq 36, 3) := by decide +kernel
theorem dX4_scaleAndAdd_62 : decode cX4_scaleAndAdd 62 = .ok (.aload_n 0, 1) := by decide +kernel
theorem dX4_scaleAndAdd_63 : decode cX4_scaleAndAdd 63 = .ok (.getfield 13, 3) := by decide +kernel
theorem dX4_scaleAndAdd_66 : decode cX4_scaleAndAdd 66 = .ok (.aload_n 0, 1) := by decide +kernel
theorem dX4_scaleAndAdd_67 : decode cX4_scaleAndAdd 67 = .ok (.getfield 7, 3) := by decide +kernel
theorem dX4_scaleAndAdd_70 : decode cX4_scaleAndAdd 70 = .ok (.arraylength, 1) := by decide +kernel
theorem dX4_scaleAndAdd_71 : decode cX4_scaleAndAdd 71 = .ok (.if_icmp .ge 24, 3) := by decide +kernel
theorem dX4_scaleAndAdd_74 : decode cX4_scaleAndAdd 74 = .ok (.aload_n 0, 1) := by decide +kernel
theorem dX4_scaleAndAdd_75 : decode cX4_scaleAndAdd 75 = .ok (.getfield 7, 3) := by decide +kernel
theorem dX4_scaleAndAdd_78 : decode cX4_scaleAndAdd 78 = .ok (.aload_n 0, 1) := by decide +kernel
theorem dX4_scaleAndAdd_79 : decode cX4_scaleAndAdd 79 = .ok (.getfield 13, 3) := by decide +kernel
theorem dX4_scaleAndAdd_82 : decode cX4_scaleAndAdd 82 = .ok (.lload_n 3, 1) := by decide +kernel
theorem dX4_scaleAndAdd_83 : decode cX4_scaleAndAdd 83 = .ok (.l2i, 1) := by decide +kernel
theorem dX4_scaleAndAdd_84 : decode cX4_scaleAndAdd 84 = .ok (.iastore, 1) := by decide +kernel
theorem dX4_scaleAndAdd_85 : decode cX4_scaleAndAdd 85 = .ok (.aload_n 0, 1) := by decide +kernel
theorem dX4_scaleAndAdd_86 : decode cX4_scaleAndAdd 86 = .ok (.dup, 1) := by decide +kernel
theorem dX4_scaleAndAdd_87 : decode cX4_scaleAndAdd 87 = .ok (.getfield 13, 3) := by decide +kernel
theorem dX4_scaleAndAdd_90 : decode cX4_scaleAndAdd 90 = .ok (.iconst 1, 1) := by decide +kernel
theorem dX4_scaleAndAdd_91 : decode cX4_scaleAndAdd 91 = .ok (.iadd, 1) := by decide +kernel
theorem dX4_scaleAndAdd_92 : decode cX4_scaleAndAdd 92 = .ok (.putfield 13, 3) := by decide +kernel
theorem dX4_scaleAndAdd_95 : decode cX4_scaleAndAdd 95 = .ok (.return_, 1) := by decide +kernel
set_option maxRecDepth 20000 in
theorem ggX4_divideAndRest_X4_settle : GoodIn wsX4_divideAndRest wsX4_settle := goodIn_r _ [9, 1, 2, 4, 10, 11, 12] rfl (by decide +kernel)
set_option maxRecDepth 20000 in
theorem gX4_divideAndRest_X4_settle : GoodIn wsX4_divideAndRest (wsV RX4 45 RX4 yX4_settle wsX4_settle) := goodIn_app (goodIn_of _ (by decide +kernel)) ggX4_divideAndRest_X4_settle
theorem dX4_divideAndRest_0 : decode cX4_divideAndRest 0 = .ok (.iload_n 1, 1) := by decide +kernel
theorem dX4_divideAndRest_1 : decode cX4_divideAndRest 1 = .ok (.ifCond .gt 5, 3) := by decide +kernel
theorem dX4_divideAndRest_4 : decode cX4_divideAndRest 4 = .ok (.iconst 0, 1) := by decide +kernel
theorem dX4_divideAndRest_5 : decode cX4_divideAndRest 5 = .ok (.ireturn, 1) := by decide +kernel
theorem dX4_divideAndRest_6 : decode cX4_divideAndRest 6 = .ok (.lconst 0, 1) := by decide +kernel
theorem dX4_divideAndRest_7 : decode cX4_divideAndRest 7 = .ok (.lstore_n 2, 1) := by decide +kernel
theorem dX4_divideAndRest_8 : decode cX4_divideAndRest 8 = .ok (.aload_n 0, 1) := by decide +kernel
theorem dX4_divideAndRest_9 : decode cX4_divideAndRest 9 = .ok (.getfield 13, 3) := by decide +kernel
theorem dX4_divideAndRest_12 : decode cX4_divideAndRest 12 = .ok (.iconst 1, 1) := by decide +kernel
theorem dX4_divideAndRest_13 : decode cX4_divideAndRest 13 = .ok (.isub, 1) := by decide +kernel
theorem dX4_divideAndRest_14 : decode cX4_divideAndRest 14 = .ok (.istore 4, 2) := by decide +kernel
theorem dX4_divideAndRest_16 : decode cX4_divideAndRest 16 = .ok (.iload 4, 2) := by decide +kernel
theorem dX4_divideAndRest_18 : decode cX4_divideAndRest 18 = .ok (.ifCond .lt 47, 3) := by decide +kernel
theorem dX4_divideAndRest_21 : decode cX4_divideAndRest 21 = .ok (.lload_n 2, 1) := by decide +kernel
theorem dX4_divideAndRest_22 : decode cX4_divideAndRest 22 = .ok (.bipush 32, 2) := by decide +kernel
theorem dX4_divideAndRest_24 : decode cX4_divideAndRest 24 = .ok (.lshl, 1) := by decide +kernel
theorem dX4_divideAndRest_25 : decode cX4_divideAndRest 25 = .ok (.aload_n 0, 1) := by decide +kernel
theorem dX4_divideAndRest_26 : decode cX4_divideAndRest 26 = .ok (.getfield 7, 3) := by decide +kernel
theorem dX4_divideAndRest_29 : decode cX4_divideAndRest 29 = .ok (.iload 4, 2) := by decide +kernel
theorem dX4_divideAndRest_31 : decode cX4_divideAndRest 31 = .ok (.iaload, 1) := by decide +kernel
theorem dX4_divideAndRest_32 : decode cX4_divideAndRest 32 = .ok (.i2l, 1) := by decide +kernel
theorem dX4_divideAndRest_33 : decode cX4_divideAndRest 33 = .ok (.ldc2_w 31, 3) := by decide +kernel
theorem dX4_divideAndRest_36 : decode cX4_divideAndRest 36 = .ok (.land, 1) := by decide +kernel
theorem dX4_divideAndRest_37 : decode cX4_divideAndRest 37 = .ok (.lor, 1) := by decide +kernel
theorem dX4_divideAndRest_38 : decode cX4_divideAndRest 38 = .ok (.lstore 5, 2) := by decide +kernel
theorem dX4_divideAndRest_40 : decode cX4_divideAndRest 40 = .ok (.aload_n 0, 1) := by decide +kernel
theorem dX4_divideAndRest_41 : decode cX4_divideAndRest 41 = .ok (.getfield 7, 3) := by decide +kernel
theorem dX4_divideAndRest_44 : decode cX4_divideAndRest 44 = .ok (.iload 4, 2) := by decide +kernel
theorem dX4_divideAndRest_46 : decode cX4_divideAndRest 46 = .ok (.lload 5, 2) := by decide +kernel
theorem dX4_divideAndRest_48 : decode cX4_divideAndRest 48 = .ok (.iload_n 1, 1) := by decide +kernel
theorem dX4_divideAndRest_49 : decode cX4_divideAndRest 49 = .ok (.i2l, 1) := by decide +kernel
theorem dX4_divideAndRest_50 : decode cX4_divideAndRest 50 = .ok (.ldiv, 1) := by decide +kernel
theorem dX4_divideAndRest_51 : decode cX4_divideAndRest 51 = .ok (.l2i, 1) := by decide +kernel
theorem dX4_divideAndRest_52 : decode cX4_divideAndRest 52 = .ok (.iastore, 1) := by decide +kernel
theorem dX4_divideAndRest_53 : decode cX4_divideAndRest 53 = .ok (.lload 5, 2) := by decide +kernel
theorem dX4_divideAndRest_55 : decode cX4_divideAndRest 55 = .ok (.iload_n 1, 1) := by decide +kernel
theorem dX4_divideAndRest_56 : decode cX4_divideAndRest 56 = .ok (.i2l, 1) := by decide +kernel
theorem dX4_divideAndRest_57 : decode cX4_divideAndRest 57 = .ok (.lrem, 1) := by decide +kernel
theorem dX4_divideAndRest_58 : decode cX4_divideAndRest 58 = .ok (.lstore_n 2, 1) := by decide +kernel
theorem dX4_divideAndRest_59 : decode cX4_divideAndRest 59 = .ok (.iinc 4 (-1), 3) := by decide +kernel
theorem dX4_divideAndRest_62 : decode cX4_divideAndRest 62 = .ok (.goto (-46), 3) := by decide +kernel
theorem dX4_divideAndRest_65 : decode cX4_divideAndRest 65 = .ok (.aload_n 0, 1) := by decide +kernel
theorem dX4_divideAndRest_66 : decode cX4_divideAndRest 66 = .ok (.aload_n 0, 1) := by decide +kernel
theorem dX4_divideAndRest_67 : decode cX4_divideAndRest 67 = .ok (.getfield 13, 3) := by decide +kernel
theorem dX4_divideAndRest_70 : decode cX4_divideAndRest 70 = .ok (.aload_n 0, 1) := by decide +kernel
theorem dX4_divideAndRest_71 : decode cX4_divideAndRest 71 = .ok (.getfield 17, 3) := by decide +kernel
theorem dX4_divideAndRest_74 : decode cX4_divideAndRest 74 = .ok (.invokevirtual 45, 3) := by decide +kernel
theorem dX4_divideAndRest_77 : decode cX4_divideAndRest 77 = .ok (.lload_n 2, 1) := by decide +kernel
theorem dX4_divideAndRest_78 : decode cX4_divideAndRest 78 = .ok (.l2i, 1) := by decide +kernel
theorem dX4_divideAndRest_79 : decode cX4_divideAndRest 79 = .ok (.ireturn, 1) := by decide +kernel
