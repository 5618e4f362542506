theorem dX2_init_0 : decode cX2_init 0 = .ok (.aload_n 0, 1) := by decide +kernel
theorem dX2_init_1 : decode cX2_init 1 = .ok (.invokespecial 1, 3) := by decide +kernel
theorem dX2_init_4 : decode cX2_init 4 = .ok (.aload_n 0, 1) := by decide +kernel
theorem dX2_init_5 : decode cX2_init 5 = .ok (.sipush 1300, 3) := by decide +kernel
theorem dX2_init_8 : decode cX2_init 8 = .ok (.newarray .byte, 2) := by decide +kernel
theorem dX2_init_10 : decode cX2_init 10 = .ok (.putfield 9, 3) := by decide +kernel
theorem dX2_init_13 : decode cX2_init 13 = .ok (.aload_n 0, 1) := by decide +kernel
theorem dX2_init_14 : decode cX2_init 14 = .ok (.iconst 0, 1) := by decide +kernel
theorem dX2_init_15 : decode cX2_init 15 = .ok (.putfield 13, 3) := by decide +kernel
theorem dX2_init_18 : decode cX2_init 18 = .ok (.return_, 1) := by decide +kernel
theorem dX2_hasRoomFor_0 : decode cX2_hasRoomFor 0 = .ok (.aload_n 0, 1) := by decide +kernel
theorem dX2_hasRoomFor_1 : decode cX2_hasRoomFor 1 = .ok (.getfield 13, 3) := by decide +kernel
theorem dX2_hasRoomFor_4 : decode cX2_hasRoomFor 4 = .ok (.iload_n 1, 1) := by decide +kernel
theorem dX2_hasRoomFor_5 : decode cX2_hasRoomFor 5 = .ok (.iadd, 1) := by decide +kernel
theorem dX2_hasRoomFor_6 : decode cX2_hasRoomFor 6 = .ok (.sipush 1300, 3) := by decide +kernel
theorem dX2_hasRoomFor_9 : decode cX2_hasRoomFor 9 = .ok (.if_icmp .gt 7, 3) := by decide +kernel
theorem dX2_hasRoomFor_12 : decode cX2_hasRoomFor 12 = .ok (.iconst 1, 1) := by decide +kernel
theorem dX2_hasRoomFor_13 : decode cX2_hasRoomFor 13 = .ok (.goto 4, 3) := by decide +kernel
theorem dX2_hasRoomFor_16 : decode cX2_hasRoomFor 16 = .ok (.iconst 0, 1) := by decide +kernel
theorem dX2_hasRoomFor_17 : decode cX2_hasRoomFor 17 = .ok (.ireturn, 1) := by decide +kernel
theorem dX2_append_0 : decode cX2_append 0 = .ok (.iload_n 3, 1) := by decide +kernel
theorem dX2_append_1 : decode cX2_append 1 = .ok (.iconst 1, 1) := by decide +kernel
theorem dX2_append_2 : decode cX2_append 2 = .ok (.isub, 1) := by decide +kernel
theorem dX2_append_3 : decode cX2_append 3 = .ok (.istore 4, 2) := by decide +kernel
theorem dX2_append_5 : decode cX2_append 5 = .ok (.iload 4, 2) := by decide +kernel
theorem dX2_append_7 : decode cX2_append 7 = .ok (.ifCond .lt 37, 3) := by decide +kernel
theorem dX2_append_10 : decode cX2_append 10 = .ok (.aload_n 0, 1) := by decide +kernel
theorem dX2_append_11 : decode cX2_append 11 = .ok (.getfield 9, 3) := by decide +kernel
theorem dX2_append_14 : decode cX2_append 14 = .ok (.aload_n 0, 1) := by decide +kernel
theorem dX2_append_15 : decode cX2_append 15 = .ok (.getfield 13, 3) := by decide +kernel
theorem dX2_append_18 : decode cX2_append 18 = .ok (.lload_n 1, 1) := by decide +kernel
theorem dX2_append_19 : decode cX2_append 19 = .ok (.bipush 8, 2) := by decide +kernel
theorem dX2_append_21 : decode cX2_append 21 = .ok (.iload 4, 2) := by decide +kernel
theorem dX2_append_23 : decode cX2_append 23 = .ok (.imul, 1) := by decide +kernel
theorem dX2_append_24 : decode cX2_append 24 = .ok (.lushr, 1) := by decide +kernel
theorem dX2_append_25 : decode cX2_append 25 = .ok (.l2i, 1) := by decide +kernel
theorem dX2_append_26 : decode cX2_append 26 = .ok (.i2b, 1) := by decide +kernel
theorem dX2_append_27 : decode cX2_append 27 = .ok (.bastore, 1) := by decide +kernel
theorem dX2_append_28 : decode cX2_append 28 = .ok (.aload_n 0, 1) := by decide +kernel
theorem dX2_append_29 : decode cX2_append 29 = .ok (.dup, 1) := by decide +kernel
theorem dX2_append_30 : decode cX2_append 30 = .ok (.getfield 13, 3) := by decide +kernel
theorem dX2_append_33 : decode cX2_append 33 = .ok (.iconst 1, 1) := by decide +kernel
theorem dX2_append_34 : decode cX2_append 34 = .ok (.iadd, 1) := by decide +kernel
theorem dX2_append_35 : decode cX2_append 35 = .ok (.putfield 13, 3) := by decide +kernel
theorem dX2_append_38 : decode cX2_append 38 = .ok (.iinc 4 (-1), 3) := by decide +kernel
theorem dX2_append_41 : decode cX2_append 41 = .ok (.goto (-36), 3) := by decide +kernel
theorem dX2_append_44 : decode cX2_append 44 = .ok (.return_, 1) := by decide +kernel
set_option maxRecDepth 20000 in
theorem ggX2_firstWrongPlace_X2_digitsBegin : GoodIn wsX2_firstWrongPlace wsX2_digitsBegin := goodIn_r _ [7, 1, 2, 8, 9] rfl (by decide +kernel)
set_option maxRecDepth 20000 in
theorem gX2_firstWrongPlace_X2_digitsBegin : GoodIn wsX2_firstWrongPlace (wsV RX2 17 RX2 yX2_digitsBegin wsX2_digitsBegin) := goodIn_app (goodIn_of _ (by decide +kernel)) ggX2_firstWrongPlace_X2_digitsBegin
theorem dX2_firstWrongPlace_0 : decode cX2_firstWrongPlace 0 = .ok (.aload_n 0, 1) := by decide +kernel
theorem dX2_firstWrongPlace_1 : decode cX2_firstWrongPlace 1 = .ok (.invokevirtual 17, 3) := by decide +kernel
theorem dX2_firstWrongPlace_4 : decode cX2_firstWrongPlace 4 = .ok (.istore_n 1, 1) := by decide +kernel
theorem dX2_firstWrongPlace_5 : decode cX2_firstWrongPlace 5 = .ok (.iload_n 1, 1) := by decide +kernel
theorem dX2_firstWrongPlace_6 : decode cX2_firstWrongPlace 6 = .ok (.istore_n 2, 1) := by decide +kernel
theorem dX2_firstWrongPlace_7 : decode cX2_firstWrongPlace 7 = .ok (.iload_n 2, 1) := by decide +kernel
theorem dX2_firstWrongPlace_8 : decode cX2_firstWrongPlace 8 = .ok (.aload_n 0, 1) := by decide +kernel
theorem dX2_firstWrongPlace_9 : decode cX2_firstWrongPlace 9 = .ok (.getfield 13, 3) := by decide +kernel
theorem dX2_firstWrongPlace_12 : decode cX2_firstWrongPlace 12 = .ok (.if_icmp .ge 33, 3) := by decide +kernel
theorem dX2_firstWrongPlace_15 : decode cX2_firstWrongPlace 15 = .ok (.aload_n 0, 1) := by decide +kernel
theorem dX2_firstWrongPlace_16 : decode cX2_firstWrongPlace 16 = .ok (.getfield 9, 3) := by decide +kernel
theorem dX2_firstWrongPlace_19 : decode cX2_firstWrongPlace 19 = .ok (.iload_n 2, 1) := by decide +kernel
theorem dX2_firstWrongPlace_20 : decode cX2_firstWrongPlace 20 = .ok (.baload, 1) := by decide +kernel
theorem dX2_firstWrongPlace_21 : decode cX2_firstWrongPlace 21 = .ok (.bipush 48, 2) := by decide +kernel
theorem dX2_firstWrongPlace_23 : decode cX2_firstWrongPlace 23 = .ok (.if_icmp .lt 14, 3) := by decide +kernel
theorem dX2_firstWrongPlace_26 : decode cX2_firstWrongPlace 26 = .ok (.aload_n 0, 1) := by decide +kernel
theorem dX2_firstWrongPlace_27 : decode cX2_firstWrongPlace 27 = .ok (.getfield 9, 3) := by decide +kernel
theorem dX2_firstWrongPlace_30 : decode cX2_firstWrongPlace 30 = .ok (.iload_n 2, 1) := by decide +kernel
theorem dX2_firstWrongPlace_31 : decode cX2_firstWrongPlace 31 = .ok (.baload, 1) := by decide +kernel
theorem dX2_firstWrongPlace_32 : decode cX2_firstWrongPlace 32 = .ok (.bipush 57, 2) := by decide +kernel
theorem dX2_firstWrongPlace_34 : decode cX2_firstWrongPlace 34 = .ok (.if_icmp .le 5, 3) := by decide +kernel
theorem dX2_firstWrongPlace_37 : decode cX2_firstWrongPlace 37 = .ok (.iload_n 2, 1) := by decide +kernel
theorem dX2_firstWrongPlace_38 : decode cX2_firstWrongPlace 38 = .ok (.ireturn, 1) := by decide +kernel
theorem dX2_firstWrongPlace_39 : decode cX2_firstWrongPlace 39 = .ok (.iinc 2 1, 3) := by decide +kernel
theorem dX2_firstWrongPlace_42 : decode cX2_firstWrongPlace 42 = .ok (.goto (-35), 3) := by decide +kernel
theorem dX2_firstWrongPlace_45 : decode cX2_firstWrongPlace 45 = .ok (.iload_n 1, 1) := by decide +kernel
theorem dX2_firstWrongPlace_46 : decode cX2_firstWrongPlace 46 = .ok (.aload_n 0, 1) := by decide +kernel
theorem dX2_firstWrongPlace_47 : decode cX2_firstWrongPlace 47 = .ok (.getfield 13, 3) := by decide +kernel
theorem dX2_firstWrongPlace_50 : decode cX2_firstWrongPlace 50 = .ok (.if_icmp .ne 10, 3) := by decide +kernel
theorem dX2_firstWrongPlace_53 : decode cX2_firstWrongPlace 53 = .ok (.aload_n 0, 1) := by decide +kernel
theorem dX2_firstWrongPlace_54 : decode cX2_firstWrongPlace 54 = .ok (.getfield 13, 3) := by decide +kernel
theorem dX2_firstWrongPlace_57 : decode cX2_firstWrongPlace 57 = .ok (.goto 4, 3) := by decide +kernel
theorem dX2_firstWrongPlace_60 : decode cX2_firstWrongPlace 60 = .ok (.iconst (-1), 1) := by decide +kernel
theorem dX2_firstWrongPlace_61 : decode cX2_firstWrongPlace 61 = .ok (.ireturn, 1) := by decide +kernel
theorem dX2_digitsBegin_0 : decode cX2_digitsBegin 0 = .ok (.aload_n 0, 1) := by decide +kernel
theorem dX2_digitsBegin_1 : decode cX2_digitsBegin 1 = .ok (.getfield 13, 3) := by decide +kernel
theorem dX2_digitsBegin_4 : decode cX2_digitsBegin 4 = .ok (.ifCond .le 29, 3) := by decide +kernel
theorem dX2_digitsBegin_7 : decode cX2_digitsBegin 7 = .ok (.aload_n 0, 1) := by decide +kernel
theorem dX2_digitsBegin_8 : decode cX2_digitsBegin 8 = .ok (.getfield 9, 3) := by decide +kernel
theorem dX2_digitsBegin_11 : decode cX2_digitsBegin 11 = .ok (.iconst 0, 1) := by decide +kernel
theorem dX2_digitsBegin_12 : decode cX2_digitsBegin 12 = .ok (.baload, 1) := by decide +kernel
theorem dX2_digitsBegin_13 : decode cX2_digitsBegin 13 = .ok (.bipush 43, 2) := by decide +kernel
theorem dX2_digitsBegin_15 : decode cX2_digitsBegin 15 = .ok (.if_icmp .eq 14, 3) := by decide +kernel
theorem dX2_digitsBegin_18 : decode cX2_digitsBegin 18 = .ok (.aload_n 0, 1) := by decide +kernel
theorem dX2_digitsBegin_19 : decode cX2_digitsBegin 19 = .ok (.getfield 9, 3) := by decide +kernel
theorem dX2_digitsBegin_22 : decode cX2_digitsBegin 22 = .ok (.iconst 0, 1) := by decide +kernel
theorem dX2_digitsBegin_23 : decode cX2_digitsBegin 23 = .ok (.baload, 1) := by decide +kernel
theorem dX2_digitsBegin_24 : decode cX2_digitsBegin 24 = .ok (.bipush 45, 2) := by decide +kernel
theorem dX2_digitsBegin_26 : decode cX2_digitsBegin 26 = .ok (.if_icmp .ne 7, 3) := by decide +kernel
theorem dX2_digitsBegin_29 : decode cX2_digitsBegin 29 = .ok (.iconst 1, 1) := by decide +kernel
theorem dX2_digitsBegin_30 : decode cX2_digitsBegin 30 = .ok (.goto 4, 3) := by decide +kernel
theorem dX2_digitsBegin_33 : decode cX2_digitsBegin 33 = .ok (.iconst 0, 1) := by decide +kernel
theorem dX2_digitsBegin_34 : decode cX2_digitsBegin 34 = .ok (.ireturn, 1) := by decide +kernel
set_option maxRecDepth 20000 in
theorem ggX2_spell_X4_becomeInt : GoodIn wsX2_spell wsX4_becomeInt := goodIn_r _ [9, 10, 11, 12, 13, 14, 15, 16, 17, 8, 18, 19, 20, 37, 38, 39] rfl (by decide +kernel)
set_option maxRecDepth 20000 in
theorem gX2_spell_X4_becomeInt : GoodIn wsX2_spell (wsV RX2 21 RX4 yX4_becomeInt wsX4_becomeInt) := goodIn_app (goodIn_of _ (by decide +kernel)) ggX2_spell_X4_becomeInt
set_option maxRecDepth 20000 in
theorem ggX2_spell_X2_digitsBegin : GoodIn wsX2_spell wsX2_digitsBegin := goodIn_r _ [25, 1, 3, 35, 36] rfl (by decide +kernel)
set_option maxRecDepth 20000 in
theorem gX2_spell_X2_digitsBegin : GoodIn wsX2_spell (wsV RX2 17 RX2 yX2_digitsBegin wsX2_digitsBegin) := goodIn_app (goodIn_of _ (by decide +kernel)) ggX2_spell_X2_digitsBegin
set_option maxRecDepth 20000 in
theorem ggX2_spell_X4_scaleAndAdd : GoodIn wsX2_spell wsX4_scaleAndAdd := goodIn_r _ [29, 19, 10, 30, 37, 38, 39] rfl (by decide +kernel)
set_option maxRecDepth 20000 in
theorem gX2_spell_X4_scaleAndAdd : GoodIn wsX2_spell (wsV RX2 30 RX4 yX4_scaleAndAdd wsX4_scaleAndAdd) := goodIn_app (goodIn_of _ (by decide +kernel)) ggX2_spell_X4_scaleAndAdd
set_option maxRecDepth 20000 in
theorem ggX2_spell_X4_isZero : GoodIn wsX2_spell wsX4_isZero := goodIn_r _ [34, 19, 37, 38, 39] rfl (by decide +kernel)
set_option maxRecDepth 20000 in
theorem gX2_spell_X4_isZero : GoodIn wsX2_spell (wsV RX2 34 RX4 yX4_isZero wsX4_isZero) := goodIn_app (goodIn_of _ (by decide +kernel)) ggX2_spell_X4_isZero
theorem dX2_spell_0 : decode cX2_spell 0 = .ok (.aload_n 1, 1) := by decide +kernel
theorem dX2_spell_1 : decode cX2_spell 1 = .ok (.iconst 0, 1) := by decide +kernel
theorem dX2_spell_2 : decode cX2_spell 2 = .ok (.invokevirtual 21, 3) := by decide +kernel
theorem dX2_spell_5 : decode cX2_spell 5 = .ok (.iconst 0, 1) := by decide +kernel
theorem dX2_spell_6 : decode cX2_spell 6 = .ok (.istore_n 3, 1) := by decide +kernel
theorem dX2_spell_7 : decode cX2_spell 7 = .ok (.iconst 1, 1) := by decide +kernel
theorem dX2_spell_8 : decode cX2_spell 8 = .ok (.istore 4, 2) := by decide +kernel
theorem dX2_spell_10 : decode cX2_spell 10 = .ok (.aload_n 0, 1) := by decide +kernel
theorem dX2_spell_11 : decode cX2_spell 11 = .ok (.invokevirtual 17, 3) := by decide +kernel
theorem dX2_spell_14 : decode cX2_spell 14 = .ok (.istore 5, 2) := by decide +kernel
theorem dX2_spell_16 : decode cX2_spell 16 = .ok (.iload 5, 2) := by decide +kernel
theorem dX2_spell_18 : decode cX2_spell 18 = .ok (.aload_n 0, 1) := by decide +kernel
theorem dX2_spell_19 : decode cX2_spell 19 = .ok (.getfield 13, 3) := by decide +kernel
theorem dX2_spell_22 : decode cX2_spell 22 = .ok (.if_icmp .ge 67, 3) := by decide +kernel
theorem dX2_spell_25 : decode cX2_spell 25 = .ok (.aload_n 1, 1) := by decide +kernel
theorem dX2_spell_26 : decode cX2_spell 26 = .ok (.getfield 27, 3) := by decide +kernel
theorem dX2_spell_29 : decode cX2_spell 29 = .ok (.iload_n 2, 1) := by decide +kernel
theorem dX2_spell_30 : decode cX2_spell 30 = .ok (.if_icmp .gt 59, 3) := by decide +kernel
theorem dX2_spell_33 : decode cX2_spell 33 = .ok (.iload_n 3, 1) := by decide +kernel
theorem dX2_spell_34 : decode cX2_spell 34 = .ok (.bipush 10, 2) := by decide +kernel
theorem dX2_spell_36 : decode cX2_spell 36 = .ok (.imul, 1) := by decide +kernel
theorem dX2_spell_37 : decode cX2_spell 37 = .ok (.aload_n 0, 1) := by decide +kernel
theorem dX2_spell_38 : decode cX2_spell 38 = .ok (.getfield 9, 3) := by decide +kernel
theorem dX2_spell_41 : decode cX2_spell 41 = .ok (.iload 5, 2) := by decide +kernel
theorem dX2_spell_43 : decode cX2_spell 43 = .ok (.baload, 1) := by decide +kernel
theorem dX2_spell_44 : decode cX2_spell 44 = .ok (.bipush 48, 2) := by decide +kernel
theorem dX2_spell_46 : decode cX2_spell 46 = .ok (.isub, 1) := by decide +kernel
theorem dX2_spell_47 : decode cX2_spell 47 = .ok (.iadd, 1) := by decide +kernel
theorem dX2_spell_48 : decode cX2_spell 48 = .ok (.istore_n 3, 1) := by decide +kernel
theorem dX2_spell_49 : decode cX2_spell 49 = .ok (.iload 4, 2) := by decide +kernel
theorem dX2_spell_51 : decode cX2_spell 51 = .ok (.bipush 10, 2) := by decide +kernel
theorem dX2_spell_53 : decode cX2_spell 53 = .ok (.imul, 1) := by decide +kernel
theorem dX2_spell_54 : decode cX2_spell 54 = .ok (.istore 4, 2) := by decide +kernel
theorem dX2_spell_56 : decode cX2_spell 56 = .ok (.aload_n 0, 1) := by decide +kernel
theorem dX2_spell_57 : decode cX2_spell 57 = .ok (.getfield 13, 3) := by decide +kernel
theorem dX2_spell_60 : decode cX2_spell 60 = .ok (.iconst 1, 1) := by decide +kernel
theorem dX2_spell_61 : decode cX2_spell 61 = .ok (.isub, 1) := by decide +kernel
theorem dX2_spell_62 : decode cX2_spell 62 = .ok (.iload 5, 2) := by decide +kernel
theorem dX2_spell_64 : decode cX2_spell 64 = .ok (.isub, 1) := by decide +kernel
theorem dX2_spell_65 : decode cX2_spell 65 = .ok (.bipush 9, 2) := by decide +kernel
theorem dX2_spell_67 : decode cX2_spell 67 = .ok (.irem, 1) := by decide +kernel
theorem dX2_spell_68 : decode cX2_spell 68 = .ok (.ifCond .ne 15, 3) := by decide +kernel
theorem dX2_spell_71 : decode cX2_spell 71 = .ok (.aload_n 1, 1) := by decide +kernel
theorem dX2_spell_72 : decode cX2_spell 72 = .ok (.iload 4, 2) := by decide +kernel
theorem dX2_spell_74 : decode cX2_spell 74 = .ok (.iload_n 3, 1) := by decide +kernel
theorem dX2_spell_75 : decode cX2_spell 75 = .ok (.invokevirtual 30, 3) := by decide +kernel
theorem dX2_spell_78 : decode cX2_spell 78 = .ok (.iconst 0, 1) := by decide +kernel
theorem dX2_spell_79 : decode cX2_spell 79 = .ok (.istore_n 3, 1) := by decide +kernel
theorem dX2_spell_80 : decode cX2_spell 80 = .ok (.iconst 1, 1) := by decide +kernel
theorem dX2_spell_81 : decode cX2_spell 81 = .ok (.istore 4, 2) := by decide +kernel
theorem dX2_spell_83 : decode cX2_spell 83 = .ok (.iinc 5 1, 3) := by decide +kernel
theorem dX2_spell_86 : decode cX2_spell 86 = .ok (.goto (-70), 3) := by decide +kernel
theorem dX2_spell_89 : decode cX2_spell 89 = .ok (.aload_n 1, 1) := by decide +kernel
theorem dX2_spell_90 : decode cX2_spell 90 = .ok (.aload_n 1, 1) := by decide +kernel
theorem dX2_spell_91 : decode cX2_spell 91 = .ok (.invokevirtual 34, 3) := by decide +kernel
theorem dX2_spell_94 : decode cX2_spell 94 = .ok (.ifCond .ne 18, 3) := by decide +kernel
theorem dX2_spell_97 : decode cX2_spell 97 = .ok (.aload_n 0, 1) := by decide +kernel
theorem dX2_spell_98 : decode cX2_spell 98 = .ok (.getfield 9, 3) := by decide +kernel
theorem dX2_spell_101 : decode cX2_spell 101 = .ok (.iconst 0, 1) := by decide +kernel
theorem dX2_spell_102 : decode cX2_spell 102 = .ok (.baload, 1) := by decide +kernel
theorem dX2_spell_103 : decode cX2_spell 103 = .ok (.bipush 45, 2) := by decide +kernel
theorem dX2_spell_105 : decode cX2_spell 105 = .ok (.if_icmp .ne 7, 3) := by decide +kernel
theorem dX2_spell_108 : decode cX2_spell 108 = .ok (.iconst 1, 1) := by decide +kernel
theorem dX2_spell_109 : decode cX2_spell 109 = .ok (.goto 4, 3) := by decide +kernel
theorem dX2_spell_112 : decode cX2_spell 112 = .ok (.iconst 0, 1) := by decide +kernel
theorem dX2_spell_113 : decode cX2_spell 113 = .ok (.putfield 38, 3) := by decide +kernel
theorem dX2_spell_116 : decode cX2_spell 116 = .ok (.return_, 1) := by decide +kernel
