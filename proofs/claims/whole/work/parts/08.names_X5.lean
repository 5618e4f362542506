set_option maxRecDepth 20000 in
theorem gX5_length_X5_isNone : GoodIn wsX5_length (wsV RX5 66 RX5 yX5_isNone wsX5_isNone) := goodIn_app (goodIn_of _ (by decide +kernel)) ggX5_length_X5_isNone
set_option maxRecDepth 20000 in
theorem ggX5_length_X4_bits : GoodIn wsX5_length wsX4_bits := goodIn_r _ [12, 13, 14, 15, 16, 17, 18, 19, 29, 30, 31] rfl (by decide +kernel)
set_option maxRecDepth 20000 in
theorem gX5_length_X4_bits : GoodIn wsX5_length (wsV RX5 117 RX4 yX4_bits wsX4_bits) := goodIn_app (goodIn_of _ (by decide +kernel)) ggX5_length_X4_bits
theorem dX5_length_0 : decode cX5_length 0 = .ok (.aload_n 0, 1) := by decide +kernel
theorem dX5_length_1 : decode cX5_length 1 = .ok (.iload_n 1, 1) := by decide +kernel
theorem dX5_length_2 : decode cX5_length 2 = .ok (.invokevirtual 66, 3) := by decide +kernel
theorem dX5_length_5 : decode cX5_length 5 = .ok (.ifCond .ne 12, 3) := by decide +kernel
theorem dX5_length_8 : decode cX5_length 8 = .ok (.iload_n 2, 1) := by decide +kernel
theorem dX5_length_9 : decode cX5_length 9 = .ok (.ifCond .lt 8, 3) := by decide +kernel
theorem dX5_length_12 : decode cX5_length 12 = .ok (.iload_n 2, 1) := by decide +kernel
theorem dX5_length_13 : decode cX5_length 13 = .ok (.iconst 1, 1) := by decide +kernel
theorem dX5_length_14 : decode cX5_length 14 = .ok (.if_icmp .le 5, 3) := by decide +kernel
theorem dX5_length_17 : decode cX5_length 17 = .ok (.iconst (-1), 1) := by decide +kernel
theorem dX5_length_18 : decode cX5_length 18 = .ok (.ireturn, 1) := by decide +kernel
theorem dX5_length_19 : decode cX5_length 19 = .ok (.iload_n 2, 1) := by decide +kernel
theorem dX5_length_20 : decode cX5_length 20 = .ok (.ifCond .ne 15, 3) := by decide +kernel
theorem dX5_length_23 : decode cX5_length 23 = .ok (.aload_n 0, 1) := by decide +kernel
theorem dX5_length_24 : decode cX5_length 24 = .ok (.getfield 19, 3) := by decide +kernel
theorem dX5_length_27 : decode cX5_length 27 = .ok (.iload_n 1, 1) := by decide +kernel
theorem dX5_length_28 : decode cX5_length 28 = .ok (.aaload, 1) := by decide +kernel
theorem dX5_length_29 : decode cX5_length 29 = .ok (.getfield 100, 3) := by decide +kernel
theorem dX5_length_32 : decode cX5_length 32 = .ok (.goto 12, 3) := by decide +kernel
theorem dX5_length_35 : decode cX5_length 35 = .ok (.aload_n 0, 1) := by decide +kernel
theorem dX5_length_36 : decode cX5_length 36 = .ok (.getfield 19, 3) := by decide +kernel
theorem dX5_length_39 : decode cX5_length 39 = .ok (.iload_n 1, 1) := by decide +kernel
theorem dX5_length_40 : decode cX5_length 40 = .ok (.aaload, 1) := by decide +kernel
theorem dX5_length_41 : decode cX5_length 41 = .ok (.invokevirtual 117, 3) := by decide +kernel
theorem dX5_length_44 : decode cX5_length 44 = .ok (.ireturn, 1) := by decide +kernel
set_option maxRecDepth 20000 in
theorem ggX5_limb_X5_isNone : GoodIn wsX5_limb wsX5_isNone := goodIn_r _ [8, 1, 9, 10, 11, 12, 13, 14, 15, 16, 17] rfl (by decide +kernel)
set_option maxRecDepth 20000 in
theorem gX5_limb_X5_isNone : GoodIn wsX5_limb (wsV RX5 66 RX5 yX5_isNone wsX5_isNone) := goodIn_app (goodIn_of _ (by decide +kernel)) ggX5_limb_X5_isNone
theorem dX5_limb_0 : decode cX5_limb 0 = .ok (.aload_n 0, 1) := by decide +kernel
theorem dX5_limb_1 : decode cX5_limb 1 = .ok (.iload_n 1, 1) := by decide +kernel
theorem dX5_limb_2 : decode cX5_limb 2 = .ok (.invokevirtual 66, 3) := by decide +kernel
theorem dX5_limb_5 : decode cX5_limb 5 = .ok (.ifCond .ne 20, 3) := by decide +kernel
theorem dX5_limb_8 : decode cX5_limb 8 = .ok (.iload_n 2, 1) := by decide +kernel
theorem dX5_limb_9 : decode cX5_limb 9 = .ok (.ifCond .lt 16, 3) := by decide +kernel
theorem dX5_limb_12 : decode cX5_limb 12 = .ok (.iload_n 2, 1) := by decide +kernel
theorem dX5_limb_13 : decode cX5_limb 13 = .ok (.aload_n 0, 1) := by decide +kernel
theorem dX5_limb_14 : decode cX5_limb 14 = .ok (.getfield 19, 3) := by decide +kernel
theorem dX5_limb_17 : decode cX5_limb 17 = .ok (.iload_n 1, 1) := by decide +kernel
theorem dX5_limb_18 : decode cX5_limb 18 = .ok (.aaload, 1) := by decide +kernel
theorem dX5_limb_19 : decode cX5_limb 19 = .ok (.getfield 100, 3) := by decide +kernel
theorem dX5_limb_22 : decode cX5_limb 22 = .ok (.if_icmp .lt 5, 3) := by decide +kernel
theorem dX5_limb_25 : decode cX5_limb 25 = .ok (.iconst 0, 1) := by decide +kernel
theorem dX5_limb_26 : decode cX5_limb 26 = .ok (.ireturn, 1) := by decide +kernel
theorem dX5_limb_27 : decode cX5_limb 27 = .ok (.aload_n 0, 1) := by decide +kernel
theorem dX5_limb_28 : decode cX5_limb 28 = .ok (.getfield 19, 3) := by decide +kernel
theorem dX5_limb_31 : decode cX5_limb 31 = .ok (.iload_n 1, 1) := by decide +kernel
theorem dX5_limb_32 : decode cX5_limb 32 = .ok (.aaload, 1) := by decide +kernel
theorem dX5_limb_33 : decode cX5_limb 33 = .ok (.getfield 152, 3) := by decide +kernel
theorem dX5_limb_36 : decode cX5_limb 36 = .ok (.iload_n 2, 1) := by decide +kernel
theorem dX5_limb_37 : decode cX5_limb 37 = .ok (.iaload, 1) := by decide +kernel
theorem dX5_limb_38 : decode cX5_limb 38 = .ok (.ireturn, 1) := by decide +kernel
set_option maxRecDepth 20000 in
theorem ggX5_write_X5_isNone : GoodIn wsX5_write wsX5_isNone := goodIn_r _ [8, 2, 55, 56, 57, 58, 59, 60, 61, 62, 63] rfl (by decide +kernel)
set_option maxRecDepth 20000 in
theorem gX5_write_X5_isNone : GoodIn wsX5_write (wsV RX5 66 RX5 yX5_isNone wsX5_isNone) := goodIn_app (goodIn_of _ (by decide +kernel)) ggX5_write_X5_isNone
set_option maxRecDepth 20000 in
theorem ggX5_write_X3_print : GoodIn wsX5_write wsX3_print := goodIn_r _ [13, 14, 15, 16, 17, 18, 19, 20, 21, 22, 23, 24, 25, 26, 27, 28, 29, 30, 31, 32, 33, 34, 35, 36, 37, 38, 39, 40, 41, 42, 43, 44, 45, 12, 46, 47, 48, 49, 50, 64, 65, 66, 67, 68] rfl (by decide +kernel)
set_option maxRecDepth 20000 in
theorem gX5_write_X3_print : GoodIn wsX5_write (wsV RX5 156 RX3 yX3_print wsX3_print) := goodIn_app (goodIn_of _ (by decide +kernel)) ggX5_write_X3_print
set_option maxRecDepth 20000 in
theorem ggX5_write_X3_size : GoodIn wsX5_write wsX3_size := goodIn_r _ [54, 14, 15, 64, 65] rfl (by decide +kernel)
set_option maxRecDepth 20000 in
theorem gX5_write_X3_size : GoodIn wsX5_write (wsV RX5 159 RX3 yX3_size wsX3_size) := goodIn_app (goodIn_of _ (by decide +kernel)) ggX5_write_X3_size
theorem dX5_write_0 : decode cX5_write 0 = .ok (.aload_n 0, 1) := by decide +kernel
theorem dX5_write_1 : decode cX5_write 1 = .ok (.iload_n 1, 1) := by decide +kernel
theorem dX5_write_2 : decode cX5_write 2 = .ok (.invokevirtual 66, 3) := by decide +kernel
theorem dX5_write_5 : decode cX5_write 5 = .ok (.ifCond .eq 5, 3) := by decide +kernel
theorem dX5_write_8 : decode cX5_write 8 = .ok (.iconst (-1), 1) := by decide +kernel
theorem dX5_write_9 : decode cX5_write 9 = .ok (.ireturn, 1) := by decide +kernel
theorem dX5_write_10 : decode cX5_write 10 = .ok (.aload_n 0, 1) := by decide +kernel
theorem dX5_write_11 : decode cX5_write 11 = .ok (.getfield 55, 3) := by decide +kernel
theorem dX5_write_14 : decode cX5_write 14 = .ok (.aload_n 0, 1) := by decide +kernel
theorem dX5_write_15 : decode cX5_write 15 = .ok (.getfield 19, 3) := by decide +kernel
theorem dX5_write_18 : decode cX5_write 18 = .ok (.iload_n 1, 1) := by decide +kernel
theorem dX5_write_19 : decode cX5_write 19 = .ok (.aaload, 1) := by decide +kernel
theorem dX5_write_20 : decode cX5_write 20 = .ok (.aload_n 0, 1) := by decide +kernel
theorem dX5_write_21 : decode cX5_write 21 = .ok (.getfield 26, 3) := by decide +kernel
theorem dX5_write_24 : decode cX5_write 24 = .ok (.invokevirtual 156, 3) := by decide +kernel
theorem dX5_write_27 : decode cX5_write 27 = .ok (.aload_n 0, 1) := by decide +kernel
theorem dX5_write_28 : decode cX5_write 28 = .ok (.getfield 55, 3) := by decide +kernel
theorem dX5_write_31 : decode cX5_write 31 = .ok (.invokevirtual 159, 3) := by decide +kernel
theorem dX5_write_34 : decode cX5_write 34 = .ok (.ireturn, 1) := by decide +kernel
set_option maxRecDepth 20000 in
theorem ggX5_written_X3_size : GoodIn wsX5_written wsX3_size := goodIn_r _ [6, 7, 8, 22, 23] rfl (by decide +kernel)
set_option maxRecDepth 20000 in
theorem gX5_written_X3_size : GoodIn wsX5_written (wsV RX5 159 RX3 yX3_size wsX3_size) := goodIn_app (goodIn_of _ (by decide +kernel)) ggX5_written_X3_size
set_option maxRecDepth 20000 in
theorem ggX5_written_X3_at : GoodIn wsX5_written wsX3_at := goodIn_r _ [12, 7, 8, 22, 23] rfl (by decide +kernel)
set_option maxRecDepth 20000 in
theorem gX5_written_X3_at : GoodIn wsX5_written (wsV RX5 162 RX3 yX3_at wsX3_at) := goodIn_app (goodIn_of _ (by decide +kernel)) ggX5_written_X3_at
theorem dX5_written_0 : decode cX5_written 0 = .ok (.iload_n 1, 1) := by decide +kernel
theorem dX5_written_1 : decode cX5_written 1 = .ok (.ifCond .lt 14, 3) := by decide +kernel
theorem dX5_written_4 : decode cX5_written 4 = .ok (.iload_n 1, 1) := by decide +kernel
theorem dX5_written_5 : decode cX5_written 5 = .ok (.aload_n 0, 1) := by decide +kernel
theorem dX5_written_6 : decode cX5_written 6 = .ok (.getfield 55, 3) := by decide +kernel
theorem dX5_written_9 : decode cX5_written 9 = .ok (.invokevirtual 159, 3) := by decide +kernel
theorem dX5_written_12 : decode cX5_written 12 = .ok (.if_icmp .lt 5, 3) := by decide +kernel
theorem dX5_written_15 : decode cX5_written 15 = .ok (.iconst (-1), 1) := by decide +kernel
theorem dX5_written_16 : decode cX5_written 16 = .ok (.ireturn, 1) := by decide +kernel
theorem dX5_written_17 : decode cX5_written 17 = .ok (.aload_n 0, 1) := by decide +kernel
theorem dX5_written_18 : decode cX5_written 18 = .ok (.getfield 55, 3) := by decide +kernel
theorem dX5_written_21 : decode cX5_written 21 = .ok (.iload_n 1, 1) := by decide +kernel
theorem dX5_written_22 : decode cX5_written 22 = .ok (.invokevirtual 162, 3) := by decide +kernel
theorem dX5_written_25 : decode cX5_written 25 = .ok (.ireturn, 1) := by decide +kernel
set_option maxRecDepth 20000 in
theorem ggX5_type_X2_hasRoomFor : GoodIn wsX5_type wsX2_hasRoomFor := goodIn_r _ [7, 8, 23, 24] rfl (by decide +kernel)
set_option maxRecDepth 20000 in
theorem gX5_type_X2_hasRoomFor : GoodIn wsX5_type (wsV RX5 165 RX2 yX2_hasRoomFor wsX2_hasRoomFor) := goodIn_app (goodIn_of _ (by decide +kernel)) ggX5_type_X2_hasRoomFor
set_option maxRecDepth 20000 in
theorem ggX5_type_X2_append : GoodIn wsX5_type wsX2_append := goodIn_r _ [12, 13, 8, 23, 24] rfl (by decide +kernel)
set_option maxRecDepth 20000 in
theorem gX5_type_X2_append : GoodIn wsX5_type (wsV RX5 168 RX2 yX2_append wsX2_append) := goodIn_app (goodIn_of _ (by decide +kernel)) ggX5_type_X2_append
theorem dX5_type_0 : decode cX5_type 0 = .ok (.iload_n 3, 1) := by decide +kernel
theorem dX5_type_1 : decode cX5_type 1 = .ok (.iconst 1, 1) := by decide +kernel
theorem dX5_type_2 : decode cX5_type 2 = .ok (.if_icmp .lt 9, 3) := by decide +kernel
theorem dX5_type_5 : decode cX5_type 5 = .ok (.iload_n 3, 1) := by decide +kernel
theorem dX5_type_6 : decode cX5_type 6 = .ok (.bipush 8, 2) := by decide +kernel
theorem dX5_type_8 : decode cX5_type 8 = .ok (.if_icmp .le 5, 3) := by decide +kernel
theorem dX5_type_11 : decode cX5_type 11 = .ok (.iconst (-1), 1) := by decide +kernel
theorem dX5_type_12 : decode cX5_type 12 = .ok (.ireturn, 1) := by decide +kernel
theorem dX5_type_13 : decode cX5_type 13 = .ok (.aload_n 0, 1) := by decide +kernel
theorem dX5_type_14 : decode cX5_type 14 = .ok (.getfield 62, 3) := by decide +kernel
theorem dX5_type_17 : decode cX5_type 17 = .ok (.iload_n 3, 1) := by decide +kernel
theorem dX5_type_18 : decode cX5_type 18 = .ok (.invokevirtual 165, 3) := by decide +kernel
theorem dX5_type_21 : decode cX5_type 21 = .ok (.ifCond .ne 6, 3) := by decide +kernel
theorem dX5_type_24 : decode cX5_type 24 = .ok (.bipush (-3), 2) := by decide +kernel
theorem dX5_type_26 : decode cX5_type 26 = .ok (.ireturn, 1) := by decide +kernel
theorem dX5_type_27 : decode cX5_type 27 = .ok (.aload_n 0, 1) := by decide +kernel
theorem dX5_type_28 : decode cX5_type 28 = .ok (.getfield 62, 3) := by decide +kernel
theorem dX5_type_31 : decode cX5_type 31 = .ok (.lload_n 1, 1) := by decide +kernel
theorem dX5_type_32 : decode cX5_type 32 = .ok (.iload_n 3, 1) := by decide +kernel
theorem dX5_type_33 : decode cX5_type 33 = .ok (.invokevirtual 168, 3) := by decide +kernel
theorem dX5_type_36 : decode cX5_type 36 = .ok (.aload_n 0, 1) := by decide +kernel
theorem dX5_type_37 : decode cX5_type 37 = .ok (.getfield 62, 3) := by decide +kernel
theorem dX5_type_40 : decode cX5_type 40 = .ok (.getfield 172, 3) := by decide +kernel
theorem dX5_type_43 : decode cX5_type 43 = .ok (.ireturn, 1) := by decide +kernel
set_option maxRecDepth 20000 in
theorem ggX5_read_X5_isNone : GoodIn wsX5_read wsX5_isNone := goodIn_r _ [9, 10, 66, 67, 68, 69, 70, 71, 72, 73, 74] rfl (by decide +kernel)
set_option maxRecDepth 20000 in
theorem gX5_read_X5_isNone : GoodIn wsX5_read (wsV RX5 66 RX5 yX5_isNone wsX5_isNone) := goodIn_app (goodIn_of _ (by decide +kernel)) ggX5_read_X5_isNone
set_option maxRecDepth 20000 in
theorem ggX5_read_X2_firstWrongPlace : GoodIn wsX5_read wsX2_firstWrongPlace := goodIn_r _ [15, 16, 17, 18, 19, 20, 14, 21, 75, 76] rfl (by decide +kernel)
set_option maxRecDepth 20000 in
theorem gX5_read_X2_firstWrongPlace : GoodIn wsX5_read (wsV RX5 173 RX2 yX2_firstWrongPlace wsX2_firstWrongPlace) := goodIn_app (goodIn_of _ (by decide +kernel)) ggX5_read_X2_firstWrongPlace
set_option maxRecDepth 20000 in
theorem ggX5_read_X2_spell : GoodIn wsX5_read wsX2_spell := goodIn_r _ [25, 16, 26, 17, 27, 28, 29, 30, 31, 32, 33, 34, 35, 36, 37, 38, 39, 40, 41, 42, 43, 18, 19, 20, 14, 21, 44, 45, 46, 47, 48, 49, 50, 51, 52, 75, 76, 77, 78, 79] rfl (by decide +kernel)
set_option maxRecDepth 20000 in
theorem gX5_read_X2_spell : GoodIn wsX5_read (wsV RX5 176 RX2 yX2_spell wsX2_spell) := goodIn_app (goodIn_of _ (by decide +kernel)) ggX5_read_X2_spell
set_option maxRecDepth 20000 in
theorem ggX5_read_X5_put : GoodIn wsX5_read wsX5_put := goodIn_r _ [56, 2, 57, 3, 10, 58, 59, 60, 31, 61, 33, 42, 62, 63, 64, 65, 43, 66, 67, 68, 69, 70, 71, 72, 73, 74, 77, 78, 79] rfl (by decide +kernel)
set_option maxRecDepth 20000 in
theorem gX5_read_X5_put : GoodIn wsX5_read (wsV RX5 77 RX5 yX5_put wsX5_put) := goodIn_app (goodIn_of _ (by decide +kernel)) ggX5_read_X5_put
theorem dX5_read_0 : decode cX5_read 0 = .ok (.aload_n 0, 1) := by decide +kernel
theorem dX5_read_1 : decode cX5_read 1 = .ok (.iload_n 1, 1) := by decide +kernel
theorem dX5_read_2 : decode cX5_read 2 = .ok (.invokevirtual 66, 3) := by decide +kernel
theorem dX5_read_5 : decode cX5_read 5 = .ok (.ifCond .eq 5, 3) := by decide +kernel
theorem dX5_read_8 : decode cX5_read 8 = .ok (.iconst (-1), 1) := by decide +kernel
theorem dX5_read_9 : decode cX5_read 9 = .ok (.ireturn, 1) := by decide +kernel
theorem dX5_read_10 : decode cX5_read 10 = .ok (.aload_n 0, 1) := by decide +kernel
theorem dX5_read_11 : decode cX5_read 11 = .ok (.getfield 62, 3) := by decide +kernel
theorem dX5_read_14 : decode cX5_read 14 = .ok (.invokevirtual 173, 3) := by decide +kernel
theorem dX5_read_17 : decode cX5_read 17 = .ok (.istore_n 2, 1) := by decide +kernel
theorem dX5_read_18 : decode cX5_read 18 = .ok (.iload_n 2, 1) := by decide +kernel
theorem dX5_read_19 : decode cX5_read 19 = .ok (.ifCond .ge 18, 3) := by decide +kernel
theorem dX5_read_22 : decode cX5_read 22 = .ok (.aload_n 0, 1) := by decide +kernel
theorem dX5_read_23 : decode cX5_read 23 = .ok (.getfield 62, 3) := by decide +kernel
theorem dX5_read_26 : decode cX5_read 26 = .ok (.aload_n 0, 1) := by decide +kernel
theorem dX5_read_27 : decode cX5_read 27 = .ok (.getfield 26, 3) := by decide +kernel
theorem dX5_read_30 : decode cX5_read 30 = .ok (.aload_n 0, 1) := by decide +kernel
theorem dX5_read_31 : decode cX5_read 31 = .ok (.getfield 13, 3) := by decide +kernel
theorem dX5_read_34 : decode cX5_read 34 = .ok (.invokevirtual 176, 3) := by decide +kernel
theorem dX5_read_37 : decode cX5_read 37 = .ok (.aload_n 0, 1) := by decide +kernel
theorem dX5_read_38 : decode cX5_read 38 = .ok (.getfield 62, 3) := by decide +kernel
theorem dX5_read_41 : decode cX5_read 41 = .ok (.iconst 0, 1) := by decide +kernel
theorem dX5_read_42 : decode cX5_read 42 = .ok (.putfield 172, 3) := by decide +kernel
theorem dX5_read_45 : decode cX5_read 45 = .ok (.iload_n 2, 1) := by decide +kernel
theorem dX5_read_46 : decode cX5_read 46 = .ok (.ifCond .ge 11, 3) := by decide +kernel
theorem dX5_read_49 : decode cX5_read 49 = .ok (.aload_n 0, 1) := by decide +kernel
theorem dX5_read_50 : decode cX5_read 50 = .ok (.iload_n 1, 1) := by decide +kernel
theorem dX5_read_51 : decode cX5_read 51 = .ok (.invokevirtual 77, 3) := by decide +kernel
theorem dX5_read_54 : decode cX5_read 54 = .ok (.goto 7, 3) := by decide +kernel
theorem dX5_read_57 : decode cX5_read 57 = .ok (.bipush (-10), 2) := by decide +kernel
theorem dX5_read_59 : decode cX5_read 59 = .ok (.iload_n 2, 1) := by decide +kernel
theorem dX5_read_60 : decode cX5_read 60 = .ok (.isub, 1) := by decide +kernel
theorem dX5_read_61 : decode cX5_read 61 = .ok (.ireturn, 1) := by decide +kernel
theorem dX5_nearest_0 : decode cX5_nearest 0 = .ok (.iload_n 1, 1) := by decide +kernel
theorem dX5_nearest_1 : decode cX5_nearest 1 = .ok (.iload_n 2, 1) := by decide +kernel
theorem dX5_nearest_2 : decode cX5_nearest 2 = .ok (.iload_n 0, 1) := by decide +kernel
theorem dX5_nearest_3 : decode cX5_nearest 3 = .ok (.invokestatic 179, 3) := by decide +kernel
theorem dX5_nearest_6 : decode cX5_nearest 6 = .ok (.invokestatic 185, 3) := by decide +kernel
theorem dX5_nearest_9 : decode cX5_nearest 9 = .ok (.ireturn, 1) := by decide +kernel
theorem dX5_isNone_0 : decode cX5_isNone 0 = .ok (.iload_n 1, 1) := by decide +kernel
theorem dX5_isNone_1 : decode cX5_isNone 1 = .ok (.ifCond .lt 12, 3) := by decide +kernel
theorem dX5_isNone_4 : decode cX5_isNone 4 = .ok (.iload_n 1, 1) := by decide +kernel
theorem dX5_isNone_5 : decode cX5_isNone 5 = .ok (.aload_n 0, 1) := by decide +kernel
theorem dX5_isNone_6 : decode cX5_isNone 6 = .ok (.getfield 19, 3) := by decide +kernel
theorem dX5_isNone_9 : decode cX5_isNone 9 = .ok (.arraylength, 1) := by decide +kernel
theorem dX5_isNone_10 : decode cX5_isNone 10 = .ok (.if_icmp .lt 7, 3) := by decide +kernel
theorem dX5_isNone_13 : decode cX5_isNone 13 = .ok (.iconst 1, 1) := by decide +kernel
theorem dX5_isNone_14 : decode cX5_isNone 14 = .ok (.goto 4, 3) := by decide +kernel
theorem dX5_isNone_17 : decode cX5_isNone 17 = .ok (.iconst 0, 1) := by decide +kernel
theorem dX5_isNone_18 : decode cX5_isNone 18 = .ok (.ireturn, 1) := by decide +kernel
set_option maxRecDepth 20000 in
theorem ggX5_put_X4_become : GoodIn wsX5_put wsX4_become := goodIn_r _ [9, 10, 11, 12, 13, 14, 15, 16, 26, 27, 28] rfl (by decide +kernel)
set_option maxRecDepth 20000 in
theorem gX5_put_X4_become : GoodIn wsX5_put (wsV RX5 81 RX4 yX4_become wsX4_become) := goodIn_app (goodIn_of _ (by decide +kernel)) ggX5_put_X4_become
theorem dX5_put_0 : decode cX5_put 0 = .ok (.aload_n 0, 1) := by decide +kernel
theorem dX5_put_1 : decode cX5_put 1 = .ok (.getfield 26, 3) := by decide +kernel
theorem dX5_put_4 : decode cX5_put 4 = .ok (.getfield 100, 3) := by decide +kernel
theorem dX5_put_7 : decode cX5_put 7 = .ok (.aload_n 0, 1) := by decide +kernel
theorem dX5_put_8 : decode cX5_put 8 = .ok (.getfield 13, 3) := by decide +kernel
theorem dX5_put_11 : decode cX5_put 11 = .ok (.if_icmp .le 6, 3) := by decide +kernel
theorem dX5_put_14 : decode cX5_put 14 = .ok (.bipush (-3), 2) := by decide +kernel
theorem dX5_put_16 : decode cX5_put 16 = .ok (.ireturn, 1) := by decide +kernel
theorem dX5_put_17 : decode cX5_put 17 = .ok (.aload_n 0, 1) := by decide +kernel
theorem dX5_put_18 : decode cX5_put 18 = .ok (.getfield 19, 3) := by decide +kernel
theorem dX5_put_21 : decode cX5_put 21 = .ok (.iload_n 1, 1) := by decide +kernel
theorem dX5_put_22 : decode cX5_put 22 = .ok (.aaload, 1) := by decide +kernel
theorem dX5_put_23 : decode cX5_put 23 = .ok (.aload_n 0, 1) := by decide +kernel
theorem dX5_put_24 : decode cX5_put 24 = .ok (.getfield 26, 3) := by decide +kernel
theorem dX5_put_27 : decode cX5_put 27 = .ok (.invokevirtual 81, 3) := by decide +kernel
theorem dX5_put_30 : decode cX5_put 30 = .ok (.iconst 0, 1) := by decide +kernel
theorem dX5_put_31 : decode cX5_put 31 = .ok (.ireturn, 1) := by decide +kernel
set_option maxRecDepth 20000 in
theorem ggX5_reduceToFirst_X0_divide : GoodIn wsX5_reduceToFirst wsX0_divide := goodIn_r _ [9, 10, 11, 12, 13, 14, 15, 16, 17, 18, 19, 20, 21, 22, 23, 24, 25, 26, 27, 28, 29, 30, 31, 32, 33, 34, 35, 36, 37, 38, 39, 40, 41, 42, 43, 44, 45, 46, 47, 48, 8, 49, 50, 51, 52, 53, 54, 55, 56, 57, 58, 59, 60, 61, 62, 63, 64, 65, 66, 67, 68, 69, 70, 71, 72, 73, 74, 75, 76, 77, 78, 79, 80, 81, 82, 83, 84, 85, 86, 87, 88, 89, 90, 121, 122, 123, 124, 125, 126, 127] rfl (by decide +kernel)
set_option maxRecDepth 20000 in
theorem gX5_reduceToFirst_X0_divide : GoodIn wsX5_reduceToFirst (wsV RX5 107 RX0 yX0_divide wsX0_divide) := goodIn_app (goodIn_of _ (by decide +kernel)) ggX5_reduceToFirst_X0_divide
set_option maxRecDepth 20000 in
theorem ggX5_reduceToFirst_X4_becomeSum : GoodIn wsX5_reduceToFirst wsX4_becomeSum := goodIn_r _ [94, 32, 18, 95, 96, 26, 97, 98, 99, 100, 16, 101, 23, 102, 103, 104, 105, 37, 28, 29, 30, 31, 106, 34, 35, 36, 107, 108, 109, 110, 125, 126, 127] rfl (by decide +kernel)
set_option maxRecDepth 20000 in
theorem gX5_reduceToFirst_X4_becomeSum : GoodIn wsX5_reduceToFirst (wsV RX5 92 RX4 yX4_becomeSum wsX4_becomeSum) := goodIn_app (goodIn_of _ (by decide +kernel)) ggX5_reduceToFirst_X4_becomeSum
set_option maxRecDepth 20000 in
theorem ggX5_reduceToFirst_X4_become : GoodIn wsX5_reduceToFirst wsX4_become := goodIn_r _ [41, 23, 18, 42, 43, 44, 45, 32, 125, 126, 127] rfl (by decide +kernel)
set_option maxRecDepth 20000 in
theorem gX5_reduceToFirst_X4_become : GoodIn wsX5_reduceToFirst (wsV RX5 81 RX4 yX4_become wsX4_become) := goodIn_app (goodIn_of _ (by decide +kernel)) ggX5_reduceToFirst_X4_become
theorem dX5_reduceToFirst_0 : decode cX5_reduceToFirst 0 = .ok (.aload_n 0, 1) := by decide +kernel
theorem dX5_reduceToFirst_1 : decode cX5_reduceToFirst 1 = .ok (.getfield 48, 3) := by decide +kernel
theorem dX5_reduceToFirst_4 : decode cX5_reduceToFirst 4 = .ok (.aload_n 1, 1) := by decide +kernel
theorem dX5_reduceToFirst_5 : decode cX5_reduceToFirst 5 = .ok (.aload_n 2, 1) := by decide +kernel
theorem dX5_reduceToFirst_6 : decode cX5_reduceToFirst 6 = .ok (.invokevirtual 107, 3) := by decide +kernel
theorem dX5_reduceToFirst_9 : decode cX5_reduceToFirst 9 = .ok (.aload_n 0, 1) := by decide +kernel
theorem dX5_reduceToFirst_10 : decode cX5_reduceToFirst 10 = .ok (.getfield 48, 3) := by decide +kernel
theorem dX5_reduceToFirst_13 : decode cX5_reduceToFirst 13 = .ok (.getfield 114, 3) := by decide +kernel
theorem dX5_reduceToFirst_16 : decode cX5_reduceToFirst 16 = .ok (.getfield 88, 3) := by decide +kernel
theorem dX5_reduceToFirst_19 : decode cX5_reduceToFirst 19 = .ok (.ifCond .eq 22, 3) := by decide +kernel
theorem dX5_reduceToFirst_22 : decode cX5_reduceToFirst 22 = .ok (.aload_n 0, 1) := by decide +kernel
theorem dX5_reduceToFirst_23 : decode cX5_reduceToFirst 23 = .ok (.getfield 30, 3) := by decide +kernel
theorem dX5_reduceToFirst_26 : decode cX5_reduceToFirst 26 = .ok (.aload_n 2, 1) := by decide +kernel
theorem dX5_reduceToFirst_27 : decode cX5_reduceToFirst 27 = .ok (.aload_n 0, 1) := by decide +kernel
theorem dX5_reduceToFirst_28 : decode cX5_reduceToFirst 28 = .ok (.getfield 48, 3) := by decide +kernel
theorem dX5_reduceToFirst_31 : decode cX5_reduceToFirst 31 = .ok (.getfield 114, 3) := by decide +kernel
theorem dX5_reduceToFirst_34 : decode cX5_reduceToFirst 34 = .ok (.iconst 1, 1) := by decide +kernel
theorem dX5_reduceToFirst_35 : decode cX5_reduceToFirst 35 = .ok (.invokevirtual 92, 3) := by decide +kernel
theorem dX5_reduceToFirst_38 : decode cX5_reduceToFirst 38 = .ok (.goto 17, 3) := by decide +kernel
theorem dX5_reduceToFirst_41 : decode cX5_reduceToFirst 41 = .ok (.aload_n 0, 1) := by decide +kernel
theorem dX5_reduceToFirst_42 : decode cX5_reduceToFirst 42 = .ok (.getfield 30, 3) := by decide +kernel
theorem dX5_reduceToFirst_45 : decode cX5_reduceToFirst 45 = .ok (.aload_n 0, 1) := by decide +kernel
theorem dX5_reduceToFirst_46 : decode cX5_reduceToFirst 46 = .ok (.getfield 48, 3) := by decide +kernel
theorem dX5_reduceToFirst_49 : decode cX5_reduceToFirst 49 = .ok (.getfield 114, 3) := by decide +kernel
theorem dX5_reduceToFirst_52 : decode cX5_reduceToFirst 52 = .ok (.invokevirtual 81, 3) := by decide +kernel
theorem dX5_reduceToFirst_55 : decode cX5_reduceToFirst 55 = .ok (.return_, 1) := by decide +kernel
set_option maxRecDepth 20000 in
theorem ggX5_oneToSecond_X4_becomeInt : GoodIn wsX5_oneToSecond wsX4_becomeInt := goodIn_r _ [8, 9, 10, 11, 12, 13, 14, 15, 16, 7, 17, 18, 19, 105, 106, 107] rfl (by decide +kernel)
set_option maxRecDepth 20000 in
theorem gX5_oneToSecond_X4_becomeInt : GoodIn wsX5_oneToSecond (wsV RX5 70 RX4 yX4_becomeInt wsX4_becomeInt) := goodIn_app (goodIn_of _ (by decide +kernel)) ggX5_oneToSecond_X4_becomeInt
set_option maxRecDepth 20000 in
theorem ggX5_oneToSecond_X0_divide : GoodIn wsX5_oneToSecond wsX0_divide := goodIn_r _ [24, 25, 26, 27, 28, 29, 30, 7, 31, 18, 32, 5, 6, 8, 9, 10, 11, 12, 13, 14, 15, 16, 17, 19, 33, 34, 35, 36, 37, 38, 39, 40, 41, 42, 43, 44, 45, 46, 47, 48, 23, 49, 50, 51, 52, 53, 54, 55, 56, 57, 58, 59, 60, 61, 62, 63, 64, 65, 66, 67, 68, 69, 70, 71, 72, 73, 74, 75, 76, 77, 78, 79, 80, 81, 82, 83, 84, 85, 86, 87, 88, 89, 90, 101, 102, 103, 104, 105, 106, 107] rfl (by decide +kernel)
set_option maxRecDepth 20000 in
theorem gX5_oneToSecond_X0_divide : GoodIn wsX5_oneToSecond (wsV RX5 107 RX0 yX0_divide wsX0_divide) := goodIn_app (goodIn_of _ (by decide +kernel)) ggX5_oneToSecond_X0_divide
set_option maxRecDepth 20000 in
theorem ggX5_oneToSecond_X4_become : GoodIn wsX5_oneToSecond wsX4_become := goodIn_r _ [41, 9, 18, 42, 43, 44, 45, 19, 105, 106, 107] rfl (by decide +kernel)
set_option maxRecDepth 20000 in
theorem gX5_oneToSecond_X4_become : GoodIn wsX5_oneToSecond (wsV RX5 81 RX4 yX4_become wsX4_become) := goodIn_app (goodIn_of _ (by decide +kernel)) ggX5_oneToSecond_X4_become
theorem dX5_oneToSecond_0 : decode cX5_oneToSecond 0 = .ok (.aload_n 0, 1) := by decide +kernel
theorem dX5_oneToSecond_1 : decode cX5_oneToSecond 1 = .ok (.getfield 33, 3) := by decide +kernel
theorem dX5_oneToSecond_4 : decode cX5_oneToSecond 4 = .ok (.iconst 1, 1) := by decide +kernel
theorem dX5_oneToSecond_5 : decode cX5_oneToSecond 5 = .ok (.invokevirtual 70, 3) := by decide +kernel
theorem dX5_oneToSecond_8 : decode cX5_oneToSecond 8 = .ok (.aload_n 0, 1) := by decide +kernel
theorem dX5_oneToSecond_9 : decode cX5_oneToSecond 9 = .ok (.getfield 48, 3) := by decide +kernel
theorem dX5_oneToSecond_12 : decode cX5_oneToSecond 12 = .ok (.aload_n 0, 1) := by decide +kernel
theorem dX5_oneToSecond_13 : decode cX5_oneToSecond 13 = .ok (.getfield 33, 3) := by decide +kernel
theorem dX5_oneToSecond_16 : decode cX5_oneToSecond 16 = .ok (.aload_n 1, 1) := by decide +kernel
theorem dX5_oneToSecond_17 : decode cX5_oneToSecond 17 = .ok (.invokevirtual 107, 3) := by decide +kernel
theorem dX5_oneToSecond_20 : decode cX5_oneToSecond 20 = .ok (.aload_n 0, 1) := by decide +kernel
theorem dX5_oneToSecond_21 : decode cX5_oneToSecond 21 = .ok (.getfield 33, 3) := by decide +kernel
theorem dX5_oneToSecond_24 : decode cX5_oneToSecond 24 = .ok (.aload_n 0, 1) := by decide +kernel
theorem dX5_oneToSecond_25 : decode cX5_oneToSecond 25 = .ok (.getfield 48, 3) := by decide +kernel
theorem dX5_oneToSecond_28 : decode cX5_oneToSecond 28 = .ok (.getfield 114, 3) := by decide +kernel
theorem dX5_oneToSecond_31 : decode cX5_oneToSecond 31 = .ok (.invokevirtual 81, 3) := by decide +kernel
theorem dX5_oneToSecond_34 : decode cX5_oneToSecond 34 = .ok (.return_, 1) := by decide +kernel
set_option maxRecDepth 20000 in
theorem ggX5_multiplySecond_X1_product : GoodIn wsX5_multiplySecond wsX1_product := goodIn_r _ [10, 11, 12, 13, 14, 15, 16, 17, 18, 19, 20, 21, 22, 23, 24, 25, 9, 26, 27, 28, 29, 30, 31, 32, 33, 34, 35, 36, 37, 38, 39, 40, 41, 42, 43, 44, 45, 46, 47, 48, 49, 50, 51, 52, 53, 54, 55, 56, 57, 58, 59, 60, 61, 62, 63, 64, 65, 66, 67, 157, 158, 159, 160, 161, 162, 163, 164, 165] rfl (by decide +kernel)
set_option maxRecDepth 20000 in
theorem gX5_multiplySecond_X1_product : GoodIn wsX5_multiplySecond (wsV RX5 103 RX1 yX1_product wsX1_product) := goodIn_app (goodIn_of _ (by decide +kernel)) ggX5_multiplySecond_X1_product
set_option maxRecDepth 20000 in
theorem ggX5_multiplySecond_X0_divide : GoodIn wsX5_multiplySecond wsX0_divide := goodIn_r _ [72, 73, 74, 75, 76, 77, 78, 63, 79, 65, 80, 81, 82, 83, 66, 84, 85, 46, 86, 87, 61, 62, 64, 67, 88, 89, 90, 91, 92, 93, 94, 95, 96, 97, 16, 17, 18, 98, 99, 100, 71, 101, 102, 103, 104, 105, 106, 107, 108, 109, 110, 111, 112, 113, 114, 115, 116, 117, 118, 119, 120, 121, 122, 123, 124, 125, 126, 127, 128, 129, 130, 131, 132, 133, 134, 135, 136, 137, 138, 139, 140, 141, 142, 153, 154, 155, 156, 157, 158, 159] rfl (by decide +kernel)
set_option maxRecDepth 20000 in
theorem gX5_multiplySecond_X0_divide : GoodIn wsX5_multiplySecond (wsV RX5 107 RX0 yX0_divide wsX0_divide) := goodIn_app (goodIn_of _ (by decide +kernel)) ggX5_multiplySecond_X0_divide
set_option maxRecDepth 20000 in
theorem ggX5_multiplySecond_X4_become : GoodIn wsX5_multiplySecond wsX4_become := goodIn_r _ [96, 66, 65, 97, 16, 17, 18, 67, 157, 158, 159] rfl (by decide +kernel)
set_option maxRecDepth 20000 in
theorem gX5_multiplySecond_X4_become : GoodIn wsX5_multiplySecond (wsV RX5 81 RX4 yX4_become wsX4_become) := goodIn_app (goodIn_of _ (by decide +kernel)) ggX5_multiplySecond_X4_become
theorem dX5_multiplySecond_0 : decode cX5_multiplySecond 0 = .ok (.aload_n 0, 1) := by decide +kernel
theorem dX5_multiplySecond_1 : decode cX5_multiplySecond 1 = .ok (.getfield 41, 3) := by decide +kernel
theorem dX5_multiplySecond_4 : decode cX5_multiplySecond 4 = .ok (.aload_n 0, 1) := by decide +kernel
theorem dX5_multiplySecond_5 : decode cX5_multiplySecond 5 = .ok (.getfield 26, 3) := by decide +kernel
theorem dX5_multiplySecond_8 : decode cX5_multiplySecond 8 = .ok (.aload_n 0, 1) := by decide +kernel
theorem dX5_multiplySecond_9 : decode cX5_multiplySecond 9 = .ok (.getfield 33, 3) := by decide +kernel
theorem dX5_multiplySecond_12 : decode cX5_multiplySecond 12 = .ok (.aload_n 1, 1) := by decide +kernel
theorem dX5_multiplySecond_13 : decode cX5_multiplySecond 13 = .ok (.invokevirtual 103, 3) := by decide +kernel
theorem dX5_multiplySecond_16 : decode cX5_multiplySecond 16 = .ok (.aload_n 0, 1) := by decide +kernel
theorem dX5_multiplySecond_17 : decode cX5_multiplySecond 17 = .ok (.getfield 48, 3) := by decide +kernel
theorem dX5_multiplySecond_20 : decode cX5_multiplySecond 20 = .ok (.aload_n 0, 1) := by decide +kernel
theorem dX5_multiplySecond_21 : decode cX5_multiplySecond 21 = .ok (.getfield 26, 3) := by decide +kernel
theorem dX5_multiplySecond_24 : decode cX5_multiplySecond 24 = .ok (.aload_n 2, 1) := by decide +kernel
theorem dX5_multiplySecond_25 : decode cX5_multiplySecond 25 = .ok (.invokevirtual 107, 3) := by decide +kernel
theorem dX5_multiplySecond_28 : decode cX5_multiplySecond 28 = .ok (.aload_n 0, 1) := by decide +kernel
theorem dX5_multiplySecond_29 : decode cX5_multiplySecond 29 = .ok (.getfield 33, 3) := by decide +kernel
theorem dX5_multiplySecond_32 : decode cX5_multiplySecond 32 = .ok (.aload_n 0, 1) := by decide +kernel
theorem dX5_multiplySecond_33 : decode cX5_multiplySecond 33 = .ok (.getfield 48, 3) := by decide +kernel
theorem dX5_multiplySecond_36 : decode cX5_multiplySecond 36 = .ok (.getfield 114, 3) := by decide +kernel
theorem dX5_multiplySecond_39 : decode cX5_multiplySecond 39 = .ok (.invokevirtual 81, 3) := by decide +kernel
theorem dX5_multiplySecond_42 : decode cX5_multiplySecond 42 = .ok (.return_, 1) := by decide +kernel
set_option maxRecDepth 20000 in
theorem ggX5_rootToFirst_X4_isZero : GoodIn wsX5_rootToFirst wsX4_isZero := goodIn_r _ [11, 12, 162, 163, 164] rfl (by decide +kernel)
set_option maxRecDepth 20000 in
theorem gX5_rootToFirst_X4_isZero : GoodIn wsX5_rootToFirst (wsV RX5 96 RX4 yX4_isZero wsX4_isZero) := goodIn_app (goodIn_of _ (by decide +kernel)) ggX5_rootToFirst_X4_isZero
set_option maxRecDepth 20000 in
theorem ggX5_rootToFirst_X4_becomeInt : GoodIn wsX5_rootToFirst wsX4_becomeInt := goodIn_r _ [16, 17, 18, 19, 20, 21, 22, 23, 24, 10, 25, 12, 26, 162, 163, 164] rfl (by decide +kernel)
set_option maxRecDepth 20000 in
theorem gX5_rootToFirst_X4_becomeInt : GoodIn wsX5_rootToFirst (wsV RX5 70 RX4 yX4_becomeInt wsX4_becomeInt) := goodIn_app (goodIn_of _ (by decide +kernel)) ggX5_rootToFirst_X4_becomeInt
set_option maxRecDepth 20000 in
theorem ggX5_rootToFirst_X4_bits : GoodIn wsX5_rootToFirst wsX4_bits := goodIn_r _ [30, 12, 17, 31, 32, 33, 34, 35, 162, 163, 164] rfl (by decide +kernel)
set_option maxRecDepth 20000 in
theorem gX5_rootToFirst_X4_bits : GoodIn wsX5_rootToFirst (wsV RX5 117 RX4 yX4_bits wsX4_bits) := goodIn_app (goodIn_of _ (by decide +kernel)) ggX5_rootToFirst_X4_bits
set_option maxRecDepth 20000 in
theorem ggX5_rootToFirst_X4_becomePowerOfTwo : GoodIn wsX5_rootToFirst wsX4_becomePowerOfTwo := goodIn_r _ [39, 17, 40, 41, 42, 43, 44, 45, 46, 22, 23, 24, 10, 25, 12, 26, 162, 163, 164] rfl (by decide +kernel)
set_option maxRecDepth 20000 in
theorem gX5_rootToFirst_X4_becomePowerOfTwo : GoodIn wsX5_rootToFirst (wsV RX5 188 RX4 yX4_becomePowerOfTwo wsX4_becomePowerOfTwo) := goodIn_app (goodIn_of _ (by decide +kernel)) ggX5_rootToFirst_X4_becomePowerOfTwo
set_option maxRecDepth 20000 in
theorem ggX5_rootToFirst_X0_divide : GoodIn wsX5_rootToFirst wsX0_divide := goodIn_r _ [51, 52, 53, 54, 55, 8, 9, 10, 11, 12, 56, 14, 15, 16, 17, 18, 19, 20, 21, 22, 23, 24, 25, 26, 57, 58, 59, 60, 61, 62, 63, 64, 65, 66, 67, 68, 69, 70, 71, 72, 50, 73, 74, 75, 76, 77, 78, 79, 80, 81, 82, 83, 84, 85, 86, 87, 32, 33, 34, 35, 88, 89, 90, 91, 92, 93, 94, 95, 96, 97, 98, 99, 100, 101, 102, 103, 104, 105, 106, 107, 108, 109, 110, 158, 159, 160, 161, 162, 163, 164] rfl (by decide +kernel)
set_option maxRecDepth 20000 in
theorem gX5_rootToFirst_X0_divide : GoodIn wsX5_rootToFirst (wsV RX5 107 RX0 yX0_divide wsX0_divide) := goodIn_app (goodIn_of _ (by decide +kernel)) ggX5_rootToFirst_X0_divide
set_option maxRecDepth 20000 in
theorem ggX5_rootToFirst_X4_becomeSum : GoodIn wsX5_rootToFirst wsX4_becomeSum := goodIn_r _ [114, 26, 12, 115, 116, 20, 117, 118, 119, 120, 10, 121, 17, 122, 123, 124, 125, 61, 22, 23, 24, 25, 126, 58, 59, 60, 127, 128, 129, 130, 162, 163, 164] rfl (by decide +kernel)
set_option maxRecDepth 20000 in
theorem gX5_rootToFirst_X4_becomeSum : GoodIn wsX5_rootToFirst (wsV RX5 92 RX4 yX4_becomeSum wsX4_becomeSum) := goodIn_app (goodIn_of _ (by decide +kernel)) ggX5_rootToFirst_X4_becomeSum
set_option maxRecDepth 20000 in
theorem ggX5_rootToFirst_X4_becomeShiftedDown : GoodIn wsX5_rootToFirst wsX4_becomeShiftedDown := goodIn_r _ [134, 12, 135, 136, 20, 137, 17, 26, 138, 108, 109, 10, 110, 61, 22, 23, 24, 25, 139, 140, 141, 142, 143, 144, 145, 146, 162, 163, 164] rfl (by decide +kernel)
set_option maxRecDepth 20000 in
theorem gX5_rootToFirst_X4_becomeShiftedDown : GoodIn wsX5_rootToFirst (wsV RX5 126 RX4 yX4_becomeShiftedDown wsX4_becomeShiftedDown) := goodIn_app (goodIn_of _ (by decide +kernel)) ggX5_rootToFirst_X4_becomeShiftedDown
set_option maxRecDepth 20000 in
theorem ggX5_rootToFirst_X4_compareSize : GoodIn wsX5_rootToFirst wsX4_compareSize := goodIn_r _ [60, 12, 17, 61, 162, 163, 164] rfl (by decide +kernel)
set_option maxRecDepth 20000 in
theorem gX5_rootToFirst_X4_compareSize : GoodIn wsX5_rootToFirst (wsV RX5 191 RX4 yX4_compareSize wsX4_compareSize) := goodIn_app (goodIn_of _ (by decide +kernel)) ggX5_rootToFirst_X4_compareSize
set_option maxRecDepth 20000 in
theorem ggX5_rootToFirst_X4_become : GoodIn wsX5_rootToFirst wsX4_become := goodIn_r _ [65, 17, 12, 66, 67, 68, 69, 26, 162, 163, 164] rfl (by decide +kernel)
set_option maxRecDepth 20000 in
theorem gX5_rootToFirst_X4_become : GoodIn wsX5_rootToFirst (wsV RX5 81 RX4 yX4_become wsX4_become) := goodIn_app (goodIn_of _ (by decide +kernel)) ggX5_rootToFirst_X4_become
theorem dX5_rootToFirst_0 : decode cX5_rootToFirst 0 = .ok (.aload_n 1, 1) := by decide +kernel
theorem dX5_rootToFirst_1 : decode cX5_rootToFirst 1 = .ok (.invokevirtual 96, 3) := by decide +kernel
theorem dX5_rootToFirst_4 : decode cX5_rootToFirst 4 = .ok (.ifCond .eq 12, 3) := by decide +kernel
theorem dX5_rootToFirst_7 : decode cX5_rootToFirst 7 = .ok (.aload_n 0, 1) := by decide +kernel
theorem dX5_rootToFirst_8 : decode cX5_rootToFirst 8 = .ok (.getfield 30, 3) := by decide +kernel
theorem dX5_rootToFirst_11 : decode cX5_rootToFirst 11 = .ok (.iconst 0, 1) := by decide +kernel
theorem dX5_rootToFirst_12 : decode cX5_rootToFirst 12 = .ok (.invokevirtual 70, 3) := by decide +kernel
theorem dX5_rootToFirst_15 : decode cX5_rootToFirst 15 = .ok (.return_, 1) := by decide +kernel
theorem dX5_rootToFirst_16 : decode cX5_rootToFirst 16 = .ok (.aload_n 0, 1) := by decide +kernel
theorem dX5_rootToFirst_17 : decode cX5_rootToFirst 17 = .ok (.getfield 30, 3) := by decide +kernel
theorem dX5_rootToFirst_20 : decode cX5_rootToFirst 20 = .ok (.aload_n 1, 1) := by decide +kernel
theorem dX5_rootToFirst_21 : decode cX5_rootToFirst 21 = .ok (.invokevirtual 117, 3) := by decide +kernel
theorem dX5_rootToFirst_24 : decode cX5_rootToFirst 24 = .ok (.iconst 1, 1) := by decide +kernel
theorem dX5_rootToFirst_25 : decode cX5_rootToFirst 25 = .ok (.iadd, 1) := by decide +kernel
theorem dX5_rootToFirst_26 : decode cX5_rootToFirst 26 = .ok (.iconst 2, 1) := by decide +kernel
theorem dX5_rootToFirst_27 : decode cX5_rootToFirst 27 = .ok (.idiv, 1) := by decide +kernel
theorem dX5_rootToFirst_28 : decode cX5_rootToFirst 28 = .ok (.invokevirtual 188, 3) := by decide +kernel
theorem dX5_rootToFirst_31 : decode cX5_rootToFirst 31 = .ok (.iconst 0, 1) := by decide +kernel
theorem dX5_rootToFirst_32 : decode cX5_rootToFirst 32 = .ok (.istore_n 2, 1) := by decide +kernel
theorem dX5_rootToFirst_33 : decode cX5_rootToFirst 33 = .ok (.iload_n 2, 1) := by decide +kernel
theorem dX5_rootToFirst_34 : decode cX5_rootToFirst 34 = .ok (.ldc 129, 2) := by decide +kernel
theorem dX5_rootToFirst_36 : decode cX5_rootToFirst 36 = .ok (.if_icmp .ge 80, 3) := by decide +kernel
theorem dX5_rootToFirst_39 : decode cX5_rootToFirst 39 = .ok (.aload_n 0, 1) := by decide +kernel
theorem dX5_rootToFirst_40 : decode cX5_rootToFirst 40 = .ok (.getfield 48, 3) := by decide +kernel
theorem dX5_rootToFirst_43 : decode cX5_rootToFirst 43 = .ok (.aload_n 1, 1) := by decide +kernel
theorem dX5_rootToFirst_44 : decode cX5_rootToFirst 44 = .ok (.aload_n 0, 1) := by decide +kernel
theorem dX5_rootToFirst_45 : decode cX5_rootToFirst 45 = .ok (.getfield 30, 3) := by decide +kernel
theorem dX5_rootToFirst_48 : decode cX5_rootToFirst 48 = .ok (.invokevirtual 107, 3) := by decide +kernel
theorem dX5_rootToFirst_51 : decode cX5_rootToFirst 51 = .ok (.aload_n 0, 1) := by decide +kernel
theorem dX5_rootToFirst_52 : decode cX5_rootToFirst 52 = .ok (.getfield 26, 3) := by decide +kernel
theorem dX5_rootToFirst_55 : decode cX5_rootToFirst 55 = .ok (.aload_n 0, 1) := by decide +kernel
theorem dX5_rootToFirst_56 : decode cX5_rootToFirst 56 = .ok (.getfield 30, 3) := by decide +kernel
theorem dX5_rootToFirst_59 : decode cX5_rootToFirst 59 = .ok (.aload_n 0, 1) := by decide +kernel
theorem dX5_rootToFirst_60 : decode cX5_rootToFirst 60 = .ok (.getfield 48, 3) := by decide +kernel
theorem dX5_rootToFirst_63 : decode cX5_rootToFirst 63 = .ok (.getfield 111, 3) := by decide +kernel
theorem dX5_rootToFirst_66 : decode cX5_rootToFirst 66 = .ok (.iconst 0, 1) := by decide +kernel
theorem dX5_rootToFirst_67 : decode cX5_rootToFirst 67 = .ok (.invokevirtual 92, 3) := by decide +kernel
theorem dX5_rootToFirst_70 : decode cX5_rootToFirst 70 = .ok (.aload_n 0, 1) := by decide +kernel
theorem dX5_rootToFirst_71 : decode cX5_rootToFirst 71 = .ok (.getfield 33, 3) := by decide +kernel
theorem dX5_rootToFirst_74 : decode cX5_rootToFirst 74 = .ok (.aload_n 0, 1) := by decide +kernel
theorem dX5_rootToFirst_75 : decode cX5_rootToFirst 75 = .ok (.getfield 26, 3) := by decide +kernel
theorem dX5_rootToFirst_78 : decode cX5_rootToFirst 78 = .ok (.iconst 1, 1) := by decide +kernel
theorem dX5_rootToFirst_79 : decode cX5_rootToFirst 79 = .ok (.invokevirtual 126, 3) := by decide +kernel
theorem dX5_rootToFirst_82 : decode cX5_rootToFirst 82 = .ok (.aload_n 0, 1) := by decide +kernel
theorem dX5_rootToFirst_83 : decode cX5_rootToFirst 83 = .ok (.getfield 33, 3) := by decide +kernel
theorem dX5_rootToFirst_86 : decode cX5_rootToFirst 86 = .ok (.aload_n 0, 1) := by decide +kernel
theorem dX5_rootToFirst_87 : decode cX5_rootToFirst 87 = .ok (.getfield 30, 3) := by decide +kernel
theorem dX5_rootToFirst_90 : decode cX5_rootToFirst 90 = .ok (.invokevirtual 191, 3) := by decide +kernel
theorem dX5_rootToFirst_93 : decode cX5_rootToFirst 93 = .ok (.ifCond .lt 6, 3) := by decide +kernel
theorem dX5_rootToFirst_96 : decode cX5_rootToFirst 96 = .ok (.goto 20, 3) := by decide +kernel
theorem dX5_rootToFirst_99 : decode cX5_rootToFirst 99 = .ok (.aload_n 0, 1) := by decide +kernel
theorem dX5_rootToFirst_100 : decode cX5_rootToFirst 100 = .ok (.getfield 30, 3) := by decide +kernel
theorem dX5_rootToFirst_103 : decode cX5_rootToFirst 103 = .ok (.aload_n 0, 1) := by decide +kernel
theorem dX5_rootToFirst_104 : decode cX5_rootToFirst 104 = .ok (.getfield 33, 3) := by decide +kernel
theorem dX5_rootToFirst_107 : decode cX5_rootToFirst 107 = .ok (.invokevirtual 81, 3) := by decide +kernel
theorem dX5_rootToFirst_110 : decode cX5_rootToFirst 110 = .ok (.iinc 2 1, 3) := by decide +kernel
theorem dX5_rootToFirst_113 : decode cX5_rootToFirst 113 = .ok (.goto (-80), 3) := by decide +kernel
theorem dX5_rootToFirst_116 : decode cX5_rootToFirst 116 = .ok (.return_, 1) := by decide +kernel
