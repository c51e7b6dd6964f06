theorem dX4_freshEchoes_19 : decode cX4_freshEchoes 19 = .ok (.aload_n 0, 1) := by decide +kernel
theorem dX4_freshEchoes_20 : decode cX4_freshEchoes 20 = .ok (.getfield 9, 3) := by decide +kernel
theorem dX4_freshEchoes_23 : decode cX4_freshEchoes 23 = .ok (.bipush 55, 2) := by decide +kernel
theorem dX4_freshEchoes_25 : decode cX4_freshEchoes 25 = .ok (.iload_n 2, 1) := by decide +kernel
theorem dX4_freshEchoes_26 : decode cX4_freshEchoes 26 = .ok (.iadd, 1) := by decide +kernel
theorem dX4_freshEchoes_27 : decode cX4_freshEchoes 27 = .ok (.invokevirtual 28, 3) := by decide +kernel
theorem dX4_freshEchoes_30 : decode cX4_freshEchoes 30 = .ok (.if_icmp .ge 33, 3) := by decide +kernel
theorem dX4_freshEchoes_33 : decode cX4_freshEchoes 33 = .ok (.iload_n 1, 1) := by decide +kernel
theorem dX4_freshEchoes_34 : decode cX4_freshEchoes 34 = .ok (.aload_n 0, 1) := by decide +kernel
theorem dX4_freshEchoes_35 : decode cX4_freshEchoes 35 = .ok (.getfield 9, 3) := by decide +kernel
theorem dX4_freshEchoes_38 : decode cX4_freshEchoes 38 = .ok (.aload_n 0, 1) := by decide +kernel
theorem dX4_freshEchoes_39 : decode cX4_freshEchoes 39 = .ok (.iload_n 2, 1) := by decide +kernel
theorem dX4_freshEchoes_40 : decode cX4_freshEchoes 40 = .ok (.iload_n 3, 1) := by decide +kernel
theorem dX4_freshEchoes_41 : decode cX4_freshEchoes 41 = .ok (.invokevirtual 43, 3) := by decide +kernel
theorem dX4_freshEchoes_44 : decode cX4_freshEchoes 44 = .ok (.invokevirtual 49, 3) := by decide +kernel
theorem dX4_freshEchoes_47 : decode cX4_freshEchoes 47 = .ok (.ifCond .eq 7, 3) := by decide +kernel
theorem dX4_freshEchoes_50 : decode cX4_freshEchoes 50 = .ok (.iconst 0, 1) := by decide +kernel
theorem dX4_freshEchoes_51 : decode cX4_freshEchoes 51 = .ok (.goto 4, 3) := by decide +kernel
theorem dX4_freshEchoes_54 : decode cX4_freshEchoes 54 = .ok (.iconst 1, 1) := by decide +kernel
theorem dX4_freshEchoes_55 : decode cX4_freshEchoes 55 = .ok (.iadd, 1) := by decide +kernel
theorem dX4_freshEchoes_56 : decode cX4_freshEchoes 56 = .ok (.istore_n 1, 1) := by decide +kernel
theorem dX4_freshEchoes_57 : decode cX4_freshEchoes 57 = .ok (.iinc 3 1, 3) := by decide +kernel
theorem dX4_freshEchoes_60 : decode cX4_freshEchoes 60 = .ok (.goto (-42), 3) := by decide +kernel
theorem dX4_freshEchoes_63 : decode cX4_freshEchoes 63 = .ok (.iinc 2 1, 3) := by decide +kernel
theorem dX4_freshEchoes_66 : decode cX4_freshEchoes 66 = .ok (.goto (-62), 3) := by decide +kernel
theorem dX4_freshEchoes_69 : decode cX4_freshEchoes 69 = .ok (.iload_n 1, 1) := by decide +kernel
theorem dX4_freshEchoes_70 : decode cX4_freshEchoes 70 = .ok (.ireturn, 1) := by decide +kernel
set_option maxRecDepth 20000 in
theorem ggX5_init_X3_init : GoodIn wsX5_init wsX3_init := goodIn_r _ [27, 28, 2, 3, 29, 30, 124] (by decide +kernel) (by decide +kernel)
set_option maxRecDepth 20000 in
theorem gX5_init_X3_init : GoodIn wsX5_init (wsX3_init) := ggX5_init_X3_init
set_option maxRecDepth 20000 in
theorem ggX5_init_X4_init : GoodIn wsX5_init wsX4_init := goodIn_r _ [33, 34, 2, 3, 35, 131] (by decide +kernel) (by decide +kernel)
set_option maxRecDepth 20000 in
theorem gX5_init_X4_init : GoodIn wsX5_init (wsX4_init) := ggX5_init_X4_init
set_option maxRecDepth 20000 in
theorem ggX5_init_X1_init : GoodIn wsX5_init wsX1_init := goodIn_r _ [38, 39, 2, 3, 40, 41, 5, 6, 29, 42, 43, 44, 45, 26, 27, 28, 30, 132, 133, 134, 135, 124] (by decide +kernel) (by decide +kernel)
set_option maxRecDepth 20000 in
theorem gX5_init_X1_init : GoodIn wsX5_init (wsX1_init) := ggX5_init_X1_init
set_option maxRecDepth 20000 in
theorem ggX5_init_X0_init : GoodIn wsX5_init wsX0_init := goodIn_r _ [48, 49, 2, 3, 50, 51, 5, 6, 52, 53, 54, 26, 27, 28, 29, 30, 136, 137, 138, 124] (by decide +kernel) (by decide +kernel)
set_option maxRecDepth 20000 in
theorem gX5_init_X0_init : GoodIn wsX5_init (wsX0_init) := ggX5_init_X0_init
set_option maxRecDepth 20000 in
theorem ggX5_init_X2_init : GoodIn wsX5_init wsX2_init := goodIn_r _ [57, 58, 2, 3, 29, 59, 60, 61, 62, 63, 64, 65, 139, 140, 141, 142, 143, 144, 145] (by decide +kernel) (by decide +kernel)
set_option maxRecDepth 20000 in
theorem gX5_init_X2_init : GoodIn wsX5_init (wsX2_init) := ggX5_init_X2_init
set_option maxRecDepth 20000 in
theorem ggX5_init_X3_beginAnew : GoodIn wsX5_init wsX3_beginAnew := goodIn_r _ [69, 70, 71, 72, 73, 6, 74, 30, 75, 76, 77, 78, 79, 80, 81, 82, 83, 84, 85, 86, 87, 88, 89, 90, 91, 92, 93, 94, 95, 96, 97, 98, 99, 100, 101, 102, 103, 104, 105, 106, 107, 108, 109, 110, 111, 112, 113, 114, 115, 116, 117, 118, 119, 120, 121, 122, 123, 124] (by decide +kernel) (by decide +kernel)
set_option maxRecDepth 20000 in
theorem gX5_init_X3_beginAnew : GoodIn wsX5_init (wsV RX5 49 RX3 yX3_beginAnew wsX3_beginAnew) := goodIn_app (goodIn_of _ (by decide +kernel)) ggX5_init_X3_beginAnew
theorem dX5_init_0 : decode cX5_init 0 = .ok (.aload_n 0, 1) := by decide +kernel
theorem dX5_init_1 : decode cX5_init 1 = .ok (.invokespecial 1, 3) := by decide +kernel
theorem dX5_init_4 : decode cX5_init 4 = .ok (.aload_n 0, 1) := by decide +kernel
theorem dX5_init_5 : decode cX5_init 5 = .ok (.new 7, 3) := by decide +kernel
theorem dX5_init_8 : decode cX5_init 8 = .ok (.dup, 1) := by decide +kernel
theorem dX5_init_9 : decode cX5_init 9 = .ok (.invokespecial 9, 3) := by decide +kernel
theorem dX5_init_12 : decode cX5_init 12 = .ok (.putfield 10, 3) := by decide +kernel
theorem dX5_init_15 : decode cX5_init 15 = .ok (.aload_n 0, 1) := by decide +kernel
theorem dX5_init_16 : decode cX5_init 16 = .ok (.new 7, 3) := by decide +kernel
theorem dX5_init_19 : decode cX5_init 19 = .ok (.dup, 1) := by decide +kernel
theorem dX5_init_20 : decode cX5_init 20 = .ok (.invokespecial 9, 3) := by decide +kernel
theorem dX5_init_23 : decode cX5_init 23 = .ok (.putfield 16, 3) := by decide +kernel
theorem dX5_init_26 : decode cX5_init 26 = .ok (.aload_n 0, 1) := by decide +kernel
theorem dX5_init_27 : decode cX5_init 27 = .ok (.new 19, 3) := by decide +kernel
theorem dX5_init_30 : decode cX5_init 30 = .ok (.dup, 1) := by decide +kernel
theorem dX5_init_31 : decode cX5_init 31 = .ok (.aload_n 0, 1) := by decide +kernel
theorem dX5_init_32 : decode cX5_init 32 = .ok (.getfield 10, 3) := by decide +kernel
theorem dX5_init_35 : decode cX5_init 35 = .ok (.invokespecial 21, 3) := by decide +kernel
theorem dX5_init_38 : decode cX5_init 38 = .ok (.putfield 24, 3) := by decide +kernel
theorem dX5_init_41 : decode cX5_init 41 = .ok (.aload_n 0, 1) := by decide +kernel
theorem dX5_init_42 : decode cX5_init 42 = .ok (.new 28, 3) := by decide +kernel
theorem dX5_init_45 : decode cX5_init 45 = .ok (.dup, 1) := by decide +kernel
theorem dX5_init_46 : decode cX5_init 46 = .ok (.invokespecial 30, 3) := by decide +kernel
theorem dX5_init_49 : decode cX5_init 49 = .ok (.putfield 31, 3) := by decide +kernel
theorem dX5_init_52 : decode cX5_init 52 = .ok (.aload_n 0, 1) := by decide +kernel
theorem dX5_init_53 : decode cX5_init 53 = .ok (.new 35, 3) := by decide +kernel
theorem dX5_init_56 : decode cX5_init 56 = .ok (.dup, 1) := by decide +kernel
theorem dX5_init_57 : decode cX5_init 57 = .ok (.invokespecial 37, 3) := by decide +kernel
theorem dX5_init_60 : decode cX5_init 60 = .ok (.putfield 38, 3) := by decide +kernel
theorem dX5_init_63 : decode cX5_init 63 = .ok (.aload_n 0, 1) := by decide +kernel
theorem dX5_init_64 : decode cX5_init 64 = .ok (.new 42, 3) := by decide +kernel
theorem dX5_init_67 : decode cX5_init 67 = .ok (.dup, 1) := by decide +kernel
theorem dX5_init_68 : decode cX5_init 68 = .ok (.invokespecial 44, 3) := by decide +kernel
theorem dX5_init_71 : decode cX5_init 71 = .ok (.putfield 45, 3) := by decide +kernel
theorem dX5_init_74 : decode cX5_init 74 = .ok (.aload_n 0, 1) := by decide +kernel
theorem dX5_init_75 : decode cX5_init 75 = .ok (.getfield 10, 3) := by decide +kernel
theorem dX5_init_78 : decode cX5_init 78 = .ok (.iconst 5, 1) := by decide +kernel
theorem dX5_init_79 : decode cX5_init 79 = .ok (.invokevirtual 49, 3) := by decide +kernel
theorem dX5_init_82 : decode cX5_init 82 = .ok (.pop, 1) := by decide +kernel
theorem dX5_init_83 : decode cX5_init 83 = .ok (.return_, 1) := by decide +kernel
set_option maxRecDepth 20000 in
theorem ggX5_begin_X0_note : GoodIn wsX5_begin wsX0_note := goodIn_r _ [7, 8, 9, 10, 11, 6, 12, 13, 14, 15, 16, 17, 18, 19, 20, 21, 22, 23, 24, 93, 94, 95, 96] (by decide +kernel) (by decide +kernel)
set_option maxRecDepth 20000 in
theorem gX5_begin_X0_note : GoodIn wsX5_begin (wsV RX5 53 RX0 yX0_note wsX0_note) := goodIn_app (goodIn_of _ (by decide +kernel)) ggX5_begin_X0_note
set_option maxRecDepth 20000 in
theorem ggX5_begin_X3_beginAnew : GoodIn wsX5_begin wsX3_beginAnew := goodIn_r _ [28, 29, 30, 31, 32, 18, 33, 20, 34, 35, 36, 37, 38, 39, 40, 41, 42, 43, 44, 45, 46, 47, 48, 49, 50, 51, 52, 53, 54, 55, 56, 57, 58, 59, 60, 61, 62, 63, 64, 65, 66, 67, 68, 69, 70, 71, 72, 73, 74, 75, 76, 77, 78, 79, 80, 81, 82, 96] (by decide +kernel) (by decide +kernel)
set_option maxRecDepth 20000 in
theorem gX5_begin_X3_beginAnew : GoodIn wsX5_begin (wsV RX5 49 RX3 yX3_beginAnew wsX3_beginAnew) := goodIn_app (goodIn_of _ (by decide +kernel)) ggX5_begin_X3_beginAnew
set_option maxRecDepth 20000 in
theorem ggX5_begin_X0_keepUnlessError : GoodIn wsX5_begin wsX0_keepUnlessError := goodIn_r _ [86, 8, 13, 93, 94, 95] (by decide +kernel) (by decide +kernel)
set_option maxRecDepth 20000 in
theorem gX5_begin_X0_keepUnlessError : GoodIn wsX5_begin (wsV RX5 56 RX0 yX0_keepUnlessError wsX0_keepUnlessError) := goodIn_app (goodIn_of _ (by decide +kernel)) ggX5_begin_X0_keepUnlessError
theorem dX5_begin_0 : decode cX5_begin 0 = .ok (.aload_n 0, 1) := by decide +kernel
theorem dX5_begin_1 : decode cX5_begin 1 = .ok (.getfield 38, 3) := by decide +kernel
theorem dX5_begin_4 : decode cX5_begin 4 = .ok (.aload_n 0, 1) := by decide +kernel
theorem dX5_begin_5 : decode cX5_begin 5 = .ok (.getfield 10, 3) := by decide +kernel
theorem dX5_begin_8 : decode cX5_begin 8 = .ok (.invokevirtual 53, 3) := by decide +kernel
theorem dX5_begin_11 : decode cX5_begin 11 = .ok (.aload_n 0, 1) := by decide +kernel
theorem dX5_begin_12 : decode cX5_begin 12 = .ok (.getfield 38, 3) := by decide +kernel
theorem dX5_begin_15 : decode cX5_begin 15 = .ok (.aload_n 0, 1) := by decide +kernel
theorem dX5_begin_16 : decode cX5_begin 16 = .ok (.getfield 10, 3) := by decide +kernel
theorem dX5_begin_19 : decode cX5_begin 19 = .ok (.iload_n 1, 1) := by decide +kernel
theorem dX5_begin_20 : decode cX5_begin 20 = .ok (.invokevirtual 49, 3) := by decide +kernel
theorem dX5_begin_23 : decode cX5_begin 23 = .ok (.invokevirtual 56, 3) := by decide +kernel
theorem dX5_begin_26 : decode cX5_begin 26 = .ok (.ireturn, 1) := by decide +kernel
set_option maxRecDepth 20000 in
theorem ggX5_write_X0_note : GoodIn wsX5_write wsX0_note := goodIn_r _ [7, 8, 9, 10, 11, 6, 12, 13, 14, 15, 16, 17, 18, 19, 20, 21, 22, 23, 24, 93, 94, 95, 96] (by decide +kernel) (by decide +kernel)
set_option maxRecDepth 20000 in
theorem gX5_write_X0_note : GoodIn wsX5_write (wsV RX5 53 RX0 yX0_note wsX0_note) := goodIn_app (goodIn_of _ (by decide +kernel)) ggX5_write_X0_note
set_option maxRecDepth 20000 in
theorem ggX5_write_X3_writeCell : GoodIn wsX5_write wsX3_writeCell := goodIn_r _ [28, 29, 30, 31, 32, 33, 18, 34, 35, 36, 37, 38, 20, 39, 40, 41, 42, 43, 44, 45, 46, 47, 48, 49, 50, 51, 52, 53, 54, 55, 56, 57, 58, 59, 60, 61, 62, 63, 64, 65, 66, 67, 68, 69, 70, 71, 72, 73, 74, 75, 76, 77, 78, 79, 80, 81, 82, 96] (by decide +kernel) (by decide +kernel)
set_option maxRecDepth 20000 in
theorem gX5_write_X3_writeCell : GoodIn wsX5_write (wsV RX5 59 RX3 yX3_writeCell wsX3_writeCell) := goodIn_app (goodIn_of _ (by decide +kernel)) ggX5_write_X3_writeCell
set_option maxRecDepth 20000 in
theorem ggX5_write_X0_keepUnlessError : GoodIn wsX5_write wsX0_keepUnlessError := goodIn_r _ [86, 8, 13, 93, 94, 95] (by decide +kernel) (by decide +kernel)
set_option maxRecDepth 20000 in
theorem gX5_write_X0_keepUnlessError : GoodIn wsX5_write (wsV RX5 56 RX0 yX0_keepUnlessError wsX0_keepUnlessError) := goodIn_app (goodIn_of _ (by decide +kernel)) ggX5_write_X0_keepUnlessError
theorem dX5_write_0 : decode cX5_write 0 = .ok (.aload_n 0, 1) := by decide +kernel
theorem dX5_write_1 : decode cX5_write 1 = .ok (.getfield 38, 3) := by decide +kernel
theorem dX5_write_4 : decode cX5_write 4 = .ok (.aload_n 0, 1) := by decide +kernel
theorem dX5_write_5 : decode cX5_write 5 = .ok (.getfield 10, 3) := by decide +kernel
theorem dX5_write_8 : decode cX5_write 8 = .ok (.invokevirtual 53, 3) := by decide +kernel
theorem dX5_write_11 : decode cX5_write 11 = .ok (.aload_n 0, 1) := by decide +kernel
theorem dX5_write_12 : decode cX5_write 12 = .ok (.getfield 38, 3) := by decide +kernel
theorem dX5_write_15 : decode cX5_write 15 = .ok (.aload_n 0, 1) := by decide +kernel
theorem dX5_write_16 : decode cX5_write 16 = .ok (.getfield 10, 3) := by decide +kernel
theorem dX5_write_19 : decode cX5_write 19 = .ok (.iload_n 1, 1) := by decide +kernel
theorem dX5_write_20 : decode cX5_write 20 = .ok (.iload_n 2, 1) := by decide +kernel
theorem dX5_write_21 : decode cX5_write 21 = .ok (.iload_n 3, 1) := by decide +kernel
theorem dX5_write_22 : decode cX5_write 22 = .ok (.invokevirtual 59, 3) := by decide +kernel
theorem dX5_write_25 : decode cX5_write 25 = .ok (.invokevirtual 56, 3) := by decide +kernel
theorem dX5_write_28 : decode cX5_write 28 = .ok (.ireturn, 1) := by decide +kernel
set_option maxRecDepth 20000 in
theorem ggX5_lose_X0_note : GoodIn wsX5_lose wsX0_note := goodIn_r _ [7, 8, 9, 10, 11, 6, 12, 13, 14, 15, 16, 17, 18, 19, 20, 21, 22, 23, 24, 89, 90, 91, 92] (by decide +kernel) (by decide +kernel)
set_option maxRecDepth 20000 in
theorem gX5_lose_X0_note : GoodIn wsX5_lose (wsV RX5 53 RX0 yX0_note wsX0_note) := goodIn_app (goodIn_of _ (by decide +kernel)) ggX5_lose_X0_note
set_option maxRecDepth 20000 in
theorem ggX5_lose_X3_loseRow : GoodIn wsX5_lose wsX3_loseRow := goodIn_r _ [28, 29, 30, 31, 32, 33, 18, 34, 35, 36, 37, 38, 20, 39, 40, 41, 42, 43, 44, 45, 46, 47, 48, 49, 50, 51, 52, 53, 54, 55, 56, 57, 58, 59, 60, 61, 62, 63, 64, 65, 66, 67, 68, 69, 70, 71, 72, 73, 74, 75, 76, 77, 78, 92] (by decide +kernel) (by decide +kernel)
set_option maxRecDepth 20000 in
theorem gX5_lose_X3_loseRow : GoodIn wsX5_lose (wsV RX5 63 RX3 yX3_loseRow wsX3_loseRow) := goodIn_app (goodIn_of _ (by decide +kernel)) ggX5_lose_X3_loseRow
set_option maxRecDepth 20000 in
theorem ggX5_lose_X0_keepUnlessError : GoodIn wsX5_lose wsX0_keepUnlessError := goodIn_r _ [82, 8, 13, 89, 90, 91] (by decide +kernel) (by decide +kernel)
set_option maxRecDepth 20000 in
theorem gX5_lose_X0_keepUnlessError : GoodIn wsX5_lose (wsV RX5 56 RX0 yX0_keepUnlessError wsX0_keepUnlessError) := goodIn_app (goodIn_of _ (by decide +kernel)) ggX5_lose_X0_keepUnlessError
theorem dX5_lose_0 : decode cX5_lose 0 = .ok (.aload_n 0, 1) := by decide +kernel
theorem dX5_lose_1 : decode cX5_lose 1 = .ok (.getfield 38, 3) := by decide +kernel
theorem dX5_lose_4 : decode cX5_lose 4 = .ok (.aload_n 0, 1) := by decide +kernel
theorem dX5_lose_5 : decode cX5_lose 5 = .ok (.getfield 10, 3) := by decide +kernel
theorem dX5_lose_8 : decode cX5_lose 8 = .ok (.invokevirtual 53, 3) := by decide +kernel
theorem dX5_lose_11 : decode cX5_lose 11 = .ok (.aload_n 0, 1) := by decide +kernel
theorem dX5_lose_12 : decode cX5_lose 12 = .ok (.getfield 38, 3) := by decide +kernel
theorem dX5_lose_15 : decode cX5_lose 15 = .ok (.aload_n 0, 1) := by decide +kernel
theorem dX5_lose_16 : decode cX5_lose 16 = .ok (.getfield 10, 3) := by decide +kernel
theorem dX5_lose_19 : decode cX5_lose 19 = .ok (.iload_n 1, 1) := by decide +kernel
theorem dX5_lose_20 : decode cX5_lose 20 = .ok (.invokevirtual 63, 3) := by decide +kernel
theorem dX5_lose_23 : decode cX5_lose 23 = .ok (.invokevirtual 56, 3) := by decide +kernel
theorem dX5_lose_26 : decode cX5_lose 26 = .ok (.ireturn, 1) := by decide +kernel
set_option maxRecDepth 20000 in
theorem ggX5_mend_X0_note : GoodIn wsX5_mend wsX0_note := goodIn_r _ [7, 8, 9, 10, 11, 6, 12, 13, 14, 15, 16, 17, 18, 19, 20, 21, 22, 23, 24, 116, 117, 118, 119] (by decide +kernel) (by decide +kernel)
set_option maxRecDepth 20000 in
theorem gX5_mend_X0_note : GoodIn wsX5_mend (wsV RX5 53 RX0 yX0_note wsX0_note) := goodIn_app (goodIn_of _ (by decide +kernel)) ggX5_mend_X0_note
set_option maxRecDepth 20000 in
theorem ggX5_mend_X3_mendRow : GoodIn wsX5_mend wsX3_mendRow := goodIn_r _ [28, 29, 30, 31, 32, 33, 18, 34, 35, 36, 37, 38, 20, 39, 40, 41, 42, 43, 44, 45, 46, 47, 48, 49, 50, 51, 52, 53, 54, 55, 56, 57, 58, 59, 60, 61, 62, 63, 64, 65, 66, 67, 68, 69, 70, 71, 72, 73, 74, 75, 76, 77, 78, 79, 80, 81, 82, 83, 84, 85, 86, 87, 88, 89, 90, 91, 92, 93, 94, 95, 96, 97, 98, 99, 100, 101, 102, 103, 104, 105, 119] (by decide +kernel) (by decide +kernel)
set_option maxRecDepth 20000 in
theorem gX5_mend_X3_mendRow : GoodIn wsX5_mend (wsV RX5 66 RX3 yX3_mendRow wsX3_mendRow) := goodIn_app (goodIn_of _ (by decide +kernel)) ggX5_mend_X3_mendRow
set_option maxRecDepth 20000 in
theorem ggX5_mend_X0_keepUnlessError : GoodIn wsX5_mend wsX0_keepUnlessError := goodIn_r _ [109, 8, 13, 116, 117, 118] (by decide +kernel) (by decide +kernel)
set_option maxRecDepth 20000 in
theorem gX5_mend_X0_keepUnlessError : GoodIn wsX5_mend (wsV RX5 56 RX0 yX0_keepUnlessError wsX0_keepUnlessError) := goodIn_app (goodIn_of _ (by decide +kernel)) ggX5_mend_X0_keepUnlessError
theorem dX5_mend_0 : decode cX5_mend 0 = .ok (.aload_n 0, 1) := by decide +kernel
theorem dX5_mend_1 : decode cX5_mend 1 = .ok (.getfield 38, 3) := by decide +kernel
theorem dX5_mend_4 : decode cX5_mend 4 = .ok (.aload_n 0, 1) := by decide +kernel
theorem dX5_mend_5 : decode cX5_mend 5 = .ok (.getfield 10, 3) := by decide +kernel
theorem dX5_mend_8 : decode cX5_mend 8 = .ok (.invokevirtual 53, 3) := by decide +kernel
theorem dX5_mend_11 : decode cX5_mend 11 = .ok (.aload_n 0, 1) := by decide +kernel
theorem dX5_mend_12 : decode cX5_mend 12 = .ok (.getfield 38, 3) := by decide +kernel
theorem dX5_mend_15 : decode cX5_mend 15 = .ok (.aload_n 0, 1) := by decide +kernel
theorem dX5_mend_16 : decode cX5_mend 16 = .ok (.getfield 10, 3) := by decide +kernel
theorem dX5_mend_19 : decode cX5_mend 19 = .ok (.iload_n 1, 1) := by decide +kernel
theorem dX5_mend_20 : decode cX5_mend 20 = .ok (.invokevirtual 66, 3) := by decide +kernel
theorem dX5_mend_23 : decode cX5_mend 23 = .ok (.invokevirtual 56, 3) := by decide +kernel
theorem dX5_mend_26 : decode cX5_mend 26 = .ok (.ireturn, 1) := by decide +kernel
set_option maxRecDepth 20000 in
theorem ggX5_swap_X0_note : GoodIn wsX5_swap wsX0_note := goodIn_r _ [7, 8, 9, 10, 11, 6, 12, 13, 14, 15, 16, 17, 18, 19, 20, 21, 22, 23, 24, 64, 65, 66, 67] (by decide +kernel) (by decide +kernel)
set_option maxRecDepth 20000 in
theorem gX5_swap_X0_note : GoodIn wsX5_swap (wsV RX5 53 RX0 yX0_note wsX0_note) := goodIn_app (goodIn_of _ (by decide +kernel)) ggX5_swap_X0_note
set_option maxRecDepth 20000 in
theorem ggX5_swap_X3_swapRows : GoodIn wsX5_swap wsX3_swapRows := goodIn_r _ [28, 29, 30, 31, 32, 33, 34, 35, 36, 37, 38, 39, 40, 18, 41, 42, 43, 44, 45, 20, 46, 47, 48, 49, 50, 51, 52, 53, 67] (by decide +kernel) (by decide +kernel)
set_option maxRecDepth 20000 in
theorem gX5_swap_X3_swapRows : GoodIn wsX5_swap (wsV RX5 69 RX3 yX3_swapRows wsX3_swapRows) := goodIn_app (goodIn_of _ (by decide +kernel)) ggX5_swap_X3_swapRows
set_option maxRecDepth 20000 in
theorem ggX5_swap_X0_keepUnlessError : GoodIn wsX5_swap wsX0_keepUnlessError := goodIn_r _ [57, 8, 13, 64, 65, 66] (by decide +kernel) (by decide +kernel)
set_option maxRecDepth 20000 in
theorem gX5_swap_X0_keepUnlessError : GoodIn wsX5_swap (wsV RX5 56 RX0 yX0_keepUnlessError wsX0_keepUnlessError) := goodIn_app (goodIn_of _ (by decide +kernel)) ggX5_swap_X0_keepUnlessError
theorem dX5_swap_0 : decode cX5_swap 0 = .ok (.aload_n 0, 1) := by decide +kernel
theorem dX5_swap_1 : decode cX5_swap 1 = .ok (.getfield 38, 3) := by decide +kernel
theorem dX5_swap_4 : decode cX5_swap 4 = .ok (.aload_n 0, 1) := by decide +kernel
theorem dX5_swap_5 : decode cX5_swap 5 = .ok (.getfield 10, 3) := by decide +kernel
theorem dX5_swap_8 : decode cX5_swap 8 = .ok (.invokevirtual 53, 3) := by decide +kernel
theorem dX5_swap_11 : decode cX5_swap 11 = .ok (.aload_n 0, 1) := by decide +kernel
theorem dX5_swap_12 : decode cX5_swap 12 = .ok (.getfield 38, 3) := by decide +kernel
theorem dX5_swap_15 : decode cX5_swap 15 = .ok (.aload_n 0, 1) := by decide +kernel
theorem dX5_swap_16 : decode cX5_swap 16 = .ok (.getfield 10, 3) := by decide +kernel
theorem dX5_swap_19 : decode cX5_swap 19 = .ok (.iload_n 1, 1) := by decide +kernel
theorem dX5_swap_20 : decode cX5_swap 20 = .ok (.iload_n 2, 1) := by decide +kernel
theorem dX5_swap_21 : decode cX5_swap 21 = .ok (.invokevirtual 69, 3) := by decide +kernel
theorem dX5_swap_24 : decode cX5_swap 24 = .ok (.invokevirtual 56, 3) := by decide +kernel
theorem dX5_swap_27 : decode cX5_swap 27 = .ok (.ireturn, 1) := by decide +kernel
set_option maxRecDepth 20000 in
theorem ggX5_lay_X0_note : GoodIn wsX5_lay wsX0_note := goodIn_r _ [7, 8, 9, 10, 11, 6, 12, 13, 14, 15, 16, 17, 18, 19, 20, 21, 22, 23, 24, 94, 95, 96, 97] (by decide +kernel) (by decide +kernel)
set_option maxRecDepth 20000 in
theorem gX5_lay_X0_note : GoodIn wsX5_lay (wsV RX5 53 RX0 yX0_note wsX0_note) := goodIn_app (goodIn_of _ (by decide +kernel)) ggX5_lay_X0_note
set_option maxRecDepth 20000 in
theorem ggX5_lay_X3_layAnew : GoodIn wsX5_lay wsX3_layAnew := goodIn_r _ [28, 29, 30, 31, 32, 33, 18, 34, 35, 36, 37, 38, 20, 39, 40, 41, 42, 43, 44, 45, 46, 47, 48, 49, 50, 51, 52, 53, 54, 55, 56, 57, 58, 59, 60, 61, 62, 63, 64, 65, 66, 67, 68, 69, 70, 71, 72, 73, 74, 75, 76, 77, 78, 79, 80, 81, 82, 83, 97] (by decide +kernel) (by decide +kernel)
set_option maxRecDepth 20000 in
theorem gX5_lay_X3_layAnew : GoodIn wsX5_lay (wsV RX5 73 RX3 yX3_layAnew wsX3_layAnew) := goodIn_app (goodIn_of _ (by decide +kernel)) ggX5_lay_X3_layAnew
set_option maxRecDepth 20000 in
theorem ggX5_lay_X0_keepUnlessError : GoodIn wsX5_lay wsX0_keepUnlessError := goodIn_r _ [87, 8, 13, 94, 95, 96] (by decide +kernel) (by decide +kernel)
set_option maxRecDepth 20000 in
theorem gX5_lay_X0_keepUnlessError : GoodIn wsX5_lay (wsV RX5 56 RX0 yX0_keepUnlessError wsX0_keepUnlessError) := goodIn_app (goodIn_of _ (by decide +kernel)) ggX5_lay_X0_keepUnlessError
theorem dX5_lay_0 : decode cX5_lay 0 = .ok (.aload_n 0, 1) := by decide +kernel
theorem dX5_lay_1 : decode cX5_lay 1 = .ok (.getfield 38, 3) := by decide +kernel
theorem dX5_lay_4 : decode cX5_lay 4 = .ok (.aload_n 0, 1) := by decide +kernel
theorem dX5_lay_5 : decode cX5_lay 5 = .ok (.getfield 10, 3) := by decide +kernel
theorem dX5_lay_8 : decode cX5_lay 8 = .ok (.invokevirtual 53, 3) := by decide +kernel
theorem dX5_lay_11 : decode cX5_lay 11 = .ok (.aload_n 0, 1) := by decide +kernel
theorem dX5_lay_12 : decode cX5_lay 12 = .ok (.getfield 38, 3) := by decide +kernel
theorem dX5_lay_15 : decode cX5_lay 15 = .ok (.aload_n 0, 1) := by decide +kernel
theorem dX5_lay_16 : decode cX5_lay 16 = .ok (.getfield 10, 3) := by decide +kernel
theorem dX5_lay_19 : decode cX5_lay 19 = .ok (.iload_n 1, 1) := by decide +kernel
theorem dX5_lay_20 : decode cX5_lay 20 = .ok (.invokevirtual 73, 3) := by decide +kernel
theorem dX5_lay_23 : decode cX5_lay 23 = .ok (.invokevirtual 56, 3) := by decide +kernel
theorem dX5_lay_26 : decode cX5_lay 26 = .ok (.ireturn, 1) := by decide +kernel
set_option maxRecDepth 20000 in
theorem ggX5_days_X0_note : GoodIn wsX5_days wsX0_note := goodIn_r _ [7, 8, 9, 10, 11, 6, 12, 13, 14, 15, 16, 17, 18, 19, 20, 21, 22, 23, 24, 53, 54, 55, 56] (by decide +kernel) (by decide +kernel)
set_option maxRecDepth 20000 in
theorem gX5_days_X0_note : GoodIn wsX5_days (wsV RX5 53 RX0 yX0_note wsX0_note) := goodIn_app (goodIn_of _ (by decide +kernel)) ggX5_days_X0_note
set_option maxRecDepth 20000 in
theorem ggX5_days_X3_endDays : GoodIn wsX5_days wsX3_endDays := goodIn_r _ [28, 29, 30, 31, 32, 33, 18, 34, 20, 35, 36, 37, 38, 39, 40, 41, 42, 56] (by decide +kernel) (by decide +kernel)
set_option maxRecDepth 20000 in
theorem gX5_days_X3_endDays : GoodIn wsX5_days (wsV RX5 76 RX3 yX3_endDays wsX3_endDays) := goodIn_app (goodIn_of _ (by decide +kernel)) ggX5_days_X3_endDays
set_option maxRecDepth 20000 in
theorem ggX5_days_X0_keepUnlessError : GoodIn wsX5_days wsX0_keepUnlessError := goodIn_r _ [46, 8, 13, 53, 54, 55] (by decide +kernel) (by decide +kernel)
set_option maxRecDepth 20000 in
theorem gX5_days_X0_keepUnlessError : GoodIn wsX5_days (wsV RX5 56 RX0 yX0_keepUnlessError wsX0_keepUnlessError) := goodIn_app (goodIn_of _ (by decide +kernel)) ggX5_days_X0_keepUnlessError
theorem dX5_days_0 : decode cX5_days 0 = .ok (.aload_n 0, 1) := by decide +kernel
theorem dX5_days_1 : decode cX5_days 1 = .ok (.getfield 38, 3) := by decide +kernel
theorem dX5_days_4 : decode cX5_days 4 = .ok (.aload_n 0, 1) := by decide +kernel
theorem dX5_days_5 : decode cX5_days 5 = .ok (.getfield 10, 3) := by decide +kernel
theorem dX5_days_8 : decode cX5_days 8 = .ok (.invokevirtual 53, 3) := by decide +kernel
theorem dX5_days_11 : decode cX5_days 11 = .ok (.aload_n 0, 1) := by decide +kernel
theorem dX5_days_12 : decode cX5_days 12 = .ok (.getfield 38, 3) := by decide +kernel
theorem dX5_days_15 : decode cX5_days 15 = .ok (.aload_n 0, 1) := by decide +kernel
theorem dX5_days_16 : decode cX5_days 16 = .ok (.getfield 10, 3) := by decide +kernel
theorem dX5_days_19 : decode cX5_days 19 = .ok (.iload_n 1, 1) := by decide +kernel
theorem dX5_days_20 : decode cX5_days 20 = .ok (.invokevirtual 76, 3) := by decide +kernel
theorem dX5_days_23 : decode cX5_days 23 = .ok (.invokevirtual 56, 3) := by decide +kernel
theorem dX5_days_26 : decode cX5_days 26 = .ok (.ireturn, 1) := by decide +kernel
set_option maxRecDepth 20000 in
theorem ggX5_set_X0_note : GoodIn wsX5_set wsX0_note := goodIn_r _ [7, 8, 9, 10, 11, 6, 12, 13, 14, 15, 16, 17, 18, 19, 20, 21, 22, 23, 24, 56, 57, 58, 59] (by decide +kernel) (by decide +kernel)
set_option maxRecDepth 20000 in
theorem gX5_set_X0_note : GoodIn wsX5_set (wsV RX5 53 RX0 yX0_note wsX0_note) := goodIn_app (goodIn_of _ (by decide +kernel)) ggX5_set_X0_note
set_option maxRecDepth 20000 in
theorem ggX5_set_X3_changeSetting : GoodIn wsX5_set wsX3_changeSetting := goodIn_r _ [28, 29, 30, 31, 32, 18, 33, 20, 34, 35, 36, 37, 38, 39, 40, 41, 42, 43, 44, 45, 59] (by decide +kernel) (by decide +kernel)
set_option maxRecDepth 20000 in
theorem gX5_set_X3_changeSetting : GoodIn wsX5_set (wsV RX5 79 RX3 yX3_changeSetting wsX3_changeSetting) := goodIn_app (goodIn_of _ (by decide +kernel)) ggX5_set_X3_changeSetting
set_option maxRecDepth 20000 in
theorem ggX5_set_X0_keepUnlessError : GoodIn wsX5_set wsX0_keepUnlessError := goodIn_r _ [49, 8, 13, 56, 57, 58] (by decide +kernel) (by decide +kernel)
set_option maxRecDepth 20000 in
theorem gX5_set_X0_keepUnlessError : GoodIn wsX5_set (wsV RX5 56 RX0 yX0_keepUnlessError wsX0_keepUnlessError) := goodIn_app (goodIn_of _ (by decide +kernel)) ggX5_set_X0_keepUnlessError
theorem dX5_set_0 : decode cX5_set 0 = .ok (.aload_n 0, 1) := by decide +kernel
theorem dX5_set_1 : decode cX5_set 1 = .ok (.getfield 38, 3) := by decide +kernel
theorem dX5_set_4 : decode cX5_set 4 = .ok (.aload_n 0, 1) := by decide +kernel
theorem dX5_set_5 : decode cX5_set 5 = .ok (.getfield 10, 3) := by decide +kernel
theorem dX5_set_8 : decode cX5_set 8 = .ok (.invokevirtual 53, 3) := by decide +kernel
theorem dX5_set_11 : decode cX5_set 11 = .ok (.aload_n 0, 1) := by decide +kernel
theorem dX5_set_12 : decode cX5_set 12 = .ok (.getfield 38, 3) := by decide +kernel
theorem dX5_set_15 : decode cX5_set 15 = .ok (.aload_n 0, 1) := by decide +kernel
theorem dX5_set_16 : decode cX5_set 16 = .ok (.getfield 10, 3) := by decide +kernel
theorem dX5_set_19 : decode cX5_set 19 = .ok (.iload_n 1, 1) := by decide +kernel
theorem dX5_set_20 : decode cX5_set 20 = .ok (.iload_n 2, 1) := by decide +kernel
theorem dX5_set_21 : decode cX5_set 21 = .ok (.invokevirtual 79, 3) := by decide +kernel
theorem dX5_set_24 : decode cX5_set 24 = .ok (.invokevirtual 56, 3) := by decide +kernel
theorem dX5_set_27 : decode cX5_set 27 = .ok (.ireturn, 1) := by decide +kernel
set_option maxRecDepth 20000 in
theorem ggX5_cell_X4_ofCell : GoodIn wsX5_cell wsX4_ofCell := goodIn_r _ [6, 7, 8, 9, 10, 11, 12, 13, 14, 15, 16, 17, 18, 19, 20, 21, 22, 23, 24, 25, 26, 27, 28, 29, 30, 31, 32, 33, 34, 35, 36, 37, 38, 39, 40, 41, 42, 43, 44, 45, 46, 47, 48, 49, 50, 51, 52, 53, 54, 55, 62, 63] (by decide +kernel) (by decide +kernel)
set_option maxRecDepth 20000 in
theorem gX5_cell_X4_ofCell : GoodIn wsX5_cell (wsV RX5 82 RX4 yX4_ofCell wsX4_ofCell) := goodIn_app (goodIn_of _ (by decide +kernel)) ggX5_cell_X4_ofCell
theorem dX5_cell_0 : decode cX5_cell 0 = .ok (.aload_n 0, 1) := by decide +kernel
theorem dX5_cell_1 : decode cX5_cell 1 = .ok (.getfield 24, 3) := by decide +kernel
theorem dX5_cell_4 : decode cX5_cell 4 = .ok (.iload_n 1, 1) := by decide +kernel
theorem dX5_cell_5 : decode cX5_cell 5 = .ok (.iload_n 2, 1) := by decide +kernel
theorem dX5_cell_6 : decode cX5_cell 6 = .ok (.iload_n 3, 1) := by decide +kernel
theorem dX5_cell_7 : decode cX5_cell 7 = .ok (.invokevirtual 82, 3) := by decide +kernel
theorem dX5_cell_10 : decode cX5_cell 10 = .ok (.ireturn, 1) := by decide +kernel
set_option maxRecDepth 20000 in
theorem ggX5_margin_X4_ofMargin : GoodIn wsX5_margin wsX4_ofMargin := goodIn_r _ [6, 7, 8, 9, 10, 11, 12, 13, 14, 15, 16, 17, 18, 19, 20, 21, 22, 23, 5, 24, 25, 26, 27, 28, 29, 30, 31, 32, 33, 34, 35, 36, 37, 38, 39, 40, 41, 48, 49] (by decide +kernel) (by decide +kernel)
set_option maxRecDepth 20000 in
theorem gX5_margin_X4_ofMargin : GoodIn wsX5_margin (wsV RX5 85 RX4 yX4_ofMargin wsX4_ofMargin) := goodIn_app (goodIn_of _ (by decide +kernel)) ggX5_margin_X4_ofMargin
theorem dX5_margin_0 : decode cX5_margin 0 = .ok (.aload_n 0, 1) := by decide +kernel
theorem dX5_margin_1 : decode cX5_margin 1 = .ok (.getfield 24, 3) := by decide +kernel
theorem dX5_margin_4 : decode cX5_margin 4 = .ok (.iload_n 1, 1) := by decide +kernel
theorem dX5_margin_5 : decode cX5_margin 5 = .ok (.iload_n 2, 1) := by decide +kernel
theorem dX5_margin_6 : decode cX5_margin 6 = .ok (.iload_n 3, 1) := by decide +kernel
theorem dX5_margin_7 : decode cX5_margin 7 = .ok (.invokevirtual 85, 3) := by decide +kernel
theorem dX5_margin_10 : decode cX5_margin 10 = .ok (.ireturn, 1) := by decide +kernel
set_option maxRecDepth 20000 in
theorem ggX5_row_X4_ofRow : GoodIn wsX5_row wsX4_ofRow := goodIn_r _ [6, 7, 8, 9, 10, 11, 12, 13, 14, 15, 16, 17, 18, 19, 20, 21, 22, 23, 24, 25, 26, 27, 28, 29, 30, 5, 31, 32, 33, 34, 35, 36, 37, 38, 39, 40, 41, 42, 43, 44, 45, 46, 47, 48, 49, 50, 51, 52, 53, 54, 55, 56, 57, 58, 59, 60, 61, 62, 63, 64, 71, 72] (by decide +kernel) (by decide +kernel)
set_option maxRecDepth 20000 in
theorem gX5_row_X4_ofRow : GoodIn wsX5_row (wsV RX5 88 RX4 yX4_ofRow wsX4_ofRow) := goodIn_app (goodIn_of _ (by decide +kernel)) ggX5_row_X4_ofRow
theorem dX5_row_0 : decode cX5_row 0 = .ok (.aload_n 0, 1) := by decide +kernel
theorem dX5_row_1 : decode cX5_row 1 = .ok (.getfield 24, 3) := by decide +kernel
theorem dX5_row_4 : decode cX5_row 4 = .ok (.iload_n 1, 1) := by decide +kernel
theorem dX5_row_5 : decode cX5_row 5 = .ok (.iload_n 2, 1) := by decide +kernel
theorem dX5_row_6 : decode cX5_row 6 = .ok (.invokevirtual 88, 3) := by decide +kernel
theorem dX5_row_9 : decode cX5_row 9 = .ok (.ireturn, 1) := by decide +kernel
set_option maxRecDepth 20000 in
theorem ggX5_at_X3_hasRow : GoodIn wsX5_at wsX3_hasRow := goodIn_r _ [7, 8, 9, 10, 6, 11, 12, 20] (by decide +kernel) (by decide +kernel)
set_option maxRecDepth 20000 in
theorem gX5_at_X3_hasRow : GoodIn wsX5_at (wsV RX5 91 RX3 yX3_hasRow wsX3_hasRow) := goodIn_app (goodIn_of _ (by decide +kernel)) ggX5_at_X3_hasRow
set_option maxRecDepth 20000 in
theorem ggX5_at_X3_get : GoodIn wsX5_at wsX3_get := goodIn_r _ [11, 12, 20] (by decide +kernel) (by decide +kernel)
set_option maxRecDepth 20000 in
theorem gX5_at_X3_get : GoodIn wsX5_at (wsV RX5 95 RX3 yX3_get wsX3_get) := goodIn_app (goodIn_of _ (by decide +kernel)) ggX5_at_X3_get
theorem dX5_at_0 : decode cX5_at 0 = .ok (.aload_n 0, 1) := by decide +kernel
theorem dX5_at_1 : decode cX5_at 1 = .ok (.getfield 10, 3) := by decide +kernel
theorem dX5_at_4 : decode cX5_at 4 = .ok (.iload_n 1, 1) := by decide +kernel
theorem dX5_at_5 : decode cX5_at 5 = .ok (.invokevirtual 91, 3) := by decide +kernel
theorem dX5_at_8 : decode cX5_at 8 = .ok (.ifCond .eq 17, 3) := by decide +kernel
theorem dX5_at_11 : decode cX5_at 11 = .ok (.aload_n 0, 1) := by decide +kernel
theorem dX5_at_12 : decode cX5_at 12 = .ok (.getfield 10, 3) := by decide +kernel
theorem dX5_at_15 : decode cX5_at 15 = .ok (.bipush 19, 2) := by decide +kernel
theorem dX5_at_17 : decode cX5_at 17 = .ok (.iload_n 1, 1) := by decide +kernel
theorem dX5_at_18 : decode cX5_at 18 = .ok (.iadd, 1) := by decide +kernel
theorem dX5_at_19 : decode cX5_at 19 = .ok (.invokevirtual 95, 3) := by decide +kernel
theorem dX5_at_22 : decode cX5_at 22 = .ok (.goto 5, 3) := by decide +kernel
theorem dX5_at_25 : decode cX5_at 25 = .ok (.ldc 98, 2) := by decide +kernel
theorem dX5_at_27 : decode cX5_at 27 = .ok (.ireturn, 1) := by decide +kernel
set_option maxRecDepth 20000 in
theorem ggX5_would_X4_ofMending : GoodIn wsX5_would wsX4_ofMending := goodIn_r _ [6, 7, 8, 9, 10, 11, 12, 13, 14, 15, 16, 17, 18, 19, 20, 21, 22, 23, 24, 25, 26, 27, 28, 29, 30, 31, 32, 33, 34, 35, 36, 37, 38, 39, 40, 41, 42, 43, 44, 45, 46, 47, 48, 49, 50, 51, 52, 53, 54, 55, 56, 57, 58, 59, 60, 61, 68, 69] (by decide +kernel) (by decide +kernel)
set_option maxRecDepth 20000 in
theorem gX5_would_X4_ofMending : GoodIn wsX5_would (wsV RX5 99 RX4 yX4_ofMending wsX4_ofMending) := goodIn_app (goodIn_of _ (by decide +kernel)) ggX5_would_X4_ofMending
theorem dX5_would_0 : decode cX5_would 0 = .ok (.aload_n 0, 1) := by decide +kernel
theorem dX5_would_1 : decode cX5_would 1 = .ok (.getfield 24, 3) := by decide +kernel
theorem dX5_would_4 : decode cX5_would 4 = .ok (.iload_n 1, 1) := by decide +kernel
theorem dX5_would_5 : decode cX5_would 5 = .ok (.iload_n 2, 1) := by decide +kernel
theorem dX5_would_6 : decode cX5_would 6 = .ok (.invokevirtual 99, 3) := by decide +kernel
theorem dX5_would_9 : decode cX5_would 9 = .ok (.ireturn, 1) := by decide +kernel
set_option maxRecDepth 20000 in
theorem ggX5_order_X1_findBest : GoodIn wsX5_order wsX1_findBest := goodIn_r _ [9, 10, 11, 12, 13, 8, 14, 15, 16, 17, 18, 19, 20, 21, 22, 23, 24, 25, 26, 27, 28, 29, 30, 31, 32, 33, 34, 35, 36, 37, 38, 39, 40, 41, 42, 43, 44, 45, 46, 47, 48, 49, 50, 51, 52, 53, 54, 55, 56, 57, 58, 59, 60, 61, 62, 63, 64, 65, 66, 67, 68, 69, 70, 71, 72, 73, 74, 75, 76, 77, 78, 79, 80, 81, 82, 83, 84, 85, 86, 87, 88, 89, 90, 91, 92, 93, 94, 95, 96, 97, 98, 99, 100, 101, 102, 103, 104, 105, 106, 107, 108, 109, 110, 111, 112, 113, 114, 115, 116, 117, 118, 119, 120, 121, 122, 123, 135, 136, 137, 138, 139] (by decide +kernel) (by decide +kernel)
set_option maxRecDepth 20000 in
theorem gX5_order_X1_findBest : GoodIn wsX5_order (wsV RX5 102 RX1 yX1_findBest wsX1_findBest) := goodIn_app (goodIn_of _ (by decide +kernel)) ggX5_order_X1_findBest
set_option maxRecDepth 20000 in
theorem ggX5_order_X1_bestRow : GoodIn wsX5_order wsX1_bestRow := goodIn_r _ [127, 36, 128, 135, 136, 137, 138] (by decide +kernel) (by decide +kernel)
set_option maxRecDepth 20000 in
theorem gX5_order_X1_bestRow : GoodIn wsX5_order (wsV RX5 106 RX1 yX1_bestRow wsX1_bestRow) := goodIn_app (goodIn_of _ (by decide +kernel)) ggX5_order_X1_bestRow
theorem dX5_order_0 : decode cX5_order 0 = .ok (.iload_n 1, 1) := by decide +kernel
theorem dX5_order_1 : decode cX5_order 1 = .ok (.ifCond .ge 6, 3) := by decide +kernel
theorem dX5_order_4 : decode cX5_order 4 = .ok (.ldc 98, 2) := by decide +kernel
theorem dX5_order_6 : decode cX5_order 6 = .ok (.ireturn, 1) := by decide +kernel
theorem dX5_order_7 : decode cX5_order 7 = .ok (.aload_n 0, 1) := by decide +kernel
theorem dX5_order_8 : decode cX5_order 8 = .ok (.getfield 31, 3) := by decide +kernel
theorem dX5_order_11 : decode cX5_order 11 = .ok (.aload_n 0, 1) := by decide +kernel
theorem dX5_order_12 : decode cX5_order 12 = .ok (.getfield 10, 3) := by decide +kernel
theorem dX5_order_15 : decode cX5_order 15 = .ok (.invokevirtual 102, 3) := by decide +kernel
theorem dX5_order_18 : decode cX5_order 18 = .ok (.istore_n 2, 1) := by decide +kernel
theorem dX5_order_19 : decode cX5_order 19 = .ok (.iload_n 2, 1) := by decide +kernel
theorem dX5_order_20 : decode cX5_order 20 = .ok (.ifCond .ge 5, 3) := by decide +kernel
theorem dX5_order_23 : decode cX5_order 23 = .ok (.iload_n 2, 1) := by decide +kernel
theorem dX5_order_24 : decode cX5_order 24 = .ok (.ireturn, 1) := by decide +kernel
theorem dX5_order_25 : decode cX5_order 25 = .ok (.iload_n 1, 1) := by decide +kernel
theorem dX5_order_26 : decode cX5_order 26 = .ok (.iload_n 2, 1) := by decide +kernel
theorem dX5_order_27 : decode cX5_order 27 = .ok (.if_icmp .ge 14, 3) := by decide +kernel
theorem dX5_order_30 : decode cX5_order 30 = .ok (.aload_n 0, 1) := by decide +kernel
theorem dX5_order_31 : decode cX5_order 31 = .ok (.getfield 31, 3) := by decide +kernel
theorem dX5_order_34 : decode cX5_order 34 = .ok (.iload_n 1, 1) := by decide +kernel
theorem dX5_order_35 : decode cX5_order 35 = .ok (.invokevirtual 106, 3) := by decide +kernel
theorem dX5_order_38 : decode cX5_order 38 = .ok (.goto 5, 3) := by decide +kernel
theorem dX5_order_41 : decode cX5_order 41 = .ok (.ldc 109, 2) := by decide +kernel
theorem dX5_order_43 : decode cX5_order 43 = .ok (.ireturn, 1) := by decide +kernel
set_option maxRecDepth 20000 in
theorem ggX5_comes_X1_findBest : GoodIn wsX5_comes wsX1_findBest := goodIn_r _ [7, 8, 9, 10, 11, 6, 12, 13, 14, 15, 16, 17, 18, 19, 20, 21, 22, 23, 24, 25, 26, 27, 28, 29, 30, 31, 32, 33, 34, 35, 36, 37, 38, 39, 40, 41, 42, 43, 44, 45, 46, 47, 48, 49, 50, 51, 52, 53, 54, 55, 56, 57, 58, 59, 60, 61, 62, 63, 64, 65, 66, 67, 68, 69, 70, 71, 72, 73, 74, 75, 76, 77, 78, 79, 80, 81, 82, 83, 84, 85, 86, 87, 88, 89, 90, 91, 92, 93, 94, 95, 96, 97, 98, 99, 100, 101, 102, 103, 104, 105, 106, 107, 108, 109, 110, 111, 112, 113, 114, 115, 116, 117, 118, 119, 120, 121, 132, 133, 134, 135, 136] (by decide +kernel) (by decide +kernel)
set_option maxRecDepth 20000 in
theorem gX5_comes_X1_findBest : GoodIn wsX5_comes (wsV RX5 102 RX1 yX1_findBest wsX1_findBest) := goodIn_app (goodIn_of _ (by decide +kernel)) ggX5_comes_X1_findBest
set_option maxRecDepth 20000 in
theorem ggX5_comes_X1_bestSum : GoodIn wsX5_comes wsX1_bestSum := goodIn_r _ [125, 9, 132, 133, 134, 135] (by decide +kernel) (by decide +kernel)
set_option maxRecDepth 20000 in
theorem gX5_comes_X1_bestSum : GoodIn wsX5_comes (wsV RX5 110 RX1 yX1_bestSum wsX1_bestSum) := goodIn_app (goodIn_of _ (by decide +kernel)) ggX5_comes_X1_bestSum
theorem dX5_comes_0 : decode cX5_comes 0 = .ok (.aload_n 0, 1) := by decide +kernel
theorem dX5_comes_1 : decode cX5_comes 1 = .ok (.getfield 31, 3) := by decide +kernel
theorem dX5_comes_4 : decode cX5_comes 4 = .ok (.aload_n 0, 1) := by decide +kernel
theorem dX5_comes_5 : decode cX5_comes 5 = .ok (.getfield 10, 3) := by decide +kernel
theorem dX5_comes_8 : decode cX5_comes 8 = .ok (.invokevirtual 102, 3) := by decide +kernel
theorem dX5_comes_11 : decode cX5_comes 11 = .ok (.istore_n 1, 1) := by decide +kernel
theorem dX5_comes_12 : decode cX5_comes 12 = .ok (.iload_n 1, 1) := by decide +kernel
theorem dX5_comes_13 : decode cX5_comes 13 = .ok (.ifCond .ge 7, 3) := by decide +kernel
theorem dX5_comes_16 : decode cX5_comes 16 = .ok (.iload_n 1, 1) := by decide +kernel
theorem dX5_comes_17 : decode cX5_comes 17 = .ok (.goto 10, 3) := by decide +kernel
theorem dX5_comes_20 : decode cX5_comes 20 = .ok (.aload_n 0, 1) := by decide +kernel
theorem dX5_comes_21 : decode cX5_comes 21 = .ok (.getfield 31, 3) := by decide +kernel
theorem dX5_comes_24 : decode cX5_comes 24 = .ok (.invokevirtual 110, 3) := by decide +kernel
theorem dX5_comes_27 : decode cX5_comes 27 = .ok (.ireturn, 1) := by decide +kernel
set_option maxRecDepth 20000 in
theorem ggX5_safeFor_X4_daysSafe : GoodIn wsX5_safeFor wsX4_daysSafe := goodIn_r _ [6, 7, 8, 9, 10, 11, 5, 12, 13, 14, 15, 16, 17, 18, 19, 20, 21, 22, 23, 24, 25, 26, 27, 28, 29, 30, 31, 32, 33, 34, 35, 36, 37, 38, 39, 40, 41, 42, 43, 44, 45, 46, 47, 48, 49, 50, 51, 52, 53, 54, 55, 56, 57, 58, 59, 60, 61, 62, 63, 64, 65, 66, 67, 68, 69, 70, 71, 72, 79, 80] (by decide +kernel) (by decide +kernel)
set_option maxRecDepth 20000 in
theorem gX5_safeFor_X4_daysSafe : GoodIn wsX5_safeFor (wsV RX5 114 RX4 yX4_daysSafe wsX4_daysSafe) := goodIn_app (goodIn_of _ (by decide +kernel)) ggX5_safeFor_X4_daysSafe
theorem dX5_safeFor_0 : decode cX5_safeFor 0 = .ok (.aload_n 0, 1) := by decide +kernel
theorem dX5_safeFor_1 : decode cX5_safeFor 1 = .ok (.getfield 24, 3) := by decide +kernel
theorem dX5_safeFor_4 : decode cX5_safeFor 4 = .ok (.invokevirtual 114, 3) := by decide +kernel
theorem dX5_safeFor_7 : decode cX5_safeFor 7 = .ok (.ireturn, 1) := by decide +kernel
set_option maxRecDepth 20000 in
theorem ggX5_mean_X4_meanAge : GoodIn wsX5_mean wsX4_meanAge := goodIn_r _ [6, 7, 8, 9, 10, 11, 5, 12, 13, 14, 15, 16, 17, 18, 19, 20, 21, 22, 23, 24, 25, 26, 27, 28, 29, 30, 31, 32, 33, 34, 35, 36, 37, 38, 45, 46] (by decide +kernel) (by decide +kernel)
set_option maxRecDepth 20000 in
theorem gX5_mean_X4_meanAge : GoodIn wsX5_mean (wsV RX5 117 RX4 yX4_meanAge wsX4_meanAge) := goodIn_app (goodIn_of _ (by decide +kernel)) ggX5_mean_X4_meanAge
theorem dX5_mean_0 : decode cX5_mean 0 = .ok (.aload_n 0, 1) := by decide +kernel
theorem dX5_mean_1 : decode cX5_mean 1 = .ok (.getfield 24, 3) := by decide +kernel
theorem dX5_mean_4 : decode cX5_mean 4 = .ok (.invokevirtual 117, 3) := by decide +kernel
theorem dX5_mean_7 : decode cX5_mean 7 = .ok (.ireturn, 1) := by decide +kernel
set_option maxRecDepth 20000 in
theorem ggX5_share_X4_shareComingBack : GoodIn wsX5_share wsX4_shareComingBack := goodIn_r _ [6, 7, 8, 9, 10, 11, 12, 13, 14, 15, 16, 17, 18, 19, 20, 21, 22, 23, 24, 25, 26, 27, 28, 29, 30, 31, 32, 33, 34, 35, 36, 37, 38, 39, 40, 41, 42, 43, 44, 45, 46, 47, 48, 49, 5, 50, 51, 58, 59] (by decide +kernel) (by decide +kernel)
set_option maxRecDepth 20000 in
theorem gX5_share_X4_shareComingBack : GoodIn wsX5_share (wsV RX5 120 RX4 yX4_shareComingBack wsX4_shareComingBack) := goodIn_app (goodIn_of _ (by decide +kernel)) ggX5_share_X4_shareComingBack
theorem dX5_share_0 : decode cX5_share 0 = .ok (.aload_n 0, 1) := by decide +kernel
theorem dX5_share_1 : decode cX5_share 1 = .ok (.getfield 24, 3) := by decide +kernel
theorem dX5_share_4 : decode cX5_share 4 = .ok (.invokevirtual 120, 3) := by decide +kernel
theorem dX5_share_7 : decode cX5_share 7 = .ok (.ireturn, 1) := by decide +kernel
set_option maxRecDepth 20000 in
theorem ggX5_count_X0_size : GoodIn wsX5_count wsX0_size := goodIn_r _ [8, 9, 109, 110, 111] (by decide +kernel) (by decide +kernel)
set_option maxRecDepth 20000 in
theorem gX5_count_X0_size : GoodIn wsX5_count (wsV RX5 123 RX0 yX0_size wsX0_size) := goodIn_app (goodIn_of _ (by decide +kernel)) ggX5_count_X0_size
set_option maxRecDepth 20000 in
theorem ggX5_count_X2_length : GoodIn wsX5_count wsX2_length := goodIn_r _ [14, 15, 112, 113, 114, 115, 116, 117, 118] (by decide +kernel) (by decide +kernel)
set_option maxRecDepth 20000 in
theorem gX5_count_X2_length : GoodIn wsX5_count (wsV RX5 126 RX2 yX2_length wsX2_length) := goodIn_app (goodIn_of _ (by decide +kernel)) ggX5_count_X2_length
set_option maxRecDepth 20000 in
theorem ggX5_count_X4_ofAll : GoodIn wsX5_count wsX4_ofAll := goodIn_r _ [20, 21, 22, 23, 24, 25, 26, 27, 28, 29, 30, 31, 19, 32, 33, 34, 35, 36, 37, 38, 39, 40, 41, 42, 43, 44, 45, 46, 47, 48, 49, 50, 51, 52, 53, 54, 55, 56, 57, 58, 59, 60, 61, 62, 63, 64, 65, 66, 67, 68, 69, 70, 71, 72, 73, 74, 75, 76, 77, 78, 79, 80, 81, 82, 83, 84, 85, 86, 87, 88, 89, 90, 91, 92, 93, 94, 95, 96, 97, 98, 99, 100, 101, 102, 119, 120] (by decide +kernel) (by decide +kernel)
set_option maxRecDepth 20000 in
theorem gX5_count_X4_ofAll : GoodIn wsX5_count (wsV RX5 129 RX4 yX4_ofAll wsX4_ofAll) := goodIn_app (goodIn_of _ (by decide +kernel)) ggX5_count_X4_ofAll
theorem dX5_count_0 : decode cX5_count 0 = .ok (.iload_n 1, 1) := by decide +kernel
theorem dX5_count_1 : decode cX5_count 1 = .ok (.lookupswitch 43 #[(14, 27), (15, 35)], 27) := by decide +kernel
theorem dX5_count_28 : decode cX5_count 28 = .ok (.aload_n 0, 1) := by decide +kernel
theorem dX5_count_29 : decode cX5_count 29 = .ok (.getfield 38, 3) := by decide +kernel
theorem dX5_count_32 : decode cX5_count 32 = .ok (.invokevirtual 123, 3) := by decide +kernel
theorem dX5_count_35 : decode cX5_count 35 = .ok (.ireturn, 1) := by decide +kernel
theorem dX5_count_36 : decode cX5_count 36 = .ok (.aload_n 0, 1) := by decide +kernel
theorem dX5_count_37 : decode cX5_count 37 = .ok (.getfield 45, 3) := by decide +kernel
theorem dX5_count_40 : decode cX5_count 40 = .ok (.invokevirtual 126, 3) := by decide +kernel
theorem dX5_count_43 : decode cX5_count 43 = .ok (.ireturn, 1) := by decide +kernel
theorem dX5_count_44 : decode cX5_count 44 = .ok (.aload_n 0, 1) := by decide +kernel
theorem dX5_count_45 : decode cX5_count 45 = .ok (.getfield 24, 3) := by decide +kernel
theorem dX5_count_48 : decode cX5_count 48 = .ok (.iload_n 1, 1) := by decide +kernel
theorem dX5_count_49 : decode cX5_count 49 = .ok (.invokevirtual 129, 3) := by decide +kernel
theorem dX5_count_52 : decode cX5_count 52 = .ok (.ireturn, 1) := by decide +kernel
set_option maxRecDepth 20000 in
theorem ggX5_undo_X0_bringBack : GoodIn wsX5_undo wsX0_bringBack := goodIn_r _ [7, 8, 9, 10, 11, 12, 6, 13, 14, 15, 16, 17, 18, 19, 20, 21, 22, 23, 24, 25, 32, 33, 34, 35] (by decide +kernel) (by decide +kernel)
set_option maxRecDepth 20000 in
theorem gX5_undo_X0_bringBack : GoodIn wsX5_undo (wsV RX5 132 RX0 yX0_bringBack wsX0_bringBack) := goodIn_app (goodIn_of _ (by decide +kernel)) ggX5_undo_X0_bringBack
theorem dX5_undo_0 : decode cX5_undo 0 = .ok (.aload_n 0, 1) := by decide +kernel
theorem dX5_undo_1 : decode cX5_undo 1 = .ok (.getfield 38, 3) := by decide +kernel
theorem dX5_undo_4 : decode cX5_undo 4 = .ok (.aload_n 0, 1) := by decide +kernel
theorem dX5_undo_5 : decode cX5_undo 5 = .ok (.getfield 10, 3) := by decide +kernel
theorem dX5_undo_8 : decode cX5_undo 8 = .ok (.invokevirtual 132, 3) := by decide +kernel
theorem dX5_undo_11 : decode cX5_undo 11 = .ok (.ireturn, 1) := by decide +kernel
set_option maxRecDepth 20000 in
theorem ggX5_type_X2_append : GoodIn wsX5_type wsX2_append := goodIn_r _ [6, 7, 8, 9, 10, 17, 18, 19, 20, 21, 22, 23] (by decide +kernel) (by decide +kernel)
set_option maxRecDepth 20000 in
theorem gX5_type_X2_append : GoodIn wsX5_type (wsV RX5 135 RX2 yX2_append wsX2_append) := goodIn_app (goodIn_of _ (by decide +kernel)) ggX5_type_X2_append
theorem dX5_type_0 : decode cX5_type 0 = .ok (.aload_n 0, 1) := by decide +kernel
theorem dX5_type_1 : decode cX5_type 1 = .ok (.getfield 45, 3) := by decide +kernel
theorem dX5_type_4 : decode cX5_type 4 = .ok (.iload_n 1, 1) := by decide +kernel
theorem dX5_type_5 : decode cX5_type 5 = .ok (.invokevirtual 135, 3) := by decide +kernel
theorem dX5_type_8 : decode cX5_type 8 = .ok (.ireturn, 1) := by decide +kernel
set_option maxRecDepth 20000 in
theorem ggX5_clearText_X2_empty : GoodIn wsX5_clearText wsX2_empty := goodIn_r _ [6, 7, 14, 15, 16, 17, 18, 19, 20] (by decide +kernel) (by decide +kernel)
set_option maxRecDepth 20000 in
theorem gX5_clearText_X2_empty : GoodIn wsX5_clearText (wsV RX5 138 RX2 yX2_empty wsX2_empty) := goodIn_app (goodIn_of _ (by decide +kernel)) ggX5_clearText_X2_empty
theorem dX5_clearText_0 : decode cX5_clearText 0 = .ok (.aload_n 0, 1) := by decide +kernel
theorem dX5_clearText_1 : decode cX5_clearText 1 = .ok (.getfield 45, 3) := by decide +kernel
theorem dX5_clearText_4 : decode cX5_clearText 4 = .ok (.invokevirtual 138, 3) := by decide +kernel
theorem dX5_clearText_7 : decode cX5_clearText 7 = .ok (.ireturn, 1) := by decide +kernel
set_option maxRecDepth 20000 in
theorem ggX5_fault_X3_copyFrom : GoodIn wsX5_fault wsX3_copyFrom := goodIn_r _ [10, 11, 12, 13, 14, 15, 169] (by decide +kernel) (by decide +kernel)
set_option maxRecDepth 20000 in
theorem gX5_fault_X3_copyFrom : GoodIn wsX5_fault (wsV RX5 141 RX3 yX3_copyFrom wsX3_copyFrom) := goodIn_app (goodIn_of _ (by decide +kernel)) ggX5_fault_X3_copyFrom
set_option maxRecDepth 20000 in
theorem ggX5_fault_X2_run : GoodIn wsX5_fault wsX2_run := goodIn_r _ [20, 21, 22, 23, 24, 25, 26, 19, 27, 28, 29, 30, 31, 32, 33, 34, 35, 36, 37, 38, 39, 40, 41, 42, 43, 44, 45, 46, 47, 48, 49, 50, 51, 52, 53, 9, 54, 55, 56, 57, 58, 59, 60, 61, 62, 63, 64, 11, 65, 66, 67, 68, 69, 70, 71, 72, 73, 74, 75, 76, 77, 78, 79, 80, 81, 82, 83, 84, 85, 86, 87, 88, 89, 90, 91, 92, 93, 94, 95, 96, 97, 98, 99, 100, 101, 102, 103, 104, 105, 106, 107, 108, 109, 110, 111, 112, 113, 114, 115, 116, 117, 118, 119, 120, 121, 122, 123, 124, 125, 126, 127, 128, 129, 130, 131, 132, 133, 134, 135, 136, 137, 138, 139, 140, 141, 142, 143, 144, 145, 146, 147, 148, 149, 150, 151, 152, 153, 154, 155, 156, 157, 158, 170, 171, 172, 173, 174, 175, 176, 169] (by decide +kernel) (by decide +kernel)
set_option maxRecDepth 20000 in
theorem gX5_fault_X2_run : GoodIn wsX5_fault (wsV RX5 144 RX2 yX2_run wsX2_run) := goodIn_app (goodIn_of _ (by decide +kernel)) ggX5_fault_X2_run
set_option maxRecDepth 20000 in
theorem ggX5_fault_X2_ofFault : GoodIn wsX5_fault wsX2_ofFault := goodIn_r _ [162, 48, 49, 50, 170, 171, 172, 173, 174, 175, 176] (by decide +kernel) (by decide +kernel)
set_option maxRecDepth 20000 in
theorem gX5_fault_X2_ofFault : GoodIn wsX5_fault (wsV RX5 147 RX2 yX2_ofFault wsX2_ofFault) := goodIn_app (goodIn_of _ (by decide +kernel)) ggX5_fault_X2_ofFault
theorem dX5_fault_0 : decode cX5_fault 0 = .ok (.iload_n 1, 1) := by decide +kernel
theorem dX5_fault_1 : decode cX5_fault 1 = .ok (.ifCond .lt 8, 3) := by decide +kernel
theorem dX5_fault_4 : decode cX5_fault 4 = .ok (.iload_n 1, 1) := by decide +kernel
theorem dX5_fault_5 : decode cX5_fault 5 = .ok (.iconst 2, 1) := by decide +kernel
theorem dX5_fault_6 : decode cX5_fault 6 = .ok (.if_icmp .le 6, 3) := by decide +kernel
theorem dX5_fault_9 : decode cX5_fault 9 = .ok (.ldc 98, 2) := by decide +kernel
theorem dX5_fault_11 : decode cX5_fault 11 = .ok (.ireturn, 1) := by decide +kernel
theorem dX5_fault_12 : decode cX5_fault 12 = .ok (.aload_n 0, 1) := by decide +kernel
theorem dX5_fault_13 : decode cX5_fault 13 = .ok (.getfield 16, 3) := by decide +kernel
theorem dX5_fault_16 : decode cX5_fault 16 = .ok (.aload_n 0, 1) := by decide +kernel
theorem dX5_fault_17 : decode cX5_fault 17 = .ok (.getfield 10, 3) := by decide +kernel
theorem dX5_fault_20 : decode cX5_fault 20 = .ok (.invokevirtual 141, 3) := by decide +kernel
theorem dX5_fault_23 : decode cX5_fault 23 = .ok (.aload_n 0, 1) := by decide +kernel
theorem dX5_fault_24 : decode cX5_fault 24 = .ok (.getfield 45, 3) := by decide +kernel
theorem dX5_fault_27 : decode cX5_fault 27 = .ok (.aload_n 0, 1) := by decide +kernel
theorem dX5_fault_28 : decode cX5_fault 28 = .ok (.getfield 16, 3) := by decide +kernel
theorem dX5_fault_31 : decode cX5_fault 31 = .ok (.invokevirtual 144, 3) := by decide +kernel
theorem dX5_fault_34 : decode cX5_fault 34 = .ok (.ifCond .ge 14, 3) := by decide +kernel
theorem dX5_fault_37 : decode cX5_fault 37 = .ok (.aload_n 0, 1) := by decide +kernel
theorem dX5_fault_38 : decode cX5_fault 38 = .ok (.getfield 45, 3) := by decide +kernel
theorem dX5_fault_41 : decode cX5_fault 41 = .ok (.iload_n 1, 1) := by decide +kernel
theorem dX5_fault_42 : decode cX5_fault 42 = .ok (.invokevirtual 147, 3) := by decide +kernel
theorem dX5_fault_45 : decode cX5_fault 45 = .ok (.goto 5, 3) := by decide +kernel
theorem dX5_fault_48 : decode cX5_fault 48 = .ok (.ldc 109, 2) := by decide +kernel
theorem dX5_fault_50 : decode cX5_fault 50 = .ok (.ireturn, 1) := by decide +kernel
set_option maxRecDepth 20000 in
theorem ggX5_play_X3_copyFrom : GoodIn wsX5_play wsX3_copyFrom := goodIn_r _ [10, 11, 12, 13, 14, 15, 182] (by decide +kernel) (by decide +kernel)
set_option maxRecDepth 20000 in
theorem gX5_play_X3_copyFrom : GoodIn wsX5_play (wsV RX5 141 RX3 yX3_copyFrom wsX3_copyFrom) := goodIn_app (goodIn_of _ (by decide +kernel)) ggX5_play_X3_copyFrom
set_option maxRecDepth 20000 in
theorem ggX5_play_X2_run : GoodIn wsX5_play wsX2_run := goodIn_r _ [20, 21, 22, 23, 24, 25, 26, 19, 27, 28, 29, 30, 31, 32, 33, 34, 35, 36, 37, 38, 39, 40, 41, 42, 43, 44, 45, 46, 47, 48, 49, 50, 51, 52, 53, 9, 54, 55, 56, 57, 58, 59, 60, 61, 62, 63, 64, 11, 65, 66, 67, 68, 69, 70, 71, 72, 73, 74, 75, 76, 77, 78, 79, 80, 81, 82, 83, 84, 85, 86, 87, 88, 89, 90, 91, 92, 93, 94, 95, 96, 97, 98, 99, 100, 101, 102, 103, 104, 105, 106, 107, 108, 109, 110, 111, 112, 113, 114, 115, 116, 117, 118, 119, 120, 121, 122, 123, 124, 125, 126, 127, 128, 129, 130, 131, 132, 133, 134, 135, 136, 137, 138, 139, 140, 141, 142, 143, 144, 145, 146, 147, 148, 149, 150, 151, 152, 153, 154, 155, 156, 157, 158, 183, 184, 185, 186, 187, 188, 189, 182] (by decide +kernel) (by decide +kernel)
set_option maxRecDepth 20000 in
theorem gX5_play_X2_run : GoodIn wsX5_play (wsV RX5 144 RX2 yX2_run wsX2_run) := goodIn_app (goodIn_of _ (by decide +kernel)) ggX5_play_X2_run
set_option maxRecDepth 20000 in
theorem ggX5_play_X0_note : GoodIn wsX5_play wsX0_note := goodIn_r _ [163, 164, 165, 166, 167, 162, 168, 169, 170, 171, 7, 8, 9, 10, 11, 12, 13, 14, 15, 190, 191, 192, 182] (by decide +kernel) (by decide +kernel)
set_option maxRecDepth 20000 in
theorem gX5_play_X0_note : GoodIn wsX5_play (wsV RX5 53 RX0 yX0_note wsX0_note) := goodIn_app (goodIn_of _ (by decide +kernel)) ggX5_play_X0_note
set_option maxRecDepth 20000 in
theorem ggX5_play_X0_keepUnlessError : GoodIn wsX5_play wsX0_keepUnlessError := goodIn_r _ [175, 164, 169, 190, 191, 192] (by decide +kernel) (by decide +kernel)
set_option maxRecDepth 20000 in
theorem gX5_play_X0_keepUnlessError : GoodIn wsX5_play (wsV RX5 56 RX0 yX0_keepUnlessError wsX0_keepUnlessError) := goodIn_app (goodIn_of _ (by decide +kernel)) ggX5_play_X0_keepUnlessError
theorem dX5_play_0 : decode cX5_play 0 = .ok (.aload_n 0, 1) := by decide +kernel
theorem dX5_play_1 : decode cX5_play 1 = .ok (.getfield 16, 3) := by decide +kernel
theorem dX5_play_4 : decode cX5_play 4 = .ok (.aload_n 0, 1) := by decide +kernel
theorem dX5_play_5 : decode cX5_play 5 = .ok (.getfield 10, 3) := by decide +kernel
theorem dX5_play_8 : decode cX5_play 8 = .ok (.invokevirtual 141, 3) := by decide +kernel
theorem dX5_play_11 : decode cX5_play 11 = .ok (.aload_n 0, 1) := by decide +kernel
theorem dX5_play_12 : decode cX5_play 12 = .ok (.getfield 45, 3) := by decide +kernel
theorem dX5_play_15 : decode cX5_play 15 = .ok (.aload_n 0, 1) := by decide +kernel
theorem dX5_play_16 : decode cX5_play 16 = .ok (.getfield 16, 3) := by decide +kernel
theorem dX5_play_19 : decode cX5_play 19 = .ok (.invokevirtual 144, 3) := by decide +kernel
theorem dX5_play_22 : decode cX5_play 22 = .ok (.istore_n 1, 1) := by decide +kernel
theorem dX5_play_23 : decode cX5_play 23 = .ok (.iload_n 1, 1) := by decide +kernel
theorem dX5_play_24 : decode cX5_play 24 = .ok (.ifCond .ge 6, 3) := by decide +kernel
theorem dX5_play_27 : decode cX5_play 27 = .ok (.ldc 150, 2) := by decide +kernel
theorem dX5_play_29 : decode cX5_play 29 = .ok (.ireturn, 1) := by decide +kernel
theorem dX5_play_30 : decode cX5_play 30 = .ok (.aload_n 0, 1) := by decide +kernel
theorem dX5_play_31 : decode cX5_play 31 = .ok (.getfield 38, 3) := by decide +kernel
theorem dX5_play_34 : decode cX5_play 34 = .ok (.aload_n 0, 1) := by decide +kernel
theorem dX5_play_35 : decode cX5_play 35 = .ok (.getfield 10, 3) := by decide +kernel
theorem dX5_play_38 : decode cX5_play 38 = .ok (.invokevirtual 53, 3) := by decide +kernel
theorem dX5_play_41 : decode cX5_play 41 = .ok (.aload_n 0, 1) := by decide +kernel
theorem dX5_play_42 : decode cX5_play 42 = .ok (.getfield 10, 3) := by decide +kernel
theorem dX5_play_45 : decode cX5_play 45 = .ok (.aload_n 0, 1) := by decide +kernel
theorem dX5_play_46 : decode cX5_play 46 = .ok (.getfield 16, 3) := by decide +kernel
theorem dX5_play_49 : decode cX5_play 49 = .ok (.invokevirtual 141, 3) := by decide +kernel
theorem dX5_play_52 : decode cX5_play 52 = .ok (.aload_n 0, 1) := by decide +kernel
theorem dX5_play_53 : decode cX5_play 53 = .ok (.getfield 38, 3) := by decide +kernel
theorem dX5_play_56 : decode cX5_play 56 = .ok (.iload_n 1, 1) := by decide +kernel
theorem dX5_play_57 : decode cX5_play 57 = .ok (.invokevirtual 56, 3) := by decide +kernel
theorem dX5_play_60 : decode cX5_play 60 = .ok (.ireturn, 1) := by decide +kernel
theorem dJ9_abs_0f7a4_0 : decode cJ9_abs_0f7a4 0 = .ok (.iload_n 0, 1) := by decide +kernel
theorem dJ9_abs_0f7a4_1 : decode cJ9_abs_0f7a4 1 = .ok (.ifCond .ge 8, 3) := by decide +kernel
theorem dJ9_abs_0f7a4_4 : decode cJ9_abs_0f7a4 4 = .ok (.iload_n 0, 1) := by decide +kernel
theorem dJ9_abs_0f7a4_5 : decode cJ9_abs_0f7a4 5 = .ok (.ineg, 1) := by decide +kernel
theorem dJ9_abs_0f7a4_6 : decode cJ9_abs_0f7a4 6 = .ok (.goto 4, 3) := by decide +kernel
theorem dJ9_abs_0f7a4_9 : decode cJ9_abs_0f7a4 9 = .ok (.iload_n 0, 1) := by decide +kernel
theorem dJ9_abs_0f7a4_10 : decode cJ9_abs_0f7a4 10 = .ok (.ireturn, 1) := by decide +kernel
theorem dJ9_max_7cf53_0 : decode cJ9_max_7cf53 0 = .ok (.iload_n 0, 1) := by decide +kernel
theorem dJ9_max_7cf53_1 : decode cJ9_max_7cf53 1 = .ok (.iload_n 1, 1) := by decide +kernel
theorem dJ9_max_7cf53_2 : decode cJ9_max_7cf53 2 = .ok (.if_icmp .lt 7, 3) := by decide +kernel
theorem dJ9_max_7cf53_5 : decode cJ9_max_7cf53 5 = .ok (.iload_n 0, 1) := by decide +kernel
theorem dJ9_max_7cf53_6 : decode cJ9_max_7cf53 6 = .ok (.goto 4, 3) := by decide +kernel
theorem dJ9_max_7cf53_9 : decode cJ9_max_7cf53 9 = .ok (.iload_n 1, 1) := by decide +kernel
theorem dJ9_max_7cf53_10 : decode cJ9_max_7cf53 10 = .ok (.ireturn, 1) := by decide +kernel
theorem dJ9_min_7cf53_0 : decode cJ9_min_7cf53 0 = .ok (.iload_n 0, 1) := by decide +kernel
theorem dJ9_min_7cf53_1 : decode cJ9_min_7cf53 1 = .ok (.iload_n 1, 1) := by decide +kernel
theorem dJ9_min_7cf53_2 : decode cJ9_min_7cf53 2 = .ok (.if_icmp .gt 7, 3) := by decide +kernel
theorem dJ9_min_7cf53_5 : decode cJ9_min_7cf53 5 = .ok (.iload_n 0, 1) := by decide +kernel
theorem dJ9_min_7cf53_6 : decode cJ9_min_7cf53 6 = .ok (.goto 4, 3) := by decide +kernel
theorem dJ9_min_7cf53_9 : decode cJ9_min_7cf53 9 = .ok (.iload_n 1, 1) := by decide +kernel
theorem dJ9_min_7cf53_10 : decode cJ9_min_7cf53 10 = .ok (.ireturn, 1) := by decide +kernel
theorem dL_lot_0 : decode cL_lot 0 = .ok (.iload_n 1, 1) := by decide +kernel
theorem dL_lot_1 : decode cL_lot 1 = .ok (.aload_n 0, 1) := by decide +kernel
theorem dL_lot_2 : decode cL_lot 2 = .ok (.arraylength, 1) := by decide +kernel
theorem dL_lot_3 : decode cL_lot 3 = .ok (.if_icmp .ge 9, 3) := by decide +kernel
theorem dL_lot_6 : decode cL_lot 6 = .ok (.aload_n 0, 1) := by decide +kernel
theorem dL_lot_7 : decode cL_lot 7 = .ok (.iload_n 1, 1) := by decide +kernel
theorem dL_lot_8 : decode cL_lot 8 = .ok (.iaload, 1) := by decide +kernel
theorem dL_lot_9 : decode cL_lot 9 = .ok (.goto 15, 3) := by decide +kernel
theorem dL_lot_12 : decode cL_lot 12 = .ok (.ldc 7, 2) := by decide +kernel
theorem dL_lot_14 : decode cL_lot 14 = .ok (.iload_n 1, 1) := by decide +kernel
theorem dL_lot_15 : decode cL_lot 15 = .ok (.sipush 4159, 3) := by decide +kernel
theorem dL_lot_18 : decode cL_lot 18 = .ok (.iadd, 1) := by decide +kernel
theorem dL_lot_19 : decode cL_lot 19 = .ok (.imul, 1) := by decide +kernel
theorem dL_lot_20 : decode cL_lot 20 = .ok (.sipush 3929, 3) := by decide +kernel
theorem dL_lot_23 : decode cL_lot 23 = .ok (.iadd, 1) := by decide +kernel
theorem dL_lot_24 : decode cL_lot 24 = .ok (.ireturn, 1) := by decide +kernel
theorem dL_low_0 : decode cL_low 0 = .ok (.iload_n 0, 1) := by decide +kernel
theorem dL_low_1 : decode cL_low 1 = .ok (.ldc 8, 2) := by decide +kernel
theorem dL_low_3 : decode cL_low 3 = .ok (.iand, 1) := by decide +kernel
theorem dL_low_4 : decode cL_low 4 = .ok (.iload_n 1, 1) := by decide +kernel
theorem dL_low_5 : decode cL_low 5 = .ok (.irem, 1) := by decide +kernel
theorem dL_low_6 : decode cL_low 6 = .ok (.ireturn, 1) := by decide +kernel
set_option maxRecDepth 20000 in
theorem ggL_look_X5_count : GoodIn wsL_look wsX5_count := goodIn_r _ [7, 8, 9, 10, 11, 12, 13, 14, 15, 16, 17, 18, 19, 20, 21, 22, 23, 24, 25, 26, 27, 28, 29, 30, 31, 32, 33, 34, 35, 36, 37, 38, 39, 40, 41, 42, 43, 44, 45, 46, 47, 48, 49, 50, 51, 52, 53, 54, 55, 56, 57, 58, 59, 60, 61, 62, 63, 64, 65, 66, 67, 68, 69, 70, 71, 72, 73, 74, 75, 76, 77, 78, 79, 80, 81, 82, 83, 84, 85, 86, 87, 88, 89, 90, 91, 92, 93, 94, 95, 96, 97, 98, 99, 100, 101, 102, 103, 104, 105, 106, 107, 108, 109, 163, 164, 165, 166, 167, 168, 169, 170, 171, 172, 173, 174, 175, 176, 177, 178, 179, 180] (by decide +kernel) (by decide +kernel)
