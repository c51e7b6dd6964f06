theorem dX6_ages_37 : decode cX6_ages 37 = .ok (.goto 9, 3) := by decide +kernel
theorem dX6_ages_40 : decode cX6_ages 40 = .ok (.aload_n 0, 1) := by decide +kernel
theorem dX6_ages_41 : decode cX6_ages 41 = .ok (.iload_n 2, 1) := by decide +kernel
theorem dX6_ages_42 : decode cX6_ages 42 = .ok (.iload_n 3, 1) := by decide +kernel
theorem dX6_ages_43 : decode cX6_ages 43 = .ok (.invokevirtual 65, 3) := by decide +kernel
theorem dX6_ages_46 : decode cX6_ages 46 = .ok (.iadd, 1) := by decide +kernel
theorem dX6_ages_47 : decode cX6_ages 47 = .ok (.istore_n 1, 1) := by decide +kernel
theorem dX6_ages_48 : decode cX6_ages 48 = .ok (.iinc 3 1, 3) := by decide +kernel
theorem dX6_ages_51 : decode cX6_ages 51 = .ok (.goto (-35), 3) := by decide +kernel
theorem dX6_ages_54 : decode cX6_ages 54 = .ok (.iinc 2 1, 3) := by decide +kernel
theorem dX6_ages_57 : decode cX6_ages 57 = .ok (.goto (-53), 3) := by decide +kernel
theorem dX6_ages_60 : decode cX6_ages 60 = .ok (.iload_n 1, 1) := by decide +kernel
theorem dX6_ages_61 : decode cX6_ages 61 = .ok (.ireturn, 1) := by decide +kernel
set_option maxRecDepth 20000 in
theorem ggX6_mean_X6_echoes : GoodIn wsX6_mean wsX6_echoes := goodIn_r _ [6, 7, 8, 9, 10, 5, 11, 44, 45, 46, 47, 48, 49, 50, 51, 52, 53, 54, 55, 56, 57, 58, 59, 60, 61] (by decide +kernel) (by decide +kernel)
set_option maxRecDepth 20000 in
theorem gX6_mean_X6_echoes : GoodIn wsX6_mean (wsV RX6 191 RX6 yX6_echoes wsX6_echoes) := goodIn_app (goodIn_of _ (by decide +kernel)) ggX6_mean_X6_echoes
set_option maxRecDepth 20000 in
theorem ggX6_mean_X6_faded : GoodIn wsX6_mean wsX6_faded := goodIn_r _ [15, 7, 8, 9, 10, 5, 11, 16, 17, 18, 19, 20, 21, 22, 23, 24, 25, 26, 27, 44, 45, 46, 47, 48, 49, 50, 51, 52, 53, 54, 55, 56, 57, 58, 59, 60, 61] (by decide +kernel) (by decide +kernel)
set_option maxRecDepth 20000 in
theorem gX6_mean_X6_faded : GoodIn wsX6_mean (wsV RX6 194 RX6 yX6_faded wsX6_faded) := goodIn_app (goodIn_of _ (by decide +kernel)) ggX6_mean_X6_faded
set_option maxRecDepth 20000 in
theorem ggX6_mean_X6_ages : GoodIn wsX6_mean wsX6_ages := goodIn_r _ [31, 7, 8, 9, 10, 5, 11, 16, 17, 18, 19, 20, 21, 22, 23, 24, 25, 26, 27, 44, 45, 46, 47, 48, 49, 50, 51, 52, 53, 54, 55, 56, 57, 58, 59, 60, 61] (by decide +kernel) (by decide +kernel)
set_option maxRecDepth 20000 in
theorem gX6_mean_X6_ages : GoodIn wsX6_mean (wsV RX6 197 RX6 yX6_ages wsX6_ages) := goodIn_app (goodIn_of _ (by decide +kernel)) ggX6_mean_X6_ages
set_option maxRecDepth 20000 in
theorem ggX6_mean_Jxf58ca_floatToIntBits_5c35a : GoodIn wsX6_mean wsJxf58ca_floatToIntBits_5c35a := goodIn_r _ [35, 36, 37, 38, 39, 40, 41, 42, 34, 43] (by decide +kernel) (by decide +kernel)
set_option maxRecDepth 20000 in
theorem gX6_mean_Jxf58ca_floatToIntBits_5c35a : GoodIn wsX6_mean (va_wsS RX6 200 yJxf58ca_floatToIntBits_5c35a wsJxf58ca_floatToIntBits_5c35a) := goodIn_app (goodIn_of _ (by decide +kernel)) ggX6_mean_Jxf58ca_floatToIntBits_5c35a
theorem dX6_mean_0 : decode cX6_mean 0 = .ok (.aload_n 0, 1) := by decide +kernel
theorem dX6_mean_1 : decode cX6_mean 1 = .ok (.invokevirtual 191, 3) := by decide +kernel
theorem dX6_mean_4 : decode cX6_mean 4 = .ok (.aload_n 0, 1) := by decide +kernel
theorem dX6_mean_5 : decode cX6_mean 5 = .ok (.invokevirtual 194, 3) := by decide +kernel
theorem dX6_mean_8 : decode cX6_mean 8 = .ok (.isub, 1) := by decide +kernel
theorem dX6_mean_9 : decode cX6_mean 9 = .ok (.istore_n 1, 1) := by decide +kernel
theorem dX6_mean_10 : decode cX6_mean 10 = .ok (.iload_n 1, 1) := by decide +kernel
theorem dX6_mean_11 : decode cX6_mean 11 = .ok (.ifCond .ne 8, 3) := by decide +kernel
theorem dX6_mean_14 : decode cX6_mean 14 = .ok (.ldc 51, 2) := by decide +kernel
theorem dX6_mean_16 : decode cX6_mean 16 = .ok (.goto 14, 3) := by decide +kernel
theorem dX6_mean_19 : decode cX6_mean 19 = .ok (.aload_n 0, 1) := by decide +kernel
theorem dX6_mean_20 : decode cX6_mean 20 = .ok (.invokevirtual 197, 3) := by decide +kernel
theorem dX6_mean_23 : decode cX6_mean 23 = .ok (.i2f, 1) := by decide +kernel
theorem dX6_mean_24 : decode cX6_mean 24 = .ok (.iload_n 1, 1) := by decide +kernel
theorem dX6_mean_25 : decode cX6_mean 25 = .ok (.i2f, 1) := by decide +kernel
theorem dX6_mean_26 : decode cX6_mean 26 = .ok (.fdiv, 1) := by decide +kernel
theorem dX6_mean_27 : decode cX6_mean 27 = .ok (.invokestatic 200, 3) := by decide +kernel
theorem dX6_mean_30 : decode cX6_mean 30 = .ok (.ireturn, 1) := by decide +kernel
set_option maxRecDepth 20000 in
theorem ggX6_share_X6_lives : GoodIn wsX6_share wsX6_lives := goodIn_r _ [7, 8, 9, 10, 6, 11, 1, 68, 69, 70, 71, 72, 73, 74, 75, 76, 77, 78, 79, 80, 81, 82, 83, 84, 85] (by decide +kernel) (by decide +kernel)
set_option maxRecDepth 20000 in
theorem gX6_share_X6_lives : GoodIn wsX6_share (wsV RX6 75 RX6 yX6_lives wsX6_lives) := goodIn_app (goodIn_of _ (by decide +kernel)) ggX6_share_X6_lives
set_option maxRecDepth 20000 in
theorem ggX6_share_X6_back : GoodIn wsX6_share wsX6_back := goodIn_r _ [15, 3, 4, 5, 6, 7, 8, 9, 10, 11, 1, 16, 17, 18, 19, 20, 21, 22, 23, 2, 24, 25, 26, 27, 28, 29, 30, 31, 32, 33, 34, 35, 36, 37, 38, 39, 40, 41, 42, 43, 44, 45, 46, 47, 48, 49, 50, 51, 52, 53, 54, 55, 68, 69, 70, 71, 72, 73, 74, 75, 76, 77, 78, 79, 80, 81, 82, 83, 84, 85] (by decide +kernel) (by decide +kernel)
set_option maxRecDepth 20000 in
theorem gX6_share_X6_back : GoodIn wsX6_share (wsV RX6 105 RX6 yX6_back wsX6_back) := goodIn_app (goodIn_of _ (by decide +kernel)) ggX6_share_X6_back
set_option maxRecDepth 20000 in
theorem ggX6_share_Jxf58ca_floatToIntBits_5c35a : GoodIn wsX6_share wsJxf58ca_floatToIntBits_5c35a := goodIn_r _ [59, 60, 61, 62, 63, 64, 65, 66, 58, 67] (by decide +kernel) (by decide +kernel)
set_option maxRecDepth 20000 in
theorem gX6_share_Jxf58ca_floatToIntBits_5c35a : GoodIn wsX6_share (va_wsS RX6 200 yJxf58ca_floatToIntBits_5c35a wsJxf58ca_floatToIntBits_5c35a) := goodIn_app (goodIn_of _ (by decide +kernel)) ggX6_share_Jxf58ca_floatToIntBits_5c35a
theorem dX6_share_0 : decode cX6_share 0 = .ok (.iconst 0, 1) := by decide +kernel
theorem dX6_share_1 : decode cX6_share 1 = .ok (.istore_n 1, 1) := by decide +kernel
theorem dX6_share_2 : decode cX6_share 2 = .ok (.iconst 0, 1) := by decide +kernel
theorem dX6_share_3 : decode cX6_share 3 = .ok (.istore_n 2, 1) := by decide +kernel
theorem dX6_share_4 : decode cX6_share 4 = .ok (.iconst 0, 1) := by decide +kernel
theorem dX6_share_5 : decode cX6_share 5 = .ok (.istore_n 3, 1) := by decide +kernel
theorem dX6_share_6 : decode cX6_share 6 = .ok (.iload_n 3, 1) := by decide +kernel
theorem dX6_share_7 : decode cX6_share 7 = .ok (.aload_n 0, 1) := by decide +kernel
theorem dX6_share_8 : decode cX6_share 8 = .ok (.getfield 7, 3) := by decide +kernel
theorem dX6_share_11 : decode cX6_share 11 = .ok (.iconst 0, 1) := by decide +kernel
theorem dX6_share_12 : decode cX6_share 12 = .ok (.iaload, 1) := by decide +kernel
theorem dX6_share_13 : decode cX6_share 13 = .ok (.if_icmp .ge 46, 3) := by decide +kernel
theorem dX6_share_16 : decode cX6_share 16 = .ok (.iload_n 1, 1) := by decide +kernel
theorem dX6_share_17 : decode cX6_share 17 = .ok (.aload_n 0, 1) := by decide +kernel
theorem dX6_share_18 : decode cX6_share 18 = .ok (.iload_n 3, 1) := by decide +kernel
theorem dX6_share_19 : decode cX6_share 19 = .ok (.invokevirtual 75, 3) := by decide +kernel
theorem dX6_share_22 : decode cX6_share 22 = .ok (.ifCond .eq 11, 3) := by decide +kernel
theorem dX6_share_25 : decode cX6_share 25 = .ok (.aload_n 0, 1) := by decide +kernel
theorem dX6_share_26 : decode cX6_share 26 = .ok (.iload_n 3, 1) := by decide +kernel
theorem dX6_share_27 : decode cX6_share 27 = .ok (.invokevirtual 105, 3) := by decide +kernel
theorem dX6_share_30 : decode cX6_share 30 = .ok (.goto 4, 3) := by decide +kernel
theorem dX6_share_33 : decode cX6_share 33 = .ok (.iconst 0, 1) := by decide +kernel
theorem dX6_share_34 : decode cX6_share 34 = .ok (.iadd, 1) := by decide +kernel
theorem dX6_share_35 : decode cX6_share 35 = .ok (.istore_n 1, 1) := by decide +kernel
theorem dX6_share_36 : decode cX6_share 36 = .ok (.iload_n 2, 1) := by decide +kernel
theorem dX6_share_37 : decode cX6_share 37 = .ok (.aload_n 0, 1) := by decide +kernel
theorem dX6_share_38 : decode cX6_share 38 = .ok (.iload_n 3, 1) := by decide +kernel
theorem dX6_share_39 : decode cX6_share 39 = .ok (.invokevirtual 75, 3) := by decide +kernel
theorem dX6_share_42 : decode cX6_share 42 = .ok (.ifCond .eq 8, 3) := by decide +kernel
theorem dX6_share_45 : decode cX6_share 45 = .ok (.bipush 8, 2) := by decide +kernel
theorem dX6_share_47 : decode cX6_share 47 = .ok (.goto 4, 3) := by decide +kernel
theorem dX6_share_50 : decode cX6_share 50 = .ok (.iconst 0, 1) := by decide +kernel
theorem dX6_share_51 : decode cX6_share 51 = .ok (.iadd, 1) := by decide +kernel
theorem dX6_share_52 : decode cX6_share 52 = .ok (.istore_n 2, 1) := by decide +kernel
theorem dX6_share_53 : decode cX6_share 53 = .ok (.iinc 3 1, 3) := by decide +kernel
theorem dX6_share_56 : decode cX6_share 56 = .ok (.goto (-50), 3) := by decide +kernel
theorem dX6_share_59 : decode cX6_share 59 = .ok (.iload_n 2, 1) := by decide +kernel
theorem dX6_share_60 : decode cX6_share 60 = .ok (.ifCond .ne 8, 3) := by decide +kernel
theorem dX6_share_63 : decode cX6_share 63 = .ok (.ldc 51, 2) := by decide +kernel
theorem dX6_share_65 : decode cX6_share 65 = .ok (.goto 11, 3) := by decide +kernel
theorem dX6_share_68 : decode cX6_share 68 = .ok (.iload_n 1, 1) := by decide +kernel
theorem dX6_share_69 : decode cX6_share 69 = .ok (.i2f, 1) := by decide +kernel
theorem dX6_share_70 : decode cX6_share 70 = .ok (.iload_n 2, 1) := by decide +kernel
theorem dX6_share_71 : decode cX6_share 71 = .ok (.i2f, 1) := by decide +kernel
theorem dX6_share_72 : decode cX6_share 72 = .ok (.fdiv, 1) := by decide +kernel
theorem dX6_share_73 : decode cX6_share 73 = .ok (.invokestatic 200, 3) := by decide +kernel
theorem dX6_share_76 : decode cX6_share 76 = .ok (.ireturn, 1) := by decide +kernel
set_option maxRecDepth 20000 in
theorem ggX6_setOf_X6_isSafe : GoodIn wsX6_setOf wsX6_isSafe := goodIn_r _ [6, 7, 8, 9, 5, 10, 11, 12, 13, 14, 1, 15, 16, 17, 18, 19, 20, 21, 22, 23, 24, 25, 26, 27, 28, 29, 30, 31, 32, 33, 34, 35, 36, 37, 38, 39, 40, 41, 42, 43, 44, 45, 46, 47, 48, 49, 50, 51, 52, 53, 54, 55, 56, 57, 58, 59, 60, 61, 62, 63, 64, 65, 66, 67, 68, 69, 70, 71, 72, 73, 74, 75, 76, 77, 78, 79, 80, 81] (by decide +kernel) (by decide +kernel)
set_option maxRecDepth 20000 in
theorem gX6_setOf_X6_isSafe : GoodIn wsX6_setOf (wsV RX6 188 RX6 yX6_isSafe wsX6_isSafe) := goodIn_app (goodIn_of _ (by decide +kernel)) ggX6_setOf_X6_isSafe
set_option maxRecDepth 20000 in
theorem ggX6_setOf_X6_lives : GoodIn wsX6_setOf wsX6_lives := goodIn_r _ [10, 11, 12, 13, 5, 14, 1, 64, 65, 66, 67, 68, 69, 70, 71, 72, 73, 74, 75, 76, 77, 78, 79, 80, 81] (by decide +kernel) (by decide +kernel)
set_option maxRecDepth 20000 in
theorem gX6_setOf_X6_lives : GoodIn wsX6_setOf (wsV RX6 75 RX6 yX6_lives wsX6_lives) := goodIn_app (goodIn_of _ (by decide +kernel)) ggX6_setOf_X6_lives
theorem dX6_setOf_0 : decode cX6_setOf 0 = .ok (.iconst 0, 1) := by decide +kernel
theorem dX6_setOf_1 : decode cX6_setOf 1 = .ok (.istore_n 2, 1) := by decide +kernel
theorem dX6_setOf_2 : decode cX6_setOf 2 = .ok (.iconst 0, 1) := by decide +kernel
theorem dX6_setOf_3 : decode cX6_setOf 3 = .ok (.istore_n 3, 1) := by decide +kernel
theorem dX6_setOf_4 : decode cX6_setOf 4 = .ok (.iload_n 3, 1) := by decide +kernel
theorem dX6_setOf_5 : decode cX6_setOf 5 = .ok (.aload_n 0, 1) := by decide +kernel
theorem dX6_setOf_6 : decode cX6_setOf 6 = .ok (.getfield 7, 3) := by decide +kernel
theorem dX6_setOf_9 : decode cX6_setOf 9 = .ok (.iconst 0, 1) := by decide +kernel
theorem dX6_setOf_10 : decode cX6_setOf 10 = .ok (.iaload, 1) := by decide +kernel
theorem dX6_setOf_11 : decode cX6_setOf 11 = .ok (.if_icmp .ge 42, 3) := by decide +kernel
theorem dX6_setOf_14 : decode cX6_setOf 14 = .ok (.iload_n 2, 1) := by decide +kernel
theorem dX6_setOf_15 : decode cX6_setOf 15 = .ok (.iload_n 1, 1) := by decide +kernel
theorem dX6_setOf_16 : decode cX6_setOf 16 = .ok (.ifCond .eq 14, 3) := by decide +kernel
theorem dX6_setOf_19 : decode cX6_setOf 19 = .ok (.aload_n 0, 1) := by decide +kernel
theorem dX6_setOf_20 : decode cX6_setOf 20 = .ok (.iload_n 3, 1) := by decide +kernel
theorem dX6_setOf_21 : decode cX6_setOf 21 = .ok (.invokevirtual 188, 3) := by decide +kernel
theorem dX6_setOf_24 : decode cX6_setOf 24 = .ok (.ifCond .eq 20, 3) := by decide +kernel
theorem dX6_setOf_27 : decode cX6_setOf 27 = .ok (.goto 11, 3) := by decide +kernel
theorem dX6_setOf_30 : decode cX6_setOf 30 = .ok (.aload_n 0, 1) := by decide +kernel
theorem dX6_setOf_31 : decode cX6_setOf 31 = .ok (.iload_n 3, 1) := by decide +kernel
theorem dX6_setOf_32 : decode cX6_setOf 32 = .ok (.invokevirtual 75, 3) := by decide +kernel
theorem dX6_setOf_35 : decode cX6_setOf 35 = .ok (.ifCond .eq 9, 3) := by decide +kernel
theorem dX6_setOf_38 : decode cX6_setOf 38 = .ok (.iconst 1, 1) := by decide +kernel
theorem dX6_setOf_39 : decode cX6_setOf 39 = .ok (.iload_n 3, 1) := by decide +kernel
theorem dX6_setOf_40 : decode cX6_setOf 40 = .ok (.ishl, 1) := by decide +kernel
theorem dX6_setOf_41 : decode cX6_setOf 41 = .ok (.goto 4, 3) := by decide +kernel
theorem dX6_setOf_44 : decode cX6_setOf 44 = .ok (.iconst 0, 1) := by decide +kernel
theorem dX6_setOf_45 : decode cX6_setOf 45 = .ok (.ior, 1) := by decide +kernel
theorem dX6_setOf_46 : decode cX6_setOf 46 = .ok (.istore_n 2, 1) := by decide +kernel
theorem dX6_setOf_47 : decode cX6_setOf 47 = .ok (.iinc 3 1, 3) := by decide +kernel
theorem dX6_setOf_50 : decode cX6_setOf 50 = .ok (.goto (-46), 3) := by decide +kernel
theorem dX6_setOf_53 : decode cX6_setOf 53 = .ok (.iload_n 2, 1) := by decide +kernel
theorem dX6_setOf_54 : decode cX6_setOf 54 = .ok (.ireturn, 1) := by decide +kernel
set_option maxRecDepth 20000 in
theorem ggX6_cellsOf_X6_lives : GoodIn wsX6_cellsOf wsX6_lives := goodIn_r _ [6, 7, 8, 9, 5, 10, 1, 19, 20, 21, 22, 23, 24, 25, 26, 27, 28, 29, 30, 31, 32, 33, 34, 35, 36] (by decide +kernel) (by decide +kernel)
set_option maxRecDepth 20000 in
theorem gX6_cellsOf_X6_lives : GoodIn wsX6_cellsOf (wsV RX6 75 RX6 yX6_lives wsX6_lives) := goodIn_app (goodIn_of _ (by decide +kernel)) ggX6_cellsOf_X6_lives
set_option maxRecDepth 20000 in
theorem ggX6_cellsOf_X6_wrongCells : GoodIn wsX6_cellsOf wsX6_wrongCells := goodIn_r _ [14, 7, 8, 9, 5, 10, 1, 19, 20, 21, 22, 23, 24, 25, 26, 27, 28, 29, 30, 31, 32, 33, 34, 35, 36] (by decide +kernel) (by decide +kernel)
set_option maxRecDepth 20000 in
theorem gX6_cellsOf_X6_wrongCells : GoodIn wsX6_cellsOf (wsV RX6 154 RX6 yX6_wrongCells wsX6_wrongCells) := goodIn_app (goodIn_of _ (by decide +kernel)) ggX6_cellsOf_X6_wrongCells
set_option maxRecDepth 20000 in
theorem ggX6_cellsOf_X6_unknown : GoodIn wsX6_cellsOf wsX6_unknown := goodIn_r _ [18, 7, 8, 9, 5, 10, 1, 19, 20, 21, 22, 23, 24, 25, 26, 27, 28, 29, 30, 31, 32, 33, 34, 35, 36] (by decide +kernel) (by decide +kernel)
set_option maxRecDepth 20000 in
theorem gX6_cellsOf_X6_unknown : GoodIn wsX6_cellsOf (wsV RX6 151 RX6 yX6_unknown wsX6_unknown) := goodIn_app (goodIn_of _ (by decide +kernel)) ggX6_cellsOf_X6_unknown
theorem dX6_cellsOf_0 : decode cX6_cellsOf 0 = .ok (.iconst 0, 1) := by decide +kernel
theorem dX6_cellsOf_1 : decode cX6_cellsOf 1 = .ok (.istore_n 2, 1) := by decide +kernel
theorem dX6_cellsOf_2 : decode cX6_cellsOf 2 = .ok (.iconst 0, 1) := by decide +kernel
theorem dX6_cellsOf_3 : decode cX6_cellsOf 3 = .ok (.istore_n 3, 1) := by decide +kernel
theorem dX6_cellsOf_4 : decode cX6_cellsOf 4 = .ok (.iload_n 3, 1) := by decide +kernel
theorem dX6_cellsOf_5 : decode cX6_cellsOf 5 = .ok (.aload_n 0, 1) := by decide +kernel
theorem dX6_cellsOf_6 : decode cX6_cellsOf 6 = .ok (.getfield 7, 3) := by decide +kernel
theorem dX6_cellsOf_9 : decode cX6_cellsOf 9 = .ok (.iconst 0, 1) := by decide +kernel
theorem dX6_cellsOf_10 : decode cX6_cellsOf 10 = .ok (.iaload, 1) := by decide +kernel
theorem dX6_cellsOf_11 : decode cX6_cellsOf 11 = .ok (.if_icmp .ge 41, 3) := by decide +kernel
theorem dX6_cellsOf_14 : decode cX6_cellsOf 14 = .ok (.iload_n 2, 1) := by decide +kernel
theorem dX6_cellsOf_15 : decode cX6_cellsOf 15 = .ok (.aload_n 0, 1) := by decide +kernel
theorem dX6_cellsOf_16 : decode cX6_cellsOf 16 = .ok (.iload_n 3, 1) := by decide +kernel
theorem dX6_cellsOf_17 : decode cX6_cellsOf 17 = .ok (.invokevirtual 75, 3) := by decide +kernel
theorem dX6_cellsOf_20 : decode cX6_cellsOf 20 = .ok (.ifCond .ne 7, 3) := by decide +kernel
theorem dX6_cellsOf_23 : decode cX6_cellsOf 23 = .ok (.iconst 0, 1) := by decide +kernel
theorem dX6_cellsOf_24 : decode cX6_cellsOf 24 = .ok (.goto 20, 3) := by decide +kernel
theorem dX6_cellsOf_27 : decode cX6_cellsOf 27 = .ok (.iload_n 1, 1) := by decide +kernel
theorem dX6_cellsOf_28 : decode cX6_cellsOf 28 = .ok (.ifCond .eq 11, 3) := by decide +kernel
theorem dX6_cellsOf_31 : decode cX6_cellsOf 31 = .ok (.aload_n 0, 1) := by decide +kernel
theorem dX6_cellsOf_32 : decode cX6_cellsOf 32 = .ok (.iload_n 3, 1) := by decide +kernel
theorem dX6_cellsOf_33 : decode cX6_cellsOf 33 = .ok (.invokevirtual 154, 3) := by decide +kernel
theorem dX6_cellsOf_36 : decode cX6_cellsOf 36 = .ok (.goto 8, 3) := by decide +kernel
theorem dX6_cellsOf_39 : decode cX6_cellsOf 39 = .ok (.aload_n 0, 1) := by decide +kernel
theorem dX6_cellsOf_40 : decode cX6_cellsOf 40 = .ok (.iload_n 3, 1) := by decide +kernel
theorem dX6_cellsOf_41 : decode cX6_cellsOf 41 = .ok (.invokevirtual 151, 3) := by decide +kernel
theorem dX6_cellsOf_44 : decode cX6_cellsOf 44 = .ok (.iadd, 1) := by decide +kernel
theorem dX6_cellsOf_45 : decode cX6_cellsOf 45 = .ok (.istore_n 2, 1) := by decide +kernel
theorem dX6_cellsOf_46 : decode cX6_cellsOf 46 = .ok (.iinc 3 1, 3) := by decide +kernel
theorem dX6_cellsOf_49 : decode cX6_cellsOf 49 = .ok (.goto (-45), 3) := by decide +kernel
theorem dX6_cellsOf_52 : decode cX6_cellsOf 52 = .ok (.iload_n 2, 1) := by decide +kernel
theorem dX6_cellsOf_53 : decode cX6_cellsOf 53 = .ok (.ireturn, 1) := by decide +kernel
set_option maxRecDepth 20000 in
theorem ggX6_count_X6_in : GoodIn wsX6_count wsX6_in := goodIn_r _ [8] (by decide +kernel) (by decide +kernel)
set_option maxRecDepth 20000 in
theorem gX6_count_X6_in : GoodIn wsX6_count (va_wsS RX6 43 yX6_in wsX6_in) := goodIn_app (goodIn_of _ (by decide +kernel)) ggX6_count_X6_in
set_option maxRecDepth 20000 in
theorem ggX6_count_X6_setOf : GoodIn wsX6_count wsX6_setOf := goodIn_r _ [12, 1, 13, 14, 15, 7, 16, 17, 18, 19, 20, 21, 22, 23, 24, 25, 26, 27, 28, 29, 30, 31, 32, 33, 34, 35, 36, 37, 38, 39, 40, 41, 42, 43, 44, 45, 46, 47, 48, 49, 50, 51, 52, 53, 54, 55, 56, 57, 58, 59, 60, 61, 62, 63, 64, 65, 66, 67, 68, 69, 70, 71, 72, 73, 90, 91, 92, 93, 94, 95, 96, 97, 98, 99, 100, 101, 102, 103, 104, 105, 106, 107] (by decide +kernel) (by decide +kernel)
set_option maxRecDepth 20000 in
theorem gX6_count_X6_setOf : GoodIn wsX6_count (wsV RX6 206 RX6 yX6_setOf wsX6_setOf) := goodIn_app (goodIn_of _ (by decide +kernel)) ggX6_count_X6_setOf
set_option maxRecDepth 20000 in
theorem ggX6_count_X6_echoes : GoodIn wsX6_count wsX6_echoes := goodIn_r _ [77, 1, 21, 22, 23, 7, 24, 90, 91, 92, 93, 94, 95, 96, 97, 98, 99, 100, 101, 102, 103, 104, 105, 106, 107] (by decide +kernel) (by decide +kernel)
set_option maxRecDepth 20000 in
theorem gX6_count_X6_echoes : GoodIn wsX6_count (wsV RX6 191 RX6 yX6_echoes wsX6_echoes) := goodIn_app (goodIn_of _ (by decide +kernel)) ggX6_count_X6_echoes
set_option maxRecDepth 20000 in
theorem ggX6_count_X6_faded : GoodIn wsX6_count wsX6_faded := goodIn_r _ [81, 1, 21, 22, 23, 7, 24, 62, 63, 64, 65, 66, 67, 68, 69, 58, 59, 60, 61, 90, 91, 92, 93, 94, 95, 96, 97, 98, 99, 100, 101, 102, 103, 104, 105, 106, 107] (by decide +kernel) (by decide +kernel)
set_option maxRecDepth 20000 in
theorem gX6_count_X6_faded : GoodIn wsX6_count (wsV RX6 194 RX6 yX6_faded wsX6_faded) := goodIn_app (goodIn_of _ (by decide +kernel)) ggX6_count_X6_faded
set_option maxRecDepth 20000 in
theorem ggX6_count_X6_cellsOf : GoodIn wsX6_count wsX6_cellsOf := goodIn_r _ [85, 1, 17, 18, 19, 7, 20, 21, 22, 23, 24, 86, 87, 88, 89, 70, 71, 72, 73, 90, 91, 92, 93, 94, 95, 96, 97, 98, 99, 100, 101, 102, 103, 104, 105, 106, 107] (by decide +kernel) (by decide +kernel)
set_option maxRecDepth 20000 in
theorem gX6_count_X6_cellsOf : GoodIn wsX6_count (wsV RX6 210 RX6 yX6_cellsOf wsX6_cellsOf) := goodIn_app (goodIn_of _ (by decide +kernel)) ggX6_count_X6_cellsOf
theorem dX6_count_0 : decode cX6_count 0 = .ok (.iload_n 1, 1) := by decide +kernel
theorem dX6_count_1 : decode cX6_count 1 = .ok (.bipush 8, 2) := by decide +kernel
theorem dX6_count_3 : decode cX6_count 3 = .ok (.bipush 13, 2) := by decide +kernel
theorem dX6_count_5 : decode cX6_count 5 = .ok (.invokestatic 43, 3) := by decide +kernel
theorem dX6_count_8 : decode cX6_count 8 = .ok (.ifCond .eq 15, 3) := by decide +kernel
theorem dX6_count_11 : decode cX6_count 11 = .ok (.aload_n 0, 1) := by decide +kernel
theorem dX6_count_12 : decode cX6_count 12 = .ok (.getfield 7, 3) := by decide +kernel
theorem dX6_count_15 : decode cX6_count 15 = .ok (.iconst 4, 1) := by decide +kernel
theorem dX6_count_16 : decode cX6_count 16 = .ok (.iload_n 1, 1) := by decide +kernel
theorem dX6_count_17 : decode cX6_count 17 = .ok (.iadd, 1) := by decide +kernel
theorem dX6_count_18 : decode cX6_count 18 = .ok (.bipush 8, 2) := by decide +kernel
theorem dX6_count_20 : decode cX6_count 20 = .ok (.isub, 1) := by decide +kernel
theorem dX6_count_21 : decode cX6_count 21 = .ok (.iaload, 1) := by decide +kernel
theorem dX6_count_22 : decode cX6_count 22 = .ok (.ireturn, 1) := by decide +kernel
theorem dX6_count_23 : decode cX6_count 23 = .ok (.iload_n 1, 1) := by decide +kernel
theorem dX6_count_24 : decode cX6_count 24 = .ok (.tableswitch 174 0 21 #[104, 104, 111, 111, 126, 131, 136, 136, 174, 174, 174, 174, 174, 174, 152, 157, 174, 174, 174, 174, 162, 162], 104) := by decide +kernel
theorem dX6_count_128 : decode cX6_count 128 = .ok (.aload_n 0, 1) := by decide +kernel
theorem dX6_count_129 : decode cX6_count 129 = .ok (.getfield 7, 3) := by decide +kernel
theorem dX6_count_132 : decode cX6_count 132 = .ok (.iload_n 1, 1) := by decide +kernel
theorem dX6_count_133 : decode cX6_count 133 = .ok (.iaload, 1) := by decide +kernel
theorem dX6_count_134 : decode cX6_count 134 = .ok (.ireturn, 1) := by decide +kernel
theorem dX6_count_135 : decode cX6_count 135 = .ok (.aload_n 0, 1) := by decide +kernel
theorem dX6_count_136 : decode cX6_count 136 = .ok (.iload_n 1, 1) := by decide +kernel
theorem dX6_count_137 : decode cX6_count 137 = .ok (.iconst 3, 1) := by decide +kernel
theorem dX6_count_138 : decode cX6_count 138 = .ok (.if_icmp .ne 7, 3) := by decide +kernel
theorem dX6_count_141 : decode cX6_count 141 = .ok (.iconst 1, 1) := by decide +kernel
theorem dX6_count_142 : decode cX6_count 142 = .ok (.goto 4, 3) := by decide +kernel
theorem dX6_count_145 : decode cX6_count 145 = .ok (.iconst 0, 1) := by decide +kernel
theorem dX6_count_146 : decode cX6_count 146 = .ok (.invokevirtual 206, 3) := by decide +kernel
theorem dX6_count_149 : decode cX6_count 149 = .ok (.ireturn, 1) := by decide +kernel
theorem dX6_count_150 : decode cX6_count 150 = .ok (.aload_n 0, 1) := by decide +kernel
theorem dX6_count_151 : decode cX6_count 151 = .ok (.invokevirtual 191, 3) := by decide +kernel
theorem dX6_count_154 : decode cX6_count 154 = .ok (.ireturn, 1) := by decide +kernel
theorem dX6_count_155 : decode cX6_count 155 = .ok (.aload_n 0, 1) := by decide +kernel
theorem dX6_count_156 : decode cX6_count 156 = .ok (.invokevirtual 194, 3) := by decide +kernel
theorem dX6_count_159 : decode cX6_count 159 = .ok (.ireturn, 1) := by decide +kernel
theorem dX6_count_160 : decode cX6_count 160 = .ok (.aload_n 0, 1) := by decide +kernel
theorem dX6_count_161 : decode cX6_count 161 = .ok (.iload_n 1, 1) := by decide +kernel
theorem dX6_count_162 : decode cX6_count 162 = .ok (.bipush 7, 2) := by decide +kernel
theorem dX6_count_164 : decode cX6_count 164 = .ok (.if_icmp .ne 7, 3) := by decide +kernel
theorem dX6_count_167 : decode cX6_count 167 = .ok (.iconst 1, 1) := by decide +kernel
theorem dX6_count_168 : decode cX6_count 168 = .ok (.goto 4, 3) := by decide +kernel
theorem dX6_count_171 : decode cX6_count 171 = .ok (.iconst 0, 1) := by decide +kernel
theorem dX6_count_172 : decode cX6_count 172 = .ok (.invokevirtual 210, 3) := by decide +kernel
theorem dX6_count_175 : decode cX6_count 175 = .ok (.ireturn, 1) := by decide +kernel
theorem dX6_count_176 : decode cX6_count 176 = .ok (.aload_n 0, 1) := by decide +kernel
theorem dX6_count_177 : decode cX6_count 177 = .ok (.getfield 35, 3) := by decide +kernel
theorem dX6_count_180 : decode cX6_count 180 = .ok (.ireturn, 1) := by decide +kernel
theorem dX6_count_181 : decode cX6_count 181 = .ok (.aload_n 0, 1) := by decide +kernel
theorem dX6_count_182 : decode cX6_count 182 = .ok (.getfield 213, 3) := by decide +kernel
theorem dX6_count_185 : decode cX6_count 185 = .ok (.ireturn, 1) := by decide +kernel
theorem dX6_count_186 : decode cX6_count 186 = .ok (.aload_n 0, 1) := by decide +kernel
theorem dX6_count_187 : decode cX6_count 187 = .ok (.getfield 7, 3) := by decide +kernel
theorem dX6_count_190 : decode cX6_count 190 = .ok (.iconst 2, 1) := by decide +kernel
theorem dX6_count_191 : decode cX6_count 191 = .ok (.iload_n 1, 1) := by decide +kernel
theorem dX6_count_192 : decode cX6_count 192 = .ok (.iadd, 1) := by decide +kernel
theorem dX6_count_193 : decode cX6_count 193 = .ok (.bipush 20, 2) := by decide +kernel
theorem dX6_count_195 : decode cX6_count 195 = .ok (.isub, 1) := by decide +kernel
theorem dX6_count_196 : decode cX6_count 196 = .ok (.iaload, 1) := by decide +kernel
theorem dX6_count_197 : decode cX6_count 197 = .ok (.ireturn, 1) := by decide +kernel
theorem dX6_count_198 : decode cX6_count 198 = .ok (.ldc 114, 2) := by decide +kernel
theorem dX6_count_200 : decode cX6_count 200 = .ok (.ireturn, 1) := by decide +kernel
set_option maxRecDepth 20000 in
theorem ggX6_undo_X6_copies : GoodIn wsX6_undo wsX6_copies := goodIn_r _ [8] (by decide +kernel) (by decide +kernel)
set_option maxRecDepth 20000 in
theorem gX6_undo_X6_copies : GoodIn wsX6_undo (va_wsS RX6 39 yX6_copies wsX6_copies) := goodIn_app (goodIn_of _ (by decide +kernel)) ggX6_undo_X6_copies
theorem dX6_undo_0 : decode cX6_undo 0 = .ok (.aload_n 0, 1) := by decide +kernel
theorem dX6_undo_1 : decode cX6_undo 1 = .ok (.getfield 35, 3) := by decide +kernel
theorem dX6_undo_4 : decode cX6_undo 4 = .ok (.ifCond .ne 6, 3) := by decide +kernel
theorem dX6_undo_7 : decode cX6_undo 7 = .ok (.ldc 115, 2) := by decide +kernel
theorem dX6_undo_9 : decode cX6_undo 9 = .ok (.ireturn, 1) := by decide +kernel
theorem dX6_undo_10 : decode cX6_undo 10 = .ok (.aload_n 0, 1) := by decide +kernel
theorem dX6_undo_11 : decode cX6_undo 11 = .ok (.dup, 1) := by decide +kernel
theorem dX6_undo_12 : decode cX6_undo 12 = .ok (.getfield 35, 3) := by decide +kernel
theorem dX6_undo_15 : decode cX6_undo 15 = .ok (.iconst 1, 1) := by decide +kernel
theorem dX6_undo_16 : decode cX6_undo 16 = .ok (.isub, 1) := by decide +kernel
theorem dX6_undo_17 : decode cX6_undo 17 = .ok (.putfield 35, 3) := by decide +kernel
theorem dX6_undo_20 : decode cX6_undo 20 = .ok (.aload_n 0, 1) := by decide +kernel
theorem dX6_undo_21 : decode cX6_undo 21 = .ok (.getfield 19, 3) := by decide +kernel
theorem dX6_undo_24 : decode cX6_undo 24 = .ok (.sipush 703, 3) := by decide +kernel
theorem dX6_undo_27 : decode cX6_undo 27 = .ok (.aload_n 0, 1) := by decide +kernel
theorem dX6_undo_28 : decode cX6_undo 28 = .ok (.getfield 35, 3) := by decide +kernel
theorem dX6_undo_31 : decode cX6_undo 31 = .ok (.imul, 1) := by decide +kernel
theorem dX6_undo_32 : decode cX6_undo 32 = .ok (.aload_n 0, 1) := by decide +kernel
theorem dX6_undo_33 : decode cX6_undo 33 = .ok (.getfield 7, 3) := by decide +kernel
theorem dX6_undo_36 : decode cX6_undo 36 = .ok (.iconst 0, 1) := by decide +kernel
theorem dX6_undo_37 : decode cX6_undo 37 = .ok (.invokestatic 39, 3) := by decide +kernel
theorem dX6_undo_40 : decode cX6_undo 40 = .ok (.aload_n 0, 1) := by decide +kernel
theorem dX6_undo_41 : decode cX6_undo 41 = .ok (.getfield 35, 3) := by decide +kernel
theorem dX6_undo_44 : decode cX6_undo 44 = .ok (.ireturn, 1) := by decide +kernel
set_option maxRecDepth 20000 in
theorem ggX6_type_X6_in : GoodIn wsX6_type wsX6_in := goodIn_r _ [8] (by decide +kernel) (by decide +kernel)
set_option maxRecDepth 20000 in
theorem gX6_type_X6_in : GoodIn wsX6_type (va_wsS RX6 43 yX6_in wsX6_in) := goodIn_app (goodIn_of _ (by decide +kernel)) ggX6_type_X6_in
theorem dX6_type_0 : decode cX6_type 0 = .ok (.iload_n 1, 1) := by decide +kernel
theorem dX6_type_1 : decode cX6_type 1 = .ok (.bipush 32, 2) := by decide +kernel
theorem dX6_type_3 : decode cX6_type 3 = .ok (.bipush 126, 2) := by decide +kernel
theorem dX6_type_5 : decode cX6_type 5 = .ok (.invokestatic 43, 3) := by decide +kernel
theorem dX6_type_8 : decode cX6_type 8 = .ok (.ifCond .ne 6, 3) := by decide +kernel
theorem dX6_type_11 : decode cX6_type 11 = .ok (.ldc 114, 2) := by decide +kernel
theorem dX6_type_13 : decode cX6_type 13 = .ok (.ireturn, 1) := by decide +kernel
theorem dX6_type_14 : decode cX6_type 14 = .ok (.aload_n 0, 1) := by decide +kernel
theorem dX6_type_15 : decode cX6_type 15 = .ok (.getfield 213, 3) := by decide +kernel
theorem dX6_type_18 : decode cX6_type 18 = .ok (.bipush 60, 2) := by decide +kernel
theorem dX6_type_20 : decode cX6_type 20 = .ok (.if_icmp .ne 6, 3) := by decide +kernel
theorem dX6_type_23 : decode cX6_type 23 = .ok (.ldc 119, 2) := by decide +kernel
theorem dX6_type_25 : decode cX6_type 25 = .ok (.ireturn, 1) := by decide +kernel
theorem dX6_type_26 : decode cX6_type 26 = .ok (.aload_n 0, 1) := by decide +kernel
theorem dX6_type_27 : decode cX6_type 27 = .ok (.getfield 22, 3) := by decide +kernel
theorem dX6_type_30 : decode cX6_type 30 = .ok (.aload_n 0, 1) := by decide +kernel
theorem dX6_type_31 : decode cX6_type 31 = .ok (.getfield 213, 3) := by decide +kernel
theorem dX6_type_34 : decode cX6_type 34 = .ok (.iload_n 1, 1) := by decide +kernel
theorem dX6_type_35 : decode cX6_type 35 = .ok (.iastore, 1) := by decide +kernel
theorem dX6_type_36 : decode cX6_type 36 = .ok (.aload_n 0, 1) := by decide +kernel
theorem dX6_type_37 : decode cX6_type 37 = .ok (.dup, 1) := by decide +kernel
theorem dX6_type_38 : decode cX6_type 38 = .ok (.getfield 213, 3) := by decide +kernel
theorem dX6_type_41 : decode cX6_type 41 = .ok (.iconst 1, 1) := by decide +kernel
theorem dX6_type_42 : decode cX6_type 42 = .ok (.iadd, 1) := by decide +kernel
theorem dX6_type_43 : decode cX6_type 43 = .ok (.putfield 213, 3) := by decide +kernel
theorem dX6_type_46 : decode cX6_type 46 = .ok (.aload_n 0, 1) := by decide +kernel
theorem dX6_type_47 : decode cX6_type 47 = .ok (.getfield 213, 3) := by decide +kernel
theorem dX6_type_50 : decode cX6_type 50 = .ok (.ireturn, 1) := by decide +kernel
theorem dX6_clearText_0 : decode cX6_clearText 0 = .ok (.aload_n 0, 1) := by decide +kernel
theorem dX6_clearText_1 : decode cX6_clearText 1 = .ok (.getfield 213, 3) := by decide +kernel
theorem dX6_clearText_4 : decode cX6_clearText 4 = .ok (.istore_n 1, 1) := by decide +kernel
theorem dX6_clearText_5 : decode cX6_clearText 5 = .ok (.aload_n 0, 1) := by decide +kernel
theorem dX6_clearText_6 : decode cX6_clearText 6 = .ok (.iconst 0, 1) := by decide +kernel
theorem dX6_clearText_7 : decode cX6_clearText 7 = .ok (.putfield 213, 3) := by decide +kernel
theorem dX6_clearText_10 : decode cX6_clearText 10 = .ok (.iload_n 1, 1) := by decide +kernel
theorem dX6_clearText_11 : decode cX6_clearText 11 = .ok (.ireturn, 1) := by decide +kernel
theorem dX6_here_0 : decode cX6_here 0 = .ok (.aload_n 0, 1) := by decide +kernel
theorem dX6_here_1 : decode cX6_here 1 = .ok (.getfield 216, 3) := by decide +kernel
theorem dX6_here_4 : decode cX6_here 4 = .ok (.aload_n 0, 1) := by decide +kernel
theorem dX6_here_5 : decode cX6_here 5 = .ok (.getfield 213, 3) := by decide +kernel
theorem dX6_here_8 : decode cX6_here 8 = .ok (.if_icmp .ge 15, 3) := by decide +kernel
theorem dX6_here_11 : decode cX6_here 11 = .ok (.aload_n 0, 1) := by decide +kernel
theorem dX6_here_12 : decode cX6_here 12 = .ok (.getfield 22, 3) := by decide +kernel
theorem dX6_here_15 : decode cX6_here 15 = .ok (.aload_n 0, 1) := by decide +kernel
theorem dX6_here_16 : decode cX6_here 16 = .ok (.getfield 216, 3) := by decide +kernel
theorem dX6_here_19 : decode cX6_here 19 = .ok (.iaload, 1) := by decide +kernel
theorem dX6_here_20 : decode cX6_here 20 = .ok (.goto 4, 3) := by decide +kernel
theorem dX6_here_23 : decode cX6_here 23 = .ok (.iconst 0, 1) := by decide +kernel
theorem dX6_here_24 : decode cX6_here 24 = .ok (.ireturn, 1) := by decide +kernel
theorem dX6_takes_0 : decode cX6_takes 0 = .ok (.aload_n 0, 1) := by decide +kernel
theorem dX6_takes_1 : decode cX6_takes 1 = .ok (.aload_n 0, 1) := by decide +kernel
theorem dX6_takes_2 : decode cX6_takes 2 = .ok (.getfield 219, 3) := by decide +kernel
theorem dX6_takes_5 : decode cX6_takes 5 = .ok (.ifCond .eq 11, 3) := by decide +kernel
theorem dX6_takes_8 : decode cX6_takes 8 = .ok (.iload_n 1, 1) := by decide +kernel
theorem dX6_takes_9 : decode cX6_takes 9 = .ok (.ifCond .eq 7, 3) := by decide +kernel
theorem dX6_takes_12 : decode cX6_takes 12 = .ok (.iconst 1, 1) := by decide +kernel
theorem dX6_takes_13 : decode cX6_takes 13 = .ok (.goto 4, 3) := by decide +kernel
theorem dX6_takes_16 : decode cX6_takes 16 = .ok (.iconst 0, 1) := by decide +kernel
theorem dX6_takes_17 : decode cX6_takes 17 = .ok (.putfield 219, 3) := by decide +kernel
theorem dX6_takes_20 : decode cX6_takes 20 = .ok (.aload_n 0, 1) := by decide +kernel
theorem dX6_takes_21 : decode cX6_takes 21 = .ok (.dup, 1) := by decide +kernel
theorem dX6_takes_22 : decode cX6_takes 22 = .ok (.getfield 216, 3) := by decide +kernel
theorem dX6_takes_25 : decode cX6_takes 25 = .ok (.aload_n 0, 1) := by decide +kernel
theorem dX6_takes_26 : decode cX6_takes 26 = .ok (.getfield 219, 3) := by decide +kernel
theorem dX6_takes_29 : decode cX6_takes 29 = .ok (.ifCond .eq 7, 3) := by decide +kernel
theorem dX6_takes_32 : decode cX6_takes 32 = .ok (.iconst 1, 1) := by decide +kernel
theorem dX6_takes_33 : decode cX6_takes 33 = .ok (.goto 4, 3) := by decide +kernel
theorem dX6_takes_36 : decode cX6_takes 36 = .ok (.iconst 0, 1) := by decide +kernel
theorem dX6_takes_37 : decode cX6_takes 37 = .ok (.iadd, 1) := by decide +kernel
theorem dX6_takes_38 : decode cX6_takes 38 = .ok (.putfield 216, 3) := by decide +kernel
theorem dX6_takes_41 : decode cX6_takes 41 = .ok (.return_, 1) := by decide +kernel
set_option maxRecDepth 20000 in
theorem ggX6_takesNumber_X6_here : GoodIn wsX6_takesNumber wsX6_here := goodIn_r _ [8, 2, 9, 10, 14, 15, 16, 17, 18, 19, 20, 21, 22, 23, 24, 25, 26, 27, 28, 29, 30, 31] (by decide +kernel) (by decide +kernel)
set_option maxRecDepth 20000 in
theorem gX6_takesNumber_X6_here : GoodIn wsX6_takesNumber (wsV RX6 223 RX6 yX6_here wsX6_here) := goodIn_app (goodIn_of _ (by decide +kernel)) ggX6_takesNumber_X6_here
set_option maxRecDepth 20000 in
theorem ggX6_takesNumber_X6_in : GoodIn wsX6_takesNumber wsX6_in := goodIn_r _ [13] (by decide +kernel) (by decide +kernel)
set_option maxRecDepth 20000 in
theorem gX6_takesNumber_X6_in : GoodIn wsX6_takesNumber (va_wsS RX6 43 yX6_in wsX6_in) := goodIn_app (goodIn_of _ (by decide +kernel)) ggX6_takesNumber_X6_in
theorem dX6_takesNumber_0 : decode cX6_takesNumber 0 = .ok (.iconst 0, 1) := by decide +kernel
theorem dX6_takesNumber_1 : decode cX6_takesNumber 1 = .ok (.istore_n 2, 1) := by decide +kernel
theorem dX6_takesNumber_2 : decode cX6_takesNumber 2 = .ok (.iconst 0, 1) := by decide +kernel
theorem dX6_takesNumber_3 : decode cX6_takesNumber 3 = .ok (.istore_n 3, 1) := by decide +kernel
theorem dX6_takesNumber_4 : decode cX6_takesNumber 4 = .ok (.aload_n 0, 1) := by decide +kernel
theorem dX6_takesNumber_5 : decode cX6_takesNumber 5 = .ok (.getfield 219, 3) := by decide +kernel
theorem dX6_takesNumber_8 : decode cX6_takesNumber 8 = .ok (.ifCond .eq 51, 3) := by decide +kernel
theorem dX6_takesNumber_11 : decode cX6_takesNumber 11 = .ok (.iload_n 3, 1) := by decide +kernel
theorem dX6_takesNumber_12 : decode cX6_takesNumber 12 = .ok (.iconst 3, 1) := by decide +kernel
theorem dX6_takesNumber_13 : decode cX6_takesNumber 13 = .ok (.if_icmp .ge 46, 3) := by decide +kernel
theorem dX6_takesNumber_16 : decode cX6_takesNumber 16 = .ok (.aload_n 0, 1) := by decide +kernel
theorem dX6_takesNumber_17 : decode cX6_takesNumber 17 = .ok (.invokevirtual 223, 3) := by decide +kernel
theorem dX6_takesNumber_20 : decode cX6_takesNumber 20 = .ok (.bipush 48, 2) := by decide +kernel
theorem dX6_takesNumber_22 : decode cX6_takesNumber 22 = .ok (.bipush 57, 2) := by decide +kernel
theorem dX6_takesNumber_24 : decode cX6_takesNumber 24 = .ok (.invokestatic 43, 3) := by decide +kernel
theorem dX6_takesNumber_27 : decode cX6_takesNumber 27 = .ok (.ifCond .eq 32, 3) := by decide +kernel
theorem dX6_takesNumber_30 : decode cX6_takesNumber 30 = .ok (.bipush 10, 2) := by decide +kernel
theorem dX6_takesNumber_32 : decode cX6_takesNumber 32 = .ok (.iload_n 2, 1) := by decide +kernel
theorem dX6_takesNumber_33 : decode cX6_takesNumber 33 = .ok (.imul, 1) := by decide +kernel
theorem dX6_takesNumber_34 : decode cX6_takesNumber 34 = .ok (.aload_n 0, 1) := by decide +kernel
theorem dX6_takesNumber_35 : decode cX6_takesNumber 35 = .ok (.invokevirtual 223, 3) := by decide +kernel
theorem dX6_takesNumber_38 : decode cX6_takesNumber 38 = .ok (.iadd, 1) := by decide +kernel
theorem dX6_takesNumber_39 : decode cX6_takesNumber 39 = .ok (.bipush 48, 2) := by decide +kernel
theorem dX6_takesNumber_41 : decode cX6_takesNumber 41 = .ok (.isub, 1) := by decide +kernel
theorem dX6_takesNumber_42 : decode cX6_takesNumber 42 = .ok (.istore_n 2, 1) := by decide +kernel
theorem dX6_takesNumber_43 : decode cX6_takesNumber 43 = .ok (.iinc 3 1, 3) := by decide +kernel
theorem dX6_takesNumber_46 : decode cX6_takesNumber 46 = .ok (.aload_n 0, 1) := by decide +kernel
theorem dX6_takesNumber_47 : decode cX6_takesNumber 47 = .ok (.dup, 1) := by decide +kernel
theorem dX6_takesNumber_48 : decode cX6_takesNumber 48 = .ok (.getfield 216, 3) := by decide +kernel
theorem dX6_takesNumber_51 : decode cX6_takesNumber 51 = .ok (.iconst 1, 1) := by decide +kernel
theorem dX6_takesNumber_52 : decode cX6_takesNumber 52 = .ok (.iadd, 1) := by decide +kernel
theorem dX6_takesNumber_53 : decode cX6_takesNumber 53 = .ok (.putfield 216, 3) := by decide +kernel
theorem dX6_takesNumber_56 : decode cX6_takesNumber 56 = .ok (.goto (-52), 3) := by decide +kernel
theorem dX6_takesNumber_59 : decode cX6_takesNumber 59 = .ok (.aload_n 0, 1) := by decide +kernel
theorem dX6_takesNumber_60 : decode cX6_takesNumber 60 = .ok (.aload_n 0, 1) := by decide +kernel
theorem dX6_takesNumber_61 : decode cX6_takesNumber 61 = .ok (.getfield 219, 3) := by decide +kernel
theorem dX6_takesNumber_64 : decode cX6_takesNumber 64 = .ok (.ifCond .eq 11, 3) := by decide +kernel
theorem dX6_takesNumber_67 : decode cX6_takesNumber 67 = .ok (.iload_n 3, 1) := by decide +kernel
theorem dX6_takesNumber_68 : decode cX6_takesNumber 68 = .ok (.ifCond .le 7, 3) := by decide +kernel
theorem dX6_takesNumber_71 : decode cX6_takesNumber 71 = .ok (.iconst 1, 1) := by decide +kernel
theorem dX6_takesNumber_72 : decode cX6_takesNumber 72 = .ok (.goto 4, 3) := by decide +kernel
theorem dX6_takesNumber_75 : decode cX6_takesNumber 75 = .ok (.iconst 0, 1) := by decide +kernel
theorem dX6_takesNumber_76 : decode cX6_takesNumber 76 = .ok (.putfield 219, 3) := by decide +kernel
theorem dX6_takesNumber_79 : decode cX6_takesNumber 79 = .ok (.aload_n 0, 1) := by decide +kernel
theorem dX6_takesNumber_80 : decode cX6_takesNumber 80 = .ok (.getfield 28, 3) := by decide +kernel
theorem dX6_takesNumber_83 : decode cX6_takesNumber 83 = .ok (.iload_n 1, 1) := by decide +kernel
theorem dX6_takesNumber_84 : decode cX6_takesNumber 84 = .ok (.iload_n 2, 1) := by decide +kernel
theorem dX6_takesNumber_85 : decode cX6_takesNumber 85 = .ok (.iastore, 1) := by decide +kernel
theorem dX6_takesNumber_86 : decode cX6_takesNumber 86 = .ok (.return_, 1) := by decide +kernel
set_option maxRecDepth 20000 in
theorem ggX6_takesOrder_X6_here : GoodIn wsX6_takesOrder wsX6_here := goodIn_r _ [9, 1, 10, 11, 24, 25, 26, 27, 28, 29, 30, 31, 32, 33, 34, 35, 36, 37, 38, 39, 40, 41] (by decide +kernel) (by decide +kernel)
set_option maxRecDepth 20000 in
theorem gX6_takesOrder_X6_here : GoodIn wsX6_takesOrder (wsV RX6 223 RX6 yX6_here wsX6_here) := goodIn_app (goodIn_of _ (by decide +kernel)) ggX6_takesOrder_X6_here
set_option maxRecDepth 20000 in
theorem ggX6_takesOrder_X6_takes : GoodIn wsX6_takesOrder wsX6_takes := goodIn_r _ [15, 3, 1, 24, 25, 26, 27, 28, 29, 30, 31, 32, 33, 34, 35, 36, 37, 38, 39, 40, 41] (by decide +kernel) (by decide +kernel)
set_option maxRecDepth 20000 in
theorem gX6_takesOrder_X6_takes : GoodIn wsX6_takesOrder (wsV RX6 232 RX6 yX6_takes wsX6_takes) := goodIn_app (goodIn_of _ (by decide +kernel)) ggX6_takesOrder_X6_takes
set_option maxRecDepth 20000 in
theorem ggX6_takesOrder_X6_takesNumber : GoodIn wsX6_takesOrder wsX6_takesNumber := goodIn_r _ [19, 3, 1, 20, 5, 6, 7, 8, 9, 10, 11, 21, 22, 23, 24, 25, 26, 27, 28, 29, 30, 31, 32, 33, 34, 35, 36, 37, 38, 39, 40, 41] (by decide +kernel) (by decide +kernel)
set_option maxRecDepth 20000 in
theorem gX6_takesOrder_X6_takesNumber : GoodIn wsX6_takesOrder (wsV RX6 236 RX6 yX6_takesNumber wsX6_takesNumber) := goodIn_app (goodIn_of _ (by decide +kernel)) ggX6_takesOrder_X6_takesNumber
theorem dX6_takesOrder_0 : decode cX6_takesOrder 0 = .ok (.aload_n 0, 1) := by decide +kernel
theorem dX6_takesOrder_1 : decode cX6_takesOrder 1 = .ok (.aload_n 0, 1) := by decide +kernel
theorem dX6_takesOrder_2 : decode cX6_takesOrder 2 = .ok (.getfield 216, 3) := by decide +kernel
theorem dX6_takesOrder_5 : decode cX6_takesOrder 5 = .ok (.putfield 226, 3) := by decide +kernel
theorem dX6_takesOrder_8 : decode cX6_takesOrder 8 = .ok (.aload_n 0, 1) := by decide +kernel
theorem dX6_takesOrder_9 : decode cX6_takesOrder 9 = .ok (.iconst 1, 1) := by decide +kernel
theorem dX6_takesOrder_10 : decode cX6_takesOrder 10 = .ok (.putfield 219, 3) := by decide +kernel
theorem dX6_takesOrder_13 : decode cX6_takesOrder 13 = .ok (.aload_n 0, 1) := by decide +kernel
theorem dX6_takesOrder_14 : decode cX6_takesOrder 14 = .ok (.aload_n 0, 1) := by decide +kernel
theorem dX6_takesOrder_15 : decode cX6_takesOrder 15 = .ok (.invokevirtual 223, 3) := by decide +kernel
theorem dX6_takesOrder_18 : decode cX6_takesOrder 18 = .ok (.putfield 229, 3) := by decide +kernel
theorem dX6_takesOrder_21 : decode cX6_takesOrder 21 = .ok (.aload_n 0, 1) := by decide +kernel
theorem dX6_takesOrder_22 : decode cX6_takesOrder 22 = .ok (.aload_n 0, 1) := by decide +kernel
theorem dX6_takesOrder_23 : decode cX6_takesOrder 23 = .ok (.getfield 229, 3) := by decide +kernel
theorem dX6_takesOrder_26 : decode cX6_takesOrder 26 = .ok (.bipush 119, 2) := by decide +kernel
theorem dX6_takesOrder_28 : decode cX6_takesOrder 28 = .ok (.if_icmp .eq 48, 3) := by decide +kernel
theorem dX6_takesOrder_31 : decode cX6_takesOrder 31 = .ok (.aload_n 0, 1) := by decide +kernel
theorem dX6_takesOrder_32 : decode cX6_takesOrder 32 = .ok (.getfield 229, 3) := by decide +kernel
theorem dX6_takesOrder_35 : decode cX6_takesOrder 35 = .ok (.bipush 108, 2) := by decide +kernel
theorem dX6_takesOrder_37 : decode cX6_takesOrder 37 = .ok (.if_icmp .eq 39, 3) := by decide +kernel
theorem dX6_takesOrder_40 : decode cX6_takesOrder 40 = .ok (.aload_n 0, 1) := by decide +kernel
theorem dX6_takesOrder_41 : decode cX6_takesOrder 41 = .ok (.getfield 229, 3) := by decide +kernel
theorem dX6_takesOrder_44 : decode cX6_takesOrder 44 = .ok (.bipush 109, 2) := by decide +kernel
theorem dX6_takesOrder_46 : decode cX6_takesOrder 46 = .ok (.if_icmp .eq 30, 3) := by decide +kernel
theorem dX6_takesOrder_49 : decode cX6_takesOrder 49 = .ok (.aload_n 0, 1) := by decide +kernel
theorem dX6_takesOrder_50 : decode cX6_takesOrder 50 = .ok (.getfield 229, 3) := by decide +kernel
theorem dX6_takesOrder_53 : decode cX6_takesOrder 53 = .ok (.bipush 115, 2) := by decide +kernel
theorem dX6_takesOrder_55 : decode cX6_takesOrder 55 = .ok (.if_icmp .eq 21, 3) := by decide +kernel
theorem dX6_takesOrder_58 : decode cX6_takesOrder 58 = .ok (.aload_n 0, 1) := by decide +kernel
theorem dX6_takesOrder_59 : decode cX6_takesOrder 59 = .ok (.getfield 229, 3) := by decide +kernel
theorem dX6_takesOrder_62 : decode cX6_takesOrder 62 = .ok (.bipush 97, 2) := by decide +kernel
theorem dX6_takesOrder_64 : decode cX6_takesOrder 64 = .ok (.if_icmp .eq 12, 3) := by decide +kernel
theorem dX6_takesOrder_67 : decode cX6_takesOrder 67 = .ok (.aload_n 0, 1) := by decide +kernel
theorem dX6_takesOrder_68 : decode cX6_takesOrder 68 = .ok (.getfield 229, 3) := by decide +kernel
theorem dX6_takesOrder_71 : decode cX6_takesOrder 71 = .ok (.bipush 100, 2) := by decide +kernel
theorem dX6_takesOrder_73 : decode cX6_takesOrder 73 = .ok (.if_icmp .ne 7, 3) := by decide +kernel
theorem dX6_takesOrder_76 : decode cX6_takesOrder 76 = .ok (.iconst 1, 1) := by decide +kernel
theorem dX6_takesOrder_77 : decode cX6_takesOrder 77 = .ok (.goto 4, 3) := by decide +kernel
theorem dX6_takesOrder_80 : decode cX6_takesOrder 80 = .ok (.iconst 0, 1) := by decide +kernel
theorem dX6_takesOrder_81 : decode cX6_takesOrder 81 = .ok (.invokevirtual 232, 3) := by decide +kernel
theorem dX6_takesOrder_84 : decode cX6_takesOrder 84 = .ok (.aload_n 0, 1) := by decide +kernel
theorem dX6_takesOrder_85 : decode cX6_takesOrder 85 = .ok (.getfield 229, 3) := by decide +kernel
theorem dX6_takesOrder_88 : decode cX6_takesOrder 88 = .ok (.bipush 119, 2) := by decide +kernel
theorem dX6_takesOrder_90 : decode cX6_takesOrder 90 = .ok (.if_icmp .ne 7, 3) := by decide +kernel
theorem dX6_takesOrder_93 : decode cX6_takesOrder 93 = .ok (.iconst 3, 1) := by decide +kernel
theorem dX6_takesOrder_94 : decode cX6_takesOrder 94 = .ok (.goto 17, 3) := by decide +kernel
theorem dX6_takesOrder_97 : decode cX6_takesOrder 97 = .ok (.aload_n 0, 1) := by decide +kernel
theorem dX6_takesOrder_98 : decode cX6_takesOrder 98 = .ok (.getfield 229, 3) := by decide +kernel
theorem dX6_takesOrder_101 : decode cX6_takesOrder 101 = .ok (.bipush 115, 2) := by decide +kernel
theorem dX6_takesOrder_103 : decode cX6_takesOrder 103 = .ok (.if_icmp .ne 7, 3) := by decide +kernel
theorem dX6_takesOrder_106 : decode cX6_takesOrder 106 = .ok (.iconst 2, 1) := by decide +kernel
theorem dX6_takesOrder_107 : decode cX6_takesOrder 107 = .ok (.goto 4, 3) := by decide +kernel
theorem dX6_takesOrder_110 : decode cX6_takesOrder 110 = .ok (.iconst 1, 1) := by decide +kernel
theorem dX6_takesOrder_111 : decode cX6_takesOrder 111 = .ok (.istore_n 1, 1) := by decide +kernel
theorem dX6_takesOrder_112 : decode cX6_takesOrder 112 = .ok (.iconst 0, 1) := by decide +kernel
theorem dX6_takesOrder_113 : decode cX6_takesOrder 113 = .ok (.istore_n 2, 1) := by decide +kernel
theorem dX6_takesOrder_114 : decode cX6_takesOrder 114 = .ok (.iload_n 2, 1) := by decide +kernel
theorem dX6_takesOrder_115 : decode cX6_takesOrder 115 = .ok (.iload_n 1, 1) := by decide +kernel
theorem dX6_takesOrder_116 : decode cX6_takesOrder 116 = .ok (.if_icmp .ge 36, 3) := by decide +kernel
theorem dX6_takesOrder_119 : decode cX6_takesOrder 119 = .ok (.iload_n 2, 1) := by decide +kernel
theorem dX6_takesOrder_120 : decode cX6_takesOrder 120 = .ok (.ifCond .le 21, 3) := by decide +kernel
theorem dX6_takesOrder_123 : decode cX6_takesOrder 123 = .ok (.aload_n 0, 1) := by decide +kernel
theorem dX6_takesOrder_124 : decode cX6_takesOrder 124 = .ok (.aload_n 0, 1) := by decide +kernel
theorem dX6_takesOrder_125 : decode cX6_takesOrder 125 = .ok (.invokevirtual 223, 3) := by decide +kernel
theorem dX6_takesOrder_128 : decode cX6_takesOrder 128 = .ok (.bipush 44, 2) := by decide +kernel
theorem dX6_takesOrder_130 : decode cX6_takesOrder 130 = .ok (.if_icmp .ne 7, 3) := by decide +kernel
theorem dX6_takesOrder_133 : decode cX6_takesOrder 133 = .ok (.iconst 1, 1) := by decide +kernel
theorem dX6_takesOrder_134 : decode cX6_takesOrder 134 = .ok (.goto 4, 3) := by decide +kernel
theorem dX6_takesOrder_137 : decode cX6_takesOrder 137 = .ok (.iconst 0, 1) := by decide +kernel
theorem dX6_takesOrder_138 : decode cX6_takesOrder 138 = .ok (.invokevirtual 232, 3) := by decide +kernel
theorem dX6_takesOrder_141 : decode cX6_takesOrder 141 = .ok (.aload_n 0, 1) := by decide +kernel
theorem dX6_takesOrder_142 : decode cX6_takesOrder 142 = .ok (.iload_n 2, 1) := by decide +kernel
theorem dX6_takesOrder_143 : decode cX6_takesOrder 143 = .ok (.invokevirtual 236, 3) := by decide +kernel
theorem dX6_takesOrder_146 : decode cX6_takesOrder 146 = .ok (.iinc 2 1, 3) := by decide +kernel
theorem dX6_takesOrder_149 : decode cX6_takesOrder 149 = .ok (.goto (-35), 3) := by decide +kernel
theorem dX6_takesOrder_152 : decode cX6_takesOrder 152 = .ok (.aload_n 0, 1) := by decide +kernel
theorem dX6_takesOrder_153 : decode cX6_takesOrder 153 = .ok (.aload_n 0, 1) := by decide +kernel
theorem dX6_takesOrder_154 : decode cX6_takesOrder 154 = .ok (.invokevirtual 223, 3) := by decide +kernel
theorem dX6_takesOrder_157 : decode cX6_takesOrder 157 = .ok (.bipush 59, 2) := by decide +kernel
theorem dX6_takesOrder_159 : decode cX6_takesOrder 159 = .ok (.if_icmp .ne 7, 3) := by decide +kernel
theorem dX6_takesOrder_162 : decode cX6_takesOrder 162 = .ok (.iconst 1, 1) := by decide +kernel
theorem dX6_takesOrder_163 : decode cX6_takesOrder 163 = .ok (.goto 4, 3) := by decide +kernel
theorem dX6_takesOrder_166 : decode cX6_takesOrder 166 = .ok (.iconst 0, 1) := by decide +kernel
theorem dX6_takesOrder_167 : decode cX6_takesOrder 167 = .ok (.invokevirtual 232, 3) := by decide +kernel
theorem dX6_takesOrder_170 : decode cX6_takesOrder 170 = .ok (.return_, 1) := by decide +kernel
set_option maxRecDepth 20000 in
theorem ggX6_errorOfOrder_X6_errorWrite : GoodIn wsX6_errorOfOrder wsX6_errorWrite := goodIn_r _ [7, 8, 9, 10, 11, 12, 6, 13, 14, 15, 16, 17, 18, 19, 20, 21, 22, 23, 24, 25, 26, 27, 28, 42, 43, 44, 45, 46, 47, 48, 49, 50, 51, 52, 53, 54, 55, 56, 57, 58, 59] (by decide +kernel) (by decide +kernel)
set_option maxRecDepth 20000 in
theorem gX6_errorOfOrder_X6_errorWrite : GoodIn wsX6_errorOfOrder (wsV RX6 123 RX6 yX6_errorWrite wsX6_errorWrite) := goodIn_app (goodIn_of _ (by decide +kernel)) ggX6_errorOfOrder_X6_errorWrite
set_option maxRecDepth 20000 in
theorem ggX6_errorOfOrder_X6_errorSwap : GoodIn wsX6_errorOfOrder wsX6_errorSwap := goodIn_r _ [32, 8, 9, 10, 11, 12, 6, 13, 14, 15, 16, 17, 21, 22, 23, 24, 25, 26, 27, 28, 42, 43, 44, 45, 46, 47, 48, 49, 50, 51, 52, 53, 54, 55, 56, 57, 58, 59] (by decide +kernel) (by decide +kernel)
set_option maxRecDepth 20000 in
theorem gX6_errorOfOrder_X6_errorSwap : GoodIn wsX6_errorOfOrder (wsV RX6 139 RX6 yX6_errorSwap wsX6_errorSwap) := goodIn_app (goodIn_of _ (by decide +kernel)) ggX6_errorOfOrder_X6_errorSwap
set_option maxRecDepth 20000 in
theorem ggX6_errorOfOrder_X6_errorDays : GoodIn wsX6_errorOfOrder wsX6_errorDays := goodIn_r _ [36, 8, 14, 37, 15, 16, 6, 17, 42, 43, 44, 45, 46, 47, 48, 49, 50, 51, 52, 53, 54, 55, 56, 57, 58, 59] (by decide +kernel) (by decide +kernel)
set_option maxRecDepth 20000 in
theorem gX6_errorOfOrder_X6_errorDays : GoodIn wsX6_errorOfOrder (wsV RX6 145 RX6 yX6_errorDays wsX6_errorDays) := goodIn_app (goodIn_of _ (by decide +kernel)) ggX6_errorOfOrder_X6_errorDays
set_option maxRecDepth 20000 in
theorem ggX6_errorOfOrder_X6_errorOf : GoodIn wsX6_errorOfOrder wsX6_errorOf := goodIn_r _ [41, 8, 9, 10, 11, 12, 6, 13, 14, 15, 16, 17, 21, 22, 23, 24, 25, 26, 27, 28, 42, 43, 44, 45, 46, 47, 48, 49, 50, 51, 52, 53, 54, 55, 56, 57, 58, 59] (by decide +kernel) (by decide +kernel)
set_option maxRecDepth 20000 in
theorem gX6_errorOfOrder_X6_errorOf : GoodIn wsX6_errorOfOrder (wsV RX6 129 RX6 yX6_errorOf wsX6_errorOf) := goodIn_app (goodIn_of _ (by decide +kernel)) ggX6_errorOfOrder_X6_errorOf
theorem dX6_errorOfOrder_0 : decode cX6_errorOfOrder 0 = .ok (.aload_n 0, 1) := by decide +kernel
theorem dX6_errorOfOrder_1 : decode cX6_errorOfOrder 1 = .ok (.getfield 229, 3) := by decide +kernel
theorem dX6_errorOfOrder_4 : decode cX6_errorOfOrder 4 = .ok (.lookupswitch 87 #[(100, 76), (115, 59), (119, 36)], 36) := by decide +kernel
theorem dX6_errorOfOrder_40 : decode cX6_errorOfOrder 40 = .ok (.aload_n 0, 1) := by decide +kernel
theorem dX6_errorOfOrder_41 : decode cX6_errorOfOrder 41 = .ok (.aload_n 0, 1) := by decide +kernel
theorem dX6_errorOfOrder_42 : decode cX6_errorOfOrder 42 = .ok (.getfield 28, 3) := by decide +kernel
theorem dX6_errorOfOrder_45 : decode cX6_errorOfOrder 45 = .ok (.iconst 0, 1) := by decide +kernel
theorem dX6_errorOfOrder_46 : decode cX6_errorOfOrder 46 = .ok (.iaload, 1) := by decide +kernel
theorem dX6_errorOfOrder_47 : decode cX6_errorOfOrder 47 = .ok (.aload_n 0, 1) := by decide +kernel
theorem dX6_errorOfOrder_48 : decode cX6_errorOfOrder 48 = .ok (.getfield 28, 3) := by decide +kernel
theorem dX6_errorOfOrder_51 : decode cX6_errorOfOrder 51 = .ok (.iconst 1, 1) := by decide +kernel
theorem dX6_errorOfOrder_52 : decode cX6_errorOfOrder 52 = .ok (.iaload, 1) := by decide +kernel
theorem dX6_errorOfOrder_53 : decode cX6_errorOfOrder 53 = .ok (.aload_n 0, 1) := by decide +kernel
theorem dX6_errorOfOrder_54 : decode cX6_errorOfOrder 54 = .ok (.getfield 28, 3) := by decide +kernel
theorem dX6_errorOfOrder_57 : decode cX6_errorOfOrder 57 = .ok (.iconst 2, 1) := by decide +kernel
theorem dX6_errorOfOrder_58 : decode cX6_errorOfOrder 58 = .ok (.iaload, 1) := by decide +kernel
theorem dX6_errorOfOrder_59 : decode cX6_errorOfOrder 59 = .ok (.invokevirtual 123, 3) := by decide +kernel
theorem dX6_errorOfOrder_62 : decode cX6_errorOfOrder 62 = .ok (.ireturn, 1) := by decide +kernel
theorem dX6_errorOfOrder_63 : decode cX6_errorOfOrder 63 = .ok (.aload_n 0, 1) := by decide +kernel
theorem dX6_errorOfOrder_64 : decode cX6_errorOfOrder 64 = .ok (.aload_n 0, 1) := by decide +kernel
theorem dX6_errorOfOrder_65 : decode cX6_errorOfOrder 65 = .ok (.getfield 28, 3) := by decide +kernel
theorem dX6_errorOfOrder_68 : decode cX6_errorOfOrder 68 = .ok (.iconst 0, 1) := by decide +kernel
theorem dX6_errorOfOrder_69 : decode cX6_errorOfOrder 69 = .ok (.iaload, 1) := by decide +kernel
theorem dX6_errorOfOrder_70 : decode cX6_errorOfOrder 70 = .ok (.aload_n 0, 1) := by decide +kernel
theorem dX6_errorOfOrder_71 : decode cX6_errorOfOrder 71 = .ok (.getfield 28, 3) := by decide +kernel
theorem dX6_errorOfOrder_74 : decode cX6_errorOfOrder 74 = .ok (.iconst 1, 1) := by decide +kernel
theorem dX6_errorOfOrder_75 : decode cX6_errorOfOrder 75 = .ok (.iaload, 1) := by decide +kernel
theorem dX6_errorOfOrder_76 : decode cX6_errorOfOrder 76 = .ok (.invokevirtual 139, 3) := by decide +kernel
theorem dX6_errorOfOrder_79 : decode cX6_errorOfOrder 79 = .ok (.ireturn, 1) := by decide +kernel
theorem dX6_errorOfOrder_80 : decode cX6_errorOfOrder 80 = .ok (.aload_n 0, 1) := by decide +kernel
theorem dX6_errorOfOrder_81 : decode cX6_errorOfOrder 81 = .ok (.aload_n 0, 1) := by decide +kernel
theorem dX6_errorOfOrder_82 : decode cX6_errorOfOrder 82 = .ok (.getfield 28, 3) := by decide +kernel
theorem dX6_errorOfOrder_85 : decode cX6_errorOfOrder 85 = .ok (.iconst 0, 1) := by decide +kernel
theorem dX6_errorOfOrder_86 : decode cX6_errorOfOrder 86 = .ok (.iaload, 1) := by decide +kernel
theorem dX6_errorOfOrder_87 : decode cX6_errorOfOrder 87 = .ok (.invokevirtual 145, 3) := by decide +kernel
theorem dX6_errorOfOrder_90 : decode cX6_errorOfOrder 90 = .ok (.ireturn, 1) := by decide +kernel
theorem dX6_errorOfOrder_91 : decode cX6_errorOfOrder 91 = .ok (.aload_n 0, 1) := by decide +kernel
theorem dX6_errorOfOrder_92 : decode cX6_errorOfOrder 92 = .ok (.aload_n 0, 1) := by decide +kernel
theorem dX6_errorOfOrder_93 : decode cX6_errorOfOrder 93 = .ok (.getfield 28, 3) := by decide +kernel
theorem dX6_errorOfOrder_96 : decode cX6_errorOfOrder 96 = .ok (.iconst 0, 1) := by decide +kernel
theorem dX6_errorOfOrder_97 : decode cX6_errorOfOrder 97 = .ok (.iaload, 1) := by decide +kernel
theorem dX6_errorOfOrder_98 : decode cX6_errorOfOrder 98 = .ok (.aload_n 0, 1) := by decide +kernel
theorem dX6_errorOfOrder_99 : decode cX6_errorOfOrder 99 = .ok (.getfield 229, 3) := by decide +kernel
theorem dX6_errorOfOrder_102 : decode cX6_errorOfOrder 102 = .ok (.bipush 109, 2) := by decide +kernel
theorem dX6_errorOfOrder_104 : decode cX6_errorOfOrder 104 = .ok (.if_icmp .eq 7, 3) := by decide +kernel
theorem dX6_errorOfOrder_107 : decode cX6_errorOfOrder 107 = .ok (.iconst 1, 1) := by decide +kernel
theorem dX6_errorOfOrder_108 : decode cX6_errorOfOrder 108 = .ok (.goto 4, 3) := by decide +kernel
theorem dX6_errorOfOrder_111 : decode cX6_errorOfOrder 111 = .ok (.iconst 0, 1) := by decide +kernel
theorem dX6_errorOfOrder_112 : decode cX6_errorOfOrder 112 = .ok (.invokevirtual 129, 3) := by decide +kernel
theorem dX6_errorOfOrder_115 : decode cX6_errorOfOrder 115 = .ok (.ireturn, 1) := by decide +kernel
set_option maxRecDepth 20000 in
theorem ggX6_doesOrder_X6_goWrite : GoodIn wsX6_doesOrder wsX6_goWrite := goodIn_r _ [8, 3, 9, 10, 11, 7, 12, 13, 14, 15, 16, 17, 18, 19, 20, 21, 22, 23, 24, 25, 26, 27, 28, 29, 30, 31, 32, 33, 34, 35, 36, 37, 38, 39, 40, 41, 42, 43, 44, 45, 46, 47, 48, 49, 50, 51, 52, 53, 54, 55, 56, 57, 98, 99, 100, 101, 102, 103, 104, 105, 106, 107, 108, 109, 110, 111, 112, 113, 114, 115] (by decide +kernel) (by decide +kernel)
set_option maxRecDepth 20000 in
theorem gX6_doesOrder_X6_goWrite : GoodIn wsX6_doesOrder (wsV RX6 126 RX6 yX6_goWrite wsX6_goWrite) := goodIn_app (goodIn_of _ (by decide +kernel)) ggX6_doesOrder_X6_goWrite
set_option maxRecDepth 20000 in
theorem ggX6_doesOrder_X6_goSwap : GoodIn wsX6_doesOrder wsX6_goSwap := goodIn_r _ [61, 3, 25, 26, 27, 7, 28, 9, 10, 11, 12, 98, 99, 100, 101, 102, 103, 104, 105, 106, 107, 108, 109, 110, 111, 112, 113, 114, 115] (by decide +kernel) (by decide +kernel)
set_option maxRecDepth 20000 in
theorem gX6_doesOrder_X6_goSwap : GoodIn wsX6_doesOrder (wsV RX6 142 RX6 yX6_goSwap wsX6_goSwap) := goodIn_app (goodIn_of _ (by decide +kernel)) ggX6_doesOrder_X6_goSwap
set_option maxRecDepth 20000 in
theorem ggX6_doesOrder_X6_goLose : GoodIn wsX6_doesOrder wsX6_goLose := goodIn_r _ [65, 3, 66, 67, 68, 7, 69, 38, 39, 40, 41, 25, 26, 27, 28, 70, 71, 72, 73, 74, 75, 76, 77, 33, 17, 18, 19, 20, 21, 22, 23, 24, 29, 30, 31, 32, 34, 35, 36, 37, 42, 43, 44, 45, 46, 47, 48, 49, 78, 79, 80, 81, 82, 83, 84, 85, 9, 10, 11, 12, 54, 55, 56, 57, 98, 99, 100, 101, 102, 103, 104, 105, 106, 107, 108, 109, 110, 111, 112, 113, 114, 115] (by decide +kernel) (by decide +kernel)
set_option maxRecDepth 20000 in
theorem gX6_doesOrder_X6_goLose : GoodIn wsX6_doesOrder (wsV RX6 133 RX6 yX6_goLose wsX6_goLose) := goodIn_app (goodIn_of _ (by decide +kernel)) ggX6_doesOrder_X6_goLose
set_option maxRecDepth 20000 in
theorem ggX6_doesOrder_X6_goMend : GoodIn wsX6_doesOrder wsX6_goMend := goodIn_r _ [89, 3, 66, 67, 68, 7, 69, 38, 39, 40, 41, 25, 26, 27, 28, 70, 71, 72, 73, 74, 75, 76, 77, 33, 17, 18, 19, 20, 21, 22, 23, 24, 29, 30, 31, 32, 34, 35, 36, 37, 42, 43, 44, 45, 46, 47, 48, 49, 78, 79, 80, 81, 82, 83, 84, 85, 90, 91, 92, 93, 9, 10, 11, 12, 94, 95, 96, 97, 13, 14, 15, 16, 50, 51, 52, 53, 54, 55, 56, 57, 98, 99, 100, 101, 102, 103, 104, 105, 106, 107, 108, 109, 110, 111, 112, 113, 114, 115] (by decide +kernel) (by decide +kernel)
set_option maxRecDepth 20000 in
theorem gX6_doesOrder_X6_goMend : GoodIn wsX6_doesOrder (wsV RX6 136 RX6 yX6_goMend wsX6_goMend) := goodIn_app (goodIn_of _ (by decide +kernel)) ggX6_doesOrder_X6_goMend
set_option maxRecDepth 20000 in
theorem ggX6_doesOrder_X6_laysRow : GoodIn wsX6_doesOrder wsX6_laysRow := goodIn_r _ [97, 13, 14, 15, 7, 16, 3, 17, 18, 19, 20, 21, 22, 23, 24, 25, 26, 27, 28, 29, 30, 31, 32, 33, 34, 35, 36, 37, 38, 39, 40, 41, 42, 43, 44, 45, 46, 47, 48, 49, 50, 51, 52, 53, 9, 10, 11, 12, 54, 55, 56, 57, 98, 99, 100, 101, 102, 103, 104, 105, 106, 107, 108, 109, 110, 111, 112, 113, 114, 115] (by decide +kernel) (by decide +kernel)
set_option maxRecDepth 20000 in
theorem gX6_doesOrder_X6_laysRow : GoodIn wsX6_doesOrder (wsV RX6 102 RX6 yX6_laysRow wsX6_laysRow) := goodIn_app (goodIn_of _ (by decide +kernel)) ggX6_doesOrder_X6_laysRow
theorem dX6_doesOrder_0 : decode cX6_doesOrder 0 = .ok (.iconst 0, 1) := by decide +kernel
theorem dX6_doesOrder_1 : decode cX6_doesOrder 1 = .ok (.istore_n 1, 1) := by decide +kernel
theorem dX6_doesOrder_2 : decode cX6_doesOrder 2 = .ok (.aload_n 0, 1) := by decide +kernel
theorem dX6_doesOrder_3 : decode cX6_doesOrder 3 = .ok (.getfield 229, 3) := by decide +kernel
theorem dX6_doesOrder_6 : decode cX6_doesOrder 6 = .ok (.lookupswitch 142 #[(100, 96), (108, 114), (109, 128), (115, 76), (119, 50)], 50) := by decide +kernel
theorem dX6_doesOrder_56 : decode cX6_doesOrder 56 = .ok (.aload_n 0, 1) := by decide +kernel
theorem dX6_doesOrder_57 : decode cX6_doesOrder 57 = .ok (.aload_n 0, 1) := by decide +kernel
theorem dX6_doesOrder_58 : decode cX6_doesOrder 58 = .ok (.getfield 28, 3) := by decide +kernel
theorem dX6_doesOrder_61 : decode cX6_doesOrder 61 = .ok (.iconst 0, 1) := by decide +kernel
theorem dX6_doesOrder_62 : decode cX6_doesOrder 62 = .ok (.iaload, 1) := by decide +kernel
theorem dX6_doesOrder_63 : decode cX6_doesOrder 63 = .ok (.aload_n 0, 1) := by decide +kernel
theorem dX6_doesOrder_64 : decode cX6_doesOrder 64 = .ok (.getfield 28, 3) := by decide +kernel
theorem dX6_doesOrder_67 : decode cX6_doesOrder 67 = .ok (.iconst 1, 1) := by decide +kernel
theorem dX6_doesOrder_68 : decode cX6_doesOrder 68 = .ok (.iaload, 1) := by decide +kernel
theorem dX6_doesOrder_69 : decode cX6_doesOrder 69 = .ok (.aload_n 0, 1) := by decide +kernel
theorem dX6_doesOrder_70 : decode cX6_doesOrder 70 = .ok (.getfield 28, 3) := by decide +kernel
theorem dX6_doesOrder_73 : decode cX6_doesOrder 73 = .ok (.iconst 2, 1) := by decide +kernel
theorem dX6_doesOrder_74 : decode cX6_doesOrder 74 = .ok (.iaload, 1) := by decide +kernel
theorem dX6_doesOrder_75 : decode cX6_doesOrder 75 = .ok (.invokevirtual 126, 3) := by decide +kernel
theorem dX6_doesOrder_78 : decode cX6_doesOrder 78 = .ok (.istore_n 1, 1) := by decide +kernel
theorem dX6_doesOrder_79 : decode cX6_doesOrder 79 = .ok (.goto 80, 3) := by decide +kernel
theorem dX6_doesOrder_82 : decode cX6_doesOrder 82 = .ok (.aload_n 0, 1) := by decide +kernel
theorem dX6_doesOrder_83 : decode cX6_doesOrder 83 = .ok (.aload_n 0, 1) := by decide +kernel
theorem dX6_doesOrder_84 : decode cX6_doesOrder 84 = .ok (.getfield 28, 3) := by decide +kernel
theorem dX6_doesOrder_87 : decode cX6_doesOrder 87 = .ok (.iconst 0, 1) := by decide +kernel
theorem dX6_doesOrder_88 : decode cX6_doesOrder 88 = .ok (.iaload, 1) := by decide +kernel
theorem dX6_doesOrder_89 : decode cX6_doesOrder 89 = .ok (.aload_n 0, 1) := by decide +kernel
theorem dX6_doesOrder_90 : decode cX6_doesOrder 90 = .ok (.getfield 28, 3) := by decide +kernel
theorem dX6_doesOrder_93 : decode cX6_doesOrder 93 = .ok (.iconst 1, 1) := by decide +kernel
theorem dX6_doesOrder_94 : decode cX6_doesOrder 94 = .ok (.iaload, 1) := by decide +kernel
theorem dX6_doesOrder_95 : decode cX6_doesOrder 95 = .ok (.invokevirtual 142, 3) := by decide +kernel
theorem dX6_doesOrder_98 : decode cX6_doesOrder 98 = .ok (.istore_n 1, 1) := by decide +kernel
theorem dX6_doesOrder_99 : decode cX6_doesOrder 99 = .ok (.goto 60, 3) := by decide +kernel
theorem dX6_doesOrder_102 : decode cX6_doesOrder 102 = .ok (.aload_n 0, 1) := by decide +kernel
theorem dX6_doesOrder_103 : decode cX6_doesOrder 103 = .ok (.getfield 7, 3) := by decide +kernel
theorem dX6_doesOrder_106 : decode cX6_doesOrder 106 = .ok (.iconst 1, 1) := by decide +kernel
theorem dX6_doesOrder_107 : decode cX6_doesOrder 107 = .ok (.dup2, 1) := by decide +kernel
theorem dX6_doesOrder_108 : decode cX6_doesOrder 108 = .ok (.iaload, 1) := by decide +kernel
theorem dX6_doesOrder_109 : decode cX6_doesOrder 109 = .ok (.aload_n 0, 1) := by decide +kernel
theorem dX6_doesOrder_110 : decode cX6_doesOrder 110 = .ok (.getfield 28, 3) := by decide +kernel
theorem dX6_doesOrder_113 : decode cX6_doesOrder 113 = .ok (.iconst 0, 1) := by decide +kernel
theorem dX6_doesOrder_114 : decode cX6_doesOrder 114 = .ok (.iaload, 1) := by decide +kernel
theorem dX6_doesOrder_115 : decode cX6_doesOrder 115 = .ok (.iadd, 1) := by decide +kernel
theorem dX6_doesOrder_116 : decode cX6_doesOrder 116 = .ok (.iastore, 1) := by decide +kernel
theorem dX6_doesOrder_117 : decode cX6_doesOrder 117 = .ok (.goto 42, 3) := by decide +kernel
theorem dX6_doesOrder_120 : decode cX6_doesOrder 120 = .ok (.aload_n 0, 1) := by decide +kernel
theorem dX6_doesOrder_121 : decode cX6_doesOrder 121 = .ok (.aload_n 0, 1) := by decide +kernel
theorem dX6_doesOrder_122 : decode cX6_doesOrder 122 = .ok (.getfield 28, 3) := by decide +kernel
theorem dX6_doesOrder_125 : decode cX6_doesOrder 125 = .ok (.iconst 0, 1) := by decide +kernel
theorem dX6_doesOrder_126 : decode cX6_doesOrder 126 = .ok (.iaload, 1) := by decide +kernel
theorem dX6_doesOrder_127 : decode cX6_doesOrder 127 = .ok (.invokevirtual 133, 3) := by decide +kernel
theorem dX6_doesOrder_130 : decode cX6_doesOrder 130 = .ok (.istore_n 1, 1) := by decide +kernel
theorem dX6_doesOrder_131 : decode cX6_doesOrder 131 = .ok (.goto 28, 3) := by decide +kernel
theorem dX6_doesOrder_134 : decode cX6_doesOrder 134 = .ok (.aload_n 0, 1) := by decide +kernel
theorem dX6_doesOrder_135 : decode cX6_doesOrder 135 = .ok (.aload_n 0, 1) := by decide +kernel
theorem dX6_doesOrder_136 : decode cX6_doesOrder 136 = .ok (.getfield 28, 3) := by decide +kernel
theorem dX6_doesOrder_139 : decode cX6_doesOrder 139 = .ok (.iconst 0, 1) := by decide +kernel
theorem dX6_doesOrder_140 : decode cX6_doesOrder 140 = .ok (.iaload, 1) := by decide +kernel
theorem dX6_doesOrder_141 : decode cX6_doesOrder 141 = .ok (.invokevirtual 136, 3) := by decide +kernel
theorem dX6_doesOrder_144 : decode cX6_doesOrder 144 = .ok (.istore_n 1, 1) := by decide +kernel
theorem dX6_doesOrder_145 : decode cX6_doesOrder 145 = .ok (.goto 14, 3) := by decide +kernel
theorem dX6_doesOrder_148 : decode cX6_doesOrder 148 = .ok (.aload_n 0, 1) := by decide +kernel
theorem dX6_doesOrder_149 : decode cX6_doesOrder 149 = .ok (.aload_n 0, 1) := by decide +kernel
theorem dX6_doesOrder_150 : decode cX6_doesOrder 150 = .ok (.getfield 28, 3) := by decide +kernel
theorem dX6_doesOrder_153 : decode cX6_doesOrder 153 = .ok (.iconst 0, 1) := by decide +kernel
theorem dX6_doesOrder_154 : decode cX6_doesOrder 154 = .ok (.iaload, 1) := by decide +kernel
theorem dX6_doesOrder_155 : decode cX6_doesOrder 155 = .ok (.invokevirtual 102, 3) := by decide +kernel
theorem dX6_doesOrder_158 : decode cX6_doesOrder 158 = .ok (.istore_n 1, 1) := by decide +kernel
theorem dX6_doesOrder_159 : decode cX6_doesOrder 159 = .ok (.return_, 1) := by decide +kernel
set_option maxRecDepth 20000 in
theorem ggX6_doesAll_X6_takesOrder : GoodIn wsX6_doesAll wsX6_takesOrder := goodIn_r _ [11, 2, 5, 4, 12, 13, 14, 15, 10, 16, 3, 17, 18, 19, 20, 21, 22, 23, 24, 25, 26, 27, 28, 29, 158, 159, 160, 161, 162, 163, 164, 165, 166, 167, 168, 169, 170, 171, 172, 173, 174, 175] (by decide +kernel) (by decide +kernel)
set_option maxRecDepth 20000 in
theorem gX6_doesAll_X6_takesOrder : GoodIn wsX6_doesAll (wsV RX6 243 RX6 yX6_takesOrder wsX6_takesOrder) := goodIn_app (goodIn_of _ (by decide +kernel)) ggX6_doesAll_X6_takesOrder
set_option maxRecDepth 20000 in
theorem ggX6_doesAll_X6_errorOfOrder : GoodIn wsX6_doesAll wsX6_errorOfOrder := goodIn_r _ [33, 12, 26, 34, 35, 36, 10, 37, 38, 39, 40, 41, 42, 43, 44, 27, 28, 29, 45, 46, 47, 48, 49, 50, 51, 52, 53, 54, 55, 56, 57, 58, 59, 60, 61, 62, 63, 64, 65, 66, 67, 68, 158, 159, 160, 161, 162, 163, 164, 165, 166, 167, 168, 169, 170, 171, 172, 173, 174, 175] (by decide +kernel) (by decide +kernel)
set_option maxRecDepth 20000 in
theorem gX6_doesAll_X6_errorOfOrder : GoodIn wsX6_doesAll (wsV RX6 246 RX6 yX6_errorOfOrder wsX6_errorOfOrder) := goodIn_app (goodIn_of _ (by decide +kernel)) ggX6_doesAll_X6_errorOfOrder
set_option maxRecDepth 20000 in
theorem ggX6_doesAll_X6_doesOrder : GoodIn wsX6_doesAll wsX6_doesOrder := goodIn_r _ [72, 12, 26, 44, 73, 74, 75, 10, 76, 77, 78, 79, 80, 81, 82, 83, 84, 85, 86, 87, 88, 89, 90, 91, 92, 52, 53, 54, 55, 93, 94, 95, 96, 97, 98, 99, 100, 101, 48, 49, 50, 51, 102, 103, 104, 105, 106, 107, 108, 109, 110, 111, 112, 113, 114, 115, 116, 117, 118, 119, 120, 121, 122, 123, 124, 125, 126, 127, 128, 129, 130, 131, 132, 133, 134, 135, 136, 137, 138, 139, 140, 141, 142, 143, 144, 145, 146, 147, 148, 149, 150, 151, 152, 153, 154, 155, 156, 157, 158, 159, 160, 161, 162, 163, 164, 165, 166, 167, 168, 169, 170, 171, 172, 173, 174, 175] (by decide +kernel) (by decide +kernel)
set_option maxRecDepth 20000 in
theorem gX6_doesAll_X6_doesOrder : GoodIn wsX6_doesAll (wsV RX6 252 RX6 yX6_doesOrder wsX6_doesOrder) := goodIn_app (goodIn_of _ (by decide +kernel)) ggX6_doesAll_X6_doesOrder
theorem dX6_doesAll_0 : decode cX6_doesAll 0 = .ok (.iconst 0, 1) := by decide +kernel
theorem dX6_doesAll_1 : decode cX6_doesAll 1 = .ok (.istore_n 1, 1) := by decide +kernel
theorem dX6_doesAll_2 : decode cX6_doesAll 2 = .ok (.aload_n 0, 1) := by decide +kernel
theorem dX6_doesAll_3 : decode cX6_doesAll 3 = .ok (.iconst 0, 1) := by decide +kernel
theorem dX6_doesAll_4 : decode cX6_doesAll 4 = .ok (.putfield 240, 3) := by decide +kernel
theorem dX6_doesAll_7 : decode cX6_doesAll 7 = .ok (.aload_n 0, 1) := by decide +kernel
theorem dX6_doesAll_8 : decode cX6_doesAll 8 = .ok (.iconst 0, 1) := by decide +kernel
theorem dX6_doesAll_9 : decode cX6_doesAll 9 = .ok (.putfield 216, 3) := by decide +kernel
theorem dX6_doesAll_12 : decode cX6_doesAll 12 = .ok (.aload_n 0, 1) := by decide +kernel
theorem dX6_doesAll_13 : decode cX6_doesAll 13 = .ok (.getfield 240, 3) := by decide +kernel
theorem dX6_doesAll_16 : decode cX6_doesAll 16 = .ok (.ifCond .ne 98, 3) := by decide +kernel
theorem dX6_doesAll_19 : decode cX6_doesAll 19 = .ok (.aload_n 0, 1) := by decide +kernel
theorem dX6_doesAll_20 : decode cX6_doesAll 20 = .ok (.getfield 216, 3) := by decide +kernel
theorem dX6_doesAll_23 : decode cX6_doesAll 23 = .ok (.aload_n 0, 1) := by decide +kernel
theorem dX6_doesAll_24 : decode cX6_doesAll 24 = .ok (.getfield 213, 3) := by decide +kernel
theorem dX6_doesAll_27 : decode cX6_doesAll 27 = .ok (.if_icmp .ge 87, 3) := by decide +kernel
theorem dX6_doesAll_30 : decode cX6_doesAll 30 = .ok (.aload_n 0, 1) := by decide +kernel
theorem dX6_doesAll_31 : decode cX6_doesAll 31 = .ok (.invokevirtual 243, 3) := by decide +kernel
theorem dX6_doesAll_34 : decode cX6_doesAll 34 = .ok (.aload_n 0, 1) := by decide +kernel
theorem dX6_doesAll_35 : decode cX6_doesAll 35 = .ok (.getfield 219, 3) := by decide +kernel
theorem dX6_doesAll_38 : decode cX6_doesAll 38 = .ok (.ifCond .eq 10, 3) := by decide +kernel
theorem dX6_doesAll_41 : decode cX6_doesAll 41 = .ok (.aload_n 0, 1) := by decide +kernel
theorem dX6_doesAll_42 : decode cX6_doesAll 42 = .ok (.invokevirtual 246, 3) := by decide +kernel
theorem dX6_doesAll_45 : decode cX6_doesAll 45 = .ok (.goto 4, 3) := by decide +kernel
theorem dX6_doesAll_48 : decode cX6_doesAll 48 = .ok (.iconst 0, 1) := by decide +kernel
theorem dX6_doesAll_49 : decode cX6_doesAll 49 = .ok (.istore_n 2, 1) := by decide +kernel
theorem dX6_doesAll_50 : decode cX6_doesAll 50 = .ok (.aload_n 0, 1) := by decide +kernel
theorem dX6_doesAll_51 : decode cX6_doesAll 51 = .ok (.getfield 219, 3) := by decide +kernel
theorem dX6_doesAll_54 : decode cX6_doesAll 54 = .ok (.ifCond .eq 7, 3) := by decide +kernel
theorem dX6_doesAll_57 : decode cX6_doesAll 57 = .ok (.iload_n 2, 1) := by decide +kernel
theorem dX6_doesAll_58 : decode cX6_doesAll 58 = .ok (.ifCond .ge 46, 3) := by decide +kernel
theorem dX6_doesAll_61 : decode cX6_doesAll 61 = .ok (.aload_n 0, 1) := by decide +kernel
theorem dX6_doesAll_62 : decode cX6_doesAll 62 = .ok (.aload_n 0, 1) := by decide +kernel
theorem dX6_doesAll_63 : decode cX6_doesAll 63 = .ok (.getfield 219, 3) := by decide +kernel
theorem dX6_doesAll_66 : decode cX6_doesAll 66 = .ok (.ifCond .eq 7, 3) := by decide +kernel
theorem dX6_doesAll_69 : decode cX6_doesAll 69 = .ok (.iconst 2, 1) := by decide +kernel
theorem dX6_doesAll_70 : decode cX6_doesAll 70 = .ok (.goto 4, 3) := by decide +kernel
theorem dX6_doesAll_73 : decode cX6_doesAll 73 = .ok (.iconst 1, 1) := by decide +kernel
theorem dX6_doesAll_74 : decode cX6_doesAll 74 = .ok (.putfield 240, 3) := by decide +kernel
theorem dX6_doesAll_77 : decode cX6_doesAll 77 = .ok (.aload_n 0, 1) := by decide +kernel
theorem dX6_doesAll_78 : decode cX6_doesAll 78 = .ok (.aload_n 0, 1) := by decide +kernel
theorem dX6_doesAll_79 : decode cX6_doesAll 79 = .ok (.getfield 219, 3) := by decide +kernel
theorem dX6_doesAll_82 : decode cX6_doesAll 82 = .ok (.ifCond .eq 7, 3) := by decide +kernel
theorem dX6_doesAll_85 : decode cX6_doesAll 85 = .ok (.iload_n 2, 1) := by decide +kernel
theorem dX6_doesAll_86 : decode cX6_doesAll 86 = .ok (.goto 12, 3) := by decide +kernel
theorem dX6_doesAll_89 : decode cX6_doesAll 89 = .ok (.aload_n 0, 1) := by decide +kernel
theorem dX6_doesAll_90 : decode cX6_doesAll 90 = .ok (.getfield 216, 3) := by decide +kernel
theorem dX6_doesAll_93 : decode cX6_doesAll 93 = .ok (.aload_n 0, 1) := by decide +kernel
theorem dX6_doesAll_94 : decode cX6_doesAll 94 = .ok (.getfield 226, 3) := by decide +kernel
theorem dX6_doesAll_97 : decode cX6_doesAll 97 = .ok (.isub, 1) := by decide +kernel
theorem dX6_doesAll_98 : decode cX6_doesAll 98 = .ok (.putfield 249, 3) := by decide +kernel
theorem dX6_doesAll_101 : decode cX6_doesAll 101 = .ok (.goto 10, 3) := by decide +kernel
theorem dX6_doesAll_104 : decode cX6_doesAll 104 = .ok (.aload_n 0, 1) := by decide +kernel
theorem dX6_doesAll_105 : decode cX6_doesAll 105 = .ok (.invokevirtual 252, 3) := by decide +kernel
theorem dX6_doesAll_108 : decode cX6_doesAll 108 = .ok (.iinc 1 1, 3) := by decide +kernel
theorem dX6_doesAll_111 : decode cX6_doesAll 111 = .ok (.goto (-99), 3) := by decide +kernel
theorem dX6_doesAll_114 : decode cX6_doesAll 114 = .ok (.iload_n 1, 1) := by decide +kernel
theorem dX6_doesAll_115 : decode cX6_doesAll 115 = .ok (.ireturn, 1) := by decide +kernel
set_option maxRecDepth 20000 in
theorem ggX6_fault_X6_in : GoodIn wsX6_fault wsX6_in := goodIn_r _ [11] (by decide +kernel) (by decide +kernel)
set_option maxRecDepth 20000 in
theorem gX6_fault_X6_in : GoodIn wsX6_fault (va_wsS RX6 43 yX6_in wsX6_in) := goodIn_app (goodIn_of _ (by decide +kernel)) ggX6_fault_X6_in
set_option maxRecDepth 20000 in
theorem ggX6_fault_X6_copies : GoodIn wsX6_fault wsX6_copies := goodIn_r _ [14] (by decide +kernel) (by decide +kernel)
set_option maxRecDepth 20000 in
theorem gX6_fault_X6_copies : GoodIn wsX6_fault (va_wsS RX6 39 yX6_copies wsX6_copies) := goodIn_app (goodIn_of _ (by decide +kernel)) ggX6_fault_X6_copies
set_option maxRecDepth 20000 in
theorem ggX6_fault_X6_doesAll : GoodIn wsX6_fault wsX6_doesAll := goodIn_r _ [18, 4, 19, 20, 21, 6, 7, 22, 23, 24, 10, 25, 26, 27, 28, 29, 30, 31, 32, 33, 34, 35, 36, 37, 38, 39, 40, 8, 9, 11, 41, 42, 43, 44, 45, 46, 47, 48, 1, 49, 50, 51, 52, 53, 2, 54, 55, 56, 57, 58, 59, 60, 61, 62, 63, 64, 65, 66, 67, 68, 69, 70, 71, 72, 73, 74, 75, 76, 77, 78, 79, 80, 81, 82, 83, 84, 85, 86, 87, 88, 89, 90, 91, 92, 93, 94, 95, 96, 97, 98, 99, 100, 101, 102, 103, 104, 105, 5, 106, 107, 108, 109, 110, 111, 112, 113, 114, 115, 116, 117, 118, 119, 120, 121, 122, 123, 124, 125, 126, 127, 128, 129, 130, 131, 132, 133, 134, 135, 136, 137, 138, 139, 140, 141, 142, 143, 144, 145, 146, 147, 148, 149, 150, 151, 152, 153, 154, 155, 156, 157, 158, 159, 160, 161, 162, 163, 164, 165, 166, 167, 168, 169, 170, 171, 172, 173, 174, 175, 176, 177, 178, 179, 180, 181, 182, 183] (by decide +kernel) (by decide +kernel)
set_option maxRecDepth 20000 in
theorem gX6_fault_X6_doesAll : GoodIn wsX6_fault (wsV RX6 255 RX6 yX6_doesAll wsX6_doesAll) := goodIn_app (goodIn_of _ (by decide +kernel)) ggX6_fault_X6_doesAll
theorem dX6_fault_0 : decode cX6_fault 0 = .ok (.iload_n 1, 1) := by decide +kernel
theorem dX6_fault_1 : decode cX6_fault 1 = .ok (.iconst 0, 1) := by decide +kernel
theorem dX6_fault_2 : decode cX6_fault 2 = .ok (.iconst 2, 1) := by decide +kernel
theorem dX6_fault_3 : decode cX6_fault 3 = .ok (.invokestatic 43, 3) := by decide +kernel
theorem dX6_fault_6 : decode cX6_fault 6 = .ok (.ifCond .ne 6, 3) := by decide +kernel
theorem dX6_fault_9 : decode cX6_fault 9 = .ok (.ldc 114, 2) := by decide +kernel
theorem dX6_fault_11 : decode cX6_fault 11 = .ok (.ireturn, 1) := by decide +kernel
theorem dX6_fault_12 : decode cX6_fault 12 = .ok (.aload_n 0, 1) := by decide +kernel
theorem dX6_fault_13 : decode cX6_fault 13 = .ok (.getfield 7, 3) := by decide +kernel
theorem dX6_fault_16 : decode cX6_fault 16 = .ok (.iconst 0, 1) := by decide +kernel
theorem dX6_fault_17 : decode cX6_fault 17 = .ok (.aload_n 0, 1) := by decide +kernel
theorem dX6_fault_18 : decode cX6_fault 18 = .ok (.getfield 16, 3) := by decide +kernel
theorem dX6_fault_21 : decode cX6_fault 21 = .ok (.iconst 0, 1) := by decide +kernel
theorem dX6_fault_22 : decode cX6_fault 22 = .ok (.invokestatic 39, 3) := by decide +kernel
theorem dX6_fault_25 : decode cX6_fault 25 = .ok (.aload_n 0, 1) := by decide +kernel
theorem dX6_fault_26 : decode cX6_fault 26 = .ok (.invokevirtual 255, 3) := by decide +kernel
theorem dX6_fault_29 : decode cX6_fault 29 = .ok (.istore_n 2, 1) := by decide +kernel
theorem dX6_fault_30 : decode cX6_fault 30 = .ok (.aload_n 0, 1) := by decide +kernel
theorem dX6_fault_31 : decode cX6_fault 31 = .ok (.getfield 16, 3) := by decide +kernel
theorem dX6_fault_34 : decode cX6_fault 34 = .ok (.iconst 0, 1) := by decide +kernel
theorem dX6_fault_35 : decode cX6_fault 35 = .ok (.aload_n 0, 1) := by decide +kernel
theorem dX6_fault_36 : decode cX6_fault 36 = .ok (.getfield 7, 3) := by decide +kernel
theorem dX6_fault_39 : decode cX6_fault 39 = .ok (.iconst 0, 1) := by decide +kernel
theorem dX6_fault_40 : decode cX6_fault 40 = .ok (.invokestatic 39, 3) := by decide +kernel
theorem dX6_fault_43 : decode cX6_fault 43 = .ok (.aload_n 0, 1) := by decide +kernel
theorem dX6_fault_44 : decode cX6_fault 44 = .ok (.getfield 240, 3) := by decide +kernel
theorem dX6_fault_47 : decode cX6_fault 47 = .ok (.ifCond .ne 8, 3) := by decide +kernel
theorem dX6_fault_50 : decode cX6_fault 50 = .ok (.ldc 51, 2) := by decide +kernel
theorem dX6_fault_52 : decode cX6_fault 52 = .ok (.goto 30, 3) := by decide +kernel
theorem dX6_fault_55 : decode cX6_fault 55 = .ok (.iload_n 1, 1) := by decide +kernel
theorem dX6_fault_56 : decode cX6_fault 56 = .ok (.ifCond .ne 10, 3) := by decide +kernel
theorem dX6_fault_59 : decode cX6_fault 59 = .ok (.aload_n 0, 1) := by decide +kernel
theorem dX6_fault_60 : decode cX6_fault 60 = .ok (.getfield 226, 3) := by decide +kernel
theorem dX6_fault_63 : decode cX6_fault 63 = .ok (.goto 19, 3) := by decide +kernel
theorem dX6_fault_66 : decode cX6_fault 66 = .ok (.iload_n 1, 1) := by decide +kernel
theorem dX6_fault_67 : decode cX6_fault 67 = .ok (.iconst 1, 1) := by decide +kernel
theorem dX6_fault_68 : decode cX6_fault 68 = .ok (.if_icmp .ne 10, 3) := by decide +kernel
theorem dX6_fault_71 : decode cX6_fault 71 = .ok (.aload_n 0, 1) := by decide +kernel
theorem dX6_fault_72 : decode cX6_fault 72 = .ok (.getfield 240, 3) := by decide +kernel
theorem dX6_fault_75 : decode cX6_fault 75 = .ok (.goto 7, 3) := by decide +kernel
theorem dX6_fault_78 : decode cX6_fault 78 = .ok (.aload_n 0, 1) := by decide +kernel
theorem dX6_fault_79 : decode cX6_fault 79 = .ok (.getfield 249, 3) := by decide +kernel
theorem dX6_fault_82 : decode cX6_fault 82 = .ok (.ireturn, 1) := by decide +kernel
set_option maxRecDepth 20000 in
theorem ggX6_play_X6_copies : GoodIn wsX6_play wsX6_copies := goodIn_r _ [8] (by decide +kernel) (by decide +kernel)
set_option maxRecDepth 20000 in
theorem gX6_play_X6_copies : GoodIn wsX6_play (va_wsS RX6 39 yX6_copies wsX6_copies) := goodIn_app (goodIn_of _ (by decide +kernel)) ggX6_play_X6_copies
set_option maxRecDepth 20000 in
theorem ggX6_play_X6_doesAll : GoodIn wsX6_play wsX6_doesAll := goodIn_r _ [12, 3, 13, 14, 15, 16, 17, 18, 19, 20, 7, 21, 22, 23, 24, 25, 26, 27, 28, 29, 30, 31, 32, 33, 34, 35, 36, 37, 38, 39, 40, 41, 42, 43, 44, 45, 46, 47, 48, 4, 49, 50, 51, 52, 1, 53, 54, 55, 56, 57, 58, 59, 60, 61, 62, 63, 64, 65, 66, 67, 68, 69, 70, 71, 72, 73, 74, 75, 76, 77, 78, 79, 80, 81, 82, 83, 84, 85, 86, 87, 88, 89, 90, 91, 92, 93, 94, 95, 96, 97, 98, 99, 100, 101, 102, 103, 104, 105, 106, 107, 108, 109, 110, 111, 112, 113, 114, 115, 116, 117, 118, 119, 120, 121, 122, 123, 124, 125, 126, 127, 128, 129, 130, 131, 132, 133, 134, 135, 136, 137, 138, 139, 140, 141, 142, 143, 144, 145, 146, 147, 148, 149, 150, 151, 152, 153, 154, 155, 156, 157, 158, 159, 160, 161, 162, 163, 164, 165, 172, 173, 174, 175, 176, 177, 178, 179, 180, 181, 182, 183, 184, 185, 186, 187, 188, 189] (by decide +kernel) (by decide +kernel)
set_option maxRecDepth 20000 in
theorem gX6_play_X6_doesAll : GoodIn wsX6_play (wsV RX6 255 RX6 yX6_doesAll wsX6_doesAll) := goodIn_app (goodIn_of _ (by decide +kernel)) ggX6_play_X6_doesAll
set_option maxRecDepth 20000 in
theorem ggX6_play_X6_records : GoodIn wsX6_play wsX6_records := goodIn_r _ [169, 170, 171, 1, 5, 6, 7, 8, 172, 173, 174, 175, 176, 177, 178, 179, 180, 181, 182, 183, 184, 185, 186, 187, 188, 189] (by decide +kernel) (by decide +kernel)
set_option maxRecDepth 20000 in
theorem gX6_play_X6_records : GoodIn wsX6_play (wsV RX6 120 RX6 yX6_records wsX6_records) := goodIn_app (goodIn_of _ (by decide +kernel)) ggX6_play_X6_records
theorem dX6_play_0 : decode cX6_play 0 = .ok (.aload_n 0, 1) := by decide +kernel
theorem dX6_play_1 : decode cX6_play 1 = .ok (.getfield 7, 3) := by decide +kernel
theorem dX6_play_4 : decode cX6_play 4 = .ok (.iconst 0, 1) := by decide +kernel
theorem dX6_play_5 : decode cX6_play 5 = .ok (.aload_n 0, 1) := by decide +kernel
theorem dX6_play_6 : decode cX6_play 6 = .ok (.getfield 16, 3) := by decide +kernel
theorem dX6_play_9 : decode cX6_play 9 = .ok (.iconst 0, 1) := by decide +kernel
theorem dX6_play_10 : decode cX6_play 10 = .ok (.invokestatic 39, 3) := by decide +kernel
theorem dX6_play_13 : decode cX6_play 13 = .ok (.aload_n 0, 1) := by decide +kernel
theorem dX6_play_14 : decode cX6_play 14 = .ok (.invokevirtual 255, 3) := by decide +kernel
theorem dX6_play_17 : decode cX6_play 17 = .ok (.istore_n 1, 1) := by decide +kernel
theorem dX6_play_18 : decode cX6_play 18 = .ok (.aload_n 0, 1) := by decide +kernel
theorem dX6_play_19 : decode cX6_play 19 = .ok (.getfield 16, 3) := by decide +kernel
theorem dX6_play_22 : decode cX6_play 22 = .ok (.iconst 0, 1) := by decide +kernel
theorem dX6_play_23 : decode cX6_play 23 = .ok (.aload_n 0, 1) := by decide +kernel
theorem dX6_play_24 : decode cX6_play 24 = .ok (.getfield 7, 3) := by decide +kernel
theorem dX6_play_27 : decode cX6_play 27 = .ok (.iconst 0, 1) := by decide +kernel
theorem dX6_play_28 : decode cX6_play 28 = .ok (.invokestatic 39, 3) := by decide +kernel
theorem dX6_play_31 : decode cX6_play 31 = .ok (.aload_n 0, 1) := by decide +kernel
theorem dX6_play_32 : decode cX6_play 32 = .ok (.getfield 240, 3) := by decide +kernel
theorem dX6_play_35 : decode cX6_play 35 = .ok (.ifCond .le 6, 3) := by decide +kernel
theorem dX6_play_38 : decode cX6_play 38 = .ok (.ldc 115, 2) := by decide +kernel
theorem dX6_play_40 : decode cX6_play 40 = .ok (.ireturn, 1) := by decide +kernel
theorem dX6_play_41 : decode cX6_play 41 = .ok (.aload_n 0, 1) := by decide +kernel
theorem dX6_play_42 : decode cX6_play 42 = .ok (.invokevirtual 120, 3) := by decide +kernel
theorem dX6_play_45 : decode cX6_play 45 = .ok (.aload_n 0, 1) := by decide +kernel
theorem dX6_play_46 : decode cX6_play 46 = .ok (.invokevirtual 255, 3) := by decide +kernel
theorem dX6_play_49 : decode cX6_play 49 = .ok (.istore_n 1, 1) := by decide +kernel
theorem dX6_play_50 : decode cX6_play 50 = .ok (.iload_n 1, 1) := by decide +kernel
theorem dX6_play_51 : decode cX6_play 51 = .ok (.ireturn, 1) := by decide +kernel
theorem dJxf58ca_isNaN_12338_0 : decode cJxf58ca_isNaN_12338 0 = .ok (.fload_n 0, 1) := by decide +kernel
theorem dJxf58ca_isNaN_12338_1 : decode cJxf58ca_isNaN_12338 1 = .ok (.fload_n 0, 1) := by decide +kernel
theorem dJxf58ca_isNaN_12338_2 : decode cJxf58ca_isNaN_12338 2 = .ok (.fcmp .l, 1) := by decide +kernel
theorem dJxf58ca_isNaN_12338_3 : decode cJxf58ca_isNaN_12338 3 = .ok (.ifCond .eq 7, 3) := by decide +kernel
theorem dJxf58ca_isNaN_12338_6 : decode cJxf58ca_isNaN_12338 6 = .ok (.iconst 1, 1) := by decide +kernel
theorem dJxf58ca_isNaN_12338_7 : decode cJxf58ca_isNaN_12338 7 = .ok (.goto 4, 3) := by decide +kernel
theorem dJxf58ca_isNaN_12338_10 : decode cJxf58ca_isNaN_12338 10 = .ok (.iconst 0, 1) := by decide +kernel
theorem dJxf58ca_isNaN_12338_11 : decode cJxf58ca_isNaN_12338 11 = .ok (.ireturn, 1) := by decide +kernel
set_option maxRecDepth 20000 in
theorem ggJxf58ca_floatToIntBits_5c35a_Jxf58ca_isNaN_12338 : GoodIn wsJxf58ca_floatToIntBits_5c35a wsJxf58ca_isNaN_12338 := goodIn_r _ [9] (by decide +kernel) (by decide +kernel)
set_option maxRecDepth 20000 in
theorem gJxf58ca_floatToIntBits_5c35a_Jxf58ca_isNaN_12338 : GoodIn wsJxf58ca_floatToIntBits_5c35a (va_wsS RJxf58ca 59 yJxf58ca_isNaN_12338 wsJxf58ca_isNaN_12338) := goodIn_app (goodIn_of _ (by decide +kernel)) ggJxf58ca_floatToIntBits_5c35a_Jxf58ca_isNaN_12338
theorem dJxf58ca_floatToIntBits_5c35a_0 : decode cJxf58ca_floatToIntBits_5c35a 0 = .ok (.fload_n 0, 1) := by decide +kernel
theorem dJxf58ca_floatToIntBits_5c35a_1 : decode cJxf58ca_floatToIntBits_5c35a 1 = .ok (.invokestatic 59, 3) := by decide +kernel
theorem dJxf58ca_floatToIntBits_5c35a_4 : decode cJxf58ca_floatToIntBits_5c35a 4 = .ok (.ifCond .ne 8, 3) := by decide +kernel
theorem dJxf58ca_floatToIntBits_5c35a_7 : decode cJxf58ca_floatToIntBits_5c35a 7 = .ok (.fload_n 0, 1) := by decide +kernel
theorem dJxf58ca_floatToIntBits_5c35a_8 : decode cJxf58ca_floatToIntBits_5c35a 8 = .ok (.invokestatic 74, 3) := by decide +kernel
theorem dJxf58ca_floatToIntBits_5c35a_11 : decode cJxf58ca_floatToIntBits_5c35a 11 = .ok (.ireturn, 1) := by decide +kernel
theorem dJxf58ca_floatToIntBits_5c35a_12 : decode cJxf58ca_floatToIntBits_5c35a 12 = .ok (.ldc 77, 2) := by decide +kernel
theorem dJxf58ca_floatToIntBits_5c35a_14 : decode cJxf58ca_floatToIntBits_5c35a 14 = .ok (.ireturn, 1) := by decide +kernel
theorem dJ9_abs_0f7a4_0 : decode cJ9_abs_0f7a4 0 = .ok (.iload_n 0, 1) := by decide +kernel
theorem dJ9_abs_0f7a4_1 : decode cJ9_abs_0f7a4 1 = .ok (.ifCond .ge 8, 3) := by decide +kernel
theorem dJ9_abs_0f7a4_4 : decode cJ9_abs_0f7a4 4 = .ok (.iload_n 0, 1) := by decide +kernel
theorem dJ9_abs_0f7a4_5 : decode cJ9_abs_0f7a4 5 = .ok (.ineg, 1) := by decide +kernel
theorem dJ9_abs_0f7a4_6 : decode cJ9_abs_0f7a4 6 = .ok (.goto 4, 3) := by decide +kernel
theorem dJ9_abs_0f7a4_9 : decode cJ9_abs_0f7a4 9 = .ok (.iload_n 0, 1) := by decide +kernel
theorem dJ9_abs_0f7a4_10 : decode cJ9_abs_0f7a4 10 = .ok (.ireturn, 1) := by decide +kernel
theorem dJ9_max_7cf53_0 : decode cJ9_max_7cf53 0 = .ok (.iload_n 0, 1) := by decide +kernel
theorem dJ9_max_7cf53_1 : decode cJ9_max_7cf53 1 = .ok (.iload_n 1, 1) := by decide +kernel
theorem dJ9_max_7cf53_2 : decode cJ9_max_7cf53 2 = .ok (.if_icmp .lt 7, 3) := by decide +kernel
theorem dJ9_max_7cf53_5 : decode cJ9_max_7cf53 5 = .ok (.iload_n 0, 1) := by decide +kernel
theorem dJ9_max_7cf53_6 : decode cJ9_max_7cf53 6 = .ok (.goto 4, 3) := by decide +kernel
theorem dJ9_max_7cf53_9 : decode cJ9_max_7cf53 9 = .ok (.iload_n 1, 1) := by decide +kernel
theorem dJ9_max_7cf53_10 : decode cJ9_max_7cf53 10 = .ok (.ireturn, 1) := by decide +kernel
theorem dJ9_min_7cf53_0 : decode cJ9_min_7cf53 0 = .ok (.iload_n 0, 1) := by decide +kernel
theorem dJ9_min_7cf53_1 : decode cJ9_min_7cf53 1 = .ok (.iload_n 1, 1) := by decide +kernel
theorem dJ9_min_7cf53_2 : decode cJ9_min_7cf53 2 = .ok (.if_icmp .gt 7, 3) := by decide +kernel
theorem dJ9_min_7cf53_5 : decode cJ9_min_7cf53 5 = .ok (.iload_n 0, 1) := by decide +kernel
theorem dJ9_min_7cf53_6 : decode cJ9_min_7cf53 6 = .ok (.goto 4, 3) := by decide +kernel
theorem dJ9_min_7cf53_9 : decode cJ9_min_7cf53 9 = .ok (.iload_n 1, 1) := by decide +kernel
theorem dJ9_min_7cf53_10 : decode cJ9_min_7cf53 10 = .ok (.ireturn, 1) := by decide +kernel
set_option maxRecDepth 20000 in
theorem ggL_law_X5_init : GoodIn wsL_law wsX5_init := goodIn_r _ [8, 9, 10, 11, 12, 13, 14, 15, 16, 17, 18, 19, 20, 21, 22, 23, 24, 25, 26, 27, 28, 29, 30, 31, 32, 33, 34, 35, 36, 37, 38, 39, 40, 41, 42, 43, 44, 45, 46, 47, 48, 49, 50, 51, 52, 53, 54, 55, 56, 57, 58, 59, 60, 61, 62, 63, 64, 65, 66, 67, 68, 69, 70, 71, 72, 73, 74, 75, 76, 77, 78, 79, 80, 81, 82, 83, 84, 85, 86, 87, 88, 89, 90, 91, 92, 93, 94, 95, 96, 97, 98, 99, 100, 101, 102, 103, 104, 105, 106, 107, 108, 109, 110, 111, 112, 113, 114, 115, 116, 117, 118, 119, 120, 121, 122, 123, 124, 125, 126, 127, 128, 129, 130, 131, 887, 863, 864, 865, 866, 867, 868, 888, 889, 890, 891, 892, 893, 894, 895, 896, 897, 898, 899, 900, 901, 902] (by decide +kernel) (by decide +kernel)
set_option maxRecDepth 20000 in
theorem gL_law_X5_init : GoodIn wsL_law (wsX5_init) := ggL_law_X5_init
set_option maxRecDepth 20000 in
theorem ggL_law_X6_init : GoodIn wsL_law wsX6_init := goodIn_r _ [134, 135, 10, 11, 37, 136, 137, 138, 139, 140, 141, 142, 143, 144, 145, 5, 146, 147, 148, 149, 150, 151, 152, 153, 154, 155, 156, 157, 158, 159, 160, 161, 162, 163, 164, 165, 166, 167, 168, 169, 170, 171, 172, 173, 174, 175, 176, 177, 178, 179, 180, 181, 182, 183, 184, 185, 186, 187, 188, 189, 190, 191, 192, 193, 194, 195, 196, 197, 198, 199, 869, 870, 871, 872, 873, 874, 875, 876, 877, 878, 879, 880, 881, 882, 883, 884, 885, 886] (by decide +kernel) (by decide +kernel)
set_option maxRecDepth 20000 in
theorem gL_law_X6_init : GoodIn wsL_law (wsX6_init) := ggL_law_X6_init
set_option maxRecDepth 20000 in
theorem ggL_law_X5_begin : GoodIn wsL_law wsX5_begin := goodIn_r _ [203, 28, 15, 204, 205, 206, 27, 207, 61, 208, 209, 210, 211, 60, 59, 212, 213, 214, 14, 215, 38, 216, 217, 218, 219, 74, 75, 76, 77, 78, 79, 80, 81, 82, 83, 84, 85, 86, 87, 88, 89, 90, 91, 92, 93, 94, 95, 96, 97, 98, 99, 100, 101, 102, 103, 104, 105, 106, 107, 108, 109, 110, 111, 112, 113, 114, 115, 116, 117, 118, 119, 120, 121, 122, 123, 124, 125, 126, 127, 128, 129, 130, 131, 220, 221, 222, 223, 863, 864, 865, 866, 867, 868, 893, 894, 895, 887] (by decide +kernel) (by decide +kernel)
set_option maxRecDepth 20000 in
theorem gL_law_X5_begin : GoodIn wsL_law (wsV RL 13 RX5 yX5_begin wsX5_begin) := goodIn_app (goodIn_of _ (by decide +kernel)) ggL_law_X5_begin
set_option maxRecDepth 20000 in
theorem ggL_law_X6_begin : GoodIn wsL_law wsX6_begin := goodIn_r _ [227, 228, 229, 230, 5, 231, 232, 233, 234, 235, 236, 139, 136, 237, 238, 239, 143, 144, 145, 146, 147, 148, 149, 150, 151, 152, 153, 154, 155, 156, 157, 158, 159, 160, 161, 162, 163, 164, 165, 166, 167, 168, 169, 170, 171, 172, 173, 174, 175, 176, 177, 178, 179, 180, 181, 182, 183, 184, 185, 186, 187, 188, 189, 190, 191, 192, 193, 194, 195, 196, 197, 198, 199, 869, 870, 871, 872, 873, 874, 875, 876, 877, 878, 879, 880, 881, 882, 883, 884, 885, 886] (by decide +kernel) (by decide +kernel)
set_option maxRecDepth 20000 in
theorem gL_law_X6_begin : GoodIn wsL_law (wsV RL 17 RX6 yX6_begin wsX6_begin) := goodIn_app (goodIn_of _ (by decide +kernel)) ggL_law_X6_begin
set_option maxRecDepth 20000 in
theorem ggL_law_X5_write : GoodIn wsL_law wsX5_write := goodIn_r _ [243, 28, 15, 204, 205, 206, 27, 207, 61, 208, 209, 210, 211, 60, 59, 212, 213, 214, 14, 215, 38, 216, 217, 218, 219, 244, 245, 246, 247, 78, 248, 249, 250, 251, 252, 95, 96, 97, 98, 253, 254, 255, 91, 92, 93, 94, 79, 80, 81, 82, 125, 126, 127, 128, 103, 104, 105, 99, 100, 101, 102, 106, 107, 108, 109, 110, 111, 112, 113, 114, 115, 116, 117, 118, 119, 120, 121, 122, 123, 124, 129, 130, 131, 220, 221, 222, 223, 863, 864, 865, 866, 867, 868, 893, 894, 895, 887] (by decide +kernel) (by decide +kernel)
set_option maxRecDepth 20000 in
theorem gL_law_X5_write : GoodIn wsL_law (wsV RL 18 RX5 yX5_write wsX5_write) := goodIn_app (goodIn_of _ (by decide +kernel)) ggL_law_X5_write
set_option maxRecDepth 20000 in
theorem ggL_law_X6_write : GoodIn wsL_law wsX6_write := goodIn_r _ [259, 260, 261, 262, 5, 263, 228, 264, 265, 266, 267, 268, 136, 229, 230, 231, 269, 270, 271, 180, 181, 182, 183, 167, 168, 169, 170, 232, 233, 234, 235, 236, 139, 237, 238, 239, 272, 273, 274, 275, 147, 148, 149, 150, 155, 156, 157, 158, 159, 160, 161, 162, 163, 164, 165, 166, 171, 172, 173, 174, 175, 176, 177, 178, 179, 184, 185, 186, 187, 188, 189, 190, 191, 192, 193, 194, 195, 196, 197, 198, 199, 869, 870, 871, 872, 873, 874, 875, 876, 877, 878, 879, 880, 881, 882, 883, 884, 885, 886] (by decide +kernel) (by decide +kernel)
set_option maxRecDepth 20000 in
theorem gL_law_X6_write : GoodIn wsL_law (wsV RL 22 RX6 yX6_write wsX6_write) := goodIn_app (goodIn_of _ (by decide +kernel)) ggL_law_X6_write
set_option maxRecDepth 20000 in
theorem ggL_law_X5_lose : GoodIn wsL_law wsX5_lose := goodIn_r _ [279, 28, 15, 204, 205, 206, 27, 207, 61, 208, 209, 210, 211, 60, 59, 212, 213, 214, 14, 215, 38, 216, 217, 218, 219, 280, 281, 282, 283, 78, 248, 249, 250, 251, 252, 95, 96, 97, 98, 91, 92, 93, 94, 284, 285, 286, 287, 288, 289, 290, 291, 103, 104, 105, 99, 100, 101, 102, 114, 115, 116, 292, 293, 294, 295, 296, 297, 298, 299, 300, 301, 79, 80, 81, 82, 125, 126, 127, 128, 220, 221, 222, 223, 863, 864, 865, 866, 867, 868, 893, 894, 895, 887] (by decide +kernel) (by decide +kernel)
set_option maxRecDepth 20000 in
theorem gL_law_X5_lose : GoodIn wsL_law (wsV RL 23 RX5 yX5_lose wsX5_lose) := goodIn_app (goodIn_of _ (by decide +kernel)) ggL_law_X5_lose
set_option maxRecDepth 20000 in
theorem ggL_law_X6_lose : GoodIn wsL_law wsX6_lose := goodIn_r _ [305, 306, 307, 308, 5, 309, 228, 264, 265, 266, 267, 268, 136, 229, 230, 231, 180, 181, 182, 183, 167, 168, 169, 170, 232, 233, 234, 235, 236, 139, 237, 238, 239, 310, 311, 312, 313, 314, 315, 316, 317, 318, 319, 320, 321, 322, 323, 324, 325, 175, 159, 160, 161, 162, 163, 164, 165, 166, 171, 172, 173, 174, 176, 177, 178, 179, 184, 185, 186, 187, 188, 189, 190, 191, 326, 327, 328, 329, 330, 331, 332, 333, 147, 148, 149, 150, 196, 197, 198, 199, 869, 870, 871, 872, 873, 874, 875, 876, 877, 878, 879, 880, 881, 882, 883, 884, 885, 886] (by decide +kernel) (by decide +kernel)
set_option maxRecDepth 20000 in
theorem gL_law_X6_lose : GoodIn wsL_law (wsV RL 26 RX6 yX6_lose wsX6_lose) := goodIn_app (goodIn_of _ (by decide +kernel)) ggL_law_X6_lose
set_option maxRecDepth 20000 in
theorem ggL_law_X5_mend : GoodIn wsL_law wsX5_mend := goodIn_r _ [337, 28, 15, 204, 205, 206, 27, 207, 61, 208, 209, 210, 211, 60, 59, 212, 213, 214, 14, 215, 38, 216, 217, 218, 219, 338, 339, 340, 341, 78, 248, 249, 250, 251, 252, 95, 96, 97, 98, 91, 92, 93, 94, 284, 285, 286, 287, 288, 289, 290, 291, 103, 104, 105, 99, 100, 101, 102, 114, 115, 116, 292, 293, 294, 295, 296, 297, 298, 299, 300, 301, 342, 343, 344, 345, 79, 80, 81, 82, 125, 126, 127, 128, 87, 88, 89, 90, 106, 107, 108, 109, 110, 111, 112, 113, 117, 118, 119, 120, 121, 122, 123, 124, 129, 130, 131, 220, 221, 222, 223, 863, 864, 865, 866, 867, 868, 893, 894, 895, 887] (by decide +kernel) (by decide +kernel)
set_option maxRecDepth 20000 in
theorem gL_law_X5_mend : GoodIn wsL_law (wsV RL 27 RX5 yX5_mend wsX5_mend) := goodIn_app (goodIn_of _ (by decide +kernel)) ggL_law_X5_mend
set_option maxRecDepth 20000 in
theorem ggL_law_X6_mend : GoodIn wsL_law wsX6_mend := goodIn_r _ [349, 306, 307, 308, 5, 309, 228, 264, 265, 266, 267, 268, 136, 229, 230, 231, 180, 181, 182, 183, 167, 168, 169, 170, 232, 233, 234, 235, 236, 139, 237, 238, 239, 350, 351, 352, 353, 314, 315, 316, 317, 318, 319, 320, 321, 322, 323, 324, 325, 175, 159, 160, 161, 162, 163, 164, 165, 166, 171, 172, 173, 174, 176, 177, 178, 179, 184, 185, 186, 187, 188, 189, 190, 191, 326, 327, 328, 329, 330, 331, 332, 333, 354, 355, 356, 357, 147, 148, 149, 150, 151, 152, 153, 154, 155, 156, 157, 158, 192, 193, 194, 195, 196, 197, 198, 199, 869, 870, 871, 872, 873, 874, 875, 876, 877, 878, 879, 880, 881, 882, 883, 884, 885, 886] (by decide +kernel) (by decide +kernel)
set_option maxRecDepth 20000 in
theorem gL_law_X6_mend : GoodIn wsL_law (wsV RL 30 RX6 yX6_mend wsX6_mend) := goodIn_app (goodIn_of _ (by decide +kernel)) ggL_law_X6_mend
set_option maxRecDepth 20000 in
theorem ggL_law_X5_swap : GoodIn wsL_law wsX5_swap := goodIn_r _ [361, 28, 15, 204, 205, 206, 27, 207, 61, 208, 209, 210, 211, 60, 59, 212, 213, 214, 14, 215, 38, 216, 217, 218, 219, 362, 363, 364, 365, 78, 248, 366, 367, 123, 368, 369, 370, 371, 249, 250, 251, 252, 95, 96, 97, 98, 91, 92, 93, 94, 79, 80, 81, 82, 220, 221, 222, 223, 863, 864, 865, 866, 867, 868, 893, 894, 895, 887] (by decide +kernel) (by decide +kernel)
set_option maxRecDepth 20000 in
theorem gL_law_X5_swap : GoodIn wsL_law (wsV RL 31 RX5 yX5_swap wsX5_swap) := goodIn_app (goodIn_of _ (by decide +kernel)) ggL_law_X5_swap
set_option maxRecDepth 20000 in
theorem ggL_law_X6_swap : GoodIn wsL_law wsX6_swap := goodIn_r _ [375, 376, 377, 378, 5, 379, 228, 264, 265, 266, 267, 268, 136, 229, 230, 231, 180, 181, 182, 183, 167, 168, 169, 170, 232, 233, 234, 235, 236, 139, 237, 238, 239, 380, 381, 382, 383, 147, 148, 149, 150, 869, 870, 871, 872, 873, 874, 875, 876, 877, 878, 879, 880, 881, 882, 883, 884, 885, 886] (by decide +kernel) (by decide +kernel)
set_option maxRecDepth 20000 in
theorem gL_law_X6_swap : GoodIn wsL_law (wsV RL 35 RX6 yX6_swap wsX6_swap) := goodIn_app (goodIn_of _ (by decide +kernel)) ggL_law_X6_swap
set_option maxRecDepth 20000 in
theorem ggL_law_X5_lay : GoodIn wsL_law wsX5_lay := goodIn_r _ [387, 28, 15, 204, 205, 206, 27, 207, 61, 208, 209, 210, 211, 60, 59, 212, 213, 214, 14, 215, 38, 216, 217, 218, 219, 388, 389, 390, 391, 78, 248, 249, 250, 251, 252, 95, 96, 97, 98, 91, 92, 93, 94, 87, 88, 89, 90, 99, 100, 101, 102, 103, 104, 105, 106, 107, 108, 109, 110, 111, 112, 113, 114, 115, 116, 79, 80, 81, 82, 117, 118, 119, 120, 121, 122, 123, 124, 125, 126, 127, 128, 129, 130, 131, 220, 221, 222, 223, 863, 864, 865, 866, 867, 868, 893, 894, 895, 887] (by decide +kernel) (by decide +kernel)
set_option maxRecDepth 20000 in
theorem gL_law_X5_lay : GoodIn wsL_law (wsV RL 36 RX5 yX5_lay wsX5_lay) := goodIn_app (goodIn_of _ (by decide +kernel)) ggL_law_X5_lay
set_option maxRecDepth 20000 in
theorem ggL_law_X6_lay : GoodIn wsL_law wsX6_lay := goodIn_r _ [395, 306, 307, 308, 5, 309, 228, 264, 265, 266, 267, 268, 136, 229, 230, 231, 180, 181, 182, 183, 167, 168, 169, 170, 232, 233, 234, 235, 236, 139, 237, 238, 239, 151, 152, 153, 154, 155, 156, 157, 158, 159, 160, 161, 162, 163, 164, 165, 166, 171, 172, 173, 174, 175, 176, 177, 178, 179, 184, 185, 186, 187, 188, 189, 190, 191, 192, 193, 194, 195, 147, 148, 149, 150, 196, 197, 198, 199, 869, 870, 871, 872, 873, 874, 875, 876, 877, 878, 879, 880, 881, 882, 883, 884, 885, 886] (by decide +kernel) (by decide +kernel)
set_option maxRecDepth 20000 in
theorem gL_law_X6_lay : GoodIn wsL_law (wsV RL 39 RX6 yX6_lay wsX6_lay) := goodIn_app (goodIn_of _ (by decide +kernel)) ggL_law_X6_lay
set_option maxRecDepth 20000 in
theorem ggL_law_X5_days : GoodIn wsL_law wsX5_days := goodIn_r _ [399, 28, 15, 204, 205, 206, 27, 207, 61, 208, 209, 210, 211, 60, 59, 212, 213, 214, 14, 215, 38, 216, 217, 218, 219, 400, 401, 402, 403, 78, 404, 95, 96, 97, 98, 125, 126, 127, 128, 79, 80, 81, 82, 220, 221, 222, 223, 863, 864, 865, 866, 867, 868, 893, 894, 895, 887] (by decide +kernel) (by decide +kernel)
set_option maxRecDepth 20000 in
theorem gL_law_X5_days : GoodIn wsL_law (wsV RL 40 RX5 yX5_days wsX5_days) := goodIn_app (goodIn_of _ (by decide +kernel)) ggL_law_X5_days
set_option maxRecDepth 20000 in
theorem ggL_law_X6_days : GoodIn wsL_law wsX6_days := goodIn_r _ [408, 136, 409, 410, 411, 5, 412, 228, 413, 229, 230, 231, 232, 233, 234, 235, 236, 139, 237, 238, 239, 869, 870, 871, 872, 873, 874, 875, 876, 877, 878, 879, 880, 881, 882, 883, 884, 885, 886] (by decide +kernel) (by decide +kernel)
set_option maxRecDepth 20000 in
theorem gL_law_X6_days : GoodIn wsL_law (wsV RL 43 RX6 yX6_days wsX6_days) := goodIn_app (goodIn_of _ (by decide +kernel)) ggL_law_X6_days
set_option maxRecDepth 20000 in
theorem ggL_law_X5_set : GoodIn wsL_law wsX5_set := goodIn_r _ [417, 28, 15, 204, 205, 206, 27, 207, 61, 208, 209, 210, 211, 60, 59, 212, 213, 214, 14, 215, 38, 216, 217, 218, 219, 418, 419, 420, 421, 78, 95, 96, 97, 98, 79, 80, 81, 82, 117, 118, 119, 120, 121, 122, 123, 124, 220, 221, 222, 223, 863, 864, 865, 866, 867, 868, 893, 894, 895, 887] (by decide +kernel) (by decide +kernel)
set_option maxRecDepth 20000 in
theorem gL_law_X5_set : GoodIn wsL_law (wsV RL 44 RX5 yX5_set wsX5_set) := goodIn_app (goodIn_of _ (by decide +kernel)) ggL_law_X5_set
set_option maxRecDepth 20000 in
theorem ggL_law_X6_set : GoodIn wsL_law wsX6_set := goodIn_r _ [425, 228, 136, 229, 230, 5, 231, 232, 233, 234, 235, 236, 139, 237, 238, 239, 167, 168, 169, 170, 192, 193, 194, 195, 147, 148, 149, 150, 869, 870, 871, 872, 873, 874, 875, 876, 877, 878, 879, 880, 881, 882, 883, 884, 885, 886] (by decide +kernel) (by decide +kernel)
set_option maxRecDepth 20000 in
theorem gL_law_X6_set : GoodIn wsL_law (wsV RL 47 RX6 yX6_set wsX6_set) := goodIn_app (goodIn_of _ (by decide +kernel)) ggL_law_X6_set
set_option maxRecDepth 20000 in
theorem ggL_law_X5_cell : GoodIn wsL_law wsX5_cell := goodIn_r _ [429, 20, 430, 431, 432, 19, 433, 43, 434, 435, 436, 250, 251, 14, 252, 95, 96, 97, 98, 38, 437, 254, 255, 438, 92, 93, 94, 439, 440, 289, 290, 291, 103, 104, 105, 99, 100, 101, 102, 114, 115, 116, 292, 293, 294, 295, 296, 297, 298, 441, 300, 301, 442, 443, 444, 445, 863, 864, 865, 866, 867, 868, 888, 887] (by decide +kernel) (by decide +kernel)
set_option maxRecDepth 20000 in
theorem gL_law_X5_cell : GoodIn wsL_law (wsV RL 48 RX5 yX5_cell wsX5_cell) := goodIn_app (goodIn_of _ (by decide +kernel)) ggL_law_X5_cell
set_option maxRecDepth 20000 in
theorem ggL_law_X6_cell : GoodIn wsL_law wsX6_cell := goodIn_r _ [449, 228, 175, 265, 266, 267, 5, 268, 136, 229, 230, 231, 269, 270, 271, 167, 168, 169, 170, 318, 319, 320, 321, 322, 323, 324, 325, 159, 160, 161, 162, 163, 164, 165, 166, 171, 172, 173, 174, 176, 177, 178, 179, 180, 181, 182, 183, 184, 185, 186, 187, 188, 189, 190, 191, 326, 327, 328, 329, 330, 331, 332, 333, 450, 451, 452, 453, 869, 870, 871, 872, 873, 874, 875, 876, 877, 878, 879, 880, 881, 882, 883, 884, 885, 886] (by decide +kernel) (by decide +kernel)
set_option maxRecDepth 20000 in
theorem gL_law_X6_cell : GoodIn wsL_law (wsV RL 51 RX6 yX6_cell wsX6_cell) := goodIn_app (goodIn_of _ (by decide +kernel)) ggL_law_X6_cell
set_option maxRecDepth 20000 in
theorem ggL_law_X5_margin : GoodIn wsL_law wsX5_margin := goodIn_r _ [457, 20, 458, 459, 460, 19, 461, 43, 434, 435, 436, 250, 251, 14, 252, 95, 96, 97, 98, 38, 439, 462, 463, 464, 465, 466, 115, 116, 441, 300, 301, 442, 443, 444, 445, 296, 297, 298, 467, 293, 294, 295, 863, 864, 865, 866, 867, 868, 888, 887] (by decide +kernel) (by decide +kernel)
set_option maxRecDepth 20000 in
theorem gL_law_X5_margin : GoodIn wsL_law (wsV RL 52 RX5 yX5_margin wsX5_margin) := goodIn_app (goodIn_of _ (by decide +kernel)) ggL_law_X5_margin
set_option maxRecDepth 20000 in
theorem ggL_law_X6_margin : GoodIn wsL_law wsX6_margin := goodIn_r _ [471, 228, 175, 265, 266, 267, 5, 268, 136, 229, 230, 231, 167, 168, 169, 170, 188, 189, 190, 191, 330, 331, 332, 333, 326, 327, 328, 329, 869, 870, 871, 872, 873, 874, 875, 876, 877, 878, 879, 880, 881, 882, 883, 884, 885, 886] (by decide +kernel) (by decide +kernel)
set_option maxRecDepth 20000 in
theorem gL_law_X6_margin : GoodIn wsL_law (wsV RL 55 RX6 yX6_margin wsX6_margin) := goodIn_app (goodIn_of _ (by decide +kernel)) ggL_law_X6_margin
set_option maxRecDepth 20000 in
theorem ggL_law_X5_row : GoodIn wsL_law wsX5_row := goodIn_r _ [475, 20, 476, 477, 478, 19, 479, 43, 434, 436, 250, 251, 14, 252, 95, 96, 97, 98, 38, 439, 480, 100, 101, 102, 438, 92, 93, 94, 481, 482, 483, 484, 485, 486, 487, 488, 489, 490, 491, 492, 493, 285, 286, 287, 288, 289, 290, 291, 103, 104, 105, 99, 114, 115, 116, 292, 293, 294, 295, 296, 297, 298, 299, 300, 301, 863, 864, 865, 866, 867, 868, 888, 887] (by decide +kernel) (by decide +kernel)
set_option maxRecDepth 20000 in
theorem gL_law_X5_row : GoodIn wsL_law (wsV RL 56 RX5 yX5_row wsX5_row) := goodIn_app (goodIn_of _ (by decide +kernel)) ggL_law_X5_row
set_option maxRecDepth 20000 in
theorem ggL_law_X6_row : GoodIn wsL_law wsX6_row := goodIn_r _ [497, 228, 265, 266, 267, 5, 268, 136, 229, 230, 231, 167, 168, 169, 170, 163, 164, 165, 166, 171, 172, 173, 174, 175, 176, 177, 178, 179, 498, 499, 500, 501, 502, 503, 504, 505, 314, 315, 316, 317, 180, 181, 182, 183, 318, 319, 320, 321, 322, 323, 324, 325, 159, 160, 161, 162, 184, 185, 186, 187, 188, 189, 190, 191, 326, 327, 328, 329, 330, 331, 332, 333, 869, 870, 871, 872, 873, 874, 875, 876, 877, 878, 879, 880, 881, 882, 883, 884, 885, 886] (by decide +kernel) (by decide +kernel)
set_option maxRecDepth 20000 in
theorem gL_law_X6_row : GoodIn wsL_law (wsV RL 59 RX6 yX6_row wsX6_row) := goodIn_app (goodIn_of _ (by decide +kernel)) ggL_law_X6_row
set_option maxRecDepth 20000 in
theorem ggL_law_X5_at : GoodIn wsL_law wsX5_at := goodIn_r _ [509, 15, 510, 511, 250, 251, 14, 252, 95, 96, 97, 98, 38, 512, 863, 864, 865, 866, 867, 868, 887] (by decide +kernel) (by decide +kernel)
set_option maxRecDepth 20000 in
theorem gL_law_X5_at : GoodIn wsL_law (wsV RL 60 RX5 yX5_at wsX5_at) := goodIn_app (goodIn_of _ (by decide +kernel)) ggL_law_X5_at
set_option maxRecDepth 20000 in
theorem ggL_law_X6_at : GoodIn wsL_law wsX6_at := goodIn_r _ [516, 136, 228, 229, 230, 5, 231, 171, 172, 173, 174, 175, 167, 168, 169, 170, 869, 870, 871, 872, 873, 874, 875, 876, 877, 878, 879, 880, 881, 882, 883, 884, 885, 886] (by decide +kernel) (by decide +kernel)
set_option maxRecDepth 20000 in
theorem gL_law_X6_at : GoodIn wsL_law (wsV RL 63 RX6 yX6_at wsX6_at) := goodIn_app (goodIn_of _ (by decide +kernel)) ggL_law_X6_at
set_option maxRecDepth 20000 in
theorem ggL_law_X5_would : GoodIn wsL_law wsX5_would := goodIn_r _ [520, 20, 521, 522, 523, 19, 524, 43, 434, 525, 435, 526, 122, 123, 124, 436, 250, 251, 14, 252, 95, 96, 97, 98, 38, 438, 92, 93, 94, 493, 285, 286, 287, 288, 289, 290, 291, 103, 104, 105, 99, 100, 101, 102, 114, 115, 116, 292, 293, 294, 295, 296, 297, 298, 299, 300, 301, 440, 442, 443, 444, 445, 863, 864, 865, 866, 867, 868, 888, 887] (by decide +kernel) (by decide +kernel)
set_option maxRecDepth 20000 in
theorem gL_law_X5_would : GoodIn wsL_law (wsV RL 64 RX5 yX5_would wsX5_would) := goodIn_app (goodIn_of _ (by decide +kernel)) ggL_law_X5_would
set_option maxRecDepth 20000 in
theorem ggL_law_X6_would : GoodIn wsL_law wsX6_would := goodIn_r _ [530, 228, 264, 265, 266, 267, 5, 268, 136, 229, 230, 231, 180, 181, 182, 183, 167, 168, 169, 170, 314, 315, 316, 317, 318, 319, 320, 321, 322, 323, 324, 325, 175, 159, 160, 161, 162, 163, 164, 165, 166, 171, 172, 173, 174, 176, 177, 178, 179, 184, 185, 186, 187, 188, 189, 190, 191, 326, 327, 328, 329, 330, 331, 332, 333, 354, 355, 356, 357, 531, 532, 533, 534, 535, 536, 537, 538, 450, 451, 452, 453, 869, 870, 871, 872, 873, 874, 875, 876, 877, 878, 879, 880, 881, 882, 883, 884, 885, 886] (by decide +kernel) (by decide +kernel)
set_option maxRecDepth 20000 in
theorem gL_law_X6_would : GoodIn wsL_law (wsV RL 67 RX6 yX6_would wsX6_would) := goodIn_app (goodIn_of _ (by decide +kernel)) ggL_law_X6_would
set_option maxRecDepth 20000 in
theorem ggL_law_X5_order : GoodIn wsL_law wsX5_order := goodIn_r _ [542, 510, 24, 15, 543, 544, 545, 546, 23, 547, 548, 52, 549, 550, 551, 552, 96, 97, 14, 98, 38, 553, 92, 93, 94, 95, 554, 555, 556, 557, 49, 50, 558, 559, 560, 561, 51, 562, 217, 218, 219, 563, 564, 565, 566, 285, 286, 287, 288, 289, 290, 291, 103, 104, 105, 99, 100, 101, 102, 114, 115, 116, 292, 293, 294, 295, 296, 297, 298, 299, 300, 301, 567, 213, 214, 215, 216, 568, 339, 340, 341, 78, 248, 249, 250, 251, 252, 91, 284, 342, 343, 344, 345, 79, 80, 81, 82, 125, 126, 127, 128, 87, 88, 89, 90, 106, 107, 108, 109, 110, 111, 112, 113, 117, 118, 119, 120, 121, 122, 123, 124, 129, 130, 131, 569, 570, 571, 572, 573, 863, 864, 865, 866, 867, 868, 889, 890, 891, 892, 887] (by decide +kernel) (by decide +kernel)
set_option maxRecDepth 20000 in
theorem gL_law_X5_order : GoodIn wsL_law (wsV RL 68 RX5 yX5_order wsX5_order) := goodIn_app (goodIn_of _ (by decide +kernel)) ggL_law_X5_order
set_option maxRecDepth 20000 in
theorem ggL_law_X6_order : GoodIn wsL_law wsX6_order := goodIn_r _ [577, 228, 413, 578, 141, 579, 175, 580, 581, 582, 5, 583, 136, 180, 181, 182, 183, 167, 168, 169, 170, 584, 585, 586, 587, 588, 589, 590, 591, 592, 593, 594, 595, 596, 597, 598, 599, 600, 137, 237, 238, 239, 350, 351, 352, 353, 314, 315, 316, 317, 318, 319, 320, 321, 322, 323, 324, 325, 159, 160, 161, 162, 163, 164, 165, 166, 171, 172, 173, 174, 176, 177, 178, 179, 184, 185, 186, 187, 188, 189, 190, 191, 326, 327, 328, 329, 330, 331, 332, 333, 354, 355, 356, 357, 147, 148, 149, 150, 151, 152, 153, 154, 155, 156, 157, 158, 192, 193, 194, 195, 196, 197, 198, 199, 869, 870, 871, 872, 873, 874, 875, 876, 877, 878, 879, 880, 881, 882, 883, 884, 885, 886] (by decide +kernel) (by decide +kernel)
set_option maxRecDepth 20000 in
theorem gL_law_X6_order : GoodIn wsL_law (wsV RL 71 RX6 yX6_order wsX6_order) := goodIn_app (goodIn_of _ (by decide +kernel)) ggL_law_X6_order
set_option maxRecDepth 20000 in
theorem ggL_law_X5_comes : GoodIn wsL_law wsX5_comes := goodIn_r _ [604, 24, 15, 544, 545, 546, 23, 547, 548, 52, 549, 550, 551, 552, 96, 97, 14, 98, 38, 553, 92, 93, 94, 95, 554, 555, 556, 557, 49, 50, 558, 559, 560, 561, 51, 562, 217, 218, 219, 563, 564, 565, 566, 285, 286, 287, 288, 289, 290, 291, 103, 104, 105, 99, 100, 101, 102, 114, 115, 116, 292, 293, 294, 295, 296, 297, 298, 299, 300, 301, 567, 213, 214, 215, 216, 568, 339, 340, 341, 78, 248, 249, 250, 251, 252, 91, 284, 342, 343, 344, 345, 79, 80, 81, 82, 125, 126, 127, 128, 87, 88, 89, 90, 106, 107, 108, 109, 110, 111, 112, 113, 117, 118, 119, 120, 121, 122, 123, 124, 129, 130, 131, 605, 606, 607, 608, 863, 864, 865, 866, 867, 868, 889, 890, 891, 892, 887] (by decide +kernel) (by decide +kernel)
set_option maxRecDepth 20000 in
theorem gL_law_X5_comes : GoodIn wsL_law (wsV RL 72 RX5 yX5_comes wsX5_comes) := goodIn_app (goodIn_of _ (by decide +kernel)) ggL_law_X5_comes
set_option maxRecDepth 20000 in
theorem ggL_law_X6_comes : GoodIn wsL_law wsX6_comes := goodIn_r _ [612, 413, 588, 580, 581, 582, 5, 583, 136, 180, 181, 182, 183, 167, 168, 169, 170, 584, 585, 586, 587, 579, 578, 589, 590, 591, 592, 141, 593, 594, 595, 596, 597, 598, 599, 600, 137, 237, 238, 239, 350, 351, 352, 353, 314, 315, 316, 317, 318, 319, 320, 321, 322, 323, 324, 325, 175, 159, 160, 161, 162, 163, 164, 165, 166, 171, 172, 173, 174, 176, 177, 178, 179, 184, 185, 186, 187, 188, 189, 190, 191, 326, 327, 328, 329, 330, 331, 332, 333, 354, 355, 356, 357, 147, 148, 149, 150, 151, 152, 153, 154, 155, 156, 157, 158, 192, 193, 194, 195, 196, 197, 198, 199, 869, 870, 871, 872, 873, 874, 875, 876, 877, 878, 879, 880, 881, 882, 883, 884, 885, 886] (by decide +kernel) (by decide +kernel)
set_option maxRecDepth 20000 in
theorem gL_law_X6_comes : GoodIn wsL_law (wsV RL 76 RX6 yX6_comes wsX6_comes) := goodIn_app (goodIn_of _ (by decide +kernel)) ggL_law_X6_comes
set_option maxRecDepth 20000 in
theorem ggL_law_X5_safeFor : GoodIn wsL_law wsX5_safeFor := goodIn_r _ [616, 20, 617, 618, 619, 19, 620, 435, 43, 621, 622, 623, 624, 439, 96, 97, 14, 98, 38, 438, 92, 93, 94, 95, 493, 285, 286, 287, 288, 289, 290, 291, 103, 104, 105, 99, 100, 101, 102, 114, 115, 116, 292, 293, 294, 295, 296, 297, 298, 299, 300, 301, 481, 482, 483, 484, 485, 486, 487, 488, 625, 626, 627, 628, 526, 122, 123, 124, 440, 442, 443, 444, 445, 863, 864, 865, 866, 867, 868, 888, 887] (by decide +kernel) (by decide +kernel)
set_option maxRecDepth 20000 in
theorem gL_law_X5_safeFor : GoodIn wsL_law (wsV RL 77 RX5 yX5_safeFor wsX5_safeFor) := goodIn_app (goodIn_of _ (by decide +kernel)) ggL_law_X5_safeFor
set_option maxRecDepth 20000 in
theorem ggL_law_X6_safeFor : GoodIn wsL_law wsX6_safeFor := goodIn_r _ [632, 175, 136, 633, 634, 635, 5, 636, 180, 181, 182, 183, 167, 168, 169, 170, 314, 315, 316, 317, 318, 319, 320, 321, 322, 323, 324, 325, 159, 160, 161, 162, 163, 164, 165, 166, 171, 172, 173, 174, 176, 177, 178, 179, 184, 185, 186, 187, 188, 189, 190, 191, 326, 327, 328, 329, 330, 331, 332, 333, 498, 499, 500, 501, 450, 451, 452, 453, 869, 870, 871, 872, 873, 874, 875, 876, 877, 878, 879, 880, 881, 882, 883, 884, 885, 886] (by decide +kernel) (by decide +kernel)
set_option maxRecDepth 20000 in
theorem gL_law_X6_safeFor : GoodIn wsL_law (wsV RL 80 RX6 yX6_safeFor wsX6_safeFor) := goodIn_app (goodIn_of _ (by decide +kernel)) ggL_law_X6_safeFor
set_option maxRecDepth 20000 in
theorem ggL_law_X5_mean : GoodIn wsL_law wsX5_mean := goodIn_r _ [640, 20, 641, 642, 643, 19, 644, 435, 43, 645, 646, 647, 648, 439, 96, 97, 14, 98, 38, 462, 463, 464, 465, 467, 293, 294, 295, 95, 296, 297, 298, 442, 443, 444, 445, 649, 650, 651, 652, 863, 864, 865, 866, 867, 868, 888, 887] (by decide +kernel) (by decide +kernel)
set_option maxRecDepth 20000 in
theorem gL_law_X5_mean : GoodIn wsL_law (wsV RL 81 RX5 yX5_mean wsX5_mean) := goodIn_app (goodIn_of _ (by decide +kernel)) ggL_law_X5_mean
set_option maxRecDepth 20000 in
theorem ggL_law_X6_mean : GoodIn wsL_law wsX6_mean := goodIn_r _ [656, 175, 657, 658, 659, 5, 660, 136, 167, 168, 169, 170, 661, 662, 663, 664, 326, 327, 328, 329, 330, 331, 332, 333, 188, 189, 190, 191, 665, 666, 667, 668, 669, 670, 671, 672, 673, 674, 675, 676, 677, 678, 679, 680, 869, 870, 871, 872, 873, 874, 875, 876, 877, 878, 879, 880, 881, 882, 883, 884, 885, 886] (by decide +kernel) (by decide +kernel)
set_option maxRecDepth 20000 in
theorem gL_law_X6_mean : GoodIn wsL_law (wsV RL 84 RX6 yX6_mean wsX6_mean) := goodIn_app (goodIn_of _ (by decide +kernel)) ggL_law_X6_mean
set_option maxRecDepth 20000 in
theorem ggL_law_X5_share : GoodIn wsL_law wsX5_share := goodIn_r _ [684, 20, 685, 686, 687, 19, 688, 43, 435, 439, 96, 97, 14, 98, 38, 438, 92, 93, 94, 95, 493, 285, 286, 287, 288, 289, 290, 291, 103, 104, 105, 99, 100, 101, 102, 114, 115, 116, 292, 293, 294, 295, 296, 297, 298, 299, 300, 301, 649, 650, 651, 652, 863, 864, 865, 866, 867, 868, 888, 887] (by decide +kernel) (by decide +kernel)
set_option maxRecDepth 20000 in
theorem gL_law_X5_share : GoodIn wsL_law (wsV RL 85 RX5 yX5_share wsX5_share) := goodIn_app (goodIn_of _ (by decide +kernel)) ggL_law_X5_share
set_option maxRecDepth 20000 in
theorem ggL_law_X6_share : GoodIn wsL_law wsX6_share := goodIn_r _ [692, 136, 175, 180, 181, 182, 5, 183, 167, 168, 169, 170, 314, 315, 316, 317, 318, 319, 320, 321, 322, 323, 324, 325, 159, 160, 161, 162, 163, 164, 165, 166, 171, 172, 173, 174, 176, 177, 178, 179, 184, 185, 186, 187, 188, 189, 190, 191, 326, 327, 328, 329, 330, 331, 332, 333, 669, 670, 671, 672, 673, 674, 675, 676, 677, 678, 679, 680, 869, 870, 871, 872, 873, 874, 875, 876, 877, 878, 879, 880, 881, 882, 883, 884, 885, 886] (by decide +kernel) (by decide +kernel)
set_option maxRecDepth 20000 in
theorem gL_law_X6_share : GoodIn wsL_law (wsV RL 88 RX6 yX6_share wsX6_share) := goodIn_app (goodIn_of _ (by decide +kernel)) ggL_law_X6_share
set_option maxRecDepth 20000 in
theorem ggL_law_X5_count : GoodIn wsL_law wsX5_count := goodIn_r _ [696, 28, 32, 20, 697, 698, 699, 27, 700, 61, 701, 702, 703, 31, 704, 69, 705, 706, 707, 19, 708, 43, 434, 439, 96, 97, 14, 98, 38, 709, 710, 711, 712, 621, 622, 623, 624, 438, 92, 93, 94, 95, 493, 285, 286, 287, 288, 289, 290, 291, 103, 104, 105, 99, 100, 101, 102, 114, 115, 116, 292, 293, 294, 295, 296, 297, 298, 299, 300, 301, 481, 482, 483, 484, 485, 486, 487, 488, 713, 714, 715, 716, 645, 646, 647, 648, 462, 463, 464, 465, 467, 717, 718, 719, 720, 721, 722, 723, 724, 489, 490, 491, 492, 863, 864, 865, 866, 867, 868, 893, 894, 895, 896, 897, 898, 899, 900, 901, 902, 888, 887] (by decide +kernel) (by decide +kernel)
set_option maxRecDepth 20000 in
theorem gL_law_X5_count : GoodIn wsL_law (wsV RL 89 RX5 yX5_count wsX5_count) := goodIn_app (goodIn_of _ (by decide +kernel)) ggL_law_X5_count
set_option maxRecDepth 20000 in
theorem ggL_law_X6_count : GoodIn wsL_law wsX6_count := goodIn_r _ [728, 136, 236, 729, 228, 229, 230, 5, 231, 730, 731, 732, 733, 633, 634, 635, 636, 180, 181, 182, 183, 167, 168, 169, 170, 314, 315, 316, 317, 318, 319, 320, 321, 322, 323, 324, 325, 175, 159, 160, 161, 162, 163, 164, 165, 166, 171, 172, 173, 174, 176, 177, 178, 179, 184, 185, 186, 187, 188, 189, 190, 191, 326, 327, 328, 329, 330, 331, 332, 333, 498, 499, 500, 501, 657, 658, 659, 660, 661, 662, 663, 664, 734, 735, 736, 737, 502, 503, 504, 505, 869, 870, 871, 872, 873, 874, 875, 876, 877, 878, 879, 880, 881, 882, 883, 884, 885, 886] (by decide +kernel) (by decide +kernel)
set_option maxRecDepth 20000 in
theorem gL_law_X6_count : GoodIn wsL_law (wsV RL 92 RX6 yX6_count wsX6_count) := goodIn_app (goodIn_of _ (by decide +kernel)) ggL_law_X6_count
set_option maxRecDepth 20000 in
theorem ggL_law_X5_undo : GoodIn wsL_law wsX5_undo := goodIn_r _ [741, 28, 15, 742, 743, 744, 27, 745, 61, 746, 208, 209, 210, 211, 60, 59, 212, 213, 214, 14, 215, 38, 216, 217, 218, 219, 863, 864, 865, 866, 867, 868, 893, 894, 895, 887] (by decide +kernel) (by decide +kernel)
set_option maxRecDepth 20000 in
theorem gL_law_X5_undo : GoodIn wsL_law (wsV RL 93 RX5 yX5_undo wsX5_undo) := goodIn_app (goodIn_of _ (by decide +kernel)) ggL_law_X5_undo
set_option maxRecDepth 20000 in
theorem ggL_law_X6_undo : GoodIn wsL_law wsX6_undo := goodIn_r _ [750, 236, 264, 139, 136, 237, 238, 5, 239, 869, 870, 871, 872, 873, 874, 875, 876, 877, 878, 879, 880, 881, 882, 883, 884, 885, 886] (by decide +kernel) (by decide +kernel)
set_option maxRecDepth 20000 in
theorem gL_law_X6_undo : GoodIn wsL_law (wsV RL 96 RX6 yX6_undo wsX6_undo) := goodIn_app (goodIn_of _ (by decide +kernel)) ggL_law_X6_undo
set_option maxRecDepth 20000 in
theorem ggL_law_X5_type : GoodIn wsL_law wsX5_type := goodIn_r _ [754, 32, 755, 756, 757, 31, 758, 759, 69, 760, 67, 863, 864, 865, 866, 867, 868, 896, 897, 898, 899, 900, 901, 902] (by decide +kernel) (by decide +kernel)
set_option maxRecDepth 20000 in
theorem gL_law_X5_type : GoodIn wsL_law (wsV RL 97 RX5 yX5_type wsX5_type) := goodIn_app (goodIn_of _ (by decide +kernel)) ggL_law_X5_type
set_option maxRecDepth 20000 in
theorem ggL_law_X6_type : GoodIn wsL_law wsX6_type := goodIn_r _ [764, 228, 729, 413, 140, 229, 230, 5, 231, 869, 870, 871, 872, 873, 874, 875, 876, 877, 878, 879, 880, 881, 882, 883, 884, 885, 886] (by decide +kernel) (by decide +kernel)
set_option maxRecDepth 20000 in
theorem gL_law_X6_type : GoodIn wsL_law (wsV RL 100 RX6 yX6_type wsX6_type) := goodIn_app (goodIn_of _ (by decide +kernel)) ggL_law_X6_type
set_option maxRecDepth 20000 in
theorem ggL_law_X5_clearText : GoodIn wsL_law wsX5_clearText := goodIn_r _ [768, 32, 769, 770, 771, 31, 772, 69, 863, 864, 865, 866, 867, 868, 896, 897, 898, 899, 900, 901, 902] (by decide +kernel) (by decide +kernel)
set_option maxRecDepth 20000 in
theorem gL_law_X5_clearText : GoodIn wsL_law (wsV RL 101 RX5 yX5_clearText wsX5_clearText) := goodIn_app (goodIn_of _ (by decide +kernel)) ggL_law_X5_clearText
set_option maxRecDepth 20000 in
theorem ggL_law_X6_clearText : GoodIn wsL_law wsX6_clearText := goodIn_r _ [776, 729, 869, 870, 871, 872, 873, 874, 875, 876, 877, 878, 879, 880, 881, 882, 883, 884, 885, 886] (by decide +kernel) (by decide +kernel)
set_option maxRecDepth 20000 in
theorem gL_law_X6_clearText : GoodIn wsL_law (wsV RL 104 RX6 yX6_clearText wsX6_clearText) := goodIn_app (goodIn_of _ (by decide +kernel)) ggL_law_X6_clearText
set_option maxRecDepth 20000 in
theorem ggL_law_X5_fault : GoodIn wsL_law wsX5_fault := goodIn_r _ [780, 510, 16, 15, 32, 543, 781, 213, 214, 14, 215, 38, 216, 217, 218, 219, 782, 783, 784, 31, 785, 70, 69, 68, 786, 787, 788, 789, 790, 791, 792, 793, 67, 794, 795, 796, 797, 798, 799, 800, 801, 122, 123, 124, 802, 803, 804, 805, 71, 72, 73, 806, 245, 246, 247, 78, 248, 249, 250, 251, 252, 95, 96, 97, 98, 253, 254, 255, 91, 92, 93, 94, 79, 80, 81, 82, 125, 126, 127, 128, 103, 104, 105, 99, 100, 101, 102, 106, 107, 108, 109, 110, 111, 112, 113, 114, 115, 116, 117, 118, 119, 120, 121, 129, 130, 131, 807, 281, 282, 283, 284, 285, 286, 287, 288, 289, 290, 291, 292, 293, 294, 295, 296, 297, 298, 299, 300, 301, 808, 339, 340, 341, 342, 343, 344, 345, 87, 88, 89, 90, 809, 363, 364, 365, 366, 367, 368, 369, 370, 371, 810, 389, 390, 391, 811, 401, 402, 403, 404, 812, 813, 814, 815, 863, 864, 865, 866, 867, 868, 887, 896, 897, 898, 899, 900, 901, 902] (by decide +kernel) (by decide +kernel)
set_option maxRecDepth 20000 in
theorem gL_law_X5_fault : GoodIn wsL_law (wsV RL 105 RX5 yX5_fault wsX5_fault) := goodIn_app (goodIn_of _ (by decide +kernel)) ggL_law_X5_fault
set_option maxRecDepth 20000 in
theorem ggL_law_X6_fault : GoodIn wsL_law wsX6_fault := goodIn_r _ [819, 228, 136, 138, 820, 175, 821, 822, 229, 230, 5, 231, 237, 238, 239, 823, 824, 825, 826, 827, 729, 828, 829, 830, 831, 832, 833, 834, 835, 836, 837, 140, 838, 839, 840, 841, 842, 843, 844, 845, 142, 846, 847, 848, 849, 260, 261, 262, 263, 264, 265, 266, 267, 268, 269, 270, 271, 180, 181, 182, 183, 167, 168, 169, 170, 376, 377, 378, 379, 409, 410, 411, 412, 413, 306, 307, 308, 309, 850, 851, 852, 853, 272, 273, 274, 275, 147, 148, 149, 150, 155, 156, 157, 158, 159, 160, 161, 162, 163, 164, 165, 166, 171, 172, 173, 174, 176, 177, 178, 179, 184, 185, 186, 187, 188, 189, 190, 191, 192, 193, 194, 195, 196, 197, 198, 199, 380, 381, 382, 383, 310, 311, 312, 313, 314, 315, 316, 317, 318, 319, 320, 321, 322, 323, 324, 325, 326, 327, 328, 329, 330, 331, 332, 333, 350, 351, 352, 353, 354, 355, 356, 357, 151, 152, 153, 154, 869, 870, 871, 872, 873, 874, 875, 876, 877, 878, 879, 880, 881, 882, 883, 884, 885, 886] (by decide +kernel) (by decide +kernel)
set_option maxRecDepth 20000 in
theorem gL_law_X6_fault : GoodIn wsL_law (wsV RL 108 RX6 yX6_fault wsX6_fault) := goodIn_app (goodIn_of _ (by decide +kernel)) ggL_law_X6_fault
set_option maxRecDepth 20000 in
theorem ggL_law_X5_play : GoodIn wsL_law wsX5_play := goodIn_r _ [857, 16, 15, 32, 858, 28, 781, 213, 214, 14, 215, 38, 216, 217, 218, 219, 782, 783, 784, 31, 785, 70, 69, 68, 786, 787, 788, 789, 790, 791, 792, 793, 67, 794, 795, 796, 797, 798, 799, 800, 801, 122, 123, 124, 802, 803, 804, 805, 71, 72, 73, 806, 245, 246, 247, 78, 248, 249, 250, 251, 252, 95, 96, 97, 98, 253, 254, 255, 91, 92, 93, 94, 79, 80, 81, 82, 125, 126, 127, 128, 103, 104, 105, 99, 100, 101, 102, 106, 107, 108, 109, 110, 111, 112, 113, 114, 115, 116, 117, 118, 119, 120, 121, 129, 130, 131, 807, 281, 282, 283, 284, 285, 286, 287, 288, 289, 290, 291, 292, 293, 294, 295, 296, 297, 298, 299, 300, 301, 808, 339, 340, 341, 342, 343, 344, 345, 87, 88, 89, 90, 809, 363, 364, 365, 366, 367, 368, 369, 370, 371, 810, 389, 390, 391, 811, 401, 402, 403, 404, 204, 205, 206, 27, 207, 61, 208, 209, 210, 211, 60, 59, 212, 220, 221, 222, 223, 863, 864, 865, 866, 867, 868, 887, 896, 897, 898, 899, 900, 901, 902, 893, 894, 895] (by decide +kernel) (by decide +kernel)
set_option maxRecDepth 20000 in
theorem gL_law_X5_play : GoodIn wsL_law (wsV RL 109 RX5 yX5_play wsX5_play) := goodIn_app (goodIn_of _ (by decide +kernel)) ggL_law_X5_play
set_option maxRecDepth 20000 in
theorem ggL_law_X6_play : GoodIn wsL_law wsX6_play := goodIn_r _ [862, 136, 138, 820, 264, 237, 238, 5, 239, 823, 824, 825, 826, 827, 729, 828, 821, 822, 829, 830, 831, 832, 833, 834, 835, 836, 837, 140, 838, 839, 840, 841, 842, 843, 844, 845, 142, 229, 230, 231, 846, 847, 848, 849, 260, 261, 262, 263, 228, 265, 266, 267, 268, 269, 270, 271, 180, 181, 182, 183, 167, 168, 169, 170, 376, 377, 378, 379, 409, 410, 411, 412, 413, 306, 307, 308, 309, 850, 851, 852, 853, 272, 273, 274, 275, 147, 148, 149, 150, 155, 156, 157, 158, 159, 160, 161, 162, 163, 164, 165, 166, 171, 172, 173, 174, 175, 176, 177, 178, 179, 184, 185, 186, 187, 188, 189, 190, 191, 192, 193, 194, 195, 196, 197, 198, 199, 380, 381, 382, 383, 310, 311, 312, 313, 314, 315, 316, 317, 318, 319, 320, 321, 322, 323, 324, 325, 326, 327, 328, 329, 330, 331, 332, 333, 350, 351, 352, 353, 354, 355, 356, 357, 151, 152, 153, 154, 232, 233, 234, 235, 236, 139, 869, 870, 871, 872, 873, 874, 875, 876, 877, 878, 879, 880, 881, 882, 883, 884, 885, 886] (by decide +kernel) (by decide +kernel)
set_option maxRecDepth 20000 in
theorem gL_law_X6_play : GoodIn wsL_law (wsV RL 112 RX6 yX6_play wsX6_play) := goodIn_app (goodIn_of _ (by decide +kernel)) ggL_law_X6_play
theorem dL_law_0 : decode cL_law 0 = .ok (.new 7, 3) := by decide +kernel
theorem dL_law_3 : decode cL_law 3 = .ok (.dup, 1) := by decide +kernel
theorem dL_law_4 : decode cL_law 4 = .ok (.invokespecial 9, 3) := by decide +kernel
theorem dL_law_7 : decode cL_law 7 = .ok (.astore_n 1, 1) := by decide +kernel
theorem dL_law_8 : decode cL_law 8 = .ok (.new 10, 3) := by decide +kernel
theorem dL_law_11 : decode cL_law 11 = .ok (.dup, 1) := by decide +kernel
theorem dL_law_12 : decode cL_law 12 = .ok (.invokespecial 12, 3) := by decide +kernel
theorem dL_law_15 : decode cL_law 15 = .ok (.astore_n 2, 1) := by decide +kernel
theorem dL_law_16 : decode cL_law 16 = .ok (.iconst 0, 1) := by decide +kernel
theorem dL_law_17 : decode cL_law 17 = .ok (.istore_n 3, 1) := by decide +kernel
theorem dL_law_18 : decode cL_law 18 = .ok (.iload_n 3, 1) := by decide +kernel
theorem dL_law_19 : decode cL_law 19 = .ok (.aload_n 0, 1) := by decide +kernel
theorem dL_law_20 : decode cL_law 20 = .ok (.arraylength, 1) := by decide +kernel
theorem dL_law_21 : decode cL_law 21 = .ok (.iconst 4, 1) := by decide +kernel
theorem dL_law_22 : decode cL_law 22 = .ok (.isub, 1) := by decide +kernel
theorem dL_law_23 : decode cL_law 23 = .ok (.if_icmp .gt 709, 3) := by decide +kernel
theorem dL_law_26 : decode cL_law 26 = .ok (.aload_n 0, 1) := by decide +kernel
theorem dL_law_27 : decode cL_law 27 = .ok (.iload_n 3, 1) := by decide +kernel
theorem dL_law_28 : decode cL_law 28 = .ok (.iaload, 1) := by decide +kernel
theorem dL_law_29 : decode cL_law 29 = .ok (.bipush 31, 2) := by decide +kernel
theorem dL_law_31 : decode cL_law 31 = .ok (.iand, 1) := by decide +kernel
theorem dL_law_32 : decode cL_law 32 = .ok (.tableswitch 694 0 23 #[112, 135, 178, 201, 224, 257, 280, 303, 336, 379, 422, 455, 478, 511, 534, 547, 560, 573, 586, 609, 622, 645, 658, 681], 112) := by decide +kernel
theorem dL_law_144 : decode cL_law 144 = .ok (.aload_n 1, 1) := by decide +kernel
theorem dL_law_145 : decode cL_law 145 = .ok (.aload_n 0, 1) := by decide +kernel
theorem dL_law_146 : decode cL_law 146 = .ok (.iload_n 3, 1) := by decide +kernel
theorem dL_law_147 : decode cL_law 147 = .ok (.iconst 1, 1) := by decide +kernel
theorem dL_law_148 : decode cL_law 148 = .ok (.iadd, 1) := by decide +kernel
theorem dL_law_149 : decode cL_law 149 = .ok (.iaload, 1) := by decide +kernel
theorem dL_law_150 : decode cL_law 150 = .ok (.invokevirtual 13, 3) := by decide +kernel
theorem dL_law_153 : decode cL_law 153 = .ok (.aload_n 2, 1) := by decide +kernel
theorem dL_law_154 : decode cL_law 154 = .ok (.aload_n 0, 1) := by decide +kernel
theorem dL_law_155 : decode cL_law 155 = .ok (.iload_n 3, 1) := by decide +kernel
theorem dL_law_156 : decode cL_law 156 = .ok (.iconst 1, 1) := by decide +kernel
theorem dL_law_157 : decode cL_law 157 = .ok (.iadd, 1) := by decide +kernel
theorem dL_law_158 : decode cL_law 158 = .ok (.iaload, 1) := by decide +kernel
theorem dL_law_159 : decode cL_law 159 = .ok (.invokevirtual 17, 3) := by decide +kernel
theorem dL_law_162 : decode cL_law 162 = .ok (.if_icmp .eq 564, 3) := by decide +kernel
theorem dL_law_165 : decode cL_law 165 = .ok (.iconst 0, 1) := by decide +kernel
theorem dL_law_166 : decode cL_law 166 = .ok (.ireturn, 1) := by decide +kernel
theorem dL_law_167 : decode cL_law 167 = .ok (.aload_n 1, 1) := by decide +kernel
theorem dL_law_168 : decode cL_law 168 = .ok (.aload_n 0, 1) := by decide +kernel
theorem dL_law_169 : decode cL_law 169 = .ok (.iload_n 3, 1) := by decide +kernel
theorem dL_law_170 : decode cL_law 170 = .ok (.iconst 1, 1) := by decide +kernel
theorem dL_law_171 : decode cL_law 171 = .ok (.iadd, 1) := by decide +kernel
theorem dL_law_172 : decode cL_law 172 = .ok (.iaload, 1) := by decide +kernel
theorem dL_law_173 : decode cL_law 173 = .ok (.aload_n 0, 1) := by decide +kernel
theorem dL_law_174 : decode cL_law 174 = .ok (.iload_n 3, 1) := by decide +kernel
theorem dL_law_175 : decode cL_law 175 = .ok (.iconst 2, 1) := by decide +kernel
theorem dL_law_176 : decode cL_law 176 = .ok (.iadd, 1) := by decide +kernel
theorem dL_law_177 : decode cL_law 177 = .ok (.iaload, 1) := by decide +kernel
theorem dL_law_178 : decode cL_law 178 = .ok (.aload_n 0, 1) := by decide +kernel
theorem dL_law_179 : decode cL_law 179 = .ok (.iload_n 3, 1) := by decide +kernel
theorem dL_law_180 : decode cL_law 180 = .ok (.iconst 3, 1) := by decide +kernel
theorem dL_law_181 : decode cL_law 181 = .ok (.iadd, 1) := by decide +kernel
theorem dL_law_182 : decode cL_law 182 = .ok (.iaload, 1) := by decide +kernel
theorem dL_law_183 : decode cL_law 183 = .ok (.invokevirtual 18, 3) := by decide +kernel
theorem dL_law_186 : decode cL_law 186 = .ok (.aload_n 2, 1) := by decide +kernel
theorem dL_law_187 : decode cL_law 187 = .ok (.aload_n 0, 1) := by decide +kernel
theorem dL_law_188 : decode cL_law 188 = .ok (.iload_n 3, 1) := by decide +kernel
theorem dL_law_189 : decode cL_law 189 = .ok (.iconst 1, 1) := by decide +kernel
theorem dL_law_190 : decode cL_law 190 = .ok (.iadd, 1) := by decide +kernel
theorem dL_law_191 : decode cL_law 191 = .ok (.iaload, 1) := by decide +kernel
theorem dL_law_192 : decode cL_law 192 = .ok (.aload_n 0, 1) := by decide +kernel
theorem dL_law_193 : decode cL_law 193 = .ok (.iload_n 3, 1) := by decide +kernel
theorem dL_law_194 : decode cL_law 194 = .ok (.iconst 2, 1) := by decide +kernel
theorem dL_law_195 : decode cL_law 195 = .ok (.iadd, 1) := by decide +kernel
theorem dL_law_196 : decode cL_law 196 = .ok (.iaload, 1) := by decide +kernel
theorem dL_law_197 : decode cL_law 197 = .ok (.aload_n 0, 1) := by decide +kernel
theorem dL_law_198 : decode cL_law 198 = .ok (.iload_n 3, 1) := by decide +kernel
theorem dL_law_199 : decode cL_law 199 = .ok (.iconst 3, 1) := by decide +kernel
theorem dL_law_200 : decode cL_law 200 = .ok (.iadd, 1) := by decide +kernel
theorem dL_law_201 : decode cL_law 201 = .ok (.iaload, 1) := by decide +kernel
theorem dL_law_202 : decode cL_law 202 = .ok (.invokevirtual 22, 3) := by decide +kernel
theorem dL_law_205 : decode cL_law 205 = .ok (.if_icmp .eq 521, 3) := by decide +kernel
theorem dL_law_208 : decode cL_law 208 = .ok (.iconst 0, 1) := by decide +kernel
theorem dL_law_209 : decode cL_law 209 = .ok (.ireturn, 1) := by decide +kernel
theorem dL_law_210 : decode cL_law 210 = .ok (.aload_n 1, 1) := by decide +kernel
theorem dL_law_211 : decode cL_law 211 = .ok (.aload_n 0, 1) := by decide +kernel
theorem dL_law_212 : decode cL_law 212 = .ok (.iload_n 3, 1) := by decide +kernel
theorem dL_law_213 : decode cL_law 213 = .ok (.iconst 1, 1) := by decide +kernel
theorem dL_law_214 : decode cL_law 214 = .ok (.iadd, 1) := by decide +kernel
theorem dL_law_215 : decode cL_law 215 = .ok (.iaload, 1) := by decide +kernel
theorem dL_law_216 : decode cL_law 216 = .ok (.invokevirtual 23, 3) := by decide +kernel
theorem dL_law_219 : decode cL_law 219 = .ok (.aload_n 2, 1) := by decide +kernel
theorem dL_law_220 : decode cL_law 220 = .ok (.aload_n 0, 1) := by decide +kernel
theorem dL_law_221 : decode cL_law 221 = .ok (.iload_n 3, 1) := by decide +kernel
theorem dL_law_222 : decode cL_law 222 = .ok (.iconst 1, 1) := by decide +kernel
theorem dL_law_223 : decode cL_law 223 = .ok (.iadd, 1) := by decide +kernel
theorem dL_law_224 : decode cL_law 224 = .ok (.iaload, 1) := by decide +kernel
theorem dL_law_225 : decode cL_law 225 = .ok (.invokevirtual 26, 3) := by decide +kernel
theorem dL_law_228 : decode cL_law 228 = .ok (.if_icmp .eq 498, 3) := by decide +kernel
theorem dL_law_231 : decode cL_law 231 = .ok (.iconst 0, 1) := by decide +kernel
theorem dL_law_232 : decode cL_law 232 = .ok (.ireturn, 1) := by decide +kernel
theorem dL_law_233 : decode cL_law 233 = .ok (.aload_n 1, 1) := by decide +kernel
theorem dL_law_234 : decode cL_law 234 = .ok (.aload_n 0, 1) := by decide +kernel
theorem dL_law_235 : decode cL_law 235 = .ok (.iload_n 3, 1) := by decide +kernel
theorem dL_law_236 : decode cL_law 236 = .ok (.iconst 1, 1) := by decide +kernel
theorem dL_law_237 : decode cL_law 237 = .ok (.iadd, 1) := by decide +kernel
theorem dL_law_238 : decode cL_law 238 = .ok (.iaload, 1) := by decide +kernel
theorem dL_law_239 : decode cL_law 239 = .ok (.invokevirtual 27, 3) := by decide +kernel
theorem dL_law_242 : decode cL_law 242 = .ok (.aload_n 2, 1) := by decide +kernel
theorem dL_law_243 : decode cL_law 243 = .ok (.aload_n 0, 1) := by decide +kernel
theorem dL_law_244 : decode cL_law 244 = .ok (.iload_n 3, 1) := by decide +kernel
theorem dL_law_245 : decode cL_law 245 = .ok (.iconst 1, 1) := by decide +kernel
theorem dL_law_246 : decode cL_law 246 = .ok (.iadd, 1) := by decide +kernel
theorem dL_law_247 : decode cL_law 247 = .ok (.iaload, 1) := by decide +kernel
theorem dL_law_248 : decode cL_law 248 = .ok (.invokevirtual 30, 3) := by decide +kernel
theorem dL_law_251 : decode cL_law 251 = .ok (.if_icmp .eq 475, 3) := by decide +kernel
theorem dL_law_254 : decode cL_law 254 = .ok (.iconst 0, 1) := by decide +kernel
theorem dL_law_255 : decode cL_law 255 = .ok (.ireturn, 1) := by decide +kernel
theorem dL_law_256 : decode cL_law 256 = .ok (.aload_n 1, 1) := by decide +kernel
theorem dL_law_257 : decode cL_law 257 = .ok (.aload_n 0, 1) := by decide +kernel
theorem dL_law_258 : decode cL_law 258 = .ok (.iload_n 3, 1) := by decide +kernel
theorem dL_law_259 : decode cL_law 259 = .ok (.iconst 1, 1) := by decide +kernel
theorem dL_law_260 : decode cL_law 260 = .ok (.iadd, 1) := by decide +kernel
theorem dL_law_261 : decode cL_law 261 = .ok (.iaload, 1) := by decide +kernel
theorem dL_law_262 : decode cL_law 262 = .ok (.aload_n 0, 1) := by decide +kernel
theorem dL_law_263 : decode cL_law 263 = .ok (.iload_n 3, 1) := by decide +kernel
theorem dL_law_264 : decode cL_law 264 = .ok (.iconst 2, 1) := by decide +kernel
theorem dL_law_265 : decode cL_law 265 = .ok (.iadd, 1) := by decide +kernel
theorem dL_law_266 : decode cL_law 266 = .ok (.iaload, 1) := by decide +kernel
theorem dL_law_267 : decode cL_law 267 = .ok (.invokevirtual 31, 3) := by decide +kernel
theorem dL_law_270 : decode cL_law 270 = .ok (.aload_n 2, 1) := by decide +kernel
theorem dL_law_271 : decode cL_law 271 = .ok (.aload_n 0, 1) := by decide +kernel
theorem dL_law_272 : decode cL_law 272 = .ok (.iload_n 3, 1) := by decide +kernel
theorem dL_law_273 : decode cL_law 273 = .ok (.iconst 1, 1) := by decide +kernel
theorem dL_law_274 : decode cL_law 274 = .ok (.iadd, 1) := by decide +kernel
theorem dL_law_275 : decode cL_law 275 = .ok (.iaload, 1) := by decide +kernel
theorem dL_law_276 : decode cL_law 276 = .ok (.aload_n 0, 1) := by decide +kernel
theorem dL_law_277 : decode cL_law 277 = .ok (.iload_n 3, 1) := by decide +kernel
theorem dL_law_278 : decode cL_law 278 = .ok (.iconst 2, 1) := by decide +kernel
theorem dL_law_279 : decode cL_law 279 = .ok (.iadd, 1) := by decide +kernel
theorem dL_law_280 : decode cL_law 280 = .ok (.iaload, 1) := by decide +kernel
theorem dL_law_281 : decode cL_law 281 = .ok (.invokevirtual 35, 3) := by decide +kernel
theorem dL_law_284 : decode cL_law 284 = .ok (.if_icmp .eq 442, 3) := by decide +kernel
theorem dL_law_287 : decode cL_law 287 = .ok (.iconst 0, 1) := by decide +kernel
theorem dL_law_288 : decode cL_law 288 = .ok (.ireturn, 1) := by decide +kernel
theorem dL_law_289 : decode cL_law 289 = .ok (.aload_n 1, 1) := by decide +kernel
theorem dL_law_290 : decode cL_law 290 = .ok (.aload_n 0, 1) := by decide +kernel
theorem dL_law_291 : decode cL_law 291 = .ok (.iload_n 3, 1) := by decide +kernel
theorem dL_law_292 : decode cL_law 292 = .ok (.iconst 1, 1) := by decide +kernel
theorem dL_law_293 : decode cL_law 293 = .ok (.iadd, 1) := by decide +kernel
theorem dL_law_294 : decode cL_law 294 = .ok (.iaload, 1) := by decide +kernel
theorem dL_law_295 : decode cL_law 295 = .ok (.invokevirtual 36, 3) := by decide +kernel
theorem dL_law_298 : decode cL_law 298 = .ok (.aload_n 2, 1) := by decide +kernel
theorem dL_law_299 : decode cL_law 299 = .ok (.aload_n 0, 1) := by decide +kernel
theorem dL_law_300 : decode cL_law 300 = .ok (.iload_n 3, 1) := by decide +kernel
theorem dL_law_301 : decode cL_law 301 = .ok (.iconst 1, 1) := by decide +kernel
theorem dL_law_302 : decode cL_law 302 = .ok (.iadd, 1) := by decide +kernel
theorem dL_law_303 : decode cL_law 303 = .ok (.iaload, 1) := by decide +kernel
theorem dL_law_304 : decode cL_law 304 = .ok (.invokevirtual 39, 3) := by decide +kernel
theorem dL_law_307 : decode cL_law 307 = .ok (.if_icmp .eq 419, 3) := by decide +kernel
theorem dL_law_310 : decode cL_law 310 = .ok (.iconst 0, 1) := by decide +kernel
theorem dL_law_311 : decode cL_law 311 = .ok (.ireturn, 1) := by decide +kernel
theorem dL_law_312 : decode cL_law 312 = .ok (.aload_n 1, 1) := by decide +kernel
theorem dL_law_313 : decode cL_law 313 = .ok (.aload_n 0, 1) := by decide +kernel
theorem dL_law_314 : decode cL_law 314 = .ok (.iload_n 3, 1) := by decide +kernel
theorem dL_law_315 : decode cL_law 315 = .ok (.iconst 1, 1) := by decide +kernel
theorem dL_law_316 : decode cL_law 316 = .ok (.iadd, 1) := by decide +kernel
theorem dL_law_317 : decode cL_law 317 = .ok (.iaload, 1) := by decide +kernel
theorem dL_law_318 : decode cL_law 318 = .ok (.invokevirtual 40, 3) := by decide +kernel
theorem dL_law_321 : decode cL_law 321 = .ok (.aload_n 2, 1) := by decide +kernel
theorem dL_law_322 : decode cL_law 322 = .ok (.aload_n 0, 1) := by decide +kernel
theorem dL_law_323 : decode cL_law 323 = .ok (.iload_n 3, 1) := by decide +kernel
theorem dL_law_324 : decode cL_law 324 = .ok (.iconst 1, 1) := by decide +kernel
theorem dL_law_325 : decode cL_law 325 = .ok (.iadd, 1) := by decide +kernel
theorem dL_law_326 : decode cL_law 326 = .ok (.iaload, 1) := by decide +kernel
theorem dL_law_327 : decode cL_law 327 = .ok (.invokevirtual 43, 3) := by decide +kernel
theorem dL_law_330 : decode cL_law 330 = .ok (.if_icmp .eq 396, 3) := by decide +kernel
theorem dL_law_333 : decode cL_law 333 = .ok (.iconst 0, 1) := by decide +kernel
theorem dL_law_334 : decode cL_law 334 = .ok (.ireturn, 1) := by decide +kernel
theorem dL_law_335 : decode cL_law 335 = .ok (.aload_n 1, 1) := by decide +kernel
theorem dL_law_336 : decode cL_law 336 = .ok (.aload_n 0, 1) := by decide +kernel
theorem dL_law_337 : decode cL_law 337 = .ok (.iload_n 3, 1) := by decide +kernel
theorem dL_law_338 : decode cL_law 338 = .ok (.iconst 1, 1) := by decide +kernel
theorem dL_law_339 : decode cL_law 339 = .ok (.iadd, 1) := by decide +kernel
theorem dL_law_340 : decode cL_law 340 = .ok (.iaload, 1) := by decide +kernel
theorem dL_law_341 : decode cL_law 341 = .ok (.aload_n 0, 1) := by decide +kernel
theorem dL_law_342 : decode cL_law 342 = .ok (.iload_n 3, 1) := by decide +kernel
theorem dL_law_343 : decode cL_law 343 = .ok (.iconst 2, 1) := by decide +kernel
theorem dL_law_344 : decode cL_law 344 = .ok (.iadd, 1) := by decide +kernel
theorem dL_law_345 : decode cL_law 345 = .ok (.iaload, 1) := by decide +kernel
theorem dL_law_346 : decode cL_law 346 = .ok (.invokevirtual 44, 3) := by decide +kernel
theorem dL_law_349 : decode cL_law 349 = .ok (.aload_n 2, 1) := by decide +kernel
theorem dL_law_350 : decode cL_law 350 = .ok (.aload_n 0, 1) := by decide +kernel
theorem dL_law_351 : decode cL_law 351 = .ok (.iload_n 3, 1) := by decide +kernel
theorem dL_law_352 : decode cL_law 352 = .ok (.iconst 1, 1) := by decide +kernel
theorem dL_law_353 : decode cL_law 353 = .ok (.iadd, 1) := by decide +kernel
theorem dL_law_354 : decode cL_law 354 = .ok (.iaload, 1) := by decide +kernel
theorem dL_law_355 : decode cL_law 355 = .ok (.aload_n 0, 1) := by decide +kernel
theorem dL_law_356 : decode cL_law 356 = .ok (.iload_n 3, 1) := by decide +kernel
theorem dL_law_357 : decode cL_law 357 = .ok (.iconst 2, 1) := by decide +kernel
theorem dL_law_358 : decode cL_law 358 = .ok (.iadd, 1) := by decide +kernel
theorem dL_law_359 : decode cL_law 359 = .ok (.iaload, 1) := by decide +kernel
theorem dL_law_360 : decode cL_law 360 = .ok (.invokevirtual 47, 3) := by decide +kernel
theorem dL_law_363 : decode cL_law 363 = .ok (.if_icmp .eq 363, 3) := by decide +kernel
theorem dL_law_366 : decode cL_law 366 = .ok (.iconst 0, 1) := by decide +kernel
theorem dL_law_367 : decode cL_law 367 = .ok (.ireturn, 1) := by decide +kernel
theorem dL_law_368 : decode cL_law 368 = .ok (.aload_n 1, 1) := by decide +kernel
theorem dL_law_369 : decode cL_law 369 = .ok (.aload_n 0, 1) := by decide +kernel
theorem dL_law_370 : decode cL_law 370 = .ok (.iload_n 3, 1) := by decide +kernel
theorem dL_law_371 : decode cL_law 371 = .ok (.iconst 1, 1) := by decide +kernel
theorem dL_law_372 : decode cL_law 372 = .ok (.iadd, 1) := by decide +kernel
theorem dL_law_373 : decode cL_law 373 = .ok (.iaload, 1) := by decide +kernel
theorem dL_law_374 : decode cL_law 374 = .ok (.aload_n 0, 1) := by decide +kernel
theorem dL_law_375 : decode cL_law 375 = .ok (.iload_n 3, 1) := by decide +kernel
theorem dL_law_376 : decode cL_law 376 = .ok (.iconst 2, 1) := by decide +kernel
theorem dL_law_377 : decode cL_law 377 = .ok (.iadd, 1) := by decide +kernel
theorem dL_law_378 : decode cL_law 378 = .ok (.iaload, 1) := by decide +kernel
theorem dL_law_379 : decode cL_law 379 = .ok (.aload_n 0, 1) := by decide +kernel
theorem dL_law_380 : decode cL_law 380 = .ok (.iload_n 3, 1) := by decide +kernel
theorem dL_law_381 : decode cL_law 381 = .ok (.iconst 3, 1) := by decide +kernel
theorem dL_law_382 : decode cL_law 382 = .ok (.iadd, 1) := by decide +kernel
theorem dL_law_383 : decode cL_law 383 = .ok (.iaload, 1) := by decide +kernel
theorem dL_law_384 : decode cL_law 384 = .ok (.invokevirtual 48, 3) := by decide +kernel
theorem dL_law_387 : decode cL_law 387 = .ok (.aload_n 2, 1) := by decide +kernel
theorem dL_law_388 : decode cL_law 388 = .ok (.aload_n 0, 1) := by decide +kernel
theorem dL_law_389 : decode cL_law 389 = .ok (.iload_n 3, 1) := by decide +kernel
theorem dL_law_390 : decode cL_law 390 = .ok (.iconst 1, 1) := by decide +kernel
theorem dL_law_391 : decode cL_law 391 = .ok (.iadd, 1) := by decide +kernel
theorem dL_law_392 : decode cL_law 392 = .ok (.iaload, 1) := by decide +kernel
theorem dL_law_393 : decode cL_law 393 = .ok (.aload_n 0, 1) := by decide +kernel
theorem dL_law_394 : decode cL_law 394 = .ok (.iload_n 3, 1) := by decide +kernel
theorem dL_law_395 : decode cL_law 395 = .ok (.iconst 2, 1) := by decide +kernel
theorem dL_law_396 : decode cL_law 396 = .ok (.iadd, 1) := by decide +kernel
theorem dL_law_397 : decode cL_law 397 = .ok (.iaload, 1) := by decide +kernel
theorem dL_law_398 : decode cL_law 398 = .ok (.aload_n 0, 1) := by decide +kernel
theorem dL_law_399 : decode cL_law 399 = .ok (.iload_n 3, 1) := by decide +kernel
theorem dL_law_400 : decode cL_law 400 = .ok (.iconst 3, 1) := by decide +kernel
theorem dL_law_401 : decode cL_law 401 = .ok (.iadd, 1) := by decide +kernel
theorem dL_law_402 : decode cL_law 402 = .ok (.iaload, 1) := by decide +kernel
theorem dL_law_403 : decode cL_law 403 = .ok (.invokevirtual 51, 3) := by decide +kernel
theorem dL_law_406 : decode cL_law 406 = .ok (.if_icmp .eq 320, 3) := by decide +kernel
theorem dL_law_409 : decode cL_law 409 = .ok (.iconst 0, 1) := by decide +kernel
theorem dL_law_410 : decode cL_law 410 = .ok (.ireturn, 1) := by decide +kernel
theorem dL_law_411 : decode cL_law 411 = .ok (.aload_n 1, 1) := by decide +kernel
theorem dL_law_412 : decode cL_law 412 = .ok (.aload_n 0, 1) := by decide +kernel
theorem dL_law_413 : decode cL_law 413 = .ok (.iload_n 3, 1) := by decide +kernel
theorem dL_law_414 : decode cL_law 414 = .ok (.iconst 1, 1) := by decide +kernel
theorem dL_law_415 : decode cL_law 415 = .ok (.iadd, 1) := by decide +kernel
theorem dL_law_416 : decode cL_law 416 = .ok (.iaload, 1) := by decide +kernel
theorem dL_law_417 : decode cL_law 417 = .ok (.aload_n 0, 1) := by decide +kernel
theorem dL_law_418 : decode cL_law 418 = .ok (.iload_n 3, 1) := by decide +kernel
theorem dL_law_419 : decode cL_law 419 = .ok (.iconst 2, 1) := by decide +kernel
theorem dL_law_420 : decode cL_law 420 = .ok (.iadd, 1) := by decide +kernel
theorem dL_law_421 : decode cL_law 421 = .ok (.iaload, 1) := by decide +kernel
theorem dL_law_422 : decode cL_law 422 = .ok (.aload_n 0, 1) := by decide +kernel
theorem dL_law_423 : decode cL_law 423 = .ok (.iload_n 3, 1) := by decide +kernel
theorem dL_law_424 : decode cL_law 424 = .ok (.iconst 3, 1) := by decide +kernel
theorem dL_law_425 : decode cL_law 425 = .ok (.iadd, 1) := by decide +kernel
theorem dL_law_426 : decode cL_law 426 = .ok (.iaload, 1) := by decide +kernel
theorem dL_law_427 : decode cL_law 427 = .ok (.invokevirtual 52, 3) := by decide +kernel
theorem dL_law_430 : decode cL_law 430 = .ok (.aload_n 2, 1) := by decide +kernel
theorem dL_law_431 : decode cL_law 431 = .ok (.aload_n 0, 1) := by decide +kernel
theorem dL_law_432 : decode cL_law 432 = .ok (.iload_n 3, 1) := by decide +kernel
theorem dL_law_433 : decode cL_law 433 = .ok (.iconst 1, 1) := by decide +kernel
theorem dL_law_434 : decode cL_law 434 = .ok (.iadd, 1) := by decide +kernel
theorem dL_law_435 : decode cL_law 435 = .ok (.iaload, 1) := by decide +kernel
theorem dL_law_436 : decode cL_law 436 = .ok (.aload_n 0, 1) := by decide +kernel
theorem dL_law_437 : decode cL_law 437 = .ok (.iload_n 3, 1) := by decide +kernel
theorem dL_law_438 : decode cL_law 438 = .ok (.iconst 2, 1) := by decide +kernel
theorem dL_law_439 : decode cL_law 439 = .ok (.iadd, 1) := by decide +kernel
theorem dL_law_440 : decode cL_law 440 = .ok (.iaload, 1) := by decide +kernel
theorem dL_law_441 : decode cL_law 441 = .ok (.aload_n 0, 1) := by decide +kernel
theorem dL_law_442 : decode cL_law 442 = .ok (.iload_n 3, 1) := by decide +kernel
theorem dL_law_443 : decode cL_law 443 = .ok (.iconst 3, 1) := by decide +kernel
theorem dL_law_444 : decode cL_law 444 = .ok (.iadd, 1) := by decide +kernel
theorem dL_law_445 : decode cL_law 445 = .ok (.iaload, 1) := by decide +kernel
theorem dL_law_446 : decode cL_law 446 = .ok (.invokevirtual 55, 3) := by decide +kernel
theorem dL_law_449 : decode cL_law 449 = .ok (.if_icmp .eq 277, 3) := by decide +kernel
theorem dL_law_452 : decode cL_law 452 = .ok (.iconst 0, 1) := by decide +kernel
theorem dL_law_453 : decode cL_law 453 = .ok (.ireturn, 1) := by decide +kernel
theorem dL_law_454 : decode cL_law 454 = .ok (.aload_n 1, 1) := by decide +kernel
theorem dL_law_455 : decode cL_law 455 = .ok (.aload_n 0, 1) := by decide +kernel
theorem dL_law_456 : decode cL_law 456 = .ok (.iload_n 3, 1) := by decide +kernel
theorem dL_law_457 : decode cL_law 457 = .ok (.iconst 1, 1) := by decide +kernel
theorem dL_law_458 : decode cL_law 458 = .ok (.iadd, 1) := by decide +kernel
theorem dL_law_459 : decode cL_law 459 = .ok (.iaload, 1) := by decide +kernel
theorem dL_law_460 : decode cL_law 460 = .ok (.aload_n 0, 1) := by decide +kernel
theorem dL_law_461 : decode cL_law 461 = .ok (.iload_n 3, 1) := by decide +kernel
theorem dL_law_462 : decode cL_law 462 = .ok (.iconst 2, 1) := by decide +kernel
theorem dL_law_463 : decode cL_law 463 = .ok (.iadd, 1) := by decide +kernel
theorem dL_law_464 : decode cL_law 464 = .ok (.iaload, 1) := by decide +kernel
theorem dL_law_465 : decode cL_law 465 = .ok (.invokevirtual 56, 3) := by decide +kernel
theorem dL_law_468 : decode cL_law 468 = .ok (.aload_n 2, 1) := by decide +kernel
theorem dL_law_469 : decode cL_law 469 = .ok (.aload_n 0, 1) := by decide +kernel
theorem dL_law_470 : decode cL_law 470 = .ok (.iload_n 3, 1) := by decide +kernel
theorem dL_law_471 : decode cL_law 471 = .ok (.iconst 1, 1) := by decide +kernel
theorem dL_law_472 : decode cL_law 472 = .ok (.iadd, 1) := by decide +kernel
theorem dL_law_473 : decode cL_law 473 = .ok (.iaload, 1) := by decide +kernel
theorem dL_law_474 : decode cL_law 474 = .ok (.aload_n 0, 1) := by decide +kernel
theorem dL_law_475 : decode cL_law 475 = .ok (.iload_n 3, 1) := by decide +kernel
theorem dL_law_476 : decode cL_law 476 = .ok (.iconst 2, 1) := by decide +kernel
theorem dL_law_477 : decode cL_law 477 = .ok (.iadd, 1) := by decide +kernel
theorem dL_law_478 : decode cL_law 478 = .ok (.iaload, 1) := by decide +kernel
theorem dL_law_479 : decode cL_law 479 = .ok (.invokevirtual 59, 3) := by decide +kernel
theorem dL_law_482 : decode cL_law 482 = .ok (.if_icmp .eq 244, 3) := by decide +kernel
theorem dL_law_485 : decode cL_law 485 = .ok (.iconst 0, 1) := by decide +kernel
theorem dL_law_486 : decode cL_law 486 = .ok (.ireturn, 1) := by decide +kernel
theorem dL_law_487 : decode cL_law 487 = .ok (.aload_n 1, 1) := by decide +kernel
theorem dL_law_488 : decode cL_law 488 = .ok (.aload_n 0, 1) := by decide +kernel
theorem dL_law_489 : decode cL_law 489 = .ok (.iload_n 3, 1) := by decide +kernel
theorem dL_law_490 : decode cL_law 490 = .ok (.iconst 1, 1) := by decide +kernel
theorem dL_law_491 : decode cL_law 491 = .ok (.iadd, 1) := by decide +kernel
theorem dL_law_492 : decode cL_law 492 = .ok (.iaload, 1) := by decide +kernel
theorem dL_law_493 : decode cL_law 493 = .ok (.invokevirtual 60, 3) := by decide +kernel
theorem dL_law_496 : decode cL_law 496 = .ok (.aload_n 2, 1) := by decide +kernel
theorem dL_law_497 : decode cL_law 497 = .ok (.aload_n 0, 1) := by decide +kernel
theorem dL_law_498 : decode cL_law 498 = .ok (.iload_n 3, 1) := by decide +kernel
theorem dL_law_499 : decode cL_law 499 = .ok (.iconst 1, 1) := by decide +kernel
theorem dL_law_500 : decode cL_law 500 = .ok (.iadd, 1) := by decide +kernel
theorem dL_law_501 : decode cL_law 501 = .ok (.iaload, 1) := by decide +kernel
theorem dL_law_502 : decode cL_law 502 = .ok (.invokevirtual 63, 3) := by decide +kernel
theorem dL_law_505 : decode cL_law 505 = .ok (.if_icmp .eq 221, 3) := by decide +kernel
theorem dL_law_508 : decode cL_law 508 = .ok (.iconst 0, 1) := by decide +kernel
theorem dL_law_509 : decode cL_law 509 = .ok (.ireturn, 1) := by decide +kernel
theorem dL_law_510 : decode cL_law 510 = .ok (.aload_n 1, 1) := by decide +kernel
theorem dL_law_511 : decode cL_law 511 = .ok (.aload_n 0, 1) := by decide +kernel
theorem dL_law_512 : decode cL_law 512 = .ok (.iload_n 3, 1) := by decide +kernel
theorem dL_law_513 : decode cL_law 513 = .ok (.iconst 1, 1) := by decide +kernel
theorem dL_law_514 : decode cL_law 514 = .ok (.iadd, 1) := by decide +kernel
theorem dL_law_515 : decode cL_law 515 = .ok (.iaload, 1) := by decide +kernel
theorem dL_law_516 : decode cL_law 516 = .ok (.aload_n 0, 1) := by decide +kernel
theorem dL_law_517 : decode cL_law 517 = .ok (.iload_n 3, 1) := by decide +kernel
theorem dL_law_518 : decode cL_law 518 = .ok (.iconst 2, 1) := by decide +kernel
theorem dL_law_519 : decode cL_law 519 = .ok (.iadd, 1) := by decide +kernel
theorem dL_law_520 : decode cL_law 520 = .ok (.iaload, 1) := by decide +kernel
theorem dL_law_521 : decode cL_law 521 = .ok (.invokevirtual 64, 3) := by decide +kernel
theorem dL_law_524 : decode cL_law 524 = .ok (.aload_n 2, 1) := by decide +kernel
theorem dL_law_525 : decode cL_law 525 = .ok (.aload_n 0, 1) := by decide +kernel
theorem dL_law_526 : decode cL_law 526 = .ok (.iload_n 3, 1) := by decide +kernel
theorem dL_law_527 : decode cL_law 527 = .ok (.iconst 1, 1) := by decide +kernel
theorem dL_law_528 : decode cL_law 528 = .ok (.iadd, 1) := by decide +kernel
theorem dL_law_529 : decode cL_law 529 = .ok (.iaload, 1) := by decide +kernel
theorem dL_law_530 : decode cL_law 530 = .ok (.aload_n 0, 1) := by decide +kernel
theorem dL_law_531 : decode cL_law 531 = .ok (.iload_n 3, 1) := by decide +kernel
theorem dL_law_532 : decode cL_law 532 = .ok (.iconst 2, 1) := by decide +kernel
theorem dL_law_533 : decode cL_law 533 = .ok (.iadd, 1) := by decide +kernel
theorem dL_law_534 : decode cL_law 534 = .ok (.iaload, 1) := by decide +kernel
theorem dL_law_535 : decode cL_law 535 = .ok (.invokevirtual 67, 3) := by decide +kernel
theorem dL_law_538 : decode cL_law 538 = .ok (.if_icmp .eq 188, 3) := by decide +kernel
theorem dL_law_541 : decode cL_law 541 = .ok (.iconst 0, 1) := by decide +kernel
theorem dL_law_542 : decode cL_law 542 = .ok (.ireturn, 1) := by decide +kernel
theorem dL_law_543 : decode cL_law 543 = .ok (.aload_n 1, 1) := by decide +kernel
theorem dL_law_544 : decode cL_law 544 = .ok (.aload_n 0, 1) := by decide +kernel
theorem dL_law_545 : decode cL_law 545 = .ok (.iload_n 3, 1) := by decide +kernel
theorem dL_law_546 : decode cL_law 546 = .ok (.iconst 1, 1) := by decide +kernel
theorem dL_law_547 : decode cL_law 547 = .ok (.iadd, 1) := by decide +kernel
theorem dL_law_548 : decode cL_law 548 = .ok (.iaload, 1) := by decide +kernel
theorem dL_law_549 : decode cL_law 549 = .ok (.invokevirtual 68, 3) := by decide +kernel
theorem dL_law_552 : decode cL_law 552 = .ok (.aload_n 2, 1) := by decide +kernel
theorem dL_law_553 : decode cL_law 553 = .ok (.aload_n 0, 1) := by decide +kernel
theorem dL_law_554 : decode cL_law 554 = .ok (.iload_n 3, 1) := by decide +kernel
theorem dL_law_555 : decode cL_law 555 = .ok (.iconst 1, 1) := by decide +kernel
theorem dL_law_556 : decode cL_law 556 = .ok (.iadd, 1) := by decide +kernel
theorem dL_law_557 : decode cL_law 557 = .ok (.iaload, 1) := by decide +kernel
theorem dL_law_558 : decode cL_law 558 = .ok (.invokevirtual 71, 3) := by decide +kernel
theorem dL_law_561 : decode cL_law 561 = .ok (.if_icmp .eq 165, 3) := by decide +kernel
theorem dL_law_564 : decode cL_law 564 = .ok (.iconst 0, 1) := by decide +kernel
theorem dL_law_565 : decode cL_law 565 = .ok (.ireturn, 1) := by decide +kernel
theorem dL_law_566 : decode cL_law 566 = .ok (.aload_n 1, 1) := by decide +kernel
theorem dL_law_567 : decode cL_law 567 = .ok (.invokevirtual 72, 3) := by decide +kernel
theorem dL_law_570 : decode cL_law 570 = .ok (.aload_n 2, 1) := by decide +kernel
theorem dL_law_571 : decode cL_law 571 = .ok (.invokevirtual 76, 3) := by decide +kernel
theorem dL_law_574 : decode cL_law 574 = .ok (.if_icmp .eq 152, 3) := by decide +kernel
theorem dL_law_577 : decode cL_law 577 = .ok (.iconst 0, 1) := by decide +kernel
theorem dL_law_578 : decode cL_law 578 = .ok (.ireturn, 1) := by decide +kernel
theorem dL_law_579 : decode cL_law 579 = .ok (.aload_n 1, 1) := by decide +kernel
theorem dL_law_580 : decode cL_law 580 = .ok (.invokevirtual 77, 3) := by decide +kernel
theorem dL_law_583 : decode cL_law 583 = .ok (.aload_n 2, 1) := by decide +kernel
theorem dL_law_584 : decode cL_law 584 = .ok (.invokevirtual 80, 3) := by decide +kernel
theorem dL_law_587 : decode cL_law 587 = .ok (.if_icmp .eq 139, 3) := by decide +kernel
theorem dL_law_590 : decode cL_law 590 = .ok (.iconst 0, 1) := by decide +kernel
theorem dL_law_591 : decode cL_law 591 = .ok (.ireturn, 1) := by decide +kernel
theorem dL_law_592 : decode cL_law 592 = .ok (.aload_n 1, 1) := by decide +kernel
theorem dL_law_593 : decode cL_law 593 = .ok (.invokevirtual 81, 3) := by decide +kernel
theorem dL_law_596 : decode cL_law 596 = .ok (.aload_n 2, 1) := by decide +kernel
theorem dL_law_597 : decode cL_law 597 = .ok (.invokevirtual 84, 3) := by decide +kernel
theorem dL_law_600 : decode cL_law 600 = .ok (.if_icmp .eq 126, 3) := by decide +kernel
theorem dL_law_603 : decode cL_law 603 = .ok (.iconst 0, 1) := by decide +kernel
theorem dL_law_604 : decode cL_law 604 = .ok (.ireturn, 1) := by decide +kernel
theorem dL_law_605 : decode cL_law 605 = .ok (.aload_n 1, 1) := by decide +kernel
theorem dL_law_606 : decode cL_law 606 = .ok (.invokevirtual 85, 3) := by decide +kernel
theorem dL_law_609 : decode cL_law 609 = .ok (.aload_n 2, 1) := by decide +kernel
theorem dL_law_610 : decode cL_law 610 = .ok (.invokevirtual 88, 3) := by decide +kernel
theorem dL_law_613 : decode cL_law 613 = .ok (.if_icmp .eq 113, 3) := by decide +kernel
theorem dL_law_616 : decode cL_law 616 = .ok (.iconst 0, 1) := by decide +kernel
theorem dL_law_617 : decode cL_law 617 = .ok (.ireturn, 1) := by decide +kernel
theorem dL_law_618 : decode cL_law 618 = .ok (.aload_n 1, 1) := by decide +kernel
theorem dL_law_619 : decode cL_law 619 = .ok (.aload_n 0, 1) := by decide +kernel
theorem dL_law_620 : decode cL_law 620 = .ok (.iload_n 3, 1) := by decide +kernel
theorem dL_law_621 : decode cL_law 621 = .ok (.iconst 1, 1) := by decide +kernel
theorem dL_law_622 : decode cL_law 622 = .ok (.iadd, 1) := by decide +kernel
theorem dL_law_623 : decode cL_law 623 = .ok (.iaload, 1) := by decide +kernel
theorem dL_law_624 : decode cL_law 624 = .ok (.invokevirtual 89, 3) := by decide +kernel
theorem dL_law_627 : decode cL_law 627 = .ok (.aload_n 2, 1) := by decide +kernel
theorem dL_law_628 : decode cL_law 628 = .ok (.aload_n 0, 1) := by decide +kernel
theorem dL_law_629 : decode cL_law 629 = .ok (.iload_n 3, 1) := by decide +kernel
theorem dL_law_630 : decode cL_law 630 = .ok (.iconst 1, 1) := by decide +kernel
theorem dL_law_631 : decode cL_law 631 = .ok (.iadd, 1) := by decide +kernel
theorem dL_law_632 : decode cL_law 632 = .ok (.iaload, 1) := by decide +kernel
theorem dL_law_633 : decode cL_law 633 = .ok (.invokevirtual 92, 3) := by decide +kernel
theorem dL_law_636 : decode cL_law 636 = .ok (.if_icmp .eq 90, 3) := by decide +kernel
theorem dL_law_639 : decode cL_law 639 = .ok (.iconst 0, 1) := by decide +kernel
theorem dL_law_640 : decode cL_law 640 = .ok (.ireturn, 1) := by decide +kernel
theorem dL_law_641 : decode cL_law 641 = .ok (.aload_n 1, 1) := by decide +kernel
theorem dL_law_642 : decode cL_law 642 = .ok (.invokevirtual 93, 3) := by decide +kernel
theorem dL_law_645 : decode cL_law 645 = .ok (.aload_n 2, 1) := by decide +kernel
theorem dL_law_646 : decode cL_law 646 = .ok (.invokevirtual 96, 3) := by decide +kernel
theorem dL_law_649 : decode cL_law 649 = .ok (.if_icmp .eq 77, 3) := by decide +kernel
theorem dL_law_652 : decode cL_law 652 = .ok (.iconst 0, 1) := by decide +kernel
theorem dL_law_653 : decode cL_law 653 = .ok (.ireturn, 1) := by decide +kernel
theorem dL_law_654 : decode cL_law 654 = .ok (.aload_n 1, 1) := by decide +kernel
theorem dL_law_655 : decode cL_law 655 = .ok (.aload_n 0, 1) := by decide +kernel
theorem dL_law_656 : decode cL_law 656 = .ok (.iload_n 3, 1) := by decide +kernel
theorem dL_law_657 : decode cL_law 657 = .ok (.iconst 1, 1) := by decide +kernel
theorem dL_law_658 : decode cL_law 658 = .ok (.iadd, 1) := by decide +kernel
theorem dL_law_659 : decode cL_law 659 = .ok (.iaload, 1) := by decide +kernel
theorem dL_law_660 : decode cL_law 660 = .ok (.invokevirtual 97, 3) := by decide +kernel
theorem dL_law_663 : decode cL_law 663 = .ok (.aload_n 2, 1) := by decide +kernel
theorem dL_law_664 : decode cL_law 664 = .ok (.aload_n 0, 1) := by decide +kernel
theorem dL_law_665 : decode cL_law 665 = .ok (.iload_n 3, 1) := by decide +kernel
theorem dL_law_666 : decode cL_law 666 = .ok (.iconst 1, 1) := by decide +kernel
theorem dL_law_667 : decode cL_law 667 = .ok (.iadd, 1) := by decide +kernel
theorem dL_law_668 : decode cL_law 668 = .ok (.iaload, 1) := by decide +kernel
theorem dL_law_669 : decode cL_law 669 = .ok (.invokevirtual 100, 3) := by decide +kernel
theorem dL_law_672 : decode cL_law 672 = .ok (.if_icmp .eq 54, 3) := by decide +kernel
theorem dL_law_675 : decode cL_law 675 = .ok (.iconst 0, 1) := by decide +kernel
theorem dL_law_676 : decode cL_law 676 = .ok (.ireturn, 1) := by decide +kernel
theorem dL_law_677 : decode cL_law 677 = .ok (.aload_n 1, 1) := by decide +kernel
theorem dL_law_678 : decode cL_law 678 = .ok (.invokevirtual 101, 3) := by decide +kernel
theorem dL_law_681 : decode cL_law 681 = .ok (.aload_n 2, 1) := by decide +kernel
theorem dL_law_682 : decode cL_law 682 = .ok (.invokevirtual 104, 3) := by decide +kernel
theorem dL_law_685 : decode cL_law 685 = .ok (.if_icmp .eq 41, 3) := by decide +kernel
theorem dL_law_688 : decode cL_law 688 = .ok (.iconst 0, 1) := by decide +kernel
theorem dL_law_689 : decode cL_law 689 = .ok (.ireturn, 1) := by decide +kernel
theorem dL_law_690 : decode cL_law 690 = .ok (.aload_n 1, 1) := by decide +kernel
theorem dL_law_691 : decode cL_law 691 = .ok (.aload_n 0, 1) := by decide +kernel
theorem dL_law_692 : decode cL_law 692 = .ok (.iload_n 3, 1) := by decide +kernel
theorem dL_law_693 : decode cL_law 693 = .ok (.iconst 1, 1) := by decide +kernel
theorem dL_law_694 : decode cL_law 694 = .ok (.iadd, 1) := by decide +kernel
theorem dL_law_695 : decode cL_law 695 = .ok (.iaload, 1) := by decide +kernel
theorem dL_law_696 : decode cL_law 696 = .ok (.invokevirtual 105, 3) := by decide +kernel
theorem dL_law_699 : decode cL_law 699 = .ok (.aload_n 2, 1) := by decide +kernel
theorem dL_law_700 : decode cL_law 700 = .ok (.aload_n 0, 1) := by decide +kernel
theorem dL_law_701 : decode cL_law 701 = .ok (.iload_n 3, 1) := by decide +kernel
theorem dL_law_702 : decode cL_law 702 = .ok (.iconst 1, 1) := by decide +kernel
theorem dL_law_703 : decode cL_law 703 = .ok (.iadd, 1) := by decide +kernel
theorem dL_law_704 : decode cL_law 704 = .ok (.iaload, 1) := by decide +kernel
theorem dL_law_705 : decode cL_law 705 = .ok (.invokevirtual 108, 3) := by decide +kernel
theorem dL_law_708 : decode cL_law 708 = .ok (.if_icmp .eq 18, 3) := by decide +kernel
theorem dL_law_711 : decode cL_law 711 = .ok (.iconst 0, 1) := by decide +kernel
theorem dL_law_712 : decode cL_law 712 = .ok (.ireturn, 1) := by decide +kernel
theorem dL_law_713 : decode cL_law 713 = .ok (.aload_n 1, 1) := by decide +kernel
theorem dL_law_714 : decode cL_law 714 = .ok (.invokevirtual 109, 3) := by decide +kernel
theorem dL_law_717 : decode cL_law 717 = .ok (.aload_n 2, 1) := by decide +kernel
theorem dL_law_718 : decode cL_law 718 = .ok (.invokevirtual 112, 3) := by decide +kernel
theorem dL_law_721 : decode cL_law 721 = .ok (.if_icmp .eq 5, 3) := by decide +kernel
theorem dL_law_724 : decode cL_law 724 = .ok (.iconst 0, 1) := by decide +kernel
theorem dL_law_725 : decode cL_law 725 = .ok (.ireturn, 1) := by decide +kernel
theorem dL_law_726 : decode cL_law 726 = .ok (.iinc 3 4, 3) := by decide +kernel
theorem dL_law_729 : decode cL_law 729 = .ok (.goto (-711), 3) := by decide +kernel
theorem dL_law_732 : decode cL_law 732 = .ok (.iconst 1, 1) := by decide +kernel
theorem dL_law_733 : decode cL_law 733 = .ok (.ireturn, 1) := by decide +kernel
