theorem dX3_writeCell_16 : decode cX3_writeCell 16 = .ok (.ifCond .lt 10, 3) := by decide +kernel
theorem dX3_writeCell_19 : decode cX3_writeCell 19 = .ok (.iload_n 3, 1) := by decide +kernel
theorem dX3_writeCell_20 : decode cX3_writeCell 20 = .ok (.sipush 999, 3) := by decide +kernel
theorem dX3_writeCell_23 : decode cX3_writeCell 23 = .ok (.if_icmp .le 6, 3) := by decide +kernel
theorem dX3_writeCell_26 : decode cX3_writeCell 26 = .ok (.ldc 52, 2) := by decide +kernel
theorem dX3_writeCell_28 : decode cX3_writeCell 28 = .ok (.ireturn, 1) := by decide +kernel
theorem dX3_writeCell_29 : decode cX3_writeCell 29 = .ok (.aload_n 0, 1) := by decide +kernel
theorem dX3_writeCell_30 : decode cX3_writeCell 30 = .ok (.iload_n 1, 1) := by decide +kernel
theorem dX3_writeCell_31 : decode cX3_writeCell 31 = .ok (.invokevirtual 65, 3) := by decide +kernel
theorem dX3_writeCell_34 : decode cX3_writeCell 34 = .ok (.ifCond .ne 6, 3) := by decide +kernel
theorem dX3_writeCell_37 : decode cX3_writeCell 37 = .ok (.ldc 68, 2) := by decide +kernel
theorem dX3_writeCell_39 : decode cX3_writeCell 39 = .ok (.ireturn, 1) := by decide +kernel
theorem dX3_writeCell_40 : decode cX3_writeCell 40 = .ok (.aload_n 0, 1) := by decide +kernel
theorem dX3_writeCell_41 : decode cX3_writeCell 41 = .ok (.bipush 64, 2) := by decide +kernel
theorem dX3_writeCell_43 : decode cX3_writeCell 43 = .ok (.iload_n 1, 1) := by decide +kernel
theorem dX3_writeCell_44 : decode cX3_writeCell 44 = .ok (.bipush 8, 2) := by decide +kernel
theorem dX3_writeCell_46 : decode cX3_writeCell 46 = .ok (.imul, 1) := by decide +kernel
theorem dX3_writeCell_47 : decode cX3_writeCell 47 = .ok (.iadd, 1) := by decide +kernel
theorem dX3_writeCell_48 : decode cX3_writeCell 48 = .ok (.iload_n 2, 1) := by decide +kernel
theorem dX3_writeCell_49 : decode cX3_writeCell 49 = .ok (.iadd, 1) := by decide +kernel
theorem dX3_writeCell_50 : decode cX3_writeCell 50 = .ok (.iload_n 3, 1) := by decide +kernel
theorem dX3_writeCell_51 : decode cX3_writeCell 51 = .ok (.invokevirtual 19, 3) := by decide +kernel
theorem dX3_writeCell_54 : decode cX3_writeCell 54 = .ok (.aload_n 0, 1) := by decide +kernel
theorem dX3_writeCell_55 : decode cX3_writeCell 55 = .ok (.sipush 136, 3) := by decide +kernel
theorem dX3_writeCell_58 : decode cX3_writeCell 58 = .ok (.iload_n 1, 1) := by decide +kernel
theorem dX3_writeCell_59 : decode cX3_writeCell 59 = .ok (.bipush 8, 2) := by decide +kernel
theorem dX3_writeCell_61 : decode cX3_writeCell 61 = .ok (.imul, 1) := by decide +kernel
theorem dX3_writeCell_62 : decode cX3_writeCell 62 = .ok (.iadd, 1) := by decide +kernel
theorem dX3_writeCell_63 : decode cX3_writeCell 63 = .ok (.iload_n 2, 1) := by decide +kernel
theorem dX3_writeCell_64 : decode cX3_writeCell 64 = .ok (.iadd, 1) := by decide +kernel
theorem dX3_writeCell_65 : decode cX3_writeCell 65 = .ok (.iconst 0, 1) := by decide +kernel
theorem dX3_writeCell_66 : decode cX3_writeCell 66 = .ok (.invokevirtual 19, 3) := by decide +kernel
theorem dX3_writeCell_69 : decode cX3_writeCell 69 = .ok (.aload_n 0, 1) := by decide +kernel
theorem dX3_writeCell_70 : decode cX3_writeCell 70 = .ok (.iconst 4, 1) := by decide +kernel
theorem dX3_writeCell_71 : decode cX3_writeCell 71 = .ok (.iconst 1, 1) := by decide +kernel
theorem dX3_writeCell_72 : decode cX3_writeCell 72 = .ok (.invokevirtual 69, 3) := by decide +kernel
theorem dX3_writeCell_75 : decode cX3_writeCell 75 = .ok (.aload_n 0, 1) := by decide +kernel
theorem dX3_writeCell_76 : decode cX3_writeCell 76 = .ok (.iload_n 1, 1) := by decide +kernel
theorem dX3_writeCell_77 : decode cX3_writeCell 77 = .ok (.iload_n 2, 1) := by decide +kernel
theorem dX3_writeCell_78 : decode cX3_writeCell 78 = .ok (.aload_n 0, 1) := by decide +kernel
theorem dX3_writeCell_79 : decode cX3_writeCell 79 = .ok (.iload_n 1, 1) := by decide +kernel
theorem dX3_writeCell_80 : decode cX3_writeCell 80 = .ok (.iload_n 2, 1) := by decide +kernel
theorem dX3_writeCell_81 : decode cX3_writeCell 81 = .ok (.invokestatic 32, 3) := by decide +kernel
theorem dX3_writeCell_84 : decode cX3_writeCell 84 = .ok (.invokevirtual 35, 3) := by decide +kernel
theorem dX3_writeCell_87 : decode cX3_writeCell 87 = .ok (.invokevirtual 72, 3) := by decide +kernel
theorem dX3_writeCell_90 : decode cX3_writeCell 90 = .ok (.ireturn, 1) := by decide +kernel
set_option maxRecDepth 20000 in
theorem ggX3_loseRow_X3_hasRow : GoodIn wsX3_loseRow wsX3_hasRow := goodIn_r _ [7, 8, 9, 10, 6, 11, 12, 53] (by decide +kernel) (by decide +kernel)
set_option maxRecDepth 20000 in
theorem gX3_loseRow_X3_hasRow : GoodIn wsX3_loseRow (wsV RX3 59 RX3 yX3_hasRow wsX3_hasRow) := goodIn_app (goodIn_of _ (by decide +kernel)) ggX3_loseRow_X3_hasRow
set_option maxRecDepth 20000 in
theorem ggX3_loseRow_X3_lives : GoodIn wsX3_loseRow wsX3_lives := goodIn_r _ [16, 8, 9, 10, 6, 11, 12, 53] (by decide +kernel) (by decide +kernel)
set_option maxRecDepth 20000 in
theorem gX3_loseRow_X3_lives : GoodIn wsX3_loseRow (wsV RX3 65 RX3 yX3_lives wsX3_lives) := goodIn_app (goodIn_of _ (by decide +kernel)) ggX3_loseRow_X3_lives
set_option maxRecDepth 20000 in
theorem ggX3_loseRow_X3_comingBack : GoodIn wsX3_loseRow wsX3_comingBack := goodIn_r _ [20, 21, 22, 23, 6, 24, 25, 26, 27, 28, 29, 30, 31, 8, 9, 10, 11, 12, 32, 33, 34, 35, 36, 37, 38, 39, 40, 41, 42, 43, 44, 53] (by decide +kernel) (by decide +kernel)
set_option maxRecDepth 20000 in
theorem gX3_loseRow_X3_comingBack : GoodIn wsX3_loseRow (wsV RX3 76 RX3 yX3_comingBack wsX3_comingBack) := goodIn_app (goodIn_of _ (by decide +kernel)) ggX3_loseRow_X3_comingBack
set_option maxRecDepth 20000 in
theorem ggX3_loseRow_X3_put : GoodIn wsX3_loseRow wsX3_put := goodIn_r _ [48, 12, 53] (by decide +kernel) (by decide +kernel)
set_option maxRecDepth 20000 in
theorem gX3_loseRow_X3_put : GoodIn wsX3_loseRow (wsV RX3 19 RX3 yX3_put wsX3_put) := goodIn_app (goodIn_of _ (by decide +kernel)) ggX3_loseRow_X3_put
set_option maxRecDepth 20000 in
theorem ggX3_loseRow_X3_add : GoodIn wsX3_loseRow wsX3_add := goodIn_r _ [52, 8, 9, 10, 6, 11, 12, 45, 46, 47, 48, 53] (by decide +kernel) (by decide +kernel)
set_option maxRecDepth 20000 in
theorem gX3_loseRow_X3_add : GoodIn wsX3_loseRow (wsV RX3 69 RX3 yX3_add wsX3_add) := goodIn_app (goodIn_of _ (by decide +kernel)) ggX3_loseRow_X3_add
theorem dX3_loseRow_0 : decode cX3_loseRow 0 = .ok (.aload_n 0, 1) := by decide +kernel
theorem dX3_loseRow_1 : decode cX3_loseRow 1 = .ok (.iload_n 1, 1) := by decide +kernel
theorem dX3_loseRow_2 : decode cX3_loseRow 2 = .ok (.invokevirtual 59, 3) := by decide +kernel
theorem dX3_loseRow_5 : decode cX3_loseRow 5 = .ok (.ifCond .ne 6, 3) := by decide +kernel
theorem dX3_loseRow_8 : decode cX3_loseRow 8 = .ok (.ldc 52, 2) := by decide +kernel
theorem dX3_loseRow_10 : decode cX3_loseRow 10 = .ok (.ireturn, 1) := by decide +kernel
theorem dX3_loseRow_11 : decode cX3_loseRow 11 = .ok (.aload_n 0, 1) := by decide +kernel
theorem dX3_loseRow_12 : decode cX3_loseRow 12 = .ok (.iload_n 1, 1) := by decide +kernel
theorem dX3_loseRow_13 : decode cX3_loseRow 13 = .ok (.invokevirtual 65, 3) := by decide +kernel
theorem dX3_loseRow_16 : decode cX3_loseRow 16 = .ok (.ifCond .ne 6, 3) := by decide +kernel
theorem dX3_loseRow_19 : decode cX3_loseRow 19 = .ok (.ldc 68, 2) := by decide +kernel
theorem dX3_loseRow_21 : decode cX3_loseRow 21 = .ok (.ireturn, 1) := by decide +kernel
theorem dX3_loseRow_22 : decode cX3_loseRow 22 = .ok (.aload_n 0, 1) := by decide +kernel
theorem dX3_loseRow_23 : decode cX3_loseRow 23 = .ok (.iload_n 1, 1) := by decide +kernel
theorem dX3_loseRow_24 : decode cX3_loseRow 24 = .ok (.invokevirtual 76, 3) := by decide +kernel
theorem dX3_loseRow_27 : decode cX3_loseRow 27 = .ok (.istore_n 2, 1) := by decide +kernel
theorem dX3_loseRow_28 : decode cX3_loseRow 28 = .ok (.iconst 0, 1) := by decide +kernel
theorem dX3_loseRow_29 : decode cX3_loseRow 29 = .ok (.istore_n 3, 1) := by decide +kernel
theorem dX3_loseRow_30 : decode cX3_loseRow 30 = .ok (.iload_n 3, 1) := by decide +kernel
theorem dX3_loseRow_31 : decode cX3_loseRow 31 = .ok (.bipush 8, 2) := by decide +kernel
theorem dX3_loseRow_33 : decode cX3_loseRow 33 = .ok (.if_icmp .ge 24, 3) := by decide +kernel
theorem dX3_loseRow_36 : decode cX3_loseRow 36 = .ok (.aload_n 0, 1) := by decide +kernel
theorem dX3_loseRow_37 : decode cX3_loseRow 37 = .ok (.sipush 136, 3) := by decide +kernel
theorem dX3_loseRow_40 : decode cX3_loseRow 40 = .ok (.iload_n 1, 1) := by decide +kernel
theorem dX3_loseRow_41 : decode cX3_loseRow 41 = .ok (.bipush 8, 2) := by decide +kernel
theorem dX3_loseRow_43 : decode cX3_loseRow 43 = .ok (.imul, 1) := by decide +kernel
theorem dX3_loseRow_44 : decode cX3_loseRow 44 = .ok (.iadd, 1) := by decide +kernel
theorem dX3_loseRow_45 : decode cX3_loseRow 45 = .ok (.iload_n 3, 1) := by decide +kernel
theorem dX3_loseRow_46 : decode cX3_loseRow 46 = .ok (.iadd, 1) := by decide +kernel
theorem dX3_loseRow_47 : decode cX3_loseRow 47 = .ok (.iconst 0, 1) := by decide +kernel
theorem dX3_loseRow_48 : decode cX3_loseRow 48 = .ok (.invokevirtual 19, 3) := by decide +kernel
theorem dX3_loseRow_51 : decode cX3_loseRow 51 = .ok (.iinc 3 1, 3) := by decide +kernel
theorem dX3_loseRow_54 : decode cX3_loseRow 54 = .ok (.goto (-24), 3) := by decide +kernel
theorem dX3_loseRow_57 : decode cX3_loseRow 57 = .ok (.aload_n 0, 1) := by decide +kernel
theorem dX3_loseRow_58 : decode cX3_loseRow 58 = .ok (.bipush 28, 2) := by decide +kernel
theorem dX3_loseRow_60 : decode cX3_loseRow 60 = .ok (.iload_n 1, 1) := by decide +kernel
theorem dX3_loseRow_61 : decode cX3_loseRow 61 = .ok (.iadd, 1) := by decide +kernel
theorem dX3_loseRow_62 : decode cX3_loseRow 62 = .ok (.iconst 0, 1) := by decide +kernel
theorem dX3_loseRow_63 : decode cX3_loseRow 63 = .ok (.invokevirtual 19, 3) := by decide +kernel
theorem dX3_loseRow_66 : decode cX3_loseRow 66 = .ok (.aload_n 0, 1) := by decide +kernel
theorem dX3_loseRow_67 : decode cX3_loseRow 67 = .ok (.bipush 55, 2) := by decide +kernel
theorem dX3_loseRow_69 : decode cX3_loseRow 69 = .ok (.iload_n 1, 1) := by decide +kernel
theorem dX3_loseRow_70 : decode cX3_loseRow 70 = .ok (.iadd, 1) := by decide +kernel
theorem dX3_loseRow_71 : decode cX3_loseRow 71 = .ok (.iconst 0, 1) := by decide +kernel
theorem dX3_loseRow_72 : decode cX3_loseRow 72 = .ok (.invokevirtual 19, 3) := by decide +kernel
theorem dX3_loseRow_75 : decode cX3_loseRow 75 = .ok (.aload_n 0, 1) := by decide +kernel
theorem dX3_loseRow_76 : decode cX3_loseRow 76 = .ok (.bipush 37, 2) := by decide +kernel
theorem dX3_loseRow_78 : decode cX3_loseRow 78 = .ok (.iload_n 1, 1) := by decide +kernel
theorem dX3_loseRow_79 : decode cX3_loseRow 79 = .ok (.iadd, 1) := by decide +kernel
theorem dX3_loseRow_80 : decode cX3_loseRow 80 = .ok (.iconst 1, 1) := by decide +kernel
theorem dX3_loseRow_81 : decode cX3_loseRow 81 = .ok (.invokevirtual 69, 3) := by decide +kernel
theorem dX3_loseRow_84 : decode cX3_loseRow 84 = .ok (.aload_n 0, 1) := by decide +kernel
theorem dX3_loseRow_85 : decode cX3_loseRow 85 = .ok (.iconst 5, 1) := by decide +kernel
theorem dX3_loseRow_86 : decode cX3_loseRow 86 = .ok (.iconst 1, 1) := by decide +kernel
theorem dX3_loseRow_87 : decode cX3_loseRow 87 = .ok (.invokevirtual 69, 3) := by decide +kernel
theorem dX3_loseRow_90 : decode cX3_loseRow 90 = .ok (.iload_n 2, 1) := by decide +kernel
theorem dX3_loseRow_91 : decode cX3_loseRow 91 = .ok (.ireturn, 1) := by decide +kernel
set_option maxRecDepth 20000 in
theorem ggX3_mendRow_X3_hasRow : GoodIn wsX3_mendRow wsX3_hasRow := goodIn_r _ [7, 8, 9, 10, 6, 11, 12, 80] (by decide +kernel) (by decide +kernel)
set_option maxRecDepth 20000 in
theorem gX3_mendRow_X3_hasRow : GoodIn wsX3_mendRow (wsV RX3 59 RX3 yX3_hasRow wsX3_hasRow) := goodIn_app (goodIn_of _ (by decide +kernel)) ggX3_mendRow_X3_hasRow
set_option maxRecDepth 20000 in
theorem ggX3_mendRow_X3_lives : GoodIn wsX3_mendRow wsX3_lives := goodIn_r _ [16, 8, 9, 10, 6, 11, 12, 80] (by decide +kernel) (by decide +kernel)
set_option maxRecDepth 20000 in
theorem gX3_mendRow_X3_lives : GoodIn wsX3_mendRow (wsV RX3 65 RX3 yX3_lives wsX3_lives) := goodIn_app (goodIn_of _ (by decide +kernel)) ggX3_mendRow_X3_lives
set_option maxRecDepth 20000 in
theorem ggX3_mendRow_X3_comingBack : GoodIn wsX3_mendRow wsX3_comingBack := goodIn_r _ [20, 21, 22, 23, 6, 24, 25, 26, 27, 28, 29, 30, 31, 8, 9, 10, 11, 12, 32, 33, 34, 35, 36, 37, 38, 39, 40, 41, 42, 43, 44, 80] (by decide +kernel) (by decide +kernel)
set_option maxRecDepth 20000 in
theorem gX3_mendRow_X3_comingBack : GoodIn wsX3_mendRow (wsV RX3 76 RX3 yX3_comingBack wsX3_comingBack) := goodIn_app (goodIn_of _ (by decide +kernel)) ggX3_mendRow_X3_comingBack
set_option maxRecDepth 20000 in
theorem ggX3_mendRow_X3_freshEcho : GoodIn wsX3_mendRow wsX3_freshEcho := goodIn_r _ [24, 25, 26, 6, 27, 28, 29, 30, 31, 8, 9, 10, 11, 12, 32, 33, 34, 35, 36, 37, 38, 39, 40, 41, 80] (by decide +kernel) (by decide +kernel)
set_option maxRecDepth 20000 in
theorem gX3_mendRow_X3_freshEcho : GoodIn wsX3_mendRow (wsV RX3 46 RX3 yX3_freshEcho wsX3_freshEcho) := goodIn_app (goodIn_of _ (by decide +kernel)) ggX3_mendRow_X3_freshEcho
set_option maxRecDepth 20000 in
theorem ggX3_mendRow_X3_valueOf : GoodIn wsX3_mendRow wsX3_valueOf := goodIn_r _ [44] (by decide +kernel) (by decide +kernel)
set_option maxRecDepth 20000 in
theorem gX3_mendRow_X3_valueOf : GoodIn wsX3_mendRow (va_wsS RX3 49 yX3_valueOf wsX3_valueOf) := goodIn_app (goodIn_of _ (by decide +kernel)) ggX3_mendRow_X3_valueOf
set_option maxRecDepth 20000 in
theorem ggX3_mendRow_X3_mendCell : GoodIn wsX3_mendRow wsX3_mendCell := goodIn_r _ [48, 8, 9, 10, 6, 11, 12, 49, 50, 51, 52, 53, 54, 55, 56, 80] (by decide +kernel) (by decide +kernel)
set_option maxRecDepth 20000 in
theorem gX3_mendRow_X3_mendCell : GoodIn wsX3_mendRow (wsV RX3 79 RX3 yX3_mendCell wsX3_mendCell) := goodIn_app (goodIn_of _ (by decide +kernel)) ggX3_mendRow_X3_mendCell
set_option maxRecDepth 20000 in
theorem ggX3_mendRow_X3_put : GoodIn wsX3_mendRow wsX3_put := goodIn_r _ [52, 12, 80] (by decide +kernel) (by decide +kernel)
set_option maxRecDepth 20000 in
theorem gX3_mendRow_X3_put : GoodIn wsX3_mendRow (wsV RX3 19 RX3 yX3_put wsX3_put) := goodIn_app (goodIn_of _ (by decide +kernel)) ggX3_mendRow_X3_put
set_option maxRecDepth 20000 in
theorem ggX3_mendRow_X3_neighbour : GoodIn wsX3_mendRow wsX3_neighbour := goodIn_r _ [31, 8, 9, 10, 6, 11, 12, 80] (by decide +kernel) (by decide +kernel)
set_option maxRecDepth 20000 in
theorem gX3_mendRow_X3_neighbour : GoodIn wsX3_mendRow (wsV RX3 35 RX3 yX3_neighbour wsX3_neighbour) := goodIn_app (goodIn_of _ (by decide +kernel)) ggX3_mendRow_X3_neighbour
set_option maxRecDepth 20000 in
theorem ggX3_mendRow_X3_layRow : GoodIn wsX3_mendRow wsX3_layRow := goodIn_r _ [60, 13, 14, 15, 6, 16, 8, 9, 10, 11, 12, 28, 29, 30, 31, 25, 26, 27, 61, 62, 63, 64, 65, 66, 67, 68, 32, 33, 34, 49, 50, 51, 52, 69, 70, 71, 72, 73, 74, 75, 76, 53, 54, 55, 56, 77, 78, 79, 80] (by decide +kernel) (by decide +kernel)
set_option maxRecDepth 20000 in
theorem gX3_mendRow_X3_layRow : GoodIn wsX3_mendRow (wsV RX3 56 RX3 yX3_layRow wsX3_layRow) := goodIn_app (goodIn_of _ (by decide +kernel)) ggX3_mendRow_X3_layRow
set_option maxRecDepth 20000 in
theorem ggX3_mendRow_X3_add : GoodIn wsX3_mendRow wsX3_add := goodIn_r _ [56, 8, 9, 10, 6, 11, 12, 49, 50, 51, 52, 80] (by decide +kernel) (by decide +kernel)
set_option maxRecDepth 20000 in
theorem gX3_mendRow_X3_add : GoodIn wsX3_mendRow (wsV RX3 69 RX3 yX3_add wsX3_add) := goodIn_app (goodIn_of _ (by decide +kernel)) ggX3_mendRow_X3_add
theorem dX3_mendRow_0 : decode cX3_mendRow 0 = .ok (.aload_n 0, 1) := by decide +kernel
theorem dX3_mendRow_1 : decode cX3_mendRow 1 = .ok (.iload_n 1, 1) := by decide +kernel
theorem dX3_mendRow_2 : decode cX3_mendRow 2 = .ok (.invokevirtual 59, 3) := by decide +kernel
theorem dX3_mendRow_5 : decode cX3_mendRow 5 = .ok (.ifCond .ne 6, 3) := by decide +kernel
theorem dX3_mendRow_8 : decode cX3_mendRow 8 = .ok (.ldc 52, 2) := by decide +kernel
theorem dX3_mendRow_10 : decode cX3_mendRow 10 = .ok (.ireturn, 1) := by decide +kernel
theorem dX3_mendRow_11 : decode cX3_mendRow 11 = .ok (.aload_n 0, 1) := by decide +kernel
theorem dX3_mendRow_12 : decode cX3_mendRow 12 = .ok (.iload_n 1, 1) := by decide +kernel
theorem dX3_mendRow_13 : decode cX3_mendRow 13 = .ok (.invokevirtual 65, 3) := by decide +kernel
theorem dX3_mendRow_16 : decode cX3_mendRow 16 = .ok (.ifCond .eq 6, 3) := by decide +kernel
theorem dX3_mendRow_19 : decode cX3_mendRow 19 = .ok (.ldc 68, 2) := by decide +kernel
theorem dX3_mendRow_21 : decode cX3_mendRow 21 = .ok (.ireturn, 1) := by decide +kernel
theorem dX3_mendRow_22 : decode cX3_mendRow 22 = .ok (.aload_n 0, 1) := by decide +kernel
theorem dX3_mendRow_23 : decode cX3_mendRow 23 = .ok (.iload_n 1, 1) := by decide +kernel
theorem dX3_mendRow_24 : decode cX3_mendRow 24 = .ok (.invokevirtual 76, 3) := by decide +kernel
theorem dX3_mendRow_27 : decode cX3_mendRow 27 = .ok (.istore_n 2, 1) := by decide +kernel
theorem dX3_mendRow_28 : decode cX3_mendRow 28 = .ok (.iconst 0, 1) := by decide +kernel
theorem dX3_mendRow_29 : decode cX3_mendRow 29 = .ok (.istore_n 3, 1) := by decide +kernel
theorem dX3_mendRow_30 : decode cX3_mendRow 30 = .ok (.iload_n 3, 1) := by decide +kernel
theorem dX3_mendRow_31 : decode cX3_mendRow 31 = .ok (.bipush 8, 2) := by decide +kernel
theorem dX3_mendRow_33 : decode cX3_mendRow 33 = .ok (.if_icmp .ge 42, 3) := by decide +kernel
theorem dX3_mendRow_36 : decode cX3_mendRow 36 = .ok (.aload_n 0, 1) := by decide +kernel
theorem dX3_mendRow_37 : decode cX3_mendRow 37 = .ok (.iload_n 1, 1) := by decide +kernel
theorem dX3_mendRow_38 : decode cX3_mendRow 38 = .ok (.iload_n 3, 1) := by decide +kernel
theorem dX3_mendRow_39 : decode cX3_mendRow 39 = .ok (.invokevirtual 46, 3) := by decide +kernel
theorem dX3_mendRow_42 : decode cX3_mendRow 42 = .ok (.istore 4, 2) := by decide +kernel
theorem dX3_mendRow_44 : decode cX3_mendRow 44 = .ok (.aload_n 0, 1) := by decide +kernel
theorem dX3_mendRow_45 : decode cX3_mendRow 45 = .ok (.iload_n 1, 1) := by decide +kernel
theorem dX3_mendRow_46 : decode cX3_mendRow 46 = .ok (.bipush 8, 2) := by decide +kernel
theorem dX3_mendRow_48 : decode cX3_mendRow 48 = .ok (.imul, 1) := by decide +kernel
theorem dX3_mendRow_49 : decode cX3_mendRow 49 = .ok (.iload_n 3, 1) := by decide +kernel
theorem dX3_mendRow_50 : decode cX3_mendRow 50 = .ok (.iadd, 1) := by decide +kernel
theorem dX3_mendRow_51 : decode cX3_mendRow 51 = .ok (.iload 4, 2) := by decide +kernel
theorem dX3_mendRow_53 : decode cX3_mendRow 53 = .ok (.iconst (-1), 1) := by decide +kernel
theorem dX3_mendRow_54 : decode cX3_mendRow 54 = .ok (.if_icmp .ne 7, 3) := by decide +kernel
theorem dX3_mendRow_57 : decode cX3_mendRow 57 = .ok (.iconst (-1), 1) := by decide +kernel
theorem dX3_mendRow_58 : decode cX3_mendRow 58 = .ok (.goto 8, 3) := by decide +kernel
theorem dX3_mendRow_61 : decode cX3_mendRow 61 = .ok (.iload 4, 2) := by decide +kernel
theorem dX3_mendRow_63 : decode cX3_mendRow 63 = .ok (.invokestatic 49, 3) := by decide +kernel
theorem dX3_mendRow_66 : decode cX3_mendRow 66 = .ok (.invokevirtual 79, 3) := by decide +kernel
theorem dX3_mendRow_69 : decode cX3_mendRow 69 = .ok (.iinc 3 1, 3) := by decide +kernel
theorem dX3_mendRow_72 : decode cX3_mendRow 72 = .ok (.goto (-42), 3) := by decide +kernel
theorem dX3_mendRow_75 : decode cX3_mendRow 75 = .ok (.aload_n 0, 1) := by decide +kernel
theorem dX3_mendRow_76 : decode cX3_mendRow 76 = .ok (.bipush 28, 2) := by decide +kernel
theorem dX3_mendRow_78 : decode cX3_mendRow 78 = .ok (.iload_n 1, 1) := by decide +kernel
theorem dX3_mendRow_79 : decode cX3_mendRow 79 = .ok (.iadd, 1) := by decide +kernel
theorem dX3_mendRow_80 : decode cX3_mendRow 80 = .ok (.iconst 1, 1) := by decide +kernel
theorem dX3_mendRow_81 : decode cX3_mendRow 81 = .ok (.invokevirtual 19, 3) := by decide +kernel
theorem dX3_mendRow_84 : decode cX3_mendRow 84 = .ok (.aload_n 0, 1) := by decide +kernel
theorem dX3_mendRow_85 : decode cX3_mendRow 85 = .ok (.aload_n 0, 1) := by decide +kernel
theorem dX3_mendRow_86 : decode cX3_mendRow 86 = .ok (.iload_n 1, 1) := by decide +kernel
theorem dX3_mendRow_87 : decode cX3_mendRow 87 = .ok (.iconst (-1), 1) := by decide +kernel
theorem dX3_mendRow_88 : decode cX3_mendRow 88 = .ok (.invokevirtual 35, 3) := by decide +kernel
theorem dX3_mendRow_91 : decode cX3_mendRow 91 = .ok (.invokevirtual 56, 3) := by decide +kernel
theorem dX3_mendRow_94 : decode cX3_mendRow 94 = .ok (.pop, 1) := by decide +kernel
theorem dX3_mendRow_95 : decode cX3_mendRow 95 = .ok (.aload_n 0, 1) := by decide +kernel
theorem dX3_mendRow_96 : decode cX3_mendRow 96 = .ok (.aload_n 0, 1) := by decide +kernel
theorem dX3_mendRow_97 : decode cX3_mendRow 97 = .ok (.iload_n 1, 1) := by decide +kernel
theorem dX3_mendRow_98 : decode cX3_mendRow 98 = .ok (.iconst 1, 1) := by decide +kernel
theorem dX3_mendRow_99 : decode cX3_mendRow 99 = .ok (.invokevirtual 35, 3) := by decide +kernel
theorem dX3_mendRow_102 : decode cX3_mendRow 102 = .ok (.invokevirtual 56, 3) := by decide +kernel
theorem dX3_mendRow_105 : decode cX3_mendRow 105 = .ok (.pop, 1) := by decide +kernel
theorem dX3_mendRow_106 : decode cX3_mendRow 106 = .ok (.aload_n 0, 1) := by decide +kernel
theorem dX3_mendRow_107 : decode cX3_mendRow 107 = .ok (.iload_n 1, 1) := by decide +kernel
theorem dX3_mendRow_108 : decode cX3_mendRow 108 = .ok (.invokevirtual 56, 3) := by decide +kernel
theorem dX3_mendRow_111 : decode cX3_mendRow 111 = .ok (.pop, 1) := by decide +kernel
theorem dX3_mendRow_112 : decode cX3_mendRow 112 = .ok (.aload_n 0, 1) := by decide +kernel
theorem dX3_mendRow_113 : decode cX3_mendRow 113 = .ok (.bipush 6, 2) := by decide +kernel
theorem dX3_mendRow_115 : decode cX3_mendRow 115 = .ok (.iconst 1, 1) := by decide +kernel
theorem dX3_mendRow_116 : decode cX3_mendRow 116 = .ok (.invokevirtual 69, 3) := by decide +kernel
theorem dX3_mendRow_119 : decode cX3_mendRow 119 = .ok (.aload_n 0, 1) := by decide +kernel
theorem dX3_mendRow_120 : decode cX3_mendRow 120 = .ok (.bipush 7, 2) := by decide +kernel
theorem dX3_mendRow_122 : decode cX3_mendRow 122 = .ok (.iload_n 2, 1) := by decide +kernel
theorem dX3_mendRow_123 : decode cX3_mendRow 123 = .ok (.invokevirtual 69, 3) := by decide +kernel
theorem dX3_mendRow_126 : decode cX3_mendRow 126 = .ok (.iload_n 2, 1) := by decide +kernel
theorem dX3_mendRow_127 : decode cX3_mendRow 127 = .ok (.ireturn, 1) := by decide +kernel
set_option maxRecDepth 20000 in
theorem ggX3_mendCell_X3_get : GoodIn wsX3_mendCell wsX3_get := goodIn_r _ [5, 6, 15] (by decide +kernel) (by decide +kernel)
set_option maxRecDepth 20000 in
theorem gX3_mendCell_X3_get : GoodIn wsX3_mendCell (wsV RX3 15 RX3 yX3_get wsX3_get) := goodIn_app (goodIn_of _ (by decide +kernel)) ggX3_mendCell_X3_get
set_option maxRecDepth 20000 in
theorem ggX3_mendCell_X3_put : GoodIn wsX3_mendCell wsX3_put := goodIn_r _ [10, 6, 15] (by decide +kernel) (by decide +kernel)
set_option maxRecDepth 20000 in
theorem gX3_mendCell_X3_put : GoodIn wsX3_mendCell (wsV RX3 19 RX3 yX3_put wsX3_put) := goodIn_app (goodIn_of _ (by decide +kernel)) ggX3_mendCell_X3_put
set_option maxRecDepth 20000 in
theorem ggX3_mendCell_X3_add : GoodIn wsX3_mendCell wsX3_add := goodIn_r _ [14, 1, 2, 3, 4, 5, 6, 7, 8, 9, 10, 15] (by decide +kernel) (by decide +kernel)
set_option maxRecDepth 20000 in
theorem gX3_mendCell_X3_add : GoodIn wsX3_mendCell (wsV RX3 69 RX3 yX3_add wsX3_add) := goodIn_app (goodIn_of _ (by decide +kernel)) ggX3_mendCell_X3_add
theorem dX3_mendCell_0 : decode cX3_mendCell 0 = .ok (.iload_n 2, 1) := by decide +kernel
theorem dX3_mendCell_1 : decode cX3_mendCell 1 = .ok (.iconst (-1), 1) := by decide +kernel
theorem dX3_mendCell_2 : decode cX3_mendCell 2 = .ok (.if_icmp .eq 19, 3) := by decide +kernel
theorem dX3_mendCell_5 : decode cX3_mendCell 5 = .ok (.iload_n 2, 1) := by decide +kernel
theorem dX3_mendCell_6 : decode cX3_mendCell 6 = .ok (.aload_n 0, 1) := by decide +kernel
theorem dX3_mendCell_7 : decode cX3_mendCell 7 = .ok (.bipush 64, 2) := by decide +kernel
theorem dX3_mendCell_9 : decode cX3_mendCell 9 = .ok (.iload_n 1, 1) := by decide +kernel
theorem dX3_mendCell_10 : decode cX3_mendCell 10 = .ok (.iadd, 1) := by decide +kernel
theorem dX3_mendCell_11 : decode cX3_mendCell 11 = .ok (.invokevirtual 15, 3) := by decide +kernel
theorem dX3_mendCell_14 : decode cX3_mendCell 14 = .ok (.if_icmp .eq 7, 3) := by decide +kernel
theorem dX3_mendCell_17 : decode cX3_mendCell 17 = .ok (.iconst 1, 1) := by decide +kernel
theorem dX3_mendCell_18 : decode cX3_mendCell 18 = .ok (.goto 4, 3) := by decide +kernel
theorem dX3_mendCell_21 : decode cX3_mendCell 21 = .ok (.iconst 0, 1) := by decide +kernel
theorem dX3_mendCell_22 : decode cX3_mendCell 22 = .ok (.istore_n 3, 1) := by decide +kernel
theorem dX3_mendCell_23 : decode cX3_mendCell 23 = .ok (.aload_n 0, 1) := by decide +kernel
theorem dX3_mendCell_24 : decode cX3_mendCell 24 = .ok (.bipush 64, 2) := by decide +kernel
theorem dX3_mendCell_26 : decode cX3_mendCell 26 = .ok (.iload_n 1, 1) := by decide +kernel
theorem dX3_mendCell_27 : decode cX3_mendCell 27 = .ok (.iadd, 1) := by decide +kernel
theorem dX3_mendCell_28 : decode cX3_mendCell 28 = .ok (.iload_n 2, 1) := by decide +kernel
theorem dX3_mendCell_29 : decode cX3_mendCell 29 = .ok (.invokevirtual 19, 3) := by decide +kernel
theorem dX3_mendCell_32 : decode cX3_mendCell 32 = .ok (.aload_n 0, 1) := by decide +kernel
theorem dX3_mendCell_33 : decode cX3_mendCell 33 = .ok (.sipush 136, 3) := by decide +kernel
theorem dX3_mendCell_36 : decode cX3_mendCell 36 = .ok (.iload_n 1, 1) := by decide +kernel
theorem dX3_mendCell_37 : decode cX3_mendCell 37 = .ok (.iadd, 1) := by decide +kernel
theorem dX3_mendCell_38 : decode cX3_mendCell 38 = .ok (.iload_n 3, 1) := by decide +kernel
theorem dX3_mendCell_39 : decode cX3_mendCell 39 = .ok (.invokevirtual 19, 3) := by decide +kernel
theorem dX3_mendCell_42 : decode cX3_mendCell 42 = .ok (.aload_n 0, 1) := by decide +kernel
theorem dX3_mendCell_43 : decode cX3_mendCell 43 = .ok (.bipush 8, 2) := by decide +kernel
theorem dX3_mendCell_45 : decode cX3_mendCell 45 = .ok (.iload_n 3, 1) := by decide +kernel
theorem dX3_mendCell_46 : decode cX3_mendCell 46 = .ok (.invokevirtual 69, 3) := by decide +kernel
theorem dX3_mendCell_49 : decode cX3_mendCell 49 = .ok (.return_, 1) := by decide +kernel
set_option maxRecDepth 20000 in
theorem ggX3_swapRows_X3_hasRow : GoodIn wsX3_swapRows wsX3_hasRow := goodIn_r _ [14, 15, 16, 17, 13, 18, 19, 28] (by decide +kernel) (by decide +kernel)
set_option maxRecDepth 20000 in
theorem gX3_swapRows_X3_hasRow : GoodIn wsX3_swapRows (wsV RX3 59 RX3 yX3_hasRow wsX3_hasRow) := goodIn_app (goodIn_of _ (by decide +kernel)) ggX3_swapRows_X3_hasRow
set_option maxRecDepth 20000 in
theorem ggX3_swapRows_X3_lives : GoodIn wsX3_swapRows wsX3_lives := goodIn_r _ [23, 15, 16, 17, 13, 18, 19, 28] (by decide +kernel) (by decide +kernel)
set_option maxRecDepth 20000 in
theorem gX3_swapRows_X3_lives : GoodIn wsX3_swapRows (wsV RX3 65 RX3 yX3_lives wsX3_lives) := goodIn_app (goodIn_of _ (by decide +kernel)) ggX3_swapRows_X3_lives
set_option maxRecDepth 20000 in
theorem ggX3_swapRows_X3_get : GoodIn wsX3_swapRows wsX3_get := goodIn_r _ [18, 19, 28] (by decide +kernel) (by decide +kernel)
set_option maxRecDepth 20000 in
theorem gX3_swapRows_X3_get : GoodIn wsX3_swapRows (wsV RX3 15 RX3 yX3_get wsX3_get) := goodIn_app (goodIn_of _ (by decide +kernel)) ggX3_swapRows_X3_get
set_option maxRecDepth 20000 in
theorem ggX3_swapRows_X3_put : GoodIn wsX3_swapRows wsX3_put := goodIn_r _ [27, 19, 28] (by decide +kernel) (by decide +kernel)
set_option maxRecDepth 20000 in
theorem gX3_swapRows_X3_put : GoodIn wsX3_swapRows (wsV RX3 19 RX3 yX3_put wsX3_put) := goodIn_app (goodIn_of _ (by decide +kernel)) ggX3_swapRows_X3_put
theorem dX3_swapRows_0 : decode cX3_swapRows 0 = .ok (.aload_n 0, 1) := by decide +kernel
theorem dX3_swapRows_1 : decode cX3_swapRows 1 = .ok (.iload_n 1, 1) := by decide +kernel
theorem dX3_swapRows_2 : decode cX3_swapRows 2 = .ok (.invokevirtual 59, 3) := by decide +kernel
theorem dX3_swapRows_5 : decode cX3_swapRows 5 = .ok (.ifCond .eq 16, 3) := by decide +kernel
theorem dX3_swapRows_8 : decode cX3_swapRows 8 = .ok (.aload_n 0, 1) := by decide +kernel
theorem dX3_swapRows_9 : decode cX3_swapRows 9 = .ok (.iload_n 2, 1) := by decide +kernel
theorem dX3_swapRows_10 : decode cX3_swapRows 10 = .ok (.invokevirtual 59, 3) := by decide +kernel
theorem dX3_swapRows_13 : decode cX3_swapRows 13 = .ok (.ifCond .eq 8, 3) := by decide +kernel
theorem dX3_swapRows_16 : decode cX3_swapRows 16 = .ok (.iload_n 1, 1) := by decide +kernel
theorem dX3_swapRows_17 : decode cX3_swapRows 17 = .ok (.iload_n 2, 1) := by decide +kernel
theorem dX3_swapRows_18 : decode cX3_swapRows 18 = .ok (.if_icmp .ne 6, 3) := by decide +kernel
theorem dX3_swapRows_21 : decode cX3_swapRows 21 = .ok (.ldc 52, 2) := by decide +kernel
theorem dX3_swapRows_23 : decode cX3_swapRows 23 = .ok (.ireturn, 1) := by decide +kernel
theorem dX3_swapRows_24 : decode cX3_swapRows 24 = .ok (.aload_n 0, 1) := by decide +kernel
theorem dX3_swapRows_25 : decode cX3_swapRows 25 = .ok (.iload_n 1, 1) := by decide +kernel
theorem dX3_swapRows_26 : decode cX3_swapRows 26 = .ok (.invokevirtual 65, 3) := by decide +kernel
theorem dX3_swapRows_29 : decode cX3_swapRows 29 = .ok (.ifCond .eq 11, 3) := by decide +kernel
theorem dX3_swapRows_32 : decode cX3_swapRows 32 = .ok (.aload_n 0, 1) := by decide +kernel
theorem dX3_swapRows_33 : decode cX3_swapRows 33 = .ok (.iload_n 2, 1) := by decide +kernel
theorem dX3_swapRows_34 : decode cX3_swapRows 34 = .ok (.invokevirtual 65, 3) := by decide +kernel
theorem dX3_swapRows_37 : decode cX3_swapRows 37 = .ok (.ifCond .ne 6, 3) := by decide +kernel
theorem dX3_swapRows_40 : decode cX3_swapRows 40 = .ok (.ldc 68, 2) := by decide +kernel
theorem dX3_swapRows_42 : decode cX3_swapRows 42 = .ok (.ireturn, 1) := by decide +kernel
theorem dX3_swapRows_43 : decode cX3_swapRows 43 = .ok (.aload_n 0, 1) := by decide +kernel
theorem dX3_swapRows_44 : decode cX3_swapRows 44 = .ok (.bipush 10, 2) := by decide +kernel
theorem dX3_swapRows_46 : decode cX3_swapRows 46 = .ok (.iload_n 1, 1) := by decide +kernel
theorem dX3_swapRows_47 : decode cX3_swapRows 47 = .ok (.iadd, 1) := by decide +kernel
theorem dX3_swapRows_48 : decode cX3_swapRows 48 = .ok (.invokevirtual 15, 3) := by decide +kernel
theorem dX3_swapRows_51 : decode cX3_swapRows 51 = .ok (.istore_n 3, 1) := by decide +kernel
theorem dX3_swapRows_52 : decode cX3_swapRows 52 = .ok (.aload_n 0, 1) := by decide +kernel
theorem dX3_swapRows_53 : decode cX3_swapRows 53 = .ok (.bipush 10, 2) := by decide +kernel
theorem dX3_swapRows_55 : decode cX3_swapRows 55 = .ok (.iload_n 2, 1) := by decide +kernel
theorem dX3_swapRows_56 : decode cX3_swapRows 56 = .ok (.iadd, 1) := by decide +kernel
theorem dX3_swapRows_57 : decode cX3_swapRows 57 = .ok (.invokevirtual 15, 3) := by decide +kernel
theorem dX3_swapRows_60 : decode cX3_swapRows 60 = .ok (.istore 4, 2) := by decide +kernel
theorem dX3_swapRows_62 : decode cX3_swapRows 62 = .ok (.aload_n 0, 1) := by decide +kernel
theorem dX3_swapRows_63 : decode cX3_swapRows 63 = .ok (.bipush 10, 2) := by decide +kernel
theorem dX3_swapRows_65 : decode cX3_swapRows 65 = .ok (.iload_n 1, 1) := by decide +kernel
theorem dX3_swapRows_66 : decode cX3_swapRows 66 = .ok (.iadd, 1) := by decide +kernel
theorem dX3_swapRows_67 : decode cX3_swapRows 67 = .ok (.iload 4, 2) := by decide +kernel
theorem dX3_swapRows_69 : decode cX3_swapRows 69 = .ok (.invokevirtual 19, 3) := by decide +kernel
theorem dX3_swapRows_72 : decode cX3_swapRows 72 = .ok (.aload_n 0, 1) := by decide +kernel
theorem dX3_swapRows_73 : decode cX3_swapRows 73 = .ok (.bipush 10, 2) := by decide +kernel
theorem dX3_swapRows_75 : decode cX3_swapRows 75 = .ok (.iload_n 2, 1) := by decide +kernel
theorem dX3_swapRows_76 : decode cX3_swapRows 76 = .ok (.iadd, 1) := by decide +kernel
theorem dX3_swapRows_77 : decode cX3_swapRows 77 = .ok (.iload_n 3, 1) := by decide +kernel
theorem dX3_swapRows_78 : decode cX3_swapRows 78 = .ok (.invokevirtual 19, 3) := by decide +kernel
theorem dX3_swapRows_81 : decode cX3_swapRows 81 = .ok (.aload_n 0, 1) := by decide +kernel
theorem dX3_swapRows_82 : decode cX3_swapRows 82 = .ok (.bipush 19, 2) := by decide +kernel
theorem dX3_swapRows_84 : decode cX3_swapRows 84 = .ok (.iload 4, 2) := by decide +kernel
theorem dX3_swapRows_86 : decode cX3_swapRows 86 = .ok (.iadd, 1) := by decide +kernel
theorem dX3_swapRows_87 : decode cX3_swapRows 87 = .ok (.iload_n 1, 1) := by decide +kernel
theorem dX3_swapRows_88 : decode cX3_swapRows 88 = .ok (.invokevirtual 19, 3) := by decide +kernel
theorem dX3_swapRows_91 : decode cX3_swapRows 91 = .ok (.aload_n 0, 1) := by decide +kernel
theorem dX3_swapRows_92 : decode cX3_swapRows 92 = .ok (.bipush 19, 2) := by decide +kernel
theorem dX3_swapRows_94 : decode cX3_swapRows 94 = .ok (.iload_n 3, 1) := by decide +kernel
theorem dX3_swapRows_95 : decode cX3_swapRows 95 = .ok (.iadd, 1) := by decide +kernel
theorem dX3_swapRows_96 : decode cX3_swapRows 96 = .ok (.iload_n 2, 1) := by decide +kernel
theorem dX3_swapRows_97 : decode cX3_swapRows 97 = .ok (.invokevirtual 19, 3) := by decide +kernel
theorem dX3_swapRows_100 : decode cX3_swapRows 100 = .ok (.iload_n 3, 1) := by decide +kernel
theorem dX3_swapRows_101 : decode cX3_swapRows 101 = .ok (.iload 4, 2) := by decide +kernel
theorem dX3_swapRows_103 : decode cX3_swapRows 103 = .ok (.isub, 1) := by decide +kernel
theorem dX3_swapRows_104 : decode cX3_swapRows 104 = .ok (.invokestatic 82, 3) := by decide +kernel
theorem dX3_swapRows_107 : decode cX3_swapRows 107 = .ok (.istore 5, 2) := by decide +kernel
theorem dX3_swapRows_109 : decode cX3_swapRows 109 = .ok (.iload 5, 2) := by decide +kernel
theorem dX3_swapRows_111 : decode cX3_swapRows 111 = .ok (.aload_n 0, 1) := by decide +kernel
theorem dX3_swapRows_112 : decode cX3_swapRows 112 = .ok (.iconst 1, 1) := by decide +kernel
theorem dX3_swapRows_113 : decode cX3_swapRows 113 = .ok (.invokevirtual 15, 3) := by decide +kernel
theorem dX3_swapRows_116 : decode cX3_swapRows 116 = .ok (.iload 5, 2) := by decide +kernel
theorem dX3_swapRows_118 : decode cX3_swapRows 118 = .ok (.isub, 1) := by decide +kernel
theorem dX3_swapRows_119 : decode cX3_swapRows 119 = .ok (.invokestatic 87, 3) := by decide +kernel
theorem dX3_swapRows_122 : decode cX3_swapRows 122 = .ok (.ireturn, 1) := by decide +kernel
set_option maxRecDepth 20000 in
theorem ggX3_layAnew_X3_hasRow : GoodIn wsX3_layAnew wsX3_hasRow := goodIn_r _ [7, 8, 9, 10, 6, 11, 12, 58] (by decide +kernel) (by decide +kernel)
set_option maxRecDepth 20000 in
theorem gX3_layAnew_X3_hasRow : GoodIn wsX3_layAnew (wsV RX3 59 RX3 yX3_hasRow wsX3_hasRow) := goodIn_app (goodIn_of _ (by decide +kernel)) ggX3_layAnew_X3_hasRow
set_option maxRecDepth 20000 in
theorem ggX3_layAnew_X3_lives : GoodIn wsX3_layAnew wsX3_lives := goodIn_r _ [16, 8, 9, 10, 6, 11, 12, 58] (by decide +kernel) (by decide +kernel)
set_option maxRecDepth 20000 in
theorem gX3_layAnew_X3_lives : GoodIn wsX3_layAnew (wsV RX3 65 RX3 yX3_lives wsX3_lives) := goodIn_app (goodIn_of _ (by decide +kernel)) ggX3_layAnew_X3_lives
set_option maxRecDepth 20000 in
theorem ggX3_layAnew_X3_layRow : GoodIn wsX3_layAnew wsX3_layRow := goodIn_r _ [20, 13, 14, 15, 6, 16, 8, 9, 10, 11, 12, 21, 22, 23, 24, 25, 26, 27, 28, 29, 30, 31, 32, 33, 34, 35, 36, 37, 38, 39, 40, 41, 42, 43, 44, 45, 46, 47, 48, 49, 50, 51, 52, 53, 54, 55, 56, 57, 58] (by decide +kernel) (by decide +kernel)
set_option maxRecDepth 20000 in
theorem gX3_layAnew_X3_layRow : GoodIn wsX3_layAnew (wsV RX3 56 RX3 yX3_layRow wsX3_layRow) := goodIn_app (goodIn_of _ (by decide +kernel)) ggX3_layAnew_X3_layRow
theorem dX3_layAnew_0 : decode cX3_layAnew 0 = .ok (.aload_n 0, 1) := by decide +kernel
theorem dX3_layAnew_1 : decode cX3_layAnew 1 = .ok (.iload_n 1, 1) := by decide +kernel
theorem dX3_layAnew_2 : decode cX3_layAnew 2 = .ok (.invokevirtual 59, 3) := by decide +kernel
theorem dX3_layAnew_5 : decode cX3_layAnew 5 = .ok (.ifCond .ne 6, 3) := by decide +kernel
theorem dX3_layAnew_8 : decode cX3_layAnew 8 = .ok (.ldc 52, 2) := by decide +kernel
theorem dX3_layAnew_10 : decode cX3_layAnew 10 = .ok (.ireturn, 1) := by decide +kernel
theorem dX3_layAnew_11 : decode cX3_layAnew 11 = .ok (.aload_n 0, 1) := by decide +kernel
theorem dX3_layAnew_12 : decode cX3_layAnew 12 = .ok (.iload_n 1, 1) := by decide +kernel
theorem dX3_layAnew_13 : decode cX3_layAnew 13 = .ok (.invokevirtual 65, 3) := by decide +kernel
theorem dX3_layAnew_16 : decode cX3_layAnew 16 = .ok (.ifCond .eq 11, 3) := by decide +kernel
theorem dX3_layAnew_19 : decode cX3_layAnew 19 = .ok (.aload_n 0, 1) := by decide +kernel
theorem dX3_layAnew_20 : decode cX3_layAnew 20 = .ok (.iload_n 1, 1) := by decide +kernel
theorem dX3_layAnew_21 : decode cX3_layAnew 21 = .ok (.invokevirtual 56, 3) := by decide +kernel
theorem dX3_layAnew_24 : decode cX3_layAnew 24 = .ok (.goto 5, 3) := by decide +kernel
theorem dX3_layAnew_27 : decode cX3_layAnew 27 = .ok (.ldc 68, 2) := by decide +kernel
theorem dX3_layAnew_29 : decode cX3_layAnew 29 = .ok (.ireturn, 1) := by decide +kernel
set_option maxRecDepth 20000 in
theorem ggX3_layRow_X3_lives : GoodIn wsX3_layRow wsX3_lives := goodIn_r _ [5, 6, 7, 8, 4, 9, 10, 48] (by decide +kernel) (by decide +kernel)
set_option maxRecDepth 20000 in
theorem gX3_layRow_X3_lives : GoodIn wsX3_layRow (wsV RX3 65 RX3 yX3_lives wsX3_lives) := goodIn_app (goodIn_of _ (by decide +kernel)) ggX3_layRow_X3_lives
set_option maxRecDepth 20000 in
theorem ggX3_layRow_X3_neighbour : GoodIn wsX3_layRow wsX3_neighbour := goodIn_r _ [14, 6, 7, 8, 4, 9, 10, 48] (by decide +kernel) (by decide +kernel)
set_option maxRecDepth 20000 in
theorem gX3_layRow_X3_neighbour : GoodIn wsX3_layRow (wsV RX3 35 RX3 yX3_neighbour wsX3_neighbour) := goodIn_app (goodIn_of _ (by decide +kernel)) ggX3_layRow_X3_neighbour
set_option maxRecDepth 20000 in
theorem ggX3_layRow_X3_stepToHolder : GoodIn wsX3_layRow wsX3_stepToHolder := goodIn_r _ [17] (by decide +kernel) (by decide +kernel)
set_option maxRecDepth 20000 in
theorem gX3_layRow_X3_stepToHolder : GoodIn wsX3_layRow (va_wsS RX3 32 yX3_stepToHolder wsX3_stepToHolder) := goodIn_app (goodIn_of _ (by decide +kernel)) ggX3_layRow_X3_stepToHolder
set_option maxRecDepth 20000 in
theorem ggX3_layRow_X3_layEcho : GoodIn wsX3_layRow wsX3_layEcho := goodIn_r _ [21, 6, 7, 8, 4, 9, 10, 1, 2, 3, 5, 22, 23, 24, 25, 26, 27, 28, 29, 30, 31, 32, 33, 34, 35, 36, 37, 38, 39, 40, 41, 42, 43, 44, 45, 46, 47, 48] (by decide +kernel) (by decide +kernel)
set_option maxRecDepth 20000 in
theorem gX3_layRow_X3_layEcho : GoodIn wsX3_layRow (wsV RX3 72 RX3 yX3_layEcho wsX3_layEcho) := goodIn_app (goodIn_of _ (by decide +kernel)) ggX3_layRow_X3_layEcho
theorem dX3_layRow_0 : decode cX3_layRow 0 = .ok (.aload_n 0, 1) := by decide +kernel
theorem dX3_layRow_1 : decode cX3_layRow 1 = .ok (.iload_n 1, 1) := by decide +kernel
theorem dX3_layRow_2 : decode cX3_layRow 2 = .ok (.invokevirtual 65, 3) := by decide +kernel
theorem dX3_layRow_5 : decode cX3_layRow 5 = .ok (.ifCond .ne 5, 3) := by decide +kernel
theorem dX3_layRow_8 : decode cX3_layRow 8 = .ok (.iconst 0, 1) := by decide +kernel
theorem dX3_layRow_9 : decode cX3_layRow 9 = .ok (.ireturn, 1) := by decide +kernel
theorem dX3_layRow_10 : decode cX3_layRow 10 = .ok (.aload_n 0, 1) := by decide +kernel
theorem dX3_layRow_11 : decode cX3_layRow 11 = .ok (.iload_n 1, 1) := by decide +kernel
theorem dX3_layRow_12 : decode cX3_layRow 12 = .ok (.iconst (-1), 1) := by decide +kernel
theorem dX3_layRow_13 : decode cX3_layRow 13 = .ok (.invokevirtual 35, 3) := by decide +kernel
theorem dX3_layRow_16 : decode cX3_layRow 16 = .ok (.istore_n 2, 1) := by decide +kernel
theorem dX3_layRow_17 : decode cX3_layRow 17 = .ok (.aload_n 0, 1) := by decide +kernel
theorem dX3_layRow_18 : decode cX3_layRow 18 = .ok (.iload_n 1, 1) := by decide +kernel
theorem dX3_layRow_19 : decode cX3_layRow 19 = .ok (.iconst 1, 1) := by decide +kernel
theorem dX3_layRow_20 : decode cX3_layRow 20 = .ok (.invokevirtual 35, 3) := by decide +kernel
theorem dX3_layRow_23 : decode cX3_layRow 23 = .ok (.istore_n 3, 1) := by decide +kernel
theorem dX3_layRow_24 : decode cX3_layRow 24 = .ok (.iconst 0, 1) := by decide +kernel
theorem dX3_layRow_25 : decode cX3_layRow 25 = .ok (.istore 4, 2) := by decide +kernel
theorem dX3_layRow_27 : decode cX3_layRow 27 = .ok (.iconst 0, 1) := by decide +kernel
theorem dX3_layRow_28 : decode cX3_layRow 28 = .ok (.istore 5, 2) := by decide +kernel
theorem dX3_layRow_30 : decode cX3_layRow 30 = .ok (.iload 5, 2) := by decide +kernel
theorem dX3_layRow_32 : decode cX3_layRow 32 = .ok (.bipush 8, 2) := by decide +kernel
theorem dX3_layRow_34 : decode cX3_layRow 34 = .ok (.if_icmp .ge 35, 3) := by decide +kernel
theorem dX3_layRow_37 : decode cX3_layRow 37 = .ok (.iload 4, 2) := by decide +kernel
theorem dX3_layRow_39 : decode cX3_layRow 39 = .ok (.aload_n 0, 1) := by decide +kernel
theorem dX3_layRow_40 : decode cX3_layRow 40 = .ok (.iload_n 1, 1) := by decide +kernel
theorem dX3_layRow_41 : decode cX3_layRow 41 = .ok (.iload 5, 2) := by decide +kernel
theorem dX3_layRow_43 : decode cX3_layRow 43 = .ok (.iload 5, 2) := by decide +kernel
theorem dX3_layRow_45 : decode cX3_layRow 45 = .ok (.invokestatic 32, 3) := by decide +kernel
theorem dX3_layRow_48 : decode cX3_layRow 48 = .ok (.iconst (-1), 1) := by decide +kernel
theorem dX3_layRow_49 : decode cX3_layRow 49 = .ok (.if_icmp .ne 7, 3) := by decide +kernel
theorem dX3_layRow_52 : decode cX3_layRow 52 = .ok (.iload_n 2, 1) := by decide +kernel
theorem dX3_layRow_53 : decode cX3_layRow 53 = .ok (.goto 4, 3) := by decide +kernel
theorem dX3_layRow_56 : decode cX3_layRow 56 = .ok (.iload_n 3, 1) := by decide +kernel
theorem dX3_layRow_57 : decode cX3_layRow 57 = .ok (.invokevirtual 72, 3) := by decide +kernel
theorem dX3_layRow_60 : decode cX3_layRow 60 = .ok (.iadd, 1) := by decide +kernel
theorem dX3_layRow_61 : decode cX3_layRow 61 = .ok (.istore 4, 2) := by decide +kernel
theorem dX3_layRow_63 : decode cX3_layRow 63 = .ok (.iinc 5 1, 3) := by decide +kernel
theorem dX3_layRow_66 : decode cX3_layRow 66 = .ok (.goto (-36), 3) := by decide +kernel
theorem dX3_layRow_69 : decode cX3_layRow 69 = .ok (.iload 4, 2) := by decide +kernel
theorem dX3_layRow_71 : decode cX3_layRow 71 = .ok (.ireturn, 1) := by decide +kernel
set_option maxRecDepth 20000 in
theorem ggX3_layEcho_X3_get : GoodIn wsX3_layEcho wsX3_get := goodIn_r _ [5, 6, 37] (by decide +kernel) (by decide +kernel)
set_option maxRecDepth 20000 in
theorem gX3_layEcho_X3_get : GoodIn wsX3_layEcho (wsV RX3 15 RX3 yX3_get wsX3_get) := goodIn_app (goodIn_of _ (by decide +kernel)) ggX3_layEcho_X3_get
set_option maxRecDepth 20000 in
theorem ggX3_layEcho_X3_lives : GoodIn wsX3_layEcho wsX3_lives := goodIn_r _ [10, 1, 2, 3, 4, 5, 6, 37] (by decide +kernel) (by decide +kernel)
set_option maxRecDepth 20000 in
theorem gX3_layEcho_X3_lives : GoodIn wsX3_layEcho (wsV RX3 65 RX3 yX3_lives wsX3_lives) := goodIn_app (goodIn_of _ (by decide +kernel)) ggX3_layEcho_X3_lives
set_option maxRecDepth 20000 in
theorem ggX3_layEcho_X3_removeEcho : GoodIn wsX3_layEcho wsX3_removeEcho := goodIn_r _ [14, 1, 2, 3, 4, 5, 6, 15, 16, 17, 18, 19, 20, 21, 37] (by decide +kernel) (by decide +kernel)
set_option maxRecDepth 20000 in
theorem gX3_layEcho_X3_removeEcho : GoodIn wsX3_layEcho (wsV RX3 90 RX3 yX3_removeEcho wsX3_removeEcho) := goodIn_app (goodIn_of _ (by decide +kernel)) ggX3_layEcho_X3_removeEcho
set_option maxRecDepth 20000 in
theorem ggX3_layEcho_X3_dropFirst : GoodIn wsX3_layEcho wsX3_dropFirst := goodIn_r _ [25, 26, 27, 28, 29, 1, 2, 3, 4, 5, 6, 18, 19, 20, 21, 37] (by decide +kernel) (by decide +kernel)
set_option maxRecDepth 20000 in
theorem gX3_layEcho_X3_dropFirst : GoodIn wsX3_layEcho (wsV RX3 93 RX3 yX3_dropFirst wsX3_dropFirst) := goodIn_app (goodIn_of _ (by decide +kernel)) ggX3_layEcho_X3_dropFirst
set_option maxRecDepth 20000 in
theorem ggX3_layEcho_X3_add : GoodIn wsX3_layEcho wsX3_add := goodIn_r _ [33, 1, 2, 3, 4, 5, 6, 18, 19, 20, 21, 37] (by decide +kernel) (by decide +kernel)
set_option maxRecDepth 20000 in
theorem gX3_layEcho_X3_add : GoodIn wsX3_layEcho (wsV RX3 69 RX3 yX3_add wsX3_add) := goodIn_app (goodIn_of _ (by decide +kernel)) ggX3_layEcho_X3_add
set_option maxRecDepth 20000 in
theorem ggX3_layEcho_X3_echo : GoodIn wsX3_layEcho wsX3_echo := goodIn_r _ [36] (by decide +kernel) (by decide +kernel)
set_option maxRecDepth 20000 in
theorem gX3_layEcho_X3_echo : GoodIn wsX3_layEcho (va_wsS RX3 96 yX3_echo wsX3_echo) := goodIn_app (goodIn_of _ (by decide +kernel)) ggX3_layEcho_X3_echo
set_option maxRecDepth 20000 in
theorem ggX3_layEcho_X3_put : GoodIn wsX3_layEcho wsX3_put := goodIn_r _ [21, 6, 37] (by decide +kernel) (by decide +kernel)
set_option maxRecDepth 20000 in
theorem gX3_layEcho_X3_put : GoodIn wsX3_layEcho (wsV RX3 19 RX3 yX3_put wsX3_put) := goodIn_app (goodIn_of _ (by decide +kernel)) ggX3_layEcho_X3_put
theorem dX3_layEcho_0 : decode cX3_layEcho 0 = .ok (.iload_n 1, 1) := by decide +kernel
theorem dX3_layEcho_1 : decode cX3_layEcho 1 = .ok (.bipush 8, 2) := by decide +kernel
theorem dX3_layEcho_3 : decode cX3_layEcho 3 = .ok (.imul, 1) := by decide +kernel
theorem dX3_layEcho_4 : decode cX3_layEcho 4 = .ok (.iload_n 2, 1) := by decide +kernel
theorem dX3_layEcho_5 : decode cX3_layEcho 5 = .ok (.iadd, 1) := by decide +kernel
theorem dX3_layEcho_6 : decode cX3_layEcho 6 = .ok (.istore 4, 2) := by decide +kernel
theorem dX3_layEcho_8 : decode cX3_layEcho 8 = .ok (.aload_n 0, 1) := by decide +kernel
theorem dX3_layEcho_9 : decode cX3_layEcho 9 = .ok (.bipush 64, 2) := by decide +kernel
theorem dX3_layEcho_11 : decode cX3_layEcho 11 = .ok (.iload 4, 2) := by decide +kernel
theorem dX3_layEcho_13 : decode cX3_layEcho 13 = .ok (.iadd, 1) := by decide +kernel
theorem dX3_layEcho_14 : decode cX3_layEcho 14 = .ok (.invokevirtual 15, 3) := by decide +kernel
theorem dX3_layEcho_17 : decode cX3_layEcho 17 = .ok (.istore 5, 2) := by decide +kernel
theorem dX3_layEcho_19 : decode cX3_layEcho 19 = .ok (.iload 5, 2) := by decide +kernel
theorem dX3_layEcho_21 : decode cX3_layEcho 21 = .ok (.iconst (-1), 1) := by decide +kernel
theorem dX3_layEcho_22 : decode cX3_layEcho 22 = .ok (.if_icmp .eq 11, 3) := by decide +kernel
theorem dX3_layEcho_25 : decode cX3_layEcho 25 = .ok (.aload_n 0, 1) := by decide +kernel
theorem dX3_layEcho_26 : decode cX3_layEcho 26 = .ok (.iload_n 3, 1) := by decide +kernel
theorem dX3_layEcho_27 : decode cX3_layEcho 27 = .ok (.invokevirtual 65, 3) := by decide +kernel
theorem dX3_layEcho_30 : decode cX3_layEcho 30 = .ok (.ifCond .ne 5, 3) := by decide +kernel
theorem dX3_layEcho_33 : decode cX3_layEcho 33 = .ok (.iconst 0, 1) := by decide +kernel
theorem dX3_layEcho_34 : decode cX3_layEcho 34 = .ok (.ireturn, 1) := by decide +kernel
theorem dX3_layEcho_35 : decode cX3_layEcho 35 = .ok (.aload_n 0, 1) := by decide +kernel
theorem dX3_layEcho_36 : decode cX3_layEcho 36 = .ok (.iload_n 3, 1) := by decide +kernel
theorem dX3_layEcho_37 : decode cX3_layEcho 37 = .ok (.iload 4, 2) := by decide +kernel
theorem dX3_layEcho_39 : decode cX3_layEcho 39 = .ok (.invokevirtual 90, 3) := by decide +kernel
theorem dX3_layEcho_42 : decode cX3_layEcho 42 = .ok (.aload_n 0, 1) := by decide +kernel
theorem dX3_layEcho_43 : decode cX3_layEcho 43 = .ok (.bipush 55, 2) := by decide +kernel
theorem dX3_layEcho_45 : decode cX3_layEcho 45 = .ok (.iload_n 3, 1) := by decide +kernel
theorem dX3_layEcho_46 : decode cX3_layEcho 46 = .ok (.iadd, 1) := by decide +kernel
theorem dX3_layEcho_47 : decode cX3_layEcho 47 = .ok (.invokevirtual 15, 3) := by decide +kernel
theorem dX3_layEcho_50 : decode cX3_layEcho 50 = .ok (.iconst 1, 1) := by decide +kernel
theorem dX3_layEcho_51 : decode cX3_layEcho 51 = .ok (.iadd, 1) := by decide +kernel
theorem dX3_layEcho_52 : decode cX3_layEcho 52 = .ok (.aload_n 0, 1) := by decide +kernel
theorem dX3_layEcho_53 : decode cX3_layEcho 53 = .ok (.iconst 2, 1) := by decide +kernel
theorem dX3_layEcho_54 : decode cX3_layEcho 54 = .ok (.invokevirtual 15, 3) := by decide +kernel
theorem dX3_layEcho_57 : decode cX3_layEcho 57 = .ok (.isub, 1) := by decide +kernel
theorem dX3_layEcho_58 : decode cX3_layEcho 58 = .ok (.istore 6, 2) := by decide +kernel
theorem dX3_layEcho_60 : decode cX3_layEcho 60 = .ok (.iload 6, 2) := by decide +kernel
theorem dX3_layEcho_62 : decode cX3_layEcho 62 = .ok (.ifCond .le 20, 3) := by decide +kernel
theorem dX3_layEcho_65 : decode cX3_layEcho 65 = .ok (.aload_n 0, 1) := by decide +kernel
theorem dX3_layEcho_66 : decode cX3_layEcho 66 = .ok (.iload_n 3, 1) := by decide +kernel
theorem dX3_layEcho_67 : decode cX3_layEcho 67 = .ok (.iload 6, 2) := by decide +kernel
theorem dX3_layEcho_69 : decode cX3_layEcho 69 = .ok (.invokevirtual 93, 3) := by decide +kernel
theorem dX3_layEcho_72 : decode cX3_layEcho 72 = .ok (.aload_n 0, 1) := by decide +kernel
theorem dX3_layEcho_73 : decode cX3_layEcho 73 = .ok (.bipush 46, 2) := by decide +kernel
theorem dX3_layEcho_75 : decode cX3_layEcho 75 = .ok (.iload_n 3, 1) := by decide +kernel
theorem dX3_layEcho_76 : decode cX3_layEcho 76 = .ok (.iadd, 1) := by decide +kernel
theorem dX3_layEcho_77 : decode cX3_layEcho 77 = .ok (.iload 6, 2) := by decide +kernel
theorem dX3_layEcho_79 : decode cX3_layEcho 79 = .ok (.invokevirtual 69, 3) := by decide +kernel
theorem dX3_layEcho_82 : decode cX3_layEcho 82 = .ok (.aload_n 0, 1) := by decide +kernel
theorem dX3_layEcho_83 : decode cX3_layEcho 83 = .ok (.sipush 208, 3) := by decide +kernel
theorem dX3_layEcho_86 : decode cX3_layEcho 86 = .ok (.iload_n 3, 1) := by decide +kernel
theorem dX3_layEcho_87 : decode cX3_layEcho 87 = .ok (.bipush 16, 2) := by decide +kernel
theorem dX3_layEcho_89 : decode cX3_layEcho 89 = .ok (.imul, 1) := by decide +kernel
theorem dX3_layEcho_90 : decode cX3_layEcho 90 = .ok (.iadd, 1) := by decide +kernel
theorem dX3_layEcho_91 : decode cX3_layEcho 91 = .ok (.aload_n 0, 1) := by decide +kernel
theorem dX3_layEcho_92 : decode cX3_layEcho 92 = .ok (.bipush 55, 2) := by decide +kernel
theorem dX3_layEcho_94 : decode cX3_layEcho 94 = .ok (.iload_n 3, 1) := by decide +kernel
theorem dX3_layEcho_95 : decode cX3_layEcho 95 = .ok (.iadd, 1) := by decide +kernel
theorem dX3_layEcho_96 : decode cX3_layEcho 96 = .ok (.invokevirtual 15, 3) := by decide +kernel
theorem dX3_layEcho_99 : decode cX3_layEcho 99 = .ok (.iadd, 1) := by decide +kernel
theorem dX3_layEcho_100 : decode cX3_layEcho 100 = .ok (.iload 4, 2) := by decide +kernel
theorem dX3_layEcho_102 : decode cX3_layEcho 102 = .ok (.iload 5, 2) := by decide +kernel
theorem dX3_layEcho_104 : decode cX3_layEcho 104 = .ok (.aload_n 0, 1) := by decide +kernel
theorem dX3_layEcho_105 : decode cX3_layEcho 105 = .ok (.iconst 0, 1) := by decide +kernel
theorem dX3_layEcho_106 : decode cX3_layEcho 106 = .ok (.invokevirtual 15, 3) := by decide +kernel
theorem dX3_layEcho_109 : decode cX3_layEcho 109 = .ok (.invokestatic 96, 3) := by decide +kernel
theorem dX3_layEcho_112 : decode cX3_layEcho 112 = .ok (.invokevirtual 19, 3) := by decide +kernel
theorem dX3_layEcho_115 : decode cX3_layEcho 115 = .ok (.aload_n 0, 1) := by decide +kernel
theorem dX3_layEcho_116 : decode cX3_layEcho 116 = .ok (.bipush 55, 2) := by decide +kernel
theorem dX3_layEcho_118 : decode cX3_layEcho 118 = .ok (.iload_n 3, 1) := by decide +kernel
theorem dX3_layEcho_119 : decode cX3_layEcho 119 = .ok (.iadd, 1) := by decide +kernel
theorem dX3_layEcho_120 : decode cX3_layEcho 120 = .ok (.iconst 1, 1) := by decide +kernel
theorem dX3_layEcho_121 : decode cX3_layEcho 121 = .ok (.invokevirtual 69, 3) := by decide +kernel
theorem dX3_layEcho_124 : decode cX3_layEcho 124 = .ok (.aload_n 0, 1) := by decide +kernel
theorem dX3_layEcho_125 : decode cX3_layEcho 125 = .ok (.bipush 9, 2) := by decide +kernel
theorem dX3_layEcho_127 : decode cX3_layEcho 127 = .ok (.iconst 1, 1) := by decide +kernel
theorem dX3_layEcho_128 : decode cX3_layEcho 128 = .ok (.invokevirtual 69, 3) := by decide +kernel
theorem dX3_layEcho_131 : decode cX3_layEcho 131 = .ok (.iconst 1, 1) := by decide +kernel
theorem dX3_layEcho_132 : decode cX3_layEcho 132 = .ok (.ireturn, 1) := by decide +kernel
set_option maxRecDepth 20000 in
theorem ggX3_removeEcho_X3_get : GoodIn wsX3_removeEcho wsX3_get := goodIn_r _ [5, 6, 14] (by decide +kernel) (by decide +kernel)
set_option maxRecDepth 20000 in
theorem gX3_removeEcho_X3_get : GoodIn wsX3_removeEcho (wsV RX3 15 RX3 yX3_get wsX3_get) := goodIn_app (goodIn_of _ (by decide +kernel)) ggX3_removeEcho_X3_get
set_option maxRecDepth 20000 in
theorem ggX3_removeEcho_X3_ownerOf : GoodIn wsX3_removeEcho wsX3_ownerOf := goodIn_r _ [9] (by decide +kernel) (by decide +kernel)
set_option maxRecDepth 20000 in
theorem gX3_removeEcho_X3_ownerOf : GoodIn wsX3_removeEcho (va_wsS RX3 39 yX3_ownerOf wsX3_ownerOf) := goodIn_app (goodIn_of _ (by decide +kernel)) ggX3_removeEcho_X3_ownerOf
set_option maxRecDepth 20000 in
theorem ggX3_removeEcho_X3_put : GoodIn wsX3_removeEcho wsX3_put := goodIn_r _ [13, 6, 14] (by decide +kernel) (by decide +kernel)
set_option maxRecDepth 20000 in
theorem gX3_removeEcho_X3_put : GoodIn wsX3_removeEcho (wsV RX3 19 RX3 yX3_put wsX3_put) := goodIn_app (goodIn_of _ (by decide +kernel)) ggX3_removeEcho_X3_put
theorem dX3_removeEcho_0 : decode cX3_removeEcho 0 = .ok (.sipush 208, 3) := by decide +kernel
theorem dX3_removeEcho_3 : decode cX3_removeEcho 3 = .ok (.iload_n 1, 1) := by decide +kernel
theorem dX3_removeEcho_4 : decode cX3_removeEcho 4 = .ok (.bipush 16, 2) := by decide +kernel
theorem dX3_removeEcho_6 : decode cX3_removeEcho 6 = .ok (.imul, 1) := by decide +kernel
theorem dX3_removeEcho_7 : decode cX3_removeEcho 7 = .ok (.iadd, 1) := by decide +kernel
theorem dX3_removeEcho_8 : decode cX3_removeEcho 8 = .ok (.istore_n 3, 1) := by decide +kernel
theorem dX3_removeEcho_9 : decode cX3_removeEcho 9 = .ok (.aload_n 0, 1) := by decide +kernel
theorem dX3_removeEcho_10 : decode cX3_removeEcho 10 = .ok (.bipush 55, 2) := by decide +kernel
theorem dX3_removeEcho_12 : decode cX3_removeEcho 12 = .ok (.iload_n 1, 1) := by decide +kernel
theorem dX3_removeEcho_13 : decode cX3_removeEcho 13 = .ok (.iadd, 1) := by decide +kernel
theorem dX3_removeEcho_14 : decode cX3_removeEcho 14 = .ok (.invokevirtual 15, 3) := by decide +kernel
theorem dX3_removeEcho_17 : decode cX3_removeEcho 17 = .ok (.istore 4, 2) := by decide +kernel
theorem dX3_removeEcho_19 : decode cX3_removeEcho 19 = .ok (.iconst 0, 1) := by decide +kernel
theorem dX3_removeEcho_20 : decode cX3_removeEcho 20 = .ok (.istore 5, 2) := by decide +kernel
theorem dX3_removeEcho_22 : decode cX3_removeEcho 22 = .ok (.iconst 0, 1) := by decide +kernel
theorem dX3_removeEcho_23 : decode cX3_removeEcho 23 = .ok (.istore 6, 2) := by decide +kernel
theorem dX3_removeEcho_25 : decode cX3_removeEcho 25 = .ok (.iload 6, 2) := by decide +kernel
theorem dX3_removeEcho_27 : decode cX3_removeEcho 27 = .ok (.iload 4, 2) := by decide +kernel
theorem dX3_removeEcho_29 : decode cX3_removeEcho 29 = .ok (.if_icmp .ge 41, 3) := by decide +kernel
theorem dX3_removeEcho_32 : decode cX3_removeEcho 32 = .ok (.aload_n 0, 1) := by decide +kernel
theorem dX3_removeEcho_33 : decode cX3_removeEcho 33 = .ok (.iload_n 3, 1) := by decide +kernel
theorem dX3_removeEcho_34 : decode cX3_removeEcho 34 = .ok (.iload 6, 2) := by decide +kernel
theorem dX3_removeEcho_36 : decode cX3_removeEcho 36 = .ok (.iadd, 1) := by decide +kernel
theorem dX3_removeEcho_37 : decode cX3_removeEcho 37 = .ok (.invokevirtual 15, 3) := by decide +kernel
theorem dX3_removeEcho_40 : decode cX3_removeEcho 40 = .ok (.istore 7, 2) := by decide +kernel
theorem dX3_removeEcho_42 : decode cX3_removeEcho 42 = .ok (.iload 7, 2) := by decide +kernel
theorem dX3_removeEcho_44 : decode cX3_removeEcho 44 = .ok (.invokestatic 39, 3) := by decide +kernel
theorem dX3_removeEcho_47 : decode cX3_removeEcho 47 = .ok (.iload_n 2, 1) := by decide +kernel
theorem dX3_removeEcho_48 : decode cX3_removeEcho 48 = .ok (.if_icmp .eq 16, 3) := by decide +kernel
theorem dX3_removeEcho_51 : decode cX3_removeEcho 51 = .ok (.aload_n 0, 1) := by decide +kernel
theorem dX3_removeEcho_52 : decode cX3_removeEcho 52 = .ok (.iload_n 3, 1) := by decide +kernel
theorem dX3_removeEcho_53 : decode cX3_removeEcho 53 = .ok (.iload 5, 2) := by decide +kernel
theorem dX3_removeEcho_55 : decode cX3_removeEcho 55 = .ok (.iadd, 1) := by decide +kernel
theorem dX3_removeEcho_56 : decode cX3_removeEcho 56 = .ok (.iload 7, 2) := by decide +kernel
theorem dX3_removeEcho_58 : decode cX3_removeEcho 58 = .ok (.invokevirtual 19, 3) := by decide +kernel
theorem dX3_removeEcho_61 : decode cX3_removeEcho 61 = .ok (.iinc 5 1, 3) := by decide +kernel
theorem dX3_removeEcho_64 : decode cX3_removeEcho 64 = .ok (.iinc 6 1, 3) := by decide +kernel
theorem dX3_removeEcho_67 : decode cX3_removeEcho 67 = .ok (.goto (-42), 3) := by decide +kernel
theorem dX3_removeEcho_70 : decode cX3_removeEcho 70 = .ok (.aload_n 0, 1) := by decide +kernel
theorem dX3_removeEcho_71 : decode cX3_removeEcho 71 = .ok (.bipush 55, 2) := by decide +kernel
theorem dX3_removeEcho_73 : decode cX3_removeEcho 73 = .ok (.iload_n 1, 1) := by decide +kernel
theorem dX3_removeEcho_74 : decode cX3_removeEcho 74 = .ok (.iadd, 1) := by decide +kernel
theorem dX3_removeEcho_75 : decode cX3_removeEcho 75 = .ok (.iload 5, 2) := by decide +kernel
