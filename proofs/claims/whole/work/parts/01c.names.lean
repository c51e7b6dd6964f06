theorem dX3_mendRow_42 : decode cX3_mendRow 42 = .ok (.istore 4, 2) := by decide +kernel
theorem dX3_mendRow_44 : decode cX3_mendRow 44 = .ok (.aload_n 0, 1) := by decide +kernel
theorem dX3_mendRow_45 : decode cX3_mendRow 45 = .ok (.iload_n 1, 1) := by decide +kernel
theorem dX3_mendRow_46 : decode cX3_mendRow 46 = .ok (.bipush 8, 2) := by decide +kernel
theorem dX3_mendRow_48 : decode cX3_mendRow 48 = .ok (.imul, 1) := by decide +kernel
theorem dX3_mendRow_49 : decode cX3_mendRow 49 = .ok (.iload_n 3, 1) := by decide +kernel
theorem dX3_mendRow_50 : decode cX3_mendRow 50 = .ok (.iadd, 1) := by decide +kernel
theorem dX3_mendRow_51 : decode cX3_mendRow 51 = .ok (.iload 4, 2) := by decide +kernel
theorem dX3_mendRow_53 : decode cX3_mendRow 53 = .ok (.iconst (-1), 1) := by decide +kernel
theorem dX3_mendRow_54 : decode cX3_mendRow 54 = .ok (.if_icmp .ne 7, 3) := by decide +kernel
theorem dX3_mendRow_57 : decode cX3_mendRow 57 = .ok (.iconst (-1), 1) := by decide +kernel
theorem dX3_mendRow_58 : decode cX3_mendRow 58 = .ok (.goto 8, 3) := by decide +kernel
theorem dX3_mendRow_61 : decode cX3_mendRow 61 = .ok (.iload 4, 2) := by decide +kernel
theorem dX3_mendRow_63 : decode cX3_mendRow 63 = .ok (.invokestatic 49, 3) := by decide +kernel
theorem dX3_mendRow_66 : decode cX3_mendRow 66 = .ok (.invokevirtual 79, 3) := by decide +kernel
theorem dX3_mendRow_69 : decode cX3_mendRow 69 = .ok (.iinc 3 1, 3) := by decide +kernel
theorem dX3_mendRow_72 : decode cX3_mendRow 72 = .ok (.goto (-42), 3) := by decide +kernel
theorem dX3_mendRow_75 : decode cX3_mendRow 75 = .ok (.aload_n 0, 1) := by decide +kernel
theorem dX3_mendRow_76 : decode cX3_mendRow 76 = .ok (.bipush 28, 2) := by decide +kernel
theorem dX3_mendRow_78 : decode cX3_mendRow 78 = .ok (.iload_n 1, 1) := by decide +kernel
theorem dX3_mendRow_79 : decode cX3_mendRow 79 = .ok (.iadd, 1) := by decide +kernel
theorem dX3_mendRow_80 : decode cX3_mendRow 80 = .ok (.iconst 1, 1) := by decide +kernel
theorem dX3_mendRow_81 : decode cX3_mendRow 81 = .ok (.invokevirtual 19, 3) := by decide +kernel
theorem dX3_mendRow_84 : decode cX3_mendRow 84 = .ok (.aload_n 0, 1) := by decide +kernel
theorem dX3_mendRow_85 : decode cX3_mendRow 85 = .ok (.aload_n 0, 1) := by decide +kernel
theorem dX3_mendRow_86 : decode cX3_mendRow 86 = .ok (.iload_n 1, 1) := by decide +kernel
theorem dX3_mendRow_87 : decode cX3_mendRow 87 = .ok (.iconst (-1), 1) := by decide +kernel
theorem dX3_mendRow_88 : decode cX3_mendRow 88 = .ok (.invokevirtual 35, 3) := by decide +kernel
theorem dX3_mendRow_91 : decode cX3_mendRow 91 = .ok (.invokevirtual 56, 3) := by decide +kernel
theorem dX3_mendRow_94 : decode cX3_mendRow 94 = .ok (.pop, 1) := by decide +kernel
theorem dX3_mendRow_95 : decode cX3_mendRow 95 = .ok (.aload_n 0, 1) := by decide +kernel
theorem dX3_mendRow_96 : decode cX3_mendRow 96 = .ok (.aload_n 0, 1) := by decide +kernel
theorem dX3_mendRow_97 : decode cX3_mendRow 97 = .ok (.iload_n 1, 1) := by decide +kernel
theorem dX3_mendRow_98 : decode cX3_mendRow 98 = .ok (.iconst 1, 1) := by decide +kernel
theorem dX3_mendRow_99 : decode cX3_mendRow 99 = .ok (.invokevirtual 35, 3) := by decide +kernel
theorem dX3_mendRow_102 : decode cX3_mendRow 102 = .ok (.invokevirtual 56, 3) := by decide +kernel
theorem dX3_mendRow_105 : decode cX3_mendRow 105 = .ok (.pop, 1) := by decide +kernel
theorem dX3_mendRow_106 : decode cX3_mendRow 106 = .ok (.aload_n 0, 1) := by decide +kernel
theorem dX3_mendRow_107 : decode cX3_mendRow 107 = .ok (.iload_n 1, 1) := by decide +kernel
theorem dX3_mendRow_108 : decode cX3_mendRow 108 = .ok (.invokevirtual 56, 3) := by decide +kernel
theorem dX3_mendRow_111 : decode cX3_mendRow 111 = .ok (.pop, 1) := by decide +kernel
theorem dX3_mendRow_112 : decode cX3_mendRow 112 = .ok (.aload_n 0, 1) := by decide +kernel
theorem dX3_mendRow_113 : decode cX3_mendRow 113 = .ok (.bipush 6, 2) := by decide +kernel
theorem dX3_mendRow_115 : decode cX3_mendRow 115 = .ok (.iconst 1, 1) := by decide +kernel
theorem dX3_mendRow_116 : decode cX3_mendRow 116 = .ok (.invokevirtual 69, 3) := by decide +kernel
theorem dX3_mendRow_119 : decode cX3_mendRow 119 = .ok (.aload_n 0, 1) := by decide +kernel
theorem dX3_mendRow_120 : decode cX3_mendRow 120 = .ok (.bipush 7, 2) := by decide +kernel
theorem dX3_mendRow_122 : decode cX3_mendRow 122 = .ok (.iload_n 2, 1) := by decide +kernel
theorem dX3_mendRow_123 : decode cX3_mendRow 123 = .ok (.invokevirtual 69, 3) := by decide +kernel
theorem dX3_mendRow_126 : decode cX3_mendRow 126 = .ok (.iload_n 2, 1) := by decide +kernel
theorem dX3_mendRow_127 : decode cX3_mendRow 127 = .ok (.ireturn, 1) := by decide +kernel
set_option maxRecDepth 20000 in
theorem ggX3_mendCell_X3_get : GoodIn wsX3_mendCell wsX3_get := goodIn_r _ [5, 6, 15] (by decide +kernel) (by decide +kernel)
set_option maxRecDepth 20000 in
theorem gX3_mendCell_X3_get : GoodIn wsX3_mendCell (wsV RX3 15 RX3 yX3_get wsX3_get) := goodIn_app (goodIn_of _ (by decide +kernel)) ggX3_mendCell_X3_get
set_option maxRecDepth 20000 in
theorem ggX3_mendCell_X3_put : GoodIn wsX3_mendCell wsX3_put := goodIn_r _ [10, 6, 15] (by decide +kernel) (by decide +kernel)
set_option maxRecDepth 20000 in
theorem gX3_mendCell_X3_put : GoodIn wsX3_mendCell (wsV RX3 19 RX3 yX3_put wsX3_put) := goodIn_app (goodIn_of _ (by decide +kernel)) ggX3_mendCell_X3_put
set_option maxRecDepth 20000 in
theorem ggX3_mendCell_X3_add : GoodIn wsX3_mendCell wsX3_add := goodIn_r _ [14, 1, 2, 3, 4, 5, 6, 7, 8, 9, 10, 15] (by decide +kernel) (by decide +kernel)
set_option maxRecDepth 20000 in
theorem gX3_mendCell_X3_add : GoodIn wsX3_mendCell (wsV RX3 69 RX3 yX3_add wsX3_add) := goodIn_app (goodIn_of _ (by decide +kernel)) ggX3_mendCell_X3_add
theorem dX3_mendCell_0 : decode cX3_mendCell 0 = .ok (.iload_n 2, 1) := by decide +kernel
theorem dX3_mendCell_1 : decode cX3_mendCell 1 = .ok (.iconst (-1), 1) := by decide +kernel
theorem dX3_mendCell_2 : decode cX3_mendCell 2 = .ok (.if_icmp .eq 19, 3) := by decide +kernel
theorem dX3_mendCell_5 : decode cX3_mendCell 5 = .ok (.iload_n 2, 1) := by decide +kernel
theorem dX3_mendCell_6 : decode cX3_mendCell 6 = .ok (.aload_n 0, 1) := by decide +kernel
theorem dX3_mendCell_7 : decode cX3_mendCell 7 = .ok (.bipush 64, 2) := by decide +kernel
theorem dX3_mendCell_9 : decode cX3_mendCell 9 = .ok (.iload_n 1, 1) := by decide +kernel
theorem dX3_mendCell_10 : decode cX3_mendCell 10 = .ok (.iadd, 1) := by decide +kernel
theorem dX3_mendCell_11 : decode cX3_mendCell 11 = .ok (.invokevirtual 15, 3) := by decide +kernel
theorem dX3_mendCell_14 : decode cX3_mendCell 14 = .ok (.if_icmp .eq 7, 3) := by decide +kernel
theorem dX3_mendCell_17 : decode cX3_mendCell 17 = .ok (.iconst 1, 1) := by decide +kernel
theorem dX3_mendCell_18 : decode cX3_mendCell 18 = .ok (.goto 4, 3) := by decide +kernel
theorem dX3_mendCell_21 : decode cX3_mendCell 21 = .ok (.iconst 0, 1) := by decide +kernel
theorem dX3_mendCell_22 : decode cX3_mendCell 22 = .ok (.istore_n 3, 1) := by decide +kernel
theorem dX3_mendCell_23 : decode cX3_mendCell 23 = .ok (.aload_n 0, 1) := by decide +kernel
theorem dX3_mendCell_24 : decode cX3_mendCell 24 = .ok (.bipush 64, 2) := by decide +kernel
theorem dX3_mendCell_26 : decode cX3_mendCell 26 = .ok (.iload_n 1, 1) := by decide +kernel
theorem dX3_mendCell_27 : decode cX3_mendCell 27 = .ok (.iadd, 1) := by decide +kernel
theorem dX3_mendCell_28 : decode cX3_mendCell 28 = .ok (.iload_n 2, 1) := by decide +kernel
theorem dX3_mendCell_29 : decode cX3_mendCell 29 = .ok (.invokevirtual 19, 3) := by decide +kernel
theorem dX3_mendCell_32 : decode cX3_mendCell 32 = .ok (.aload_n 0, 1) := by decide +kernel
theorem dX3_mendCell_33 : decode cX3_mendCell 33 = .ok (.sipush 136, 3) := by decide +kernel
theorem dX3_mendCell_36 : decode cX3_mendCell 36 = .ok (.iload_n 1, 1) := by decide +kernel
theorem dX3_mendCell_37 : decode cX3_mendCell 37 = .ok (.iadd, 1) := by decide +kernel
theorem dX3_mendCell_38 : decode cX3_mendCell 38 = .ok (.iload_n 3, 1) := by decide +kernel
theorem dX3_mendCell_39 : decode cX3_mendCell 39 = .ok (.invokevirtual 19, 3) := by decide +kernel
theorem dX3_mendCell_42 : decode cX3_mendCell 42 = .ok (.aload_n 0, 1) := by decide +kernel
theorem dX3_mendCell_43 : decode cX3_mendCell 43 = .ok (.bipush 8, 2) := by decide +kernel
theorem dX3_mendCell_45 : decode cX3_mendCell 45 = .ok (.iload_n 3, 1) := by decide +kernel
theorem dX3_mendCell_46 : decode cX3_mendCell 46 = .ok (.invokevirtual 69, 3) := by decide +kernel
theorem dX3_mendCell_49 : decode cX3_mendCell 49 = .ok (.return_, 1) := by decide +kernel
set_option maxRecDepth 20000 in
theorem ggX3_swapRows_X3_hasRow : GoodIn wsX3_swapRows wsX3_hasRow := goodIn_r _ [14, 15, 16, 17, 13, 18, 19, 28] (by decide +kernel) (by decide +kernel)
set_option maxRecDepth 20000 in
theorem gX3_swapRows_X3_hasRow : GoodIn wsX3_swapRows (wsV RX3 59 RX3 yX3_hasRow wsX3_hasRow) := goodIn_app (goodIn_of _ (by decide +kernel)) ggX3_swapRows_X3_hasRow
set_option maxRecDepth 20000 in
theorem ggX3_swapRows_X3_lives : GoodIn wsX3_swapRows wsX3_lives := goodIn_r _ [23, 15, 16, 17, 13, 18, 19, 28] (by decide +kernel) (by decide +kernel)
set_option maxRecDepth 20000 in
theorem gX3_swapRows_X3_lives : GoodIn wsX3_swapRows (wsV RX3 65 RX3 yX3_lives wsX3_lives) := goodIn_app (goodIn_of _ (by decide +kernel)) ggX3_swapRows_X3_lives
set_option maxRecDepth 20000 in
theorem ggX3_swapRows_X3_get : GoodIn wsX3_swapRows wsX3_get := goodIn_r _ [18, 19, 28] (by decide +kernel) (by decide +kernel)
set_option maxRecDepth 20000 in
theorem gX3_swapRows_X3_get : GoodIn wsX3_swapRows (wsV RX3 15 RX3 yX3_get wsX3_get) := goodIn_app (goodIn_of _ (by decide +kernel)) ggX3_swapRows_X3_get
set_option maxRecDepth 20000 in
theorem ggX3_swapRows_X3_put : GoodIn wsX3_swapRows wsX3_put := goodIn_r _ [27, 19, 28] (by decide +kernel) (by decide +kernel)
set_option maxRecDepth 20000 in
theorem gX3_swapRows_X3_put : GoodIn wsX3_swapRows (wsV RX3 19 RX3 yX3_put wsX3_put) := goodIn_app (goodIn_of _ (by decide +kernel)) ggX3_swapRows_X3_put
theorem dX3_swapRows_0 : decode cX3_swapRows 0 = .ok (.aload_n 0, 1) := by decide +kernel
theorem dX3_swapRows_1 : decode cX3_swapRows 1 = .ok (.iload_n 1, 1) := by decide +kernel
theorem dX3_swapRows_2 : decode cX3_swapRows 2 = .ok (.invokevirtual 59, 3) := by decide +kernel
theorem dX3_swapRows_5 : decode cX3_swapRows 5 = .ok (.ifCond .eq 16, 3) := by decide +kernel
theorem dX3_swapRows_8 : decode cX3_swapRows 8 = .ok (.aload_n 0, 1) := by decide +kernel
theorem dX3_swapRows_9 : decode cX3_swapRows 9 = .ok (.iload_n 2, 1) := by decide +kernel
theorem dX3_swapRows_10 : decode cX3_swapRows 10 = .ok (.invokevirtual 59, 3) := by decide +kernel
theorem dX3_swapRows_13 : decode cX3_swapRows 13 = .ok (.ifCond .eq 8, 3) := by decide +kernel
theorem dX3_swapRows_16 : decode cX3_swapRows 16 = .ok (.iload_n 1, 1) := by decide +kernel
theorem dX3_swapRows_17 : decode cX3_swapRows 17 = .ok (.iload_n 2, 1) := by decide +kernel
theorem dX3_swapRows_18 : decode cX3_swapRows 18 = .ok (.if_icmp .ne 6, 3) := by decide +kernel
theorem dX3_swapRows_21 : decode cX3_swapRows 21 = .ok (.ldc 52, 2) := by decide +kernel
theorem dX3_swapRows_23 : decode cX3_swapRows 23 = .ok (.ireturn, 1) := by decide +kernel
theorem dX3_swapRows_24 : decode cX3_swapRows 24 = .ok (.aload_n 0, 1) := by decide +kernel
theorem dX3_swapRows_25 : decode cX3_swapRows 25 = .ok (.iload_n 1, 1) := by decide +kernel
theorem dX3_swapRows_26 : decode cX3_swapRows 26 = .ok (.invokevirtual 65, 3) := by decide +kernel
theorem dX3_swapRows_29 : decode cX3_swapRows 29 = .ok (.ifCond .eq 11, 3) := by decide +kernel
theorem dX3_swapRows_32 : decode cX3_swapRows 32 = .ok (.aload_n 0, 1) := by decide +kernel
theorem dX3_swapRows_33 : decode cX3_swapRows 33 = .ok (.iload_n 2, 1) := by decide +kernel
theorem dX3_swapRows_34 : decode cX3_swapRows 34 = .ok (.invokevirtual 65, 3) := by decide +kernel
theorem dX3_swapRows_37 : decode cX3_swapRows 37 = .ok (.ifCond .ne 6, 3) := by decide +kernel
theorem dX3_swapRows_40 : decode cX3_swapRows 40 = .ok (.ldc 68, 2) := by decide +kernel
theorem dX3_swapRows_42 : decode cX3_swapRows 42 = .ok (.ireturn, 1) := by decide +kernel
theorem dX3_swapRows_43 : decode cX3_swapRows 43 = .ok (.aload_n 0, 1) := by decide +kernel
theorem dX3_swapRows_44 : decode cX3_swapRows 44 = .ok (.bipush 10, 2) := by decide +kernel
theorem dX3_swapRows_46 : decode cX3_swapRows 46 = .ok (.iload_n 1, 1) := by decide +kernel
theorem dX3_swapRows_47 : decode cX3_swapRows 47 = .ok (.iadd, 1) := by decide +kernel
theorem dX3_swapRows_48 : decode cX3_swapRows 48 = .ok (.invokevirtual 15, 3) := by decide +kernel
theorem dX3_swapRows_51 : decode cX3_swapRows 51 = .ok (.istore_n 3, 1) := by decide +kernel
theorem dX3_swapRows_52 : decode cX3_swapRows 52 = .ok (.aload_n 0, 1) := by decide +kernel
theorem dX3_swapRows_53 : decode cX3_swapRows 53 = .ok (.bipush 10, 2) := by decide +kernel
theorem dX3_swapRows_55 : decode cX3_swapRows 55 = .ok (.iload_n 2, 1) := by decide +kernel
theorem dX3_swapRows_56 : decode cX3_swapRows 56 = .ok (.iadd, 1) := by decide +kernel
theorem dX3_swapRows_57 : decode cX3_swapRows 57 = .ok (.invokevirtual 15, 3) := by decide +kernel
theorem dX3_swapRows_60 : decode cX3_swapRows 60 = .ok (.istore 4, 2) := by decide +kernel
theorem dX3_swapRows_62 : decode cX3_swapRows 62 = .ok (.aload_n 0, 1) := by decide +kernel
theorem dX3_swapRows_63 : decode cX3_swapRows 63 = .ok (.bipush 10, 2) := by decide +kernel
theorem dX3_swapRows_65 : decode cX3_swapRows 65 = .ok (.iload_n 1, 1) := by decide +kernel
theorem dX3_swapRows_66 : decode cX3_swapRows 66 = .ok (.iadd, 1) := by decide +kernel
theorem dX3_swapRows_67 : decode cX3_swapRows 67 = .ok (.iload 4, 2) := by decide +kernel
theorem dX3_swapRows_69 : decode cX3_swapRows 69 = .ok (.invokevirtual 19, 3) := by decide +kernel
theorem dX3_swapRows_72 : decode cX3_swapRows 72 = .ok (.aload_n 0, 1) := by decide +kernel
theorem dX3_swapRows_73 : decode cX3_swapRows 73 = .ok (.bipush 10, 2) := by decide +kernel
theorem dX3_swapRows_75 : decode cX3_swapRows 75 = .ok (.iload_n 2, 1) := by decide +kernel
theorem dX3_swapRows_76 : decode cX3_swapRows 76 = .ok (.iadd, 1) := by decide +kernel
theorem dX3_swapRows_77 : decode cX3_swapRows 77 = .ok (.iload_n 3, 1) := by decide +kernel
theorem dX3_swapRows_78 : decode cX3_swapRows 78 = .ok (.invokevirtual 19, 3) := by decide +kernel
theorem dX3_swapRows_81 : decode cX3_swapRows 81 = .ok (.aload_n 0, 1) := by decide +kernel
theorem dX3_swapRows_82 : decode cX3_swapRows 82 = .ok (.bipush 19, 2) := by decide +kernel
theorem dX3_swapRows_84 : decode cX3_swapRows 84 = .ok (.iload 4, 2) := by decide +kernel
theorem dX3_swapRows_86 : decode cX3_swapRows 86 = .ok (.iadd, 1) := by decide +kernel
theorem dX3_swapRows_87 : decode cX3_swapRows 87 = .ok (.iload_n 1, 1) := by decide +kernel
theorem dX3_swapRows_88 : decode cX3_swapRows 88 = .ok (.invokevirtual 19, 3) := by decide +kernel
theorem dX3_swapRows_91 : decode cX3_swapRows 91 = .ok (.aload_n 0, 1) := by decide +kernel
theorem dX3_swapRows_92 : decode cX3_swapRows 92 = .ok (.bipush 19, 2) := by decide +kernel
theorem dX3_swapRows_94 : decode cX3_swapRows 94 = .ok (.iload_n 3, 1) := by decide +kernel
theorem dX3_swapRows_95 : decode cX3_swapRows 95 = .ok (.iadd, 1) := by decide +kernel
theorem dX3_swapRows_96 : decode cX3_swapRows 96 = .ok (.iload_n 2, 1) := by decide +kernel
theorem dX3_swapRows_97 : decode cX3_swapRows 97 = .ok (.invokevirtual 19, 3) := by decide +kernel
theorem dX3_swapRows_100 : decode cX3_swapRows 100 = .ok (.iload_n 3, 1) := by decide +kernel
theorem dX3_swapRows_101 : decode cX3_swapRows 101 = .ok (.iload 4, 2) := by decide +kernel
theorem dX3_swapRows_103 : decode cX3_swapRows 103 = .ok (.isub, 1) := by decide +kernel
theorem dX3_swapRows_104 : decode cX3_swapRows 104 = .ok (.invokestatic 82, 3) := by decide +kernel
theorem dX3_swapRows_107 : decode cX3_swapRows 107 = .ok (.istore 5, 2) := by decide +kernel
theorem dX3_swapRows_109 : decode cX3_swapRows 109 = .ok (.iload 5, 2) := by decide +kernel
theorem dX3_swapRows_111 : decode cX3_swapRows 111 = .ok (.aload_n 0, 1) := by decide +kernel
theorem dX3_swapRows_112 : decode cX3_swapRows 112 = .ok (.iconst 1, 1) := by decide +kernel
theorem dX3_swapRows_113 : decode cX3_swapRows 113 = .ok (.invokevirtual 15, 3) := by decide +kernel
theorem dX3_swapRows_116 : decode cX3_swapRows 116 = .ok (.iload 5, 2) := by decide +kernel
theorem dX3_swapRows_118 : decode cX3_swapRows 118 = .ok (.isub, 1) := by decide +kernel
theorem dX3_swapRows_119 : decode cX3_swapRows 119 = .ok (.invokestatic 87, 3) := by decide +kernel
theorem dX3_swapRows_122 : decode cX3_swapRows 122 = .ok (.ireturn, 1) := by decide +kernel
set_option maxRecDepth 20000 in
theorem ggX3_layAnew_X3_hasRow : GoodIn wsX3_layAnew wsX3_hasRow := goodIn_r _ [7, 8, 9, 10, 6, 11, 12, 58] (by decide +kernel) (by decide +kernel)
set_option maxRecDepth 20000 in
theorem gX3_layAnew_X3_hasRow : GoodIn wsX3_layAnew (wsV RX3 59 RX3 yX3_hasRow wsX3_hasRow) := goodIn_app (goodIn_of _ (by decide +kernel)) ggX3_layAnew_X3_hasRow
set_option maxRecDepth 20000 in
theorem ggX3_layAnew_X3_lives : GoodIn wsX3_layAnew wsX3_lives := goodIn_r _ [16, 8, 9, 10, 6, 11, 12, 58] (by decide +kernel) (by decide +kernel)
set_option maxRecDepth 20000 in
theorem gX3_layAnew_X3_lives : GoodIn wsX3_layAnew (wsV RX3 65 RX3 yX3_lives wsX3_lives) := goodIn_app (goodIn_of _ (by decide +kernel)) ggX3_layAnew_X3_lives
set_option maxRecDepth 20000 in
theorem ggX3_layAnew_X3_layRow : GoodIn wsX3_layAnew wsX3_layRow := goodIn_r _ [20, 13, 14, 15, 6, 16, 8, 9, 10, 11, 12, 21, 22, 23, 24, 25, 26, 27, 28, 29, 30, 31, 32, 33, 34, 35, 36, 37, 38, 39, 40, 41, 42, 43, 44, 45, 46, 47, 48, 49, 50, 51, 52, 53, 54, 55, 56, 57, 58] (by decide +kernel) (by decide +kernel)
set_option maxRecDepth 20000 in
theorem gX3_layAnew_X3_layRow : GoodIn wsX3_layAnew (wsV RX3 56 RX3 yX3_layRow wsX3_layRow) := goodIn_app (goodIn_of _ (by decide +kernel)) ggX3_layAnew_X3_layRow
theorem dX3_layAnew_0 : decode cX3_layAnew 0 = .ok (.aload_n 0, 1) := by decide +kernel
theorem dX3_layAnew_1 : decode cX3_layAnew 1 = .ok (.iload_n 1, 1) := by decide +kernel
theorem dX3_layAnew_2 : decode cX3_layAnew 2 = .ok (.invokevirtual 59, 3) := by decide +kernel
theorem dX3_layAnew_5 : decode cX3_layAnew 5 = .ok (.ifCond .ne 6, 3) := by decide +kernel
theorem dX3_layAnew_8 : decode cX3_layAnew 8 = .ok (.ldc 52, 2) := by decide +kernel
theorem dX3_layAnew_10 : decode cX3_layAnew 10 = .ok (.ireturn, 1) := by decide +kernel
theorem dX3_layAnew_11 : decode cX3_layAnew 11 = .ok (.aload_n 0, 1) := by decide +kernel
theorem dX3_layAnew_12 : decode cX3_layAnew 12 = .ok (.iload_n 1, 1) := by decide +kernel
theorem dX3_layAnew_13 : decode cX3_layAnew 13 = .ok (.invokevirtual 65, 3) := by decide +kernel
theorem dX3_layAnew_16 : decode cX3_layAnew 16 = .ok (.ifCond .eq 11, 3) := by decide +kernel
theorem dX3_layAnew_19 : decode cX3_layAnew 19 = .ok (.aload_n 0, 1) := by decide +kernel
theorem dX3_layAnew_20 : decode cX3_layAnew 20 = .ok (.iload_n 1, 1) := by decide +kernel
theorem dX3_layAnew_21 : decode cX3_layAnew 21 = .ok (.invokevirtual 56, 3) := by decide +kernel
theorem dX3_layAnew_24 : decode cX3_layAnew 24 = .ok (.goto 5, 3) := by decide +kernel
theorem dX3_layAnew_27 : decode cX3_layAnew 27 = .ok (.ldc 68, 2) := by decide +kernel
theorem dX3_layAnew_29 : decode cX3_layAnew 29 = .ok (.ireturn, 1) := by decide +kernel
set_option maxRecDepth 20000 in
theorem ggX3_layRow_X3_lives : GoodIn wsX3_layRow wsX3_lives := goodIn_r _ [5, 6, 7, 8, 4, 9, 10, 48] (by decide +kernel) (by decide +kernel)
set_option maxRecDepth 20000 in
theorem gX3_layRow_X3_lives : GoodIn wsX3_layRow (wsV RX3 65 RX3 yX3_lives wsX3_lives) := goodIn_app (goodIn_of _ (by decide +kernel)) ggX3_layRow_X3_lives
set_option maxRecDepth 20000 in
theorem ggX3_layRow_X3_neighbour : GoodIn wsX3_layRow wsX3_neighbour := goodIn_r _ [14, 6, 7, 8, 4, 9, 10, 48] (by decide +kernel) (by decide +kernel)
set_option maxRecDepth 20000 in
theorem gX3_layRow_X3_neighbour : GoodIn wsX3_layRow (wsV RX3 35 RX3 yX3_neighbour wsX3_neighbour) := goodIn_app (goodIn_of _ (by decide +kernel)) ggX3_layRow_X3_neighbour
set_option maxRecDepth 20000 in
theorem ggX3_layRow_X3_stepToHolder : GoodIn wsX3_layRow wsX3_stepToHolder := goodIn_r _ [17] (by decide +kernel) (by decide +kernel)
set_option maxRecDepth 20000 in
theorem gX3_layRow_X3_stepToHolder : GoodIn wsX3_layRow (va_wsS RX3 32 yX3_stepToHolder wsX3_stepToHolder) := goodIn_app (goodIn_of _ (by decide +kernel)) ggX3_layRow_X3_stepToHolder
set_option maxRecDepth 20000 in
theorem ggX3_layRow_X3_layEcho : GoodIn wsX3_layRow wsX3_layEcho := goodIn_r _ [21, 6, 7, 8, 4, 9, 10, 1, 2, 3, 5, 22, 23, 24, 25, 26, 27, 28, 29, 30, 31, 32, 33, 34, 35, 36, 37, 38, 39, 40, 41, 42, 43, 44, 45, 46, 47, 48] (by decide +kernel) (by decide +kernel)
set_option maxRecDepth 20000 in
theorem gX3_layRow_X3_layEcho : GoodIn wsX3_layRow (wsV RX3 72 RX3 yX3_layEcho wsX3_layEcho) := goodIn_app (goodIn_of _ (by decide +kernel)) ggX3_layRow_X3_layEcho
theorem dX3_layRow_0 : decode cX3_layRow 0 = .ok (.aload_n 0, 1) := by decide +kernel
theorem dX3_layRow_1 : decode cX3_layRow 1 = .ok (.iload_n 1, 1) := by decide +kernel
theorem dX3_layRow_2 : decode cX3_layRow 2 = .ok (.invokevirtual 65, 3) := by decide +kernel
theorem dX3_layRow_5 : decode cX3_layRow 5 = .ok (.ifCond .ne 5, 3) := by decide +kernel
theorem dX3_layRow_8 : decode cX3_layRow 8 = .ok (.iconst 0, 1) := by decide +kernel
theorem dX3_layRow_9 : decode cX3_layRow 9 = .ok (.ireturn, 1) := by decide +kernel
theorem dX3_layRow_10 : decode cX3_layRow 10 = .ok (.aload_n 0, 1) := by decide +kernel
theorem dX3_layRow_11 : decode cX3_layRow 11 = .ok (.iload_n 1, 1) := by decide +kernel
theorem dX3_layRow_12 : decode cX3_layRow 12 = .ok (.iconst (-1), 1) := by decide +kernel
theorem dX3_layRow_13 : decode cX3_layRow 13 = .ok (.invokevirtual 35, 3) := by decide +kernel
theorem dX3_layRow_16 : decode cX3_layRow 16 = .ok (.istore_n 2, 1) := by decide +kernel
theorem dX3_layRow_17 : decode cX3_layRow 17 = .ok (.aload_n 0, 1) := by decide +kernel
theorem dX3_layRow_18 : decode cX3_layRow 18 = .ok (.iload_n 1, 1) := by decide +kernel
theorem dX3_layRow_19 : decode cX3_layRow 19 = .ok (.iconst 1, 1) := by decide +kernel
theorem dX3_layRow_20 : decode cX3_layRow 20 = .ok (.invokevirtual 35, 3) := by decide +kernel
theorem dX3_layRow_23 : decode cX3_layRow 23 = .ok (.istore_n 3, 1) := by decide +kernel
theorem dX3_layRow_24 : decode cX3_layRow 24 = .ok (.iconst 0, 1) := by decide +kernel
theorem dX3_layRow_25 : decode cX3_layRow 25 = .ok (.istore 4, 2) := by decide +kernel
theorem dX3_layRow_27 : decode cX3_layRow 27 = .ok (.iconst 0, 1) := by decide +kernel
theorem dX3_layRow_28 : decode cX3_layRow 28 = .ok (.istore 5, 2) := by decide +kernel
theorem dX3_layRow_30 : decode cX3_layRow 30 = .ok (.iload 5, 2) := by decide +kernel
theorem dX3_layRow_32 : decode cX3_layRow 32 = .ok (.bipush 8, 2) := by decide +kernel
theorem dX3_layRow_34 : decode cX3_layRow 34 = .ok (.if_icmp .ge 35, 3) := by decide +kernel
theorem dX3_layRow_37 : decode cX3_layRow 37 = .ok (.iload 4, 2) := by decide +kernel
theorem dX3_layRow_39 : decode cX3_layRow 39 = .ok (.aload_n 0, 1) := by decide +kernel
theorem dX3_layRow_40 : decode cX3_layRow 40 = .ok (.iload_n 1, 1) := by decide +kernel
theorem dX3_layRow_41 : decode cX3_layRow 41 = .ok (.iload 5, 2) := by decide +kernel
theorem dX3_layRow_43 : decode cX3_layRow 43 = .ok (.iload 5, 2) := by decide +kernel
theorem dX3_layRow_45 : decode cX3_layRow 45 = .ok (.invokestatic 32, 3) := by decide +kernel
theorem dX3_layRow_48 : decode cX3_layRow 48 = .ok (.iconst (-1), 1) := by decide +kernel
theorem dX3_layRow_49 : decode cX3_layRow 49 = .ok (.if_icmp .ne 7, 3) := by decide +kernel
theorem dX3_layRow_52 : decode cX3_layRow 52 = .ok (.iload_n 2, 1) := by decide +kernel
theorem dX3_layRow_53 : decode cX3_layRow 53 = .ok (.goto 4, 3) := by decide +kernel
theorem dX3_layRow_56 : decode cX3_layRow 56 = .ok (.iload_n 3, 1) := by decide +kernel
theorem dX3_layRow_57 : decode cX3_layRow 57 = .ok (.invokevirtual 72, 3) := by decide +kernel
theorem dX3_layRow_60 : decode cX3_layRow 60 = .ok (.iadd, 1) := by decide +kernel
theorem dX3_layRow_61 : decode cX3_layRow 61 = .ok (.istore 4, 2) := by decide +kernel
theorem dX3_layRow_63 : decode cX3_layRow 63 = .ok (.iinc 5 1, 3) := by decide +kernel
theorem dX3_layRow_66 : decode cX3_layRow 66 = .ok (.goto (-36), 3) := by decide +kernel
theorem dX3_layRow_69 : decode cX3_layRow 69 = .ok (.iload 4, 2) := by decide +kernel
theorem dX3_layRow_71 : decode cX3_layRow 71 = .ok (.ireturn, 1) := by decide +kernel
set_option maxRecDepth 20000 in
theorem ggX3_layEcho_X3_get : GoodIn wsX3_layEcho wsX3_get := goodIn_r _ [5, 6, 37] (by decide +kernel) (by decide +kernel)
set_option maxRecDepth 20000 in
theorem gX3_layEcho_X3_get : GoodIn wsX3_layEcho (wsV RX3 15 RX3 yX3_get wsX3_get) := goodIn_app (goodIn_of _ (by decide +kernel)) ggX3_layEcho_X3_get
set_option maxRecDepth 20000 in
theorem ggX3_layEcho_X3_lives : GoodIn wsX3_layEcho wsX3_lives := goodIn_r _ [10, 1, 2, 3, 4, 5, 6, 37] (by decide +kernel) (by decide +kernel)
set_option maxRecDepth 20000 in
theorem gX3_layEcho_X3_lives : GoodIn wsX3_layEcho (wsV RX3 65 RX3 yX3_lives wsX3_lives) := goodIn_app (goodIn_of _ (by decide +kernel)) ggX3_layEcho_X3_lives
set_option maxRecDepth 20000 in
theorem ggX3_layEcho_X3_removeEcho : GoodIn wsX3_layEcho wsX3_removeEcho := goodIn_r _ [14, 1, 2, 3, 4, 5, 6, 15, 16, 17, 18, 19, 20, 21, 37] (by decide +kernel) (by decide +kernel)
set_option maxRecDepth 20000 in
theorem gX3_layEcho_X3_removeEcho : GoodIn wsX3_layEcho (wsV RX3 90 RX3 yX3_removeEcho wsX3_removeEcho) := goodIn_app (goodIn_of _ (by decide +kernel)) ggX3_layEcho_X3_removeEcho
set_option maxRecDepth 20000 in
theorem ggX3_layEcho_X3_dropFirst : GoodIn wsX3_layEcho wsX3_dropFirst := goodIn_r _ [25, 26, 27, 28, 29, 1, 2, 3, 4, 5, 6, 18, 19, 20, 21, 37] (by decide +kernel) (by decide +kernel)
set_option maxRecDepth 20000 in
theorem gX3_layEcho_X3_dropFirst : GoodIn wsX3_layEcho (wsV RX3 93 RX3 yX3_dropFirst wsX3_dropFirst) := goodIn_app (goodIn_of _ (by decide +kernel)) ggX3_layEcho_X3_dropFirst
set_option maxRecDepth 20000 in
theorem ggX3_layEcho_X3_add : GoodIn wsX3_layEcho wsX3_add := goodIn_r _ [33, 1, 2, 3, 4, 5, 6, 18, 19, 20, 21, 37] (by decide +kernel) (by decide +kernel)
set_option maxRecDepth 20000 in
theorem gX3_layEcho_X3_add : GoodIn wsX3_layEcho (wsV RX3 69 RX3 yX3_add wsX3_add) := goodIn_app (goodIn_of _ (by decide +kernel)) ggX3_layEcho_X3_add
set_option maxRecDepth 20000 in
theorem ggX3_layEcho_X3_echo : GoodIn wsX3_layEcho wsX3_echo := goodIn_r _ [36] (by decide +kernel) (by decide +kernel)
set_option maxRecDepth 20000 in
theorem gX3_layEcho_X3_echo : GoodIn wsX3_layEcho (va_wsS RX3 96 yX3_echo wsX3_echo) := goodIn_app (goodIn_of _ (by decide +kernel)) ggX3_layEcho_X3_echo
set_option maxRecDepth 20000 in
theorem ggX3_layEcho_X3_put : GoodIn wsX3_layEcho wsX3_put := goodIn_r _ [21, 6, 37] (by decide +kernel) (by decide +kernel)
set_option maxRecDepth 20000 in
theorem gX3_layEcho_X3_put : GoodIn wsX3_layEcho (wsV RX3 19 RX3 yX3_put wsX3_put) := goodIn_app (goodIn_of _ (by decide +kernel)) ggX3_layEcho_X3_put
theorem dX3_layEcho_0 : decode cX3_layEcho 0 = .ok (.iload_n 1, 1) := by decide +kernel
theorem dX3_layEcho_1 : decode cX3_layEcho 1 = .ok (.bipush 8, 2) := by decide +kernel
theorem dX3_layEcho_3 : decode cX3_layEcho 3 = .ok (.imul, 1) := by decide +kernel
theorem dX3_layEcho_4 : decode cX3_layEcho 4 = .ok (.iload_n 2, 1) := by decide +kernel
theorem dX3_layEcho_5 : decode cX3_layEcho 5 = .ok (.iadd, 1) := by decide +kernel
theorem dX3_layEcho_6 : decode cX3_layEcho 6 = .ok (.istore 4, 2) := by decide +kernel
theorem dX3_layEcho_8 : decode cX3_layEcho 8 = .ok (.aload_n 0, 1) := by decide +kernel
theorem dX3_layEcho_9 : decode cX3_layEcho 9 = .ok (.bipush 64, 2) := by decide +kernel
theorem dX3_layEcho_11 : decode cX3_layEcho 11 = .ok (.iload 4, 2) := by decide +kernel
theorem dX3_layEcho_13 : decode cX3_layEcho 13 = .ok (.iadd, 1) := by decide +kernel
theorem dX3_layEcho_14 : decode cX3_layEcho 14 = .ok (.invokevirtual 15, 3) := by decide +kernel
theorem dX3_layEcho_17 : decode cX3_layEcho 17 = .ok (.istore 5, 2) := by decide +kernel
theorem dX3_layEcho_19 : decode cX3_layEcho 19 = .ok (.iload 5, 2) := by decide +kernel
theorem dX3_layEcho_21 : decode cX3_layEcho 21 = .ok (.iconst (-1), 1) := by decide +kernel
theorem dX3_layEcho_22 : decode cX3_layEcho 22 = .ok (.if_icmp .eq 11, 3) := by decide +kernel
theorem dX3_layEcho_25 : decode cX3_layEcho 25 = .ok (.aload_n 0, 1) := by decide +kernel
theorem dX3_layEcho_26 : decode cX3_layEcho 26 = .ok (.iload_n 3, 1) := by decide +kernel
theorem dX3_layEcho_27 : decode cX3_layEcho 27 = .ok (.invokevirtual 65, 3) := by decide +kernel
theorem dX3_layEcho_30 : decode cX3_layEcho 30 = .ok (.ifCond .ne 5, 3) := by decide +kernel
theorem dX3_layEcho_33 : decode cX3_layEcho 33 = .ok (.iconst 0, 1) := by decide +kernel
theorem dX3_layEcho_34 : decode cX3_layEcho 34 = .ok (.ireturn, 1) := by decide +kernel
theorem dX3_layEcho_35 : decode cX3_layEcho 35 = .ok (.aload_n 0, 1) := by decide +kernel
theorem dX3_layEcho_36 : decode cX3_layEcho 36 = .ok (.iload_n 3, 1) := by decide +kernel
theorem dX3_layEcho_37 : decode cX3_layEcho 37 = .ok (.iload 4, 2) := by decide +kernel
theorem dX3_layEcho_39 : decode cX3_layEcho 39 = .ok (.invokevirtual 90, 3) := by decide +kernel
theorem dX3_layEcho_42 : decode cX3_layEcho 42 = .ok (.aload_n 0, 1) := by decide +kernel
theorem dX3_layEcho_43 : decode cX3_layEcho 43 = .ok (.bipush 55, 2) := by decide +kernel
theorem dX3_layEcho_45 : decode cX3_layEcho 45 = .ok (.iload_n 3, 1) := by decide +kernel
theorem dX3_layEcho_46 : decode cX3_layEcho 46 = .ok (.iadd, 1) := by decide +kernel
theorem dX3_layEcho_47 : decode cX3_layEcho 47 = .ok (.invokevirtual 15, 3) := by decide +kernel
theorem dX3_layEcho_50 : decode cX3_layEcho 50 = .ok (.iconst 1, 1) := by decide +kernel
theorem dX3_layEcho_51 : decode cX3_layEcho 51 = .ok (.iadd, 1) := by decide +kernel
theorem dX3_layEcho_52 : decode cX3_layEcho 52 = .ok (.aload_n 0, 1) := by decide +kernel
theorem dX3_layEcho_53 : decode cX3_layEcho 53 = .ok (.iconst 2, 1) := by decide +kernel
theorem dX3_layEcho_54 : decode cX3_layEcho 54 = .ok (.invokevirtual 15, 3) := by decide +kernel
theorem dX3_layEcho_57 : decode cX3_layEcho 57 = .ok (.isub, 1) := by decide +kernel
theorem dX3_layEcho_58 : decode cX3_layEcho 58 = .ok (.istore 6, 2) := by decide +kernel
theorem dX3_layEcho_60 : decode cX3_layEcho 60 = .ok (.iload 6, 2) := by decide +kernel
theorem dX3_layEcho_62 : decode cX3_layEcho 62 = .ok (.ifCond .le 20, 3) := by decide +kernel
theorem dX3_layEcho_65 : decode cX3_layEcho 65 = .ok (.aload_n 0, 1) := by decide +kernel
theorem dX3_layEcho_66 : decode cX3_layEcho 66 = .ok (.iload_n 3, 1) := by decide +kernel
theorem dX3_layEcho_67 : decode cX3_layEcho 67 = .ok (.iload 6, 2) := by decide +kernel
theorem dX3_layEcho_69 : decode cX3_layEcho 69 = .ok (.invokevirtual 93, 3) := by decide +kernel
theorem dX3_layEcho_72 : decode cX3_layEcho 72 = .ok (.aload_n 0, 1) := by decide +kernel
theorem dX3_layEcho_73 : decode cX3_layEcho 73 = .ok (.bipush 46, 2) := by decide +kernel
theorem dX3_layEcho_75 : decode cX3_layEcho 75 = .ok (.iload_n 3, 1) := by decide +kernel
theorem dX3_layEcho_76 : decode cX3_layEcho 76 = .ok (.iadd, 1) := by decide +kernel
theorem dX3_layEcho_77 : decode cX3_layEcho 77 = .ok (.iload 6, 2) := by decide +kernel
theorem dX3_layEcho_79 : decode cX3_layEcho 79 = .ok (.invokevirtual 69, 3) := by decide +kernel
theorem dX3_layEcho_82 : decode cX3_layEcho 82 = .ok (.aload_n 0, 1) := by decide +kernel
theorem dX3_layEcho_83 : decode cX3_layEcho 83 = .ok (.sipush 208, 3) := by decide +kernel
theorem dX3_layEcho_86 : decode cX3_layEcho 86 = .ok (.iload_n 3, 1) := by decide +kernel
theorem dX3_layEcho_87 : decode cX3_layEcho 87 = .ok (.bipush 16, 2) := by decide +kernel
theorem dX3_layEcho_89 : decode cX3_layEcho 89 = .ok (.imul, 1) := by decide +kernel
theorem dX3_layEcho_90 : decode cX3_layEcho 90 = .ok (.iadd, 1) := by decide +kernel
theorem dX3_layEcho_91 : decode cX3_layEcho 91 = .ok (.aload_n 0, 1) := by decide +kernel
theorem dX3_layEcho_92 : decode cX3_layEcho 92 = .ok (.bipush 55, 2) := by decide +kernel
theorem dX3_layEcho_94 : decode cX3_layEcho 94 = .ok (.iload_n 3, 1) := by decide +kernel
theorem dX3_layEcho_95 : decode cX3_layEcho 95 = .ok (.iadd, 1) := by decide +kernel
theorem dX3_layEcho_96 : decode cX3_layEcho 96 = .ok (.invokevirtual 15, 3) := by decide +kernel
theorem dX3_layEcho_99 : decode cX3_layEcho 99 = .ok (.iadd, 1) := by decide +kernel
theorem dX3_layEcho_100 : decode cX3_layEcho 100 = .ok (.iload 4, 2) := by decide +kernel
theorem dX3_layEcho_102 : decode cX3_layEcho 102 = .ok (.iload 5, 2) := by decide +kernel
theorem dX3_layEcho_104 : decode cX3_layEcho 104 = .ok (.aload_n 0, 1) := by decide +kernel
theorem dX3_layEcho_105 : decode cX3_layEcho 105 = .ok (.iconst 0, 1) := by decide +kernel
theorem dX3_layEcho_106 : decode cX3_layEcho 106 = .ok (.invokevirtual 15, 3) := by decide +kernel
theorem dX3_layEcho_109 : decode cX3_layEcho 109 = .ok (.invokestatic 96, 3) := by decide +kernel
theorem dX3_layEcho_112 : decode cX3_layEcho 112 = .ok (.invokevirtual 19, 3) := by decide +kernel
theorem dX3_layEcho_115 : decode cX3_layEcho 115 = .ok (.aload_n 0, 1) := by decide +kernel
theorem dX3_layEcho_116 : decode cX3_layEcho 116 = .ok (.bipush 55, 2) := by decide +kernel
theorem dX3_layEcho_118 : decode cX3_layEcho 118 = .ok (.iload_n 3, 1) := by decide +kernel
theorem dX3_layEcho_119 : decode cX3_layEcho 119 = .ok (.iadd, 1) := by decide +kernel
theorem dX3_layEcho_120 : decode cX3_layEcho 120 = .ok (.iconst 1, 1) := by decide +kernel
theorem dX3_layEcho_121 : decode cX3_layEcho 121 = .ok (.invokevirtual 69, 3) := by decide +kernel
theorem dX3_layEcho_124 : decode cX3_layEcho 124 = .ok (.aload_n 0, 1) := by decide +kernel
theorem dX3_layEcho_125 : decode cX3_layEcho 125 = .ok (.bipush 9, 2) := by decide +kernel
theorem dX3_layEcho_127 : decode cX3_layEcho 127 = .ok (.iconst 1, 1) := by decide +kernel
theorem dX3_layEcho_128 : decode cX3_layEcho 128 = .ok (.invokevirtual 69, 3) := by decide +kernel
theorem dX3_layEcho_131 : decode cX3_layEcho 131 = .ok (.iconst 1, 1) := by decide +kernel
theorem dX3_layEcho_132 : decode cX3_layEcho 132 = .ok (.ireturn, 1) := by decide +kernel
set_option maxRecDepth 20000 in
theorem ggX3_removeEcho_X3_get : GoodIn wsX3_removeEcho wsX3_get := goodIn_r _ [5, 6, 14] (by decide +kernel) (by decide +kernel)
set_option maxRecDepth 20000 in
theorem gX3_removeEcho_X3_get : GoodIn wsX3_removeEcho (wsV RX3 15 RX3 yX3_get wsX3_get) := goodIn_app (goodIn_of _ (by decide +kernel)) ggX3_removeEcho_X3_get
set_option maxRecDepth 20000 in
theorem ggX3_removeEcho_X3_ownerOf : GoodIn wsX3_removeEcho wsX3_ownerOf := goodIn_r _ [9] (by decide +kernel) (by decide +kernel)
set_option maxRecDepth 20000 in
theorem gX3_removeEcho_X3_ownerOf : GoodIn wsX3_removeEcho (va_wsS RX3 39 yX3_ownerOf wsX3_ownerOf) := goodIn_app (goodIn_of _ (by decide +kernel)) ggX3_removeEcho_X3_ownerOf
set_option maxRecDepth 20000 in
theorem ggX3_removeEcho_X3_put : GoodIn wsX3_removeEcho wsX3_put := goodIn_r _ [13, 6, 14] (by decide +kernel) (by decide +kernel)
set_option maxRecDepth 20000 in
theorem gX3_removeEcho_X3_put : GoodIn wsX3_removeEcho (wsV RX3 19 RX3 yX3_put wsX3_put) := goodIn_app (goodIn_of _ (by decide +kernel)) ggX3_removeEcho_X3_put
theorem dX3_removeEcho_0 : decode cX3_removeEcho 0 = .ok (.sipush 208, 3) := by decide +kernel
theorem dX3_removeEcho_3 : decode cX3_removeEcho 3 = .ok (.iload_n 1, 1) := by decide +kernel
theorem dX3_removeEcho_4 : decode cX3_removeEcho 4 = .ok (.bipush 16, 2) := by decide +kernel
theorem dX3_removeEcho_6 : decode cX3_removeEcho 6 = .ok (.imul, 1) := by decide +kernel
theorem dX3_removeEcho_7 : decode cX3_removeEcho 7 = .ok (.iadd, 1) := by decide +kernel
theorem dX3_removeEcho_8 : decode cX3_removeEcho 8 = .ok (.istore_n 3, 1) := by decide +kernel
theorem dX3_removeEcho_9 : decode cX3_removeEcho 9 = .ok (.aload_n 0, 1) := by decide +kernel
theorem dX3_removeEcho_10 : decode cX3_removeEcho 10 = .ok (.bipush 55, 2) := by decide +kernel
theorem dX3_removeEcho_12 : decode cX3_removeEcho 12 = .ok (.iload_n 1, 1) := by decide +kernel
theorem dX3_removeEcho_13 : decode cX3_removeEcho 13 = .ok (.iadd, 1) := by decide +kernel
theorem dX3_removeEcho_14 : decode cX3_removeEcho 14 = .ok (.invokevirtual 15, 3) := by decide +kernel
theorem dX3_removeEcho_17 : decode cX3_removeEcho 17 = .ok (.istore 4, 2) := by decide +kernel
theorem dX3_removeEcho_19 : decode cX3_removeEcho 19 = .ok (.iconst 0, 1) := by decide +kernel
theorem dX3_removeEcho_20 : decode cX3_removeEcho 20 = .ok (.istore 5, 2) := by decide +kernel
theorem dX3_removeEcho_22 : decode cX3_removeEcho 22 = .ok (.iconst 0, 1) := by decide +kernel
theorem dX3_removeEcho_23 : decode cX3_removeEcho 23 = .ok (.istore 6, 2) := by decide +kernel
theorem dX3_removeEcho_25 : decode cX3_removeEcho 25 = .ok (.iload 6, 2) := by decide +kernel
theorem dX3_removeEcho_27 : decode cX3_removeEcho 27 = .ok (.iload 4, 2) := by decide +kernel
theorem dX3_removeEcho_29 : decode cX3_removeEcho 29 = .ok (.if_icmp .ge 41, 3) := by decide +kernel
theorem dX3_removeEcho_32 : decode cX3_removeEcho 32 = .ok (.aload_n 0, 1) := by decide +kernel
theorem dX3_removeEcho_33 : decode cX3_removeEcho 33 = .ok (.iload_n 3, 1) := by decide +kernel
theorem dX3_removeEcho_34 : decode cX3_removeEcho 34 = .ok (.iload 6, 2) := by decide +kernel
theorem dX3_removeEcho_36 : decode cX3_removeEcho 36 = .ok (.iadd, 1) := by decide +kernel
theorem dX3_removeEcho_37 : decode cX3_removeEcho 37 = .ok (.invokevirtual 15, 3) := by decide +kernel
theorem dX3_removeEcho_40 : decode cX3_removeEcho 40 = .ok (.istore 7, 2) := by decide +kernel
theorem dX3_removeEcho_42 : decode cX3_removeEcho 42 = .ok (.iload 7, 2) := by decide +kernel
theorem dX3_removeEcho_44 : decode cX3_removeEcho 44 = .ok (.invokestatic 39, 3) := by decide +kernel
theorem dX3_removeEcho_47 : decode cX3_removeEcho 47 = .ok (.iload_n 2, 1) := by decide +kernel
theorem dX3_removeEcho_48 : decode cX3_removeEcho 48 = .ok (.if_icmp .eq 16, 3) := by decide +kernel
theorem dX3_removeEcho_51 : decode cX3_removeEcho 51 = .ok (.aload_n 0, 1) := by decide +kernel
theorem dX3_removeEcho_52 : decode cX3_removeEcho 52 = .ok (.iload_n 3, 1) := by decide +kernel
theorem dX3_removeEcho_53 : decode cX3_removeEcho 53 = .ok (.iload 5, 2) := by decide +kernel
theorem dX3_removeEcho_55 : decode cX3_removeEcho 55 = .ok (.iadd, 1) := by decide +kernel
theorem dX3_removeEcho_56 : decode cX3_removeEcho 56 = .ok (.iload 7, 2) := by decide +kernel
theorem dX3_removeEcho_58 : decode cX3_removeEcho 58 = .ok (.invokevirtual 19, 3) := by decide +kernel
theorem dX3_removeEcho_61 : decode cX3_removeEcho 61 = .ok (.iinc 5 1, 3) := by decide +kernel
theorem dX3_removeEcho_64 : decode cX3_removeEcho 64 = .ok (.iinc 6 1, 3) := by decide +kernel
theorem dX3_removeEcho_67 : decode cX3_removeEcho 67 = .ok (.goto (-42), 3) := by decide +kernel
theorem dX3_removeEcho_70 : decode cX3_removeEcho 70 = .ok (.aload_n 0, 1) := by decide +kernel
theorem dX3_removeEcho_71 : decode cX3_removeEcho 71 = .ok (.bipush 55, 2) := by decide +kernel
theorem dX3_removeEcho_73 : decode cX3_removeEcho 73 = .ok (.iload_n 1, 1) := by decide +kernel
theorem dX3_removeEcho_74 : decode cX3_removeEcho 74 = .ok (.iadd, 1) := by decide +kernel
theorem dX3_removeEcho_75 : decode cX3_removeEcho 75 = .ok (.iload 5, 2) := by decide +kernel
theorem dX3_removeEcho_77 : decode cX3_removeEcho 77 = .ok (.invokevirtual 19, 3) := by decide +kernel
theorem dX3_removeEcho_80 : decode cX3_removeEcho 80 = .ok (.return_, 1) := by decide +kernel
set_option maxRecDepth 20000 in
theorem ggX3_dropFirst_X3_get : GoodIn wsX3_dropFirst wsX3_get := goodIn_r _ [9, 10, 15] (by decide +kernel) (by decide +kernel)
set_option maxRecDepth 20000 in
theorem gX3_dropFirst_X3_get : GoodIn wsX3_dropFirst (wsV RX3 15 RX3 yX3_get wsX3_get) := goodIn_app (goodIn_of _ (by decide +kernel)) ggX3_dropFirst_X3_get
set_option maxRecDepth 20000 in
theorem ggX3_dropFirst_X3_put : GoodIn wsX3_dropFirst wsX3_put := goodIn_r _ [14, 10, 15] (by decide +kernel) (by decide +kernel)
set_option maxRecDepth 20000 in
theorem gX3_dropFirst_X3_put : GoodIn wsX3_dropFirst (wsV RX3 19 RX3 yX3_put wsX3_put) := goodIn_app (goodIn_of _ (by decide +kernel)) ggX3_dropFirst_X3_put
theorem dX3_dropFirst_0 : decode cX3_dropFirst 0 = .ok (.sipush 208, 3) := by decide +kernel
theorem dX3_dropFirst_3 : decode cX3_dropFirst 3 = .ok (.iload_n 1, 1) := by decide +kernel
theorem dX3_dropFirst_4 : decode cX3_dropFirst 4 = .ok (.bipush 16, 2) := by decide +kernel
theorem dX3_dropFirst_6 : decode cX3_dropFirst 6 = .ok (.imul, 1) := by decide +kernel
theorem dX3_dropFirst_7 : decode cX3_dropFirst 7 = .ok (.iadd, 1) := by decide +kernel
theorem dX3_dropFirst_8 : decode cX3_dropFirst 8 = .ok (.istore_n 3, 1) := by decide +kernel
theorem dX3_dropFirst_9 : decode cX3_dropFirst 9 = .ok (.iconst 0, 1) := by decide +kernel
theorem dX3_dropFirst_10 : decode cX3_dropFirst 10 = .ok (.aload_n 0, 1) := by decide +kernel
theorem dX3_dropFirst_11 : decode cX3_dropFirst 11 = .ok (.bipush 55, 2) := by decide +kernel
theorem dX3_dropFirst_13 : decode cX3_dropFirst 13 = .ok (.iload_n 1, 1) := by decide +kernel
theorem dX3_dropFirst_14 : decode cX3_dropFirst 14 = .ok (.iadd, 1) := by decide +kernel
theorem dX3_dropFirst_15 : decode cX3_dropFirst 15 = .ok (.invokevirtual 15, 3) := by decide +kernel
theorem dX3_dropFirst_18 : decode cX3_dropFirst 18 = .ok (.iload_n 2, 1) := by decide +kernel
theorem dX3_dropFirst_19 : decode cX3_dropFirst 19 = .ok (.isub, 1) := by decide +kernel
theorem dX3_dropFirst_20 : decode cX3_dropFirst 20 = .ok (.invokestatic 99, 3) := by decide +kernel
theorem dX3_dropFirst_23 : decode cX3_dropFirst 23 = .ok (.istore 4, 2) := by decide +kernel
theorem dX3_dropFirst_25 : decode cX3_dropFirst 25 = .ok (.iconst 0, 1) := by decide +kernel
theorem dX3_dropFirst_26 : decode cX3_dropFirst 26 = .ok (.istore 5, 2) := by decide +kernel
theorem dX3_dropFirst_28 : decode cX3_dropFirst 28 = .ok (.iload 5, 2) := by decide +kernel
theorem dX3_dropFirst_30 : decode cX3_dropFirst 30 = .ok (.iload 4, 2) := by decide +kernel
theorem dX3_dropFirst_32 : decode cX3_dropFirst 32 = .ok (.if_icmp .ge 27, 3) := by decide +kernel
theorem dX3_dropFirst_35 : decode cX3_dropFirst 35 = .ok (.aload_n 0, 1) := by decide +kernel
theorem dX3_dropFirst_36 : decode cX3_dropFirst 36 = .ok (.iload_n 3, 1) := by decide +kernel
theorem dX3_dropFirst_37 : decode cX3_dropFirst 37 = .ok (.iload 5, 2) := by decide +kernel
theorem dX3_dropFirst_39 : decode cX3_dropFirst 39 = .ok (.iadd, 1) := by decide +kernel
theorem dX3_dropFirst_40 : decode cX3_dropFirst 40 = .ok (.aload_n 0, 1) := by decide +kernel
theorem dX3_dropFirst_41 : decode cX3_dropFirst 41 = .ok (.iload_n 3, 1) := by decide +kernel
theorem dX3_dropFirst_42 : decode cX3_dropFirst 42 = .ok (.iload 5, 2) := by decide +kernel
theorem dX3_dropFirst_44 : decode cX3_dropFirst 44 = .ok (.iadd, 1) := by decide +kernel
theorem dX3_dropFirst_45 : decode cX3_dropFirst 45 = .ok (.iload_n 2, 1) := by decide +kernel
theorem dX3_dropFirst_46 : decode cX3_dropFirst 46 = .ok (.iadd, 1) := by decide +kernel
theorem dX3_dropFirst_47 : decode cX3_dropFirst 47 = .ok (.invokevirtual 15, 3) := by decide +kernel
theorem dX3_dropFirst_50 : decode cX3_dropFirst 50 = .ok (.invokevirtual 19, 3) := by decide +kernel
theorem dX3_dropFirst_53 : decode cX3_dropFirst 53 = .ok (.iinc 5 1, 3) := by decide +kernel
theorem dX3_dropFirst_56 : decode cX3_dropFirst 56 = .ok (.goto (-28), 3) := by decide +kernel
theorem dX3_dropFirst_59 : decode cX3_dropFirst 59 = .ok (.aload_n 0, 1) := by decide +kernel
theorem dX3_dropFirst_60 : decode cX3_dropFirst 60 = .ok (.bipush 55, 2) := by decide +kernel
theorem dX3_dropFirst_62 : decode cX3_dropFirst 62 = .ok (.iload_n 1, 1) := by decide +kernel
theorem dX3_dropFirst_63 : decode cX3_dropFirst 63 = .ok (.iadd, 1) := by decide +kernel
theorem dX3_dropFirst_64 : decode cX3_dropFirst 64 = .ok (.iload 4, 2) := by decide +kernel
theorem dX3_dropFirst_66 : decode cX3_dropFirst 66 = .ok (.invokevirtual 19, 3) := by decide +kernel
theorem dX3_dropFirst_69 : decode cX3_dropFirst 69 = .ok (.return_, 1) := by decide +kernel
set_option maxRecDepth 20000 in
theorem ggX3_endDays_X3_get : GoodIn wsX3_endDays wsX3_get := goodIn_r _ [7, 8, 17] (by decide +kernel) (by decide +kernel)
set_option maxRecDepth 20000 in
theorem gX3_endDays_X3_get : GoodIn wsX3_endDays (wsV RX3 15 RX3 yX3_get wsX3_get) := goodIn_app (goodIn_of _ (by decide +kernel)) ggX3_endDays_X3_get
set_option maxRecDepth 20000 in
theorem ggX3_endDays_X3_add : GoodIn wsX3_endDays wsX3_add := goodIn_r _ [12, 3, 4, 5, 6, 7, 8, 13, 14, 15, 16, 17] (by decide +kernel) (by decide +kernel)
set_option maxRecDepth 20000 in
theorem gX3_endDays_X3_add : GoodIn wsX3_endDays (wsV RX3 69 RX3 yX3_add wsX3_add) := goodIn_app (goodIn_of _ (by decide +kernel)) ggX3_endDays_X3_add
theorem dX3_endDays_0 : decode cX3_endDays 0 = .ok (.iload_n 1, 1) := by decide +kernel
theorem dX3_endDays_1 : decode cX3_endDays 1 = .ok (.iconst 1, 1) := by decide +kernel
theorem dX3_endDays_2 : decode cX3_endDays 2 = .ok (.if_icmp .lt 9, 3) := by decide +kernel
theorem dX3_endDays_5 : decode cX3_endDays 5 = .ok (.iload_n 1, 1) := by decide +kernel
theorem dX3_endDays_6 : decode cX3_endDays 6 = .ok (.bipush 99, 2) := by decide +kernel
theorem dX3_endDays_8 : decode cX3_endDays 8 = .ok (.if_icmp .le 6, 3) := by decide +kernel
theorem dX3_endDays_11 : decode cX3_endDays 11 = .ok (.ldc 52, 2) := by decide +kernel
theorem dX3_endDays_13 : decode cX3_endDays 13 = .ok (.ireturn, 1) := by decide +kernel
theorem dX3_endDays_14 : decode cX3_endDays 14 = .ok (.aload_n 0, 1) := by decide +kernel
theorem dX3_endDays_15 : decode cX3_endDays 15 = .ok (.iconst 0, 1) := by decide +kernel
theorem dX3_endDays_16 : decode cX3_endDays 16 = .ok (.invokevirtual 15, 3) := by decide +kernel
theorem dX3_endDays_19 : decode cX3_endDays 19 = .ok (.iload_n 1, 1) := by decide +kernel
theorem dX3_endDays_20 : decode cX3_endDays 20 = .ok (.iadd, 1) := by decide +kernel
theorem dX3_endDays_21 : decode cX3_endDays 21 = .ok (.sipush 9999, 3) := by decide +kernel
theorem dX3_endDays_24 : decode cX3_endDays 24 = .ok (.if_icmp .le 6, 3) := by decide +kernel
theorem dX3_endDays_27 : decode cX3_endDays 27 = .ok (.ldc 102, 2) := by decide +kernel
theorem dX3_endDays_29 : decode cX3_endDays 29 = .ok (.ireturn, 1) := by decide +kernel
theorem dX3_endDays_30 : decode cX3_endDays 30 = .ok (.aload_n 0, 1) := by decide +kernel
theorem dX3_endDays_31 : decode cX3_endDays 31 = .ok (.iconst 0, 1) := by decide +kernel
theorem dX3_endDays_32 : decode cX3_endDays 32 = .ok (.iload_n 1, 1) := by decide +kernel
theorem dX3_endDays_33 : decode cX3_endDays 33 = .ok (.invokevirtual 69, 3) := by decide +kernel
theorem dX3_endDays_36 : decode cX3_endDays 36 = .ok (.aload_n 0, 1) := by decide +kernel
theorem dX3_endDays_37 : decode cX3_endDays 37 = .ok (.iconst 0, 1) := by decide +kernel
theorem dX3_endDays_38 : decode cX3_endDays 38 = .ok (.invokevirtual 15, 3) := by decide +kernel
theorem dX3_endDays_41 : decode cX3_endDays 41 = .ok (.ireturn, 1) := by decide +kernel
set_option maxRecDepth 20000 in
theorem ggX3_changeSetting_X3_get : GoodIn wsX3_changeSetting wsX3_get := goodIn_r _ [6, 7, 20] (by decide +kernel) (by decide +kernel)
set_option maxRecDepth 20000 in
theorem gX3_changeSetting_X3_get : GoodIn wsX3_changeSetting (wsV RX3 15 RX3 yX3_get wsX3_get) := goodIn_app (goodIn_of _ (by decide +kernel)) ggX3_changeSetting_X3_get
set_option maxRecDepth 20000 in
theorem ggX3_changeSetting_X3_put : GoodIn wsX3_changeSetting wsX3_put := goodIn_r _ [11, 7, 20] (by decide +kernel) (by decide +kernel)
set_option maxRecDepth 20000 in
theorem gX3_changeSetting_X3_put : GoodIn wsX3_changeSetting (wsV RX3 19 RX3 yX3_put wsX3_put) := goodIn_app (goodIn_of _ (by decide +kernel)) ggX3_changeSetting_X3_put
set_option maxRecDepth 20000 in
theorem ggX3_changeSetting_X3_dropFirst : GoodIn wsX3_changeSetting wsX3_dropFirst := goodIn_r _ [15, 16, 17, 18, 19, 2, 3, 4, 5, 6, 7, 8, 9, 10, 11, 20] (by decide +kernel) (by decide +kernel)
set_option maxRecDepth 20000 in
theorem gX3_changeSetting_X3_dropFirst : GoodIn wsX3_changeSetting (wsV RX3 93 RX3 yX3_dropFirst wsX3_dropFirst) := goodIn_app (goodIn_of _ (by decide +kernel)) ggX3_changeSetting_X3_dropFirst
theorem dX3_changeSetting_0 : decode cX3_changeSetting 0 = .ok (.iload_n 1, 1) := by decide +kernel
theorem dX3_changeSetting_1 : decode cX3_changeSetting 1 = .ok (.ifCond .lt 28, 3) := by decide +kernel
theorem dX3_changeSetting_4 : decode cX3_changeSetting 4 = .ok (.iload_n 1, 1) := by decide +kernel
theorem dX3_changeSetting_5 : decode cX3_changeSetting 5 = .ok (.iconst 1, 1) := by decide +kernel
theorem dX3_changeSetting_6 : decode cX3_changeSetting 6 = .ok (.if_icmp .gt 23, 3) := by decide +kernel
theorem dX3_changeSetting_9 : decode cX3_changeSetting 9 = .ok (.iload_n 2, 1) := by decide +kernel
theorem dX3_changeSetting_10 : decode cX3_changeSetting 10 = .ok (.iconst 1, 1) := by decide +kernel
theorem dX3_changeSetting_11 : decode cX3_changeSetting 11 = .ok (.if_icmp .lt 18, 3) := by decide +kernel
theorem dX3_changeSetting_14 : decode cX3_changeSetting 14 = .ok (.iload_n 2, 1) := by decide +kernel
theorem dX3_changeSetting_15 : decode cX3_changeSetting 15 = .ok (.iload_n 1, 1) := by decide +kernel
theorem dX3_changeSetting_16 : decode cX3_changeSetting 16 = .ok (.ifCond .ne 8, 3) := by decide +kernel
theorem dX3_changeSetting_19 : decode cX3_changeSetting 19 = .ok (.bipush 16, 2) := by decide +kernel
theorem dX3_changeSetting_21 : decode cX3_changeSetting 21 = .ok (.goto 5, 3) := by decide +kernel
theorem dX3_changeSetting_24 : decode cX3_changeSetting 24 = .ok (.bipush 99, 2) := by decide +kernel
theorem dX3_changeSetting_26 : decode cX3_changeSetting 26 = .ok (.if_icmp .le 6, 3) := by decide +kernel
theorem dX3_changeSetting_29 : decode cX3_changeSetting 29 = .ok (.ldc 52, 2) := by decide +kernel
theorem dX3_changeSetting_31 : decode cX3_changeSetting 31 = .ok (.ireturn, 1) := by decide +kernel
theorem dX3_changeSetting_32 : decode cX3_changeSetting 32 = .ok (.aload_n 0, 1) := by decide +kernel
theorem dX3_changeSetting_33 : decode cX3_changeSetting 33 = .ok (.iconst 2, 1) := by decide +kernel
theorem dX3_changeSetting_34 : decode cX3_changeSetting 34 = .ok (.iload_n 1, 1) := by decide +kernel
theorem dX3_changeSetting_35 : decode cX3_changeSetting 35 = .ok (.iadd, 1) := by decide +kernel
theorem dX3_changeSetting_36 : decode cX3_changeSetting 36 = .ok (.invokevirtual 15, 3) := by decide +kernel
theorem dX3_changeSetting_39 : decode cX3_changeSetting 39 = .ok (.istore_n 3, 1) := by decide +kernel
theorem dX3_changeSetting_40 : decode cX3_changeSetting 40 = .ok (.aload_n 0, 1) := by decide +kernel
theorem dX3_changeSetting_41 : decode cX3_changeSetting 41 = .ok (.iconst 2, 1) := by decide +kernel
theorem dX3_changeSetting_42 : decode cX3_changeSetting 42 = .ok (.iload_n 1, 1) := by decide +kernel
theorem dX3_changeSetting_43 : decode cX3_changeSetting 43 = .ok (.iadd, 1) := by decide +kernel
theorem dX3_changeSetting_44 : decode cX3_changeSetting 44 = .ok (.iload_n 2, 1) := by decide +kernel
theorem dX3_changeSetting_45 : decode cX3_changeSetting 45 = .ok (.invokevirtual 19, 3) := by decide +kernel
theorem dX3_changeSetting_48 : decode cX3_changeSetting 48 = .ok (.iconst 0, 1) := by decide +kernel
theorem dX3_changeSetting_49 : decode cX3_changeSetting 49 = .ok (.istore 4, 2) := by decide +kernel
theorem dX3_changeSetting_51 : decode cX3_changeSetting 51 = .ok (.iload 4, 2) := by decide +kernel
theorem dX3_changeSetting_53 : decode cX3_changeSetting 53 = .ok (.aload_n 0, 1) := by decide +kernel
theorem dX3_changeSetting_54 : decode cX3_changeSetting 54 = .ok (.iconst 1, 1) := by decide +kernel
theorem dX3_changeSetting_55 : decode cX3_changeSetting 55 = .ok (.invokevirtual 15, 3) := by decide +kernel
theorem dX3_changeSetting_58 : decode cX3_changeSetting 58 = .ok (.if_icmp .ge 39, 3) := by decide +kernel
theorem dX3_changeSetting_61 : decode cX3_changeSetting 61 = .ok (.aload_n 0, 1) := by decide +kernel
theorem dX3_changeSetting_62 : decode cX3_changeSetting 62 = .ok (.bipush 55, 2) := by decide +kernel
theorem dX3_changeSetting_64 : decode cX3_changeSetting 64 = .ok (.iload 4, 2) := by decide +kernel
theorem dX3_changeSetting_66 : decode cX3_changeSetting 66 = .ok (.iadd, 1) := by decide +kernel
theorem dX3_changeSetting_67 : decode cX3_changeSetting 67 = .ok (.invokevirtual 15, 3) := by decide +kernel
theorem dX3_changeSetting_70 : decode cX3_changeSetting 70 = .ok (.aload_n 0, 1) := by decide +kernel
theorem dX3_changeSetting_71 : decode cX3_changeSetting 71 = .ok (.iconst 2, 1) := by decide +kernel
theorem dX3_changeSetting_72 : decode cX3_changeSetting 72 = .ok (.invokevirtual 15, 3) := by decide +kernel
theorem dX3_changeSetting_75 : decode cX3_changeSetting 75 = .ok (.isub, 1) := by decide +kernel
theorem dX3_changeSetting_76 : decode cX3_changeSetting 76 = .ok (.istore 5, 2) := by decide +kernel
theorem dX3_changeSetting_78 : decode cX3_changeSetting 78 = .ok (.iload 5, 2) := by decide +kernel
theorem dX3_changeSetting_80 : decode cX3_changeSetting 80 = .ok (.ifCond .le 11, 3) := by decide +kernel
theorem dX3_changeSetting_83 : decode cX3_changeSetting 83 = .ok (.aload_n 0, 1) := by decide +kernel
theorem dX3_changeSetting_84 : decode cX3_changeSetting 84 = .ok (.iload 4, 2) := by decide +kernel
theorem dX3_changeSetting_86 : decode cX3_changeSetting 86 = .ok (.iload 5, 2) := by decide +kernel
theorem dX3_changeSetting_88 : decode cX3_changeSetting 88 = .ok (.invokevirtual 93, 3) := by decide +kernel
theorem dX3_changeSetting_91 : decode cX3_changeSetting 91 = .ok (.iinc 4 1, 3) := by decide +kernel
theorem dX3_changeSetting_94 : decode cX3_changeSetting 94 = .ok (.goto (-43), 3) := by decide +kernel
theorem dX3_changeSetting_97 : decode cX3_changeSetting 97 = .ok (.iload_n 3, 1) := by decide +kernel
theorem dX3_changeSetting_98 : decode cX3_changeSetting 98 = .ok (.ireturn, 1) := by decide +kernel
theorem dX4_init_0 : decode cX4_init 0 = .ok (.aload_n 0, 1) := by decide +kernel
theorem dX4_init_1 : decode cX4_init 1 = .ok (.invokespecial 3, 3) := by decide +kernel
theorem dX4_init_4 : decode cX4_init 4 = .ok (.aload_n 0, 1) := by decide +kernel
theorem dX4_init_5 : decode cX4_init 5 = .ok (.aload_n 1, 1) := by decide +kernel
theorem dX4_init_6 : decode cX4_init 6 = .ok (.putfield 9, 3) := by decide +kernel
theorem dX4_init_9 : decode cX4_init 9 = .ok (.return_, 1) := by decide +kernel
set_option maxRecDepth 20000 in
theorem ggX4_ofCell_X3_hasRow : GoodIn wsX4_ofCell wsX3_hasRow := goodIn_r _ [8, 9, 10, 11, 7, 12, 13, 51] (by decide +kernel) (by decide +kernel)
set_option maxRecDepth 20000 in
theorem gX4_ofCell_X3_hasRow : GoodIn wsX4_ofCell (wsV RX4 15 RX3 yX3_hasRow wsX3_hasRow) := goodIn_app (goodIn_of _ (by decide +kernel)) ggX4_ofCell_X3_hasRow
set_option maxRecDepth 20000 in
theorem ggX4_ofCell_X3_isCell : GoodIn wsX4_ofCell wsX3_isCell := goodIn_r _ [16] (by decide +kernel) (by decide +kernel)
set_option maxRecDepth 20000 in
theorem gX4_ofCell_X3_isCell : GoodIn wsX4_ofCell (va_wsS RX4 21 yX3_isCell wsX3_isCell) := goodIn_app (goodIn_of _ (by decide +kernel)) ggX4_ofCell_X3_isCell
set_option maxRecDepth 20000 in
theorem ggX4_ofCell_X3_lives : GoodIn wsX4_ofCell wsX3_lives := goodIn_r _ [20, 9, 10, 11, 7, 12, 13, 51] (by decide +kernel) (by decide +kernel)
set_option maxRecDepth 20000 in
theorem gX4_ofCell_X3_lives : GoodIn wsX4_ofCell (wsV RX4 25 RX3 yX3_lives wsX3_lives) := goodIn_app (goodIn_of _ (by decide +kernel)) ggX4_ofCell_X3_lives
set_option maxRecDepth 20000 in
theorem ggX4_ofCell_X3_get : GoodIn wsX4_ofCell wsX3_get := goodIn_r _ [12, 13, 51] (by decide +kernel) (by decide +kernel)
set_option maxRecDepth 20000 in
theorem gX4_ofCell_X3_get : GoodIn wsX4_ofCell (wsV RX4 28 RX3 yX3_get wsX3_get) := goodIn_app (goodIn_of _ (by decide +kernel)) ggX4_ofCell_X3_get
set_option maxRecDepth 20000 in
theorem ggX4_ofCell_X3_freshEcho : GoodIn wsX4_ofCell wsX3_freshEcho := goodIn_r _ [25, 26, 27, 7, 28, 29, 30, 31, 32, 9, 10, 11, 12, 13, 33, 34, 35, 36, 37, 38, 39, 40, 41, 42, 51] (by decide +kernel) (by decide +kernel)
set_option maxRecDepth 20000 in
theorem gX4_ofCell_X3_freshEcho : GoodIn wsX4_ofCell (wsV RX4 32 RX3 yX3_freshEcho wsX3_freshEcho) := goodIn_app (goodIn_of _ (by decide +kernel)) ggX4_ofCell_X3_freshEcho
set_option maxRecDepth 20000 in
theorem ggX4_ofCell_X3_valueOf : GoodIn wsX4_ofCell wsX3_valueOf := goodIn_r _ [45] (by decide +kernel) (by decide +kernel)
set_option maxRecDepth 20000 in
theorem gX4_ofCell_X3_valueOf : GoodIn wsX4_ofCell (va_wsS RX4 37 yX3_valueOf wsX3_valueOf) := goodIn_app (goodIn_of _ (by decide +kernel)) ggX4_ofCell_X3_valueOf
set_option maxRecDepth 20000 in
theorem ggX4_ofCell_X3_ageOf : GoodIn wsX4_ofCell wsX3_ageOf := goodIn_r _ [49, 9, 10, 11, 7, 12, 13, 40, 41, 42, 51] (by decide +kernel) (by decide +kernel)
set_option maxRecDepth 20000 in
theorem gX4_ofCell_X3_ageOf : GoodIn wsX4_ofCell (wsV RX4 40 RX3 yX3_ageOf wsX3_ageOf) := goodIn_app (goodIn_of _ (by decide +kernel)) ggX4_ofCell_X3_ageOf
theorem dX4_ofCell_0 : decode cX4_ofCell 0 = .ok (.aload_n 0, 1) := by decide +kernel
theorem dX4_ofCell_1 : decode cX4_ofCell 1 = .ok (.getfield 9, 3) := by decide +kernel
theorem dX4_ofCell_4 : decode cX4_ofCell 4 = .ok (.iload_n 1, 1) := by decide +kernel
theorem dX4_ofCell_5 : decode cX4_ofCell 5 = .ok (.invokevirtual 15, 3) := by decide +kernel
theorem dX4_ofCell_8 : decode cX4_ofCell 8 = .ok (.ifCond .eq 10, 3) := by decide +kernel
theorem dX4_ofCell_11 : decode cX4_ofCell 11 = .ok (.iload_n 2, 1) := by decide +kernel
theorem dX4_ofCell_12 : decode cX4_ofCell 12 = .ok (.invokestatic 21, 3) := by decide +kernel
theorem dX4_ofCell_15 : decode cX4_ofCell 15 = .ok (.ifCond .ne 6, 3) := by decide +kernel
theorem dX4_ofCell_18 : decode cX4_ofCell 18 = .ok (.ldc 24, 2) := by decide +kernel
theorem dX4_ofCell_20 : decode cX4_ofCell 20 = .ok (.ireturn, 1) := by decide +kernel
theorem dX4_ofCell_21 : decode cX4_ofCell 21 = .ok (.iload_n 1, 1) := by decide +kernel
theorem dX4_ofCell_22 : decode cX4_ofCell 22 = .ok (.bipush 8, 2) := by decide +kernel
theorem dX4_ofCell_24 : decode cX4_ofCell 24 = .ok (.imul, 1) := by decide +kernel
theorem dX4_ofCell_25 : decode cX4_ofCell 25 = .ok (.iload_n 2, 1) := by decide +kernel
theorem dX4_ofCell_26 : decode cX4_ofCell 26 = .ok (.iadd, 1) := by decide +kernel
theorem dX4_ofCell_27 : decode cX4_ofCell 27 = .ok (.istore 4, 2) := by decide +kernel
theorem dX4_ofCell_29 : decode cX4_ofCell 29 = .ok (.aload_n 0, 1) := by decide +kernel
theorem dX4_ofCell_30 : decode cX4_ofCell 30 = .ok (.getfield 9, 3) := by decide +kernel
theorem dX4_ofCell_33 : decode cX4_ofCell 33 = .ok (.iload_n 1, 1) := by decide +kernel
theorem dX4_ofCell_34 : decode cX4_ofCell 34 = .ok (.invokevirtual 25, 3) := by decide +kernel
theorem dX4_ofCell_37 : decode cX4_ofCell 37 = .ok (.ifCond .eq 18, 3) := by decide +kernel
theorem dX4_ofCell_40 : decode cX4_ofCell 40 = .ok (.aload_n 0, 1) := by decide +kernel
theorem dX4_ofCell_41 : decode cX4_ofCell 41 = .ok (.getfield 9, 3) := by decide +kernel
theorem dX4_ofCell_44 : decode cX4_ofCell 44 = .ok (.bipush 64, 2) := by decide +kernel
theorem dX4_ofCell_46 : decode cX4_ofCell 46 = .ok (.iload 4, 2) := by decide +kernel
theorem dX4_ofCell_48 : decode cX4_ofCell 48 = .ok (.iadd, 1) := by decide +kernel
theorem dX4_ofCell_49 : decode cX4_ofCell 49 = .ok (.invokevirtual 28, 3) := by decide +kernel
theorem dX4_ofCell_52 : decode cX4_ofCell 52 = .ok (.goto 4, 3) := by decide +kernel
theorem dX4_ofCell_55 : decode cX4_ofCell 55 = .ok (.iconst (-1), 1) := by decide +kernel
theorem dX4_ofCell_56 : decode cX4_ofCell 56 = .ok (.istore 5, 2) := by decide +kernel
theorem dX4_ofCell_58 : decode cX4_ofCell 58 = .ok (.aload_n 0, 1) := by decide +kernel
theorem dX4_ofCell_59 : decode cX4_ofCell 59 = .ok (.getfield 9, 3) := by decide +kernel
theorem dX4_ofCell_62 : decode cX4_ofCell 62 = .ok (.iload_n 1, 1) := by decide +kernel
theorem dX4_ofCell_63 : decode cX4_ofCell 63 = .ok (.iload_n 2, 1) := by decide +kernel
theorem dX4_ofCell_64 : decode cX4_ofCell 64 = .ok (.invokevirtual 32, 3) := by decide +kernel
theorem dX4_ofCell_67 : decode cX4_ofCell 67 = .ok (.istore 6, 2) := by decide +kernel
theorem dX4_ofCell_69 : decode cX4_ofCell 69 = .ok (.iload 6, 2) := by decide +kernel
theorem dX4_ofCell_71 : decode cX4_ofCell 71 = .ok (.iconst (-1), 1) := by decide +kernel
theorem dX4_ofCell_72 : decode cX4_ofCell 72 = .ok (.if_icmp .eq 7, 3) := by decide +kernel
theorem dX4_ofCell_75 : decode cX4_ofCell 75 = .ok (.iconst 1, 1) := by decide +kernel
theorem dX4_ofCell_76 : decode cX4_ofCell 76 = .ok (.goto 4, 3) := by decide +kernel
theorem dX4_ofCell_79 : decode cX4_ofCell 79 = .ok (.iconst 0, 1) := by decide +kernel
theorem dX4_ofCell_80 : decode cX4_ofCell 80 = .ok (.istore 7, 2) := by decide +kernel
theorem dX4_ofCell_82 : decode cX4_ofCell 82 = .ok (.iload_n 3, 1) := by decide +kernel
theorem dX4_ofCell_83 : decode cX4_ofCell 83 = .ok (.tableswitch 118 0 4 #[33, 47, 61, 77, 97], 33) := by decide +kernel
theorem dX4_ofCell_116 : decode cX4_ofCell 116 = .ok (.iload 5, 2) := by decide +kernel
theorem dX4_ofCell_118 : decode cX4_ofCell 118 = .ok (.iconst (-1), 1) := by decide +kernel
theorem dX4_ofCell_119 : decode cX4_ofCell 119 = .ok (.if_icmp .ne 8, 3) := by decide +kernel
theorem dX4_ofCell_122 : decode cX4_ofCell 122 = .ok (.ldc 36, 2) := by decide +kernel
theorem dX4_ofCell_124 : decode cX4_ofCell 124 = .ok (.goto 5, 3) := by decide +kernel
theorem dX4_ofCell_127 : decode cX4_ofCell 127 = .ok (.iload 5, 2) := by decide +kernel
theorem dX4_ofCell_129 : decode cX4_ofCell 129 = .ok (.ireturn, 1) := by decide +kernel
theorem dX4_ofCell_130 : decode cX4_ofCell 130 = .ok (.aload_n 0, 1) := by decide +kernel
theorem dX4_ofCell_131 : decode cX4_ofCell 131 = .ok (.getfield 9, 3) := by decide +kernel
theorem dX4_ofCell_134 : decode cX4_ofCell 134 = .ok (.sipush 136, 3) := by decide +kernel
theorem dX4_ofCell_137 : decode cX4_ofCell 137 = .ok (.iload 4, 2) := by decide +kernel
theorem dX4_ofCell_139 : decode cX4_ofCell 139 = .ok (.iadd, 1) := by decide +kernel
theorem dX4_ofCell_140 : decode cX4_ofCell 140 = .ok (.invokevirtual 28, 3) := by decide +kernel
theorem dX4_ofCell_143 : decode cX4_ofCell 143 = .ok (.ireturn, 1) := by decide +kernel
theorem dX4_ofCell_144 : decode cX4_ofCell 144 = .ok (.iload 7, 2) := by decide +kernel
theorem dX4_ofCell_146 : decode cX4_ofCell 146 = .ok (.ifCond .eq 11, 3) := by decide +kernel
theorem dX4_ofCell_149 : decode cX4_ofCell 149 = .ok (.iload 6, 2) := by decide +kernel
theorem dX4_ofCell_151 : decode cX4_ofCell 151 = .ok (.invokestatic 37, 3) := by decide +kernel
theorem dX4_ofCell_154 : decode cX4_ofCell 154 = .ok (.goto 5, 3) := by decide +kernel
theorem dX4_ofCell_157 : decode cX4_ofCell 157 = .ok (.ldc 36, 2) := by decide +kernel
theorem dX4_ofCell_159 : decode cX4_ofCell 159 = .ok (.ireturn, 1) := by decide +kernel
theorem dX4_ofCell_160 : decode cX4_ofCell 160 = .ok (.iload 7, 2) := by decide +kernel
theorem dX4_ofCell_162 : decode cX4_ofCell 162 = .ok (.ifCond .eq 15, 3) := by decide +kernel
theorem dX4_ofCell_165 : decode cX4_ofCell 165 = .ok (.aload_n 0, 1) := by decide +kernel
theorem dX4_ofCell_166 : decode cX4_ofCell 166 = .ok (.getfield 9, 3) := by decide +kernel
theorem dX4_ofCell_169 : decode cX4_ofCell 169 = .ok (.iload 6, 2) := by decide +kernel
theorem dX4_ofCell_171 : decode cX4_ofCell 171 = .ok (.invokevirtual 40, 3) := by decide +kernel
theorem dX4_ofCell_174 : decode cX4_ofCell 174 = .ok (.goto 5, 3) := by decide +kernel
theorem dX4_ofCell_177 : decode cX4_ofCell 177 = .ok (.ldc 36, 2) := by decide +kernel
theorem dX4_ofCell_179 : decode cX4_ofCell 179 = .ok (.ireturn, 1) := by decide +kernel
theorem dX4_ofCell_180 : decode cX4_ofCell 180 = .ok (.iload 7, 2) := by decide +kernel
theorem dX4_ofCell_182 : decode cX4_ofCell 182 = .ok (.ifCond .eq 17, 3) := by decide +kernel
theorem dX4_ofCell_185 : decode cX4_ofCell 185 = .ok (.iload 6, 2) := by decide +kernel
theorem dX4_ofCell_187 : decode cX4_ofCell 187 = .ok (.invokestatic 37, 3) := by decide +kernel
theorem dX4_ofCell_190 : decode cX4_ofCell 190 = .ok (.iload 5, 2) := by decide +kernel
theorem dX4_ofCell_192 : decode cX4_ofCell 192 = .ok (.if_icmp .ne 7, 3) := by decide +kernel
theorem dX4_ofCell_195 : decode cX4_ofCell 195 = .ok (.iconst 1, 1) := by decide +kernel
theorem dX4_ofCell_196 : decode cX4_ofCell 196 = .ok (.goto 4, 3) := by decide +kernel
theorem dX4_ofCell_199 : decode cX4_ofCell 199 = .ok (.iconst 0, 1) := by decide +kernel
theorem dX4_ofCell_200 : decode cX4_ofCell 200 = .ok (.ireturn, 1) := by decide +kernel
theorem dX4_ofCell_201 : decode cX4_ofCell 201 = .ok (.ldc 24, 2) := by decide +kernel
theorem dX4_ofCell_203 : decode cX4_ofCell 203 = .ok (.ireturn, 1) := by decide +kernel
set_option maxRecDepth 20000 in
theorem ggX4_ofMargin_X3_hasRow : GoodIn wsX4_ofMargin wsX3_hasRow := goodIn_r _ [8, 9, 10, 11, 7, 12, 13, 38] (by decide +kernel) (by decide +kernel)
set_option maxRecDepth 20000 in
theorem gX4_ofMargin_X3_hasRow : GoodIn wsX4_ofMargin (wsV RX4 15 RX3 yX3_hasRow wsX3_hasRow) := goodIn_app (goodIn_of _ (by decide +kernel)) ggX4_ofMargin_X3_hasRow
set_option maxRecDepth 20000 in
theorem ggX4_ofMargin_X3_get : GoodIn wsX4_ofMargin wsX3_get := goodIn_r _ [12, 13, 38] (by decide +kernel) (by decide +kernel)
set_option maxRecDepth 20000 in
theorem gX4_ofMargin_X3_get : GoodIn wsX4_ofMargin (wsV RX4 28 RX3 yX3_get wsX3_get) := goodIn_app (goodIn_of _ (by decide +kernel)) ggX4_ofMargin_X3_get
set_option maxRecDepth 20000 in
theorem ggX4_ofMargin_X4_echoIn : GoodIn wsX4_ofMargin wsX4_echoIn := goodIn_r _ [19, 1, 14, 10, 11, 7, 12, 13, 37, 38] (by decide +kernel) (by decide +kernel)
set_option maxRecDepth 20000 in
theorem gX4_ofMargin_X4_echoIn : GoodIn wsX4_ofMargin (wsV RX4 43 RX4 yX4_echoIn wsX4_echoIn) := goodIn_app (goodIn_of _ (by decide +kernel)) ggX4_ofMargin_X4_echoIn
set_option maxRecDepth 20000 in
theorem ggX4_ofMargin_X3_ownerOf : GoodIn wsX4_ofMargin wsX3_ownerOf := goodIn_r _ [22] (by decide +kernel) (by decide +kernel)
set_option maxRecDepth 20000 in
theorem gX4_ofMargin_X3_ownerOf : GoodIn wsX4_ofMargin (va_wsS RX4 46 yX3_ownerOf wsX3_ownerOf) := goodIn_app (goodIn_of _ (by decide +kernel)) ggX4_ofMargin_X3_ownerOf
set_option maxRecDepth 20000 in
theorem ggX4_ofMargin_X3_valueOf : GoodIn wsX4_ofMargin wsX3_valueOf := goodIn_r _ [25] (by decide +kernel) (by decide +kernel)
set_option maxRecDepth 20000 in
theorem gX4_ofMargin_X3_valueOf : GoodIn wsX4_ofMargin (va_wsS RX4 37 yX3_valueOf wsX3_valueOf) := goodIn_app (goodIn_of _ (by decide +kernel)) ggX4_ofMargin_X3_valueOf
set_option maxRecDepth 20000 in
theorem ggX4_ofMargin_X3_ageOf : GoodIn wsX4_ofMargin wsX3_ageOf := goodIn_r _ [29, 9, 10, 11, 7, 12, 13, 30, 31, 32, 38] (by decide +kernel) (by decide +kernel)
set_option maxRecDepth 20000 in
theorem gX4_ofMargin_X3_ageOf : GoodIn wsX4_ofMargin (wsV RX4 40 RX3 yX3_ageOf wsX3_ageOf) := goodIn_app (goodIn_of _ (by decide +kernel)) ggX4_ofMargin_X3_ageOf
set_option maxRecDepth 20000 in
theorem ggX4_ofMargin_X3_isFaded : GoodIn wsX4_ofMargin wsX3_isFaded := goodIn_r _ [36, 9, 10, 11, 7, 12, 13, 30, 31, 32, 38] (by decide +kernel) (by decide +kernel)
set_option maxRecDepth 20000 in
theorem gX4_ofMargin_X3_isFaded : GoodIn wsX4_ofMargin (wsV RX4 49 RX3 yX3_isFaded wsX3_isFaded) := goodIn_app (goodIn_of _ (by decide +kernel)) ggX4_ofMargin_X3_isFaded
theorem dX4_ofMargin_0 : decode cX4_ofMargin 0 = .ok (.aload_n 0, 1) := by decide +kernel
theorem dX4_ofMargin_1 : decode cX4_ofMargin 1 = .ok (.getfield 9, 3) := by decide +kernel
theorem dX4_ofMargin_4 : decode cX4_ofMargin 4 = .ok (.iload_n 1, 1) := by decide +kernel
theorem dX4_ofMargin_5 : decode cX4_ofMargin 5 = .ok (.invokevirtual 15, 3) := by decide +kernel
theorem dX4_ofMargin_8 : decode cX4_ofMargin 8 = .ok (.ifCond .eq 16, 3) := by decide +kernel
theorem dX4_ofMargin_11 : decode cX4_ofMargin 11 = .ok (.iload_n 2, 1) := by decide +kernel
theorem dX4_ofMargin_12 : decode cX4_ofMargin 12 = .ok (.ifCond .lt 12, 3) := by decide +kernel
theorem dX4_ofMargin_15 : decode cX4_ofMargin 15 = .ok (.iload_n 3, 1) := by decide +kernel
theorem dX4_ofMargin_16 : decode cX4_ofMargin 16 = .ok (.ifCond .lt 8, 3) := by decide +kernel
theorem dX4_ofMargin_19 : decode cX4_ofMargin 19 = .ok (.iload_n 3, 1) := by decide +kernel
theorem dX4_ofMargin_20 : decode cX4_ofMargin 20 = .ok (.iconst 4, 1) := by decide +kernel
theorem dX4_ofMargin_21 : decode cX4_ofMargin 21 = .ok (.if_icmp .le 6, 3) := by decide +kernel
theorem dX4_ofMargin_24 : decode cX4_ofMargin 24 = .ok (.ldc 24, 2) := by decide +kernel
theorem dX4_ofMargin_26 : decode cX4_ofMargin 26 = .ok (.ireturn, 1) := by decide +kernel
theorem dX4_ofMargin_27 : decode cX4_ofMargin 27 = .ok (.iload_n 2, 1) := by decide +kernel
theorem dX4_ofMargin_28 : decode cX4_ofMargin 28 = .ok (.aload_n 0, 1) := by decide +kernel
theorem dX4_ofMargin_29 : decode cX4_ofMargin 29 = .ok (.getfield 9, 3) := by decide +kernel
theorem dX4_ofMargin_32 : decode cX4_ofMargin 32 = .ok (.bipush 55, 2) := by decide +kernel
theorem dX4_ofMargin_34 : decode cX4_ofMargin 34 = .ok (.iload_n 1, 1) := by decide +kernel
theorem dX4_ofMargin_35 : decode cX4_ofMargin 35 = .ok (.iadd, 1) := by decide +kernel
theorem dX4_ofMargin_36 : decode cX4_ofMargin 36 = .ok (.invokevirtual 28, 3) := by decide +kernel
theorem dX4_ofMargin_39 : decode cX4_ofMargin 39 = .ok (.if_icmp .lt 6, 3) := by decide +kernel
theorem dX4_ofMargin_42 : decode cX4_ofMargin 42 = .ok (.ldc 36, 2) := by decide +kernel
theorem dX4_ofMargin_44 : decode cX4_ofMargin 44 = .ok (.ireturn, 1) := by decide +kernel
theorem dX4_ofMargin_45 : decode cX4_ofMargin 45 = .ok (.aload_n 0, 1) := by decide +kernel
theorem dX4_ofMargin_46 : decode cX4_ofMargin 46 = .ok (.iload_n 1, 1) := by decide +kernel
theorem dX4_ofMargin_47 : decode cX4_ofMargin 47 = .ok (.iload_n 2, 1) := by decide +kernel
theorem dX4_ofMargin_48 : decode cX4_ofMargin 48 = .ok (.invokevirtual 43, 3) := by decide +kernel
theorem dX4_ofMargin_51 : decode cX4_ofMargin 51 = .ok (.istore 4, 2) := by decide +kernel
theorem dX4_ofMargin_53 : decode cX4_ofMargin 53 = .ok (.iload_n 3, 1) := by decide +kernel
theorem dX4_ofMargin_54 : decode cX4_ofMargin 54 = .ok (.tableswitch 64 0 3 #[30, 39, 48, 54], 30) := by decide +kernel
theorem dX4_ofMargin_84 : decode cX4_ofMargin 84 = .ok (.iload 4, 2) := by decide +kernel
theorem dX4_ofMargin_86 : decode cX4_ofMargin 86 = .ok (.invokestatic 46, 3) := by decide +kernel
theorem dX4_ofMargin_89 : decode cX4_ofMargin 89 = .ok (.bipush 8, 2) := by decide +kernel
theorem dX4_ofMargin_91 : decode cX4_ofMargin 91 = .ok (.idiv, 1) := by decide +kernel
theorem dX4_ofMargin_92 : decode cX4_ofMargin 92 = .ok (.ireturn, 1) := by decide +kernel
theorem dX4_ofMargin_93 : decode cX4_ofMargin 93 = .ok (.iload 4, 2) := by decide +kernel
theorem dX4_ofMargin_95 : decode cX4_ofMargin 95 = .ok (.invokestatic 46, 3) := by decide +kernel
theorem dX4_ofMargin_98 : decode cX4_ofMargin 98 = .ok (.bipush 8, 2) := by decide +kernel
theorem dX4_ofMargin_100 : decode cX4_ofMargin 100 = .ok (.irem, 1) := by decide +kernel
theorem dX4_ofMargin_101 : decode cX4_ofMargin 101 = .ok (.ireturn, 1) := by decide +kernel
theorem dX4_ofMargin_102 : decode cX4_ofMargin 102 = .ok (.iload 4, 2) := by decide +kernel
theorem dX4_ofMargin_104 : decode cX4_ofMargin 104 = .ok (.invokestatic 37, 3) := by decide +kernel
theorem dX4_ofMargin_107 : decode cX4_ofMargin 107 = .ok (.ireturn, 1) := by decide +kernel
theorem dX4_ofMargin_108 : decode cX4_ofMargin 108 = .ok (.aload_n 0, 1) := by decide +kernel
theorem dX4_ofMargin_109 : decode cX4_ofMargin 109 = .ok (.getfield 9, 3) := by decide +kernel
theorem dX4_ofMargin_112 : decode cX4_ofMargin 112 = .ok (.iload 4, 2) := by decide +kernel
theorem dX4_ofMargin_114 : decode cX4_ofMargin 114 = .ok (.invokevirtual 40, 3) := by decide +kernel
theorem dX4_ofMargin_117 : decode cX4_ofMargin 117 = .ok (.ireturn, 1) := by decide +kernel
theorem dX4_ofMargin_118 : decode cX4_ofMargin 118 = .ok (.aload_n 0, 1) := by decide +kernel
theorem dX4_ofMargin_119 : decode cX4_ofMargin 119 = .ok (.getfield 9, 3) := by decide +kernel
theorem dX4_ofMargin_122 : decode cX4_ofMargin 122 = .ok (.iload 4, 2) := by decide +kernel
theorem dX4_ofMargin_124 : decode cX4_ofMargin 124 = .ok (.invokevirtual 49, 3) := by decide +kernel
theorem dX4_ofMargin_127 : decode cX4_ofMargin 127 = .ok (.ifCond .eq 7, 3) := by decide +kernel
theorem dX4_ofMargin_130 : decode cX4_ofMargin 130 = .ok (.iconst 1, 1) := by decide +kernel
theorem dX4_ofMargin_131 : decode cX4_ofMargin 131 = .ok (.goto 4, 3) := by decide +kernel
theorem dX4_ofMargin_134 : decode cX4_ofMargin 134 = .ok (.iconst 0, 1) := by decide +kernel
theorem dX4_ofMargin_135 : decode cX4_ofMargin 135 = .ok (.ireturn, 1) := by decide +kernel
set_option maxRecDepth 20000 in
theorem ggX4_ofRow_X3_hasRow : GoodIn wsX4_ofRow wsX3_hasRow := goodIn_r _ [7, 8, 9, 10, 6, 11, 12, 61] (by decide +kernel) (by decide +kernel)
set_option maxRecDepth 20000 in
theorem gX4_ofRow_X3_hasRow : GoodIn wsX4_ofRow (wsV RX4 15 RX3 yX3_hasRow wsX3_hasRow) := goodIn_app (goodIn_of _ (by decide +kernel)) ggX4_ofRow_X3_hasRow
set_option maxRecDepth 20000 in
theorem ggX4_ofRow_X3_get : GoodIn wsX4_ofRow wsX3_get := goodIn_r _ [11, 12, 61] (by decide +kernel) (by decide +kernel)
set_option maxRecDepth 20000 in
theorem gX4_ofRow_X3_get : GoodIn wsX4_ofRow (wsV RX4 28 RX3 yX3_get wsX3_get) := goodIn_app (goodIn_of _ (by decide +kernel)) ggX4_ofRow_X3_get
set_option maxRecDepth 20000 in
theorem ggX4_ofRow_X3_neighbour : GoodIn wsX4_ofRow wsX3_neighbour := goodIn_r _ [17, 8, 9, 10, 6, 11, 12, 61] (by decide +kernel) (by decide +kernel)
set_option maxRecDepth 20000 in
theorem gX4_ofRow_X3_neighbour : GoodIn wsX4_ofRow (wsV RX4 52 RX3 yX3_neighbour wsX3_neighbour) := goodIn_app (goodIn_of _ (by decide +kernel)) ggX4_ofRow_X3_neighbour
set_option maxRecDepth 20000 in
theorem ggX4_ofRow_X3_lives : GoodIn wsX4_ofRow wsX3_lives := goodIn_r _ [21, 8, 9, 10, 6, 11, 12, 61] (by decide +kernel) (by decide +kernel)
set_option maxRecDepth 20000 in
theorem gX4_ofRow_X3_lives : GoodIn wsX4_ofRow (wsV RX4 25 RX3 yX3_lives wsX3_lives) := goodIn_app (goodIn_of _ (by decide +kernel)) ggX4_ofRow_X3_lives
set_option maxRecDepth 20000 in
theorem ggX4_ofRow_X4_unknownCells : GoodIn wsX4_ofRow wsX4_unknownCells := goodIn_r _ [26, 27, 28, 29, 25, 30, 1, 13, 9, 10, 6, 11, 12, 60, 61] (by decide +kernel) (by decide +kernel)
set_option maxRecDepth 20000 in
theorem gX4_ofRow_X4_unknownCells : GoodIn wsX4_ofRow (wsV RX4 55 RX4 yX4_unknownCells wsX4_unknownCells) := goodIn_app (goodIn_of _ (by decide +kernel)) ggX4_ofRow_X4_unknownCells
set_option maxRecDepth 20000 in
theorem ggX4_ofRow_X4_wrongCells : GoodIn wsX4_ofRow wsX4_wrongCells := goodIn_r _ [34, 1, 13, 9, 10, 6, 11, 12, 60, 61] (by decide +kernel) (by decide +kernel)
set_option maxRecDepth 20000 in
theorem gX4_ofRow_X4_wrongCells : GoodIn wsX4_ofRow (wsV RX4 58 RX4 yX4_wrongCells wsX4_wrongCells) := goodIn_app (goodIn_of _ (by decide +kernel)) ggX4_ofRow_X4_wrongCells
set_option maxRecDepth 20000 in
theorem ggX4_ofRow_X3_comingBack : GoodIn wsX4_ofRow wsX3_comingBack := goodIn_r _ [38, 39, 40, 41, 6, 42, 43, 44, 45, 46, 15, 16, 17, 8, 9, 10, 11, 12, 47, 48, 49, 50, 51, 52, 53, 54, 55, 56, 57, 58, 59, 61] (by decide +kernel) (by decide +kernel)
set_option maxRecDepth 20000 in
theorem gX4_ofRow_X3_comingBack : GoodIn wsX4_ofRow (wsV RX4 61 RX3 yX3_comingBack wsX3_comingBack) := goodIn_app (goodIn_of _ (by decide +kernel)) ggX4_ofRow_X3_comingBack
theorem dX4_ofRow_0 : decode cX4_ofRow 0 = .ok (.aload_n 0, 1) := by decide +kernel
theorem dX4_ofRow_1 : decode cX4_ofRow 1 = .ok (.getfield 9, 3) := by decide +kernel
theorem dX4_ofRow_4 : decode cX4_ofRow 4 = .ok (.iload_n 1, 1) := by decide +kernel
theorem dX4_ofRow_5 : decode cX4_ofRow 5 = .ok (.invokevirtual 15, 3) := by decide +kernel
theorem dX4_ofRow_8 : decode cX4_ofRow 8 = .ok (.ifCond .ne 6, 3) := by decide +kernel
theorem dX4_ofRow_11 : decode cX4_ofRow 11 = .ok (.ldc 24, 2) := by decide +kernel
theorem dX4_ofRow_13 : decode cX4_ofRow 13 = .ok (.ireturn, 1) := by decide +kernel
theorem dX4_ofRow_14 : decode cX4_ofRow 14 = .ok (.iload_n 2, 1) := by decide +kernel
theorem dX4_ofRow_15 : decode cX4_ofRow 15 = .ok (.tableswitch 170 0 9 #[53, 65, 77, 87, 97, 109, 131, 137, 146, 158], 53) := by decide +kernel
theorem dX4_ofRow_68 : decode cX4_ofRow 68 = .ok (.aload_n 0, 1) := by decide +kernel
theorem dX4_ofRow_69 : decode cX4_ofRow 69 = .ok (.getfield 9, 3) := by decide +kernel
theorem dX4_ofRow_72 : decode cX4_ofRow 72 = .ok (.bipush 10, 2) := by decide +kernel
theorem dX4_ofRow_74 : decode cX4_ofRow 74 = .ok (.iload_n 1, 1) := by decide +kernel
theorem dX4_ofRow_75 : decode cX4_ofRow 75 = .ok (.iadd, 1) := by decide +kernel
theorem dX4_ofRow_76 : decode cX4_ofRow 76 = .ok (.invokevirtual 28, 3) := by decide +kernel
theorem dX4_ofRow_79 : decode cX4_ofRow 79 = .ok (.ireturn, 1) := by decide +kernel
theorem dX4_ofRow_80 : decode cX4_ofRow 80 = .ok (.aload_n 0, 1) := by decide +kernel
theorem dX4_ofRow_81 : decode cX4_ofRow 81 = .ok (.getfield 9, 3) := by decide +kernel
theorem dX4_ofRow_84 : decode cX4_ofRow 84 = .ok (.bipush 28, 2) := by decide +kernel
theorem dX4_ofRow_86 : decode cX4_ofRow 86 = .ok (.iload_n 1, 1) := by decide +kernel
theorem dX4_ofRow_87 : decode cX4_ofRow 87 = .ok (.iadd, 1) := by decide +kernel
theorem dX4_ofRow_88 : decode cX4_ofRow 88 = .ok (.invokevirtual 28, 3) := by decide +kernel
theorem dX4_ofRow_91 : decode cX4_ofRow 91 = .ok (.ireturn, 1) := by decide +kernel
theorem dX4_ofRow_92 : decode cX4_ofRow 92 = .ok (.aload_n 0, 1) := by decide +kernel
theorem dX4_ofRow_93 : decode cX4_ofRow 93 = .ok (.getfield 9, 3) := by decide +kernel
theorem dX4_ofRow_96 : decode cX4_ofRow 96 = .ok (.iload_n 1, 1) := by decide +kernel
theorem dX4_ofRow_97 : decode cX4_ofRow 97 = .ok (.iconst (-1), 1) := by decide +kernel
theorem dX4_ofRow_98 : decode cX4_ofRow 98 = .ok (.invokevirtual 52, 3) := by decide +kernel
theorem dX4_ofRow_101 : decode cX4_ofRow 101 = .ok (.ireturn, 1) := by decide +kernel
theorem dX4_ofRow_102 : decode cX4_ofRow 102 = .ok (.aload_n 0, 1) := by decide +kernel
theorem dX4_ofRow_103 : decode cX4_ofRow 103 = .ok (.getfield 9, 3) := by decide +kernel
theorem dX4_ofRow_106 : decode cX4_ofRow 106 = .ok (.iload_n 1, 1) := by decide +kernel
theorem dX4_ofRow_107 : decode cX4_ofRow 107 = .ok (.iconst 1, 1) := by decide +kernel
theorem dX4_ofRow_108 : decode cX4_ofRow 108 = .ok (.invokevirtual 52, 3) := by decide +kernel
theorem dX4_ofRow_111 : decode cX4_ofRow 111 = .ok (.ireturn, 1) := by decide +kernel
theorem dX4_ofRow_112 : decode cX4_ofRow 112 = .ok (.aload_n 0, 1) := by decide +kernel
theorem dX4_ofRow_113 : decode cX4_ofRow 113 = .ok (.getfield 9, 3) := by decide +kernel
theorem dX4_ofRow_116 : decode cX4_ofRow 116 = .ok (.bipush 55, 2) := by decide +kernel
theorem dX4_ofRow_118 : decode cX4_ofRow 118 = .ok (.iload_n 1, 1) := by decide +kernel
theorem dX4_ofRow_119 : decode cX4_ofRow 119 = .ok (.iadd, 1) := by decide +kernel
theorem dX4_ofRow_120 : decode cX4_ofRow 120 = .ok (.invokevirtual 28, 3) := by decide +kernel
theorem dX4_ofRow_123 : decode cX4_ofRow 123 = .ok (.ireturn, 1) := by decide +kernel
theorem dX4_ofRow_124 : decode cX4_ofRow 124 = .ok (.aload_n 0, 1) := by decide +kernel
theorem dX4_ofRow_125 : decode cX4_ofRow 125 = .ok (.getfield 9, 3) := by decide +kernel
theorem dX4_ofRow_128 : decode cX4_ofRow 128 = .ok (.iload_n 1, 1) := by decide +kernel
theorem dX4_ofRow_129 : decode cX4_ofRow 129 = .ok (.invokevirtual 25, 3) := by decide +kernel
theorem dX4_ofRow_132 : decode cX4_ofRow 132 = .ok (.ifCond .eq 11, 3) := by decide +kernel
theorem dX4_ofRow_135 : decode cX4_ofRow 135 = .ok (.aload_n 0, 1) := by decide +kernel
theorem dX4_ofRow_136 : decode cX4_ofRow 136 = .ok (.iload_n 1, 1) := by decide +kernel
theorem dX4_ofRow_137 : decode cX4_ofRow 137 = .ok (.invokevirtual 55, 3) := by decide +kernel
theorem dX4_ofRow_140 : decode cX4_ofRow 140 = .ok (.goto 5, 3) := by decide +kernel
theorem dX4_ofRow_143 : decode cX4_ofRow 143 = .ok (.bipush 8, 2) := by decide +kernel
theorem dX4_ofRow_145 : decode cX4_ofRow 145 = .ok (.ireturn, 1) := by decide +kernel
theorem dX4_ofRow_146 : decode cX4_ofRow 146 = .ok (.aload_n 0, 1) := by decide +kernel
theorem dX4_ofRow_147 : decode cX4_ofRow 147 = .ok (.iload_n 1, 1) := by decide +kernel
theorem dX4_ofRow_148 : decode cX4_ofRow 148 = .ok (.invokevirtual 58, 3) := by decide +kernel
theorem dX4_ofRow_151 : decode cX4_ofRow 151 = .ok (.ireturn, 1) := by decide +kernel
theorem dX4_ofRow_152 : decode cX4_ofRow 152 = .ok (.aload_n 0, 1) := by decide +kernel
theorem dX4_ofRow_153 : decode cX4_ofRow 153 = .ok (.getfield 9, 3) := by decide +kernel
theorem dX4_ofRow_156 : decode cX4_ofRow 156 = .ok (.iload_n 1, 1) := by decide +kernel
theorem dX4_ofRow_157 : decode cX4_ofRow 157 = .ok (.invokevirtual 61, 3) := by decide +kernel
theorem dX4_ofRow_160 : decode cX4_ofRow 160 = .ok (.ireturn, 1) := by decide +kernel
theorem dX4_ofRow_161 : decode cX4_ofRow 161 = .ok (.aload_n 0, 1) := by decide +kernel
theorem dX4_ofRow_162 : decode cX4_ofRow 162 = .ok (.getfield 9, 3) := by decide +kernel
theorem dX4_ofRow_165 : decode cX4_ofRow 165 = .ok (.bipush 37, 2) := by decide +kernel
theorem dX4_ofRow_167 : decode cX4_ofRow 167 = .ok (.iload_n 1, 1) := by decide +kernel
theorem dX4_ofRow_168 : decode cX4_ofRow 168 = .ok (.iadd, 1) := by decide +kernel
theorem dX4_ofRow_169 : decode cX4_ofRow 169 = .ok (.invokevirtual 28, 3) := by decide +kernel
theorem dX4_ofRow_172 : decode cX4_ofRow 172 = .ok (.ireturn, 1) := by decide +kernel
theorem dX4_ofRow_173 : decode cX4_ofRow 173 = .ok (.aload_n 0, 1) := by decide +kernel
theorem dX4_ofRow_174 : decode cX4_ofRow 174 = .ok (.getfield 9, 3) := by decide +kernel
theorem dX4_ofRow_177 : decode cX4_ofRow 177 = .ok (.bipush 46, 2) := by decide +kernel
theorem dX4_ofRow_179 : decode cX4_ofRow 179 = .ok (.iload_n 1, 1) := by decide +kernel
theorem dX4_ofRow_180 : decode cX4_ofRow 180 = .ok (.iadd, 1) := by decide +kernel
theorem dX4_ofRow_181 : decode cX4_ofRow 181 = .ok (.invokevirtual 28, 3) := by decide +kernel
theorem dX4_ofRow_184 : decode cX4_ofRow 184 = .ok (.ireturn, 1) := by decide +kernel
theorem dX4_ofRow_185 : decode cX4_ofRow 185 = .ok (.ldc 24, 2) := by decide +kernel
theorem dX4_ofRow_187 : decode cX4_ofRow 187 = .ok (.ireturn, 1) := by decide +kernel
set_option maxRecDepth 20000 in
theorem ggX4_ofMending_X3_hasRow : GoodIn wsX4_ofMending wsX3_hasRow := goodIn_r _ [13, 14, 15, 16, 12, 17, 18, 57] (by decide +kernel) (by decide +kernel)
set_option maxRecDepth 20000 in
theorem gX4_ofMending_X3_hasRow : GoodIn wsX4_ofMending (wsV RX4 15 RX3 yX3_hasRow wsX3_hasRow) := goodIn_app (goodIn_of _ (by decide +kernel)) ggX4_ofMending_X3_hasRow
set_option maxRecDepth 20000 in
theorem ggX4_ofMending_X3_lives : GoodIn wsX4_ofMending wsX3_lives := goodIn_r _ [22, 14, 15, 16, 12, 17, 18, 57] (by decide +kernel) (by decide +kernel)
set_option maxRecDepth 20000 in
theorem gX4_ofMending_X3_lives : GoodIn wsX4_ofMending (wsV RX4 25 RX3 yX3_lives wsX3_lives) := goodIn_app (goodIn_of _ (by decide +kernel)) ggX4_ofMending_X3_lives
set_option maxRecDepth 20000 in
theorem ggX4_ofMending_X3_comingBack : GoodIn wsX4_ofMending wsX3_comingBack := goodIn_r _ [26, 27, 28, 29, 12, 30, 31, 32, 33, 34, 35, 36, 37, 14, 15, 16, 17, 18, 38, 39, 40, 41, 42, 43, 44, 45, 46, 47, 48, 49, 50, 57] (by decide +kernel) (by decide +kernel)
set_option maxRecDepth 20000 in
theorem gX4_ofMending_X3_comingBack : GoodIn wsX4_ofMending (wsV RX4 61 RX3 yX3_comingBack wsX3_comingBack) := goodIn_app (goodIn_of _ (by decide +kernel)) ggX4_ofMending_X3_comingBack
set_option maxRecDepth 20000 in
theorem ggX4_ofMending_X3_freshEcho : GoodIn wsX4_ofMending wsX3_freshEcho := goodIn_r _ [30, 31, 32, 12, 33, 34, 35, 36, 37, 14, 15, 16, 17, 18, 38, 39, 40, 41, 42, 43, 44, 45, 46, 47, 57] (by decide +kernel) (by decide +kernel)
set_option maxRecDepth 20000 in
theorem gX4_ofMending_X3_freshEcho : GoodIn wsX4_ofMending (wsV RX4 32 RX3 yX3_freshEcho wsX3_freshEcho) := goodIn_app (goodIn_of _ (by decide +kernel)) ggX4_ofMending_X3_freshEcho
set_option maxRecDepth 20000 in
theorem ggX4_ofMending_X3_ageOf : GoodIn wsX4_ofMending wsX3_ageOf := goodIn_r _ [55, 14, 15, 16, 12, 17, 18, 45, 46, 47, 57] (by decide +kernel) (by decide +kernel)
set_option maxRecDepth 20000 in
theorem gX4_ofMending_X3_ageOf : GoodIn wsX4_ofMending (wsV RX4 40 RX3 yX3_ageOf wsX3_ageOf) := goodIn_app (goodIn_of _ (by decide +kernel)) ggX4_ofMending_X3_ageOf
theorem dX4_ofMending_0 : decode cX4_ofMending 0 = .ok (.aload_n 0, 1) := by decide +kernel
theorem dX4_ofMending_1 : decode cX4_ofMending 1 = .ok (.getfield 9, 3) := by decide +kernel
theorem dX4_ofMending_4 : decode cX4_ofMending 4 = .ok (.iload_n 1, 1) := by decide +kernel
theorem dX4_ofMending_5 : decode cX4_ofMending 5 = .ok (.invokevirtual 15, 3) := by decide +kernel
theorem dX4_ofMending_8 : decode cX4_ofMending 8 = .ok (.ifCond .eq 12, 3) := by decide +kernel
theorem dX4_ofMending_11 : decode cX4_ofMending 11 = .ok (.iload_n 2, 1) := by decide +kernel
theorem dX4_ofMending_12 : decode cX4_ofMending 12 = .ok (.ifCond .lt 8, 3) := by decide +kernel
theorem dX4_ofMending_15 : decode cX4_ofMending 15 = .ok (.iload_n 2, 1) := by decide +kernel
theorem dX4_ofMending_16 : decode cX4_ofMending 16 = .ok (.iconst 3, 1) := by decide +kernel
theorem dX4_ofMending_17 : decode cX4_ofMending 17 = .ok (.if_icmp .le 6, 3) := by decide +kernel
theorem dX4_ofMending_20 : decode cX4_ofMending 20 = .ok (.ldc 24, 2) := by decide +kernel
theorem dX4_ofMending_22 : decode cX4_ofMending 22 = .ok (.ireturn, 1) := by decide +kernel
theorem dX4_ofMending_23 : decode cX4_ofMending 23 = .ok (.aload_n 0, 1) := by decide +kernel
theorem dX4_ofMending_24 : decode cX4_ofMending 24 = .ok (.getfield 9, 3) := by decide +kernel
theorem dX4_ofMending_27 : decode cX4_ofMending 27 = .ok (.iload_n 1, 1) := by decide +kernel
theorem dX4_ofMending_28 : decode cX4_ofMending 28 = .ok (.invokevirtual 25, 3) := by decide +kernel
theorem dX4_ofMending_31 : decode cX4_ofMending 31 = .ok (.ifCond .eq 6, 3) := by decide +kernel
theorem dX4_ofMending_34 : decode cX4_ofMending 34 = .ok (.ldc 64, 2) := by decide +kernel
theorem dX4_ofMending_36 : decode cX4_ofMending 36 = .ok (.ireturn, 1) := by decide +kernel
theorem dX4_ofMending_37 : decode cX4_ofMending 37 = .ok (.aload_n 0, 1) := by decide +kernel
theorem dX4_ofMending_38 : decode cX4_ofMending 38 = .ok (.getfield 9, 3) := by decide +kernel
theorem dX4_ofMending_41 : decode cX4_ofMending 41 = .ok (.iload_n 1, 1) := by decide +kernel
theorem dX4_ofMending_42 : decode cX4_ofMending 42 = .ok (.invokevirtual 61, 3) := by decide +kernel
theorem dX4_ofMending_45 : decode cX4_ofMending 45 = .ok (.istore_n 3, 1) := by decide +kernel
theorem dX4_ofMending_46 : decode cX4_ofMending 46 = .ok (.iconst 0, 1) := by decide +kernel
theorem dX4_ofMending_47 : decode cX4_ofMending 47 = .ok (.istore 4, 2) := by decide +kernel
theorem dX4_ofMending_49 : decode cX4_ofMending 49 = .ok (.ldc 36, 2) := by decide +kernel
theorem dX4_ofMending_51 : decode cX4_ofMending 51 = .ok (.istore 5, 2) := by decide +kernel
theorem dX4_ofMending_53 : decode cX4_ofMending 53 = .ok (.iconst 0, 1) := by decide +kernel
theorem dX4_ofMending_54 : decode cX4_ofMending 54 = .ok (.istore 6, 2) := by decide +kernel
theorem dX4_ofMending_56 : decode cX4_ofMending 56 = .ok (.iload 6, 2) := by decide +kernel
theorem dX4_ofMending_58 : decode cX4_ofMending 58 = .ok (.bipush 8, 2) := by decide +kernel
theorem dX4_ofMending_60 : decode cX4_ofMending 60 = .ok (.if_icmp .ge 46, 3) := by decide +kernel
theorem dX4_ofMending_63 : decode cX4_ofMending 63 = .ok (.aload_n 0, 1) := by decide +kernel
theorem dX4_ofMending_64 : decode cX4_ofMending 64 = .ok (.getfield 9, 3) := by decide +kernel
theorem dX4_ofMending_67 : decode cX4_ofMending 67 = .ok (.iload_n 1, 1) := by decide +kernel
theorem dX4_ofMending_68 : decode cX4_ofMending 68 = .ok (.iload 6, 2) := by decide +kernel
theorem dX4_ofMending_70 : decode cX4_ofMending 70 = .ok (.invokevirtual 32, 3) := by decide +kernel
theorem dX4_ofMending_73 : decode cX4_ofMending 73 = .ok (.istore 7, 2) := by decide +kernel
theorem dX4_ofMending_75 : decode cX4_ofMending 75 = .ok (.iload 7, 2) := by decide +kernel
theorem dX4_ofMending_77 : decode cX4_ofMending 77 = .ok (.iconst (-1), 1) := by decide +kernel
theorem dX4_ofMending_78 : decode cX4_ofMending 78 = .ok (.if_icmp .eq 22, 3) := by decide +kernel
theorem dX4_ofMending_81 : decode cX4_ofMending 81 = .ok (.iinc 4 1, 3) := by decide +kernel
theorem dX4_ofMending_84 : decode cX4_ofMending 84 = .ok (.iload 5, 2) := by decide +kernel
theorem dX4_ofMending_86 : decode cX4_ofMending 86 = .ok (.aload_n 0, 1) := by decide +kernel
theorem dX4_ofMending_87 : decode cX4_ofMending 87 = .ok (.getfield 9, 3) := by decide +kernel
theorem dX4_ofMending_90 : decode cX4_ofMending 90 = .ok (.iload 7, 2) := by decide +kernel
theorem dX4_ofMending_92 : decode cX4_ofMending 92 = .ok (.invokevirtual 40, 3) := by decide +kernel
theorem dX4_ofMending_95 : decode cX4_ofMending 95 = .ok (.invokestatic 65, 3) := by decide +kernel
theorem dX4_ofMending_98 : decode cX4_ofMending 98 = .ok (.istore 5, 2) := by decide +kernel
theorem dX4_ofMending_100 : decode cX4_ofMending 100 = .ok (.iinc 6 1, 3) := by decide +kernel
theorem dX4_ofMending_103 : decode cX4_ofMending 103 = .ok (.goto (-47), 3) := by decide +kernel
theorem dX4_ofMending_106 : decode cX4_ofMending 106 = .ok (.iload_n 2, 1) := by decide +kernel
theorem dX4_ofMending_107 : decode cX4_ofMending 107 = .ok (.tableswitch 38 0 2 #[25, 27, 32], 25) := by decide +kernel
theorem dX4_ofMending_132 : decode cX4_ofMending 132 = .ok (.iload_n 3, 1) := by decide +kernel
theorem dX4_ofMending_133 : decode cX4_ofMending 133 = .ok (.ireturn, 1) := by decide +kernel
theorem dX4_ofMending_134 : decode cX4_ofMending 134 = .ok (.iload 4, 2) := by decide +kernel
theorem dX4_ofMending_136 : decode cX4_ofMending 136 = .ok (.iload_n 3, 1) := by decide +kernel
theorem dX4_ofMending_137 : decode cX4_ofMending 137 = .ok (.isub, 1) := by decide +kernel
theorem dX4_ofMending_138 : decode cX4_ofMending 138 = .ok (.ireturn, 1) := by decide +kernel
theorem dX4_ofMending_139 : decode cX4_ofMending 139 = .ok (.bipush 8, 2) := by decide +kernel
theorem dX4_ofMending_141 : decode cX4_ofMending 141 = .ok (.iload 4, 2) := by decide +kernel
theorem dX4_ofMending_143 : decode cX4_ofMending 143 = .ok (.isub, 1) := by decide +kernel
theorem dX4_ofMending_144 : decode cX4_ofMending 144 = .ok (.ireturn, 1) := by decide +kernel
theorem dX4_ofMending_145 : decode cX4_ofMending 145 = .ok (.iload 5, 2) := by decide +kernel
theorem dX4_ofMending_147 : decode cX4_ofMending 147 = .ok (.ireturn, 1) := by decide +kernel
set_option maxRecDepth 20000 in
theorem ggX4_ofAll_X3_get : GoodIn wsX4_ofAll wsX3_get := goodIn_r _ [7, 8, 85] (by decide +kernel) (by decide +kernel)
set_option maxRecDepth 20000 in
theorem gX4_ofAll_X3_get : GoodIn wsX4_ofAll (wsV RX4 28 RX3 yX3_get wsX3_get) := goodIn_app (goodIn_of _ (by decide +kernel)) ggX4_ofAll_X3_get
set_option maxRecDepth 20000 in
theorem ggX4_ofAll_X4_livingRows : GoodIn wsX4_ofAll wsX4_livingRows := goodIn_r _ [13, 1, 3, 4, 5, 6, 7, 8, 84, 85] (by decide +kernel) (by decide +kernel)
set_option maxRecDepth 20000 in
theorem gX4_ofAll_X4_livingRows : GoodIn wsX4_ofAll (wsV RX4 70 RX4 yX4_livingRows wsX4_livingRows) := goodIn_app (goodIn_of _ (by decide +kernel)) ggX4_ofAll_X4_livingRows
set_option maxRecDepth 20000 in
theorem ggX4_ofAll_X4_safeRows : GoodIn wsX4_ofAll wsX4_safeRows := goodIn_r _ [17, 1, 3, 4, 5, 6, 7, 8, 18, 19, 20, 21, 22, 23, 24, 25, 26, 27, 28, 29, 30, 31, 32, 33, 34, 35, 36, 37, 38, 39, 40, 41, 42, 43, 44, 45, 46, 47, 48, 49, 50, 51, 52, 53, 12, 54, 55, 56, 57, 58, 84, 85] (by decide +kernel) (by decide +kernel)
set_option maxRecDepth 20000 in
theorem gX4_ofAll_X4_safeRows : GoodIn wsX4_ofAll (wsV RX4 74 RX4 yX4_safeRows wsX4_safeRows) := goodIn_app (goodIn_of _ (by decide +kernel)) ggX4_ofAll_X4_safeRows
set_option maxRecDepth 20000 in
theorem ggX4_ofAll_X4_allEchoes : GoodIn wsX4_ofAll wsX4_allEchoes := goodIn_r _ [62, 1, 3, 4, 5, 6, 7, 8, 84, 85] (by decide +kernel) (by decide +kernel)
set_option maxRecDepth 20000 in
theorem gX4_ofAll_X4_allEchoes : GoodIn wsX4_ofAll (wsV RX4 77 RX4 yX4_allEchoes wsX4_allEchoes) := goodIn_app (goodIn_of _ (by decide +kernel)) ggX4_ofAll_X4_allEchoes
set_option maxRecDepth 20000 in
theorem ggX4_ofAll_X4_freshEchoes : GoodIn wsX4_ofAll wsX4_freshEchoes := goodIn_r _ [66, 1, 3, 4, 5, 6, 7, 8, 67, 68, 69, 12, 70, 71, 42, 43, 44, 22, 45, 46, 47, 84, 85] (by decide +kernel) (by decide +kernel)
set_option maxRecDepth 20000 in
theorem gX4_ofAll_X4_freshEchoes : GoodIn wsX4_ofAll (wsV RX4 80 RX4 yX4_freshEchoes wsX4_freshEchoes) := goodIn_app (goodIn_of _ (by decide +kernel)) ggX4_ofAll_X4_freshEchoes
set_option maxRecDepth 20000 in
theorem ggX4_ofAll_X4_allUnknownCells : GoodIn wsX4_ofAll wsX4_allUnknownCells := goodIn_r _ [75, 1, 3, 4, 5, 6, 7, 8, 18, 19, 20, 21, 22, 51, 52, 53, 12, 54, 55, 56, 57, 58, 84, 85] (by decide +kernel) (by decide +kernel)
set_option maxRecDepth 20000 in
theorem gX4_ofAll_X4_allUnknownCells : GoodIn wsX4_ofAll (wsV RX4 83 RX4 yX4_allUnknownCells wsX4_allUnknownCells) := goodIn_app (goodIn_of _ (by decide +kernel)) ggX4_ofAll_X4_allUnknownCells
set_option maxRecDepth 20000 in
theorem ggX4_ofAll_X4_allWrongCells : GoodIn wsX4_ofAll wsX4_allWrongCells := goodIn_r _ [79, 1, 3, 4, 5, 6, 7, 8, 80, 81, 82, 12, 83, 84, 85] (by decide +kernel) (by decide +kernel)
set_option maxRecDepth 20000 in
theorem gX4_ofAll_X4_allWrongCells : GoodIn wsX4_ofAll (wsV RX4 86 RX4 yX4_allWrongCells wsX4_allWrongCells) := goodIn_app (goodIn_of _ (by decide +kernel)) ggX4_ofAll_X4_allWrongCells
theorem dX4_ofAll_0 : decode cX4_ofAll 0 = .ok (.iload_n 1, 1) := by decide +kernel
theorem dX4_ofAll_1 : decode cX4_ofAll 1 = .ok (.tableswitch 232 0 21 #[103, 112, 121, 126, 131, 136, 146, 151, 156, 165, 174, 184, 194, 204, 232, 232, 232, 232, 232, 232, 214, 223], 103) := by decide +kernel
theorem dX4_ofAll_104 : decode cX4_ofAll 104 = .ok (.aload_n 0, 1) := by decide +kernel
theorem dX4_ofAll_105 : decode cX4_ofAll 105 = .ok (.getfield 9, 3) := by decide +kernel
theorem dX4_ofAll_108 : decode cX4_ofAll 108 = .ok (.iconst 1, 1) := by decide +kernel
theorem dX4_ofAll_109 : decode cX4_ofAll 109 = .ok (.invokevirtual 28, 3) := by decide +kernel
theorem dX4_ofAll_112 : decode cX4_ofAll 112 = .ok (.ireturn, 1) := by decide +kernel
theorem dX4_ofAll_113 : decode cX4_ofAll 113 = .ok (.aload_n 0, 1) := by decide +kernel
theorem dX4_ofAll_114 : decode cX4_ofAll 114 = .ok (.getfield 9, 3) := by decide +kernel
theorem dX4_ofAll_117 : decode cX4_ofAll 117 = .ok (.iconst 0, 1) := by decide +kernel
theorem dX4_ofAll_118 : decode cX4_ofAll 118 = .ok (.invokevirtual 28, 3) := by decide +kernel
theorem dX4_ofAll_121 : decode cX4_ofAll 121 = .ok (.ireturn, 1) := by decide +kernel
theorem dX4_ofAll_122 : decode cX4_ofAll 122 = .ok (.aload_n 0, 1) := by decide +kernel
theorem dX4_ofAll_123 : decode cX4_ofAll 123 = .ok (.invokevirtual 70, 3) := by decide +kernel
theorem dX4_ofAll_126 : decode cX4_ofAll 126 = .ok (.ireturn, 1) := by decide +kernel
theorem dX4_ofAll_127 : decode cX4_ofAll 127 = .ok (.aload_n 0, 1) := by decide +kernel
theorem dX4_ofAll_128 : decode cX4_ofAll 128 = .ok (.invokevirtual 74, 3) := by decide +kernel
theorem dX4_ofAll_131 : decode cX4_ofAll 131 = .ok (.ireturn, 1) := by decide +kernel
theorem dX4_ofAll_132 : decode cX4_ofAll 132 = .ok (.aload_n 0, 1) := by decide +kernel
theorem dX4_ofAll_133 : decode cX4_ofAll 133 = .ok (.invokevirtual 77, 3) := by decide +kernel
theorem dX4_ofAll_136 : decode cX4_ofAll 136 = .ok (.ireturn, 1) := by decide +kernel
theorem dX4_ofAll_137 : decode cX4_ofAll 137 = .ok (.aload_n 0, 1) := by decide +kernel
theorem dX4_ofAll_138 : decode cX4_ofAll 138 = .ok (.invokevirtual 77, 3) := by decide +kernel
theorem dX4_ofAll_141 : decode cX4_ofAll 141 = .ok (.aload_n 0, 1) := by decide +kernel
theorem dX4_ofAll_142 : decode cX4_ofAll 142 = .ok (.invokevirtual 80, 3) := by decide +kernel
theorem dX4_ofAll_145 : decode cX4_ofAll 145 = .ok (.isub, 1) := by decide +kernel
theorem dX4_ofAll_146 : decode cX4_ofAll 146 = .ok (.ireturn, 1) := by decide +kernel
theorem dX4_ofAll_147 : decode cX4_ofAll 147 = .ok (.aload_n 0, 1) := by decide +kernel
theorem dX4_ofAll_148 : decode cX4_ofAll 148 = .ok (.invokevirtual 83, 3) := by decide +kernel
theorem dX4_ofAll_151 : decode cX4_ofAll 151 = .ok (.ireturn, 1) := by decide +kernel
theorem dX4_ofAll_152 : decode cX4_ofAll 152 = .ok (.aload_n 0, 1) := by decide +kernel
theorem dX4_ofAll_153 : decode cX4_ofAll 153 = .ok (.invokevirtual 86, 3) := by decide +kernel
theorem dX4_ofAll_156 : decode cX4_ofAll 156 = .ok (.ireturn, 1) := by decide +kernel
theorem dX4_ofAll_157 : decode cX4_ofAll 157 = .ok (.aload_n 0, 1) := by decide +kernel
theorem dX4_ofAll_158 : decode cX4_ofAll 158 = .ok (.getfield 9, 3) := by decide +kernel
theorem dX4_ofAll_161 : decode cX4_ofAll 161 = .ok (.iconst 4, 1) := by decide +kernel
theorem dX4_ofAll_162 : decode cX4_ofAll 162 = .ok (.invokevirtual 28, 3) := by decide +kernel
theorem dX4_ofAll_165 : decode cX4_ofAll 165 = .ok (.ireturn, 1) := by decide +kernel
theorem dX4_ofAll_166 : decode cX4_ofAll 166 = .ok (.aload_n 0, 1) := by decide +kernel
theorem dX4_ofAll_167 : decode cX4_ofAll 167 = .ok (.getfield 9, 3) := by decide +kernel
theorem dX4_ofAll_170 : decode cX4_ofAll 170 = .ok (.iconst 5, 1) := by decide +kernel
theorem dX4_ofAll_171 : decode cX4_ofAll 171 = .ok (.invokevirtual 28, 3) := by decide +kernel
theorem dX4_ofAll_174 : decode cX4_ofAll 174 = .ok (.ireturn, 1) := by decide +kernel
theorem dX4_ofAll_175 : decode cX4_ofAll 175 = .ok (.aload_n 0, 1) := by decide +kernel
theorem dX4_ofAll_176 : decode cX4_ofAll 176 = .ok (.getfield 9, 3) := by decide +kernel
theorem dX4_ofAll_179 : decode cX4_ofAll 179 = .ok (.bipush 6, 2) := by decide +kernel
theorem dX4_ofAll_181 : decode cX4_ofAll 181 = .ok (.invokevirtual 28, 3) := by decide +kernel
theorem dX4_ofAll_184 : decode cX4_ofAll 184 = .ok (.ireturn, 1) := by decide +kernel
theorem dX4_ofAll_185 : decode cX4_ofAll 185 = .ok (.aload_n 0, 1) := by decide +kernel
theorem dX4_ofAll_186 : decode cX4_ofAll 186 = .ok (.getfield 9, 3) := by decide +kernel
theorem dX4_ofAll_189 : decode cX4_ofAll 189 = .ok (.bipush 7, 2) := by decide +kernel
theorem dX4_ofAll_191 : decode cX4_ofAll 191 = .ok (.invokevirtual 28, 3) := by decide +kernel
theorem dX4_ofAll_194 : decode cX4_ofAll 194 = .ok (.ireturn, 1) := by decide +kernel
theorem dX4_ofAll_195 : decode cX4_ofAll 195 = .ok (.aload_n 0, 1) := by decide +kernel
theorem dX4_ofAll_196 : decode cX4_ofAll 196 = .ok (.getfield 9, 3) := by decide +kernel
theorem dX4_ofAll_199 : decode cX4_ofAll 199 = .ok (.bipush 8, 2) := by decide +kernel
theorem dX4_ofAll_201 : decode cX4_ofAll 201 = .ok (.invokevirtual 28, 3) := by decide +kernel
theorem dX4_ofAll_204 : decode cX4_ofAll 204 = .ok (.ireturn, 1) := by decide +kernel
theorem dX4_ofAll_205 : decode cX4_ofAll 205 = .ok (.aload_n 0, 1) := by decide +kernel
theorem dX4_ofAll_206 : decode cX4_ofAll 206 = .ok (.getfield 9, 3) := by decide +kernel
theorem dX4_ofAll_209 : decode cX4_ofAll 209 = .ok (.bipush 9, 2) := by decide +kernel
theorem dX4_ofAll_211 : decode cX4_ofAll 211 = .ok (.invokevirtual 28, 3) := by decide +kernel
theorem dX4_ofAll_214 : decode cX4_ofAll 214 = .ok (.ireturn, 1) := by decide +kernel
theorem dX4_ofAll_215 : decode cX4_ofAll 215 = .ok (.aload_n 0, 1) := by decide +kernel
theorem dX4_ofAll_216 : decode cX4_ofAll 216 = .ok (.getfield 9, 3) := by decide +kernel
theorem dX4_ofAll_219 : decode cX4_ofAll 219 = .ok (.iconst 2, 1) := by decide +kernel
theorem dX4_ofAll_220 : decode cX4_ofAll 220 = .ok (.invokevirtual 28, 3) := by decide +kernel
theorem dX4_ofAll_223 : decode cX4_ofAll 223 = .ok (.ireturn, 1) := by decide +kernel
theorem dX4_ofAll_224 : decode cX4_ofAll 224 = .ok (.aload_n 0, 1) := by decide +kernel
theorem dX4_ofAll_225 : decode cX4_ofAll 225 = .ok (.getfield 9, 3) := by decide +kernel
theorem dX4_ofAll_228 : decode cX4_ofAll 228 = .ok (.iconst 3, 1) := by decide +kernel
theorem dX4_ofAll_229 : decode cX4_ofAll 229 = .ok (.invokevirtual 28, 3) := by decide +kernel
theorem dX4_ofAll_232 : decode cX4_ofAll 232 = .ok (.ireturn, 1) := by decide +kernel
theorem dX4_ofAll_233 : decode cX4_ofAll 233 = .ok (.ldc 24, 2) := by decide +kernel
theorem dX4_ofAll_235 : decode cX4_ofAll 235 = .ok (.ireturn, 1) := by decide +kernel
set_option maxRecDepth 20000 in
theorem ggX4_daysSafe_X4_safeRows : GoodIn wsX4_daysSafe wsX4_safeRows := goodIn_r _ [7, 2, 8, 9, 10, 11, 12, 13, 14, 15, 16, 17, 18, 19, 20, 21, 22, 23, 24, 25, 26, 27, 28, 29, 30, 31, 32, 33, 34, 35, 36, 37, 38, 39, 40, 41, 42, 43, 44, 45, 46, 47, 48, 49, 6, 50, 51, 52, 53, 54, 68, 69] (by decide +kernel) (by decide +kernel)
set_option maxRecDepth 20000 in
theorem gX4_daysSafe_X4_safeRows : GoodIn wsX4_daysSafe (wsV RX4 74 RX4 yX4_safeRows wsX4_safeRows) := goodIn_app (goodIn_of _ (by decide +kernel)) ggX4_daysSafe_X4_safeRows
set_option maxRecDepth 20000 in
theorem ggX4_daysSafe_X3_get : GoodIn wsX4_daysSafe wsX3_get := goodIn_r _ [12, 13, 69] (by decide +kernel) (by decide +kernel)
set_option maxRecDepth 20000 in
theorem gX4_daysSafe_X3_get : GoodIn wsX4_daysSafe (wsV RX4 28 RX3 yX3_get wsX3_get) := goodIn_app (goodIn_of _ (by decide +kernel)) ggX4_daysSafe_X3_get
set_option maxRecDepth 20000 in
theorem ggX4_daysSafe_X4_daysUntilFaded : GoodIn wsX4_daysSafe wsX4_daysUntilFaded := goodIn_r _ [58, 1, 2, 59, 60, 61, 62, 63, 24, 25, 11, 26, 27, 28, 29, 30, 31, 32, 33, 18, 9, 10, 12, 13, 34, 35, 36, 37, 38, 39, 40, 41, 42, 43, 51, 52, 53, 6, 54, 8, 64, 65, 66, 67, 68, 69] (by decide +kernel) (by decide +kernel)
set_option maxRecDepth 20000 in
theorem gX4_daysSafe_X4_daysUntilFaded : GoodIn wsX4_daysSafe (wsV RX4 89 RX4 yX4_daysUntilFaded wsX4_daysUntilFaded) := goodIn_app (goodIn_of _ (by decide +kernel)) ggX4_daysSafe_X4_daysUntilFaded
theorem dX4_daysSafe_0 : decode cX4_daysSafe 0 = .ok (.aload_n 0, 1) := by decide +kernel
theorem dX4_daysSafe_1 : decode cX4_daysSafe 1 = .ok (.invokevirtual 74, 3) := by decide +kernel
theorem dX4_daysSafe_4 : decode cX4_daysSafe 4 = .ok (.istore_n 1, 1) := by decide +kernel
theorem dX4_daysSafe_5 : decode cX4_daysSafe 5 = .ok (.ldc 36, 2) := by decide +kernel
theorem dX4_daysSafe_7 : decode cX4_daysSafe 7 = .ok (.istore_n 2, 1) := by decide +kernel
theorem dX4_daysSafe_8 : decode cX4_daysSafe 8 = .ok (.iconst 0, 1) := by decide +kernel
theorem dX4_daysSafe_9 : decode cX4_daysSafe 9 = .ok (.istore_n 3, 1) := by decide +kernel
theorem dX4_daysSafe_10 : decode cX4_daysSafe 10 = .ok (.iload_n 3, 1) := by decide +kernel
theorem dX4_daysSafe_11 : decode cX4_daysSafe 11 = .ok (.aload_n 0, 1) := by decide +kernel
theorem dX4_daysSafe_12 : decode cX4_daysSafe 12 = .ok (.getfield 9, 3) := by decide +kernel
theorem dX4_daysSafe_15 : decode cX4_daysSafe 15 = .ok (.iconst 1, 1) := by decide +kernel
theorem dX4_daysSafe_16 : decode cX4_daysSafe 16 = .ok (.invokevirtual 28, 3) := by decide +kernel
theorem dX4_daysSafe_19 : decode cX4_daysSafe 19 = .ok (.if_icmp .ge 47, 3) := by decide +kernel
theorem dX4_daysSafe_22 : decode cX4_daysSafe 22 = .ok (.iload_n 1, 1) := by decide +kernel
theorem dX4_daysSafe_23 : decode cX4_daysSafe 23 = .ok (.iload_n 3, 1) := by decide +kernel
theorem dX4_daysSafe_24 : decode cX4_daysSafe 24 = .ok (.ishr, 1) := by decide +kernel
theorem dX4_daysSafe_25 : decode cX4_daysSafe 25 = .ok (.iconst 1, 1) := by decide +kernel
theorem dX4_daysSafe_26 : decode cX4_daysSafe 26 = .ok (.iand, 1) := by decide +kernel
theorem dX4_daysSafe_27 : decode cX4_daysSafe 27 = .ok (.iconst 1, 1) := by decide +kernel
theorem dX4_daysSafe_28 : decode cX4_daysSafe 28 = .ok (.if_icmp .ne 32, 3) := by decide +kernel
theorem dX4_daysSafe_31 : decode cX4_daysSafe 31 = .ok (.aload_n 0, 1) := by decide +kernel
theorem dX4_daysSafe_32 : decode cX4_daysSafe 32 = .ok (.iload_n 3, 1) := by decide +kernel
theorem dX4_daysSafe_33 : decode cX4_daysSafe 33 = .ok (.invokevirtual 89, 3) := by decide +kernel
theorem dX4_daysSafe_36 : decode cX4_daysSafe 36 = .ok (.istore 4, 2) := by decide +kernel
theorem dX4_daysSafe_38 : decode cX4_daysSafe 38 = .ok (.iload 4, 2) := by decide +kernel
theorem dX4_daysSafe_40 : decode cX4_daysSafe 40 = .ok (.ldc 36, 2) := by decide +kernel
theorem dX4_daysSafe_42 : decode cX4_daysSafe 42 = .ok (.if_icmp .eq 18, 3) := by decide +kernel
theorem dX4_daysSafe_45 : decode cX4_daysSafe 45 = .ok (.iload_n 2, 1) := by decide +kernel
theorem dX4_daysSafe_46 : decode cX4_daysSafe 46 = .ok (.ldc 36, 2) := by decide +kernel
theorem dX4_daysSafe_48 : decode cX4_daysSafe 48 = .ok (.if_icmp .eq 9, 3) := by decide +kernel
theorem dX4_daysSafe_51 : decode cX4_daysSafe 51 = .ok (.iload 4, 2) := by decide +kernel
theorem dX4_daysSafe_53 : decode cX4_daysSafe 53 = .ok (.iload_n 2, 1) := by decide +kernel
theorem dX4_daysSafe_54 : decode cX4_daysSafe 54 = .ok (.if_icmp .ge 6, 3) := by decide +kernel
theorem dX4_daysSafe_57 : decode cX4_daysSafe 57 = .ok (.iload 4, 2) := by decide +kernel
theorem dX4_daysSafe_59 : decode cX4_daysSafe 59 = .ok (.istore_n 2, 1) := by decide +kernel
theorem dX4_daysSafe_60 : decode cX4_daysSafe 60 = .ok (.iinc 3 1, 3) := by decide +kernel
theorem dX4_daysSafe_63 : decode cX4_daysSafe 63 = .ok (.goto (-53), 3) := by decide +kernel
theorem dX4_daysSafe_66 : decode cX4_daysSafe 66 = .ok (.iload_n 2, 1) := by decide +kernel
theorem dX4_daysSafe_67 : decode cX4_daysSafe 67 = .ok (.ireturn, 1) := by decide +kernel
set_option maxRecDepth 20000 in
theorem ggX4_daysUntilFaded_X3_freshEcho : GoodIn wsX4_daysUntilFaded wsX3_freshEcho := goodIn_r _ [11, 12, 13, 10, 14, 15, 16, 17, 18, 19, 20, 21, 22, 23, 24, 25, 26, 27, 28, 29, 30, 31, 32, 33, 45] (by decide +kernel) (by decide +kernel)
set_option maxRecDepth 20000 in
theorem gX4_daysUntilFaded_X3_freshEcho : GoodIn wsX4_daysUntilFaded (wsV RX4 32 RX3 yX3_freshEcho wsX3_freshEcho) := goodIn_app (goodIn_of _ (by decide +kernel)) ggX4_daysUntilFaded_X3_freshEcho
set_option maxRecDepth 20000 in
theorem ggX4_daysUntilFaded_X4_isKnown : GoodIn wsX4_daysUntilFaded wsX4_isKnown := goodIn_r _ [38, 2, 39, 20, 21, 10, 22, 23, 44, 45] (by decide +kernel) (by decide +kernel)
set_option maxRecDepth 20000 in
theorem gX4_daysUntilFaded_X4_isKnown : GoodIn wsX4_daysUntilFaded (wsV RX4 92 RX4 yX4_isKnown wsX4_isKnown) := goodIn_app (goodIn_of _ (by decide +kernel)) ggX4_daysUntilFaded_X4_isKnown
set_option maxRecDepth 20000 in
theorem ggX4_daysUntilFaded_X3_ageOf : GoodIn wsX4_daysUntilFaded wsX3_ageOf := goodIn_r _ [43, 19, 20, 21, 10, 22, 23, 31, 32, 33, 45] (by decide +kernel) (by decide +kernel)
set_option maxRecDepth 20000 in
theorem gX4_daysUntilFaded_X3_ageOf : GoodIn wsX4_daysUntilFaded (wsV RX4 40 RX3 yX3_ageOf wsX3_ageOf) := goodIn_app (goodIn_of _ (by decide +kernel)) ggX4_daysUntilFaded_X3_ageOf
set_option maxRecDepth 20000 in
theorem ggX4_daysUntilFaded_X3_get : GoodIn wsX4_daysUntilFaded wsX3_get := goodIn_r _ [22, 23, 45] (by decide +kernel) (by decide +kernel)
set_option maxRecDepth 20000 in
theorem gX4_daysUntilFaded_X3_get : GoodIn wsX4_daysUntilFaded (wsV RX4 28 RX3 yX3_get wsX3_get) := goodIn_app (goodIn_of _ (by decide +kernel)) ggX4_daysUntilFaded_X3_get
theorem dX4_daysUntilFaded_0 : decode cX4_daysUntilFaded 0 = .ok (.ldc 36, 2) := by decide +kernel
theorem dX4_daysUntilFaded_2 : decode cX4_daysUntilFaded 2 = .ok (.istore_n 2, 1) := by decide +kernel
theorem dX4_daysUntilFaded_3 : decode cX4_daysUntilFaded 3 = .ok (.iconst 0, 1) := by decide +kernel
theorem dX4_daysUntilFaded_4 : decode cX4_daysUntilFaded 4 = .ok (.istore_n 3, 1) := by decide +kernel
theorem dX4_daysUntilFaded_5 : decode cX4_daysUntilFaded 5 = .ok (.iload_n 3, 1) := by decide +kernel
theorem dX4_daysUntilFaded_6 : decode cX4_daysUntilFaded 6 = .ok (.bipush 8, 2) := by decide +kernel
theorem dX4_daysUntilFaded_8 : decode cX4_daysUntilFaded 8 = .ok (.if_icmp .ge 49, 3) := by decide +kernel
theorem dX4_daysUntilFaded_11 : decode cX4_daysUntilFaded 11 = .ok (.aload_n 0, 1) := by decide +kernel
theorem dX4_daysUntilFaded_12 : decode cX4_daysUntilFaded 12 = .ok (.getfield 9, 3) := by decide +kernel
theorem dX4_daysUntilFaded_15 : decode cX4_daysUntilFaded 15 = .ok (.iload_n 1, 1) := by decide +kernel
theorem dX4_daysUntilFaded_16 : decode cX4_daysUntilFaded 16 = .ok (.iload_n 3, 1) := by decide +kernel
theorem dX4_daysUntilFaded_17 : decode cX4_daysUntilFaded 17 = .ok (.invokevirtual 32, 3) := by decide +kernel
theorem dX4_daysUntilFaded_20 : decode cX4_daysUntilFaded 20 = .ok (.istore 4, 2) := by decide +kernel
theorem dX4_daysUntilFaded_22 : decode cX4_daysUntilFaded 22 = .ok (.aload_n 0, 1) := by decide +kernel
theorem dX4_daysUntilFaded_23 : decode cX4_daysUntilFaded 23 = .ok (.iload_n 1, 1) := by decide +kernel
theorem dX4_daysUntilFaded_24 : decode cX4_daysUntilFaded 24 = .ok (.iload_n 3, 1) := by decide +kernel
theorem dX4_daysUntilFaded_25 : decode cX4_daysUntilFaded 25 = .ok (.invokevirtual 92, 3) := by decide +kernel
theorem dX4_daysUntilFaded_28 : decode cX4_daysUntilFaded 28 = .ok (.ifCond .eq 23, 3) := by decide +kernel
theorem dX4_daysUntilFaded_31 : decode cX4_daysUntilFaded 31 = .ok (.iload 4, 2) := by decide +kernel
theorem dX4_daysUntilFaded_33 : decode cX4_daysUntilFaded 33 = .ok (.iconst (-1), 1) := by decide +kernel
theorem dX4_daysUntilFaded_34 : decode cX4_daysUntilFaded 34 = .ok (.if_icmp .eq 17, 3) := by decide +kernel
theorem dX4_daysUntilFaded_37 : decode cX4_daysUntilFaded 37 = .ok (.iload_n 2, 1) := by decide +kernel
theorem dX4_daysUntilFaded_38 : decode cX4_daysUntilFaded 38 = .ok (.aload_n 0, 1) := by decide +kernel
theorem dX4_daysUntilFaded_39 : decode cX4_daysUntilFaded 39 = .ok (.getfield 9, 3) := by decide +kernel
theorem dX4_daysUntilFaded_42 : decode cX4_daysUntilFaded 42 = .ok (.iload 4, 2) := by decide +kernel
theorem dX4_daysUntilFaded_44 : decode cX4_daysUntilFaded 44 = .ok (.invokevirtual 40, 3) := by decide +kernel
theorem dX4_daysUntilFaded_47 : decode cX4_daysUntilFaded 47 = .ok (.invokestatic 65, 3) := by decide +kernel
theorem dX4_daysUntilFaded_50 : decode cX4_daysUntilFaded 50 = .ok (.istore_n 2, 1) := by decide +kernel
theorem dX4_daysUntilFaded_51 : decode cX4_daysUntilFaded 51 = .ok (.iinc 3 1, 3) := by decide +kernel
theorem dX4_daysUntilFaded_54 : decode cX4_daysUntilFaded 54 = .ok (.goto (-49), 3) := by decide +kernel
theorem dX4_daysUntilFaded_57 : decode cX4_daysUntilFaded 57 = .ok (.iload_n 2, 1) := by decide +kernel
theorem dX4_daysUntilFaded_58 : decode cX4_daysUntilFaded 58 = .ok (.ldc 36, 2) := by decide +kernel
theorem dX4_daysUntilFaded_60 : decode cX4_daysUntilFaded 60 = .ok (.if_icmp .ne 8, 3) := by decide +kernel
theorem dX4_daysUntilFaded_63 : decode cX4_daysUntilFaded 63 = .ok (.ldc 36, 2) := by decide +kernel
theorem dX4_daysUntilFaded_65 : decode cX4_daysUntilFaded 65 = .ok (.goto 15, 3) := by decide +kernel
theorem dX4_daysUntilFaded_68 : decode cX4_daysUntilFaded 68 = .ok (.aload_n 0, 1) := by decide +kernel
theorem dX4_daysUntilFaded_69 : decode cX4_daysUntilFaded 69 = .ok (.getfield 9, 3) := by decide +kernel
theorem dX4_daysUntilFaded_72 : decode cX4_daysUntilFaded 72 = .ok (.iconst 3, 1) := by decide +kernel
theorem dX4_daysUntilFaded_73 : decode cX4_daysUntilFaded 73 = .ok (.invokevirtual 28, 3) := by decide +kernel
theorem dX4_daysUntilFaded_76 : decode cX4_daysUntilFaded 76 = .ok (.iload_n 2, 1) := by decide +kernel
theorem dX4_daysUntilFaded_77 : decode cX4_daysUntilFaded 77 = .ok (.isub, 1) := by decide +kernel
theorem dX4_daysUntilFaded_78 : decode cX4_daysUntilFaded 78 = .ok (.iconst 1, 1) := by decide +kernel
theorem dX4_daysUntilFaded_79 : decode cX4_daysUntilFaded 79 = .ok (.iadd, 1) := by decide +kernel
theorem dX4_daysUntilFaded_80 : decode cX4_daysUntilFaded 80 = .ok (.ireturn, 1) := by decide +kernel
set_option maxRecDepth 20000 in
theorem ggX4_meanAge_X4_freshEchoes : GoodIn wsX4_meanAge wsX4_freshEchoes := goodIn_r _ [7, 2, 8, 9, 10, 11, 12, 13, 14, 15, 16, 6, 17, 18, 19, 20, 21, 22, 23, 24, 25, 34, 35] (by decide +kernel) (by decide +kernel)
set_option maxRecDepth 20000 in
theorem gX4_meanAge_X4_freshEchoes : GoodIn wsX4_meanAge (wsV RX4 80 RX4 yX4_freshEchoes wsX4_freshEchoes) := goodIn_app (goodIn_of _ (by decide +kernel)) ggX4_meanAge_X4_freshEchoes
set_option maxRecDepth 20000 in
theorem ggX4_meanAge_X3_get : GoodIn wsX4_meanAge wsX3_get := goodIn_r _ [12, 13, 35] (by decide +kernel) (by decide +kernel)
set_option maxRecDepth 20000 in
theorem gX4_meanAge_X3_get : GoodIn wsX4_meanAge (wsV RX4 28 RX3 yX3_get wsX3_get) := goodIn_app (goodIn_of _ (by decide +kernel)) ggX4_meanAge_X3_get
set_option maxRecDepth 20000 in
theorem ggX4_meanAge_X4_echoIn : GoodIn wsX4_meanAge wsX4_echoIn := goodIn_r _ [17, 2, 8, 9, 10, 11, 12, 13, 34, 35] (by decide +kernel) (by decide +kernel)
set_option maxRecDepth 20000 in
theorem gX4_meanAge_X4_echoIn : GoodIn wsX4_meanAge (wsV RX4 43 RX4 yX4_echoIn wsX4_echoIn) := goodIn_app (goodIn_of _ (by decide +kernel)) ggX4_meanAge_X4_echoIn
set_option maxRecDepth 20000 in
theorem ggX4_meanAge_X3_isFaded : GoodIn wsX4_meanAge wsX3_isFaded := goodIn_r _ [21, 22, 9, 10, 11, 12, 13, 23, 24, 25, 35] (by decide +kernel) (by decide +kernel)
set_option maxRecDepth 20000 in
theorem gX4_meanAge_X3_isFaded : GoodIn wsX4_meanAge (wsV RX4 49 RX3 yX3_isFaded wsX3_isFaded) := goodIn_app (goodIn_of _ (by decide +kernel)) ggX4_meanAge_X3_isFaded
set_option maxRecDepth 20000 in
theorem ggX4_meanAge_X3_ageOf : GoodIn wsX4_meanAge wsX3_ageOf := goodIn_r _ [29, 22, 9, 10, 11, 12, 13, 23, 24, 25, 35] (by decide +kernel) (by decide +kernel)
set_option maxRecDepth 20000 in
theorem gX4_meanAge_X3_ageOf : GoodIn wsX4_meanAge (wsV RX4 40 RX3 yX3_ageOf wsX3_ageOf) := goodIn_app (goodIn_of _ (by decide +kernel)) ggX4_meanAge_X3_ageOf
set_option maxRecDepth 20000 in
theorem ggX4_meanAge_X4_bitsOf : GoodIn wsX4_meanAge wsX4_bitsOf := goodIn_r _ [32, 33] (by decide +kernel) (by decide +kernel)
set_option maxRecDepth 20000 in
theorem gX4_meanAge_X4_bitsOf : GoodIn wsX4_meanAge (va_wsS RX4 96 yX4_bitsOf wsX4_bitsOf) := goodIn_app (goodIn_of _ (by decide +kernel)) ggX4_meanAge_X4_bitsOf
theorem dX4_meanAge_0 : decode cX4_meanAge 0 = .ok (.aload_n 0, 1) := by decide +kernel
theorem dX4_meanAge_1 : decode cX4_meanAge 1 = .ok (.invokevirtual 80, 3) := by decide +kernel
theorem dX4_meanAge_4 : decode cX4_meanAge 4 = .ok (.istore_n 1, 1) := by decide +kernel
theorem dX4_meanAge_5 : decode cX4_meanAge 5 = .ok (.iload_n 1, 1) := by decide +kernel
theorem dX4_meanAge_6 : decode cX4_meanAge 6 = .ok (.ifCond .ne 6, 3) := by decide +kernel
theorem dX4_meanAge_9 : decode cX4_meanAge 9 = .ok (.ldc 36, 2) := by decide +kernel
theorem dX4_meanAge_11 : decode cX4_meanAge 11 = .ok (.ireturn, 1) := by decide +kernel
theorem dX4_meanAge_12 : decode cX4_meanAge 12 = .ok (.iconst 0, 1) := by decide +kernel
theorem dX4_meanAge_13 : decode cX4_meanAge 13 = .ok (.istore_n 2, 1) := by decide +kernel
theorem dX4_meanAge_14 : decode cX4_meanAge 14 = .ok (.iconst 0, 1) := by decide +kernel
theorem dX4_meanAge_15 : decode cX4_meanAge 15 = .ok (.istore_n 3, 1) := by decide +kernel
theorem dX4_meanAge_16 : decode cX4_meanAge 16 = .ok (.iload_n 3, 1) := by decide +kernel
theorem dX4_meanAge_17 : decode cX4_meanAge 17 = .ok (.aload_n 0, 1) := by decide +kernel
theorem dX4_meanAge_18 : decode cX4_meanAge 18 = .ok (.getfield 9, 3) := by decide +kernel
theorem dX4_meanAge_21 : decode cX4_meanAge 21 = .ok (.iconst 1, 1) := by decide +kernel
theorem dX4_meanAge_22 : decode cX4_meanAge 22 = .ok (.invokevirtual 28, 3) := by decide +kernel
theorem dX4_meanAge_25 : decode cX4_meanAge 25 = .ok (.if_icmp .ge 71, 3) := by decide +kernel
theorem dX4_meanAge_28 : decode cX4_meanAge 28 = .ok (.iconst 0, 1) := by decide +kernel
theorem dX4_meanAge_29 : decode cX4_meanAge 29 = .ok (.istore 4, 2) := by decide +kernel
theorem dX4_meanAge_31 : decode cX4_meanAge 31 = .ok (.iload 4, 2) := by decide +kernel
theorem dX4_meanAge_33 : decode cX4_meanAge 33 = .ok (.aload_n 0, 1) := by decide +kernel
theorem dX4_meanAge_34 : decode cX4_meanAge 34 = .ok (.getfield 9, 3) := by decide +kernel
theorem dX4_meanAge_37 : decode cX4_meanAge 37 = .ok (.bipush 55, 2) := by decide +kernel
theorem dX4_meanAge_39 : decode cX4_meanAge 39 = .ok (.iload_n 3, 1) := by decide +kernel
theorem dX4_meanAge_40 : decode cX4_meanAge 40 = .ok (.iadd, 1) := by decide +kernel
theorem dX4_meanAge_41 : decode cX4_meanAge 41 = .ok (.invokevirtual 28, 3) := by decide +kernel
theorem dX4_meanAge_44 : decode cX4_meanAge 44 = .ok (.if_icmp .ge 46, 3) := by decide +kernel
theorem dX4_meanAge_47 : decode cX4_meanAge 47 = .ok (.aload_n 0, 1) := by decide +kernel
theorem dX4_meanAge_48 : decode cX4_meanAge 48 = .ok (.iload_n 3, 1) := by decide +kernel
theorem dX4_meanAge_49 : decode cX4_meanAge 49 = .ok (.iload 4, 2) := by decide +kernel
theorem dX4_meanAge_51 : decode cX4_meanAge 51 = .ok (.invokevirtual 43, 3) := by decide +kernel
theorem dX4_meanAge_54 : decode cX4_meanAge 54 = .ok (.istore 5, 2) := by decide +kernel
theorem dX4_meanAge_56 : decode cX4_meanAge 56 = .ok (.iload_n 2, 1) := by decide +kernel
theorem dX4_meanAge_57 : decode cX4_meanAge 57 = .ok (.aload_n 0, 1) := by decide +kernel
theorem dX4_meanAge_58 : decode cX4_meanAge 58 = .ok (.getfield 9, 3) := by decide +kernel
theorem dX4_meanAge_61 : decode cX4_meanAge 61 = .ok (.iload 5, 2) := by decide +kernel
theorem dX4_meanAge_63 : decode cX4_meanAge 63 = .ok (.invokevirtual 49, 3) := by decide +kernel
theorem dX4_meanAge_66 : decode cX4_meanAge 66 = .ok (.ifCond .eq 7, 3) := by decide +kernel
theorem dX4_meanAge_69 : decode cX4_meanAge 69 = .ok (.iconst 0, 1) := by decide +kernel
theorem dX4_meanAge_70 : decode cX4_meanAge 70 = .ok (.goto 12, 3) := by decide +kernel
theorem dX4_meanAge_73 : decode cX4_meanAge 73 = .ok (.aload_n 0, 1) := by decide +kernel
theorem dX4_meanAge_74 : decode cX4_meanAge 74 = .ok (.getfield 9, 3) := by decide +kernel
theorem dX4_meanAge_77 : decode cX4_meanAge 77 = .ok (.iload 5, 2) := by decide +kernel
theorem dX4_meanAge_79 : decode cX4_meanAge 79 = .ok (.invokevirtual 40, 3) := by decide +kernel
theorem dX4_meanAge_82 : decode cX4_meanAge 82 = .ok (.iadd, 1) := by decide +kernel
theorem dX4_meanAge_83 : decode cX4_meanAge 83 = .ok (.istore_n 2, 1) := by decide +kernel
theorem dX4_meanAge_84 : decode cX4_meanAge 84 = .ok (.iinc 4 1, 3) := by decide +kernel
theorem dX4_meanAge_87 : decode cX4_meanAge 87 = .ok (.goto (-56), 3) := by decide +kernel
theorem dX4_meanAge_90 : decode cX4_meanAge 90 = .ok (.iinc 3 1, 3) := by decide +kernel
theorem dX4_meanAge_93 : decode cX4_meanAge 93 = .ok (.goto (-77), 3) := by decide +kernel
theorem dX4_meanAge_96 : decode cX4_meanAge 96 = .ok (.iload_n 2, 1) := by decide +kernel
theorem dX4_meanAge_97 : decode cX4_meanAge 97 = .ok (.i2f, 1) := by decide +kernel
theorem dX4_meanAge_98 : decode cX4_meanAge 98 = .ok (.iload_n 1, 1) := by decide +kernel
theorem dX4_meanAge_99 : decode cX4_meanAge 99 = .ok (.i2f, 1) := by decide +kernel
theorem dX4_meanAge_100 : decode cX4_meanAge 100 = .ok (.fdiv, 1) := by decide +kernel
theorem dX4_meanAge_101 : decode cX4_meanAge 101 = .ok (.invokestatic 96, 3) := by decide +kernel
theorem dX4_meanAge_104 : decode cX4_meanAge 104 = .ok (.ireturn, 1) := by decide +kernel
set_option maxRecDepth 20000 in
theorem ggX4_shareComingBack_X3_get : GoodIn wsX4_shareComingBack wsX3_get := goodIn_r _ [7, 8, 48] (by decide +kernel) (by decide +kernel)
set_option maxRecDepth 20000 in
theorem gX4_shareComingBack_X3_get : GoodIn wsX4_shareComingBack (wsV RX4 28 RX3 yX3_get wsX3_get) := goodIn_app (goodIn_of _ (by decide +kernel)) ggX4_shareComingBack_X3_get
set_option maxRecDepth 20000 in
theorem ggX4_shareComingBack_X3_lives : GoodIn wsX4_shareComingBack wsX3_lives := goodIn_r _ [12, 13, 4, 5, 6, 7, 8, 48] (by decide +kernel) (by decide +kernel)
set_option maxRecDepth 20000 in
theorem gX4_shareComingBack_X3_lives : GoodIn wsX4_shareComingBack (wsV RX4 25 RX3 yX3_lives wsX3_lives) := goodIn_app (goodIn_of _ (by decide +kernel)) ggX4_shareComingBack_X3_lives
set_option maxRecDepth 20000 in
theorem ggX4_shareComingBack_X3_comingBack : GoodIn wsX4_shareComingBack wsX3_comingBack := goodIn_r _ [17, 18, 19, 20, 6, 21, 22, 23, 24, 25, 26, 27, 28, 13, 4, 5, 7, 8, 29, 30, 31, 32, 33, 34, 35, 36, 37, 38, 39, 40, 41, 48] (by decide +kernel) (by decide +kernel)
set_option maxRecDepth 20000 in
theorem gX4_shareComingBack_X3_comingBack : GoodIn wsX4_shareComingBack (wsV RX4 61 RX3 yX3_comingBack wsX3_comingBack) := goodIn_app (goodIn_of _ (by decide +kernel)) ggX4_shareComingBack_X3_comingBack
set_option maxRecDepth 20000 in
theorem ggX4_shareComingBack_X4_bitsOf : GoodIn wsX4_shareComingBack wsX4_bitsOf := goodIn_r _ [45, 46] (by decide +kernel) (by decide +kernel)
set_option maxRecDepth 20000 in
theorem gX4_shareComingBack_X4_bitsOf : GoodIn wsX4_shareComingBack (va_wsS RX4 96 yX4_bitsOf wsX4_bitsOf) := goodIn_app (goodIn_of _ (by decide +kernel)) ggX4_shareComingBack_X4_bitsOf
theorem dX4_shareComingBack_0 : decode cX4_shareComingBack 0 = .ok (.iconst 0, 1) := by decide +kernel
theorem dX4_shareComingBack_1 : decode cX4_shareComingBack 1 = .ok (.istore_n 1, 1) := by decide +kernel
theorem dX4_shareComingBack_2 : decode cX4_shareComingBack 2 = .ok (.iconst 0, 1) := by decide +kernel
theorem dX4_shareComingBack_3 : decode cX4_shareComingBack 3 = .ok (.istore_n 2, 1) := by decide +kernel
theorem dX4_shareComingBack_4 : decode cX4_shareComingBack 4 = .ok (.iconst 0, 1) := by decide +kernel
theorem dX4_shareComingBack_5 : decode cX4_shareComingBack 5 = .ok (.istore_n 3, 1) := by decide +kernel
theorem dX4_shareComingBack_6 : decode cX4_shareComingBack 6 = .ok (.iload_n 3, 1) := by decide +kernel
theorem dX4_shareComingBack_7 : decode cX4_shareComingBack 7 = .ok (.aload_n 0, 1) := by decide +kernel
theorem dX4_shareComingBack_8 : decode cX4_shareComingBack 8 = .ok (.getfield 9, 3) := by decide +kernel
theorem dX4_shareComingBack_11 : decode cX4_shareComingBack 11 = .ok (.iconst 1, 1) := by decide +kernel
theorem dX4_shareComingBack_12 : decode cX4_shareComingBack 12 = .ok (.invokevirtual 28, 3) := by decide +kernel
theorem dX4_shareComingBack_15 : decode cX4_shareComingBack 15 = .ok (.if_icmp .ge 34, 3) := by decide +kernel
theorem dX4_shareComingBack_18 : decode cX4_shareComingBack 18 = .ok (.aload_n 0, 1) := by decide +kernel
theorem dX4_shareComingBack_19 : decode cX4_shareComingBack 19 = .ok (.getfield 9, 3) := by decide +kernel
theorem dX4_shareComingBack_22 : decode cX4_shareComingBack 22 = .ok (.iload_n 3, 1) := by decide +kernel
theorem dX4_shareComingBack_23 : decode cX4_shareComingBack 23 = .ok (.invokevirtual 25, 3) := by decide +kernel
theorem dX4_shareComingBack_26 : decode cX4_shareComingBack 26 = .ok (.ifCond .eq 17, 3) := by decide +kernel
theorem dX4_shareComingBack_29 : decode cX4_shareComingBack 29 = .ok (.iload_n 1, 1) := by decide +kernel
theorem dX4_shareComingBack_30 : decode cX4_shareComingBack 30 = .ok (.aload_n 0, 1) := by decide +kernel
theorem dX4_shareComingBack_31 : decode cX4_shareComingBack 31 = .ok (.getfield 9, 3) := by decide +kernel
theorem dX4_shareComingBack_34 : decode cX4_shareComingBack 34 = .ok (.iload_n 3, 1) := by decide +kernel
theorem dX4_shareComingBack_35 : decode cX4_shareComingBack 35 = .ok (.invokevirtual 61, 3) := by decide +kernel
theorem dX4_shareComingBack_38 : decode cX4_shareComingBack 38 = .ok (.iadd, 1) := by decide +kernel
theorem dX4_shareComingBack_39 : decode cX4_shareComingBack 39 = .ok (.istore_n 1, 1) := by decide +kernel
theorem dX4_shareComingBack_40 : decode cX4_shareComingBack 40 = .ok (.iinc 2 8, 3) := by decide +kernel
theorem dX4_shareComingBack_43 : decode cX4_shareComingBack 43 = .ok (.iinc 3 1, 3) := by decide +kernel
theorem dX4_shareComingBack_46 : decode cX4_shareComingBack 46 = .ok (.goto (-40), 3) := by decide +kernel
theorem dX4_shareComingBack_49 : decode cX4_shareComingBack 49 = .ok (.iload_n 2, 1) := by decide +kernel
theorem dX4_shareComingBack_50 : decode cX4_shareComingBack 50 = .ok (.ifCond .ne 8, 3) := by decide +kernel
theorem dX4_shareComingBack_53 : decode cX4_shareComingBack 53 = .ok (.ldc 36, 2) := by decide +kernel
theorem dX4_shareComingBack_55 : decode cX4_shareComingBack 55 = .ok (.goto 11, 3) := by decide +kernel
theorem dX4_shareComingBack_58 : decode cX4_shareComingBack 58 = .ok (.iload_n 1, 1) := by decide +kernel
theorem dX4_shareComingBack_59 : decode cX4_shareComingBack 59 = .ok (.i2f, 1) := by decide +kernel
theorem dX4_shareComingBack_60 : decode cX4_shareComingBack 60 = .ok (.iload_n 2, 1) := by decide +kernel
theorem dX4_shareComingBack_61 : decode cX4_shareComingBack 61 = .ok (.i2f, 1) := by decide +kernel
theorem dX4_shareComingBack_62 : decode cX4_shareComingBack 62 = .ok (.fdiv, 1) := by decide +kernel
theorem dX4_shareComingBack_63 : decode cX4_shareComingBack 63 = .ok (.invokestatic 96, 3) := by decide +kernel
theorem dX4_shareComingBack_66 : decode cX4_shareComingBack 66 = .ok (.ireturn, 1) := by decide +kernel
theorem dX4_bitsOf_0 : decode cX4_bitsOf 0 = .ok (.fload_n 0, 1) := by decide +kernel
theorem dX4_bitsOf_1 : decode cX4_bitsOf 1 = .ok (.fconst 0, 1) := by decide +kernel
theorem dX4_bitsOf_2 : decode cX4_bitsOf 2 = .ok (.fcmp .g, 1) := by decide +kernel
theorem dX4_bitsOf_3 : decode cX4_bitsOf 3 = .ok (.ifCond .gt 5, 3) := by decide +kernel
theorem dX4_bitsOf_6 : decode cX4_bitsOf 6 = .ok (.iconst 0, 1) := by decide +kernel
theorem dX4_bitsOf_7 : decode cX4_bitsOf 7 = .ok (.ireturn, 1) := by decide +kernel
theorem dX4_bitsOf_8 : decode cX4_bitsOf 8 = .ok (.fload_n 0, 1) := by decide +kernel
theorem dX4_bitsOf_9 : decode cX4_bitsOf 9 = .ok (.fstore_n 1, 1) := by decide +kernel
theorem dX4_bitsOf_10 : decode cX4_bitsOf 10 = .ok (.bipush 127, 2) := by decide +kernel
theorem dX4_bitsOf_12 : decode cX4_bitsOf 12 = .ok (.istore_n 2, 1) := by decide +kernel
theorem dX4_bitsOf_13 : decode cX4_bitsOf 13 = .ok (.fload_n 1, 1) := by decide +kernel
theorem dX4_bitsOf_14 : decode cX4_bitsOf 14 = .ok (.fconst 2, 1) := by decide +kernel
theorem dX4_bitsOf_15 : decode cX4_bitsOf 15 = .ok (.fcmp .l, 1) := by decide +kernel
theorem dX4_bitsOf_16 : decode cX4_bitsOf 16 = .ok (.ifCond .lt 20, 3) := by decide +kernel
theorem dX4_bitsOf_19 : decode cX4_bitsOf 19 = .ok (.iload_n 2, 1) := by decide +kernel
theorem dX4_bitsOf_20 : decode cX4_bitsOf 20 = .ok (.sipush 254, 3) := by decide +kernel
theorem dX4_bitsOf_23 : decode cX4_bitsOf 23 = .ok (.if_icmp .ge 13, 3) := by decide +kernel
theorem dX4_bitsOf_26 : decode cX4_bitsOf 26 = .ok (.fload_n 1, 1) := by decide +kernel
theorem dX4_bitsOf_27 : decode cX4_bitsOf 27 = .ok (.fconst 2, 1) := by decide +kernel
theorem dX4_bitsOf_28 : decode cX4_bitsOf 28 = .ok (.fdiv, 1) := by decide +kernel
theorem dX4_bitsOf_29 : decode cX4_bitsOf 29 = .ok (.fstore_n 1, 1) := by decide +kernel
theorem dX4_bitsOf_30 : decode cX4_bitsOf 30 = .ok (.iinc 2 1, 3) := by decide +kernel
theorem dX4_bitsOf_33 : decode cX4_bitsOf 33 = .ok (.goto (-20), 3) := by decide +kernel
theorem dX4_bitsOf_36 : decode cX4_bitsOf 36 = .ok (.fload_n 1, 1) := by decide +kernel
theorem dX4_bitsOf_37 : decode cX4_bitsOf 37 = .ok (.fconst 1, 1) := by decide +kernel
theorem dX4_bitsOf_38 : decode cX4_bitsOf 38 = .ok (.fcmp .g, 1) := by decide +kernel
theorem dX4_bitsOf_39 : decode cX4_bitsOf 39 = .ok (.ifCond .ge 18, 3) := by decide +kernel
theorem dX4_bitsOf_42 : decode cX4_bitsOf 42 = .ok (.iload_n 2, 1) := by decide +kernel
theorem dX4_bitsOf_43 : decode cX4_bitsOf 43 = .ok (.iconst 1, 1) := by decide +kernel
theorem dX4_bitsOf_44 : decode cX4_bitsOf 44 = .ok (.if_icmp .le 13, 3) := by decide +kernel
theorem dX4_bitsOf_47 : decode cX4_bitsOf 47 = .ok (.fload_n 1, 1) := by decide +kernel
theorem dX4_bitsOf_48 : decode cX4_bitsOf 48 = .ok (.fconst 2, 1) := by decide +kernel
theorem dX4_bitsOf_49 : decode cX4_bitsOf 49 = .ok (.fmul, 1) := by decide +kernel
theorem dX4_bitsOf_50 : decode cX4_bitsOf 50 = .ok (.fstore_n 1, 1) := by decide +kernel
theorem dX4_bitsOf_51 : decode cX4_bitsOf 51 = .ok (.iinc 2 (-1), 3) := by decide +kernel
theorem dX4_bitsOf_54 : decode cX4_bitsOf 54 = .ok (.goto (-18), 3) := by decide +kernel
theorem dX4_bitsOf_57 : decode cX4_bitsOf 57 = .ok (.iload_n 2, 1) := by decide +kernel
theorem dX4_bitsOf_58 : decode cX4_bitsOf 58 = .ok (.bipush 23, 2) := by decide +kernel
theorem dX4_bitsOf_60 : decode cX4_bitsOf 60 = .ok (.ishl, 1) := by decide +kernel
theorem dX4_bitsOf_61 : decode cX4_bitsOf 61 = .ok (.fload_n 1, 1) := by decide +kernel
theorem dX4_bitsOf_62 : decode cX4_bitsOf 62 = .ok (.fconst 1, 1) := by decide +kernel
theorem dX4_bitsOf_63 : decode cX4_bitsOf 63 = .ok (.fsub, 1) := by decide +kernel
theorem dX4_bitsOf_64 : decode cX4_bitsOf 64 = .ok (.ldc 100, 2) := by decide +kernel
theorem dX4_bitsOf_66 : decode cX4_bitsOf 66 = .ok (.fmul, 1) := by decide +kernel
theorem dX4_bitsOf_67 : decode cX4_bitsOf 67 = .ok (.f2i, 1) := by decide +kernel
theorem dX4_bitsOf_68 : decode cX4_bitsOf 68 = .ok (.iadd, 1) := by decide +kernel
theorem dX4_bitsOf_69 : decode cX4_bitsOf 69 = .ok (.ireturn, 1) := by decide +kernel
set_option maxRecDepth 20000 in
theorem ggX4_echoIn_X3_get : GoodIn wsX4_echoIn wsX3_get := goodIn_r _ [6, 7, 9] (by decide +kernel) (by decide +kernel)
set_option maxRecDepth 20000 in
theorem gX4_echoIn_X3_get : GoodIn wsX4_echoIn (wsV RX4 28 RX3 yX3_get wsX3_get) := goodIn_app (goodIn_of _ (by decide +kernel)) ggX4_echoIn_X3_get
theorem dX4_echoIn_0 : decode cX4_echoIn 0 = .ok (.aload_n 0, 1) := by decide +kernel
theorem dX4_echoIn_1 : decode cX4_echoIn 1 = .ok (.getfield 9, 3) := by decide +kernel
theorem dX4_echoIn_4 : decode cX4_echoIn 4 = .ok (.sipush 208, 3) := by decide +kernel
theorem dX4_echoIn_7 : decode cX4_echoIn 7 = .ok (.iload_n 1, 1) := by decide +kernel
theorem dX4_echoIn_8 : decode cX4_echoIn 8 = .ok (.bipush 16, 2) := by decide +kernel
theorem dX4_echoIn_10 : decode cX4_echoIn 10 = .ok (.imul, 1) := by decide +kernel
theorem dX4_echoIn_11 : decode cX4_echoIn 11 = .ok (.iadd, 1) := by decide +kernel
theorem dX4_echoIn_12 : decode cX4_echoIn 12 = .ok (.iload_n 2, 1) := by decide +kernel
theorem dX4_echoIn_13 : decode cX4_echoIn 13 = .ok (.iadd, 1) := by decide +kernel
theorem dX4_echoIn_14 : decode cX4_echoIn 14 = .ok (.invokevirtual 28, 3) := by decide +kernel
theorem dX4_echoIn_17 : decode cX4_echoIn 17 = .ok (.ireturn, 1) := by decide +kernel
set_option maxRecDepth 20000 in
theorem ggX4_isKnown_X3_get : GoodIn wsX4_isKnown wsX3_get := goodIn_r _ [6, 7, 9] (by decide +kernel) (by decide +kernel)
set_option maxRecDepth 20000 in
theorem gX4_isKnown_X3_get : GoodIn wsX4_isKnown (wsV RX4 28 RX3 yX3_get wsX3_get) := goodIn_app (goodIn_of _ (by decide +kernel)) ggX4_isKnown_X3_get
theorem dX4_isKnown_0 : decode cX4_isKnown 0 = .ok (.aload_n 0, 1) := by decide +kernel
theorem dX4_isKnown_1 : decode cX4_isKnown 1 = .ok (.getfield 9, 3) := by decide +kernel
theorem dX4_isKnown_4 : decode cX4_isKnown 4 = .ok (.bipush 64, 2) := by decide +kernel
theorem dX4_isKnown_6 : decode cX4_isKnown 6 = .ok (.iload_n 1, 1) := by decide +kernel
theorem dX4_isKnown_7 : decode cX4_isKnown 7 = .ok (.bipush 8, 2) := by decide +kernel
theorem dX4_isKnown_9 : decode cX4_isKnown 9 = .ok (.imul, 1) := by decide +kernel
theorem dX4_isKnown_10 : decode cX4_isKnown 10 = .ok (.iadd, 1) := by decide +kernel
theorem dX4_isKnown_11 : decode cX4_isKnown 11 = .ok (.iload_n 2, 1) := by decide +kernel
theorem dX4_isKnown_12 : decode cX4_isKnown 12 = .ok (.iadd, 1) := by decide +kernel
theorem dX4_isKnown_13 : decode cX4_isKnown 13 = .ok (.invokevirtual 28, 3) := by decide +kernel
theorem dX4_isKnown_16 : decode cX4_isKnown 16 = .ok (.iconst (-1), 1) := by decide +kernel
theorem dX4_isKnown_17 : decode cX4_isKnown 17 = .ok (.if_icmp .eq 7, 3) := by decide +kernel
theorem dX4_isKnown_20 : decode cX4_isKnown 20 = .ok (.iconst 1, 1) := by decide +kernel
theorem dX4_isKnown_21 : decode cX4_isKnown 21 = .ok (.goto 4, 3) := by decide +kernel
theorem dX4_isKnown_24 : decode cX4_isKnown 24 = .ok (.iconst 0, 1) := by decide +kernel
theorem dX4_isKnown_25 : decode cX4_isKnown 25 = .ok (.ireturn, 1) := by decide +kernel
set_option maxRecDepth 20000 in
theorem ggX4_unknownCells_X4_isKnown : GoodIn wsX4_unknownCells wsX4_isKnown := goodIn_r _ [5, 6, 7, 8, 9, 10, 11, 12, 13, 14] (by decide +kernel) (by decide +kernel)
set_option maxRecDepth 20000 in
theorem gX4_unknownCells_X4_isKnown : GoodIn wsX4_unknownCells (wsV RX4 92 RX4 yX4_isKnown wsX4_isKnown) := goodIn_app (goodIn_of _ (by decide +kernel)) ggX4_unknownCells_X4_isKnown
theorem dX4_unknownCells_0 : decode cX4_unknownCells 0 = .ok (.iconst 0, 1) := by decide +kernel
theorem dX4_unknownCells_1 : decode cX4_unknownCells 1 = .ok (.istore_n 2, 1) := by decide +kernel
theorem dX4_unknownCells_2 : decode cX4_unknownCells 2 = .ok (.iconst 0, 1) := by decide +kernel
theorem dX4_unknownCells_3 : decode cX4_unknownCells 3 = .ok (.istore_n 3, 1) := by decide +kernel
theorem dX4_unknownCells_4 : decode cX4_unknownCells 4 = .ok (.iload_n 3, 1) := by decide +kernel
theorem dX4_unknownCells_5 : decode cX4_unknownCells 5 = .ok (.bipush 8, 2) := by decide +kernel
theorem dX4_unknownCells_7 : decode cX4_unknownCells 7 = .ok (.if_icmp .ge 26, 3) := by decide +kernel
