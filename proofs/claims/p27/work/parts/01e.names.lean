theorem dX3_removeEcho_77 : decode cX3_removeEcho 77 = .ok (.invokevirtual 19, 3) := by decide +kernel
theorem dX3_removeEcho_80 : decode cX3_removeEcho 80 = .ok (.return_, 1) := by decide +kernel
set_option maxRecDepth 20000 in
theorem ggX3_dropFirst_X3_get : GoodIn wsX3_dropFirst wsX3_get := goodIn_r _ [9, 10, 15] (by decide +kernel) (by decide +kernel)
set_option maxRecDepth 20000 in
theorem gX3_dropFirst_X3_get : GoodIn wsX3_dropFirst (wsV RX3 15 RX3 yX3_get wsX3_get) := goodIn_app (goodIn_of _ (by decide +kernel)) ggX3_dropFirst_X3_get
set_option maxRecDepth 20000 in
theorem ggX3_dropFirst_X3_put : GoodIn wsX3_dropFirst wsX3_put := goodIn_r _ [14, 10, 15] (by decide +kernel) (by decide +kernel)
set_option maxRecDepth 20000 in
theorem gX3_dropFirst_X3_put : GoodIn wsX3_dropFirst (wsV RX3 19 RX3 yX3_put wsX3_put) := goodIn_app (goodIn_of _ (by decide +kernel)) ggX3_dropFirst_X3_put
theorem dX3_dropFirst_0 : decode cX3_dropFirst 0 = .ok (.sipush 208, 3) := by decide +kernel
theorem dX3_dropFirst_3 : decode cX3_dropFirst 3 = .ok (.iload_n 1, 1) := by decide +kernel
theorem dX3_dropFirst_4 : decode cX3_dropFirst 4 = .ok (.bipush 16, 2) := by decide +kernel
theorem dX3_dropFirst_6 : decode cX3_dropFirst 6 = .ok (.imul, 1) := by decide +kernel
theorem dX3_dropFirst_7 : decode cX3_dropFirst 7 = .ok (.iadd, 1) := by decide +kernel
theorem dX3_dropFirst_8 : decode cX3_dropFirst 8 = .ok (.istore_n 3, 1) := by decide +kernel
theorem dX3_dropFirst_9 : decode cX3_dropFirst 9 = .ok (.iconst 0, 1) := by decide +kernel
theorem dX3_dropFirst_10 : decode cX3_dropFirst 10 = .ok (.aload_n 0, 1) := by decide +kernel
theorem dX3_dropFirst_11 : decode cX3_dropFirst 11 = .ok (.bipush 55, 2) := by decide +kernel
theorem dX3_dropFirst_13 : decode cX3_dropFirst 13 = .ok (.iload_n 1, 1) := by decide +kernel
theorem dX3_dropFirst_14 : decode cX3_dropFirst 14 = .ok (.iadd, 1) := by decide +kernel
theorem dX3_dropFirst_15 : decode cX3_dropFirst 15 = .ok (.invokevirtual 15, 3) := by decide +kernel
theorem dX3_dropFirst_18 : decode cX3_dropFirst 18 = .ok (.iload_n 2, 1) := by decide +kernel
theorem dX3_dropFirst_19 : decode cX3_dropFirst 19 = .ok (.isub, 1) := by decide +kernel
theorem dX3_dropFirst_20 : decode cX3_dropFirst 20 = .ok (.invokestatic 99, 3) := by decide +kernel
theorem dX3_dropFirst_23 : decode cX3_dropFirst 23 = .ok (.istore 4, 2) := by decide +kernel
theorem dX3_dropFirst_25 : decode cX3_dropFirst 25 = .ok (.iconst 0, 1) := by decide +kernel
theorem dX3_dropFirst_26 : decode cX3_dropFirst 26 = .ok (.istore 5, 2) := by decide +kernel
theorem dX3_dropFirst_28 : decode cX3_dropFirst 28 = .ok (.iload 5, 2) := by decide +kernel
theorem dX3_dropFirst_30 : decode cX3_dropFirst 30 = .ok (.iload 4, 2) := by decide +kernel
theorem dX3_dropFirst_32 : decode cX3_dropFirst 32 = .ok (.if_icmp .ge 27, 3) := by decide +kernel
theorem dX3_dropFirst_35 : decode cX3_dropFirst 35 = .ok (.aload_n 0, 1) := by decide +kernel
theorem dX3_dropFirst_36 : decode cX3_dropFirst 36 = .ok (.iload_n 3, 1) := by decide +kernel
theorem dX3_dropFirst_37 : decode cX3_dropFirst 37 = .ok (.iload 5, 2) := by decide +kernel
theorem dX3_dropFirst_39 : decode cX3_dropFirst 39 = .ok (.iadd, 1) := by decide +kernel
theorem dX3_dropFirst_40 : decode cX3_dropFirst 40 = .ok (.aload_n 0, 1) := by decide +kernel
theorem dX3_dropFirst_41 : decode cX3_dropFirst 41 = .ok (.iload_n 3, 1) := by decide +kernel
theorem dX3_dropFirst_42 : decode cX3_dropFirst 42 = .ok (.iload 5, 2) := by decide +kernel
theorem dX3_dropFirst_44 : decode cX3_dropFirst 44 = .ok (.iadd, 1) := by decide +kernel
theorem dX3_dropFirst_45 : decode cX3_dropFirst 45 = .ok (.iload_n 2, 1) := by decide +kernel
theorem dX3_dropFirst_46 : decode cX3_dropFirst 46 = .ok (.iadd, 1) := by decide +kernel
theorem dX3_dropFirst_47 : decode cX3_dropFirst 47 = .ok (.invokevirtual 15, 3) := by decide +kernel
theorem dX3_dropFirst_50 : decode cX3_dropFirst 50 = .ok (.invokevirtual 19, 3) := by decide +kernel
theorem dX3_dropFirst_53 : decode cX3_dropFirst 53 = .ok (.iinc 5 1, 3) := by decide +kernel
theorem dX3_dropFirst_56 : decode cX3_dropFirst 56 = .ok (.goto (-28), 3) := by decide +kernel
theorem dX3_dropFirst_59 : decode cX3_dropFirst 59 = .ok (.aload_n 0, 1) := by decide +kernel
theorem dX3_dropFirst_60 : decode cX3_dropFirst 60 = .ok (.bipush 55, 2) := by decide +kernel
theorem dX3_dropFirst_62 : decode cX3_dropFirst 62 = .ok (.iload_n 1, 1) := by decide +kernel
theorem dX3_dropFirst_63 : decode cX3_dropFirst 63 = .ok (.iadd, 1) := by decide +kernel
theorem dX3_dropFirst_64 : decode cX3_dropFirst 64 = .ok (.iload 4, 2) := by decide +kernel
theorem dX3_dropFirst_66 : decode cX3_dropFirst 66 = .ok (.invokevirtual 19, 3) := by decide +kernel
theorem dX3_dropFirst_69 : decode cX3_dropFirst 69 = .ok (.return_, 1) := by decide +kernel
set_option maxRecDepth 20000 in
theorem ggX3_endDays_X3_get : GoodIn wsX3_endDays wsX3_get := goodIn_r _ [7, 8, 17] (by decide +kernel) (by decide +kernel)
set_option maxRecDepth 20000 in
theorem gX3_endDays_X3_get : GoodIn wsX3_endDays (wsV RX3 15 RX3 yX3_get wsX3_get) := goodIn_app (goodIn_of _ (by decide +kernel)) ggX3_endDays_X3_get
set_option maxRecDepth 20000 in
theorem ggX3_endDays_X3_add : GoodIn wsX3_endDays wsX3_add := goodIn_r _ [12, 3, 4, 5, 6, 7, 8, 13, 14, 15, 16, 17] (by decide +kernel) (by decide +kernel)
set_option maxRecDepth 20000 in
theorem gX3_endDays_X3_add : GoodIn wsX3_endDays (wsV RX3 69 RX3 yX3_add wsX3_add) := goodIn_app (goodIn_of _ (by decide +kernel)) ggX3_endDays_X3_add
theorem dX3_endDays_0 : decode cX3_endDays 0 = .ok (.iload_n 1, 1) := by decide +kernel
theorem dX3_endDays_1 : decode cX3_endDays 1 = .ok (.iconst 1, 1) := by decide +kernel
theorem dX3_endDays_2 : decode cX3_endDays 2 = .ok (.if_icmp .lt 9, 3) := by decide +kernel
theorem dX3_endDays_5 : decode cX3_endDays 5 = .ok (.iload_n 1, 1) := by decide +kernel
theorem dX3_endDays_6 : decode cX3_endDays 6 = .ok (.bipush 99, 2) := by decide +kernel
theorem dX3_endDays_8 : decode cX3_endDays 8 = .ok (.if_icmp .le 6, 3) := by decide +kernel
theorem dX3_endDays_11 : decode cX3_endDays 11 = .ok (.ldc 52, 2) := by decide +kernel
theorem dX3_endDays_13 : decode cX3_endDays 13 = .ok (.ireturn, 1) := by decide +kernel
theorem dX3_endDays_14 : decode cX3_endDays 14 = .ok (.aload_n 0, 1) := by decide +kernel
theorem dX3_endDays_15 : decode cX3_endDays 15 = .ok (.iconst 0, 1) := by decide +kernel
theorem dX3_endDays_16 : decode cX3_endDays 16 = .ok (.invokevirtual 15, 3) := by decide +kernel
theorem dX3_endDays_19 : decode cX3_endDays 19 = .ok (.iload_n 1, 1) := by decide +kernel
theorem dX3_endDays_20 : decode cX3_endDays 20 = .ok (.iadd, 1) := by decide +kernel
theorem dX3_endDays_21 : decode cX3_endDays 21 = .ok (.sipush 9999, 3) := by decide +kernel
theorem dX3_endDays_24 : decode cX3_endDays 24 = .ok (.if_icmp .le 6, 3) := by decide +kernel
theorem dX3_endDays_27 : decode cX3_endDays 27 = .ok (.ldc 102, 2) := by decide +kernel
theorem dX3_endDays_29 : decode cX3_endDays 29 = .ok (.ireturn, 1) := by decide +kernel
theorem dX3_endDays_30 : decode cX3_endDays 30 = .ok (.aload_n 0, 1) := by decide +kernel
theorem dX3_endDays_31 : decode cX3_endDays 31 = .ok (.iconst 0, 1) := by decide +kernel
theorem dX3_endDays_32 : decode cX3_endDays 32 = .ok (.iload_n 1, 1) := by decide +kernel
theorem dX3_endDays_33 : decode cX3_endDays 33 = .ok (.invokevirtual 69, 3) := by decide +kernel
theorem dX3_endDays_36 : decode cX3_endDays 36 = .ok (.aload_n 0, 1) := by decide +kernel
theorem dX3_endDays_37 : decode cX3_endDays 37 = .ok (.iconst 0, 1) := by decide +kernel
theorem dX3_endDays_38 : decode cX3_endDays 38 = .ok (.invokevirtual 15, 3) := by decide +kernel
theorem dX3_endDays_41 : decode cX3_endDays 41 = .ok (.ireturn, 1) := by decide +kernel
set_option maxRecDepth 20000 in
theorem ggX3_changeSetting_X3_get : GoodIn wsX3_changeSetting wsX3_get := goodIn_r _ [6, 7, 20] (by decide +kernel) (by decide +kernel)
set_option maxRecDepth 20000 in
theorem gX3_changeSetting_X3_get : GoodIn wsX3_changeSetting (wsV RX3 15 RX3 yX3_get wsX3_get) := goodIn_app (goodIn_of _ (by decide +kernel)) ggX3_changeSetting_X3_get
set_option maxRecDepth 20000 in
theorem ggX3_changeSetting_X3_put : GoodIn wsX3_changeSetting wsX3_put := goodIn_r _ [11, 7, 20] (by decide +kernel) (by decide +kernel)
set_option maxRecDepth 20000 in
theorem gX3_changeSetting_X3_put : GoodIn wsX3_changeSetting (wsV RX3 19 RX3 yX3_put wsX3_put) := goodIn_app (goodIn_of _ (by decide +kernel)) ggX3_changeSetting_X3_put
set_option maxRecDepth 20000 in
theorem ggX3_changeSetting_X3_dropFirst : GoodIn wsX3_changeSetting wsX3_dropFirst := goodIn_r _ [15, 16, 17, 18, 19, 2, 3, 4, 5, 6, 7, 8, 9, 10, 11, 20] (by decide +kernel) (by decide +kernel)
set_option maxRecDepth 20000 in
theorem gX3_changeSetting_X3_dropFirst : GoodIn wsX3_changeSetting (wsV RX3 93 RX3 yX3_dropFirst wsX3_dropFirst) := goodIn_app (goodIn_of _ (by decide +kernel)) ggX3_changeSetting_X3_dropFirst
theorem dX3_changeSetting_0 : decode cX3_changeSetting 0 = .ok (.iload_n 1, 1) := by decide +kernel
theorem dX3_changeSetting_1 : decode cX3_changeSetting 1 = .ok (.ifCond .lt 28, 3) := by decide +kernel
theorem dX3_changeSetting_4 : decode cX3_changeSetting 4 = .ok (.iload_n 1, 1) := by decide +kernel
theorem dX3_changeSetting_5 : decode cX3_changeSetting 5 = .ok (.iconst 1, 1) := by decide +kernel
theorem dX3_changeSetting_6 : decode cX3_changeSetting 6 = .ok (.if_icmp .gt 23, 3) := by decide +kernel
theorem dX3_changeSetting_9 : decode cX3_changeSetting 9 = .ok (.iload_n 2, 1) := by decide +kernel
theorem dX3_changeSetting_10 : decode cX3_changeSetting 10 = .ok (.iconst 1, 1) := by decide +kernel
theorem dX3_changeSetting_11 : decode cX3_changeSetting 11 = .ok (.if_icmp .lt 18, 3) := by decide +kernel
theorem dX3_changeSetting_14 : decode cX3_changeSetting 14 = .ok (.iload_n 2, 1) := by decide +kernel
theorem dX3_changeSetting_15 : decode cX3_changeSetting 15 = .ok (.iload_n 1, 1) := by decide +kernel
theorem dX3_changeSetting_16 : decode cX3_changeSetting 16 = .ok (.ifCond .ne 8, 3) := by decide +kernel
theorem dX3_changeSetting_19 : decode cX3_changeSetting 19 = .ok (.bipush 16, 2) := by decide +kernel
theorem dX3_changeSetting_21 : decode cX3_changeSetting 21 = .ok (.goto 5, 3) := by decide +kernel
theorem dX3_changeSetting_24 : decode cX3_changeSetting 24 = .ok (.bipush 99, 2) := by decide +kernel
theorem dX3_changeSetting_26 : decode cX3_changeSetting 26 = .ok (.if_icmp .le 6, 3) := by decide +kernel
theorem dX3_changeSetting_29 : decode cX3_changeSetting 29 = .ok (.ldc 52, 2) := by decide +kernel
theorem dX3_changeSetting_31 : decode cX3_changeSetting 31 = .ok (.ireturn, 1) := by decide +kernel
theorem dX3_changeSetting_32 : decode cX3_changeSetting 32 = .ok (.aload_n 0, 1) := by decide +kernel
theorem dX3_changeSetting_33 : decode cX3_changeSetting 33 = .ok (.iconst 2, 1) := by decide +kernel
theorem dX3_changeSetting_34 : decode cX3_changeSetting 34 = .ok (.iload_n 1, 1) := by decide +kernel
theorem dX3_changeSetting_35 : decode cX3_changeSetting 35 = .ok (.iadd, 1) := by decide +kernel
theorem dX3_changeSetting_36 : decode cX3_changeSetting 36 = .ok (.invokevirtual 15, 3) := by decide +kernel
theorem dX3_changeSetting_39 : decode cX3_changeSetting 39 = .ok (.istore_n 3, 1) := by decide +kernel
theorem dX3_changeSetting_40 : decode cX3_changeSetting 40 = .ok (.aload_n 0, 1) := by decide +kernel
theorem dX3_changeSetting_41 : decode cX3_changeSetting 41 = .ok (.iconst 2, 1) := by decide +kernel
theorem dX3_changeSetting_42 : decode cX3_changeSetting 42 = .ok (.iload_n 1, 1) := by decide +kernel
theorem dX3_changeSetting_43 : decode cX3_changeSetting 43 = .ok (.iadd, 1) := by decide +kernel
theorem dX3_changeSetting_44 : decode cX3_changeSetting 44 = .ok (.iload_n 2, 1) := by decide +kernel
theorem dX3_changeSetting_45 : decode cX3_changeSetting 45 = .ok (.invokevirtual 19, 3) := by decide +kernel
theorem dX3_changeSetting_48 : decode cX3_changeSetting 48 = .ok (.iconst 0, 1) := by decide +kernel
theorem dX3_changeSetting_49 : decode cX3_changeSetting 49 = .ok (.istore 4, 2) := by decide +kernel
theorem dX3_changeSetting_51 : decode cX3_changeSetting 51 = .ok (.iload 4, 2) := by decide +kernel
theorem dX3_changeSetting_53 : decode cX3_changeSetting 53 = .ok (.aload_n 0, 1) := by decide +kernel
theorem dX3_changeSetting_54 : decode cX3_changeSetting 54 = .ok (.iconst 1, 1) := by decide +kernel
theorem dX3_changeSetting_55 : decode cX3_changeSetting 55 = .ok (.invokevirtual 15, 3) := by decide +kernel
theorem dX3_changeSetting_58 : decode cX3_changeSetting 58 = .ok (.if_icmp .ge 39, 3) := by decide +kernel
theorem dX3_changeSetting_61 : decode cX3_changeSetting 61 = .ok (.aload_n 0, 1) := by decide +kernel
theorem dX3_changeSetting_62 : decode cX3_changeSetting 62 = .ok (.bipush 55, 2) := by decide +kernel
theorem dX3_changeSetting_64 : decode cX3_changeSetting 64 = .ok (.iload 4, 2) := by decide +kernel
theorem dX3_changeSetting_66 : decode cX3_changeSetting 66 = .ok (.iadd, 1) := by decide +kernel
theorem dX3_changeSetting_67 : decode cX3_changeSetting 67 = .ok (.invokevirtual 15, 3) := by decide +kernel
theorem dX3_changeSetting_70 : decode cX3_changeSetting 70 = .ok (.aload_n 0, 1) := by decide +kernel
theorem dX3_changeSetting_71 : decode cX3_changeSetting 71 = .ok (.iconst 2, 1) := by decide +kernel
theorem dX3_changeSetting_72 : decode cX3_changeSetting 72 = .ok (.invokevirtual 15, 3) := by decide +kernel
theorem dX3_changeSetting_75 : decode cX3_changeSetting 75 = .ok (.isub, 1) := by decide +kernel
theorem dX3_changeSetting_76 : decode cX3_changeSetting 76 = .ok (.istore 5, 2) := by decide +kernel
theorem dX3_changeSetting_78 : decode cX3_changeSetting 78 = .ok (.iload 5, 2) := by decide +kernel
theorem dX3_changeSetting_80 : decode cX3_changeSetting 80 = .ok (.ifCond .le 11, 3) := by decide +kernel
theorem dX3_changeSetting_83 : decode cX3_changeSetting 83 = .ok (.aload_n 0, 1) := by decide +kernel
theorem dX3_changeSetting_84 : decode cX3_changeSetting 84 = .ok (.iload 4, 2) := by decide +kernel
theorem dX3_changeSetting_86 : decode cX3_changeSetting 86 = .ok (.iload 5, 2) := by decide +kernel
theorem dX3_changeSetting_88 : decode cX3_changeSetting 88 = .ok (.invokevirtual 93, 3) := by decide +kernel
theorem dX3_changeSetting_91 : decode cX3_changeSetting 91 = .ok (.iinc 4 1, 3) := by decide +kernel
theorem dX3_changeSetting_94 : decode cX3_changeSetting 94 = .ok (.goto (-43), 3) := by decide +kernel
theorem dX3_changeSetting_97 : decode cX3_changeSetting 97 = .ok (.iload_n 3, 1) := by decide +kernel
theorem dX3_changeSetting_98 : decode cX3_changeSetting 98 = .ok (.ireturn, 1) := by decide +kernel
theorem dX4_init_0 : decode cX4_init 0 = .ok (.aload_n 0, 1) := by decide +kernel
theorem dX4_init_1 : decode cX4_init 1 = .ok (.invokespecial 3, 3) := by decide +kernel
theorem dX4_init_4 : decode cX4_init 4 = .ok (.aload_n 0, 1) := by decide +kernel
theorem dX4_init_5 : decode cX4_init 5 = .ok (.aload_n 1, 1) := by decide +kernel
theorem dX4_init_6 : decode cX4_init 6 = .ok (.putfield 9, 3) := by decide +kernel
theorem dX4_init_9 : decode cX4_init 9 = .ok (.return_, 1) := by decide +kernel
set_option maxRecDepth 20000 in
theorem ggX4_ofCell_X3_hasRow : GoodIn wsX4_ofCell wsX3_hasRow := goodIn_r _ [8, 9, 10, 11, 7, 12, 13, 51] (by decide +kernel) (by decide +kernel)
set_option maxRecDepth 20000 in
theorem gX4_ofCell_X3_hasRow : GoodIn wsX4_ofCell (wsV RX4 15 RX3 yX3_hasRow wsX3_hasRow) := goodIn_app (goodIn_of _ (by decide +kernel)) ggX4_ofCell_X3_hasRow
set_option maxRecDepth 20000 in
theorem ggX4_ofCell_X3_isCell : GoodIn wsX4_ofCell wsX3_isCell := goodIn_r _ [16] (by decide +kernel) (by decide +kernel)
set_option maxRecDepth 20000 in
theorem gX4_ofCell_X3_isCell : GoodIn wsX4_ofCell (va_wsS RX4 21 yX3_isCell wsX3_isCell) := goodIn_app (goodIn_of _ (by decide +kernel)) ggX4_ofCell_X3_isCell
set_option maxRecDepth 20000 in
theorem ggX4_ofCell_X3_lives : GoodIn wsX4_ofCell wsX3_lives := goodIn_r _ [20, 9, 10, 11, 7, 12, 13, 51] (by decide +kernel) (by decide +kernel)
set_option maxRecDepth 20000 in
theorem gX4_ofCell_X3_lives : GoodIn wsX4_ofCell (wsV RX4 25 RX3 yX3_lives wsX3_lives) := goodIn_app (goodIn_of _ (by decide +kernel)) ggX4_ofCell_X3_lives
set_option maxRecDepth 20000 in
theorem ggX4_ofCell_X3_get : GoodIn wsX4_ofCell wsX3_get := goodIn_r _ [12, 13, 51] (by decide +kernel) (by decide +kernel)
set_option maxRecDepth 20000 in
theorem gX4_ofCell_X3_get : GoodIn wsX4_ofCell (wsV RX4 28 RX3 yX3_get wsX3_get) := goodIn_app (goodIn_of _ (by decide +kernel)) ggX4_ofCell_X3_get
set_option maxRecDepth 20000 in
theorem ggX4_ofCell_X3_freshEcho : GoodIn wsX4_ofCell wsX3_freshEcho := goodIn_r _ [25, 26, 27, 7, 28, 29, 30, 31, 32, 9, 10, 11, 12, 13, 33, 34, 35, 36, 37, 38, 39, 40, 41, 42, 51] (by decide +kernel) (by decide +kernel)
set_option maxRecDepth 20000 in
theorem gX4_ofCell_X3_freshEcho : GoodIn wsX4_ofCell (wsV RX4 32 RX3 yX3_freshEcho wsX3_freshEcho) := goodIn_app (goodIn_of _ (by decide +kernel)) ggX4_ofCell_X3_freshEcho
set_option maxRecDepth 20000 in
theorem ggX4_ofCell_X3_valueOf : GoodIn wsX4_ofCell wsX3_valueOf := goodIn_r _ [45] (by decide +kernel) (by decide +kernel)
set_option maxRecDepth 20000 in
theorem gX4_ofCell_X3_valueOf : GoodIn wsX4_ofCell (va_wsS RX4 37 yX3_valueOf wsX3_valueOf) := goodIn_app (goodIn_of _ (by decide +kernel)) ggX4_ofCell_X3_valueOf
set_option maxRecDepth 20000 in
theorem ggX4_ofCell_X3_ageOf : GoodIn wsX4_ofCell wsX3_ageOf := goodIn_r _ [49, 9, 10, 11, 7, 12, 13, 40, 41, 42, 51] (by decide +kernel) (by decide +kernel)
set_option maxRecDepth 20000 in
theorem gX4_ofCell_X3_ageOf : GoodIn wsX4_ofCell (wsV RX4 40 RX3 yX3_ageOf wsX3_ageOf) := goodIn_app (goodIn_of _ (by decide +kernel)) ggX4_ofCell_X3_ageOf
theorem dX4_ofCell_0 : decode cX4_ofCell 0 = .ok (.aload_n 0, 1) := by decide +kernel
theorem dX4_ofCell_1 : decode cX4_ofCell 1 = .ok (.getfield 9, 3) := by decide +kernel
theorem dX4_ofCell_4 : decode cX4_ofCell 4 = .ok (.iload_n 1, 1) := by decide +kernel
theorem dX4_ofCell_5 : decode cX4_ofCell 5 = .ok (.invokevirtual 15, 3) := by decide +kernel
theorem dX4_ofCell_8 : decode cX4_ofCell 8 = .ok (.ifCond .eq 10, 3) := by decide +kernel
theorem dX4_ofCell_11 : decode cX4_ofCell 11 = .ok (.iload_n 2, 1) := by decide +kernel
theorem dX4_ofCell_12 : decode cX4_ofCell 12 = .ok (.invokestatic 21, 3) := by decide +kernel
theorem dX4_ofCell_15 : decode cX4_ofCell 15 = .ok (.ifCond .ne 6, 3) := by decide +kernel
theorem dX4_ofCell_18 : decode cX4_ofCell 18 = .ok (.ldc 24, 2) := by decide +kernel
theorem dX4_ofCell_20 : decode cX4_ofCell 20 = .ok (.ireturn, 1) := by decide +kernel
theorem dX4_ofCell_21 : decode cX4_ofCell 21 = .ok (.iload_n 1, 1) := by decide +kernel
theorem dX4_ofCell_22 : decode cX4_ofCell 22 = .ok (.bipush 8, 2) := by decide +kernel
theorem dX4_ofCell_24 : decode cX4_ofCell 24 = .ok (.imul, 1) := by decide +kernel
theorem dX4_ofCell_25 : decode cX4_ofCell 25 = .ok (.iload_n 2, 1) := by decide +kernel
theorem dX4_ofCell_26 : decode cX4_ofCell 26 = .ok (.iadd, 1) := by decide +kernel
theorem dX4_ofCell_27 : decode cX4_ofCell 27 = .ok (.istore 4, 2) := by decide +kernel
theorem dX4_ofCell_29 : decode cX4_ofCell 29 = .ok (.aload_n 0, 1) := by decide +kernel
theorem dX4_ofCell_30 : decode cX4_ofCell 30 = .ok (.getfield 9, 3) := by decide +kernel
theorem dX4_ofCell_33 : decode cX4_ofCell 33 = .ok (.iload_n 1, 1) := by decide +kernel
theorem dX4_ofCell_34 : decode cX4_ofCell 34 = .ok (.invokevirtual 25, 3) := by decide +kernel
theorem dX4_ofCell_37 : decode cX4_ofCell 37 = .ok (.ifCond .eq 18, 3) := by decide +kernel
theorem dX4_ofCell_40 : decode cX4_ofCell 40 = .ok (.aload_n 0, 1) := by decide +kernel
theorem dX4_ofCell_41 : decode cX4_ofCell 41 = .ok (.getfield 9, 3) := by decide +kernel
theorem dX4_ofCell_44 : decode cX4_ofCell 44 = .ok (.bipush 64, 2) := by decide +kernel
theorem dX4_ofCell_46 : decode cX4_ofCell 46 = .ok (.iload 4, 2) := by decide +kernel
theorem dX4_ofCell_48 : decode cX4_ofCell 48 = .ok (.iadd, 1) := by decide +kernel
theorem dX4_ofCell_49 : decode cX4_ofCell 49 = .ok (.invokevirtual 28, 3) := by decide +kernel
theorem dX4_ofCell_52 : decode cX4_ofCell 52 = .ok (.goto 4, 3) := by decide +kernel
theorem dX4_ofCell_55 : decode cX4_ofCell 55 = .ok (.iconst (-1), 1) := by decide +kernel
theorem dX4_ofCell_56 : decode cX4_ofCell 56 = .ok (.istore 5, 2) := by decide +kernel
theorem dX4_ofCell_58 : decode cX4_ofCell 58 = .ok (.aload_n 0, 1) := by decide +kernel
theorem dX4_ofCell_59 : decode cX4_ofCell 59 = .ok (.getfield 9, 3) := by decide +kernel
theorem dX4_ofCell_62 : decode cX4_ofCell 62 = .ok (.iload_n 1, 1) := by decide +kernel
theorem dX4_ofCell_63 : decode cX4_ofCell 63 = .ok (.iload_n 2, 1) := by decide +kernel
theorem dX4_ofCell_64 : decode cX4_ofCell 64 = .ok (.invokevirtual 32, 3) := by decide +kernel
theorem dX4_ofCell_67 : decode cX4_ofCell 67 = .ok (.istore 6, 2) := by decide +kernel
theorem dX4_ofCell_69 : decode cX4_ofCell 69 = .ok (.iload 6, 2) := by decide +kernel
theorem dX4_ofCell_71 : decode cX4_ofCell 71 = .ok (.iconst (-1), 1) := by decide +kernel
theorem dX4_ofCell_72 : decode cX4_ofCell 72 = .ok (.if_icmp .eq 7, 3) := by decide +kernel
theorem dX4_ofCell_75 : decode cX4_ofCell 75 = .ok (.iconst 1, 1) := by decide +kernel
theorem dX4_ofCell_76 : decode cX4_ofCell 76 = .ok (.goto 4, 3) := by decide +kernel
theorem dX4_ofCell_79 : decode cX4_ofCell 79 = .ok (.iconst 0, 1) := by decide +kernel
theorem dX4_ofCell_80 : decode cX4_ofCell 80 = .ok (.istore 7, 2) := by decide +kernel
theorem dX4_ofCell_82 : decode cX4_ofCell 82 = .ok (.iload_n 3, 1) := by decide +kernel
theorem dX4_ofCell_83 : decode cX4_ofCell 83 = .ok (.tableswitch 118 0 4 #[33, 47, 61, 77, 97], 33) := by decide +kernel
theorem dX4_ofCell_116 : decode cX4_ofCell 116 = .ok (.iload 5, 2) := by decide +kernel
theorem dX4_ofCell_118 : decode cX4_ofCell 118 = .ok (.iconst (-1), 1) := by decide +kernel
theorem dX4_ofCell_119 : decode cX4_ofCell 119 = .ok (.if_icmp .ne 8, 3) := by decide +kernel
theorem dX4_ofCell_122 : decode cX4_ofCell 122 = .ok (.ldc 36, 2) := by decide +kernel
theorem dX4_ofCell_124 : decode cX4_ofCell 124 = .ok (.goto 5, 3) := by decide +kernel
theorem dX4_ofCell_127 : decode cX4_ofCell 127 = .ok (.iload 5, 2) := by decide +kernel
theorem dX4_ofCell_129 : decode cX4_ofCell 129 = .ok (.ireturn, 1) := by decide +kernel
theorem dX4_ofCell_130 : decode cX4_ofCell 130 = .ok (.aload_n 0, 1) := by decide +kernel
theorem dX4_ofCell_131 : decode cX4_ofCell 131 = .ok (.getfield 9, 3) := by decide +kernel
theorem dX4_ofCell_134 : decode cX4_ofCell 134 = .ok (.sipush 136, 3) := by decide +kernel
theorem dX4_ofCell_137 : decode cX4_ofCell 137 = .ok (.iload 4, 2) := by decide +kernel
theorem dX4_ofCell_139 : decode cX4_ofCell 139 = .ok (.iadd, 1) := by decide +kernel
theorem dX4_ofCell_140 : decode cX4_ofCell 140 = .ok (.invokevirtual 28, 3) := by decide +kernel
theorem dX4_ofCell_143 : decode cX4_ofCell 143 = .ok (.ireturn, 1) := by decide +kernel
theorem dX4_ofCell_144 : decode cX4_ofCell 144 = .ok (.iload 7, 2) := by decide +kernel
theorem dX4_ofCell_146 : decode cX4_ofCell 146 = .ok (.ifCond .eq 11, 3) := by decide +kernel
theorem dX4_ofCell_149 : decode cX4_ofCell 149 = .ok (.iload 6, 2) := by decide +kernel
theorem dX4_ofCell_151 : decode cX4_ofCell 151 = .ok (.invokestatic 37, 3) := by decide +kernel
theorem dX4_ofCell_154 : decode cX4_ofCell 154 = .ok (.goto 5, 3) := by decide +kernel
theorem dX4_ofCell_157 : decode cX4_ofCell 157 = .ok (.ldc 36, 2) := by decide +kernel
theorem dX4_ofCell_159 : decode cX4_ofCell 159 = .ok (.ireturn, 1) := by decide +kernel
theorem dX4_ofCell_160 : decode cX4_ofCell 160 = .ok (.iload 7, 2) := by decide +kernel
theorem dX4_ofCell_162 : decode cX4_ofCell 162 = .ok (.ifCond .eq 15, 3) := by decide +kernel
theorem dX4_ofCell_165 : decode cX4_ofCell 165 = .ok (.aload_n 0, 1) := by decide +kernel
theorem dX4_ofCell_166 : decode cX4_ofCell 166 = .ok (.getfield 9, 3) := by decide +kernel
theorem dX4_ofCell_169 : decode cX4_ofCell 169 = .ok (.iload 6, 2) := by decide +kernel
theorem dX4_ofCell_171 : decode cX4_ofCell 171 = .ok (.invokevirtual 40, 3) := by decide +kernel
theorem dX4_ofCell_174 : decode cX4_ofCell 174 = .ok (.goto 5, 3) := by decide +kernel
theorem dX4_ofCell_177 : decode cX4_ofCell 177 = .ok (.ldc 36, 2) := by decide +kernel
theorem dX4_ofCell_179 : decode cX4_ofCell 179 = .ok (.ireturn, 1) := by decide +kernel
theorem dX4_ofCell_180 : decode cX4_ofCell 180 = .ok (.iload 7, 2) := by decide +kernel
theorem dX4_ofCell_182 : decode cX4_ofCell 182 = .ok (.ifCond .eq 17, 3) := by decide +kernel
theorem dX4_ofCell_185 : decode cX4_ofCell 185 = .ok (.iload 6, 2) := by decide +kernel
theorem dX4_ofCell_187 : decode cX4_ofCell 187 = .ok (.invokestatic 37, 3) := by decide +kernel
theorem dX4_ofCell_190 : decode cX4_ofCell 190 = .ok (.iload 5, 2) := by decide +kernel
theorem dX4_ofCell_192 : decode cX4_ofCell 192 = .ok (.if_icmp .ne 7, 3) := by decide +kernel
theorem dX4_ofCell_195 : decode cX4_ofCell 195 = .ok (.iconst 1, 1) := by decide +kernel
theorem dX4_ofCell_196 : decode cX4_ofCell 196 = .ok (.goto 4, 3) := by decide +kernel
theorem dX4_ofCell_199 : decode cX4_ofCell 199 = .ok (.iconst 0, 1) := by decide +kernel
theorem dX4_ofCell_200 : decode cX4_ofCell 200 = .ok (.ireturn, 1) := by decide +kernel
theorem dX4_ofCell_201 : decode cX4_ofCell 201 = .ok (.ldc 24, 2) := by decide +kernel
theorem dX4_ofCell_203 : decode cX4_ofCell 203 = .ok (.ireturn, 1) := by decide +kernel
set_option maxRecDepth 20000 in
theorem ggX4_ofMargin_X3_hasRow : GoodIn wsX4_ofMargin wsX3_hasRow := goodIn_r _ [8, 9, 10, 11, 7, 12, 13, 38] (by decide +kernel) (by decide +kernel)
set_option maxRecDepth 20000 in
theorem gX4_ofMargin_X3_hasRow : GoodIn wsX4_ofMargin (wsV RX4 15 RX3 yX3_hasRow wsX3_hasRow) := goodIn_app (goodIn_of _ (by decide +kernel)) ggX4_ofMargin_X3_hasRow
set_option maxRecDepth 20000 in
theorem ggX4_ofMargin_X3_get : GoodIn wsX4_ofMargin wsX3_get := goodIn_r _ [12, 13, 38] (by decide +kernel) (by decide +kernel)
set_option maxRecDepth 20000 in
theorem gX4_ofMargin_X3_get : GoodIn wsX4_ofMargin (wsV RX4 28 RX3 yX3_get wsX3_get) := goodIn_app (goodIn_of _ (by decide +kernel)) ggX4_ofMargin_X3_get
set_option maxRecDepth 20000 in
theorem ggX4_ofMargin_X4_echoIn : GoodIn wsX4_ofMargin wsX4_echoIn := goodIn_r _ [19, 1, 14, 10, 11, 7, 12, 13, 37, 38] (by decide +kernel) (by decide +kernel)
set_option maxRecDepth 20000 in
theorem gX4_ofMargin_X4_echoIn : GoodIn wsX4_ofMargin (wsV RX4 43 RX4 yX4_echoIn wsX4_echoIn) := goodIn_app (goodIn_of _ (by decide +kernel)) ggX4_ofMargin_X4_echoIn
set_option maxRecDepth 20000 in
theorem ggX4_ofMargin_X3_ownerOf : GoodIn wsX4_ofMargin wsX3_ownerOf := goodIn_r _ [22] (by decide +kernel) (by decide +kernel)
set_option maxRecDepth 20000 in
theorem gX4_ofMargin_X3_ownerOf : GoodIn wsX4_ofMargin (va_wsS RX4 46 yX3_ownerOf wsX3_ownerOf) := goodIn_app (goodIn_of _ (by decide +kernel)) ggX4_ofMargin_X3_ownerOf
set_option maxRecDepth 20000 in
theorem ggX4_ofMargin_X3_valueOf : GoodIn wsX4_ofMargin wsX3_valueOf := goodIn_r _ [25] (by decide +kernel) (by decide +kernel)
set_option maxRecDepth 20000 in
theorem gX4_ofMargin_X3_valueOf : GoodIn wsX4_ofMargin (va_wsS RX4 37 yX3_valueOf wsX3_valueOf) := goodIn_app (goodIn_of _ (by decide +kernel)) ggX4_ofMargin_X3_valueOf
set_option maxRecDepth 20000 in
theorem ggX4_ofMargin_X3_ageOf : GoodIn wsX4_ofMargin wsX3_ageOf := goodIn_r _ [29, 9, 10, 11, 7, 12, 13, 30, 31, 32, 38] (by decide +kernel) (by decide +kernel)
set_option maxRecDepth 20000 in
theorem gX4_ofMargin_X3_ageOf : GoodIn wsX4_ofMargin (wsV RX4 40 RX3 yX3_ageOf wsX3_ageOf) := goodIn_app (goodIn_of _ (by decide +kernel)) ggX4_ofMargin_X3_ageOf
set_option maxRecDepth 20000 in
theorem ggX4_ofMargin_X3_isFaded : GoodIn wsX4_ofMargin wsX3_isFaded := goodIn_r _ [36, 9, 10, 11, 7, 12, 13, 30, 31, 32, 38] (by decide +kernel) (by decide +kernel)
set_option maxRecDepth 20000 in
theorem gX4_ofMargin_X3_isFaded : GoodIn wsX4_ofMargin (wsV RX4 49 RX3 yX3_isFaded wsX3_isFaded) := goodIn_app (goodIn_of _ (by decide +kernel)) ggX4_ofMargin_X3_isFaded
theorem dX4_ofMargin_0 : decode cX4_ofMargin 0 = .ok (.aload_n 0, 1) := by decide +kernel
theorem dX4_ofMargin_1 : decode cX4_ofMargin 1 = .ok (.getfield 9, 3) := by decide +kernel
theorem dX4_ofMargin_4 : decode cX4_ofMargin 4 = .ok (.iload_n 1, 1) := by decide +kernel
theorem dX4_ofMargin_5 : decode cX4_ofMargin 5 = .ok (.invokevirtual 15, 3) := by decide +kernel
theorem dX4_ofMargin_8 : decode cX4_ofMargin 8 = .ok (.ifCond .eq 16, 3) := by decide +kernel
theorem dX4_ofMargin_11 : decode cX4_ofMargin 11 = .ok (.iload_n 2, 1) := by decide +kernel
theorem dX4_ofMargin_12 : decode cX4_ofMargin 12 = .ok (.ifCond .lt 12, 3) := by decide +kernel
theorem dX4_ofMargin_15 : decode cX4_ofMargin 15 = .ok (.iload_n 3, 1) := by decide +kernel
theorem dX4_ofMargin_16 : decode cX4_ofMargin 16 = .ok (.ifCond .lt 8, 3) := by decide +kernel
theorem dX4_ofMargin_19 : decode cX4_ofMargin 19 = .ok (.iload_n 3, 1) := by decide +kernel
theorem dX4_ofMargin_20 : decode cX4_ofMargin 20 = .ok (.iconst 4, 1) := by decide +kernel
theorem dX4_ofMargin_21 : decode cX4_ofMargin 21 = .ok (.if_icmp .le 6, 3) := by decide +kernel
theorem dX4_ofMargin_24 : decode cX4_ofMargin 24 = .ok (.ldc 24, 2) := by decide +kernel
theorem dX4_ofMargin_26 : decode cX4_ofMargin 26 = .ok (.ireturn, 1) := by decide +kernel
theorem dX4_ofMargin_27 : decode cX4_ofMargin 27 = .ok (.iload_n 2, 1) := by decide +kernel
theorem dX4_ofMargin_28 : decode cX4_ofMargin 28 = .ok (.aload_n 0, 1) := by decide +kernel
theorem dX4_ofMargin_29 : decode cX4_ofMargin 29 = .ok (.getfield 9, 3) := by decide +kernel
theorem dX4_ofMargin_32 : decode cX4_ofMargin 32 = .ok (.bipush 55, 2) := by decide +kernel
theorem dX4_ofMargin_34 : decode cX4_ofMargin 34 = .ok (.iload_n 1, 1) := by decide +kernel
theorem dX4_ofMargin_35 : decode cX4_ofMargin 35 = .ok (.iadd, 1) := by decide +kernel
theorem dX4_ofMargin_36 : decode cX4_ofMargin 36 = .ok (.invokevirtual 28, 3) := by decide +kernel
theorem dX4_ofMargin_39 : decode cX4_ofMargin 39 = .ok (.if_icmp .lt 6, 3) := by decide +kernel
theorem dX4_ofMargin_42 : decode cX4_ofMargin 42 = .ok (.ldc 36, 2) := by decide +kernel
theorem dX4_ofMargin_44 : decode cX4_ofMargin 44 = .ok (.ireturn, 1) := by decide +kernel
theorem dX4_ofMargin_45 : decode cX4_ofMargin 45 = .ok (.aload_n 0, 1) := by decide +kernel
theorem dX4_ofMargin_46 : decode cX4_ofMargin 46 = .ok (.iload_n 1, 1) := by decide +kernel
theorem dX4_ofMargin_47 : decode cX4_ofMargin 47 = .ok (.iload_n 2, 1) := by decide +kernel
theorem dX4_ofMargin_48 : decode cX4_ofMargin 48 = .ok (.invokevirtual 43, 3) := by decide +kernel
theorem dX4_ofMargin_51 : decode cX4_ofMargin 51 = .ok (.istore 4, 2) := by decide +kernel
theorem dX4_ofMargin_53 : decode cX4_ofMargin 53 = .ok (.iload_n 3, 1) := by decide +kernel
theorem dX4_ofMargin_54 : decode cX4_ofMargin 54 = .ok (.tableswitch 64 0 3 #[30, 39, 48, 54], 30) := by decide +kernel
theorem dX4_ofMargin_84 : decode cX4_ofMargin 84 = .ok (.iload 4, 2) := by decide +kernel
theorem dX4_ofMargin_86 : decode cX4_ofMargin 86 = .ok (.invokestatic 46, 3) := by decide +kernel
theorem dX4_ofMargin_89 : decode cX4_ofMargin 89 = .ok (.bipush 8, 2) := by decide +kernel
theorem dX4_ofMargin_91 : decode cX4_ofMargin 91 = .ok (.idiv, 1) := by decide +kernel
theorem dX4_ofMargin_92 : decode cX4_ofMargin 92 = .ok (.ireturn, 1) := by decide +kernel
theorem dX4_ofMargin_93 : decode cX4_ofMargin 93 = .ok (.iload 4, 2) := by decide +kernel
theorem dX4_ofMargin_95 : decode cX4_ofMargin 95 = .ok (.invokestatic 46, 3) := by decide +kernel
theorem dX4_ofMargin_98 : decode cX4_ofMargin 98 = .ok (.bipush 8, 2) := by decide +kernel
theorem dX4_ofMargin_100 : decode cX4_ofMargin 100 = .ok (.irem, 1) := by decide +kernel
theorem dX4_ofMargin_101 : decode cX4_ofMargin 101 = .ok (.ireturn, 1) := by decide +kernel
theorem dX4_ofMargin_102 : decode cX4_ofMargin 102 = .ok (.iload 4, 2) := by decide +kernel
theorem dX4_ofMargin_104 : decode cX4_ofMargin 104 = .ok (.invokestatic 37, 3) := by decide +kernel
theorem dX4_ofMargin_107 : decode cX4_ofMargin 107 = .ok (.ireturn, 1) := by decide +kernel
theorem dX4_ofMargin_108 : decode cX4_ofMargin 108 = .ok (.aload_n 0, 1) := by decide +kernel
theorem dX4_ofMargin_109 : decode cX4_ofMargin 109 = .ok (.getfield 9, 3) := by decide +kernel
theorem dX4_ofMargin_112 : decode cX4_ofMargin 112 = .ok (.iload 4, 2) := by decide +kernel
theorem dX4_ofMargin_114 : decode cX4_ofMargin 114 = .ok (.invokevirtual 40, 3) := by decide +kernel
theorem dX4_ofMargin_117 : decode cX4_ofMargin 117 = .ok (.ireturn, 1) := by decide +kernel
theorem dX4_ofMargin_118 : decode cX4_ofMargin 118 = .ok (.aload_n 0, 1) := by decide +kernel
theorem dX4_ofMargin_119 : decode cX4_ofMargin 119 = .ok (.getfield 9, 3) := by decide +kernel
theorem dX4_ofMargin_122 : decode cX4_ofMargin 122 = .ok (.iload 4, 2) := by decide +kernel
theorem dX4_ofMargin_124 : decode cX4_ofMargin 124 = .ok (.invokevirtual 49, 3) := by decide +kernel
theorem dX4_ofMargin_127 : decode cX4_ofMargin 127 = .ok (.ifCond .eq 7, 3) := by decide +kernel
theorem dX4_ofMargin_130 : decode cX4_ofMargin 130 = .ok (.iconst 1, 1) := by decide +kernel
theorem dX4_ofMargin_131 : decode cX4_ofMargin 131 = .ok (.goto 4, 3) := by decide +kernel
theorem dX4_ofMargin_134 : decode cX4_ofMargin 134 = .ok (.iconst 0, 1) := by decide +kernel
theorem dX4_ofMargin_135 : decode cX4_ofMargin 135 = .ok (.ireturn, 1) := by decide +kernel
set_option maxRecDepth 20000 in
theorem ggX4_ofRow_X3_hasRow : GoodIn wsX4_ofRow wsX3_hasRow := goodIn_r _ [7, 8, 9, 10, 6, 11, 12, 61] (by decide +kernel) (by decide +kernel)
set_option maxRecDepth 20000 in
theorem gX4_ofRow_X3_hasRow : GoodIn wsX4_ofRow (wsV RX4 15 RX3 yX3_hasRow wsX3_hasRow) := goodIn_app (goodIn_of _ (by decide +kernel)) ggX4_ofRow_X3_hasRow
set_option maxRecDepth 20000 in
theorem ggX4_ofRow_X3_get : GoodIn wsX4_ofRow wsX3_get := goodIn_r _ [11, 12, 61] (by decide +kernel) (by decide +kernel)
set_option maxRecDepth 20000 in
theorem gX4_ofRow_X3_get : GoodIn wsX4_ofRow (wsV RX4 28 RX3 yX3_get wsX3_get) := goodIn_app (goodIn_of _ (by decide +kernel)) ggX4_ofRow_X3_get
set_option maxRecDepth 20000 in
theorem ggX4_ofRow_X3_neighbour : GoodIn wsX4_ofRow wsX3_neighbour := goodIn_r _ [17, 8, 9, 10, 6, 11, 12, 61] (by decide +kernel) (by decide +kernel)
set_option maxRecDepth 20000 in
theorem gX4_ofRow_X3_neighbour : GoodIn wsX4_ofRow (wsV RX4 52 RX3 yX3_neighbour wsX3_neighbour) := goodIn_app (goodIn_of _ (by decide +kernel)) ggX4_ofRow_X3_neighbour
set_option maxRecDepth 20000 in
theorem ggX4_ofRow_X3_lives : GoodIn wsX4_ofRow wsX3_lives := goodIn_r _ [21, 8, 9, 10, 6, 11, 12, 61] (by decide +kernel) (by decide +kernel)
set_option maxRecDepth 20000 in
theorem gX4_ofRow_X3_lives : GoodIn wsX4_ofRow (wsV RX4 25 RX3 yX3_lives wsX3_lives) := goodIn_app (goodIn_of _ (by decide +kernel)) ggX4_ofRow_X3_lives
set_option maxRecDepth 20000 in
theorem ggX4_ofRow_X4_unknownCells : GoodIn wsX4_ofRow wsX4_unknownCells := goodIn_r _ [26, 27, 28, 29, 25, 30, 1, 13, 9, 10, 6, 11, 12, 60, 61] (by decide +kernel) (by decide +kernel)
set_option maxRecDepth 20000 in
theorem gX4_ofRow_X4_unknownCells : GoodIn wsX4_ofRow (wsV RX4 55 RX4 yX4_unknownCells wsX4_unknownCells) := goodIn_app (goodIn_of _ (by decide +kernel)) ggX4_ofRow_X4_unknownCells
set_option maxRecDepth 20000 in
theorem ggX4_ofRow_X4_wrongCells : GoodIn wsX4_ofRow wsX4_wrongCells := goodIn_r _ [34, 1, 13, 9, 10, 6, 11, 12, 60, 61] (by decide +kernel) (by decide +kernel)
set_option maxRecDepth 20000 in
theorem gX4_ofRow_X4_wrongCells : GoodIn wsX4_ofRow (wsV RX4 58 RX4 yX4_wrongCells wsX4_wrongCells) := goodIn_app (goodIn_of _ (by decide +kernel)) ggX4_ofRow_X4_wrongCells
set_option maxRecDepth 20000 in
theorem ggX4_ofRow_X3_comingBack : GoodIn wsX4_ofRow wsX3_comingBack := goodIn_r _ [38, 39, 40, 41, 6, 42, 43, 44, 45, 46, 15, 16, 17, 8, 9, 10, 11, 12, 47, 48, 49, 50, 51, 52, 53, 54, 55, 56, 57, 58, 59, 61] (by decide +kernel) (by decide +kernel)
set_option maxRecDepth 20000 in
theorem gX4_ofRow_X3_comingBack : GoodIn wsX4_ofRow (wsV RX4 61 RX3 yX3_comingBack wsX3_comingBack) := goodIn_app (goodIn_of _ (by decide +kernel)) ggX4_ofRow_X3_comingBack
theorem dX4_ofRow_0 : decode cX4_ofRow 0 = .ok (.aload_n 0, 1) := by decide +kernel
theorem dX4_ofRow_1 : decode cX4_ofRow 1 = .ok (.getfield 9, 3) := by decide +kernel
theorem dX4_ofRow_4 : decode cX4_ofRow 4 = .ok (.iload_n 1, 1) := by decide +kernel
theorem dX4_ofRow_5 : decode cX4_ofRow 5 = .ok (.invokevirtual 15, 3) := by decide +kernel
theorem dX4_ofRow_8 : decode cX4_ofRow 8 = .ok (.ifCond .ne 6, 3) := by decide +kernel
theorem dX4_ofRow_11 : decode cX4_ofRow 11 = .ok (.ldc 24, 2) := by decide +kernel
theorem dX4_ofRow_13 : decode cX4_ofRow 13 = .ok (.ireturn, 1) := by decide +kernel
theorem dX4_ofRow_14 : decode cX4_ofRow 14 = .ok (.iload_n 2, 1) := by decide +kernel
theorem dX4_ofRow_15 : decode cX4_ofRow 15 = .ok (.tableswitch 170 0 9 #[53, 65, 77, 87, 97, 109, 131, 137, 146, 158], 53) := by decide +kernel
theorem dX4_ofRow_68 : decode cX4_ofRow 68 = .ok (.aload_n 0, 1) := by decide +kernel
theorem dX4_ofRow_69 : decode cX4_ofRow 69 = .ok (.getfield 9, 3) := by decide +kernel
theorem dX4_ofRow_72 : decode cX4_ofRow 72 = .ok (.bipush 10, 2) := by decide +kernel
theorem dX4_ofRow_74 : decode cX4_ofRow 74 = .ok (.iload_n 1, 1) := by decide +kernel
theorem dX4_ofRow_75 : decode cX4_ofRow 75 = .ok (.iadd, 1) := by decide +kernel
theorem dX4_ofRow_76 : decode cX4_ofRow 76 = .ok (.invokevirtual 28, 3) := by decide +kernel
theorem dX4_ofRow_79 : decode cX4_ofRow 79 = .ok (.ireturn, 1) := by decide +kernel
theorem dX4_ofRow_80 : decode cX4_ofRow 80 = .ok (.aload_n 0, 1) := by decide +kernel
theorem dX4_ofRow_81 : decode cX4_ofRow 81 = .ok (.getfield 9, 3) := by decide +kernel
theorem dX4_ofRow_84 : decode cX4_ofRow 84 = .ok (.bipush 28, 2) := by decide +kernel
theorem dX4_ofRow_86 : decode cX4_ofRow 86 = .ok (.iload_n 1, 1) := by decide +kernel
theorem dX4_ofRow_87 : decode cX4_ofRow 87 = .ok (.iadd, 1) := by decide +kernel
theorem dX4_ofRow_88 : decode cX4_ofRow 88 = .ok (.invokevirtual 28, 3) := by decide +kernel
theorem dX4_ofRow_91 : decode cX4_ofRow 91 = .ok (.ireturn, 1) := by decide +kernel
theorem dX4_ofRow_92 : decode cX4_ofRow 92 = .ok (.aload_n 0, 1) := by decide +kernel
theorem dX4_ofRow_93 : decode cX4_ofRow 93 = .ok (.getfield 9, 3) := by decide +kernel
theorem dX4_ofRow_96 : decode cX4_ofRow 96 = .ok (.iload_n 1, 1) := by decide +kernel
theorem dX4_ofRow_97 : decode cX4_ofRow 97 = .ok (.iconst (-1), 1) := by decide +kernel
theorem dX4_ofRow_98 : decode cX4_ofRow 98 = .ok (.invokevirtual 52, 3) := by decide +kernel
theorem dX4_ofRow_101 : decode cX4_ofRow 101 = .ok (.ireturn, 1) := by decide +kernel
theorem dX4_ofRow_102 : decode cX4_ofRow 102 = .ok (.aload_n 0, 1) := by decide +kernel
theorem dX4_ofRow_103 : decode cX4_ofRow 103 = .ok (.getfield 9, 3) := by decide +kernel
theorem dX4_ofRow_106 : decode cX4_ofRow 106 = .ok (.iload_n 1, 1) := by decide +kernel
theorem dX4_ofRow_107 : decode cX4_ofRow 107 = .ok (.iconst 1, 1) := by decide +kernel
theorem dX4_ofRow_108 : decode cX4_ofRow 108 = .ok (.invokevirtual 52, 3) := by decide +kernel
theorem dX4_ofRow_111 : decode cX4_ofRow 111 = .ok (.ireturn, 1) := by decide +kernel
theorem dX4_ofRow_112 : decode cX4_ofRow 112 = .ok (.aload_n 0, 1) := by decide +kernel
theorem dX4_ofRow_113 : decode cX4_ofRow 113 = .ok (.getfield 9, 3) := by decide +kernel
theorem dX4_ofRow_116 : decode cX4_ofRow 116 = .ok (.bipush 55, 2) := by decide +kernel
theorem dX4_ofRow_118 : decode cX4_ofRow 118 = .ok (.iload_n 1, 1) := by decide +kernel
theorem dX4_ofRow_119 : decode cX4_ofRow 119 = .ok (.iadd, 1) := by decide +kernel
theorem dX4_ofRow_120 : decode cX4_ofRow 120 = .ok (.invokevirtual 28, 3) := by decide +kernel
theorem dX4_ofRow_123 : decode cX4_ofRow 123 = .ok (.ireturn, 1) := by decide +kernel
theorem dX4_ofRow_124 : decode cX4_ofRow 124 = .ok (.aload_n 0, 1) := by decide +kernel
theorem dX4_ofRow_125 : decode cX4_ofRow 125 = .ok (.getfield 9, 3) := by decide +kernel
theorem dX4_ofRow_128 : decode cX4_ofRow 128 = .ok (.iload_n 1, 1) := by decide +kernel
theorem dX4_ofRow_129 : decode cX4_ofRow 129 = .ok (.invokevirtual 25, 3) := by decide +kernel
theorem dX4_ofRow_132 : decode cX4_ofRow 132 = .ok (.ifCond .eq 11, 3) := by decide +kernel
theorem dX4_ofRow_135 : decode cX4_ofRow 135 = .ok (.aload_n 0, 1) := by decide +kernel
theorem dX4_ofRow_136 : decode cX4_ofRow 136 = .ok (.iload_n 1, 1) := by decide +kernel
theorem dX4_ofRow_137 : decode cX4_ofRow 137 = .ok (.invokevirtual 55, 3) := by decide +kernel
theorem dX4_ofRow_140 : decode cX4_ofRow 140 = .ok (.goto 5, 3) := by decide +kernel
theorem dX4_ofRow_143 : decode cX4_ofRow 143 = .ok (.bipush 8, 2) := by decide +kernel
theorem dX4_ofRow_145 : decode cX4_ofRow 145 = .ok (.ireturn, 1) := by decide +kernel
theorem dX4_ofRow_146 : decode cX4_ofRow 146 = .ok (.aload_n 0, 1) := by decide +kernel
theorem dX4_ofRow_147 : decode cX4_ofRow 147 = .ok (.iload_n 1, 1) := by decide +kernel
theorem dX4_ofRow_148 : decode cX4_ofRow 148 = .ok (.invokevirtual 58, 3) := by decide +kernel
theorem dX4_ofRow_151 : decode cX4_ofRow 151 = .ok (.ireturn, 1) := by decide +kernel
theorem dX4_ofRow_152 : decode cX4_ofRow 152 = .ok (.aload_n 0, 1) := by decide +kernel
theorem dX4_ofRow_153 : decode cX4_ofRow 153 = .ok (.getfield 9, 3) := by decide +kernel
theorem dX4_ofRow_156 : decode cX4_ofRow 156 = .ok (.iload_n 1, 1) := by decide +kernel
theorem dX4_ofRow_157 : decode cX4_ofRow 157 = .ok (.invokevirtual 61, 3) := by decide +kernel
theorem dX4_ofRow_160 : decode cX4_ofRow 160 = .ok (.ireturn, 1) := by decide +kernel
theorem dX4_ofRow_161 : decode cX4_ofRow 161 = .ok (.aload_n 0, 1) := by decide +kernel
theorem dX4_ofRow_162 : decode cX4_ofRow 162 = .ok (.getfield 9, 3) := by decide +kernel
theorem dX4_ofRow_165 : decode cX4_ofRow 165 = .ok (.bipush 37, 2) := by decide +kernel
theorem dX4_ofRow_167 : decode cX4_ofRow 167 = .ok (.iload_n 1, 1) := by decide +kernel
theorem dX4_ofRow_168 : decode cX4_ofRow 168 = .ok (.iadd, 1) := by decide +kernel
theorem dX4_ofRow_169 : decode cX4_ofRow 169 = .ok (.invokevirtual 28, 3) := by decide +kernel
theorem dX4_ofRow_172 : decode cX4_ofRow 172 = .ok (.ireturn, 1) := by decide +kernel
theorem dX4_ofRow_173 : decode cX4_ofRow 173 = .ok (.aload_n 0, 1) := by decide +kernel
theorem dX4_ofRow_174 : decode cX4_ofRow 174 = .ok (.getfield 9, 3) := by decide +kernel
theorem dX4_ofRow_177 : decode cX4_ofRow 177 = .ok (.bipush 46, 2) := by decide +kernel
theorem dX4_ofRow_179 : decode cX4_ofRow 179 = .ok (.iload_n 1, 1) := by decide +kernel
theorem dX4_ofRow_180 : decode cX4_ofRow 180 = .ok (.iadd, 1) := by decide +kernel
theorem dX4_ofRow_181 : decode cX4_ofRow 181 = .ok (.invokevirtual 28, 3) := by decide +kernel
theorem dX4_ofRow_184 : decode cX4_ofRow 184 = .ok (.ireturn, 1) := by decide +kernel
theorem dX4_ofRow_185 : decode cX4_ofRow 185 = .ok (.ldc 24, 2) := by decide +kernel
theorem dX4_ofRow_187 : decode cX4_ofRow 187 = .ok (.ireturn, 1) := by decide +kernel
set_option maxRecDepth 20000 in
theorem ggX4_ofMending_X3_hasRow : GoodIn wsX4_ofMending wsX3_hasRow := goodIn_r _ [13, 14, 15, 16, 12, 17, 18, 57] (by decide +kernel) (by decide +kernel)
set_option maxRecDepth 20000 in
theorem gX4_ofMending_X3_hasRow : GoodIn wsX4_ofMending (wsV RX4 15 RX3 yX3_hasRow wsX3_hasRow) := goodIn_app (goodIn_of _ (by decide +kernel)) ggX4_ofMending_X3_hasRow
set_option maxRecDepth 20000 in
theorem ggX4_ofMending_X3_lives : GoodIn wsX4_ofMending wsX3_lives := goodIn_r _ [22, 14, 15, 16, 12, 17, 18, 57] (by decide +kernel) (by decide +kernel)
set_option maxRecDepth 20000 in
theorem gX4_ofMending_X3_lives : GoodIn wsX4_ofMending (wsV RX4 25 RX3 yX3_lives wsX3_lives) := goodIn_app (goodIn_of _ (by decide +kernel)) ggX4_ofMending_X3_lives
set_option maxRecDepth 20000 in
theorem ggX4_ofMending_X3_comingBack : GoodIn wsX4_ofMending wsX3_comingBack := goodIn_r _ [26, 27, 28, 29, 12, 30, 31, 32, 33, 34, 35, 36, 37, 14, 15, 16, 17, 18, 38, 39, 40, 41, 42, 43, 44, 45, 46, 47, 48, 49, 50, 57] (by decide +kernel) (by decide +kernel)
set_option maxRecDepth 20000 in
theorem gX4_ofMending_X3_comingBack : GoodIn wsX4_ofMending (wsV RX4 61 RX3 yX3_comingBack wsX3_comingBack) := goodIn_app (goodIn_of _ (by decide +kernel)) ggX4_ofMending_X3_comingBack
set_option maxRecDepth 20000 in
theorem ggX4_ofMending_X3_freshEcho : GoodIn wsX4_ofMending wsX3_freshEcho := goodIn_r _ [30, 31, 32, 12, 33, 34, 35, 36, 37, 14, 15, 16, 17, 18, 38, 39, 40, 41, 42, 43, 44, 45, 46, 47, 57] (by decide +kernel) (by decide +kernel)
set_option maxRecDepth 20000 in
theorem gX4_ofMending_X3_freshEcho : GoodIn wsX4_ofMending (wsV RX4 32 RX3 yX3_freshEcho wsX3_freshEcho) := goodIn_app (goodIn_of _ (by decide +kernel)) ggX4_ofMending_X3_freshEcho
set_option maxRecDepth 20000 in
theorem ggX4_ofMending_X3_ageOf : GoodIn wsX4_ofMending wsX3_ageOf := goodIn_r _ [55, 14, 15, 16, 12, 17, 18, 45, 46, 47, 57] (by decide +kernel) (by decide +kernel)
set_option maxRecDepth 20000 in
theorem gX4_ofMending_X3_ageOf : GoodIn wsX4_ofMending (wsV RX4 40 RX3 yX3_ageOf wsX3_ageOf) := goodIn_app (goodIn_of _ (by decide +kernel)) ggX4_ofMending_X3_ageOf
theorem dX4_ofMending_0 : decode cX4_ofMending 0 = .ok (.aload_n 0, 1) := by decide +kernel
theorem dX4_ofMending_1 : decode cX4_ofMending 1 = .ok (.getfield 9, 3) := by decide +kernel
theorem dX4_ofMending_4 : decode cX4_ofMending 4 = .ok (.iload_n 1, 1) := by decide +kernel
theorem dX4_ofMending_5 : decode cX4_ofMending 5 = .ok (.invokevirtual 15, 3) := by decide +kernel
theorem dX4_ofMending_8 : decode cX4_ofMending 8 = .ok (.ifCond .eq 12, 3) := by decide +kernel
theorem dX4_ofMending_11 : decode cX4_ofMending 11 = .ok (.iload_n 2, 1) := by decide +kernel
theorem dX4_ofMending_12 : decode cX4_ofMending 12 = .ok (.ifCond .lt 8, 3) := by decide +kernel
theorem dX4_ofMending_15 : decode cX4_ofMending 15 = .ok (.iload_n 2, 1) := by decide +kernel
theorem dX4_ofMending_16 : decode cX4_ofMending 16 = .ok (.iconst 3, 1) := by decide +kernel
theorem dX4_ofMending_17 : decode cX4_ofMending 17 = .ok (.if_icmp .le 6, 3) := by decide +kernel
theorem dX4_ofMending_20 : decode cX4_ofMending 20 = .ok (.ldc 24, 2) := by decide +kernel
theorem dX4_ofMending_22 : decode cX4_ofMending 22 = .ok (.ireturn, 1) := by decide +kernel
theorem dX4_ofMending_23 : decode cX4_ofMending 23 = .ok (.aload_n 0, 1) := by decide +kernel
theorem dX4_ofMending_24 : decode cX4_ofMending 24 = .ok (.getfield 9, 3) := by decide +kernel
theorem dX4_ofMending_27 : decode cX4_ofMending 27 = .ok (.iload_n 1, 1) := by decide +kernel
theorem dX4_ofMending_28 : decode cX4_ofMending 28 = .ok (.invokevirtual 25, 3) := by decide +kernel
theorem dX4_ofMending_31 : decode cX4_ofMending 31 = .ok (.ifCond .eq 6, 3) := by decide +kernel
theorem dX4_ofMending_34 : decode cX4_ofMending 34 = .ok (.ldc 64, 2) := by decide +kernel
theorem dX4_ofMending_36 : decode cX4_ofMending 36 = .ok (.ireturn, 1) := by decide +kernel
theorem dX4_ofMending_37 : decode cX4_ofMending 37 = .ok (.aload_n 0, 1) := by decide +kernel
theorem dX4_ofMending_38 : decode cX4_ofMending 38 = .ok (.getfield 9, 3) := by decide +kernel
theorem dX4_ofMending_41 : decode cX4_ofMending 41 = .ok (.iload_n 1, 1) := by decide +kernel
theorem dX4_ofMending_42 : decode cX4_ofMending 42 = .ok (.invokevirtual 61, 3) := by decide +kernel
theorem dX4_ofMending_45 : decode cX4_ofMending 45 = .ok (.istore_n 3, 1) := by decide +kernel
theorem dX4_ofMending_46 : decode cX4_ofMending 46 = .ok (.iconst 0, 1) := by decide +kernel
theorem dX4_ofMending_47 : decode cX4_ofMending 47 = .ok (.istore 4, 2) := by decide +kernel
theorem dX4_ofMending_49 : decode cX4_ofMending 49 = .ok (.ldc 36, 2) := by decide +kernel
theorem dX4_ofMending_51 : decode cX4_ofMending 51 = .ok (.istore 5, 2) := by decide +kernel
theorem dX4_ofMending_53 : decode cX4_ofMending 53 = .ok (.iconst 0, 1) := by decide +kernel
theorem dX4_ofMending_54 : decode cX4_ofMending 54 = .ok (.istore 6, 2) := by decide +kernel
theorem dX4_ofMending_56 : decode cX4_ofMending 56 = .ok (.iload 6, 2) := by decide +kernel
theorem dX4_ofMending_58 : decode cX4_ofMending 58 = .ok (.bipush 8, 2) := by decide +kernel
theorem dX4_ofMending_60 : decode cX4_ofMending 60 = .ok (.if_icmp .ge 46, 3) := by decide +kernel
theorem dX4_ofMending_63 : decode cX4_ofMending 63 = .ok (.aload_n 0, 1) := by decide +kernel
theorem dX4_ofMending_64 : decode cX4_ofMending 64 = .ok (.getfield 9, 3) := by decide +kernel
theorem dX4_ofMending_67 : decode cX4_ofMending 67 = .ok (.iload_n 1, 1) := by decide +kernel
theorem dX4_ofMending_68 : decode cX4_ofMending 68 = .ok (.iload 6, 2) := by decide +kernel
theorem dX4_ofMending_70 : decode cX4_ofMending 70 = .ok (.invokevirtual 32, 3) := by decide +kernel
theorem dX4_ofMending_73 : decode cX4_ofMending 73 = .ok (.istore 7, 2) := by decide +kernel
theorem dX4_ofMending_75 : decode cX4_ofMending 75 = .ok (.iload 7, 2) := by decide +kernel
theorem dX4_ofMending_77 : decode cX4_ofMending 77 = .ok (.iconst (-1), 1) := by decide +kernel
theorem dX4_ofMending_78 : decode cX4_ofMending 78 = .ok (.if_icmp .eq 22, 3) := by decide +kernel
theorem dX4_ofMending_81 : decode cX4_ofMending 81 = .ok (.iinc 4 1, 3) := by decide +kernel
theorem dX4_ofMending_84 : decode cX4_ofMending 84 = .ok (.iload 5, 2) := by decide +kernel
theorem dX4_ofMending_86 : decode cX4_ofMending 86 = .ok (.aload_n 0, 1) := by decide +kernel
theorem dX4_ofMending_87 : decode cX4_ofMending 87 = .ok (.getfield 9, 3) := by decide +kernel
theorem dX4_ofMending_90 : decode cX4_ofMending 90 = .ok (.iload 7, 2) := by decide +kernel
theorem dX4_ofMending_92 : decode cX4_ofMending 92 = .ok (.invokevirtual 40, 3) := by decide +kernel
theorem dX4_ofMending_95 : decode cX4_ofMending 95 = .ok (.invokestatic 65, 3) := by decide +kernel
theorem dX4_ofMending_98 : decode cX4_ofMending 98 = .ok (.istore 5, 2) := by decide +kernel
theorem dX4_ofMending_100 : decode cX4_ofMending 100 = .ok (.iinc 6 1, 3) := by decide +kernel
theorem dX4_ofMending_103 : decode cX4_ofMending 103 = .ok (.goto (-47), 3) := by decide +kernel
theorem dX4_ofMending_106 : decode cX4_ofMending 106 = .ok (.iload_n 2, 1) := by decide +kernel
theorem dX4_ofMending_107 : decode cX4_ofMending 107 = .ok (.tableswitch 38 0 2 #[25, 27, 32], 25) := by decide +kernel
theorem dX4_ofMending_132 : decode cX4_ofMending 132 = .ok (.iload_n 3, 1) := by decide +kernel
theorem dX4_ofMending_133 : decode cX4_ofMending 133 = .ok (.ireturn, 1) := by decide +kernel
theorem dX4_ofMending_134 : decode cX4_ofMending 134 = .ok (.iload 4, 2) := by decide +kernel
theorem dX4_ofMending_136 : decode cX4_ofMending 136 = .ok (.iload_n 3, 1) := by decide +kernel
theorem dX4_ofMending_137 : decode cX4_ofMending 137 = .ok (.isub, 1) := by decide +kernel
theorem dX4_ofMending_138 : decode cX4_ofMending 138 = .ok (.ireturn, 1) := by decide +kernel
theorem dX4_ofMending_139 : decode cX4_ofMending 139 = .ok (.bipush 8, 2) := by decide +kernel
theorem dX4_ofMending_141 : decode cX4_ofMending 141 = .ok (.iload 4, 2) := by decide +kernel
theorem dX4_ofMending_143 : decode cX4_ofMending 143 = .ok (.isub, 1) := by decide +kernel
theorem dX4_ofMending_144 : decode cX4_ofMending 144 = .ok (.ireturn, 1) := by decide +kernel
theorem dX4_ofMending_145 : decode cX4_ofMending 145 = .ok (.iload 5, 2) := by decide +kernel
theorem dX4_ofMending_147 : decode cX4_ofMending 147 = .ok (.ireturn, 1) := by decide +kernel
set_option maxRecDepth 20000 in
theorem ggX4_ofAll_X3_get : GoodIn wsX4_ofAll wsX3_get := goodIn_r _ [7, 8, 85] (by decide +kernel) (by decide +kernel)
set_option maxRecDepth 20000 in
theorem gX4_ofAll_X3_get : GoodIn wsX4_ofAll (wsV RX4 28 RX3 yX3_get wsX3_get) := goodIn_app (goodIn_of _ (by decide +kernel)) ggX4_ofAll_X3_get
set_option maxRecDepth 20000 in
theorem ggX4_ofAll_X4_livingRows : GoodIn wsX4_ofAll wsX4_livingRows := goodIn_r _ [13, 1, 3, 4, 5, 6, 7, 8, 84, 85] (by decide +kernel) (by decide +kernel)
set_option maxRecDepth 20000 in
theorem gX4_ofAll_X4_livingRows : GoodIn wsX4_ofAll (wsV RX4 70 RX4 yX4_livingRows wsX4_livingRows) := goodIn_app (goodIn_of _ (by decide +kernel)) ggX4_ofAll_X4_livingRows
set_option maxRecDepth 20000 in
theorem ggX4_ofAll_X4_safeRows : GoodIn wsX4_ofAll wsX4_safeRows := goodIn_r _ [17, 1, 3, 4, 5, 6, 7, 8, 18, 19, 20, 21, 22, 23, 24, 25, 26, 27, 28, 29, 30, 31, 32, 33, 34, 35, 36, 37, 38, 39, 40, 41, 42, 43, 44, 45, 46, 47, 48, 49, 50, 51, 52, 53, 12, 54, 55, 56, 57, 58, 84, 85] (by decide +kernel) (by decide +kernel)
set_option maxRecDepth 20000 in
theorem gX4_ofAll_X4_safeRows : GoodIn wsX4_ofAll (wsV RX4 74 RX4 yX4_safeRows wsX4_safeRows) := goodIn_app (goodIn_of _ (by decide +kernel)) ggX4_ofAll_X4_safeRows
set_option maxRecDepth 20000 in
theorem ggX4_ofAll_X4_allEchoes : GoodIn wsX4_ofAll wsX4_allEchoes := goodIn_r _ [62, 1, 3, 4, 5, 6, 7, 8, 84, 85] (by decide +kernel) (by decide +kernel)
set_option maxRecDepth 20000 in
theorem gX4_ofAll_X4_allEchoes : GoodIn wsX4_ofAll (wsV RX4 77 RX4 yX4_allEchoes wsX4_allEchoes) := goodIn_app (goodIn_of _ (by decide +kernel)) ggX4_ofAll_X4_allEchoes
set_option maxRecDepth 20000 in
theorem ggX4_ofAll_X4_freshEchoes : GoodIn wsX4_ofAll wsX4_freshEchoes := goodIn_r _ [66, 1, 3, 4, 5, 6, 7, 8, 67, 68, 69, 12, 70, 71, 42, 43, 44, 22, 45, 46, 47, 84, 85] (by decide +kernel) (by decide +kernel)
set_option maxRecDepth 20000 in
theorem gX4_ofAll_X4_freshEchoes : GoodIn wsX4_ofAll (wsV RX4 80 RX4 yX4_freshEchoes wsX4_freshEchoes) := goodIn_app (goodIn_of _ (by decide +kernel)) ggX4_ofAll_X4_freshEchoes
set_option maxRecDepth 20000 in
theorem ggX4_ofAll_X4_allUnknownCells : GoodIn wsX4_ofAll wsX4_allUnknownCells := goodIn_r _ [75, 1, 3, 4, 5, 6, 7, 8, 18, 19, 20, 21, 22, 51, 52, 53, 12, 54, 55, 56, 57, 58, 84, 85] (by decide +kernel) (by decide +kernel)
set_option maxRecDepth 20000 in
theorem gX4_ofAll_X4_allUnknownCells : GoodIn wsX4_ofAll (wsV RX4 83 RX4 yX4_allUnknownCells wsX4_allUnknownCells) := goodIn_app (goodIn_of _ (by decide +kernel)) ggX4_ofAll_X4_allUnknownCells
set_option maxRecDepth 20000 in
theorem ggX4_ofAll_X4_allWrongCells : GoodIn wsX4_ofAll wsX4_allWrongCells := goodIn_r _ [79, 1, 3, 4, 5, 6, 7, 8, 80, 81, 82, 12, 83, 84, 85] (by decide +kernel) (by decide +kernel)
set_option maxRecDepth 20000 in
theorem gX4_ofAll_X4_allWrongCells : GoodIn wsX4_ofAll (wsV RX4 86 RX4 yX4_allWrongCells wsX4_allWrongCells) := goodIn_app (goodIn_of _ (by decide +kernel)) ggX4_ofAll_X4_allWrongCells
theorem dX4_ofAll_0 : decode cX4_ofAll 0 = .ok (.iload_n 1, 1) := by decide +kernel
theorem dX4_ofAll_1 : decode cX4_ofAll 1 = .ok (.tableswitch 232 0 21 #[103, 112, 121, 126, 131, 136, 146, 151, 156, 165, 174, 184, 194, 204, 232, 232, 232, 232, 232, 232, 214, 223], 103) := by decide +kernel
theorem dX4_ofAll_104 : decode cX4_ofAll 104 = .ok (.aload_n 0, 1) := by decide +kernel
theorem dX4_ofAll_105 : decode cX4_ofAll 105 = .ok (.getfield 9, 3) := by decide +kernel
theorem dX4_ofAll_108 : decode cX4_ofAll 108 = .ok (.iconst 1, 1) := by decide +kernel
theorem dX4_ofAll_109 : decode cX4_ofAll 109 = .ok (.invokevirtual 28, 3) := by decide +kernel
theorem dX4_ofAll_112 : decode cX4_ofAll 112 = .ok (.ireturn, 1) := by decide +kernel
theorem dX4_ofAll_113 : decode cX4_ofAll 113 = .ok (.aload_n 0, 1) := by decide +kernel
theorem dX4_ofAll_114 : decode cX4_ofAll 114 = .ok (.getfield 9, 3) := by decide +kernel
theorem dX4_ofAll_117 : decode cX4_ofAll 117 = .ok (.iconst 0, 1) := by decide +kernel
theorem dX4_ofAll_118 : decode cX4_ofAll 118 = .ok (.invokevirtual 28, 3) := by decide +kernel
theorem dX4_ofAll_121 : decode cX4_ofAll 121 = .ok (.ireturn, 1) := by decide +kernel
theorem dX4_ofAll_122 : decode cX4_ofAll 122 = .ok (.aload_n 0, 1) := by decide +kernel
theorem dX4_ofAll_123 : decode cX4_ofAll 123 = .ok (.invokevirtual 70, 3) := by decide +kernel
theorem dX4_ofAll_126 : decode cX4_ofAll 126 = .ok (.ireturn, 1) := by decide +kernel
theorem dX4_ofAll_127 : decode cX4_ofAll 127 = .ok (.aload_n 0, 1) := by decide +kernel
theorem dX4_ofAll_128 : decode cX4_ofAll 128 = .ok (.invokevirtual 74, 3) := by decide +kernel
theorem dX4_ofAll_131 : decode cX4_ofAll 131 = .ok (.ireturn, 1) := by decide +kernel
theorem dX4_ofAll_132 : decode cX4_ofAll 132 = .ok (.aload_n 0, 1) := by decide +kernel
theorem dX4_ofAll_133 : decode cX4_ofAll 133 = .ok (.invokevirtual 77, 3) := by decide +kernel
theorem dX4_ofAll_136 : decode cX4_ofAll 136 = .ok (.ireturn, 1) := by decide +kernel
theorem dX4_ofAll_137 : decode cX4_ofAll 137 = .ok (.aload_n 0, 1) := by decide +kernel
theorem dX4_ofAll_138 : decode cX4_ofAll 138 = .ok (.invokevirtual 77, 3) := by decide +kernel
theorem dX4_ofAll_141 : decode cX4_ofAll 141 = .ok (.aload_n 0, 1) := by decide +kernel
theorem dX4_ofAll_142 : decode cX4_ofAll 142 = .ok (.invokevirtual 80, 3) := by decide +kernel
theorem dX4_ofAll_145 : decode cX4_ofAll 145 = .ok (.isub, 1) := by decide +kernel
theorem dX4_ofAll_146 : decode cX4_ofAll 146 = .ok (.ireturn, 1) := by decide +kernel
theorem dX4_ofAll_147 : decode cX4_ofAll 147 = .ok (.aload_n 0, 1) := by decide +kernel
theorem dX4_ofAll_148 : decode cX4_ofAll 148 = .ok (.invokevirtual 83, 3) := by decide +kernel
theorem dX4_ofAll_151 : decode cX4_ofAll 151 = .ok (.ireturn, 1) := by decide +kernel
theorem dX4_ofAll_152 : decode cX4_ofAll 152 = .ok (.aload_n 0, 1) := by decide +kernel
theorem dX4_ofAll_153 : decode cX4_ofAll 153 = .ok (.invokevirtual 86, 3) := by decide +kernel
theorem dX4_ofAll_156 : decode cX4_ofAll 156 = .ok (.ireturn, 1) := by decide +kernel
theorem dX4_ofAll_157 : decode cX4_ofAll 157 = .ok (.aload_n 0, 1) := by decide +kernel
theorem dX4_ofAll_158 : decode cX4_ofAll 158 = .ok (.getfield 9, 3) := by decide +kernel
theorem dX4_ofAll_161 : decode cX4_ofAll 161 = .ok (.iconst 4, 1) := by decide +kernel
theorem dX4_ofAll_162 : decode cX4_ofAll 162 = .ok (.invokevirtual 28, 3) := by decide +kernel
theorem dX4_ofAll_165 : decode cX4_ofAll 165 = .ok (.ireturn, 1) := by decide +kernel
