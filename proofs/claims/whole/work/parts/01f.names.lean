set_option maxRecDepth 20000 in
theorem gX6_would_X6_wrongs : GoodIn wsX6_would (wsV RX6 108 RX6 yX6_wrongs wsX6_wrongs) := goodIn_app (goodIn_of _ (by decide +kernel)) ggX6_would_X6_wrongs
set_option maxRecDepth 20000 in
theorem ggX6_would_X6_unheard : GoodIn wsX6_would wsX6_unheard := goodIn_r _ [72, 24, 25, 26, 6, 27, 28, 29, 30, 31, 32, 33, 34, 35, 36, 37, 38, 39, 40, 8, 16, 17, 18, 19, 41, 42, 43, 44, 45, 46, 47, 48, 12, 13, 14, 15, 49, 50, 51, 52, 53, 54, 55, 56, 57, 58, 59, 60, 61, 62, 63, 64, 81, 82, 83, 84, 85, 86, 87, 88, 89, 90, 91, 92, 93, 94, 95, 96, 97, 98] (by decide +kernel) (by decide +kernel)
set_option maxRecDepth 20000 in
theorem gX6_would_X6_unheard : GoodIn wsX6_would (wsV RX6 157 RX6 yX6_unheard wsX6_unheard) := goodIn_app (goodIn_of _ (by decide +kernel)) ggX6_would_X6_unheard
set_option maxRecDepth 20000 in
theorem ggX6_would_X6_oldest : GoodIn wsX6_would wsX6_oldest := goodIn_r _ [76, 32, 77, 78, 79, 6, 80, 28, 29, 30, 31, 33, 34, 35, 36, 37, 38, 39, 40, 8, 16, 17, 18, 19, 41, 42, 43, 44, 45, 46, 47, 48, 12, 13, 14, 15, 49, 50, 51, 52, 53, 54, 55, 56, 57, 58, 59, 60, 61, 62, 63, 64, 81, 82, 83, 84, 85, 86, 87, 88, 89, 90, 91, 92, 93, 94, 95, 96, 97, 98] (by decide +kernel) (by decide +kernel)
set_option maxRecDepth 20000 in
theorem gX6_would_X6_oldest : GoodIn wsX6_would (wsV RX6 160 RX6 yX6_oldest wsX6_oldest) := goodIn_app (goodIn_of _ (by decide +kernel)) ggX6_would_X6_oldest
theorem dX6_would_0 : decode cX6_would 0 = .ok (.aload_n 0, 1) := by decide +kernel
theorem dX6_would_1 : decode cX6_would 1 = .ok (.iload_n 1, 1) := by decide +kernel
theorem dX6_would_2 : decode cX6_would 2 = .ok (.invokevirtual 111, 3) := by decide +kernel
theorem dX6_would_5 : decode cX6_would 5 = .ok (.ifCond .eq 12, 3) := by decide +kernel
theorem dX6_would_8 : decode cX6_would 8 = .ok (.iload_n 2, 1) := by decide +kernel
theorem dX6_would_9 : decode cX6_would 9 = .ok (.iconst 0, 1) := by decide +kernel
theorem dX6_would_10 : decode cX6_would 10 = .ok (.iconst 3, 1) := by decide +kernel
theorem dX6_would_11 : decode cX6_would 11 = .ok (.invokestatic 43, 3) := by decide +kernel
theorem dX6_would_14 : decode cX6_would 14 = .ok (.ifCond .ne 6, 3) := by decide +kernel
theorem dX6_would_17 : decode cX6_would 17 = .ok (.ldc 114, 2) := by decide +kernel
theorem dX6_would_19 : decode cX6_would 19 = .ok (.ireturn, 1) := by decide +kernel
theorem dX6_would_20 : decode cX6_would 20 = .ok (.aload_n 0, 1) := by decide +kernel
theorem dX6_would_21 : decode cX6_would 21 = .ok (.iload_n 1, 1) := by decide +kernel
theorem dX6_would_22 : decode cX6_would 22 = .ok (.invokevirtual 75, 3) := by decide +kernel
theorem dX6_would_25 : decode cX6_would 25 = .ok (.ifCond .eq 6, 3) := by decide +kernel
theorem dX6_would_28 : decode cX6_would 28 = .ok (.ldc 115, 2) := by decide +kernel
theorem dX6_would_30 : decode cX6_would 30 = .ok (.ireturn, 1) := by decide +kernel
theorem dX6_would_31 : decode cX6_would 31 = .ok (.iload_n 2, 1) := by decide +kernel
theorem dX6_would_32 : decode cX6_would 32 = .ok (.ifCond .ne 11, 3) := by decide +kernel
theorem dX6_would_35 : decode cX6_would 35 = .ok (.aload_n 0, 1) := by decide +kernel
theorem dX6_would_36 : decode cX6_would 36 = .ok (.iload_n 1, 1) := by decide +kernel
theorem dX6_would_37 : decode cX6_would 37 = .ok (.invokevirtual 105, 3) := by decide +kernel
theorem dX6_would_40 : decode cX6_would 40 = .ok (.goto 34, 3) := by decide +kernel
theorem dX6_would_43 : decode cX6_would 43 = .ok (.iload_n 2, 1) := by decide +kernel
theorem dX6_would_44 : decode cX6_would 44 = .ok (.iconst 1, 1) := by decide +kernel
theorem dX6_would_45 : decode cX6_would 45 = .ok (.if_icmp .ne 11, 3) := by decide +kernel
theorem dX6_would_48 : decode cX6_would 48 = .ok (.aload_n 0, 1) := by decide +kernel
theorem dX6_would_49 : decode cX6_would 49 = .ok (.iload_n 1, 1) := by decide +kernel
theorem dX6_would_50 : decode cX6_would 50 = .ok (.invokevirtual 108, 3) := by decide +kernel
theorem dX6_would_53 : decode cX6_would 53 = .ok (.goto 21, 3) := by decide +kernel
theorem dX6_would_56 : decode cX6_would 56 = .ok (.iload_n 2, 1) := by decide +kernel
theorem dX6_would_57 : decode cX6_would 57 = .ok (.iconst 2, 1) := by decide +kernel
theorem dX6_would_58 : decode cX6_would 58 = .ok (.if_icmp .ne 11, 3) := by decide +kernel
theorem dX6_would_61 : decode cX6_would 61 = .ok (.aload_n 0, 1) := by decide +kernel
theorem dX6_would_62 : decode cX6_would 62 = .ok (.iload_n 1, 1) := by decide +kernel
theorem dX6_would_63 : decode cX6_would 63 = .ok (.invokevirtual 157, 3) := by decide +kernel
theorem dX6_would_66 : decode cX6_would 66 = .ok (.goto 8, 3) := by decide +kernel
theorem dX6_would_69 : decode cX6_would 69 = .ok (.aload_n 0, 1) := by decide +kernel
theorem dX6_would_70 : decode cX6_would 70 = .ok (.iload_n 1, 1) := by decide +kernel
theorem dX6_would_71 : decode cX6_would 71 = .ok (.invokevirtual 160, 3) := by decide +kernel
theorem dX6_would_74 : decode cX6_would 74 = .ok (.ireturn, 1) := by decide +kernel
set_option maxRecDepth 20000 in
theorem ggX6_lostMany_X6_lives : GoodIn wsX6_lostMany wsX6_lives := goodIn_r _ [6, 7, 8, 9, 5, 10, 1, 11, 12, 13, 14, 15, 16, 17, 18, 19, 20, 21, 22, 23, 24, 25, 26, 27, 28] (by decide +kernel) (by decide +kernel)
set_option maxRecDepth 20000 in
theorem gX6_lostMany_X6_lives : GoodIn wsX6_lostMany (wsV RX6 75 RX6 yX6_lives wsX6_lives) := goodIn_app (goodIn_of _ (by decide +kernel)) ggX6_lostMany_X6_lives
theorem dX6_lostMany_0 : decode cX6_lostMany 0 = .ok (.iconst 0, 1) := by decide +kernel
theorem dX6_lostMany_1 : decode cX6_lostMany 1 = .ok (.istore_n 1, 1) := by decide +kernel
theorem dX6_lostMany_2 : decode cX6_lostMany 2 = .ok (.iconst 0, 1) := by decide +kernel
theorem dX6_lostMany_3 : decode cX6_lostMany 3 = .ok (.istore_n 2, 1) := by decide +kernel
theorem dX6_lostMany_4 : decode cX6_lostMany 4 = .ok (.iload_n 2, 1) := by decide +kernel
theorem dX6_lostMany_5 : decode cX6_lostMany 5 = .ok (.aload_n 0, 1) := by decide +kernel
theorem dX6_lostMany_6 : decode cX6_lostMany 6 = .ok (.getfield 7, 3) := by decide +kernel
theorem dX6_lostMany_9 : decode cX6_lostMany 9 = .ok (.iconst 0, 1) := by decide +kernel
theorem dX6_lostMany_10 : decode cX6_lostMany 10 = .ok (.iaload, 1) := by decide +kernel
theorem dX6_lostMany_11 : decode cX6_lostMany 11 = .ok (.if_icmp .ge 25, 3) := by decide +kernel
theorem dX6_lostMany_14 : decode cX6_lostMany 14 = .ok (.iload_n 1, 1) := by decide +kernel
theorem dX6_lostMany_15 : decode cX6_lostMany 15 = .ok (.aload_n 0, 1) := by decide +kernel
theorem dX6_lostMany_16 : decode cX6_lostMany 16 = .ok (.iload_n 2, 1) := by decide +kernel
theorem dX6_lostMany_17 : decode cX6_lostMany 17 = .ok (.invokevirtual 75, 3) := by decide +kernel
theorem dX6_lostMany_20 : decode cX6_lostMany 20 = .ok (.ifCond .eq 7, 3) := by decide +kernel
theorem dX6_lostMany_23 : decode cX6_lostMany 23 = .ok (.iconst 0, 1) := by decide +kernel
theorem dX6_lostMany_24 : decode cX6_lostMany 24 = .ok (.goto 4, 3) := by decide +kernel
theorem dX6_lostMany_27 : decode cX6_lostMany 27 = .ok (.iconst 1, 1) := by decide +kernel
theorem dX6_lostMany_28 : decode cX6_lostMany 28 = .ok (.iadd, 1) := by decide +kernel
theorem dX6_lostMany_29 : decode cX6_lostMany 29 = .ok (.istore_n 1, 1) := by decide +kernel
theorem dX6_lostMany_30 : decode cX6_lostMany 30 = .ok (.iinc 2 1, 3) := by decide +kernel
theorem dX6_lostMany_33 : decode cX6_lostMany 33 = .ok (.goto (-29), 3) := by decide +kernel
theorem dX6_lostMany_36 : decode cX6_lostMany 36 = .ok (.iload_n 1, 1) := by decide +kernel
theorem dX6_lostMany_37 : decode cX6_lostMany 37 = .ok (.ireturn, 1) := by decide +kernel
set_option maxRecDepth 20000 in
theorem ggX6_findsLost_X6_lives : GoodIn wsX6_findsLost wsX6_lives := goodIn_r _ [8, 9, 10, 11, 7, 12, 2, 13, 14, 15, 16, 17, 18, 19, 20, 21, 22, 23, 24, 25, 26, 27, 28, 29, 30] (by decide +kernel) (by decide +kernel)
set_option maxRecDepth 20000 in
theorem gX6_findsLost_X6_lives : GoodIn wsX6_findsLost (wsV RX6 75 RX6 yX6_lives wsX6_lives) := goodIn_app (goodIn_of _ (by decide +kernel)) ggX6_findsLost_X6_lives
theorem dX6_findsLost_0 : decode cX6_findsLost 0 = .ok (.aload_n 0, 1) := by decide +kernel
theorem dX6_findsLost_1 : decode cX6_findsLost 1 = .ok (.iconst 0, 1) := by decide +kernel
theorem dX6_findsLost_2 : decode cX6_findsLost 2 = .ok (.putfield 163, 3) := by decide +kernel
theorem dX6_findsLost_5 : decode cX6_findsLost 5 = .ok (.iconst 0, 1) := by decide +kernel
theorem dX6_findsLost_6 : decode cX6_findsLost 6 = .ok (.istore_n 1, 1) := by decide +kernel
theorem dX6_findsLost_7 : decode cX6_findsLost 7 = .ok (.iload_n 1, 1) := by decide +kernel
theorem dX6_findsLost_8 : decode cX6_findsLost 8 = .ok (.aload_n 0, 1) := by decide +kernel
theorem dX6_findsLost_9 : decode cX6_findsLost 9 = .ok (.getfield 7, 3) := by decide +kernel
theorem dX6_findsLost_12 : decode cX6_findsLost 12 = .ok (.iconst 0, 1) := by decide +kernel
theorem dX6_findsLost_13 : decode cX6_findsLost 13 = .ok (.iaload, 1) := by decide +kernel
theorem dX6_findsLost_14 : decode cX6_findsLost 14 = .ok (.if_icmp .ge 37, 3) := by decide +kernel
theorem dX6_findsLost_17 : decode cX6_findsLost 17 = .ok (.aload_n 0, 1) := by decide +kernel
theorem dX6_findsLost_18 : decode cX6_findsLost 18 = .ok (.iload_n 1, 1) := by decide +kernel
theorem dX6_findsLost_19 : decode cX6_findsLost 19 = .ok (.invokevirtual 75, 3) := by decide +kernel
theorem dX6_findsLost_22 : decode cX6_findsLost 22 = .ok (.ifCond .ne 23, 3) := by decide +kernel
theorem dX6_findsLost_25 : decode cX6_findsLost 25 = .ok (.aload_n 0, 1) := by decide +kernel
theorem dX6_findsLost_26 : decode cX6_findsLost 26 = .ok (.getfield 25, 3) := by decide +kernel
theorem dX6_findsLost_29 : decode cX6_findsLost 29 = .ok (.aload_n 0, 1) := by decide +kernel
theorem dX6_findsLost_30 : decode cX6_findsLost 30 = .ok (.getfield 163, 3) := by decide +kernel
theorem dX6_findsLost_33 : decode cX6_findsLost 33 = .ok (.iload_n 1, 1) := by decide +kernel
theorem dX6_findsLost_34 : decode cX6_findsLost 34 = .ok (.iastore, 1) := by decide +kernel
theorem dX6_findsLost_35 : decode cX6_findsLost 35 = .ok (.aload_n 0, 1) := by decide +kernel
theorem dX6_findsLost_36 : decode cX6_findsLost 36 = .ok (.dup, 1) := by decide +kernel
theorem dX6_findsLost_37 : decode cX6_findsLost 37 = .ok (.getfield 163, 3) := by decide +kernel
theorem dX6_findsLost_40 : decode cX6_findsLost 40 = .ok (.iconst 1, 1) := by decide +kernel
theorem dX6_findsLost_41 : decode cX6_findsLost 41 = .ok (.iadd, 1) := by decide +kernel
theorem dX6_findsLost_42 : decode cX6_findsLost 42 = .ok (.putfield 163, 3) := by decide +kernel
theorem dX6_findsLost_45 : decode cX6_findsLost 45 = .ok (.iinc 1 1, 3) := by decide +kernel
theorem dX6_findsLost_48 : decode cX6_findsLost 48 = .ok (.goto (-41), 3) := by decide +kernel
theorem dX6_findsLost_51 : decode cX6_findsLost 51 = .ok (.return_, 1) := by decide +kernel
theorem dX6_isOrder_0 : decode cX6_isOrder 0 = .ok (.iconst 0, 1) := by decide +kernel
theorem dX6_isOrder_1 : decode cX6_isOrder 1 = .ok (.istore_n 2, 1) := by decide +kernel
theorem dX6_isOrder_2 : decode cX6_isOrder 2 = .ok (.iconst 0, 1) := by decide +kernel
theorem dX6_isOrder_3 : decode cX6_isOrder 3 = .ok (.istore_n 3, 1) := by decide +kernel
theorem dX6_isOrder_4 : decode cX6_isOrder 4 = .ok (.iload_n 3, 1) := by decide +kernel
theorem dX6_isOrder_5 : decode cX6_isOrder 5 = .ok (.aload_n 0, 1) := by decide +kernel
theorem dX6_isOrder_6 : decode cX6_isOrder 6 = .ok (.getfield 163, 3) := by decide +kernel
theorem dX6_isOrder_9 : decode cX6_isOrder 9 = .ok (.if_icmp .ge 28, 3) := by decide +kernel
theorem dX6_isOrder_12 : decode cX6_isOrder 12 = .ok (.iload_n 2, 1) := by decide +kernel
theorem dX6_isOrder_13 : decode cX6_isOrder 13 = .ok (.iconst 1, 1) := by decide +kernel
theorem dX6_isOrder_14 : decode cX6_isOrder 14 = .ok (.iload_n 1, 1) := by decide +kernel
theorem dX6_isOrder_15 : decode cX6_isOrder 15 = .ok (.iconst 2, 1) := by decide +kernel
theorem dX6_isOrder_16 : decode cX6_isOrder 16 = .ok (.aload_n 0, 1) := by decide +kernel
theorem dX6_isOrder_17 : decode cX6_isOrder 17 = .ok (.getfield 163, 3) := by decide +kernel
theorem dX6_isOrder_20 : decode cX6_isOrder 20 = .ok (.iconst 1, 1) := by decide +kernel
theorem dX6_isOrder_21 : decode cX6_isOrder 21 = .ok (.isub, 1) := by decide +kernel
theorem dX6_isOrder_22 : decode cX6_isOrder 22 = .ok (.iload_n 3, 1) := by decide +kernel
theorem dX6_isOrder_23 : decode cX6_isOrder 23 = .ok (.isub, 1) := by decide +kernel
theorem dX6_isOrder_24 : decode cX6_isOrder 24 = .ok (.imul, 1) := by decide +kernel
theorem dX6_isOrder_25 : decode cX6_isOrder 25 = .ok (.ishr, 1) := by decide +kernel
theorem dX6_isOrder_26 : decode cX6_isOrder 26 = .ok (.iconst 3, 1) := by decide +kernel
theorem dX6_isOrder_27 : decode cX6_isOrder 27 = .ok (.iand, 1) := by decide +kernel
theorem dX6_isOrder_28 : decode cX6_isOrder 28 = .ok (.ishl, 1) := by decide +kernel
theorem dX6_isOrder_29 : decode cX6_isOrder 29 = .ok (.ior, 1) := by decide +kernel
theorem dX6_isOrder_30 : decode cX6_isOrder 30 = .ok (.istore_n 2, 1) := by decide +kernel
theorem dX6_isOrder_31 : decode cX6_isOrder 31 = .ok (.iinc 3 1, 3) := by decide +kernel
theorem dX6_isOrder_34 : decode cX6_isOrder 34 = .ok (.goto (-30), 3) := by decide +kernel
theorem dX6_isOrder_37 : decode cX6_isOrder 37 = .ok (.iload_n 2, 1) := by decide +kernel
theorem dX6_isOrder_38 : decode cX6_isOrder 38 = .ok (.iconst 1, 1) := by decide +kernel
theorem dX6_isOrder_39 : decode cX6_isOrder 39 = .ok (.aload_n 0, 1) := by decide +kernel
theorem dX6_isOrder_40 : decode cX6_isOrder 40 = .ok (.getfield 163, 3) := by decide +kernel
theorem dX6_isOrder_43 : decode cX6_isOrder 43 = .ok (.ishl, 1) := by decide +kernel
theorem dX6_isOrder_44 : decode cX6_isOrder 44 = .ok (.iconst 1, 1) := by decide +kernel
theorem dX6_isOrder_45 : decode cX6_isOrder 45 = .ok (.isub, 1) := by decide +kernel
theorem dX6_isOrder_46 : decode cX6_isOrder 46 = .ok (.if_icmp .ne 7, 3) := by decide +kernel
theorem dX6_isOrder_49 : decode cX6_isOrder 49 = .ok (.iconst 1, 1) := by decide +kernel
theorem dX6_isOrder_50 : decode cX6_isOrder 50 = .ok (.goto 4, 3) := by decide +kernel
theorem dX6_isOrder_53 : decode cX6_isOrder 53 = .ok (.iconst 0, 1) := by decide +kernel
theorem dX6_isOrder_54 : decode cX6_isOrder 54 = .ok (.ireturn, 1) := by decide +kernel
set_option maxRecDepth 20000 in
theorem ggX6_cameBy_X6_copies : GoodIn wsX6_cameBy wsX6_copies := goodIn_r _ [8] (by decide +kernel) (by decide +kernel)
set_option maxRecDepth 20000 in
theorem gX6_cameBy_X6_copies : GoodIn wsX6_cameBy (va_wsS RX6 39 yX6_copies wsX6_copies) := goodIn_app (goodIn_of _ (by decide +kernel)) ggX6_cameBy_X6_copies
set_option maxRecDepth 20000 in
theorem ggX6_cameBy_X6_goMend : GoodIn wsX6_cameBy wsX6_goMend := goodIn_r _ [12, 1, 13, 14, 15, 7, 16, 17, 18, 19, 20, 21, 22, 23, 24, 25, 26, 27, 28, 29, 30, 31, 32, 33, 34, 35, 36, 37, 38, 39, 40, 41, 42, 43, 44, 45, 46, 47, 48, 49, 50, 51, 52, 53, 54, 55, 56, 57, 58, 59, 60, 61, 62, 63, 64, 65, 66, 67, 68, 69, 70, 71, 72, 73, 74, 75, 76, 77, 78, 79, 80, 81, 82, 83, 84, 85, 86, 87, 88, 89, 90, 91, 92, 93, 94, 95, 96, 97, 98, 99, 100, 101, 102, 103, 104, 105, 106, 107] (by decide +kernel) (by decide +kernel)
set_option maxRecDepth 20000 in
theorem gX6_cameBy_X6_goMend : GoodIn wsX6_cameBy (wsV RX6 136 RX6 yX6_goMend wsX6_goMend) := goodIn_app (goodIn_of _ (by decide +kernel)) ggX6_cameBy_X6_goMend
theorem dX6_cameBy_0 : decode cX6_cameBy 0 = .ok (.iconst 0, 1) := by decide +kernel
theorem dX6_cameBy_1 : decode cX6_cameBy 1 = .ok (.istore_n 2, 1) := by decide +kernel
theorem dX6_cameBy_2 : decode cX6_cameBy 2 = .ok (.aload_n 0, 1) := by decide +kernel
theorem dX6_cameBy_3 : decode cX6_cameBy 3 = .ok (.getfield 7, 3) := by decide +kernel
theorem dX6_cameBy_6 : decode cX6_cameBy 6 = .ok (.iconst 0, 1) := by decide +kernel
theorem dX6_cameBy_7 : decode cX6_cameBy 7 = .ok (.aload_n 0, 1) := by decide +kernel
theorem dX6_cameBy_8 : decode cX6_cameBy 8 = .ok (.getfield 13, 3) := by decide +kernel
theorem dX6_cameBy_11 : decode cX6_cameBy 11 = .ok (.iconst 0, 1) := by decide +kernel
theorem dX6_cameBy_12 : decode cX6_cameBy 12 = .ok (.invokestatic 39, 3) := by decide +kernel
theorem dX6_cameBy_15 : decode cX6_cameBy 15 = .ok (.iconst 0, 1) := by decide +kernel
theorem dX6_cameBy_16 : decode cX6_cameBy 16 = .ok (.istore_n 3, 1) := by decide +kernel
theorem dX6_cameBy_17 : decode cX6_cameBy 17 = .ok (.iload_n 3, 1) := by decide +kernel
theorem dX6_cameBy_18 : decode cX6_cameBy 18 = .ok (.aload_n 0, 1) := by decide +kernel
theorem dX6_cameBy_19 : decode cX6_cameBy 19 = .ok (.getfield 163, 3) := by decide +kernel
theorem dX6_cameBy_22 : decode cX6_cameBy 22 = .ok (.if_icmp .ge 35, 3) := by decide +kernel
theorem dX6_cameBy_25 : decode cX6_cameBy 25 = .ok (.iload_n 2, 1) := by decide +kernel
theorem dX6_cameBy_26 : decode cX6_cameBy 26 = .ok (.aload_n 0, 1) := by decide +kernel
theorem dX6_cameBy_27 : decode cX6_cameBy 27 = .ok (.aload_n 0, 1) := by decide +kernel
theorem dX6_cameBy_28 : decode cX6_cameBy 28 = .ok (.getfield 25, 3) := by decide +kernel
theorem dX6_cameBy_31 : decode cX6_cameBy 31 = .ok (.iload_n 1, 1) := by decide +kernel
theorem dX6_cameBy_32 : decode cX6_cameBy 32 = .ok (.iconst 2, 1) := by decide +kernel
theorem dX6_cameBy_33 : decode cX6_cameBy 33 = .ok (.aload_n 0, 1) := by decide +kernel
theorem dX6_cameBy_34 : decode cX6_cameBy 34 = .ok (.getfield 163, 3) := by decide +kernel
theorem dX6_cameBy_37 : decode cX6_cameBy 37 = .ok (.iconst 1, 1) := by decide +kernel
theorem dX6_cameBy_38 : decode cX6_cameBy 38 = .ok (.isub, 1) := by decide +kernel
theorem dX6_cameBy_39 : decode cX6_cameBy 39 = .ok (.iload_n 3, 1) := by decide +kernel
theorem dX6_cameBy_40 : decode cX6_cameBy 40 = .ok (.isub, 1) := by decide +kernel
theorem dX6_cameBy_41 : decode cX6_cameBy 41 = .ok (.imul, 1) := by decide +kernel
theorem dX6_cameBy_42 : decode cX6_cameBy 42 = .ok (.ishr, 1) := by decide +kernel
theorem dX6_cameBy_43 : decode cX6_cameBy 43 = .ok (.iconst 3, 1) := by decide +kernel
theorem dX6_cameBy_44 : decode cX6_cameBy 44 = .ok (.iand, 1) := by decide +kernel
theorem dX6_cameBy_45 : decode cX6_cameBy 45 = .ok (.iaload, 1) := by decide +kernel
theorem dX6_cameBy_46 : decode cX6_cameBy 46 = .ok (.invokevirtual 136, 3) := by decide +kernel
theorem dX6_cameBy_49 : decode cX6_cameBy 49 = .ok (.iadd, 1) := by decide +kernel
theorem dX6_cameBy_50 : decode cX6_cameBy 50 = .ok (.istore_n 2, 1) := by decide +kernel
theorem dX6_cameBy_51 : decode cX6_cameBy 51 = .ok (.iinc 3 1, 3) := by decide +kernel
theorem dX6_cameBy_54 : decode cX6_cameBy 54 = .ok (.goto (-37), 3) := by decide +kernel
theorem dX6_cameBy_57 : decode cX6_cameBy 57 = .ok (.aload_n 0, 1) := by decide +kernel
theorem dX6_cameBy_58 : decode cX6_cameBy 58 = .ok (.getfield 13, 3) := by decide +kernel
theorem dX6_cameBy_61 : decode cX6_cameBy 61 = .ok (.iconst 0, 1) := by decide +kernel
theorem dX6_cameBy_62 : decode cX6_cameBy 62 = .ok (.aload_n 0, 1) := by decide +kernel
theorem dX6_cameBy_63 : decode cX6_cameBy 63 = .ok (.getfield 7, 3) := by decide +kernel
theorem dX6_cameBy_66 : decode cX6_cameBy 66 = .ok (.iconst 0, 1) := by decide +kernel
theorem dX6_cameBy_67 : decode cX6_cameBy 67 = .ok (.invokestatic 39, 3) := by decide +kernel
theorem dX6_cameBy_70 : decode cX6_cameBy 70 = .ok (.iload_n 2, 1) := by decide +kernel
theorem dX6_cameBy_71 : decode cX6_cameBy 71 = .ok (.ireturn, 1) := by decide +kernel
set_option maxRecDepth 20000 in
theorem ggX6_findsOrder_X6_findsLost : GoodIn wsX6_findsOrder wsX6_findsLost := goodIn_r _ [8, 3, 9, 10, 11, 12, 13, 7, 14, 15, 16, 17, 18, 104, 105, 106, 107, 108, 109, 110, 111, 112, 113, 114, 115, 116, 117, 118, 119, 120, 121] (by decide +kernel) (by decide +kernel)
set_option maxRecDepth 20000 in
theorem gX6_findsOrder_X6_findsLost : GoodIn wsX6_findsOrder (wsV RX6 166 RX6 yX6_findsLost wsX6_findsLost) := goodIn_app (goodIn_of _ (by decide +kernel)) ggX6_findsOrder_X6_findsLost
set_option maxRecDepth 20000 in
theorem ggX6_findsOrder_X6_isOrder : GoodIn wsX6_findsOrder wsX6_isOrder := goodIn_r _ [22, 3, 104, 105, 106, 107, 108, 109, 110, 111, 112, 113, 114, 115, 116, 117, 118, 119, 120, 121] (by decide +kernel) (by decide +kernel)
set_option maxRecDepth 20000 in
theorem gX6_findsOrder_X6_isOrder : GoodIn wsX6_findsOrder (wsV RX6 175 RX6 yX6_isOrder wsX6_isOrder) := goodIn_app (goodIn_of _ (by decide +kernel)) ggX6_findsOrder_X6_isOrder
set_option maxRecDepth 20000 in
theorem ggX6_findsOrder_X6_cameBy : GoodIn wsX6_findsOrder wsX6_cameBy := goodIn_r _ [26, 9, 27, 3, 10, 28, 29, 7, 30, 31, 32, 33, 34, 35, 36, 37, 38, 11, 12, 13, 14, 15, 16, 17, 18, 39, 40, 41, 42, 43, 44, 45, 46, 47, 48, 49, 50, 51, 52, 53, 54, 55, 56, 57, 58, 59, 60, 61, 62, 63, 64, 65, 66, 67, 68, 69, 70, 71, 72, 73, 74, 75, 76, 77, 78, 79, 80, 81, 82, 83, 84, 85, 86, 87, 88, 89, 90, 91, 92, 93, 94, 95, 96, 97, 98, 99, 100, 101, 102, 103, 104, 105, 106, 107, 108, 109, 110, 111, 112, 113, 114, 115, 116, 117, 118, 119, 120, 121] (by decide +kernel) (by decide +kernel)
set_option maxRecDepth 20000 in
theorem gX6_findsOrder_X6_cameBy : GoodIn wsX6_findsOrder (wsV RX6 178 RX6 yX6_cameBy wsX6_cameBy) := goodIn_app (goodIn_of _ (by decide +kernel)) ggX6_findsOrder_X6_cameBy
theorem dX6_findsOrder_0 : decode cX6_findsOrder 0 = .ok (.aload_n 0, 1) := by decide +kernel
theorem dX6_findsOrder_1 : decode cX6_findsOrder 1 = .ok (.invokevirtual 166, 3) := by decide +kernel
theorem dX6_findsOrder_4 : decode cX6_findsOrder 4 = .ok (.aload_n 0, 1) := by decide +kernel
theorem dX6_findsOrder_5 : decode cX6_findsOrder 5 = .ok (.iconst 0, 1) := by decide +kernel
theorem dX6_findsOrder_6 : decode cX6_findsOrder 6 = .ok (.putfield 169, 3) := by decide +kernel
theorem dX6_findsOrder_9 : decode cX6_findsOrder 9 = .ok (.aload_n 0, 1) := by decide +kernel
theorem dX6_findsOrder_10 : decode cX6_findsOrder 10 = .ok (.iconst (-1), 1) := by decide +kernel
theorem dX6_findsOrder_11 : decode cX6_findsOrder 11 = .ok (.putfield 172, 3) := by decide +kernel
theorem dX6_findsOrder_14 : decode cX6_findsOrder 14 = .ok (.iconst 0, 1) := by decide +kernel
theorem dX6_findsOrder_15 : decode cX6_findsOrder 15 = .ok (.istore_n 1, 1) := by decide +kernel
theorem dX6_findsOrder_16 : decode cX6_findsOrder 16 = .ok (.iload_n 1, 1) := by decide +kernel
theorem dX6_findsOrder_17 : decode cX6_findsOrder 17 = .ok (.iconst 1, 1) := by decide +kernel
theorem dX6_findsOrder_18 : decode cX6_findsOrder 18 = .ok (.iconst 2, 1) := by decide +kernel
theorem dX6_findsOrder_19 : decode cX6_findsOrder 19 = .ok (.aload_n 0, 1) := by decide +kernel
theorem dX6_findsOrder_20 : decode cX6_findsOrder 20 = .ok (.getfield 163, 3) := by decide +kernel
theorem dX6_findsOrder_23 : decode cX6_findsOrder 23 = .ok (.imul, 1) := by decide +kernel
theorem dX6_findsOrder_24 : decode cX6_findsOrder 24 = .ok (.ishl, 1) := by decide +kernel
theorem dX6_findsOrder_25 : decode cX6_findsOrder 25 = .ok (.if_icmp .ge 67, 3) := by decide +kernel
theorem dX6_findsOrder_28 : decode cX6_findsOrder 28 = .ok (.aload_n 0, 1) := by decide +kernel
theorem dX6_findsOrder_29 : decode cX6_findsOrder 29 = .ok (.iload_n 1, 1) := by decide +kernel
theorem dX6_findsOrder_30 : decode cX6_findsOrder 30 = .ok (.invokevirtual 175, 3) := by decide +kernel
theorem dX6_findsOrder_33 : decode cX6_findsOrder 33 = .ok (.ifCond .eq 11, 3) := by decide +kernel
theorem dX6_findsOrder_36 : decode cX6_findsOrder 36 = .ok (.aload_n 0, 1) := by decide +kernel
theorem dX6_findsOrder_37 : decode cX6_findsOrder 37 = .ok (.iload_n 1, 1) := by decide +kernel
theorem dX6_findsOrder_38 : decode cX6_findsOrder 38 = .ok (.invokevirtual 178, 3) := by decide +kernel
theorem dX6_findsOrder_41 : decode cX6_findsOrder 41 = .ok (.goto 4, 3) := by decide +kernel
theorem dX6_findsOrder_44 : decode cX6_findsOrder 44 = .ok (.iconst (-1), 1) := by decide +kernel
theorem dX6_findsOrder_45 : decode cX6_findsOrder 45 = .ok (.istore_n 2, 1) := by decide +kernel
theorem dX6_findsOrder_46 : decode cX6_findsOrder 46 = .ok (.aload_n 0, 1) := by decide +kernel
theorem dX6_findsOrder_47 : decode cX6_findsOrder 47 = .ok (.iload_n 2, 1) := by decide +kernel
theorem dX6_findsOrder_48 : decode cX6_findsOrder 48 = .ok (.aload_n 0, 1) := by decide +kernel
theorem dX6_findsOrder_49 : decode cX6_findsOrder 49 = .ok (.getfield 172, 3) := by decide +kernel
theorem dX6_findsOrder_52 : decode cX6_findsOrder 52 = .ok (.if_icmp .le 7, 3) := by decide +kernel
theorem dX6_findsOrder_55 : decode cX6_findsOrder 55 = .ok (.iload_n 1, 1) := by decide +kernel
theorem dX6_findsOrder_56 : decode cX6_findsOrder 56 = .ok (.goto 7, 3) := by decide +kernel
theorem dX6_findsOrder_59 : decode cX6_findsOrder 59 = .ok (.aload_n 0, 1) := by decide +kernel
theorem dX6_findsOrder_60 : decode cX6_findsOrder 60 = .ok (.getfield 169, 3) := by decide +kernel
theorem dX6_findsOrder_63 : decode cX6_findsOrder 63 = .ok (.putfield 169, 3) := by decide +kernel
theorem dX6_findsOrder_66 : decode cX6_findsOrder 66 = .ok (.aload_n 0, 1) := by decide +kernel
theorem dX6_findsOrder_67 : decode cX6_findsOrder 67 = .ok (.iload_n 2, 1) := by decide +kernel
theorem dX6_findsOrder_68 : decode cX6_findsOrder 68 = .ok (.aload_n 0, 1) := by decide +kernel
theorem dX6_findsOrder_69 : decode cX6_findsOrder 69 = .ok (.getfield 172, 3) := by decide +kernel
theorem dX6_findsOrder_72 : decode cX6_findsOrder 72 = .ok (.if_icmp .le 7, 3) := by decide +kernel
theorem dX6_findsOrder_75 : decode cX6_findsOrder 75 = .ok (.iload_n 2, 1) := by decide +kernel
theorem dX6_findsOrder_76 : decode cX6_findsOrder 76 = .ok (.goto 7, 3) := by decide +kernel
theorem dX6_findsOrder_79 : decode cX6_findsOrder 79 = .ok (.aload_n 0, 1) := by decide +kernel
theorem dX6_findsOrder_80 : decode cX6_findsOrder 80 = .ok (.getfield 172, 3) := by decide +kernel
theorem dX6_findsOrder_83 : decode cX6_findsOrder 83 = .ok (.putfield 172, 3) := by decide +kernel
theorem dX6_findsOrder_86 : decode cX6_findsOrder 86 = .ok (.iinc 1 1, 3) := by decide +kernel
theorem dX6_findsOrder_89 : decode cX6_findsOrder 89 = .ok (.goto (-73), 3) := by decide +kernel
theorem dX6_findsOrder_92 : decode cX6_findsOrder 92 = .ok (.return_, 1) := by decide +kernel
set_option maxRecDepth 20000 in
theorem ggX6_order_X6_lostMany : GoodIn wsX6_order wsX6_lostMany := goodIn_r _ [11, 12, 13, 14, 15, 10, 16, 17, 18, 19, 20, 114, 115, 116, 117, 118, 119, 120, 121, 122, 123, 124, 125, 126, 127, 128, 129, 130, 131] (by decide +kernel) (by decide +kernel)
set_option maxRecDepth 20000 in
theorem gX6_order_X6_lostMany : GoodIn wsX6_order (wsV RX6 181 RX6 yX6_lostMany wsX6_lostMany) := goodIn_app (goodIn_of _ (by decide +kernel)) ggX6_order_X6_lostMany
set_option maxRecDepth 20000 in
theorem ggX6_order_X6_findsOrder : GoodIn wsX6_order wsX6_findsOrder := goodIn_r _ [24, 5, 25, 3, 26, 27, 28, 10, 29, 12, 4, 13, 14, 15, 16, 17, 18, 19, 20, 30, 31, 32, 33, 34, 35, 36, 37, 38, 39, 40, 41, 42, 43, 44, 45, 46, 47, 48, 49, 50, 51, 52, 53, 54, 55, 56, 57, 6, 58, 59, 60, 61, 62, 63, 64, 65, 66, 67, 68, 69, 70, 71, 72, 73, 74, 75, 76, 77, 78, 79, 80, 81, 82, 83, 84, 85, 86, 87, 88, 89, 90, 91, 92, 93, 94, 95, 96, 97, 98, 99, 100, 101, 102, 103, 104, 105, 106, 107, 108, 109, 110, 111, 112, 113, 114, 115, 116, 117, 118, 119, 120, 121, 122, 123, 124, 125, 126, 127, 128, 129, 130, 131] (by decide +kernel) (by decide +kernel)
set_option maxRecDepth 20000 in
theorem gX6_order_X6_findsOrder : GoodIn wsX6_order (wsV RX6 185 RX6 yX6_findsOrder wsX6_findsOrder) := goodIn_app (goodIn_of _ (by decide +kernel)) ggX6_order_X6_findsOrder
theorem dX6_order_0 : decode cX6_order 0 = .ok (.iload_n 1, 1) := by decide +kernel
theorem dX6_order_1 : decode cX6_order 1 = .ok (.ifCond .ge 6, 3) := by decide +kernel
theorem dX6_order_4 : decode cX6_order 4 = .ok (.ldc 114, 2) := by decide +kernel
theorem dX6_order_6 : decode cX6_order 6 = .ok (.ireturn, 1) := by decide +kernel
theorem dX6_order_7 : decode cX6_order 7 = .ok (.aload_n 0, 1) := by decide +kernel
theorem dX6_order_8 : decode cX6_order 8 = .ok (.invokevirtual 181, 3) := by decide +kernel
theorem dX6_order_11 : decode cX6_order 11 = .ok (.iconst 4, 1) := by decide +kernel
theorem dX6_order_12 : decode cX6_order 12 = .ok (.if_icmp .le 6, 3) := by decide +kernel
theorem dX6_order_15 : decode cX6_order 15 = .ok (.ldc 119, 2) := by decide +kernel
theorem dX6_order_17 : decode cX6_order 17 = .ok (.ireturn, 1) := by decide +kernel
theorem dX6_order_18 : decode cX6_order 18 = .ok (.aload_n 0, 1) := by decide +kernel
theorem dX6_order_19 : decode cX6_order 19 = .ok (.invokevirtual 185, 3) := by decide +kernel
theorem dX6_order_22 : decode cX6_order 22 = .ok (.iload_n 1, 1) := by decide +kernel
theorem dX6_order_23 : decode cX6_order 23 = .ok (.aload_n 0, 1) := by decide +kernel
theorem dX6_order_24 : decode cX6_order 24 = .ok (.getfield 163, 3) := by decide +kernel
theorem dX6_order_27 : decode cX6_order 27 = .ok (.if_icmp .ge 28, 3) := by decide +kernel
theorem dX6_order_30 : decode cX6_order 30 = .ok (.aload_n 0, 1) := by decide +kernel
theorem dX6_order_31 : decode cX6_order 31 = .ok (.getfield 25, 3) := by decide +kernel
theorem dX6_order_34 : decode cX6_order 34 = .ok (.aload_n 0, 1) := by decide +kernel
theorem dX6_order_35 : decode cX6_order 35 = .ok (.getfield 169, 3) := by decide +kernel
theorem dX6_order_38 : decode cX6_order 38 = .ok (.iconst 2, 1) := by decide +kernel
theorem dX6_order_39 : decode cX6_order 39 = .ok (.aload_n 0, 1) := by decide +kernel
theorem dX6_order_40 : decode cX6_order 40 = .ok (.getfield 163, 3) := by decide +kernel
theorem dX6_order_43 : decode cX6_order 43 = .ok (.iconst 1, 1) := by decide +kernel
theorem dX6_order_44 : decode cX6_order 44 = .ok (.isub, 1) := by decide +kernel
theorem dX6_order_45 : decode cX6_order 45 = .ok (.iload_n 1, 1) := by decide +kernel
theorem dX6_order_46 : decode cX6_order 46 = .ok (.isub, 1) := by decide +kernel
theorem dX6_order_47 : decode cX6_order 47 = .ok (.imul, 1) := by decide +kernel
theorem dX6_order_48 : decode cX6_order 48 = .ok (.ishr, 1) := by decide +kernel
theorem dX6_order_49 : decode cX6_order 49 = .ok (.iconst 3, 1) := by decide +kernel
theorem dX6_order_50 : decode cX6_order 50 = .ok (.iand, 1) := by decide +kernel
theorem dX6_order_51 : decode cX6_order 51 = .ok (.iaload, 1) := by decide +kernel
theorem dX6_order_52 : decode cX6_order 52 = .ok (.goto 5, 3) := by decide +kernel
theorem dX6_order_55 : decode cX6_order 55 = .ok (.ldc 51, 2) := by decide +kernel
theorem dX6_order_57 : decode cX6_order 57 = .ok (.ireturn, 1) := by decide +kernel
set_option maxRecDepth 20000 in
theorem ggX6_comes_X6_lostMany : GoodIn wsX6_comes wsX6_lostMany := goodIn_r _ [7, 8, 9, 10, 11, 6, 12, 13, 14, 15, 16, 113, 114, 115, 116, 117, 118, 119, 120, 121, 122, 123, 124, 125, 126, 127, 128, 129, 130] (by decide +kernel) (by decide +kernel)
set_option maxRecDepth 20000 in
theorem gX6_comes_X6_lostMany : GoodIn wsX6_comes (wsV RX6 181 RX6 yX6_lostMany wsX6_lostMany) := goodIn_app (goodIn_of _ (by decide +kernel)) ggX6_comes_X6_lostMany
set_option maxRecDepth 20000 in
theorem ggX6_comes_X6_findsOrder : GoodIn wsX6_comes wsX6_findsOrder := goodIn_r _ [20, 21, 2, 22, 23, 24, 25, 6, 26, 8, 27, 9, 10, 11, 12, 13, 14, 15, 16, 28, 29, 30, 31, 32, 33, 34, 35, 36, 37, 38, 39, 40, 41, 42, 43, 44, 45, 46, 47, 48, 49, 50, 51, 52, 53, 54, 55, 56, 57, 58, 59, 60, 61, 62, 63, 64, 65, 66, 67, 68, 69, 70, 71, 72, 73, 74, 75, 76, 77, 78, 79, 80, 81, 82, 83, 84, 85, 86, 87, 88, 89, 90, 91, 92, 93, 94, 95, 96, 97, 98, 99, 100, 101, 102, 103, 104, 105, 106, 107, 108, 109, 110, 111, 112, 113, 114, 115, 116, 117, 118, 119, 120, 121, 122, 123, 124, 125, 126, 127, 128, 129, 130] (by decide +kernel) (by decide +kernel)
set_option maxRecDepth 20000 in
theorem gX6_comes_X6_findsOrder : GoodIn wsX6_comes (wsV RX6 185 RX6 yX6_findsOrder wsX6_findsOrder) := goodIn_app (goodIn_of _ (by decide +kernel)) ggX6_comes_X6_findsOrder
theorem dX6_comes_0 : decode cX6_comes 0 = .ok (.aload_n 0, 1) := by decide +kernel
theorem dX6_comes_1 : decode cX6_comes 1 = .ok (.invokevirtual 181, 3) := by decide +kernel
theorem dX6_comes_4 : decode cX6_comes 4 = .ok (.iconst 4, 1) := by decide +kernel
theorem dX6_comes_5 : decode cX6_comes 5 = .ok (.if_icmp .le 6, 3) := by decide +kernel
theorem dX6_comes_8 : decode cX6_comes 8 = .ok (.ldc 119, 2) := by decide +kernel
theorem dX6_comes_10 : decode cX6_comes 10 = .ok (.ireturn, 1) := by decide +kernel
theorem dX6_comes_11 : decode cX6_comes 11 = .ok (.aload_n 0, 1) := by decide +kernel
theorem dX6_comes_12 : decode cX6_comes 12 = .ok (.invokevirtual 185, 3) := by decide +kernel
theorem dX6_comes_15 : decode cX6_comes 15 = .ok (.aload_n 0, 1) := by decide +kernel
theorem dX6_comes_16 : decode cX6_comes 16 = .ok (.getfield 172, 3) := by decide +kernel
theorem dX6_comes_19 : decode cX6_comes 19 = .ok (.ireturn, 1) := by decide +kernel
set_option maxRecDepth 20000 in
theorem ggX6_isSafe_X6_lives : GoodIn wsX6_isSafe wsX6_lives := goodIn_r _ [5, 6, 7, 8, 4, 9, 10, 60, 61, 62, 63, 64, 65, 66, 67, 68, 69, 70, 71, 72, 73, 74, 75, 76, 77] (by decide +kernel) (by decide +kernel)
set_option maxRecDepth 20000 in
theorem gX6_isSafe_X6_lives : GoodIn wsX6_isSafe (wsV RX6 75 RX6 yX6_lives wsX6_lives) := goodIn_app (goodIn_of _ (by decide +kernel)) ggX6_isSafe_X6_lives
set_option maxRecDepth 20000 in
theorem ggX6_isSafe_X6_back : GoodIn wsX6_isSafe wsX6_back := goodIn_r _ [14, 1, 2, 3, 4, 5, 6, 7, 8, 9, 10, 15, 16, 17, 18, 19, 20, 21, 22, 23, 24, 25, 26, 27, 28, 29, 30, 31, 32, 33, 34, 35, 36, 37, 38, 39, 40, 41, 42, 43, 44, 45, 46, 47, 48, 49, 50, 51, 52, 53, 54, 55, 60, 61, 62, 63, 64, 65, 66, 67, 68, 69, 70, 71, 72, 73, 74, 75, 76, 77] (by decide +kernel) (by decide +kernel)
set_option maxRecDepth 20000 in
theorem gX6_isSafe_X6_back : GoodIn wsX6_isSafe (wsV RX6 105 RX6 yX6_back wsX6_back) := goodIn_app (goodIn_of _ (by decide +kernel)) ggX6_isSafe_X6_back
set_option maxRecDepth 20000 in
theorem ggX6_isSafe_X6_unknown : GoodIn wsX6_isSafe wsX6_unknown := goodIn_r _ [59, 6, 7, 8, 4, 9, 10, 60, 61, 62, 63, 64, 65, 66, 67, 68, 69, 70, 71, 72, 73, 74, 75, 76, 77] (by decide +kernel) (by decide +kernel)
set_option maxRecDepth 20000 in
theorem gX6_isSafe_X6_unknown : GoodIn wsX6_isSafe (wsV RX6 151 RX6 yX6_unknown wsX6_unknown) := goodIn_app (goodIn_of _ (by decide +kernel)) ggX6_isSafe_X6_unknown
theorem dX6_isSafe_0 : decode cX6_isSafe 0 = .ok (.aload_n 0, 1) := by decide +kernel
theorem dX6_isSafe_1 : decode cX6_isSafe 1 = .ok (.iload_n 1, 1) := by decide +kernel
theorem dX6_isSafe_2 : decode cX6_isSafe 2 = .ok (.invokevirtual 75, 3) := by decide +kernel
theorem dX6_isSafe_5 : decode cX6_isSafe 5 = .ok (.ifCond .eq 23, 3) := by decide +kernel
theorem dX6_isSafe_8 : decode cX6_isSafe 8 = .ok (.aload_n 0, 1) := by decide +kernel
theorem dX6_isSafe_9 : decode cX6_isSafe 9 = .ok (.iload_n 1, 1) := by decide +kernel
theorem dX6_isSafe_10 : decode cX6_isSafe 10 = .ok (.invokevirtual 105, 3) := by decide +kernel
theorem dX6_isSafe_13 : decode cX6_isSafe 13 = .ok (.bipush 8, 2) := by decide +kernel
theorem dX6_isSafe_15 : decode cX6_isSafe 15 = .ok (.aload_n 0, 1) := by decide +kernel
theorem dX6_isSafe_16 : decode cX6_isSafe 16 = .ok (.iload_n 1, 1) := by decide +kernel
theorem dX6_isSafe_17 : decode cX6_isSafe 17 = .ok (.invokevirtual 151, 3) := by decide +kernel
theorem dX6_isSafe_20 : decode cX6_isSafe 20 = .ok (.isub, 1) := by decide +kernel
theorem dX6_isSafe_21 : decode cX6_isSafe 21 = .ok (.if_icmp .ne 7, 3) := by decide +kernel
theorem dX6_isSafe_24 : decode cX6_isSafe 24 = .ok (.iconst 1, 1) := by decide +kernel
theorem dX6_isSafe_25 : decode cX6_isSafe 25 = .ok (.goto 4, 3) := by decide +kernel
theorem dX6_isSafe_28 : decode cX6_isSafe 28 = .ok (.iconst 0, 1) := by decide +kernel
theorem dX6_isSafe_29 : decode cX6_isSafe 29 = .ok (.ireturn, 1) := by decide +kernel
set_option maxRecDepth 20000 in
theorem ggX6_safeFor_X6_isSafe : GoodIn wsX6_safeFor wsX6_isSafe := goodIn_r _ [7, 8, 9, 10, 6, 11, 12, 13, 14, 15, 2, 16, 17, 18, 19, 20, 21, 22, 23, 24, 25, 26, 27, 1, 28, 29, 30, 31, 32, 33, 34, 35, 36, 37, 38, 39, 40, 41, 42, 43, 44, 45, 46, 47, 48, 49, 50, 51, 52, 53, 54, 55, 56, 57, 58, 59, 60, 61, 62, 63, 68, 69, 70, 71, 72, 73, 74, 75, 76, 77, 78, 79, 80, 81, 82, 83, 84, 85] (by decide +kernel) (by decide +kernel)
set_option maxRecDepth 20000 in
theorem gX6_safeFor_X6_isSafe : GoodIn wsX6_safeFor (wsV RX6 188 RX6 yX6_isSafe wsX6_isSafe) := goodIn_app (goodIn_of _ (by decide +kernel)) ggX6_safeFor_X6_isSafe
set_option maxRecDepth 20000 in
theorem ggX6_safeFor_X6_of : GoodIn wsX6_safeFor wsX6_of := goodIn_r _ [15, 2, 68, 69, 70, 71, 72, 73, 74, 75, 76, 77, 78, 79, 80, 81, 82, 83, 84, 85] (by decide +kernel) (by decide +kernel)
set_option maxRecDepth 20000 in
theorem gX6_safeFor_X6_of : GoodIn wsX6_safeFor (wsV RX6 47 RX6 yX6_of wsX6_of) := goodIn_app (goodIn_of _ (by decide +kernel)) ggX6_safeFor_X6_of
set_option maxRecDepth 20000 in
theorem ggX6_safeFor_X6_heardAge : GoodIn wsX6_safeFor wsX6_heardAge := goodIn_r _ [67, 1, 24, 25, 26, 6, 27, 28, 29, 30, 31, 32, 33, 34, 35, 2, 12, 13, 14, 15, 36, 37, 38, 39, 40, 41, 42, 43, 8, 9, 10, 11, 44, 45, 46, 47, 48, 49, 50, 51, 52, 53, 54, 55, 56, 57, 58, 59, 68, 69, 70, 71, 72, 73, 74, 75, 76, 77, 78, 79, 80, 81, 82, 83, 84, 85] (by decide +kernel) (by decide +kernel)
set_option maxRecDepth 20000 in
theorem gX6_safeFor_X6_heardAge : GoodIn wsX6_safeFor (wsV RX6 148 RX6 yX6_heardAge wsX6_heardAge) := goodIn_app (goodIn_of _ (by decide +kernel)) ggX6_safeFor_X6_heardAge
theorem dX6_safeFor_0 : decode cX6_safeFor 0 = .ok (.ldc 51, 2) := by decide +kernel
theorem dX6_safeFor_2 : decode cX6_safeFor 2 = .ok (.istore_n 1, 1) := by decide +kernel
theorem dX6_safeFor_3 : decode cX6_safeFor 3 = .ok (.iconst 0, 1) := by decide +kernel
theorem dX6_safeFor_4 : decode cX6_safeFor 4 = .ok (.istore_n 2, 1) := by decide +kernel
theorem dX6_safeFor_5 : decode cX6_safeFor 5 = .ok (.iload_n 2, 1) := by decide +kernel
theorem dX6_safeFor_6 : decode cX6_safeFor 6 = .ok (.aload_n 0, 1) := by decide +kernel
theorem dX6_safeFor_7 : decode cX6_safeFor 7 = .ok (.getfield 7, 3) := by decide +kernel
theorem dX6_safeFor_10 : decode cX6_safeFor 10 = .ok (.iconst 0, 1) := by decide +kernel
theorem dX6_safeFor_11 : decode cX6_safeFor 11 = .ok (.iaload, 1) := by decide +kernel
theorem dX6_safeFor_12 : decode cX6_safeFor 12 = .ok (.if_icmp .ge 76, 3) := by decide +kernel
theorem dX6_safeFor_15 : decode cX6_safeFor 15 = .ok (.iconst 0, 1) := by decide +kernel
theorem dX6_safeFor_16 : decode cX6_safeFor 16 = .ok (.istore_n 3, 1) := by decide +kernel
theorem dX6_safeFor_17 : decode cX6_safeFor 17 = .ok (.iload_n 3, 1) := by decide +kernel
theorem dX6_safeFor_18 : decode cX6_safeFor 18 = .ok (.bipush 8, 2) := by decide +kernel
theorem dX6_safeFor_20 : decode cX6_safeFor 20 = .ok (.if_icmp .ge 62, 3) := by decide +kernel
theorem dX6_safeFor_23 : decode cX6_safeFor 23 = .ok (.aload_n 0, 1) := by decide +kernel
theorem dX6_safeFor_24 : decode cX6_safeFor 24 = .ok (.iload_n 2, 1) := by decide +kernel
theorem dX6_safeFor_25 : decode cX6_safeFor 25 = .ok (.invokevirtual 188, 3) := by decide +kernel
theorem dX6_safeFor_28 : decode cX6_safeFor 28 = .ok (.ifCond .eq 48, 3) := by decide +kernel
theorem dX6_safeFor_31 : decode cX6_safeFor 31 = .ok (.aload_n 0, 1) := by decide +kernel
theorem dX6_safeFor_32 : decode cX6_safeFor 32 = .ok (.iload_n 2, 1) := by decide +kernel
theorem dX6_safeFor_33 : decode cX6_safeFor 33 = .ok (.iconst 5, 1) := by decide +kernel
theorem dX6_safeFor_34 : decode cX6_safeFor 34 = .ok (.iload_n 3, 1) := by decide +kernel
theorem dX6_safeFor_35 : decode cX6_safeFor 35 = .ok (.iadd, 1) := by decide +kernel
theorem dX6_safeFor_36 : decode cX6_safeFor 36 = .ok (.invokevirtual 47, 3) := by decide +kernel
theorem dX6_safeFor_39 : decode cX6_safeFor 39 = .ok (.ifCond .le 37, 3) := by decide +kernel
theorem dX6_safeFor_42 : decode cX6_safeFor 42 = .ok (.aload_n 0, 1) := by decide +kernel
theorem dX6_safeFor_43 : decode cX6_safeFor 43 = .ok (.getfield 7, 3) := by decide +kernel
theorem dX6_safeFor_46 : decode cX6_safeFor 46 = .ok (.iconst 3, 1) := by decide +kernel
theorem dX6_safeFor_47 : decode cX6_safeFor 47 = .ok (.iaload, 1) := by decide +kernel
theorem dX6_safeFor_48 : decode cX6_safeFor 48 = .ok (.aload_n 0, 1) := by decide +kernel
theorem dX6_safeFor_49 : decode cX6_safeFor 49 = .ok (.iload_n 2, 1) := by decide +kernel
theorem dX6_safeFor_50 : decode cX6_safeFor 50 = .ok (.iload_n 3, 1) := by decide +kernel
theorem dX6_safeFor_51 : decode cX6_safeFor 51 = .ok (.invokevirtual 148, 3) := by decide +kernel
theorem dX6_safeFor_54 : decode cX6_safeFor 54 = .ok (.isub, 1) := by decide +kernel
theorem dX6_safeFor_55 : decode cX6_safeFor 55 = .ok (.iconst 1, 1) := by decide +kernel
theorem dX6_safeFor_56 : decode cX6_safeFor 56 = .ok (.iadd, 1) := by decide +kernel
theorem dX6_safeFor_57 : decode cX6_safeFor 57 = .ok (.istore 4, 2) := by decide +kernel
theorem dX6_safeFor_59 : decode cX6_safeFor 59 = .ok (.iload_n 1, 1) := by decide +kernel
theorem dX6_safeFor_60 : decode cX6_safeFor 60 = .ok (.ifCond .lt 9, 3) := by decide +kernel
theorem dX6_safeFor_63 : decode cX6_safeFor 63 = .ok (.iload 4, 2) := by decide +kernel
theorem dX6_safeFor_65 : decode cX6_safeFor 65 = .ok (.iload_n 1, 1) := by decide +kernel
theorem dX6_safeFor_66 : decode cX6_safeFor 66 = .ok (.if_icmp .ge 8, 3) := by decide +kernel
theorem dX6_safeFor_69 : decode cX6_safeFor 69 = .ok (.iload 4, 2) := by decide +kernel
theorem dX6_safeFor_71 : decode cX6_safeFor 71 = .ok (.goto 4, 3) := by decide +kernel
theorem dX6_safeFor_74 : decode cX6_safeFor 74 = .ok (.iload_n 1, 1) := by decide +kernel
theorem dX6_safeFor_75 : decode cX6_safeFor 75 = .ok (.istore_n 1, 1) := by decide +kernel
theorem dX6_safeFor_76 : decode cX6_safeFor 76 = .ok (.iinc 3 1, 3) := by decide +kernel
theorem dX6_safeFor_79 : decode cX6_safeFor 79 = .ok (.goto (-62), 3) := by decide +kernel
theorem dX6_safeFor_82 : decode cX6_safeFor 82 = .ok (.iinc 2 1, 3) := by decide +kernel
theorem dX6_safeFor_85 : decode cX6_safeFor 85 = .ok (.goto (-80), 3) := by decide +kernel
theorem dX6_safeFor_88 : decode cX6_safeFor 88 = .ok (.iload_n 1, 1) := by decide +kernel
theorem dX6_safeFor_89 : decode cX6_safeFor 89 = .ok (.ireturn, 1) := by decide +kernel
set_option maxRecDepth 20000 in
theorem ggX6_echoes_X6_of : GoodIn wsX6_echoes wsX6_of := goodIn_r _ [6, 1, 7, 8, 9, 10, 11, 12, 13, 14, 15, 16, 17, 18, 19, 20, 21, 22, 23, 24] (by decide +kernel) (by decide +kernel)
set_option maxRecDepth 20000 in
theorem gX6_echoes_X6_of : GoodIn wsX6_echoes (wsV RX6 47 RX6 yX6_of wsX6_of) := goodIn_app (goodIn_of _ (by decide +kernel)) ggX6_echoes_X6_of
theorem dX6_echoes_0 : decode cX6_echoes 0 = .ok (.iconst 0, 1) := by decide +kernel
theorem dX6_echoes_1 : decode cX6_echoes 1 = .ok (.istore_n 1, 1) := by decide +kernel
theorem dX6_echoes_2 : decode cX6_echoes 2 = .ok (.iconst 0, 1) := by decide +kernel
theorem dX6_echoes_3 : decode cX6_echoes 3 = .ok (.istore_n 2, 1) := by decide +kernel
theorem dX6_echoes_4 : decode cX6_echoes 4 = .ok (.iload_n 2, 1) := by decide +kernel
theorem dX6_echoes_5 : decode cX6_echoes 5 = .ok (.aload_n 0, 1) := by decide +kernel
theorem dX6_echoes_6 : decode cX6_echoes 6 = .ok (.getfield 7, 3) := by decide +kernel
theorem dX6_echoes_9 : decode cX6_echoes 9 = .ok (.iconst 0, 1) := by decide +kernel
theorem dX6_echoes_10 : decode cX6_echoes 10 = .ok (.iaload, 1) := by decide +kernel
theorem dX6_echoes_11 : decode cX6_echoes 11 = .ok (.if_icmp .ge 18, 3) := by decide +kernel
theorem dX6_echoes_14 : decode cX6_echoes 14 = .ok (.iload_n 1, 1) := by decide +kernel
theorem dX6_echoes_15 : decode cX6_echoes 15 = .ok (.aload_n 0, 1) := by decide +kernel
theorem dX6_echoes_16 : decode cX6_echoes 16 = .ok (.iload_n 2, 1) := by decide +kernel
theorem dX6_echoes_17 : decode cX6_echoes 17 = .ok (.iconst 4, 1) := by decide +kernel
theorem dX6_echoes_18 : decode cX6_echoes 18 = .ok (.invokevirtual 47, 3) := by decide +kernel
theorem dX6_echoes_21 : decode cX6_echoes 21 = .ok (.iadd, 1) := by decide +kernel
theorem dX6_echoes_22 : decode cX6_echoes 22 = .ok (.istore_n 1, 1) := by decide +kernel
theorem dX6_echoes_23 : decode cX6_echoes 23 = .ok (.iinc 2 1, 3) := by decide +kernel
theorem dX6_echoes_26 : decode cX6_echoes 26 = .ok (.goto (-22), 3) := by decide +kernel
theorem dX6_echoes_29 : decode cX6_echoes 29 = .ok (.iload_n 1, 1) := by decide +kernel
theorem dX6_echoes_30 : decode cX6_echoes 30 = .ok (.ireturn, 1) := by decide +kernel
set_option maxRecDepth 20000 in
theorem ggX6_faded_X6_of : GoodIn wsX6_faded wsX6_of := goodIn_r _ [6, 1, 19, 20, 21, 22, 23, 24, 25, 26, 27, 28, 29, 30, 31, 32, 33, 34, 35, 36] (by decide +kernel) (by decide +kernel)
set_option maxRecDepth 20000 in
theorem gX6_faded_X6_of : GoodIn wsX6_faded (wsV RX6 47 RX6 yX6_of wsX6_of) := goodIn_app (goodIn_of _ (by decide +kernel)) ggX6_faded_X6_of
set_option maxRecDepth 20000 in
theorem ggX6_faded_X6_isFaded : GoodIn wsX6_faded wsX6_isFaded := goodIn_r _ [10, 1, 11, 12, 13, 5, 14, 15, 16, 17, 18, 2, 3, 4, 6, 19, 20, 21, 22, 23, 24, 25, 26, 27, 28, 29, 30, 31, 32, 33, 34, 35, 36] (by decide +kernel) (by decide +kernel)
set_option maxRecDepth 20000 in
theorem gX6_faded_X6_isFaded : GoodIn wsX6_faded (wsV RX6 92 RX6 yX6_isFaded wsX6_isFaded) := goodIn_app (goodIn_of _ (by decide +kernel)) ggX6_faded_X6_isFaded
theorem dX6_faded_0 : decode cX6_faded 0 = .ok (.iconst 0, 1) := by decide +kernel
theorem dX6_faded_1 : decode cX6_faded 1 = .ok (.istore_n 1, 1) := by decide +kernel
theorem dX6_faded_2 : decode cX6_faded 2 = .ok (.iconst 0, 1) := by decide +kernel
theorem dX6_faded_3 : decode cX6_faded 3 = .ok (.istore_n 2, 1) := by decide +kernel
theorem dX6_faded_4 : decode cX6_faded 4 = .ok (.iload_n 2, 1) := by decide +kernel
theorem dX6_faded_5 : decode cX6_faded 5 = .ok (.aload_n 0, 1) := by decide +kernel
theorem dX6_faded_6 : decode cX6_faded 6 = .ok (.getfield 7, 3) := by decide +kernel
theorem dX6_faded_9 : decode cX6_faded 9 = .ok (.iconst 0, 1) := by decide +kernel
theorem dX6_faded_10 : decode cX6_faded 10 = .ok (.iaload, 1) := by decide +kernel
theorem dX6_faded_11 : decode cX6_faded 11 = .ok (.if_icmp .ge 44, 3) := by decide +kernel
theorem dX6_faded_14 : decode cX6_faded 14 = .ok (.iconst 0, 1) := by decide +kernel
theorem dX6_faded_15 : decode cX6_faded 15 = .ok (.istore_n 3, 1) := by decide +kernel
theorem dX6_faded_16 : decode cX6_faded 16 = .ok (.iload_n 3, 1) := by decide +kernel
theorem dX6_faded_17 : decode cX6_faded 17 = .ok (.aload_n 0, 1) := by decide +kernel
theorem dX6_faded_18 : decode cX6_faded 18 = .ok (.iload_n 2, 1) := by decide +kernel
theorem dX6_faded_19 : decode cX6_faded 19 = .ok (.iconst 4, 1) := by decide +kernel
theorem dX6_faded_20 : decode cX6_faded 20 = .ok (.invokevirtual 47, 3) := by decide +kernel
theorem dX6_faded_23 : decode cX6_faded 23 = .ok (.if_icmp .ge 26, 3) := by decide +kernel
theorem dX6_faded_26 : decode cX6_faded 26 = .ok (.iload_n 1, 1) := by decide +kernel
theorem dX6_faded_27 : decode cX6_faded 27 = .ok (.aload_n 0, 1) := by decide +kernel
theorem dX6_faded_28 : decode cX6_faded 28 = .ok (.iload_n 2, 1) := by decide +kernel
theorem dX6_faded_29 : decode cX6_faded 29 = .ok (.iload_n 3, 1) := by decide +kernel
theorem dX6_faded_30 : decode cX6_faded 30 = .ok (.invokevirtual 92, 3) := by decide +kernel
theorem dX6_faded_33 : decode cX6_faded 33 = .ok (.ifCond .eq 7, 3) := by decide +kernel
theorem dX6_faded_36 : decode cX6_faded 36 = .ok (.iconst 1, 1) := by decide +kernel
theorem dX6_faded_37 : decode cX6_faded 37 = .ok (.goto 4, 3) := by decide +kernel
theorem dX6_faded_40 : decode cX6_faded 40 = .ok (.iconst 0, 1) := by decide +kernel
theorem dX6_faded_41 : decode cX6_faded 41 = .ok (.iadd, 1) := by decide +kernel
theorem dX6_faded_42 : decode cX6_faded 42 = .ok (.istore_n 1, 1) := by decide +kernel
theorem dX6_faded_43 : decode cX6_faded 43 = .ok (.iinc 3 1, 3) := by decide +kernel
theorem dX6_faded_46 : decode cX6_faded 46 = .ok (.goto (-30), 3) := by decide +kernel
theorem dX6_faded_49 : decode cX6_faded 49 = .ok (.iinc 2 1, 3) := by decide +kernel
theorem dX6_faded_52 : decode cX6_faded 52 = .ok (.goto (-48), 3) := by decide +kernel
theorem dX6_faded_55 : decode cX6_faded 55 = .ok (.iload_n 1, 1) := by decide +kernel
theorem dX6_faded_56 : decode cX6_faded 56 = .ok (.ireturn, 1) := by decide +kernel
set_option maxRecDepth 20000 in
theorem ggX6_ages_X6_of : GoodIn wsX6_ages wsX6_of := goodIn_r _ [6, 1, 19, 20, 21, 22, 23, 24, 25, 26, 27, 28, 29, 30, 31, 32, 33, 34, 35, 36] (by decide +kernel) (by decide +kernel)
set_option maxRecDepth 20000 in
theorem gX6_ages_X6_of : GoodIn wsX6_ages (wsV RX6 47 RX6 yX6_of wsX6_of) := goodIn_app (goodIn_of _ (by decide +kernel)) ggX6_ages_X6_of
set_option maxRecDepth 20000 in
theorem ggX6_ages_X6_isFaded : GoodIn wsX6_ages wsX6_isFaded := goodIn_r _ [10, 1, 11, 12, 13, 5, 14, 15, 16, 17, 18, 2, 3, 4, 6, 19, 20, 21, 22, 23, 24, 25, 26, 27, 28, 29, 30, 31, 32, 33, 34, 35, 36] (by decide +kernel) (by decide +kernel)
set_option maxRecDepth 20000 in
theorem gX6_ages_X6_isFaded : GoodIn wsX6_ages (wsV RX6 92 RX6 yX6_isFaded wsX6_isFaded) := goodIn_app (goodIn_of _ (by decide +kernel)) ggX6_ages_X6_isFaded
set_option maxRecDepth 20000 in
theorem ggX6_ages_X6_age : GoodIn wsX6_ages wsX6_age := goodIn_r _ [14, 1, 15, 16, 17, 5, 18, 2, 3, 4, 6, 19, 20, 21, 22, 23, 24, 25, 26, 27, 28, 29, 30, 31, 32, 33, 34, 35, 36] (by decide +kernel) (by decide +kernel)
set_option maxRecDepth 20000 in
theorem gX6_ages_X6_age : GoodIn wsX6_ages (wsV RX6 65 RX6 yX6_age wsX6_age) := goodIn_app (goodIn_of _ (by decide +kernel)) ggX6_ages_X6_age
theorem dX6_ages_0 : decode cX6_ages 0 = .ok (.iconst 0, 1) := by decide +kernel
theorem dX6_ages_1 : decode cX6_ages 1 = .ok (.istore_n 1, 1) := by decide +kernel
theorem dX6_ages_2 : decode cX6_ages 2 = .ok (.iconst 0, 1) := by decide +kernel
theorem dX6_ages_3 : decode cX6_ages 3 = .ok (.istore_n 2, 1) := by decide +kernel
theorem dX6_ages_4 : decode cX6_ages 4 = .ok (.iload_n 2, 1) := by decide +kernel
theorem dX6_ages_5 : decode cX6_ages 5 = .ok (.aload_n 0, 1) := by decide +kernel
theorem dX6_ages_6 : decode cX6_ages 6 = .ok (.getfield 7, 3) := by decide +kernel
theorem dX6_ages_9 : decode cX6_ages 9 = .ok (.iconst 0, 1) := by decide +kernel
theorem dX6_ages_10 : decode cX6_ages 10 = .ok (.iaload, 1) := by decide +kernel
theorem dX6_ages_11 : decode cX6_ages 11 = .ok (.if_icmp .ge 49, 3) := by decide +kernel
theorem dX6_ages_14 : decode cX6_ages 14 = .ok (.iconst 0, 1) := by decide +kernel
theorem dX6_ages_15 : decode cX6_ages 15 = .ok (.istore_n 3, 1) := by decide +kernel
theorem dX6_ages_16 : decode cX6_ages 16 = .ok (.iload_n 3, 1) := by decide +kernel
theorem dX6_ages_17 : decode cX6_ages 17 = .ok (.aload_n 0, 1) := by decide +kernel
theorem dX6_ages_18 : decode cX6_ages 18 = .ok (.iload_n 2, 1) := by decide +kernel
theorem dX6_ages_19 : decode cX6_ages 19 = .ok (.iconst 4, 1) := by decide +kernel
theorem dX6_ages_20 : decode cX6_ages 20 = .ok (.invokevirtual 47, 3) := by decide +kernel
theorem dX6_ages_23 : decode cX6_ages 23 = .ok (.if_icmp .ge 31, 3) := by decide +kernel
theorem dX6_ages_26 : decode cX6_ages 26 = .ok (.iload_n 1, 1) := by decide +kernel
theorem dX6_ages_27 : decode cX6_ages 27 = .ok (.aload_n 0, 1) := by decide +kernel
theorem dX6_ages_28 : decode cX6_ages 28 = .ok (.iload_n 2, 1) := by decide +kernel
theorem dX6_ages_29 : decode cX6_ages 29 = .ok (.iload_n 3, 1) := by decide +kernel
theorem dX6_ages_30 : decode cX6_ages 30 = .ok (.invokevirtual 92, 3) := by decide +kernel
theorem dX6_ages_33 : decode cX6_ages 33 = .ok (.ifCond .eq 7, 3) := by decide +kernel
theorem dX6_ages_36 : decode cX6_ages 36 = .ok (.iconst 0, 1) := by decide +kernel
theorem dX6_ages_37 : decode cX6_ages 37 = .ok (.goto 9, 3) := by decide +kernel
theorem dX6_ages_40 : decode cX6_ages 40 = .ok (.aload_n 0, 1) := by decide +kernel
theorem dX6_ages_41 : decode cX6_ages 41 = .ok (.iload_n 2, 1) := by decide +kernel
theorem dX6_ages_42 : decode cX6_ages 42 = .ok (.iload_n 3, 1) := by decide +kernel
theorem dX6_ages_43 : decode cX6_ages 43 = .ok (.invokevirtual 65, 3) := by decide +kernel
theorem dX6_ages_46 : decode cX6_ages 46 = .ok (.iadd, 1) := by decide +kernel
theorem dX6_ages_47 : decode cX6_ages 47 = .ok (.istore_n 1, 1) := by decide +kernel
theorem dX6_ages_48 : decode cX6_ages 48 = .ok (.iinc 3 1, 3) := by decide +kernel
theorem dX6_ages_51 : decode cX6_ages 51 = .ok (.goto (-35), 3) := by decide +kernel
theorem dX6_ages_54 : decode cX6_ages 54 = .ok (.iinc 2 1, 3) := by decide +kernel
theorem dX6_ages_57 : decode cX6_ages 57 = .ok (.goto (-53), 3) := by decide +kernel
theorem dX6_ages_60 : decode cX6_ages 60 = .ok (.iload_n 1, 1) := by decide +kernel
theorem dX6_ages_61 : decode cX6_ages 61 = .ok (.ireturn, 1) := by decide +kernel
set_option maxRecDepth 20000 in
theorem ggX6_mean_X6_echoes : GoodIn wsX6_mean wsX6_echoes := goodIn_r _ [6, 7, 8, 9, 10, 5, 11, 44, 45, 46, 47, 48, 49, 50, 51, 52, 53, 54, 55, 56, 57, 58, 59, 60, 61] (by decide +kernel) (by decide +kernel)
set_option maxRecDepth 20000 in
theorem gX6_mean_X6_echoes : GoodIn wsX6_mean (wsV RX6 191 RX6 yX6_echoes wsX6_echoes) := goodIn_app (goodIn_of _ (by decide +kernel)) ggX6_mean_X6_echoes
set_option maxRecDepth 20000 in
theorem ggX6_mean_X6_faded : GoodIn wsX6_mean wsX6_faded := goodIn_r _ [15, 7, 8, 9, 10, 5, 11, 16, 17, 18, 19, 20, 21, 22, 23, 24, 25, 26, 27, 44, 45, 46, 47, 48, 49, 50, 51, 52, 53, 54, 55, 56, 57, 58, 59, 60, 61] (by decide +kernel) (by decide +kernel)
set_option maxRecDepth 20000 in
theorem gX6_mean_X6_faded : GoodIn wsX6_mean (wsV RX6 194 RX6 yX6_faded wsX6_faded) := goodIn_app (goodIn_of _ (by decide +kernel)) ggX6_mean_X6_faded
set_option maxRecDepth 20000 in
theorem ggX6_mean_X6_ages : GoodIn wsX6_mean wsX6_ages := goodIn_r _ [31, 7, 8, 9, 10, 5, 11, 16, 17, 18, 19, 20, 21, 22, 23, 24, 25, 26, 27, 44, 45, 46, 47, 48, 49, 50, 51, 52, 53, 54, 55, 56, 57, 58, 59, 60, 61] (by decide +kernel) (by decide +kernel)
set_option maxRecDepth 20000 in
theorem gX6_mean_X6_ages : GoodIn wsX6_mean (wsV RX6 197 RX6 yX6_ages wsX6_ages) := goodIn_app (goodIn_of _ (by decide +kernel)) ggX6_mean_X6_ages
set_option maxRecDepth 20000 in
theorem ggX6_mean_Jxf58ca_floatToIntBits_5c35a : GoodIn wsX6_mean wsJxf58ca_floatToIntBits_5c35a := goodIn_r _ [35, 36, 37, 38, 39, 40, 41, 42, 34, 43] (by decide +kernel) (by decide +kernel)
set_option maxRecDepth 20000 in
theorem gX6_mean_Jxf58ca_floatToIntBits_5c35a : GoodIn wsX6_mean (va_wsS RX6 200 yJxf58ca_floatToIntBits_5c35a wsJxf58ca_floatToIntBits_5c35a) := goodIn_app (goodIn_of _ (by decide +kernel)) ggX6_mean_Jxf58ca_floatToIntBits_5c35a
theorem dX6_mean_0 : decode cX6_mean 0 = .ok (.aload_n 0, 1) := by decide +kernel
theorem dX6_mean_1 : decode cX6_mean 1 = .ok (.invokevirtual 191, 3) := by decide +kernel
theorem dX6_mean_4 : decode cX6_mean 4 = .ok (.aload_n 0, 1) := by decide +kernel
theorem dX6_mean_5 : decode cX6_mean 5 = .ok (.invokevirtual 194, 3) := by decide +kernel
theorem dX6_mean_8 : decode cX6_mean 8 = .ok (.isub, 1) := by decide +kernel
theorem dX6_mean_9 : decode cX6_mean 9 = .ok (.istore_n 1, 1) := by decide +kernel
theorem dX6_mean_10 : decode cX6_mean 10 = .ok (.iload_n 1, 1) := by decide +kernel
theorem dX6_mean_11 : decode cX6_mean 11 = .ok (.ifCond .ne 8, 3) := by decide +kernel
theorem dX6_mean_14 : decode cX6_mean 14 = .ok (.ldc 51, 2) := by decide +kernel
theorem dX6_mean_16 : decode cX6_mean 16 = .ok (.goto 14, 3) := by decide +kernel
theorem dX6_mean_19 : decode cX6_mean 19 = .ok (.aload_n 0, 1) := by decide +kernel
theorem dX6_mean_20 : decode cX6_mean 20 = .ok (.invokevirtual 197, 3) := by decide +kernel
theorem dX6_mean_23 : decode cX6_mean 23 = .ok (.i2f, 1) := by decide +kernel
theorem dX6_mean_24 : decode cX6_mean 24 = .ok (.iload_n 1, 1) := by decide +kernel
theorem dX6_mean_25 : decode cX6_mean 25 = .ok (.i2f, 1) := by decide +kernel
theorem dX6_mean_26 : decode cX6_mean 26 = .ok (.fdiv, 1) := by decide +kernel
theorem dX6_mean_27 : decode cX6_mean 27 = .ok (.invokestatic 200, 3) := by decide +kernel
theorem dX6_mean_30 : decode cX6_mean 30 = .ok (.ireturn, 1) := by decide +kernel
set_option maxRecDepth 20000 in
theorem ggX6_share_X6_lives : GoodIn wsX6_share wsX6_lives := goodIn_r _ [7, 8, 9, 10, 6, 11, 1, 68, 69, 70, 71, 72, 73, 74, 75, 76, 77, 78, 79, 80, 81, 82, 83, 84, 85] (by decide +kernel) (by decide +kernel)
set_option maxRecDepth 20000 in
theorem gX6_share_X6_lives : GoodIn wsX6_share (wsV RX6 75 RX6 yX6_lives wsX6_lives) := goodIn_app (goodIn_of _ (by decide +kernel)) ggX6_share_X6_lives
set_option maxRecDepth 20000 in
theorem ggX6_share_X6_back : GoodIn wsX6_share wsX6_back := goodIn_r _ [15, 3, 4, 5, 6, 7, 8, 9, 10, 11, 1, 16, 17, 18, 19, 20, 21, 22, 23, 2, 24, 25, 26, 27, 28, 29, 30, 31, 32, 33, 34, 35, 36, 37, 38, 39, 40, 41, 42, 43, 44, 45, 46, 47, 48, 49, 50, 51, 52, 53, 54, 55, 68, 69, 70, 71, 72, 73, 74, 75, 76, 77, 78, 79, 80, 81, 82, 83, 84, 85] (by decide +kernel) (by decide +kernel)
set_option maxRecDepth 20000 in
theorem gX6_share_X6_back : GoodIn wsX6_share (wsV RX6 105 RX6 yX6_back wsX6_back) := goodIn_app (goodIn_of _ (by decide +kernel)) ggX6_share_X6_back
set_option maxRecDepth 20000 in
theorem ggX6_share_Jxf58ca_floatToIntBits_5c35a : GoodIn wsX6_share wsJxf58ca_floatToIntBits_5c35a := goodIn_r _ [59, 60, 61, 62, 63, 64, 65, 66, 58, 67] (by decide +kernel) (by decide +kernel)
set_option maxRecDepth 20000 in
theorem gX6_share_Jxf58ca_floatToIntBits_5c35a : GoodIn wsX6_share (va_wsS RX6 200 yJxf58ca_floatToIntBits_5c35a wsJxf58ca_floatToIntBits_5c35a) := goodIn_app (goodIn_of _ (by decide +kernel)) ggX6_share_Jxf58ca_floatToIntBits_5c35a
theorem dX6_share_0 : decode cX6_share 0 = .ok (.iconst 0, 1) := by decide +kernel
theorem dX6_share_1 : decode cX6_share 1 = .ok (.istore_n 1, 1) := by decide +kernel
theorem dX6_share_2 : decode cX6_share 2 = .ok (.iconst 0, 1) := by decide +kernel
theorem dX6_share_3 : decode cX6_share 3 = .ok (.istore_n 2, 1) := by decide +kernel
theorem dX6_share_4 : decode cX6_share 4 = .ok (.iconst 0, 1) := by decide +kernel
theorem dX6_share_5 : decode cX6_share 5 = .ok (.istore_n 3, 1) := by decide +kernel
theorem dX6_share_6 : decode cX6_share 6 = .ok (.iload_n 3, 1) := by decide +kernel
theorem dX6_share_7 : decode cX6_share 7 = .ok (.aload_n 0, 1) := by decide +kernel
theorem dX6_share_8 : decode cX6_share 8 = .ok (.getfield 7, 3) := by decide +kernel
theorem dX6_share_11 : decode cX6_share 11 = .ok (.iconst 0, 1) := by decide +kernel
theorem dX6_share_12 : decode cX6_share 12 = .ok (.iaload, 1) := by decide +kernel
theorem dX6_share_13 : decode cX6_share 13 = .ok (.if_icmp .ge 46, 3) := by decide +kernel
theorem dX6_share_16 : decode cX6_share 16 = .ok (.iload_n 1, 1) := by decide +kernel
theorem dX6_share_17 : decode cX6_share 17 = .ok (.aload_n 0, 1) := by decide +kernel
theorem dX6_share_18 : decode cX6_share 18 = .ok (.iload_n 3, 1) := by decide +kernel
theorem dX6_share_19 : decode cX6_share 19 = .ok (.invokevirtual 75, 3) := by decide +kernel
theorem dX6_share_22 : decode cX6_share 22 = .ok (.ifCond .eq 11, 3) := by decide +kernel
theorem dX6_share_25 : decode cX6_share 25 = .ok (.aload_n 0, 1) := by decide +kernel
theorem dX6_share_26 : decode cX6_share 26 = .ok (.iload_n 3, 1) := by decide +kernel
theorem dX6_share_27 : decode cX6_share 27 = .ok (.invokevirtual 105, 3) := by decide +kernel
theorem dX6_share_30 : decode cX6_share 30 = .ok (.goto 4, 3) := by decide +kernel
theorem dX6_share_33 : decode cX6_share 33 = .ok (.iconst 0, 1) := by decide +kernel
theorem dX6_share_34 : decode cX6_share 34 = .ok (.iadd, 1) := by decide +kernel
theorem dX6_share_35 : decode cX6_share 35 = .ok (.istore_n 1, 1) := by decide +kernel
theorem dX6_share_36 : decode cX6_share 36 = .ok (.iload_n 2, 1) := by decide +kernel
theorem dX6_share_37 : decode cX6_share 37 = .ok (.aload_n 0, 1) := by decide +kernel
theorem dX6_share_38 : decode cX6_share 38 = .ok (.iload_n 3, 1) := by decide +kernel
theorem dX6_share_39 : decode cX6_share 39 = .ok (.invokevirtual 75, 3) := by decide +kernel
theorem dX6_share_42 : decode cX6_share 42 = .ok (.ifCond .eq 8, 3) := by decide +kernel
theorem dX6_share_45 : decode cX6_share 45 = .ok (.bipush 8, 2) := by decide +kernel
theorem dX6_share_47 : decode cX6_share 47 = .ok (.goto 4, 3) := by decide +kernel
theorem dX6_share_50 : decode cX6_share 50 = .ok (.iconst 0, 1) := by decide +kernel
theorem dX6_share_51 : decode cX6_share 51 = .ok (.iadd, 1) := by decide +kernel
theorem dX6_share_52 : decode cX6_share 52 = .ok (.istore_n 2, 1) := by decide +kernel
theorem dX6_share_53 : decode cX6_share 53 = .ok (.iinc 3 1, 3) := by decide +kernel
theorem dX6_share_56 : decode cX6_share 56 = .ok (.goto (-50), 3) := by decide +kernel
theorem dX6_share_59 : decode cX6_share 59 = .ok (.iload_n 2, 1) := by decide +kernel
theorem dX6_share_60 : decode cX6_share 60 = .ok (.ifCond .ne 8, 3) := by decide +kernel
theorem dX6_share_63 : decode cX6_share 63 = .ok (.ldc 51, 2) := by decide +kernel
theorem dX6_share_65 : decode cX6_share 65 = .ok (.goto 11, 3) := by decide +kernel
theorem dX6_share_68 : decode cX6_share 68 = .ok (.iload_n 1, 1) := by decide +kernel
theorem dX6_share_69 : decode cX6_share 69 = .ok (.i2f, 1) := by decide +kernel
theorem dX6_share_70 : decode cX6_share 70 = .ok (.iload_n 2, 1) := by decide +kernel
theorem dX6_share_71 : decode cX6_share 71 = .ok (.i2f, 1) := by decide +kernel
theorem dX6_share_72 : decode cX6_share 72 = .ok (.fdiv, 1) := by decide +kernel
theorem dX6_share_73 : decode cX6_share 73 = .ok (.invokestatic 200, 3) := by decide +kernel
theorem dX6_share_76 : decode cX6_share 76 = .ok (.ireturn, 1) := by decide +kernel
set_option maxRecDepth 20000 in
theorem ggX6_setOf_X6_isSafe : GoodIn wsX6_setOf wsX6_isSafe := goodIn_r _ [6, 7, 8, 9, 5, 10, 11, 12, 13, 14, 1, 15, 16, 17, 18, 19, 20, 21, 22, 23, 24, 25, 26, 27, 28, 29, 30, 31, 32, 33, 34, 35, 36, 37, 38, 39, 40, 41, 42, 43, 44, 45, 46, 47, 48, 49, 50, 51, 52, 53, 54, 55, 56, 57, 58, 59, 60, 61, 62, 63, 64, 65, 66, 67, 68, 69, 70, 71, 72, 73, 74, 75, 76, 77, 78, 79, 80, 81] (by decide +kernel) (by decide +kernel)
set_option maxRecDepth 20000 in
theorem gX6_setOf_X6_isSafe : GoodIn wsX6_setOf (wsV RX6 188 RX6 yX6_isSafe wsX6_isSafe) := goodIn_app (goodIn_of _ (by decide +kernel)) ggX6_setOf_X6_isSafe
set_option maxRecDepth 20000 in
theorem ggX6_setOf_X6_lives : GoodIn wsX6_setOf wsX6_lives := goodIn_r _ [10, 11, 12, 13, 5, 14, 1, 64, 65, 66, 67, 68, 69, 70, 71, 72, 73, 74, 75, 76, 77, 78, 79, 80, 81] (by decide +kernel) (by decide +kernel)
set_option maxRecDepth 20000 in
theorem gX6_setOf_X6_lives : GoodIn wsX6_setOf (wsV RX6 75 RX6 yX6_lives wsX6_lives) := goodIn_app (goodIn_of _ (by decide +kernel)) ggX6_setOf_X6_lives
theorem dX6_setOf_0 : decode cX6_setOf 0 = .ok (.iconst 0, 1) := by decide +kernel
theorem dX6_setOf_1 : decode cX6_setOf 1 = .ok (.istore_n 2, 1) := by decide +kernel
theorem dX6_setOf_2 : decode cX6_setOf 2 = .ok (.iconst 0, 1) := by decide +kernel
theorem dX6_setOf_3 : decode cX6_setOf 3 = .ok (.istore_n 3, 1) := by decide +kernel
theorem dX6_setOf_4 : decode cX6_setOf 4 = .ok (.iload_n 3, 1) := by decide +kernel
theorem dX6_setOf_5 : decode cX6_setOf 5 = .ok (.aload_n 0, 1) := by decide +kernel
theorem dX6_setOf_6 : decode cX6_setOf 6 = .ok (.getfield 7, 3) := by decide +kernel
theorem dX6_setOf_9 : decode cX6_setOf 9 = .ok (.iconst 0, 1) := by decide +kernel
theorem dX6_setOf_10 : decode cX6_setOf 10 = .ok (.iaload, 1) := by decide +kernel
theorem dX6_setOf_11 : decode cX6_setOf 11 = .ok (.if_icmp .ge 42, 3) := by decide +kernel
theorem dX6_setOf_14 : decode cX6_setOf 14 = .ok (.iload_n 2, 1) := by decide +kernel
theorem dX6_setOf_15 : decode cX6_setOf 15 = .ok (.iload_n 1, 1) := by decide +kernel
theorem dX6_setOf_16 : decode cX6_setOf 16 = .ok (.ifCond .eq 14, 3) := by decide +kernel
theorem dX6_setOf_19 : decode cX6_setOf 19 = .ok (.aload_n 0, 1) := by decide +kernel
theorem dX6_setOf_20 : decode cX6_setOf 20 = .ok (.iload_n 3, 1) := by decide +kernel
theorem dX6_setOf_21 : decode cX6_setOf 21 = .ok (.invokevirtual 188, 3) := by decide +kernel
theorem dX6_setOf_24 : decode cX6_setOf 24 = .ok (.ifCond .eq 20, 3) := by decide +kernel
theorem dX6_setOf_27 : decode cX6_setOf 27 = .ok (.goto 11, 3) := by decide +kernel
theorem dX6_setOf_30 : decode cX6_setOf 30 = .ok (.aload_n 0, 1) := by decide +kernel
theorem dX6_setOf_31 : decode cX6_setOf 31 = .ok (.iload_n 3, 1) := by decide +kernel
theorem dX6_setOf_32 : decode cX6_setOf 32 = .ok (.invokevirtual 75, 3) := by decide +kernel
theorem dX6_setOf_35 : decode cX6_setOf 35 = .ok (.ifCond .eq 9, 3) := by decide +kernel
theorem dX6_setOf_38 : decode cX6_setOf 38 = .ok (.iconst 1, 1) := by decide +kernel
theorem dX6_setOf_39 : decode cX6_setOf 39 = .ok (.iload_n 3, 1) := by decide +kernel
theorem dX6_setOf_40 : decode cX6_setOf 40 = .ok (.ishl, 1) := by decide +kernel
theorem dX6_setOf_41 : decode cX6_setOf 41 = .ok (.goto 4, 3) := by decide +kernel
theorem dX6_setOf_44 : decode cX6_setOf 44 = .ok (.iconst 0, 1) := by decide +kernel
theorem dX6_setOf_45 : decode cX6_setOf 45 = .ok (.ior, 1) := by decide +kernel
theorem dX6_setOf_46 : decode cX6_setOf 46 = .ok (.istore_n 2, 1) := by decide +kernel
theorem dX6_setOf_47 : decode cX6_setOf 47 = .ok (.iinc 3 1, 3) := by decide +kernel
theorem dX6_setOf_50 : decode cX6_setOf 50 = .ok (.goto (-46), 3) := by decide +kernel
theorem dX6_setOf_53 : decode cX6_setOf 53 = .ok (.iload_n 2, 1) := by decide +kernel
theorem dX6_setOf_54 : decode cX6_setOf 54 = .ok (.ireturn, 1) := by decide +kernel
set_option maxRecDepth 20000 in
theorem ggX6_cellsOf_X6_lives : GoodIn wsX6_cellsOf wsX6_lives := goodIn_r _ [6, 7, 8, 9, 5, 10, 1, 19, 20, 21, 22, 23, 24, 25, 26, 27, 28, 29, 30, 31, 32, 33, 34, 35, 36] (by decide +kernel) (by decide +kernel)
set_option maxRecDepth 20000 in
theorem gX6_cellsOf_X6_lives : GoodIn wsX6_cellsOf (wsV RX6 75 RX6 yX6_lives wsX6_lives) := goodIn_app (goodIn_of _ (by decide +kernel)) ggX6_cellsOf_X6_lives
set_option maxRecDepth 20000 in
theorem ggX6_cellsOf_X6_wrongCells : GoodIn wsX6_cellsOf wsX6_wrongCells := goodIn_r _ [14, 7, 8, 9, 5, 10, 1, 19, 20, 21, 22, 23, 24, 25, 26, 27, 28, 29, 30, 31, 32, 33, 34, 35, 36] (by decide +kernel) (by decide +kernel)
set_option maxRecDepth 20000 in
theorem gX6_cellsOf_X6_wrongCells : GoodIn wsX6_cellsOf (wsV RX6 154 RX6 yX6_wrongCells wsX6_wrongCells) := goodIn_app (goodIn_of _ (by decide +kernel)) ggX6_cellsOf_X6_wrongCells
set_option maxRecDepth 20000 in
theorem ggX6_cellsOf_X6_unknown : GoodIn wsX6_cellsOf wsX6_unknown := goodIn_r _ [18, 7, 8, 9, 5, 10, 1, 19, 20, 21, 22, 23, 24, 25, 26, 27, 28, 29, 30, 31, 32, 33, 34, 35, 36] (by decide +kernel) (by decide +kernel)
set_option maxRecDepth 20000 in
theorem gX6_cellsOf_X6_unknown : GoodIn wsX6_cellsOf (wsV RX6 151 RX6 yX6_unknown wsX6_unknown) := goodIn_app (goodIn_of _ (by decide +kernel)) ggX6_cellsOf_X6_unknown
theorem dX6_cellsOf_0 : decode cX6_cellsOf 0 = .ok (.iconst 0, 1) := by decide +kernel
theorem dX6_cellsOf_1 : decode cX6_cellsOf 1 = .ok (.istore_n 2, 1) := by decide +kernel
theorem dX6_cellsOf_2 : decode cX6_cellsOf 2 = .ok (.iconst 0, 1) := by decide +kernel
theorem dX6_cellsOf_3 : decode cX6_cellsOf 3 = .ok (.istore_n 3, 1) := by decide +kernel
theorem dX6_cellsOf_4 : decode cX6_cellsOf 4 = .ok (.iload_n 3, 1) := by decide +kernel
theorem dX6_cellsOf_5 : decode cX6_cellsOf 5 = .ok (.aload_n 0, 1) := by decide +kernel
theorem dX6_cellsOf_6 : decode cX6_cellsOf 6 = .ok (.getfield 7, 3) := by decide +kernel
theorem dX6_cellsOf_9 : decode cX6_cellsOf 9 = .ok (.iconst 0, 1) := by decide +kernel
theorem dX6_cellsOf_10 : decode cX6_cellsOf 10 = .ok (.iaload, 1) := by decide +kernel
theorem dX6_cellsOf_11 : decode cX6_cellsOf 11 = .ok (.if_icmp .ge 41, 3) := by decide +kernel
theorem dX6_cellsOf_14 : decode cX6_cellsOf 14 = .ok (.iload_n 2, 1) := by decide +kernel
theorem dX6_cellsOf_15 : decode cX6_cellsOf 15 = .ok (.aload_n 0, 1) := by decide +kernel
theorem dX6_cellsOf_16 : decode cX6_cellsOf 16 = .ok (.iload_n 3, 1) := by decide +kernel
theorem dX6_cellsOf_17 : decode cX6_cellsOf 17 = .ok (.invokevirtual 75, 3) := by decide +kernel
theorem dX6_cellsOf_20 : decode cX6_cellsOf 20 = .ok (.ifCond .ne 7, 3) := by decide +kernel
theorem dX6_cellsOf_23 : decode cX6_cellsOf 23 = .ok (.iconst 0, 1) := by decide +kernel
theorem dX6_cellsOf_24 : decode cX6_cellsOf 24 = .ok (.goto 20, 3) := by decide +kernel
theorem dX6_cellsOf_27 : decode cX6_cellsOf 27 = .ok (.iload_n 1, 1) := by decide +kernel
theorem dX6_cellsOf_28 : decode cX6_cellsOf 28 = .ok (.ifCond .eq 11, 3) := by decide +kernel
theorem dX6_cellsOf_31 : decode cX6_cellsOf 31 = .ok (.aload_n 0, 1) := by decide +kernel
theorem dX6_cellsOf_32 : decode cX6_cellsOf 32 = .ok (.iload_n 3, 1) := by decide +kernel
theorem dX6_cellsOf_33 : decode cX6_cellsOf 33 = .ok (.invokevirtual 154, 3) := by decide +kernel
theorem dX6_cellsOf_36 : decode cX6_cellsOf 36 = .ok (.goto 8, 3) := by decide +kernel
theorem dX6_cellsOf_39 : decode cX6_cellsOf 39 = .ok (.aload_n 0, 1) := by decide +kernel
theorem dX6_cellsOf_40 : decode cX6_cellsOf 40 = .ok (.iload_n 3, 1) := by decide +kernel
theorem dX6_cellsOf_41 : decode cX6_cellsOf 41 = .ok (.invokevirtual 151, 3) := by decide +kernel
theorem dX6_cellsOf_44 : decode cX6_cellsOf 44 = .ok (.iadd, 1) := by decide +kernel
theorem dX6_cellsOf_45 : decode cX6_cellsOf 45 = .ok (.istore_n 2, 1) := by decide +kernel
theorem dX6_cellsOf_46 : decode cX6_cellsOf 46 = .ok (.iinc 3 1, 3) := by decide +kernel
theorem dX6_cellsOf_49 : decode cX6_cellsOf 49 = .ok (.goto (-45), 3) := by decide +kernel
theorem dX6_cellsOf_52 : decode cX6_cellsOf 52 = .ok (.iload_n 2, 1) := by decide +kernel
theorem dX6_cellsOf_53 : decode cX6_cellsOf 53 = .ok (.ireturn, 1) := by decide +kernel
set_option maxRecDepth 20000 in
theorem ggX6_count_X6_in : GoodIn wsX6_count wsX6_in := goodIn_r _ [8] (by decide +kernel) (by decide +kernel)
set_option maxRecDepth 20000 in
theorem gX6_count_X6_in : GoodIn wsX6_count (va_wsS RX6 43 yX6_in wsX6_in) := goodIn_app (goodIn_of _ (by decide +kernel)) ggX6_count_X6_in
set_option maxRecDepth 20000 in
theorem ggX6_count_X6_setOf : GoodIn wsX6_count wsX6_setOf := goodIn_r _ [12, 1, 13, 14, 15, 7, 16, 17, 18, 19, 20, 21, 22, 23, 24, 25, 26, 27, 28, 29, 30, 31, 32, 33, 34, 35, 36, 37, 38, 39, 40, 41, 42, 43, 44, 45, 46, 47, 48, 49, 50, 51, 52, 53, 54, 55, 56, 57, 58, 59, 60, 61, 62, 63, 64, 65, 66, 67, 68, 69, 70, 71, 72, 73, 90, 91, 92, 93, 94, 95, 96, 97, 98, 99, 100, 101, 102, 103, 104, 105, 106, 107] (by decide +kernel) (by decide +kernel)
set_option maxRecDepth 20000 in
theorem gX6_count_X6_setOf : GoodIn wsX6_count (wsV RX6 206 RX6 yX6_setOf wsX6_setOf) := goodIn_app (goodIn_of _ (by decide +kernel)) ggX6_count_X6_setOf
set_option maxRecDepth 20000 in
theorem ggX6_count_X6_echoes : GoodIn wsX6_count wsX6_echoes := goodIn_r _ [77, 1, 21, 22, 23, 7, 24, 90, 91, 92, 93, 94, 95, 96, 97, 98, 99, 100, 101, 102, 103, 104, 105, 106, 107] (by decide +kernel) (by decide +kernel)
set_option maxRecDepth 20000 in
theorem gX6_count_X6_echoes : GoodIn wsX6_count (wsV RX6 191 RX6 yX6_echoes wsX6_echoes) := goodIn_app (goodIn_of _ (by decide +kernel)) ggX6_count_X6_echoes
set_option maxRecDepth 20000 in
theorem ggX6_count_X6_faded : GoodIn wsX6_count wsX6_faded := goodIn_r _ [81, 1, 21, 22, 23, 7, 24, 62, 63, 64, 65, 66, 67, 68, 69, 58, 59, 60, 61, 90, 91, 92, 93, 94, 95, 96, 97, 98, 99, 100, 101, 102, 103, 104, 105, 106, 107] (by decide +kernel) (by decide +kernel)
set_option maxRecDepth 20000 in
theorem gX6_count_X6_faded : GoodIn wsX6_count (wsV RX6 194 RX6 yX6_faded wsX6_faded) := goodIn_app (goodIn_of _ (by decide +kernel)) ggX6_count_X6_faded
set_option maxRecDepth 20000 in
theorem ggX6_count_X6_cellsOf : GoodIn wsX6_count wsX6_cellsOf := goodIn_r _ [85, 1, 17, 18, 19, 7, 20, 21, 22, 23, 24, 86, 87, 88, 89, 70, 71, 72, 73, 90, 91, 92, 93, 94, 95, 96, 97, 98, 99, 100, 101, 102, 103, 104, 105, 106, 107] (by decide +kernel) (by decide +kernel)
set_option maxRecDepth 20000 in
theorem gX6_count_X6_cellsOf : GoodIn wsX6_count (wsV RX6 210 RX6 yX6_cellsOf wsX6_cellsOf) := goodIn_app (goodIn_of _ (by decide +kernel)) ggX6_count_X6_cellsOf
theorem dX6_count_0 : decode cX6_count 0 = .ok (.iload_n 1, 1) := by decide +kernel
theorem dX6_count_1 : decode cX6_count 1 = .ok (.bipush 8, 2) := by decide +kernel
theorem dX6_count_3 : decode cX6_count 3 = .ok (.bipush 13, 2) := by decide +kernel
theorem dX6_count_5 : decode cX6_count 5 = .ok (.invokestatic 43, 3) := by decide +kernel
theorem dX6_count_8 : decode cX6_count 8 = .ok (.ifCond .eq 15, 3) := by decide +kernel
theorem dX6_count_11 : decode cX6_count 11 = .ok (.aload_n 0, 1) := by decide +kernel
theorem dX6_count_12 : decode cX6_count 12 = .ok (.getfield 7, 3) := by decide +kernel
theorem dX6_count_15 : decode cX6_count 15 = .ok (.iconst 4, 1) := by decide +kernel
theorem dX6_count_16 : decode cX6_count 16 = .ok (.iload_n 1, 1) := by decide +kernel
theorem dX6_count_17 : decode cX6_count 17 = .ok (.iadd, 1) := by decide +kernel
theorem dX6_count_18 : decode cX6_count 18 = .ok (.bipush 8, 2) := by decide +kernel
theorem dX6_count_20 : decode cX6_count 20 = .ok (.isub, 1) := by decide +kernel
theorem dX6_count_21 : decode cX6_count 21 = .ok (.iaload, 1) := by decide +kernel
theorem dX6_count_22 : decode cX6_count 22 = .ok (.ireturn, 1) := by decide +kernel
theorem dX6_count_23 : decode cX6_count 23 = .ok (.iload_n 1, 1) := by decide +kernel
theorem dX6_count_24 : decode cX6_count 24 = .ok (.tableswitch 174 0 21 #[104, 104, 111, 111, 126, 131, 136, 136, 174, 174, 174, 174, 174, 174, 152, 157, 174, 174, 174, 174, 162, 162], 104) := by decide +kernel
theorem dX6_count_128 : decode cX6_count 128 = .ok (.aload_n 0, 1) := by decide +kernel
theorem dX6_count_129 : decode cX6_count 129 = .ok (.getfield 7, 3) := by decide +kernel
theorem dX6_count_132 : decode cX6_count 132 = .ok (.iload_n 1, 1) := by decide +kernel
theorem dX6_count_133 : decode cX6_count 133 = .ok (.iaload, 1) := by decide +kernel
theorem dX6_count_134 : decode cX6_count 134 = .ok (.ireturn, 1) := by decide +kernel
theorem dX6_count_135 : decode cX6_count 135 = .ok (.aload_n 0, 1) := by decide +kernel
theorem dX6_count_136 : decode cX6_count 136 = .ok (.iload_n 1, 1) := by decide +kernel
theorem dX6_count_137 : decode cX6_count 137 = .ok (.iconst 3, 1) := by decide +kernel
theorem dX6_count_138 : decode cX6_count 138 = .ok (.if_icmp .ne 7, 3) := by decide +kernel
theorem dX6_count_141 : decode cX6_count 141 = .ok (.iconst 1, 1) := by decide +kernel
theorem dX6_count_142 : decode cX6_count 142 = .ok (.goto 4, 3) := by decide +kernel
theorem dX6_count_145 : decode cX6_count 145 = .ok (.iconst 0, 1) := by decide +kernel
theorem dX6_count_146 : decode cX6_count 146 = .ok (.invokevirtual 206, 3) := by decide +kernel
theorem dX6_count_149 : decode cX6_count 149 = .ok (.ireturn, 1) := by decide +kernel
theorem dX6_count_150 : decode cX6_count 150 = .ok (.aload_n 0, 1) := by decide +kernel
theorem dX6_count_151 : decode cX6_count 151 = .ok (.invokevirtual 191, 3) := by decide +kernel
theorem dX6_count_154 : decode cX6_count 154 = .ok (.ireturn, 1) := by decide +kernel
theorem dX6_count_155 : decode cX6_count 155 = .ok (.aload_n 0, 1) := by decide +kernel
theorem dX6_count_156 : decode cX6_count 156 = .ok (.invokevirtual 194, 3) := by decide +kernel
theorem dX6_count_159 : decode cX6_count 159 = .ok (.ireturn, 1) := by decide +kernel
theorem dX6_count_160 : decode cX6_count 160 = .ok (.aload_n 0, 1) := by decide +kernel
theorem dX6_count_161 : decode cX6_count 161 = .ok (.iload_n 1, 1) := by decide +kernel
theorem dX6_count_162 : decode cX6_count 162 = .ok (.bipush 7, 2) := by decide +kernel
theorem dX6_count_164 : decode cX6_count 164 = .ok (.if_icmp .ne 7, 3) := by decide +kernel
theorem dX6_count_167 : decode cX6_count 167 = .ok (.iconst 1, 1) := by decide +kernel
theorem dX6_count_168 : decode cX6_count 168 = .ok (.goto 4, 3) := by decide +kernel
theorem dX6_count_171 : decode cX6_count 171 = .ok (.iconst 0, 1) := by decide +kernel
theorem dX6_count_172 : decode cX6_count 172 = .ok (.invokevirtual 210, 3) := by decide +kernel
theorem dX6_count_175 : decode cX6_count 175 = .ok (.ireturn, 1) := by decide +kernel
theorem dX6_count_176 : decode cX6_count 176 = .ok (.aload_n 0, 1) := by decide +kernel
theorem dX6_count_177 : decode cX6_count 177 = .ok (.getfield 35, 3) := by decide +kernel
theorem dX6_count_180 : decode cX6_count 180 = .ok (.ireturn, 1) := by decide +kernel
theorem dX6_count_181 : decode cX6_count 181 = .ok (.aload_n 0, 1) := by decide +kernel
theorem dX6_count_182 : decode cX6_count 182 = .ok (.getfield 213, 3) := by decide +kernel
theorem dX6_count_185 : decode cX6_count 185 = .ok (.ireturn, 1) := by decide +kernel
theorem dX6_count_186 : decode cX6_count 186 = .ok (.aload_n 0, 1) := by decide +kernel
theorem dX6_count_187 : decode cX6_count 187 = .ok (.getfield 7, 3) := by decide +kernel
theorem dX6_count_190 : decode cX6_count 190 = .ok (.iconst 2, 1) := by decide +kernel
theorem dX6_count_191 : decode cX6_count 191 = .ok (.iload_n 1, 1) := by decide +kernel
theorem dX6_count_192 : decode cX6_count 192 = .ok (.iadd, 1) := by decide +kernel
theorem dX6_count_193 : decode cX6_count 193 = .ok (.bipush 20, 2) := by decide +kernel
theorem dX6_count_195 : decode cX6_count 195 = .ok (.isub, 1) := by decide +kernel
theorem dX6_count_196 : decode cX6_count 196 = .ok (.iaload, 1) := by decide +kernel
theorem dX6_count_197 : decode cX6_count 197 = .ok (.ireturn, 1) := by decide +kernel
theorem dX6_count_198 : decode cX6_count 198 = .ok (.ldc 114, 2) := by decide +kernel
theorem dX6_count_200 : decode cX6_count 200 = .ok (.ireturn, 1) := by decide +kernel
set_option maxRecDepth 20000 in
theorem ggX6_undo_X6_copies : GoodIn wsX6_undo wsX6_copies := goodIn_r _ [8] (by decide +kernel) (by decide +kernel)
set_option maxRecDepth 20000 in
theorem gX6_undo_X6_copies : GoodIn wsX6_undo (va_wsS RX6 39 yX6_copies wsX6_copies) := goodIn_app (goodIn_of _ (by decide +kernel)) ggX6_undo_X6_copies
theorem dX6_undo_0 : decode cX6_undo 0 = .ok (.aload_n 0, 1) := by decide +kernel
theorem dX6_undo_1 : decode cX6_undo 1 = .ok (.getfield 35, 3) := by decide +kernel
theorem dX6_undo_4 : decode cX6_undo 4 = .ok (.ifCond .ne 6, 3) := by decide +kernel
theorem dX6_undo_7 : decode cX6_undo 7 = .ok (.ldc 115, 2) := by decide +kernel
theorem dX6_undo_9 : decode cX6_undo 9 = .ok (.ireturn, 1) := by decide +kernel
theorem dX6_undo_10 : decode cX6_undo 10 = .ok (.aload_n 0, 1) := by decide +kernel
theorem dX6_undo_11 : decode cX6_undo 11 = .ok (.dup, 1) := by decide +kernel
theorem dX6_undo_12 : decode cX6_undo 12 = .ok (.getfield 35, 3) := by decide +kernel
theorem dX6_undo_15 : decode cX6_undo 15 = .ok (.iconst 1, 1) := by decide +kernel
theorem dX6_undo_16 : decode cX6_undo 16 = .ok (.isub, 1) := by decide +kernel
theorem dX6_undo_17 : decode cX6_undo 17 = .ok (.putfield 35, 3) := by decide +kernel
theorem dX6_undo_20 : decode cX6_undo 20 = .ok (.aload_n 0, 1) := by decide +kernel
theorem dX6_undo_21 : decode cX6_undo 21 = .ok (.getfield 19, 3) := by decide +kernel
theorem dX6_undo_24 : decode cX6_undo 24 = .ok (.sipush 703, 3) := by decide +kernel
theorem dX6_undo_27 : decode cX6_undo 27 = .ok (.aload_n 0, 1) := by decide +kernel
theorem dX6_undo_28 : decode cX6_undo 28 = .ok (.getfield 35, 3) := by decide +kernel
theorem dX6_undo_31 : decode cX6_undo 31 = .ok (.imul, 1) := by decide +kernel
theorem dX6_undo_32 : decode cX6_undo 32 = .ok (.aload_n 0, 1) := by decide +kernel
theorem dX6_undo_33 : decode cX6_undo 33 = .ok (.getfield 7, 3) := by decide +kernel
theorem dX6_undo_36 : decode cX6_undo 36 = .ok (.iconst 0, 1) := by decide +kernel
theorem dX6_undo_37 : decode cX6_undo 37 = .ok (.invokestatic 39, 3) := by decide +kernel
theorem dX6_undo_40 : decode cX6_undo 40 = .ok (.aload_n 0, 1) := by decide +kernel
theorem dX6_undo_41 : decode cX6_undo 41 = .ok (.getfield 35, 3) := by decide +kernel
theorem dX6_undo_44 : decode cX6_undo 44 = .ok (.ireturn, 1) := by decide +kernel
set_option maxRecDepth 20000 in
theorem ggX6_type_X6_in : GoodIn wsX6_type wsX6_in := goodIn_r _ [8] (by decide +kernel) (by decide +kernel)
set_option maxRecDepth 20000 in
theorem gX6_type_X6_in : GoodIn wsX6_type (va_wsS RX6 43 yX6_in wsX6_in) := goodIn_app (goodIn_of _ (by decide +kernel)) ggX6_type_X6_in
theorem dX6_type_0 : decode cX6_type 0 = .ok (.iload_n 1, 1) := by decide +kernel
theorem dX6_type_1 : decode cX6_type 1 = .ok (.bipush 32, 2) := by decide +kernel
theorem dX6_type_3 : decode cX6_type 3 = .ok (.bipush 126, 2) := by decide +kernel
theorem dX6_type_5 : decode cX6_type 5 = .ok (.invokestatic 43, 3) := by decide +kernel
theorem dX6_type_8 : decode cX6_type 8 = .ok (.ifCond .ne 6, 3) := by decide +kernel
theorem dX6_type_11 : decode cX6_type 11 = .ok (.ldc 114, 2) := by decide +kernel
theorem dX6_type_13 : decode cX6_type 13 = .ok (.ireturn, 1) := by decide +kernel
theorem dX6_type_14 : decode cX6_type 14 = .ok (.aload_n 0, 1) := by decide +kernel
theorem dX6_type_15 : decode cX6_type 15 = .ok (.getfield 213, 3) := by decide +kernel
theorem dX6_type_18 : decode cX6_type 18 = .ok (.bipush 60, 2) := by decide +kernel
theorem dX6_type_20 : decode cX6_type 20 = .ok (.if_icmp .ne 6, 3) := by decide +kernel
theorem dX6_type_23 : decode cX6_type 23 = .ok (.ldc 119, 2) := by decide +kernel
theorem dX6_type_25 : decode cX6_type 25 = .ok (.ireturn, 1) := by decide +kernel
theorem dX6_type_26 : decode cX6_type 26 = .ok (.aload_n 0, 1) := by decide +kernel
theorem dX6_type_27 : decode cX6_type 27 = .ok (.getfield 22, 3) := by decide +kernel
theorem dX6_type_30 : decode cX6_type 30 = .ok (.aload_n 0, 1) := by decide +kernel
theorem dX6_type_31 : decode cX6_type 31 = .ok (.getfield 213, 3) := by decide +kernel
theorem dX6_type_34 : decode cX6_type 34 = .ok (.iload_n 1, 1) := by decide +kernel
theorem dX6_type_35 : decode cX6_type 35 = .ok (.iastore, 1) := by decide +kernel
theorem dX6_type_36 : decode cX6_type 36 = .ok (.aload_n 0, 1) := by decide +kernel
theorem dX6_type_37 : decode cX6_type 37 = .ok (.dup, 1) := by decide +kernel
theorem dX6_type_38 : decode cX6_type 38 = .ok (.getfield 213, 3) := by decide +kernel
theorem dX6_type_41 : decode cX6_type 41 = .ok (.iconst 1, 1) := by decide +kernel
theorem dX6_type_42 : decode cX6_type 42 = .ok (.iadd, 1) := by decide +kernel
theorem dX6_type_43 : decode cX6_type 43 = .ok (.putfield 213, 3) := by decide +kernel
theorem dX6_type_46 : decode cX6_type 46 = .ok (.aload_n 0, 1) := by decide +kernel
theorem dX6_type_47 : decode cX6_type 47 = .ok (.getfield 213, 3) := by decide +kernel
theorem dX6_type_50 : decode cX6_type 50 = .ok (.ireturn, 1) := by decide +kernel
theorem dX6_clearText_0 : decode cX6_clearText 0 = .ok (.aload_n 0, 1) := by decide +kernel
theorem dX6_clearText_1 : decode cX6_clearText 1 = .ok (.getfield 213, 3) := by decide +kernel
theorem dX6_clearText_4 : decode cX6_clearText 4 = .ok (.istore_n 1, 1) := by decide +kernel
theorem dX6_clearText_5 : decode cX6_clearText 5 = .ok (.aload_n 0, 1) := by decide +kernel
theorem dX6_clearText_6 : decode cX6_clearText 6 = .ok (.iconst 0, 1) := by decide +kernel
theorem dX6_clearText_7 : decode cX6_clearText 7 = .ok (.putfield 213, 3) := by decide +kernel
theorem dX6_clearText_10 : decode cX6_clearText 10 = .ok (.iload_n 1, 1) := by decide +kernel
theorem dX6_clearText_11 : decode cX6_clearText 11 = .ok (.ireturn, 1) := by decide +kernel
theorem dX6_here_0 : decode cX6_here 0 = .ok (.aload_n 0, 1) := by decide +kernel
theorem dX6_here_1 : decode cX6_here 1 = .ok (.getfield 216, 3) := by decide +kernel
theorem dX6_here_4 : decode cX6_here 4 = .ok (.aload_n 0, 1) := by decide +kernel
theorem dX6_here_5 : decode cX6_here 5 = .ok (.getfield 213, 3) := by decide +kernel
theorem dX6_here_8 : decode cX6_here 8 = .ok (.if_icmp .ge 15, 3) := by decide +kernel
theorem dX6_here_11 : decode cX6_here 11 = .ok (.aload_n 0, 1) := by decide +kernel
theorem dX6_here_12 : decode cX6_here 12 = .ok (.getfield 22, 3) := by decide +kernel
theorem dX6_here_15 : decode cX6_here 15 = .ok (.aload_n 0, 1) := by decide +kernel
theorem dX6_here_16 : decode cX6_here 16 = .ok (.getfield 216, 3) := by decide +kernel
theorem dX6_here_19 : decode cX6_here 19 = .ok (.iaload, 1) := by decide +kernel
theorem dX6_here_20 : decode cX6_here 20 = .ok (.goto 4, 3) := by decide +kernel
theorem dX6_here_23 : decode cX6_here 23 = .ok (.iconst 0, 1) := by decide +kernel
theorem dX6_here_24 : decode cX6_here 24 = .ok (.ireturn, 1) := by decide +kernel
theorem dX6_takes_0 : decode cX6_takes 0 = .ok (.aload_n 0, 1) := by decide +kernel
theorem dX6_takes_1 : decode cX6_takes 1 = .ok (.aload_n 0, 1) := by decide +kernel
theorem dX6_takes_2 : decode cX6_takes 2 = .ok (.getfield 219, 3) := by decide +kernel
theorem dX6_takes_5 : decode cX6_takes 5 = .ok (.ifCond .eq 11, 3) := by decide +kernel
theorem dX6_takes_8 : decode cX6_takes 8 = .ok (.iload_n 1, 1) := by decide +kernel
theorem dX6_takes_9 : decode cX6_takes 9 = .ok (.ifCond .eq 7, 3) := by decide +kernel
theorem dX6_takes_12 : decode cX6_takes 12 = .ok (.iconst 1, 1) := by decide +kernel
theorem dX6_takes_13 : decode cX6_takes 13 = .ok (.goto 4, 3) := by decide +kernel
theorem dX6_takes_16 : decode cX6_takes 16 = .ok (.iconst 0, 1) := by decide +kernel
theorem dX6_takes_17 : decode cX6_takes 17 = .ok (.putfield 219, 3) := by decide +kernel
theorem dX6_takes_20 : decode cX6_takes 20 = .ok (.aload_n 0, 1) := by decide +kernel
theorem dX6_takes_21 : decode cX6_takes 21 = .ok (.dup, 1) := by decide +kernel
theorem dX6_takes_22 : decode cX6_takes 22 = .ok (.getfield 216, 3) := by decide +kernel
theorem dX6_takes_25 : decode cX6_takes 25 = .ok (.aload_n 0, 1) := by decide +kernel
theorem dX6_takes_26 : decode cX6_takes 26 = .ok (.getfield 219, 3) := by decide +kernel
theorem dX6_takes_29 : decode cX6_takes 29 = .ok (.ifCond .eq 7, 3) := by decide +kernel
theorem dX6_takes_32 : decode cX6_takes 32 = .ok (.iconst 1, 1) := by decide +kernel
theorem dX6_takes_33 : decode cX6_takes 33 = .ok (.goto 4, 3) := by decide +kernel
theorem dX6_takes_36 : decode cX6_takes 36 = .ok (.iconst 0, 1) := by decide +kernel
theorem dX6_takes_37 : decode cX6_takes 37 = .ok (.iadd, 1) := by decide +kernel
theorem dX6_takes_38 : decode cX6_takes 38 = .ok (.putfield 216, 3) := by decide +kernel
theorem dX6_takes_41 : decode cX6_takes 41 = .ok (.return_, 1) := by decide +kernel
set_option maxRecDepth 20000 in
theorem ggX6_takesNumber_X6_here : GoodIn wsX6_takesNumber wsX6_here := goodIn_r _ [8, 2, 9, 10, 14, 15, 16, 17, 18, 19, 20, 21, 22, 23, 24, 25, 26, 27, 28, 29, 30, 31] (by decide +kernel) (by decide +kernel)
set_option maxRecDepth 20000 in
theorem gX6_takesNumber_X6_here : GoodIn wsX6_takesNumber (wsV RX6 223 RX6 yX6_here wsX6_here) := goodIn_app (goodIn_of _ (by decide +kernel)) ggX6_takesNumber_X6_here
set_option maxRecDepth 20000 in
theorem ggX6_takesNumber_X6_in : GoodIn wsX6_takesNumber wsX6_in := goodIn_r _ [13] (by decide +kernel) (by decide +kernel)
set_option maxRecDepth 20000 in
theorem gX6_takesNumber_X6_in : GoodIn wsX6_takesNumber (va_wsS RX6 43 yX6_in wsX6_in) := goodIn_app (goodIn_of _ (by decide +kernel)) ggX6_takesNumber_X6_in
theorem dX6_takesNumber_0 : decode cX6_takesNumber 0 = .ok (.iconst 0, 1) := by decide +kernel
theorem dX6_takesNumber_1 : decode cX6_takesNumber 1 = .ok (.istore_n 2, 1) := by decide +kernel
theorem dX6_takesNumber_2 : decode cX6_takesNumber 2 = .ok (.iconst 0, 1) := by decide +kernel
theorem dX6_takesNumber_3 : decode cX6_takesNumber 3 = .ok (.istore_n 3, 1) := by decide +kernel
theorem dX6_takesNumber_4 : decode cX6_takesNumber 4 = .ok (.aload_n 0, 1) := by decide +kernel
theorem dX6_takesNumber_5 : decode cX6_takesNumber 5 = .ok (.getfield 219, 3) := by decide +kernel
theorem dX6_takesNumber_8 : decode cX6_takesNumber 8 = .ok (.ifCond .eq 51, 3) := by decide +kernel
theorem dX6_takesNumber_11 : decode cX6_takesNumber 11 = .ok (.iload_n 3, 1) := by decide +kernel
theorem dX6_takesNumber_12 : decode cX6_takesNumber 12 = .ok (.iconst 3, 1) := by decide +kernel
theorem dX6_takesNumber_13 : decode cX6_takesNumber 13 = .ok (.if_icmp .ge 46, 3) := by decide +kernel
theorem dX6_takesNumber_16 : decode cX6_takesNumber 16 = .ok (.aload_n 0, 1) := by decide +kernel
theorem dX6_takesNumber_17 : decode cX6_takesNumber 17 = .ok (.invokevirtual 223, 3) := by decide +kernel
theorem dX6_takesNumber_20 : decode cX6_takesNumber 20 = .ok (.bipush 48, 2) := by decide +kernel
theorem dX6_takesNumber_22 : decode cX6_takesNumber 22 = .ok (.bipush 57, 2) := by decide +kernel
theorem dX6_takesNumber_24 : decode cX6_takesNumber 24 = .ok (.invokestatic 43, 3) := by decide +kernel
theorem dX6_takesNumber_27 : decode cX6_takesNumber 27 = .ok (.ifCond .eq 32, 3) := by decide +kernel
theorem dX6_takesNumber_30 : decode cX6_takesNumber 30 = .ok (.bipush 10, 2) := by decide +kernel
theorem dX6_takesNumber_32 : decode cX6_takesNumber 32 = .ok (.iload_n 2, 1) := by decide +kernel
theorem dX6_takesNumber_33 : decode cX6_takesNumber 33 = .ok (.imul, 1) := by decide +kernel
theorem dX6_takesNumber_34 : decode cX6_takesNumber 34 = .ok (.aload_n 0, 1) := by decide +kernel
theorem dX6_takesNumber_35 : decode cX6_takesNumber 35 = .ok (.invokevirtual 223, 3) := by decide +kernel
theorem dX6_takesNumber_38 : decode cX6_takesNumber 38 = .ok (.iadd, 1) := by decide +kernel
theorem dX6_takesNumber_39 : decode cX6_takesNumber 39 = .ok (.bipush 48, 2) := by decide +kernel
theorem dX6_takesNumber_41 : decode cX6_takesNumber 41 = .ok (.isub, 1) := by decide +kernel
theorem dX6_takesNumber_42 : decode cX6_takesNumber 42 = .ok (.istore_n 2, 1) := by decide +kernel
theorem dX6_takesNumber_43 : decode cX6_takesNumber 43 = .ok (.iinc 3 1, 3) := by decide +kernel
theorem dX6_takesNumber_46 : decode cX6_takesNumber 46 = .ok (.aload_n 0, 1) := by decide +kernel
theorem dX6_takesNumber_47 : decode cX6_takesNumber 47 = .ok (.dup, 1) := by decide +kernel
theorem dX6_takesNumber_48 : decode cX6_takesNumber 48 = .ok (.getfield 216, 3) := by decide +kernel
theorem dX6_takesNumber_51 : decode cX6_takesNumber 51 = .ok (.iconst 1, 1) := by decide +kernel
theorem dX6_takesNumber_52 : decode cX6_takesNumber 52 = .ok (.iadd, 1) := by decide +kernel
theorem dX6_takesNumber_53 : decode cX6_takesNumber 53 = .ok (.putfield 216, 3) := by decide +kernel
theorem dX6_takesNumber_56 : decode cX6_takesNumber 56 = .ok (.goto (-52), 3) := by decide +kernel
theorem dX6_takesNumber_59 : decode cX6_takesNumber 59 = .ok (.aload_n 0, 1) := by decide +kernel
theorem dX6_takesNumber_60 : decode cX6_takesNumber 60 = .ok (.aload_n 0, 1) := by decide +kernel
theorem dX6_takesNumber_61 : decode cX6_takesNumber 61 = .ok (.getfield 219, 3) := by decide +kernel
theorem dX6_takesNumber_64 : decode cX6_takesNumber 64 = .ok (.ifCond .eq 11, 3) := by decide +kernel
theorem dX6_takesNumber_67 : decode cX6_takesNumber 67 = .ok (.iload_n 3, 1) := by decide +kernel
theorem dX6_takesNumber_68 : decode cX6_takesNumber 68 = .ok (.ifCond .le 7, 3) := by decide +kernel
theorem dX6_takesNumber_71 : decode cX6_takesNumber 71 = .ok (.iconst 1, 1) := by decide +kernel
theorem dX6_takesNumber_72 : decode cX6_takesNumber 72 = .ok (.goto 4, 3) := by decide +kernel
theorem dX6_takesNumber_75 : decode cX6_takesNumber 75 = .ok (.iconst 0, 1) := by decide +kernel
theorem dX6_takesNumber_76 : decode cX6_takesNumber 76 = .ok (.putfield 219, 3) := by decide +kernel
theorem dX6_takesNumber_79 : decode cX6_takesNumber 79 = .ok (.aload_n 0, 1) := by decide +kernel
theorem dX6_takesNumber_80 : decode cX6_takesNumber 80 = .ok (.getfield 28, 3) := by decide +kernel
theorem dX6_takesNumber_83 : decode cX6_takesNumber 83 = .ok (.iload_n 1, 1) := by decide +kernel
theorem dX6_takesNumber_84 : decode cX6_takesNumber 84 = .ok (.iload_n 2, 1) := by decide +kernel
theorem dX6_takesNumber_85 : decode cX6_takesNumber 85 = .ok (.iastore, 1) := by decide +kernel
theorem dX6_takesNumber_86 : decode cX6_takesNumber 86 = .ok (.return_, 1) := by decide +kernel
set_option maxRecDepth 20000 in
theorem ggX6_takesOrder_X6_here : GoodIn wsX6_takesOrder wsX6_here := goodIn_r _ [9, 1, 10, 11, 24, 25, 26, 27, 28, 29, 30, 31, 32, 33, 34, 35, 36, 37, 38, 39, 40, 41] (by decide +kernel) (by decide +kernel)
set_option maxRecDepth 20000 in
theorem gX6_takesOrder_X6_here : GoodIn wsX6_takesOrder (wsV RX6 223 RX6 yX6_here wsX6_here) := goodIn_app (goodIn_of _ (by decide +kernel)) ggX6_takesOrder_X6_here
set_option maxRecDepth 20000 in
theorem ggX6_takesOrder_X6_takes : GoodIn wsX6_takesOrder wsX6_takes := goodIn_r _ [15, 3, 1, 24, 25, 26, 27, 28, 29, 30, 31, 32, 33, 34, 35, 36, 37, 38, 39, 40, 41] (by decide +kernel) (by decide +kernel)
set_option maxRecDepth 20000 in
theorem gX6_takesOrder_X6_takes : GoodIn wsX6_takesOrder (wsV RX6 232 RX6 yX6_takes wsX6_takes) := goodIn_app (goodIn_of _ (by decide +kernel)) ggX6_takesOrder_X6_takes
set_option maxRecDepth 20000 in
theorem ggX6_takesOrder_X6_takesNumber : GoodIn wsX6_takesOrder wsX6_takesNumber := goodIn_r _ [19, 3, 1, 20, 5, 6, 7, 8, 9, 10, 11, 21, 22, 23, 24, 25, 26, 27, 28, 29, 30, 31, 32, 33, 34, 35, 36, 37, 38, 39, 40, 41] (by decide +kernel) (by decide +kernel)
set_option maxRecDepth 20000 in
theorem gX6_takesOrder_X6_takesNumber : GoodIn wsX6_takesOrder (wsV RX6 236 RX6 yX6_takesNumber wsX6_takesNumber) := goodIn_app (goodIn_of _ (by decide +kernel)) ggX6_takesOrder_X6_takesNumber
theorem dX6_takesOrder_0 : decode cX6_takesOrder 0 = .ok (.aload_n 0, 1) := by decide +kernel
theorem dX6_takesOrder_1 : decode cX6_takesOrder 1 = .ok (.aload_n 0, 1) := by decide +kernel
theorem dX6_takesOrder_2 : decode cX6_takesOrder 2 = .ok (.getfield 216, 3) := by decide +kernel
theorem dX6_takesOrder_5 : decode cX6_takesOrder 5 = .ok (.putfield 226, 3) := by decide +kernel
theorem dX6_takesOrder_8 : decode cX6_takesOrder 8 = .ok (.aload_n 0, 1) := by decide +kernel
theorem dX6_takesOrder_9 : decode cX6_takesOrder 9 = .ok (.iconst 1, 1) := by decide +kernel
theorem dX6_takesOrder_10 : decode cX6_takesOrder 10 = .ok (.putfield 219, 3) := by decide +kernel
theorem dX6_takesOrder_13 : decode cX6_takesOrder 13 = .ok (.aload_n 0, 1) := by decide +kernel
theorem dX6_takesOrder_14 : decode cX6_takesOrder 14 = .ok (.aload_n 0, 1) := by decide +kernel
theorem dX6_takesOrder_15 : decode cX6_takesOrder 15 = .ok (.invokevirtual 223, 3) := by decide +kernel
theorem dX6_takesOrder_18 : decode cX6_takesOrder 18 = .ok (.putfield 229, 3) := by decide +kernel
theorem dX6_takesOrder_21 : decode cX6_takesOrder 21 = .ok (.aload_n 0, 1) := by decide +kernel
theorem dX6_takesOrder_22 : decode cX6_takesOrder 22 = .ok (.aload_n 0, 1) := by decide +kernel
theorem dX6_takesOrder_23 : decode cX6_takesOrder 23 = .ok (.getfield 229, 3) := by decide +kernel
theorem dX6_takesOrder_26 : decode cX6_takesOrder 26 = .ok (.bipush 119, 2) := by decide +kernel
theorem dX6_takesOrder_28 : decode cX6_takesOrder 28 = .ok (.if_icmp .eq 48, 3) := by decide +kernel
theorem dX6_takesOrder_31 : decode cX6_takesOrder 31 = .ok (.aload_n 0, 1) := by decide +kernel
theorem dX6_takesOrder_32 : decode cX6_takesOrder 32 = .ok (.getfield 229, 3) := by decide +kernel
theorem dX6_takesOrder_35 : decode cX6_takesOrder 35 = .ok (.bipush 108, 2) := by decide +kernel
theorem dX6_takesOrder_37 : decode cX6_takesOrder 37 = .ok (.if_icmp .eq 39, 3) := by decide +kernel
theorem dX6_takesOrder_40 : decode cX6_takesOrder 40 = .ok (.aload_n 0, 1) := by decide +kernel
theorem dX6_takesOrder_41 : decode cX6_takesOrder 41 = .ok (.getfield 229, 3) := by decide +kernel
theorem dX6_takesOrder_44 : decode cX6_takesOrder 44 = .ok (.bipush 109, 2) := by decide +kernel
theorem dX6_takesOrder_46 : decode cX6_takesOrder 46 = .ok (.if_icmp .eq 30, 3) := by decide +kernel
theorem dX6_takesOrder_49 : decode cX6_takesOrder 49 = .ok (.aload_n 0, 1) := by decide +kernel
theorem dX6_takesOrder_50 : decode cX6_takesOrder 50 = .ok (.getfield 229, 3) := by decide +kernel
theorem dX6_takesOrder_53 : decode cX6_takesOrder 53 = .ok (.bipush 115, 2) := by decide +kernel
theorem dX6_takesOrder_55 : decode cX6_takesOrder 55 = .ok (.if_icmp .eq 21, 3) := by decide +kernel
theorem dX6_takesOrder_58 : decode cX6_takesOrder 58 = .ok (.aload_n 0, 1) := by decide +kernel
theorem dX6_takesOrder_59 : decode cX6_takesOrder 59 = .ok (.getfield 229, 3) := by decide +kernel
theorem dX6_takesOrder_62 : decode cX6_takesOrder 62 = .ok (.bipush 97, 2) := by decide +kernel
theorem dX6_takesOrder_64 : decode cX6_takesOrder 64 = .ok (.if_icmp .eq 12, 3) := by decide +kernel
theorem dX6_takesOrder_67 : decode cX6_takesOrder 67 = .ok (.aload_n 0, 1) := by decide +kernel
theorem dX6_takesOrder_68 : decode cX6_takesOrder 68 = .ok (.getfield 229, 3) := by decide +kernel
theorem dX6_takesOrder_71 : decode cX6_takesOrder 71 = .ok (.bipush 100, 2) := by decide +kernel
theorem dX6_takesOrder_73 : decode cX6_takesOrder 73 = .ok (.if_icmp .ne 7, 3) := by decide +kernel
theorem dX6_takesOrder_76 : decode cX6_takesOrder 76 = .ok (.iconst 1, 1) := by decide +kernel
theorem dX6_takesOrder_77 : decode cX6_takesOrder 77 = .ok (.goto 4, 3) := by decide +kernel
theorem dX6_takesOrder_80 : decode cX6_takesOrder 80 = .ok (.iconst 0, 1) := by decide +kernel
theorem dX6_takesOrder_81 : decode cX6_takesOrder 81 = .ok (.invokevirtual 232, 3) := by decide +kernel
theorem dX6_takesOrder_84 : decode cX6_takesOrder 84 = .ok (.aload_n 0, 1) := by decide +kernel
theorem dX6_takesOrder_85 : decode cX6_takesOrder 85 = .ok (.getfield 229, 3) := by decide +kernel
theorem dX6_takesOrder_88 : decode cX6_takesOrder 88 = .ok (.bipush 119, 2) := by decide +kernel
theorem dX6_takesOrder_90 : decode cX6_takesOrder 90 = .ok (.if_icmp .ne 7, 3) := by decide +kernel
theorem dX6_takesOrder_93 : decode cX6_takesOrder 93 = .ok (.iconst 3, 1) := by decide +kernel
theorem dX6_takesOrder_94 : decode cX6_takesOrder 94 = .ok (.goto 17, 3) := by decide +kernel
theorem dX6_takesOrder_97 : decode cX6_takesOrder 97 = .ok (.aload_n 0, 1) := by decide +kernel
theorem dX6_takesOrder_98 : decode cX6_takesOrder 98 = .ok (.getfield 229, 3) := by decide +kernel
theorem dX6_takesOrder_101 : decode cX6_takesOrder 101 = .ok (.bipush 115, 2) := by decide +kernel
theorem dX6_takesOrder_103 : decode cX6_takesOrder 103 = .ok (.if_icmp .ne 7, 3) := by decide +kernel
theorem dX6_takesOrder_106 : decode cX6_takesOrder 106 = .ok (.iconst 2, 1) := by decide +kernel
theorem dX6_takesOrder_107 : decode cX6_takesOrder 107 = .ok (.goto 4, 3) := by decide +kernel
theorem dX6_takesOrder_110 : decode cX6_takesOrder 110 = .ok (.iconst 1, 1) := by decide +kernel
theorem dX6_takesOrder_111 : decode cX6_takesOrder 111 = .ok (.istore_n 1, 1) := by decide +kernel
theorem dX6_takesOrder_112 : decode cX6_takesOrder 112 = .ok (.iconst 0, 1) := by decide +kernel
theorem dX6_takesOrder_113 : decode cX6_takesOrder 113 = .ok (.istore_n 2, 1) := by decide +kernel
theorem dX6_takesOrder_114 : decode cX6_takesOrder 114 = .ok (.iload_n 2, 1) := by decide +kernel
theorem dX6_takesOrder_115 : decode cX6_takesOrder 115 = .ok (.iload_n 1, 1) := by decide +kernel
theorem dX6_takesOrder_116 : decode cX6_takesOrder 116 = .ok (.if_icmp .ge 36, 3) := by decide +kernel
theorem dX6_takesOrder_119 : decode cX6_takesOrder 119 = .ok (.iload_n 2, 1) := by decide +kernel
theorem dX6_takesOrder_120 : decode cX6_takesOrder 120 = .ok (.ifCond .le 21, 3) := by decide +kernel
theorem dX6_takesOrder_123 : decode cX6_takesOrder 123 = .ok (.aload_n 0, 1) := by decide +kernel
theorem dX6_takesOrder_124 : decode cX6_takesOrder 124 = .ok (.aload_n 0, 1) := by decide +kernel
theorem dX6_takesOrder_125 : decode cX6_takesOrder 125 = .ok (.invokevirtual 223, 3) := by decide +kernel
theorem dX6_takesOrder_128 : decode cX6_takesOrder 128 = .ok (.bipush 44, 2) := by decide +kernel
theorem dX6_takesOrder_130 : decode cX6_takesOrder 130 = .ok (.if_icmp .ne 7, 3) := by decide +kernel
theorem dX6_takesOrder_133 : decode cX6_takesOrder 133 = .ok (.iconst 1, 1) := by decide +kernel
theorem dX6_takesOrder_134 : decode cX6_takesOrder 134 = .ok (.goto 4, 3) := by decide +kernel
theorem dX6_takesOrder_137 : decode cX6_takesOrder 137 = .ok (.iconst 0, 1) := by decide +kernel
theorem dX6_takesOrder_138 : decode cX6_takesOrder 138 = .ok (.invokevirtual 232, 3) := by decide +kernel
theorem dX6_takesOrder_141 : decode cX6_takesOrder 141 = .ok (.aload_n 0, 1) := by decide +kernel
theorem dX6_takesOrder_142 : decode cX6_takesOrder 142 = .ok (.iload_n 2, 1) := by decide +kernel
theorem dX6_takesOrder_143 : decode cX6_takesOrder 143 = .ok (.invokevirtual 236, 3) := by decide +kernel
theorem dX6_takesOrder_146 : decode cX6_takesOrder 146 = .ok (.iinc 2 1, 3) := by decide +kernel
theorem dX6_takesOrder_149 : decode cX6_takesOrder 149 = .ok (.goto (-35), 3) := by decide +kernel
theorem dX6_takesOrder_152 : decode cX6_takesOrder 152 = .ok (.aload_n 0, 1) := by decide +kernel
theorem dX6_takesOrder_153 : decode cX6_takesOrder 153 = .ok (.aload_n 0, 1) := by decide +kernel
theorem dX6_takesOrder_154 : decode cX6_takesOrder 154 = .ok (.invokevirtual 223, 3) := by decide +kernel
theorem dX6_takesOrder_157 : decode cX6_takesOrder 157 = .ok (.bipush 59, 2) := by decide +kernel
theorem dX6_takesOrder_159 : decode cX6_takesOrder 159 = .ok (.if_icmp .ne 7, 3) := by decide +kernel
theorem dX6_takesOrder_162 : decode cX6_takesOrder 162 = .ok (.iconst 1, 1) := by decide +kernel
theorem dX6_takesOrder_163 : decode cX6_takesOrder 163 = .ok (.goto 4, 3) := by decide +kernel
theorem dX6_takesOrder_166 : decode cX6_takesOrder 166 = .ok (.iconst 0, 1) := by decide +kernel
theorem dX6_takesOrder_167 : decode cX6_takesOrder 167 = .ok (.invokevirtual 232, 3) := by decide +kernel
theorem dX6_takesOrder_170 : decode cX6_takesOrder 170 = .ok (.return_, 1) := by decide +kernel
set_option maxRecDepth 20000 in
theorem ggX6_errorOfOrder_X6_errorWrite : GoodIn wsX6_errorOfOrder wsX6_errorWrite := goodIn_r _ [7, 8, 9, 10, 11, 12, 6, 13, 14, 15, 16, 17, 18, 19, 20, 21, 22, 23, 24, 25, 26, 27, 28, 42, 43, 44, 45, 46, 47, 48, 49, 50, 51, 52, 53, 54, 55, 56, 57, 58, 59] (by decide +kernel) (by decide +kernel)
set_option maxRecDepth 20000 in
theorem gX6_errorOfOrder_X6_errorWrite : GoodIn wsX6_errorOfOrder (wsV RX6 123 RX6 yX6_errorWrite wsX6_errorWrite) := goodIn_app (goodIn_of _ (by decide +kernel)) ggX6_errorOfOrder_X6_errorWrite
set_option maxRecDepth 20000 in
theorem ggX6_errorOfOrder_X6_errorSwap : GoodIn wsX6_errorOfOrder wsX6_errorSwap := goodIn_r _ [32, 8, 9, 10, 11, 12, 6, 13, 14, 15, 16, 17, 21, 22, 23, 24, 25, 26, 27, 28, 42, 43, 44, 45, 46, 47, 48, 49, 50, 51, 52, 53, 54, 55, 56, 57, 58, 59] (by decide +kernel) (by decide +kernel)
set_option maxRecDepth 20000 in
theorem gX6_errorOfOrder_X6_errorSwap : GoodIn wsX6_errorOfOrder (wsV RX6 139 RX6 yX6_errorSwap wsX6_errorSwap) := goodIn_app (goodIn_of _ (by decide +kernel)) ggX6_errorOfOrder_X6_errorSwap
set_option maxRecDepth 20000 in
theorem ggX6_errorOfOrder_X6_errorDays : GoodIn wsX6_errorOfOrder wsX6_errorDays := goodIn_r _ [36, 8, 14, 37, 15, 16, 6, 17, 42, 43, 44, 45, 46, 47, 48, 49, 50, 51, 52, 53, 54, 55, 56, 57, 58, 59] (by decide +kernel) (by decide +kernel)
set_option maxRecDepth 20000 in
theorem gX6_errorOfOrder_X6_errorDays : GoodIn wsX6_errorOfOrder (wsV RX6 145 RX6 yX6_errorDays wsX6_errorDays) := goodIn_app (goodIn_of _ (by decide +kernel)) ggX6_errorOfOrder_X6_errorDays
set_option maxRecDepth 20000 in
theorem ggX6_errorOfOrder_X6_errorOf : GoodIn wsX6_errorOfOrder wsX6_errorOf := goodIn_r _ [41, 8, 9, 10, 11, 12, 6, 13, 14, 15, 16, 17, 21, 22, 23, 24, 25, 26, 27, 28, 42, 43, 44, 45, 46, 47, 48, 49, 50, 51, 52, 53, 54, 55, 56, 57, 58, 59] (by decide +kernel) (by decide +kernel)
set_option maxRecDepth 20000 in
theorem gX6_errorOfOrder_X6_errorOf : GoodIn wsX6_errorOfOrder (wsV RX6 129 RX6 yX6_errorOf wsX6_errorOf) := goodIn_app (goodIn_of _ (by decide +kernel)) ggX6_errorOfOrder_X6_errorOf
theorem dX6_errorOfOrder_0 : decode cX6_errorOfOrder 0 = .ok (.aload_n 0, 1) := by decide +kernel
theorem dX6_errorOfOrder_1 : decode cX6_errorOfOrder 1 = .ok (.getfield 229, 3) := by decide +kernel
theorem dX6_errorOfOrder_4 : decode cX6_errorOfOrder 4 = .ok (.lookupswitch 87 #[(100, 76), (115, 59), (119, 36)], 36) := by decide +kernel
theorem dX6_errorOfOrder_40 : decode cX6_errorOfOrder 40 = .ok (.aload_n 0, 1) := by decide +kernel
theorem dX6_errorOfOrder_41 : decode cX6_errorOfOrder 41 = .ok (.aload_n 0, 1) := by decide +kernel
theorem dX6_errorOfOrder_42 : decode cX6_errorOfOrder 42 = .ok (.getfield 28, 3) := by decide +kernel
theorem dX6_errorOfOrder_45 : decode cX6_errorOfOrder 45 = .ok (.iconst 0, 1) := by decide +kernel
theorem dX6_errorOfOrder_46 : decode cX6_errorOfOrder 46 = .ok (.iaload, 1) := by decide +kernel
theorem dX6_errorOfOrder_47 : decode cX6_errorOfOrder 47 = .ok (.aload_n 0, 1) := by decide +kernel
theorem dX6_errorOfOrder_48 : decode cX6_errorOfOrder 48 = .ok (.getfield 28, 3) := by decide +kernel
theorem dX6_errorOfOrder_51 : decode cX6_errorOfOrder 51 = .ok (.iconst 1, 1) := by decide +kernel
theorem dX6_errorOfOrder_52 : decode cX6_errorOfOrder 52 = .ok (.iaload, 1) := by decide +kernel
theorem dX6_errorOfOrder_53 : decode cX6_errorOfOrder 53 = .ok (.aload_n 0, 1) := by decide +kernel
theorem dX6_errorOfOrder_54 : decode cX6_errorOfOrder 54 = .ok (.getfield 28, 3) := by decide +kernel
theorem dX6_errorOfOrder_57 : decode cX6_errorOfOrder 57 = .ok (.iconst 2, 1) := by decide +kernel
theorem dX6_errorOfOrder_58 : decode cX6_errorOfOrder 58 = .ok (.iaload, 1) := by decide +kernel
theorem dX6_errorOfOrder_59 : decode cX6_errorOfOrder 59 = .ok (.invokevirtual 123, 3) := by decide +kernel
theorem dX6_errorOfOrder_62 : decode cX6_errorOfOrder 62 = .ok (.ireturn, 1) := by decide +kernel
theorem dX6_errorOfOrder_63 : decode cX6_errorOfOrder 63 = .ok (.aload_n 0, 1) := by decide +kernel
theorem dX6_errorOfOrder_64 : decode cX6_errorOfOrder 64 = .ok (.aload_n 0, 1) := by decide +kernel
theorem dX6_errorOfOrder_65 : decode cX6_errorOfOrder 65 = .ok (.getfield 28, 3) := by decide +kernel
theorem dX6_errorOfOrder_68 : decode cX6_errorOfOrder 68 = .ok (.iconst 0, 1) := by decide +kernel
theorem dX6_errorOfOrder_69 : decode cX6_errorOfOrder 69 = .ok (.iaload, 1) := by decide +kernel
theorem dX6_errorOfOrder_70 : decode cX6_errorOfOrder 70 = .ok (.aload_n 0, 1) := by decide +kernel
theorem dX6_errorOfOrder_71 : decode cX6_errorOfOrder 71 = .ok (.getfield 28, 3) := by decide +kernel
theorem dX6_errorOfOrder_74 : decode cX6_errorOfOrder 74 = .ok (.iconst 1, 1) := by decide +kernel
theorem dX6_errorOfOrder_75 : decode cX6_errorOfOrder 75 = .ok (.iaload, 1) := by decide +kernel
theorem dX6_errorOfOrder_76 : decode cX6_errorOfOrder 76 = .ok (.invokevirtual 139, 3) := by decide +kernel
theorem dX6_errorOfOrder_79 : decode cX6_errorOfOrder 79 = .ok (.ireturn, 1) := by decide +kernel
theorem dX6_errorOfOrder_80 : decode cX6_errorOfOrder 80 = .ok (.aload_n 0, 1) := by decide +kernel
theorem dX6_errorOfOrder_81 : decode cX6_errorOfOrder 81 = .ok (.aload_n 0, 1) := by decide +kernel
theorem dX6_errorOfOrder_82 : decode cX6_errorOfOrder 82 = .ok (.getfield 28, 3) := by decide +kernel
theorem dX6_errorOfOrder_85 : decode cX6_errorOfOrder 85 = .ok (.iconst 0, 1) := by decide +kernel
theorem dX6_errorOfOrder_86 : decode cX6_errorOfOrder 86 = .ok (.iaload, 1) := by decide +kernel
theorem dX6_errorOfOrder_87 : decode cX6_errorOfOrder 87 = .ok (.invokevirtual 145, 3) := by decide +kernel
theorem dX6_errorOfOrder_90 : decode cX6_errorOfOrder 90 = .ok (.ireturn, 1) := by decide +kernel
theorem dX6_errorOfOrder_91 : decode cX6_errorOfOrder 91 = .ok (.aload_n 0, 1) := by decide +kernel
theorem dX6_errorOfOrder_92 : decode cX6_errorOfOrder 92 = .ok (.aload_n 0, 1) := by decide +kernel
theorem dX6_errorOfOrder_93 : decode cX6_errorOfOrder 93 = .ok (.getfield 28, 3) := by decide +kernel
theorem dX6_errorOfOrder_96 : decode cX6_errorOfOrder 96 = .ok (.iconst 0, 1) := by decide +kernel
theorem dX6_errorOfOrder_97 : decode cX6_errorOfOrder 97 = .ok (.iaload, 1) := by decide +kernel
theorem dX6_errorOfOrder_98 : decode cX6_errorOfOrder 98 = .ok (.aload_n 0, 1) := by decide +kernel
theorem dX6_errorOfOrder_99 : decode cX6_errorOfOrder 99 = .ok (.getfield 229, 3) := by decide +kernel
theorem dX6_errorOfOrder_102 : decode cX6_errorOfOrder 102 = .ok (.bipush 109, 2) := by decide +kernel
theorem dX6_errorOfOrder_104 : decode cX6_errorOfOrder 104 = .ok (.if_icmp .eq 7, 3) := by decide +kernel
theorem dX6_errorOfOrder_107 : decode cX6_errorOfOrder 107 = .ok (.iconst 1, 1) := by decide +kernel
theorem dX6_errorOfOrder_108 : decode cX6_errorOfOrder 108 = .ok (.goto 4, 3) := by decide +kernel
theorem dX6_errorOfOrder_111 : decode cX6_errorOfOrder 111 = .ok (.iconst 0, 1) := by decide +kernel
theorem dX6_errorOfOrder_112 : decode cX6_errorOfOrder 112 = .ok (.invokevirtual 129, 3) := by decide +kernel
theorem dX6_errorOfOrder_115 : decode cX6_errorOfOrder 115 = .ok (.ireturn, 1) := by decide +kernel
set_option maxRecDepth 20000 in
theorem ggX6_doesOrder_X6_goWrite : GoodIn wsX6_doesOrder wsX6_goWrite := goodIn_r _ [8, 3, 9, 10, 11, 7, 12, 13, 14, 15, 16, 17, 18, 19, 20, 21, 22, 23, 24, 25, 26, 27, 28, 29, 30, 31, 32, 33, 34, 35, 36, 37, 38, 39, 40, 41, 42, 43, 44, 45, 46, 47, 48, 49, 50, 51, 52, 53, 54, 55, 56, 57, 98, 99, 100, 101, 102, 103, 104, 105, 106, 107, 108, 109, 110, 111, 112, 113, 114, 115] (by decide +kernel) (by decide +kernel)
set_option maxRecDepth 20000 in
theorem gX6_doesOrder_X6_goWrite : GoodIn wsX6_doesOrder (wsV RX6 126 RX6 yX6_goWrite wsX6_goWrite) := goodIn_app (goodIn_of _ (by decide +kernel)) ggX6_doesOrder_X6_goWrite
set_option maxRecDepth 20000 in
theorem ggX6_doesOrder_X6_goSwap : GoodIn wsX6_doesOrder wsX6_goSwap := goodIn_r _ [61, 3, 25, 26, 27, 7, 28, 9, 10, 11, 12, 98, 99, 100, 101, 102, 103, 104, 105, 106, 107, 108, 109, 110, 111, 112, 113, 114, 115] (by decide +kernel) (by decide +kernel)
set_option maxRecDepth 20000 in
theorem gX6_doesOrder_X6_goSwap : GoodIn wsX6_doesOrder (wsV RX6 142 RX6 yX6_goSwap wsX6_goSwap) := goodIn_app (goodIn_of _ (by decide +kernel)) ggX6_doesOrder_X6_goSwap
set_option maxRecDepth 20000 in
theorem ggX6_doesOrder_X6_goLose : GoodIn wsX6_doesOrder wsX6_goLose := goodIn_r _ [65, 3, 66, 67, 68, 7, 69, 38, 39, 40, 41, 25, 26, 27, 28, 70, 71, 72, 73, 74, 75, 76, 77, 33, 17, 18, 19, 20, 21, 22, 23, 24, 29, 30, 31, 32, 34, 35, 36, 37, 42, 43, 44, 45, 46, 47, 48, 49, 78, 79, 80, 81, 82, 83, 84, 85, 9, 10, 11, 12, 54, 55, 56, 57, 98, 99, 100, 101, 102, 103, 104, 105, 106, 107, 108, 109, 110, 111, 112, 113, 114, 115] (by decide +kernel) (by decide +kernel)
set_option maxRecDepth 20000 in
theorem gX6_doesOrder_X6_goLose : GoodIn wsX6_doesOrder (wsV RX6 133 RX6 yX6_goLose wsX6_goLose) := goodIn_app (goodIn_of _ (by decide +kernel)) ggX6_doesOrder_X6_goLose
set_option maxRecDepth 20000 in
theorem ggX6_doesOrder_X6_goMend : GoodIn wsX6_doesOrder wsX6_goMend := goodIn_r _ [89, 3, 66, 67, 68, 7, 69, 38, 39, 40, 41, 25, 26, 27, 28, 70, 71, 72, 73, 74, 75, 76, 77, 33, 17, 18, 19, 20, 21, 22, 23, 24, 29, 30, 31, 32, 34, 35, 36, 37, 42, 43, 44, 45, 46, 47, 48, 49, 78, 79, 80, 81, 82, 83, 84, 85, 90, 91, 92, 93, 9, 10, 11, 12, 94, 95, 96, 97, 13, 14, 15, 16, 50, 51, 52, 53, 54, 55, 56, 57, 98, 99, 100, 101, 102, 103, 104, 105, 106, 107, 108, 109, 110, 111, 112, 113, 114, 115] (by decide +kernel) (by decide +kernel)
set_option maxRecDepth 20000 in
theorem gX6_doesOrder_X6_goMend : GoodIn wsX6_doesOrder (wsV RX6 136 RX6 yX6_goMend wsX6_goMend) := goodIn_app (goodIn_of _ (by decide +kernel)) ggX6_doesOrder_X6_goMend
set_option maxRecDepth 20000 in
theorem ggX6_doesOrder_X6_laysRow : GoodIn wsX6_doesOrder wsX6_laysRow := goodIn_r _ [97, 13, 14, 15, 7, 16, 3, 17, 18, 19, 20, 21, 22, 23, 24, 25, 26, 27, 28, 29, 30, 31, 32, 33, 34, 35, 36, 37, 38, 39, 40, 41, 42, 43, 44, 45, 46, 47, 48, 49, 50, 51, 52, 53, 9, 10, 11, 12, 54, 55, 56, 57, 98, 99, 100, 101, 102, 103, 104, 105, 106, 107, 108, 109, 110, 111, 112, 113, 114, 115] (by decide +kernel) (by decide +kernel)
set_option maxRecDepth 20000 in
theorem gX6_doesOrder_X6_laysRow : GoodIn wsX6_doesOrder (wsV RX6 102 RX6 yX6_laysRow wsX6_laysRow) := goodIn_app (goodIn_of _ (by decide +kernel)) ggX6_doesOrder_X6_laysRow
theorem dX6_doesOrder_0 : decode cX6_doesOrder 0 = .ok (.iconst 0, 1) := by decide +kernel
theorem dX6_doesOrder_1 : decode cX6_doesOrder 1 = .ok (.istore_n 1, 1) := by decide +kernel
theorem dX6_doesOrder_2 : decode cX6_doesOrder 2 = .ok (.aload_n 0, 1) := by decide +kernel
theorem dX6_doesOrder_3 : decode cX6_doesOrder 3 = .ok (.getfield 229, 3) := by decide +kernel
theorem dX6_doesOrder_6 : decode cX6_doesOrder 6 = .ok (.lookupswitch 142 #[(100, 96), (108, 114), (109, 128), (115, 76), (119, 50)], 50) := by decide +kernel
theorem dX6_doesOrder_56 : decode cX6_doesOrder 56 = .ok (.aload_n 0, 1) := by decide +kernel
theorem dX6_doesOrder_57 : decode cX6_doesOrder 57 = .ok (.aload_n 0, 1) := by decide +kernel
theorem dX6_doesOrder_58 : decode cX6_doesOrder 58 = .ok (.getfield 28, 3) := by decide +kernel
theorem dX6_doesOrder_61 : decode cX6_doesOrder 61 = .ok (.iconst 0, 1) := by decide +kernel
theorem dX6_doesOrder_62 : decode cX6_doesOrder 62 = .ok (.iaload, 1) := by decide +kernel
theorem dX6_doesOrder_63 : decode cX6_doesOrder 63 = .ok (.aload_n 0, 1) := by decide +kernel
theorem dX6_doesOrder_64 : decode cX6_doesOrder 64 = .ok (.getfield 28, 3) := by decide +kernel
theorem dX6_doesOrder_67 : decode cX6_doesOrder 67 = .ok (.iconst 1, 1) := by decide +kernel
theorem dX6_doesOrder_68 : decode cX6_doesOrder 68 = .ok (.iaload, 1) := by decide +kernel
theorem dX6_doesOrder_69 : decode cX6_doesOrder 69 = .ok (.aload_n 0, 1) := by decide +kernel
theorem dX6_doesOrder_70 : decode cX6_doesOrder 70 = .ok (.getfield 28, 3) := by decide +kernel
theorem dX6_doesOrder_73 : decode cX6_doesOrder 73 = .ok (.iconst 2, 1) := by decide +kernel
theorem dX6_doesOrder_74 : decode cX6_doesOrder 74 = .ok (.iaload, 1) := by decide +kernel
theorem dX6_doesOrder_75 : decode cX6_doesOrder 75 = .ok (.invokevirtual 126, 3) := by decide +kernel
theorem dX6_doesOrder_78 : decode cX6_doesOrder 78 = .ok (.istore_n 1, 1) := by decide +kernel
theorem dX6_doesOrder_79 : decode cX6_doesOrder 79 = .ok (.goto 80, 3) := by decide +kernel
theorem dX6_doesOrder_82 : decode cX6_doesOrder 82 = .ok (.aload_n 0, 1) := by decide +kernel
theorem dX6_doesOrder_83 : decode cX6_doesOrder 83 = .ok (.aload_n 0, 1) := by decide +kernel
theorem dX6_doesOrder_84 : decode cX6_doesOrder 84 = .ok (.getfield 28, 3) := by decide +kernel
theorem dX6_doesOrder_87 : decode cX6_doesOrder 87 = .ok (.iconst 0, 1) := by decide +kernel
theorem dX6_doesOrder_88 : decode cX6_doesOrder 88 = .ok (.iaload, 1) := by decide +kernel
theorem dX6_doesOrder_89 : decode cX6_doesOrder 89 = .ok (.aload_n 0, 1) := by decide +kernel
theorem dX6_doesOrder_90 : decode cX6_doesOrder 90 = .ok (.getfield 28, 3) := by decide +kernel
theorem dX6_doesOrder_93 : decode cX6_doesOrder 93 = .ok (.iconst 1, 1) := by decide +kernel
theorem dX6_doesOrder_94 : decode cX6_doesOrder 94 = .ok (.iaload, 1) := by decide +kernel
theorem dX6_doesOrder_95 : decode cX6_doesOrder 95 = .ok (.invokevirtual 142, 3) := by decide +kernel
theorem dX6_doesOrder_98 : decode cX6_doesOrder 98 = .ok (.istore_n 1, 1) := by decide +kernel
theorem dX6_doesOrder_99 : decode cX6_doesOrder 99 = .ok (.goto 60, 3) := by decide +kernel
theorem dX6_doesOrder_102 : decode cX6_doesOrder 102 = .ok (.aload_n 0, 1) := by decide +kernel
theorem dX6_doesOrder_103 : decode cX6_doesOrder 103 = .ok (.getfield 7, 3) := by decide +kernel
theorem dX6_doesOrder_106 : decode cX6_doesOrder 106 = .ok (.iconst 1, 1) := by decide +kernel
theorem dX6_doesOrder_107 : decode cX6_doesOrder 107 = .ok (.dup2, 1) := by decide +kernel
theorem dX6_doesOrder_108 : decode cX6_doesOrder 108 = .ok (.iaload, 1) := by decide +kernel
theorem dX6_doesOrder_109 : decode cX6_doesOrder 109 = .ok (.aload_n 0, 1) := by decide +kernel
theorem dX6_doesOrder_110 : decode cX6_doesOrder 110 = .ok (.getfield 28, 3) := by decide +kernel
theorem dX6_doesOrder_113 : decode cX6_doesOrder 113 = .ok (.iconst 0, 1) := by decide +kernel
theorem dX6_doesOrder_114 : decode cX6_doesOrder 114 = .ok (.iaload, 1) := by decide +kernel
theorem dX6_doesOrder_115 : decode cX6_doesOrder 115 = .ok (.iadd, 1) := by decide +kernel
theorem dX6_doesOrder_116 : decode cX6_doesOrder 116 = .ok (.iastore, 1) := by decide +kernel
theorem dX6_doesOrder_117 : decode cX6_doesOrder 117 = .ok (.goto 42, 3) := by decide +kernel
theorem dX6_doesOrder_120 : decode cX6_doesOrder 120 = .ok (.aload_n 0, 1) := by decide +kernel
theorem dX6_doesOrder_121 : decode cX6_doesOrder 121 = .ok (.aload_n 0, 1) := by decide +kernel
theorem dX6_doesOrder_122 : decode cX6_doesOrder 122 = .ok (.getfield 28, 3) := by decide +kernel
theorem dX6_doesOrder_125 : decode cX6_doesOrder 125 = .ok (.iconst 0, 1) := by decide +kernel
theorem dX6_doesOrder_126 : decode cX6_doesOrder 126 = .ok (.iaload, 1) := by decide +kernel
theorem dX6_doesOrder_127 : decode cX6_doesOrder 127 = .ok (.invokevirtual 133, 3) := by decide +kernel
theorem dX6_doesOrder_130 : decode cX6_doesOrder 130 = .ok (.istore_n 1, 1) := by decide +kernel
theorem dX6_doesOrder_131 : decode cX6_doesOrder 131 = .ok (.goto 28, 3) := by decide +kernel
theorem dX6_doesOrder_134 : decode cX6_doesOrder 134 = .ok (.aload_n 0, 1) := by decide +kernel
theorem dX6_doesOrder_135 : decode cX6_doesOrder 135 = .ok (.aload_n 0, 1) := by decide +kernel
theorem dX6_doesOrder_136 : decode cX6_doesOrder 136 = .ok (.getfield 28, 3) := by decide +kernel
theorem dX6_doesOrder_139 : decode cX6_doesOrder 139 = .ok (.iconst 0, 1) := by decide +kernel
theorem dX6_doesOrder_140 : decode cX6_doesOrder 140 = .ok (.iaload, 1) := by decide +kernel
theorem dX6_doesOrder_141 : decode cX6_doesOrder 141 = .ok (.invokevirtual 136, 3) := by decide +kernel
theorem dX6_doesOrder_144 : decode cX6_doesOrder 144 = .ok (.istore_n 1, 1) := by decide +kernel
theorem dX6_doesOrder_145 : decode cX6_doesOrder 145 = .ok (.goto 14, 3) := by decide +kernel
theorem dX6_doesOrder_148 : decode cX6_doesOrder 148 = .ok (.aload_n 0, 1) := by decide +kernel
theorem dX6_doesOrder_149 : decode cX6_doesOrder 149 = .ok (.aload_n 0, 1) := by decide +kernel
theorem dX6_doesOrder_150 : decode cX6_doesOrder 150 = .ok (.getfield 28, 3) := by decide +kernel
theorem dX6_doesOrder_153 : decode cX6_doesOrder 153 = .ok (.iconst 0, 1) := by decide +kernel
theorem dX6_doesOrder_154 : decode cX6_doesOrder 154 = .ok (.iaload, 1) := by decide +kernel
theorem dX6_doesOrder_155 : decode cX6_doesOrder 155 = .ok (.invokevirtual 102, 3) := by decide +kernel
theorem dX6_doesOrder_158 : decode cX6_doesOrder 158 = .ok (.istore_n 1, 1) := by decide +kernel
theorem dX6_doesOrder_159 : decode cX6_doesOrder 159 = .ok (.return_, 1) := by decide +kernel
set_option maxRecDepth 20000 in
theorem ggX6_doesAll_X6_takesOrder : GoodIn wsX6_doesAll wsX6_takesOrder := goodIn_r _ [11, 2, 5, 4, 12, 13, 14, 15, 10, 16, 3, 17, 18, 19, 20, 21, 22, 23, 24, 25, 26, 27, 28, 29, 158, 159, 160, 161, 162, 163, 164, 165, 166, 167, 168, 169, 170, 171, 172, 173, 174, 175] (by decide +kernel) (by decide +kernel)
set_option maxRecDepth 20000 in
theorem gX6_doesAll_X6_takesOrder : GoodIn wsX6_doesAll (wsV RX6 243 RX6 yX6_takesOrder wsX6_takesOrder) := goodIn_app (goodIn_of _ (by decide +kernel)) ggX6_doesAll_X6_takesOrder
set_option maxRecDepth 20000 in
theorem ggX6_doesAll_X6_errorOfOrder : GoodIn wsX6_doesAll wsX6_errorOfOrder := goodIn_r _ [33, 12, 26, 34, 35, 36, 10, 37, 38, 39, 40, 41, 42, 43, 44, 27, 28, 29, 45, 46, 47, 48, 49, 50, 51, 52, 53, 54, 55, 56, 57, 58, 59, 60, 61, 62, 63, 64, 65, 66, 67, 68, 158, 159, 160, 161, 162, 163, 164, 165, 166, 167, 168, 169, 170, 171, 172, 173, 174, 175] (by decide +kernel) (by decide +kernel)
set_option maxRecDepth 20000 in
theorem gX6_doesAll_X6_errorOfOrder : GoodIn wsX6_doesAll (wsV RX6 246 RX6 yX6_errorOfOrder wsX6_errorOfOrder) := goodIn_app (goodIn_of _ (by decide +kernel)) ggX6_doesAll_X6_errorOfOrder
set_option maxRecDepth 20000 in
theorem ggX6_doesAll_X6_doesOrder : GoodIn wsX6_doesAll wsX6_doesOrder := goodIn_r _ [72, 12, 26, 44, 73, 74, 75, 10, 76, 77, 78, 79, 80, 81, 82, 83, 84, 85, 86, 87, 88, 89, 90, 91, 92, 52, 53, 54, 55, 93, 94, 95, 96, 97, 98, 99, 100, 101, 48, 49, 50, 51, 102, 103, 104, 105, 106, 107, 108, 109, 110, 111, 112, 113, 114, 115, 116, 117, 118, 119, 120, 121, 122, 123, 124, 125, 126, 127, 128, 129, 130, 131, 132, 133, 134, 135, 136, 137, 138, 139, 140, 141, 142, 143, 144, 145, 146, 147, 148, 149, 150, 151, 152, 153, 154, 155, 156, 157, 158, 159, 160, 161, 162, 163, 164, 165, 166, 167, 168, 169, 170, 171, 172, 173, 174, 175] (by decide +kernel) (by decide +kernel)
set_option maxRecDepth 20000 in
theorem gX6_doesAll_X6_doesOrder : GoodIn wsX6_doesAll (wsV RX6 252 RX6 yX6_doesOrder wsX6_doesOrder) := goodIn_app (goodIn_of _ (by decide +kernel)) ggX6_doesAll_X6_doesOrder
theorem dX6_doesAll_0 : decode cX6_doesAll 0 = .ok (.iconst 0, 1) := by decide +kernel
theorem dX6_doesAll_1 : decode cX6_doesAll 1 = .ok (.istore_n 1, 1) := by decide +kernel
theorem dX6_doesAll_2 : decode cX6_doesAll 2 = .ok (.aload_n 0, 1) := by decide +kernel
theorem dX6_doesAll_3 : decode cX6_doesAll 3 = .ok (.iconst 0, 1) := by decide +kernel
theorem dX6_doesAll_4 : decode cX6_doesAll 4 = .ok (.putfield 240, 3) := by decide +kernel
theorem dX6_doesAll_7 : decode cX6_doesAll 7 = .ok (.aload_n 0, 1) := by decide +kernel
theorem dX6_doesAll_8 : decode cX6_doesAll 8 = .ok (.iconst 0, 1) := by decide +kernel
theorem dX6_doesAll_9 : decode cX6_doesAll 9 = .ok (.putfield 216, 3) := by decide +kernel
theorem dX6_doesAll_12 : decode cX6_doesAll 12 = .ok (.aload_n 0, 1) := by decide +kernel
theorem dX6_doesAll_13 : decode cX6_doesAll 13 = .ok (.getfield 240, 3) := by decide +kernel
theorem dX6_doesAll_16 : decode cX6_doesAll 16 = .ok (.ifCond .ne 98, 3) := by decide +kernel
theorem dX6_doesAll_19 : decode cX6_doesAll 19 = .ok (.aload_n 0, 1) := by decide +kernel
theorem dX6_doesAll_20 : decode cX6_doesAll 20 = .ok (.getfield 216, 3) := by decide +kernel
theorem dX6_doesAll_23 : decode cX6_doesAll 23 = .ok (.aload_n 0, 1) := by decide +kernel
theorem dX6_doesAll_24 : decode cX6_doesAll 24 = .ok (.getfield 213, 3) := by decide +kernel
theorem dX6_doesAll_27 : decode cX6_doesAll 27 = .ok (.if_icmp .ge 87, 3) := by decide +kernel
theorem dX6_doesAll_30 : decode cX6_doesAll 30 = .ok (.aload_n 0, 1) := by decide +kernel
theorem dX6_doesAll_31 : decode cX6_doesAll 31 = .ok (.invokevirtual 243, 3) := by decide +kernel
theorem dX6_doesAll_34 : decode cX6_doesAll 34 = .ok (.aload_n 0, 1) := by decide +kernel
theorem dX6_doesAll_35 : decode cX6_doesAll 35 = .ok (.getfield 219, 3) := by decide +kernel
theorem dX6_doesAll_38 : decode cX6_doesAll 38 = .ok (.ifCond .eq 10, 3) := by decide +kernel
theorem dX6_doesAll_41 : decode cX6_doesAll 41 = .ok (.aload_n 0, 1) := by decide +kernel
theorem dX6_doesAll_42 : decode cX6_doesAll 42 = .ok (.invokevirtual 246, 3) := by decide +kernel
theorem dX6_doesAll_45 : decode cX6_doesAll 45 = .ok (.goto 4, 3) := by decide +kernel
theorem dX6_doesAll_48 : decode cX6_doesAll 48 = .ok (.iconst 0, 1) := by decide +kernel
theorem dX6_doesAll_49 : decode cX6_doesAll 49 = .ok (.istore_n 2, 1) := by decide +kernel
theorem dX6_doesAll_50 : decode cX6_doesAll 50 = .ok (.aload_n 0, 1) := by decide +kernel
theorem dX6_doesAll_51 : decode cX6_doesAll 51 = .ok (.getfield 219, 3) := by decide +kernel
theorem dX6_doesAll_54 : decode cX6_doesAll 54 = .ok (.ifCond .eq 7, 3) := by decide +kernel
theorem dX6_doesAll_57 : decode cX6_doesAll 57 = .ok (.iload_n 2, 1) := by decide +kernel
theorem dX6_doesAll_58 : decode cX6_doesAll 58 = .ok (.ifCond .ge 46, 3) := by decide +kernel
theorem dX6_doesAll_61 : decode cX6_doesAll 61 = .ok (.aload_n 0, 1) := by decide +kernel
theorem dX6_doesAll_62 : decode cX6_doesAll 62 = .ok (.aload_n 0, 1) := by decide +kernel
theorem dX6_doesAll_63 : decode cX6_doesAll 63 = .ok (.getfield 219, 3) := by decide +kernel
theorem dX6_doesAll_66 : decode cX6_doesAll 66 = .ok (.ifCond .eq 7, 3) := by decide +kernel
theorem dX6_doesAll_69 : decode cX6_doesAll 69 = .ok (.iconst 2, 1) := by decide +kernel
theorem dX6_doesAll_70 : decode cX6_doesAll 70 = .ok (.goto 4, 3) := by decide +kernel
theorem dX6_doesAll_73 : decode cX6_doesAll 73 = .ok (.iconst 1, 1) := by decide +kernel
theorem dX6_doesAll_74 : decode cX6_doesAll 74 = .ok (.putfield 240, 3) := by decide +kernel
theorem dX6_doesAll_77 : decode cX6_doesAll 77 = .ok (.aload_n 0, 1) := by decide +kernel
theorem dX6_doesAll_78 : decode cX6_doesAll 78 = .ok (.aload_n 0, 1) := by decide +kernel
theorem dX6_doesAll_79 : decode cX6_doesAll 79 = .ok (.getfield 219, 3) := by decide +kernel
theorem dX6_doesAll_82 : decode cX6_doesAll 82 = .ok (.ifCond .eq 7, 3) := by decide +kernel
theorem dX6_doesAll_85 : decode cX6_doesAll 85 = .ok (.iload_n 2, 1) := by decide +kernel
theorem dX6_doesAll_86 : decode cX6_doesAll 86 = .ok (.goto 12, 3) := by decide +kernel
theorem dX6_doesAll_89 : decode cX6_doesAll 89 = .ok (.aload_n 0, 1) := by decide +kernel
theorem dX6_doesAll_90 : decode cX6_doesAll 90 = .ok (.getfield 216, 3) := by decide +kernel
theorem dX6_doesAll_93 : decode cX6_doesAll 93 = .ok (.aload_n 0, 1) := by decide +kernel
theorem dX6_doesAll_94 : decode cX6_doesAll 94 = .ok (.getfield 226, 3) := by decide +kernel
theorem dX6_doesAll_97 : decode cX6_doesAll 97 = .ok (.isub, 1) := by decide +kernel
theorem dX6_doesAll_98 : decode cX6_doesAll 98 = .ok (.putfield 249, 3) := by decide +kernel
theorem dX6_doesAll_101 : decode cX6_doesAll 101 = .ok (.goto 10, 3) := by decide +kernel
theorem dX6_doesAll_104 : decode cX6_doesAll 104 = .ok (.aload_n 0, 1) := by decide +kernel
theorem dX6_doesAll_105 : decode cX6_doesAll 105 = .ok (.invokevirtual 252, 3) := by decide +kernel
theorem dX6_doesAll_108 : decode cX6_doesAll 108 = .ok (.iinc 1 1, 3) := by decide +kernel
theorem dX6_doesAll_111 : decode cX6_doesAll 111 = .ok (.goto (-99), 3) := by decide +kernel
theorem dX6_doesAll_114 : decode cX6_doesAll 114 = .ok (.iload_n 1, 1) := by decide +kernel
theorem dX6_doesAll_115 : decode cX6_doesAll 115 = .ok (.ireturn, 1) := by decide +kernel
set_option maxRecDepth 20000 in
theorem ggX6_fault_X6_in : GoodIn wsX6_fault wsX6_in := goodIn_r _ [11] (by decide +kernel) (by decide +kernel)
set_option maxRecDepth 20000 in
theorem gX6_fault_X6_in : GoodIn wsX6_fault (va_wsS RX6 43 yX6_in wsX6_in) := goodIn_app (goodIn_of _ (by decide +kernel)) ggX6_fault_X6_in
set_option maxRecDepth 20000 in
theorem ggX6_fault_X6_copies : GoodIn wsX6_fault wsX6_copies := goodIn_r _ [14] (by decide +kernel) (by decide +kernel)
set_option maxRecDepth 20000 in
theorem gX6_fault_X6_copies : GoodIn wsX6_fault (va_wsS RX6 39 yX6_copies wsX6_copies) := goodIn_app (goodIn_of _ (by decide +kernel)) ggX6_fault_X6_copies
set_option maxRecDepth 20000 in
theorem ggX6_fault_X6_doesAll : GoodIn wsX6_fault wsX6_doesAll := goodIn_r _ [18, 4, 19, 20, 21, 6, 7, 22, 23, 24, 10, 25, 26, 27, 28, 29, 30, 31, 32, 33, 34, 35, 36, 37, 38, 39, 40, 8, 9, 11, 41, 42, 43, 44, 45, 46, 47, 48, 1, 49, 50, 51, 52, 53, 2, 54, 55, 56, 57, 58, 59, 60, 61, 62, 63, 64, 65, 66, 67, 68, 69, 70, 71, 72, 73, 74, 75, 76, 77, 78, 79, 80, 81, 82, 83, 84, 85, 86, 87, 88, 89, 90, 91, 92, 93, 94, 95, 96, 97, 98, 99, 100, 101, 102, 103, 104, 105, 5, 106, 107, 108, 109, 110, 111, 112, 113, 114, 115, 116, 117, 118, 119, 120, 121, 122, 123, 124, 125, 126, 127, 128, 129, 130, 131, 132, 133, 134, 135, 136, 137, 138, 139, 140, 141, 142, 143, 144, 145, 146, 147, 148, 149, 150, 151, 152, 153, 154, 155, 156, 157, 158, 159, 160, 161, 162, 163, 164, 165, 166, 167, 168, 169, 170, 171, 172, 173, 174, 175, 176, 177, 178, 179, 180, 181, 182, 183] (by decide +kernel) (by decide +kernel)
set_option maxRecDepth 20000 in
theorem gX6_fault_X6_doesAll : GoodIn wsX6_fault (wsV RX6 255 RX6 yX6_doesAll wsX6_doesAll) := goodIn_app (goodIn_of _ (by decide +kernel)) ggX6_fault_X6_doesAll
theorem dX6_fault_0 : decode cX6_fault 0 = .ok (.iload_n 1, 1) := by decide +kernel
theorem dX6_fault_1 : decode cX6_fault 1 = .ok (.iconst 0, 1) := by decide +kernel
theorem dX6_fault_2 : decode cX6_fault 2 = .ok (.iconst 2, 1) := by decide +kernel
theorem dX6_fault_3 : decode cX6_fault 3 = .ok (.invokestatic 43, 3) := by decide +kernel
theorem dX6_fault_6 : decode cX6_fault 6 = .ok (.ifCond .ne 6, 3) := by decide +kernel
theorem dX6_fault_9 : decode cX6_fault 9 = .ok (.ldc 114, 2) := by decide +kernel
theorem dX6_fault_11 : decode cX6_fault 11 = .ok (.ireturn, 1) := by decide +kernel
theorem dX6_fault_12 : decode cX6_fault 12 = .ok (.aload_n 0, 1) := by decide +kernel
theorem dX6_fault_13 : decode cX6_fault 13 = .ok (.getfield 7, 3) := by decide +kernel
theorem dX6_fault_16 : decode cX6_fault 16 = .ok (.iconst 0, 1) := by decide +kernel
theorem dX6_fault_17 : decode cX6_fault 17 = .ok (.aload_n 0, 1) := by decide +kernel
theorem dX6_fault_18 : decode cX6_fault 18 = .ok (.getfield 16, 3) := by decide +kernel
theorem dX6_fault_21 : decode cX6_fault 21 = .ok (.iconst 0, 1) := by decide +kernel
theorem dX6_fault_22 : decode cX6_fault 22 = .ok (.invokestatic 39, 3) := by decide +kernel
theorem dX6_fault_25 : decode cX6_fault 25 = .ok (.aload_n 0, 1) := by decide +kernel
theorem dX6_fault_26 : decode cX6_fault 26 = .ok (.invokevirtual 255, 3) := by decide +kernel
theorem dX6_fault_29 : decode cX6_fault 29 = .ok (.istore_n 2, 1) := by decide +kernel
theorem dX6_fault_30 : decode cX6_fault 30 = .ok (.aload_n 0, 1) := by decide +kernel
theorem dX6_fault_31 : decode cX6_fault 31 = .ok (.getfield 16, 3) := by decide +kernel
theorem dX6_fault_34 : decode cX6_fault 34 = .ok (.iconst 0, 1) := by decide +kernel
theorem dX6_fault_35 : decode cX6_fault 35 = .ok (.aload_n 0, 1) := by decide +kernel
theorem dX6_fault_36 : decode cX6_fault 36 = .ok (.getfield 7, 3) := by decide +kernel
theorem dX6_fault_39 : decode cX6_fault 39 = .ok (.iconst 0, 1) := by decide +kernel
theorem dX6_fault_40 : decode cX6_fault 40 = .ok (.invokestatic 39, 3) := by decide +kernel
theorem dX6_fault_43 : decode cX6_fault 43 = .ok (.aload_n 0, 1) := by decide +kernel
theorem dX6_fault_44 : decode cX6_fault 44 = .ok (.getfield 240, 3) := by decide +kernel
theorem dX6_fault_47 : decode cX6_fault 47 = .ok (.ifCond .ne 8, 3) := by decide +kernel
theorem dX6_fault_50 : decode cX6_fault 50 = .ok (.ldc 51, 2) := by decide +kernel
theorem dX6_fault_52 : decode cX6_fault 52 = .ok (.goto 30, 3) := by decide +kernel
theorem dX6_fault_55 : decode cX6_fault 55 = .ok (.iload_n 1, 1) := by decide +kernel
theorem dX6_fault_56 : decode cX6_fault 56 = .ok (.ifCond .ne 10, 3) := by decide +kernel
theorem dX6_fault_59 : decode cX6_fault 59 = .ok (.aload_n 0, 1) := by decide +kernel
theorem dX6_fault_60 : decode cX6_fault 60 = .ok (.getfield 226, 3) := by decide +kernel
theorem dX6_fault_63 : decode cX6_fault 63 = .ok (.goto 19, 3) := by decide +kernel
theorem dX6_fault_66 : decode cX6_fault 66 = .ok (.iload_n 1, 1) := by decide +kernel
theorem dX6_fault_67 : decode cX6_fault 67 = .ok (.iconst 1, 1) := by decide +kernel
theorem dX6_fault_68 : decode cX6_fault 68 = .ok (.if_icmp .ne 10, 3) := by decide +kernel
theorem dX6_fault_71 : decode cX6_fault 71 = .ok (.aload_n 0, 1) := by decide +kernel
theorem dX6_fault_72 : decode cX6_fault 72 = .ok (.getfield 240, 3) := by decide +kernel
theorem dX6_fault_75 : decode cX6_fault 75 = .ok (.goto 7, 3) := by decide +kernel
theorem dX6_fault_78 : decode cX6_fault 78 = .ok (.aload_n 0, 1) := by decide +kernel
theorem dX6_fault_79 : decode cX6_fault 79 = .ok (.getfield 249, 3) := by decide +kernel
theorem dX6_fault_82 : decode cX6_fault 82 = .ok (.ireturn, 1) := by decide +kernel
set_option maxRecDepth 20000 in
theorem ggX6_play_X6_copies : GoodIn wsX6_play wsX6_copies := goodIn_r _ [8] (by decide +kernel) (by decide +kernel)
set_option maxRecDepth 20000 in
theorem gX6_play_X6_copies : GoodIn wsX6_play (va_wsS RX6 39 yX6_copies wsX6_copies) := goodIn_app (goodIn_of _ (by decide +kernel)) ggX6_play_X6_copies
set_option maxRecDepth 20000 in
theorem ggX6_play_X6_doesAll : GoodIn wsX6_play wsX6_doesAll := goodIn_r _ [12, 3, 13, 14, 15, 16, 17, 18, 19, 20, 7, 21, 22, 23, 24, 25, 26, 27, 28, 29, 30, 31, 32, 33, 34, 35, 36, 37, 38, 39, 40, 41, 42, 43, 44, 45, 46, 47, 48, 4, 49, 50, 51, 52, 1, 53, 54, 55, 56, 57, 58, 59, 60, 61, 62, 63, 64, 65, 66, 67, 68, 69, 70, 71, 72, 73, 74, 75, 76, 77, 78, 79, 80, 81, 82, 83, 84, 85, 86, 87, 88, 89, 90, 91, 92, 93, 94, 95, 96, 97, 98, 99, 100, 101, 102, 103, 104, 105, 106, 107, 108, 109, 110, 111, 112, 113, 114, 115, 116, 117, 118, 119, 120, 121, 122, 123, 124, 125, 126, 127, 128, 129, 130, 131, 132, 133, 134, 135, 136, 137, 138, 139, 140, 141, 142, 143, 144, 145, 146, 147, 148, 149, 150, 151, 152, 153, 154, 155, 156, 157, 158, 159, 160, 161, 162, 163, 164, 165, 172, 173, 174, 175, 176, 177, 178, 179, 180, 181, 182, 183, 184, 185, 186, 187, 188, 189] (by decide +kernel) (by decide +kernel)
set_option maxRecDepth 20000 in
theorem gX6_play_X6_doesAll : GoodIn wsX6_play (wsV RX6 255 RX6 yX6_doesAll wsX6_doesAll) := goodIn_app (goodIn_of _ (by decide +kernel)) ggX6_play_X6_doesAll
set_option maxRecDepth 20000 in
theorem ggX6_play_X6_records : GoodIn wsX6_play wsX6_records := goodIn_r _ [169, 170, 171, 1, 5, 6, 7, 8, 172, 173, 174, 175, 176, 177, 178, 179, 180, 181, 182, 183, 184, 185, 186, 187, 188, 189] (by decide +kernel) (by decide +kernel)
set_option maxRecDepth 20000 in
theorem gX6_play_X6_records : GoodIn wsX6_play (wsV RX6 120 RX6 yX6_records wsX6_records) := goodIn_app (goodIn_of _ (by decide +kernel)) ggX6_play_X6_records
theorem dX6_play_0 : decode cX6_play 0 = .ok (.aload_n 0, 1) := by decide +kernel
theorem dX6_play_1 : decode cX6_play 1 = .ok (.getfield 7, 3) := by decide +kernel
theorem dX6_play_4 : decode cX6_play 4 = .ok (.iconst 0, 1) := by decide +kernel
theorem dX6_play_5 : decode cX6_play 5 = .ok (.aload_n 0, 1) := by decide +kernel
theorem dX6_play_6 : decode cX6_play 6 = .ok (.getfield 16, 3) := by decide +kernel
theorem dX6_play_9 : decode cX6_play 9 = .ok (.iconst 0, 1) := by decide +kernel
theorem dX6_play_10 : decode cX6_play 10 = .ok (.invokestatic 39, 3) := by decide +kernel
theorem dX6_play_13 : decode cX6_play 13 = .ok (.aload_n 0, 1) := by decide +kernel
theorem dX6_play_14 : decode cX6_play 14 = .ok (.invokevirtual 255, 3) := by decide +kernel
theorem dX6_play_17 : decode cX6_play 17 = .ok (.istore_n 1, 1) := by decide +kernel
theorem dX6_play_18 : decode cX6_play 18 = .ok (.aload_n 0, 1) := by decide +kernel
theorem dX6_play_19 : decode cX6_play 19 = .ok (.getfield 16, 3) := by decide +kernel
theorem dX6_play_22 : decode cX6_play 22 = .ok (.iconst 0, 1) := by decide +kernel
theorem dX6_play_23 : decode cX6_play 23 = .ok (.aload_n 0, 1) := by decide +kernel
theorem dX6_play_24 : decode cX6_play 24 = .ok (.getfield 7, 3) := by decide +kernel
theorem dX6_play_27 : decode cX6_play 27 = .ok (.iconst 0, 1) := by decide +kernel
theorem dX6_play_28 : decode cX6_play 28 = .ok (.invokestatic 39, 3) := by decide +kernel
theorem dX6_play_31 : decode cX6_play 31 = .ok (.aload_n 0, 1) := by decide +kernel
theorem dX6_play_32 : decode cX6_play 32 = .ok (.getfield 240, 3) := by decide +kernel
theorem dX6_play_35 : decode cX6_play 35 = .ok (.ifCond .le 6, 3) := by decide +kernel
theorem dX6_play_38 : decode cX6_play 38 = .ok (.ldc 115, 2) := by decide +kernel
theorem dX6_play_40 : decode cX6_play 40 = .ok (.ireturn, 1) := by decide +kernel
theorem dX6_play_41 : decode cX6_play 41 = .ok (.aload_n 0, 1) := by decide +kernel
theorem dX6_play_42 : decode cX6_play 42 = .ok (.invokevirtual 120, 3) := by decide +kernel
theorem dX6_play_45 : decode cX6_play 45 = .ok (.aload_n 0, 1) := by decide +kernel
theorem dX6_play_46 : decode cX6_play 46 = .ok (.invokevirtual 255, 3) := by decide +kernel
theorem dX6_play_49 : decode cX6_play 49 = .ok (.istore_n 1, 1) := by decide +kernel
theorem dX6_play_50 : decode cX6_play 50 = .ok (.iload_n 1, 1) := by decide +kernel
theorem dX6_play_51 : decode cX6_play 51 = .ok (.ireturn, 1) := by decide +kernel
theorem dJxf58ca_isNaN_12338_0 : decode cJxf58ca_isNaN_12338 0 = .ok (.fload_n 0, 1) := by decide +kernel
theorem dJxf58ca_isNaN_12338_1 : decode cJxf58ca_isNaN_12338 1 = .ok (.fload_n 0, 1) := by decide +kernel
theorem dJxf58ca_isNaN_12338_2 : decode cJxf58ca_isNaN_12338 2 = .ok (.fcmp .l, 1) := by decide +kernel
theorem dJxf58ca_isNaN_12338_3 : decode cJxf58ca_isNaN_12338 3 = .ok (.ifCond .eq 7, 3) := by decide +kernel
theorem dJxf58ca_isNaN_12338_6 : decode cJxf58ca_isNaN_12338 6 = .ok (.iconst 1, 1) := by decide +kernel
theorem dJxf58ca_isNaN_12338_7 : decode cJxf58ca_isNaN_12338 7 = .ok (.goto 4, 3) := by decide +kernel
theorem dJxf58ca_isNaN_12338_10 : decode cJxf58ca_isNaN_12338 10 = .ok (.iconst 0, 1) := by decide +kernel
theorem dJxf58ca_isNaN_12338_11 : decode cJxf58ca_isNaN_12338 11 = .ok (.ireturn, 1) := by decide +kernel
set_option maxRecDepth 20000 in
theorem ggJxf58ca_floatToIntBits_5c35a_Jxf58ca_isNaN_12338 : GoodIn wsJxf58ca_floatToIntBits_5c35a wsJxf58ca_isNaN_12338 := goodIn_r _ [9] (by decide +kernel) (by decide +kernel)
set_option maxRecDepth 20000 in
theorem gJxf58ca_floatToIntBits_5c35a_Jxf58ca_isNaN_12338 : GoodIn wsJxf58ca_floatToIntBits_5c35a (va_wsS RJxf58ca 59 yJxf58ca_isNaN_12338 wsJxf58ca_isNaN_12338) := goodIn_app (goodIn_of _ (by decide +kernel)) ggJxf58ca_floatToIntBits_5c35a_Jxf58ca_isNaN_12338
theorem dJxf58ca_floatToIntBits_5c35a_0 : decode cJxf58ca_floatToIntBits_5c35a 0 = .ok (.fload_n 0, 1) := by decide +kernel
theorem dJxf58ca_floatToIntBits_5c35a_1 : decode cJxf58ca_floatToIntBits_5c35a 1 = .ok (.invokestatic 59, 3) := by decide +kernel
theorem dJxf58ca_floatToIntBits_5c35a_4 : decode cJxf58ca_floatToIntBits_5c35a 4 = .ok (.ifCond .ne 8, 3) := by decide +kernel
theorem dJxf58ca_floatToIntBits_5c35a_7 : decode cJxf58ca_floatToIntBits_5c35a 7 = .ok (.fload_n 0, 1) := by decide +kernel
theorem dJxf58ca_floatToIntBits_5c35a_8 : decode cJxf58ca_floatToIntBits_5c35a 8 = .ok (.invokestatic 74, 3) := by decide +kernel
theorem dJxf58ca_floatToIntBits_5c35a_11 : decode cJxf58ca_floatToIntBits_5c35a 11 = .ok (.ireturn, 1) := by decide +kernel
theorem dJxf58ca_floatToIntBits_5c35a_12 : decode cJxf58ca_floatToIntBits_5c35a 12 = .ok (.ldc 77, 2) := by decide +kernel
theorem dJxf58ca_floatToIntBits_5c35a_14 : decode cJxf58ca_floatToIntBits_5c35a 14 = .ok (.ireturn, 1) := by decide +kernel
theorem dJ9_abs_0f7a4_0 : decode cJ9_abs_0f7a4 0 = .ok (.iload_n 0, 1) := by decide +kernel
theorem dJ9_abs_0f7a4_1 : decode cJ9_abs_0f7a4 1 = .ok (.ifCond .ge 8, 3) := by decide +kernel
theorem dJ9_abs_0f7a4_4 : decode cJ9_abs_0f7a4 4 = .ok (.iload_n 0, 1) := by decide +kernel
theorem dJ9_abs_0f7a4_5 : decode cJ9_abs_0f7a4 5 = .ok (.ineg, 1) := by decide +kernel
theorem dJ9_abs_0f7a4_6 : decode cJ9_abs_0f7a4 6 = .ok (.goto 4, 3) := by decide +kernel
theorem dJ9_abs_0f7a4_9 : decode cJ9_abs_0f7a4 9 = .ok (.iload_n 0, 1) := by decide +kernel
theorem dJ9_abs_0f7a4_10 : decode cJ9_abs_0f7a4 10 = .ok (.ireturn, 1) := by decide +kernel
theorem dJ9_max_7cf53_0 : decode cJ9_max_7cf53 0 = .ok (.iload_n 0, 1) := by decide +kernel
theorem dJ9_max_7cf53_1 : decode cJ9_max_7cf53 1 = .ok (.iload_n 1, 1) := by decide +kernel
theorem dJ9_max_7cf53_2 : decode cJ9_max_7cf53 2 = .ok (.if_icmp .lt 7, 3) := by decide +kernel
theorem dJ9_max_7cf53_5 : decode cJ9_max_7cf53 5 = .ok (.iload_n 0, 1) := by decide +kernel
theorem dJ9_max_7cf53_6 : decode cJ9_max_7cf53 6 = .ok (.goto 4, 3) := by decide +kernel
theorem dJ9_max_7cf53_9 : decode cJ9_max_7cf53 9 = .ok (.iload_n 1, 1) := by decide +kernel
theorem dJ9_max_7cf53_10 : decode cJ9_max_7cf53 10 = .ok (.ireturn, 1) := by decide +kernel
theorem dJ9_min_7cf53_0 : decode cJ9_min_7cf53 0 = .ok (.iload_n 0, 1) := by decide +kernel
theorem dJ9_min_7cf53_1 : decode cJ9_min_7cf53 1 = .ok (.iload_n 1, 1) := by decide +kernel
theorem dJ9_min_7cf53_2 : decode cJ9_min_7cf53 2 = .ok (.if_icmp .gt 7, 3) := by decide +kernel
theorem dJ9_min_7cf53_5 : decode cJ9_min_7cf53 5 = .ok (.iload_n 0, 1) := by decide +kernel
theorem dJ9_min_7cf53_6 : decode cJ9_min_7cf53 6 = .ok (.goto 4, 3) := by decide +kernel
theorem dJ9_min_7cf53_9 : decode cJ9_min_7cf53 9 = .ok (.iload_n 1, 1) := by decide +kernel
theorem dJ9_min_7cf53_10 : decode cJ9_min_7cf53 10 = .ok (.ireturn, 1) := by decide +kernel
