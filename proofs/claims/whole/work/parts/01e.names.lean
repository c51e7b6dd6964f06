set_option maxRecDepth 20000 in
theorem gX6_told_X6_rankOf : GoodIn wsX6_told (wsV RX6 79 RX6 yX6_rankOf wsX6_rankOf) := goodIn_app (goodIn_of _ (by decide +kernel)) ggX6_told_X6_rankOf
set_option maxRecDepth 20000 in
theorem ggX6_told_X6_isFaded : GoodIn wsX6_told wsX6_isFaded := goodIn_r _ [39, 11, 40, 41, 42, 5, 43, 32, 33, 34, 35, 12, 13, 14, 15, 44, 45, 46, 47, 48, 49, 50, 51, 52, 53, 54, 55, 56, 57, 58, 59, 60, 61] (by decide +kernel) (by decide +kernel)
set_option maxRecDepth 20000 in
theorem gX6_told_X6_isFaded : GoodIn wsX6_told (wsV RX6 92 RX6 yX6_isFaded wsX6_isFaded) := goodIn_app (goodIn_of _ (by decide +kernel)) ggX6_told_X6_isFaded
theorem dX6_told_0 : decode cX6_told 0 = .ok (.aload_n 0, 1) := by decide +kernel
theorem dX6_told_1 : decode cX6_told 1 = .ok (.iload_n 1, 1) := by decide +kernel
theorem dX6_told_2 : decode cX6_told 2 = .ok (.iload_n 2, 1) := by decide +kernel
theorem dX6_told_3 : decode cX6_told 3 = .ok (.invokevirtual 72, 3) := by decide +kernel
theorem dX6_told_6 : decode cX6_told 6 = .ok (.istore_n 3, 1) := by decide +kernel
theorem dX6_told_7 : decode cX6_told 7 = .ok (.aload_n 0, 1) := by decide +kernel
theorem dX6_told_8 : decode cX6_told 8 = .ok (.iload_n 3, 1) := by decide +kernel
theorem dX6_told_9 : decode cX6_told 9 = .ok (.invokevirtual 75, 3) := by decide +kernel
theorem dX6_told_12 : decode cX6_told 12 = .ok (.ifCond .eq 13, 3) := by decide +kernel
theorem dX6_told_15 : decode cX6_told 15 = .ok (.aload_n 0, 1) := by decide +kernel
theorem dX6_told_16 : decode cX6_told 16 = .ok (.iload_n 3, 1) := by decide +kernel
theorem dX6_told_17 : decode cX6_told 17 = .ok (.iload_n 1, 1) := by decide +kernel
theorem dX6_told_18 : decode cX6_told 18 = .ok (.iload_n 2, 1) := by decide +kernel
theorem dX6_told_19 : decode cX6_told 19 = .ok (.invokevirtual 79, 3) := by decide +kernel
theorem dX6_told_22 : decode cX6_told 22 = .ok (.goto 5, 3) := by decide +kernel
theorem dX6_told_25 : decode cX6_told 25 = .ok (.ldc 51, 2) := by decide +kernel
theorem dX6_told_27 : decode cX6_told 27 = .ok (.istore 4, 2) := by decide +kernel
theorem dX6_told_29 : decode cX6_told 29 = .ok (.iload 4, 2) := by decide +kernel
theorem dX6_told_31 : decode cX6_told 31 = .ok (.ifCond .lt 18, 3) := by decide +kernel
theorem dX6_told_34 : decode cX6_told 34 = .ok (.aload_n 0, 1) := by decide +kernel
theorem dX6_told_35 : decode cX6_told 35 = .ok (.iload_n 3, 1) := by decide +kernel
theorem dX6_told_36 : decode cX6_told 36 = .ok (.iload 4, 2) := by decide +kernel
theorem dX6_told_38 : decode cX6_told 38 = .ok (.invokevirtual 92, 3) := by decide +kernel
theorem dX6_told_41 : decode cX6_told 41 = .ok (.ifCond .ne 8, 3) := by decide +kernel
theorem dX6_told_44 : decode cX6_told 44 = .ok (.iload 4, 2) := by decide +kernel
theorem dX6_told_46 : decode cX6_told 46 = .ok (.goto 5, 3) := by decide +kernel
theorem dX6_told_49 : decode cX6_told 49 = .ok (.ldc 51, 2) := by decide +kernel
theorem dX6_told_51 : decode cX6_told 51 = .ok (.ireturn, 1) := by decide +kernel
set_option maxRecDepth 20000 in
theorem ggX6_heard_X6_told : GoodIn wsX6_heard wsX6_told := goodIn_r _ [5, 6, 7, 8, 9, 4, 10, 11, 12, 13, 14, 15, 16, 17, 18, 19, 20, 21, 22, 23, 24, 25, 26, 27, 28, 29, 30, 31, 32, 33, 34, 35, 36, 37, 38, 39, 40, 41, 42, 43, 44, 45, 46, 47, 48, 49, 50, 51, 52, 53, 54, 55, 56, 57, 58, 59, 60, 61, 62, 63, 64, 65] (by decide +kernel) (by decide +kernel)
set_option maxRecDepth 20000 in
theorem gX6_heard_X6_told : GoodIn wsX6_heard (wsV RX6 96 RX6 yX6_told wsX6_told) := goodIn_app (goodIn_of _ (by decide +kernel)) ggX6_heard_X6_told
set_option maxRecDepth 20000 in
theorem ggX6_heard_X6_bearer : GoodIn wsX6_heard wsX6_bearer := goodIn_r _ [10, 11, 12, 13, 4, 14, 15, 16, 17, 18, 19, 20, 21, 22, 23, 6, 24, 25, 26, 27, 48, 49, 50, 51, 52, 53, 54, 55, 56, 57, 58, 59, 60, 61, 62, 63, 64, 65] (by decide +kernel) (by decide +kernel)
set_option maxRecDepth 20000 in
theorem gX6_heard_X6_bearer : GoodIn wsX6_heard (wsV RX6 72 RX6 yX6_bearer wsX6_bearer) := goodIn_app (goodIn_of _ (by decide +kernel)) ggX6_heard_X6_bearer
set_option maxRecDepth 20000 in
theorem ggX6_heard_X6_echo : GoodIn wsX6_heard wsX6_echo := goodIn_r _ [39, 16, 17, 18, 4, 19, 15, 48, 49, 50, 51, 52, 53, 54, 55, 56, 57, 58, 59, 60, 61, 62, 63, 64, 65] (by decide +kernel) (by decide +kernel)
set_option maxRecDepth 20000 in
theorem gX6_heard_X6_echo : GoodIn wsX6_heard (wsV RX6 61 RX6 yX6_echo wsX6_echo) := goodIn_app (goodIn_of _ (by decide +kernel)) ggX6_heard_X6_echo
theorem dX6_heard_0 : decode cX6_heard 0 = .ok (.aload_n 0, 1) := by decide +kernel
theorem dX6_heard_1 : decode cX6_heard 1 = .ok (.iload_n 1, 1) := by decide +kernel
theorem dX6_heard_2 : decode cX6_heard 2 = .ok (.iload_n 2, 1) := by decide +kernel
theorem dX6_heard_3 : decode cX6_heard 3 = .ok (.invokevirtual 96, 3) := by decide +kernel
theorem dX6_heard_6 : decode cX6_heard 6 = .ok (.istore_n 3, 1) := by decide +kernel
theorem dX6_heard_7 : decode cX6_heard 7 = .ok (.iload_n 3, 1) := by decide +kernel
theorem dX6_heard_8 : decode cX6_heard 8 = .ok (.ifCond .ge 7, 3) := by decide +kernel
theorem dX6_heard_11 : decode cX6_heard 11 = .ok (.iconst 0, 1) := by decide +kernel
theorem dX6_heard_12 : decode cX6_heard 12 = .ok (.goto 17, 3) := by decide +kernel
theorem dX6_heard_15 : decode cX6_heard 15 = .ok (.iconst 1, 1) := by decide +kernel
theorem dX6_heard_16 : decode cX6_heard 16 = .ok (.aload_n 0, 1) := by decide +kernel
theorem dX6_heard_17 : decode cX6_heard 17 = .ok (.aload_n 0, 1) := by decide +kernel
theorem dX6_heard_18 : decode cX6_heard 18 = .ok (.iload_n 1, 1) := by decide +kernel
theorem dX6_heard_19 : decode cX6_heard 19 = .ok (.iload_n 2, 1) := by decide +kernel
theorem dX6_heard_20 : decode cX6_heard 20 = .ok (.invokevirtual 72, 3) := by decide +kernel
theorem dX6_heard_23 : decode cX6_heard 23 = .ok (.iload_n 3, 1) := by decide +kernel
theorem dX6_heard_24 : decode cX6_heard 24 = .ok (.iconst 1, 1) := by decide +kernel
theorem dX6_heard_25 : decode cX6_heard 25 = .ok (.invokevirtual 61, 3) := by decide +kernel
theorem dX6_heard_28 : decode cX6_heard 28 = .ok (.iadd, 1) := by decide +kernel
theorem dX6_heard_29 : decode cX6_heard 29 = .ok (.ireturn, 1) := by decide +kernel
set_option maxRecDepth 20000 in
theorem ggX6_heardAge_X6_told : GoodIn wsX6_heardAge wsX6_told := goodIn_r _ [6, 1, 7, 8, 9, 5, 10, 11, 12, 13, 14, 15, 16, 17, 18, 19, 20, 21, 22, 23, 24, 25, 26, 27, 28, 29, 30, 31, 32, 33, 34, 35, 36, 37, 38, 39, 40, 41, 42, 43, 44, 45, 46, 47, 48, 49, 50, 51, 52, 53, 54, 55, 56, 57, 58, 59, 60, 61, 62, 63, 64, 65] (by decide +kernel) (by decide +kernel)
set_option maxRecDepth 20000 in
theorem gX6_heardAge_X6_told : GoodIn wsX6_heardAge (wsV RX6 96 RX6 yX6_told wsX6_told) := goodIn_app (goodIn_of _ (by decide +kernel)) ggX6_heardAge_X6_told
set_option maxRecDepth 20000 in
theorem ggX6_heardAge_X6_bearer : GoodIn wsX6_heardAge wsX6_bearer := goodIn_r _ [10, 11, 12, 13, 5, 14, 15, 16, 17, 18, 19, 20, 21, 22, 23, 1, 24, 25, 26, 27, 48, 49, 50, 51, 52, 53, 54, 55, 56, 57, 58, 59, 60, 61, 62, 63, 64, 65] (by decide +kernel) (by decide +kernel)
set_option maxRecDepth 20000 in
theorem gX6_heardAge_X6_bearer : GoodIn wsX6_heardAge (wsV RX6 72 RX6 yX6_bearer wsX6_bearer) := goodIn_app (goodIn_of _ (by decide +kernel)) ggX6_heardAge_X6_bearer
set_option maxRecDepth 20000 in
theorem ggX6_heardAge_X6_age : GoodIn wsX6_heardAge wsX6_age := goodIn_r _ [47, 15, 36, 37, 38, 5, 39, 16, 17, 18, 19, 48, 49, 50, 51, 52, 53, 54, 55, 56, 57, 58, 59, 60, 61, 62, 63, 64, 65] (by decide +kernel) (by decide +kernel)
set_option maxRecDepth 20000 in
theorem gX6_heardAge_X6_age : GoodIn wsX6_heardAge (wsV RX6 65 RX6 yX6_age wsX6_age) := goodIn_app (goodIn_of _ (by decide +kernel)) ggX6_heardAge_X6_age
theorem dX6_heardAge_0 : decode cX6_heardAge 0 = .ok (.aload_n 0, 1) := by decide +kernel
theorem dX6_heardAge_1 : decode cX6_heardAge 1 = .ok (.iload_n 1, 1) := by decide +kernel
theorem dX6_heardAge_2 : decode cX6_heardAge 2 = .ok (.iload_n 2, 1) := by decide +kernel
theorem dX6_heardAge_3 : decode cX6_heardAge 3 = .ok (.invokevirtual 96, 3) := by decide +kernel
theorem dX6_heardAge_6 : decode cX6_heardAge 6 = .ok (.istore_n 3, 1) := by decide +kernel
theorem dX6_heardAge_7 : decode cX6_heardAge 7 = .ok (.iload_n 3, 1) := by decide +kernel
theorem dX6_heardAge_8 : decode cX6_heardAge 8 = .ok (.ifCond .ge 8, 3) := by decide +kernel
theorem dX6_heardAge_11 : decode cX6_heardAge 11 = .ok (.ldc 51, 2) := by decide +kernel
theorem dX6_heardAge_13 : decode cX6_heardAge 13 = .ok (.goto 14, 3) := by decide +kernel
theorem dX6_heardAge_16 : decode cX6_heardAge 16 = .ok (.aload_n 0, 1) := by decide +kernel
theorem dX6_heardAge_17 : decode cX6_heardAge 17 = .ok (.aload_n 0, 1) := by decide +kernel
theorem dX6_heardAge_18 : decode cX6_heardAge 18 = .ok (.iload_n 1, 1) := by decide +kernel
theorem dX6_heardAge_19 : decode cX6_heardAge 19 = .ok (.iload_n 2, 1) := by decide +kernel
theorem dX6_heardAge_20 : decode cX6_heardAge 20 = .ok (.invokevirtual 72, 3) := by decide +kernel
theorem dX6_heardAge_23 : decode cX6_heardAge 23 = .ok (.iload_n 3, 1) := by decide +kernel
theorem dX6_heardAge_24 : decode cX6_heardAge 24 = .ok (.invokevirtual 65, 3) := by decide +kernel
theorem dX6_heardAge_27 : decode cX6_heardAge 27 = .ok (.ireturn, 1) := by decide +kernel
set_option maxRecDepth 20000 in
theorem ggX6_back_X6_lives : GoodIn wsX6_back wsX6_lives := goodIn_r _ [5, 6, 7, 8, 4, 9, 10, 52, 53, 54, 55, 56, 57, 58, 59, 60, 61, 62, 63, 64, 65, 66, 67, 68, 69] (by decide +kernel) (by decide +kernel)
set_option maxRecDepth 20000 in
theorem gX6_back_X6_lives : GoodIn wsX6_back (wsV RX6 75 RX6 yX6_lives wsX6_lives) := goodIn_app (goodIn_of _ (by decide +kernel)) ggX6_back_X6_lives
set_option maxRecDepth 20000 in
theorem ggX6_back_X6_of : GoodIn wsX6_back wsX6_of := goodIn_r _ [9, 10, 52, 53, 54, 55, 56, 57, 58, 59, 60, 61, 62, 63, 64, 65, 66, 67, 68, 69] (by decide +kernel) (by decide +kernel)
set_option maxRecDepth 20000 in
theorem gX6_back_X6_of : GoodIn wsX6_back (wsV RX6 47 RX6 yX6_of wsX6_of) := goodIn_app (goodIn_of _ (by decide +kernel)) ggX6_back_X6_of
set_option maxRecDepth 20000 in
theorem ggX6_back_X6_heard : GoodIn wsX6_back wsX6_heard := goodIn_r _ [14, 15, 16, 17, 4, 18, 19, 20, 21, 22, 23, 24, 25, 26, 27, 10, 6, 7, 8, 9, 28, 29, 30, 31, 32, 33, 34, 35, 1, 2, 3, 5, 36, 37, 38, 39, 40, 41, 42, 43, 44, 45, 46, 47, 48, 49, 50, 51, 52, 53, 54, 55, 56, 57, 58, 59, 60, 61, 62, 63, 64, 65, 66, 67, 68, 69] (by decide +kernel) (by decide +kernel)
set_option maxRecDepth 20000 in
theorem gX6_back_X6_heard : GoodIn wsX6_back (wsV RX6 99 RX6 yX6_heard wsX6_heard) := goodIn_app (goodIn_of _ (by decide +kernel)) ggX6_back_X6_heard
theorem dX6_back_0 : decode cX6_back 0 = .ok (.iconst 0, 1) := by decide +kernel
theorem dX6_back_1 : decode cX6_back 1 = .ok (.istore_n 2, 1) := by decide +kernel
theorem dX6_back_2 : decode cX6_back 2 = .ok (.aload_n 0, 1) := by decide +kernel
theorem dX6_back_3 : decode cX6_back 3 = .ok (.iload_n 1, 1) := by decide +kernel
theorem dX6_back_4 : decode cX6_back 4 = .ok (.invokevirtual 75, 3) := by decide +kernel
theorem dX6_back_7 : decode cX6_back 7 = .ok (.ifCond .eq 7, 3) := by decide +kernel
theorem dX6_back_10 : decode cX6_back 10 = .ok (.iconst 5, 1) := by decide +kernel
theorem dX6_back_11 : decode cX6_back 11 = .ok (.goto 5, 3) := by decide +kernel
theorem dX6_back_14 : decode cX6_back 14 = .ok (.bipush 13, 2) := by decide +kernel
theorem dX6_back_16 : decode cX6_back 16 = .ok (.istore_n 3, 1) := by decide +kernel
theorem dX6_back_17 : decode cX6_back 17 = .ok (.iconst 0, 1) := by decide +kernel
theorem dX6_back_18 : decode cX6_back 18 = .ok (.istore 4, 2) := by decide +kernel
theorem dX6_back_20 : decode cX6_back 20 = .ok (.iload 4, 2) := by decide +kernel
theorem dX6_back_22 : decode cX6_back 22 = .ok (.bipush 8, 2) := by decide +kernel
theorem dX6_back_24 : decode cX6_back 24 = .ok (.if_icmp .ge 48, 3) := by decide +kernel
theorem dX6_back_27 : decode cX6_back 27 = .ok (.iload_n 2, 1) := by decide +kernel
theorem dX6_back_28 : decode cX6_back 28 = .ok (.aload_n 0, 1) := by decide +kernel
theorem dX6_back_29 : decode cX6_back 29 = .ok (.iload_n 1, 1) := by decide +kernel
theorem dX6_back_30 : decode cX6_back 30 = .ok (.iload_n 3, 1) := by decide +kernel
theorem dX6_back_31 : decode cX6_back 31 = .ok (.iload 4, 2) := by decide +kernel
theorem dX6_back_33 : decode cX6_back 33 = .ok (.iadd, 1) := by decide +kernel
theorem dX6_back_34 : decode cX6_back 34 = .ok (.invokevirtual 47, 3) := by decide +kernel
theorem dX6_back_37 : decode cX6_back 37 = .ok (.ifCond .le 26, 3) := by decide +kernel
theorem dX6_back_40 : decode cX6_back 40 = .ok (.aload_n 0, 1) := by decide +kernel
theorem dX6_back_41 : decode cX6_back 41 = .ok (.iload_n 1, 1) := by decide +kernel
theorem dX6_back_42 : decode cX6_back 42 = .ok (.iload 4, 2) := by decide +kernel
theorem dX6_back_44 : decode cX6_back 44 = .ok (.invokevirtual 99, 3) := by decide +kernel
theorem dX6_back_47 : decode cX6_back 47 = .ok (.aload_n 0, 1) := by decide +kernel
theorem dX6_back_48 : decode cX6_back 48 = .ok (.iload_n 1, 1) := by decide +kernel
theorem dX6_back_49 : decode cX6_back 49 = .ok (.iload_n 3, 1) := by decide +kernel
theorem dX6_back_50 : decode cX6_back 50 = .ok (.iload 4, 2) := by decide +kernel
theorem dX6_back_52 : decode cX6_back 52 = .ok (.iadd, 1) := by decide +kernel
theorem dX6_back_53 : decode cX6_back 53 = .ok (.invokevirtual 47, 3) := by decide +kernel
theorem dX6_back_56 : decode cX6_back 56 = .ok (.if_icmp .ne 7, 3) := by decide +kernel
theorem dX6_back_59 : decode cX6_back 59 = .ok (.iconst 1, 1) := by decide +kernel
theorem dX6_back_60 : decode cX6_back 60 = .ok (.goto 4, 3) := by decide +kernel
theorem dX6_back_63 : decode cX6_back 63 = .ok (.iconst 0, 1) := by decide +kernel
theorem dX6_back_64 : decode cX6_back 64 = .ok (.iadd, 1) := by decide +kernel
theorem dX6_back_65 : decode cX6_back 65 = .ok (.istore_n 2, 1) := by decide +kernel
theorem dX6_back_66 : decode cX6_back 66 = .ok (.iinc 4 1, 3) := by decide +kernel
theorem dX6_back_69 : decode cX6_back 69 = .ok (.goto (-49), 3) := by decide +kernel
theorem dX6_back_72 : decode cX6_back 72 = .ok (.iload_n 2, 1) := by decide +kernel
theorem dX6_back_73 : decode cX6_back 73 = .ok (.ireturn, 1) := by decide +kernel
set_option maxRecDepth 20000 in
theorem ggX6_wrongs_X6_heard : GoodIn wsX6_wrongs wsX6_heard := goodIn_r _ [5, 6, 7, 8, 4, 9, 10, 11, 12, 13, 14, 15, 16, 17, 18, 19, 20, 21, 22, 23, 24, 25, 26, 27, 28, 29, 30, 31, 32, 33, 34, 35, 36, 37, 38, 39, 40, 41, 42, 43, 44, 45, 46, 47, 48, 49, 50, 51, 52, 53, 54, 55, 56, 57, 58, 59, 60, 61, 62, 63, 64, 65, 66, 67, 68, 69] (by decide +kernel) (by decide +kernel)
set_option maxRecDepth 20000 in
theorem gX6_wrongs_X6_heard : GoodIn wsX6_wrongs (wsV RX6 99 RX6 yX6_heard wsX6_heard) := goodIn_app (goodIn_of _ (by decide +kernel)) ggX6_wrongs_X6_heard
set_option maxRecDepth 20000 in
theorem ggX6_wrongs_X6_of : GoodIn wsX6_wrongs wsX6_of := goodIn_r _ [23, 19, 52, 53, 54, 55, 56, 57, 58, 59, 60, 61, 62, 63, 64, 65, 66, 67, 68, 69] (by decide +kernel) (by decide +kernel)
set_option maxRecDepth 20000 in
theorem gX6_wrongs_X6_of : GoodIn wsX6_wrongs (wsV RX6 47 RX6 yX6_of wsX6_of) := goodIn_app (goodIn_of _ (by decide +kernel)) ggX6_wrongs_X6_of
theorem dX6_wrongs_0 : decode cX6_wrongs 0 = .ok (.iconst 0, 1) := by decide +kernel
theorem dX6_wrongs_1 : decode cX6_wrongs 1 = .ok (.istore_n 2, 1) := by decide +kernel
theorem dX6_wrongs_2 : decode cX6_wrongs 2 = .ok (.iconst 0, 1) := by decide +kernel
theorem dX6_wrongs_3 : decode cX6_wrongs 3 = .ok (.istore_n 3, 1) := by decide +kernel
theorem dX6_wrongs_4 : decode cX6_wrongs 4 = .ok (.iload_n 3, 1) := by decide +kernel
theorem dX6_wrongs_5 : decode cX6_wrongs 5 = .ok (.bipush 8, 2) := by decide +kernel
theorem dX6_wrongs_7 : decode cX6_wrongs 7 = .ok (.if_icmp .ge 44, 3) := by decide +kernel
theorem dX6_wrongs_10 : decode cX6_wrongs 10 = .ok (.iload_n 2, 1) := by decide +kernel
theorem dX6_wrongs_11 : decode cX6_wrongs 11 = .ok (.aload_n 0, 1) := by decide +kernel
theorem dX6_wrongs_12 : decode cX6_wrongs 12 = .ok (.iload_n 1, 1) := by decide +kernel
theorem dX6_wrongs_13 : decode cX6_wrongs 13 = .ok (.iload_n 3, 1) := by decide +kernel
theorem dX6_wrongs_14 : decode cX6_wrongs 14 = .ok (.invokevirtual 99, 3) := by decide +kernel
theorem dX6_wrongs_17 : decode cX6_wrongs 17 = .ok (.ifCond .le 25, 3) := by decide +kernel
theorem dX6_wrongs_20 : decode cX6_wrongs 20 = .ok (.aload_n 0, 1) := by decide +kernel
theorem dX6_wrongs_21 : decode cX6_wrongs 21 = .ok (.iload_n 1, 1) := by decide +kernel
theorem dX6_wrongs_22 : decode cX6_wrongs 22 = .ok (.iload_n 3, 1) := by decide +kernel
theorem dX6_wrongs_23 : decode cX6_wrongs 23 = .ok (.invokevirtual 99, 3) := by decide +kernel
theorem dX6_wrongs_26 : decode cX6_wrongs 26 = .ok (.aload_n 0, 1) := by decide +kernel
theorem dX6_wrongs_27 : decode cX6_wrongs 27 = .ok (.iload_n 1, 1) := by decide +kernel
theorem dX6_wrongs_28 : decode cX6_wrongs 28 = .ok (.bipush 13, 2) := by decide +kernel
theorem dX6_wrongs_30 : decode cX6_wrongs 30 = .ok (.iload_n 3, 1) := by decide +kernel
theorem dX6_wrongs_31 : decode cX6_wrongs 31 = .ok (.iadd, 1) := by decide +kernel
theorem dX6_wrongs_32 : decode cX6_wrongs 32 = .ok (.invokevirtual 47, 3) := by decide +kernel
theorem dX6_wrongs_35 : decode cX6_wrongs 35 = .ok (.if_icmp .eq 7, 3) := by decide +kernel
theorem dX6_wrongs_38 : decode cX6_wrongs 38 = .ok (.iconst 1, 1) := by decide +kernel
theorem dX6_wrongs_39 : decode cX6_wrongs 39 = .ok (.goto 4, 3) := by decide +kernel
theorem dX6_wrongs_42 : decode cX6_wrongs 42 = .ok (.iconst 0, 1) := by decide +kernel
theorem dX6_wrongs_43 : decode cX6_wrongs 43 = .ok (.iadd, 1) := by decide +kernel
theorem dX6_wrongs_44 : decode cX6_wrongs 44 = .ok (.istore_n 2, 1) := by decide +kernel
theorem dX6_wrongs_45 : decode cX6_wrongs 45 = .ok (.iinc 3 1, 3) := by decide +kernel
theorem dX6_wrongs_48 : decode cX6_wrongs 48 = .ok (.goto (-44), 3) := by decide +kernel
theorem dX6_wrongs_51 : decode cX6_wrongs 51 = .ok (.iload_n 2, 1) := by decide +kernel
theorem dX6_wrongs_52 : decode cX6_wrongs 52 = .ok (.ireturn, 1) := by decide +kernel
set_option maxRecDepth 20000 in
theorem ggX6_goBegin_X6_lays : GoodIn wsX6_goBegin wsX6_lays := goodIn_r _ [6, 1, 56, 57, 58, 59, 60, 61, 62, 63, 64, 65, 66, 67, 68, 69, 70, 71, 72, 73] (by decide +kernel) (by decide +kernel)
set_option maxRecDepth 20000 in
theorem gX6_goBegin_X6_lays : GoodIn wsX6_goBegin (wsV RX6 68 RX6 yX6_lays wsX6_lays) := goodIn_app (goodIn_of _ (by decide +kernel)) ggX6_goBegin_X6_lays
set_option maxRecDepth 20000 in
theorem ggX6_goBegin_X6_laysRow : GoodIn wsX6_goBegin wsX6_laysRow := goodIn_r _ [10, 11, 12, 13, 5, 14, 1, 15, 16, 17, 18, 19, 20, 21, 22, 23, 24, 25, 26, 27, 28, 29, 30, 31, 32, 33, 34, 35, 36, 37, 38, 39, 40, 41, 42, 43, 44, 45, 46, 47, 48, 49, 50, 51, 2, 3, 4, 6, 52, 53, 54, 55, 56, 57, 58, 59, 60, 61, 62, 63, 64, 65, 66, 67, 68, 69, 70, 71, 72, 73] (by decide +kernel) (by decide +kernel)
set_option maxRecDepth 20000 in
theorem gX6_goBegin_X6_laysRow : GoodIn wsX6_goBegin (wsV RX6 102 RX6 yX6_laysRow wsX6_laysRow) := goodIn_app (goodIn_of _ (by decide +kernel)) ggX6_goBegin_X6_laysRow
set_option maxRecDepth 20000 in
theorem ggX6_goBegin_X6_of : GoodIn wsX6_goBegin wsX6_of := goodIn_r _ [26, 1, 56, 57, 58, 59, 60, 61, 62, 63, 64, 65, 66, 67, 68, 69, 70, 71, 72, 73] (by decide +kernel) (by decide +kernel)
set_option maxRecDepth 20000 in
theorem gX6_goBegin_X6_of : GoodIn wsX6_goBegin (wsV RX6 47 RX6 yX6_of wsX6_of) := goodIn_app (goodIn_of _ (by decide +kernel)) ggX6_goBegin_X6_of
theorem dX6_goBegin_0 : decode cX6_goBegin 0 = .ok (.aload_n 0, 1) := by decide +kernel
theorem dX6_goBegin_1 : decode cX6_goBegin 1 = .ok (.getfield 7, 3) := by decide +kernel
theorem dX6_goBegin_4 : decode cX6_goBegin 4 = .ok (.iconst 0, 1) := by decide +kernel
theorem dX6_goBegin_5 : decode cX6_goBegin 5 = .ok (.iload_n 1, 1) := by decide +kernel
theorem dX6_goBegin_6 : decode cX6_goBegin 6 = .ok (.iastore, 1) := by decide +kernel
theorem dX6_goBegin_7 : decode cX6_goBegin 7 = .ok (.iconst 4, 1) := by decide +kernel
theorem dX6_goBegin_8 : decode cX6_goBegin 8 = .ok (.istore_n 2, 1) := by decide +kernel
theorem dX6_goBegin_9 : decode cX6_goBegin 9 = .ok (.iload_n 2, 1) := by decide +kernel
theorem dX6_goBegin_10 : decode cX6_goBegin 10 = .ok (.sipush 703, 3) := by decide +kernel
theorem dX6_goBegin_13 : decode cX6_goBegin 13 = .ok (.if_icmp .ge 16, 3) := by decide +kernel
theorem dX6_goBegin_16 : decode cX6_goBegin 16 = .ok (.aload_n 0, 1) := by decide +kernel
theorem dX6_goBegin_17 : decode cX6_goBegin 17 = .ok (.getfield 7, 3) := by decide +kernel
theorem dX6_goBegin_20 : decode cX6_goBegin 20 = .ok (.iload_n 2, 1) := by decide +kernel
theorem dX6_goBegin_21 : decode cX6_goBegin 21 = .ok (.iconst 0, 1) := by decide +kernel
theorem dX6_goBegin_22 : decode cX6_goBegin 22 = .ok (.iastore, 1) := by decide +kernel
theorem dX6_goBegin_23 : decode cX6_goBegin 23 = .ok (.iinc 2 1, 3) := by decide +kernel
theorem dX6_goBegin_26 : decode cX6_goBegin 26 = .ok (.goto (-17), 3) := by decide +kernel
theorem dX6_goBegin_29 : decode cX6_goBegin 29 = .ok (.iconst 0, 1) := by decide +kernel
theorem dX6_goBegin_30 : decode cX6_goBegin 30 = .ok (.istore_n 2, 1) := by decide +kernel
theorem dX6_goBegin_31 : decode cX6_goBegin 31 = .ok (.iload_n 2, 1) := by decide +kernel
theorem dX6_goBegin_32 : decode cX6_goBegin 32 = .ok (.iload_n 1, 1) := by decide +kernel
theorem dX6_goBegin_33 : decode cX6_goBegin 33 = .ok (.if_icmp .ge 46, 3) := by decide +kernel
theorem dX6_goBegin_36 : decode cX6_goBegin 36 = .ok (.aload_n 0, 1) := by decide +kernel
theorem dX6_goBegin_37 : decode cX6_goBegin 37 = .ok (.iload_n 2, 1) := by decide +kernel
theorem dX6_goBegin_38 : decode cX6_goBegin 38 = .ok (.iconst 0, 1) := by decide +kernel
theorem dX6_goBegin_39 : decode cX6_goBegin 39 = .ok (.iload_n 2, 1) := by decide +kernel
theorem dX6_goBegin_40 : decode cX6_goBegin 40 = .ok (.invokevirtual 68, 3) := by decide +kernel
theorem dX6_goBegin_43 : decode cX6_goBegin 43 = .ok (.aload_n 0, 1) := by decide +kernel
theorem dX6_goBegin_44 : decode cX6_goBegin 44 = .ok (.iload_n 2, 1) := by decide +kernel
theorem dX6_goBegin_45 : decode cX6_goBegin 45 = .ok (.iconst 1, 1) := by decide +kernel
theorem dX6_goBegin_46 : decode cX6_goBegin 46 = .ok (.iconst 1, 1) := by decide +kernel
theorem dX6_goBegin_47 : decode cX6_goBegin 47 = .ok (.invokevirtual 68, 3) := by decide +kernel
theorem dX6_goBegin_50 : decode cX6_goBegin 50 = .ok (.iconst 0, 1) := by decide +kernel
theorem dX6_goBegin_51 : decode cX6_goBegin 51 = .ok (.istore_n 3, 1) := by decide +kernel
theorem dX6_goBegin_52 : decode cX6_goBegin 52 = .ok (.iload_n 3, 1) := by decide +kernel
theorem dX6_goBegin_53 : decode cX6_goBegin 53 = .ok (.bipush 8, 2) := by decide +kernel
theorem dX6_goBegin_55 : decode cX6_goBegin 55 = .ok (.if_icmp .ge 18, 3) := by decide +kernel
theorem dX6_goBegin_58 : decode cX6_goBegin 58 = .ok (.aload_n 0, 1) := by decide +kernel
theorem dX6_goBegin_59 : decode cX6_goBegin 59 = .ok (.iload_n 2, 1) := by decide +kernel
theorem dX6_goBegin_60 : decode cX6_goBegin 60 = .ok (.iconst 5, 1) := by decide +kernel
theorem dX6_goBegin_61 : decode cX6_goBegin 61 = .ok (.iload_n 3, 1) := by decide +kernel
theorem dX6_goBegin_62 : decode cX6_goBegin 62 = .ok (.iadd, 1) := by decide +kernel
theorem dX6_goBegin_63 : decode cX6_goBegin 63 = .ok (.iconst 1, 1) := by decide +kernel
theorem dX6_goBegin_64 : decode cX6_goBegin 64 = .ok (.invokevirtual 68, 3) := by decide +kernel
theorem dX6_goBegin_67 : decode cX6_goBegin 67 = .ok (.iinc 3 1, 3) := by decide +kernel
theorem dX6_goBegin_70 : decode cX6_goBegin 70 = .ok (.goto (-18), 3) := by decide +kernel
theorem dX6_goBegin_73 : decode cX6_goBegin 73 = .ok (.iinc 2 1, 3) := by decide +kernel
theorem dX6_goBegin_76 : decode cX6_goBegin 76 = .ok (.goto (-45), 3) := by decide +kernel
theorem dX6_goBegin_79 : decode cX6_goBegin 79 = .ok (.iconst 0, 1) := by decide +kernel
theorem dX6_goBegin_80 : decode cX6_goBegin 80 = .ok (.istore_n 2, 1) := by decide +kernel
theorem dX6_goBegin_81 : decode cX6_goBegin 81 = .ok (.iconst 0, 1) := by decide +kernel
theorem dX6_goBegin_82 : decode cX6_goBegin 82 = .ok (.istore_n 3, 1) := by decide +kernel
theorem dX6_goBegin_83 : decode cX6_goBegin 83 = .ok (.iload_n 3, 1) := by decide +kernel
theorem dX6_goBegin_84 : decode cX6_goBegin 84 = .ok (.iload_n 1, 1) := by decide +kernel
theorem dX6_goBegin_85 : decode cX6_goBegin 85 = .ok (.if_icmp .ge 16, 3) := by decide +kernel
theorem dX6_goBegin_88 : decode cX6_goBegin 88 = .ok (.aload_n 0, 1) := by decide +kernel
theorem dX6_goBegin_89 : decode cX6_goBegin 89 = .ok (.iload_n 3, 1) := by decide +kernel
theorem dX6_goBegin_90 : decode cX6_goBegin 90 = .ok (.invokevirtual 102, 3) := by decide +kernel
theorem dX6_goBegin_93 : decode cX6_goBegin 93 = .ok (.istore 4, 2) := by decide +kernel
theorem dX6_goBegin_95 : decode cX6_goBegin 95 = .ok (.iinc 3 1, 3) := by decide +kernel
theorem dX6_goBegin_98 : decode cX6_goBegin 98 = .ok (.goto (-15), 3) := by decide +kernel
theorem dX6_goBegin_101 : decode cX6_goBegin 101 = .ok (.aload_n 0, 1) := by decide +kernel
theorem dX6_goBegin_102 : decode cX6_goBegin 102 = .ok (.getfield 7, 3) := by decide +kernel
theorem dX6_goBegin_105 : decode cX6_goBegin 105 = .ok (.bipush 9, 2) := by decide +kernel
theorem dX6_goBegin_107 : decode cX6_goBegin 107 = .ok (.iconst 0, 1) := by decide +kernel
theorem dX6_goBegin_108 : decode cX6_goBegin 108 = .ok (.iastore, 1) := by decide +kernel
theorem dX6_goBegin_109 : decode cX6_goBegin 109 = .ok (.iconst 0, 1) := by decide +kernel
theorem dX6_goBegin_110 : decode cX6_goBegin 110 = .ok (.istore_n 3, 1) := by decide +kernel
theorem dX6_goBegin_111 : decode cX6_goBegin 111 = .ok (.iload_n 3, 1) := by decide +kernel
theorem dX6_goBegin_112 : decode cX6_goBegin 112 = .ok (.iload_n 1, 1) := by decide +kernel
theorem dX6_goBegin_113 : decode cX6_goBegin 113 = .ok (.if_icmp .ge 25, 3) := by decide +kernel
theorem dX6_goBegin_116 : decode cX6_goBegin 116 = .ok (.aload_n 0, 1) := by decide +kernel
theorem dX6_goBegin_117 : decode cX6_goBegin 117 = .ok (.iload_n 3, 1) := by decide +kernel
theorem dX6_goBegin_118 : decode cX6_goBegin 118 = .ok (.iconst 3, 1) := by decide +kernel
theorem dX6_goBegin_119 : decode cX6_goBegin 119 = .ok (.iconst 0, 1) := by decide +kernel
theorem dX6_goBegin_120 : decode cX6_goBegin 120 = .ok (.invokevirtual 68, 3) := by decide +kernel
theorem dX6_goBegin_123 : decode cX6_goBegin 123 = .ok (.iload_n 2, 1) := by decide +kernel
theorem dX6_goBegin_124 : decode cX6_goBegin 124 = .ok (.aload_n 0, 1) := by decide +kernel
theorem dX6_goBegin_125 : decode cX6_goBegin 125 = .ok (.iload_n 3, 1) := by decide +kernel
theorem dX6_goBegin_126 : decode cX6_goBegin 126 = .ok (.iconst 4, 1) := by decide +kernel
theorem dX6_goBegin_127 : decode cX6_goBegin 127 = .ok (.invokevirtual 47, 3) := by decide +kernel
theorem dX6_goBegin_130 : decode cX6_goBegin 130 = .ok (.iadd, 1) := by decide +kernel
theorem dX6_goBegin_131 : decode cX6_goBegin 131 = .ok (.istore_n 2, 1) := by decide +kernel
theorem dX6_goBegin_132 : decode cX6_goBegin 132 = .ok (.iinc 3 1, 3) := by decide +kernel
theorem dX6_goBegin_135 : decode cX6_goBegin 135 = .ok (.goto (-24), 3) := by decide +kernel
theorem dX6_goBegin_138 : decode cX6_goBegin 138 = .ok (.iload_n 2, 1) := by decide +kernel
theorem dX6_goBegin_139 : decode cX6_goBegin 139 = .ok (.ireturn, 1) := by decide +kernel
set_option maxRecDepth 20000 in
theorem ggX6_goWrite_X6_lays : GoodIn wsX6_goWrite wsX6_lays := goodIn_r _ [6, 1, 52, 53, 54, 55, 56, 57, 58, 59, 60, 61, 62, 63, 64, 65, 66, 67, 68, 69] (by decide +kernel) (by decide +kernel)
set_option maxRecDepth 20000 in
theorem gX6_goWrite_X6_lays : GoodIn wsX6_goWrite (wsV RX6 68 RX6 yX6_lays wsX6_lays) := goodIn_app (goodIn_of _ (by decide +kernel)) ggX6_goWrite_X6_lays
set_option maxRecDepth 20000 in
theorem ggX6_goWrite_X6_laysEcho : GoodIn wsX6_goWrite wsX6_laysEcho := goodIn_r _ [10, 1, 11, 12, 13, 5, 14, 15, 16, 17, 18, 19, 20, 21, 22, 23, 24, 25, 26, 27, 28, 29, 30, 31, 32, 33, 34, 35, 36, 37, 38, 39, 40, 41, 42, 43, 44, 45, 46, 47, 2, 3, 4, 6, 48, 49, 50, 51, 52, 53, 54, 55, 56, 57, 58, 59, 60, 61, 62, 63, 64, 65, 66, 67, 68, 69] (by decide +kernel) (by decide +kernel)
set_option maxRecDepth 20000 in
theorem gX6_goWrite_X6_laysEcho : GoodIn wsX6_goWrite (wsV RX6 89 RX6 yX6_laysEcho wsX6_laysEcho) := goodIn_app (goodIn_of _ (by decide +kernel)) ggX6_goWrite_X6_laysEcho
theorem dX6_goWrite_0 : decode cX6_goWrite 0 = .ok (.aload_n 0, 1) := by decide +kernel
theorem dX6_goWrite_1 : decode cX6_goWrite 1 = .ok (.iload_n 1, 1) := by decide +kernel
theorem dX6_goWrite_2 : decode cX6_goWrite 2 = .ok (.iconst 5, 1) := by decide +kernel
theorem dX6_goWrite_3 : decode cX6_goWrite 3 = .ok (.iload_n 2, 1) := by decide +kernel
theorem dX6_goWrite_4 : decode cX6_goWrite 4 = .ok (.iadd, 1) := by decide +kernel
theorem dX6_goWrite_5 : decode cX6_goWrite 5 = .ok (.iconst 1, 1) := by decide +kernel
theorem dX6_goWrite_6 : decode cX6_goWrite 6 = .ok (.iload_n 3, 1) := by decide +kernel
theorem dX6_goWrite_7 : decode cX6_goWrite 7 = .ok (.iadd, 1) := by decide +kernel
theorem dX6_goWrite_8 : decode cX6_goWrite 8 = .ok (.invokevirtual 68, 3) := by decide +kernel
theorem dX6_goWrite_11 : decode cX6_goWrite 11 = .ok (.aload_n 0, 1) := by decide +kernel
theorem dX6_goWrite_12 : decode cX6_goWrite 12 = .ok (.iload_n 1, 1) := by decide +kernel
theorem dX6_goWrite_13 : decode cX6_goWrite 13 = .ok (.bipush 21, 2) := by decide +kernel
theorem dX6_goWrite_15 : decode cX6_goWrite 15 = .ok (.iload_n 2, 1) := by decide +kernel
theorem dX6_goWrite_16 : decode cX6_goWrite 16 = .ok (.iadd, 1) := by decide +kernel
theorem dX6_goWrite_17 : decode cX6_goWrite 17 = .ok (.iconst 0, 1) := by decide +kernel
theorem dX6_goWrite_18 : decode cX6_goWrite 18 = .ok (.invokevirtual 68, 3) := by decide +kernel
theorem dX6_goWrite_21 : decode cX6_goWrite 21 = .ok (.aload_n 0, 1) := by decide +kernel
theorem dX6_goWrite_22 : decode cX6_goWrite 22 = .ok (.getfield 7, 3) := by decide +kernel
theorem dX6_goWrite_25 : decode cX6_goWrite 25 = .ok (.iconst 4, 1) := by decide +kernel
theorem dX6_goWrite_26 : decode cX6_goWrite 26 = .ok (.dup2, 1) := by decide +kernel
theorem dX6_goWrite_27 : decode cX6_goWrite 27 = .ok (.iaload, 1) := by decide +kernel
theorem dX6_goWrite_28 : decode cX6_goWrite 28 = .ok (.iconst 1, 1) := by decide +kernel
theorem dX6_goWrite_29 : decode cX6_goWrite 29 = .ok (.iadd, 1) := by decide +kernel
theorem dX6_goWrite_30 : decode cX6_goWrite 30 = .ok (.iastore, 1) := by decide +kernel
theorem dX6_goWrite_31 : decode cX6_goWrite 31 = .ok (.aload_n 0, 1) := by decide +kernel
theorem dX6_goWrite_32 : decode cX6_goWrite 32 = .ok (.iload_n 1, 1) := by decide +kernel
theorem dX6_goWrite_33 : decode cX6_goWrite 33 = .ok (.iload_n 2, 1) := by decide +kernel
theorem dX6_goWrite_34 : decode cX6_goWrite 34 = .ok (.invokevirtual 89, 3) := by decide +kernel
theorem dX6_goWrite_37 : decode cX6_goWrite 37 = .ok (.ireturn, 1) := by decide +kernel
set_option maxRecDepth 20000 in
theorem ggX6_goLose_X6_back : GoodIn wsX6_goLose wsX6_back := goodIn_r _ [6, 7, 8, 9, 5, 10, 11, 12, 13, 14, 1, 15, 16, 17, 18, 19, 20, 21, 22, 23, 24, 25, 26, 27, 28, 29, 30, 31, 32, 33, 34, 35, 36, 37, 38, 39, 40, 41, 42, 43, 44, 45, 46, 47, 48, 49, 50, 51, 52, 53, 54, 55, 64, 65, 66, 67, 68, 69, 70, 71, 72, 73, 74, 75, 76, 77, 78, 79, 80, 81] (by decide +kernel) (by decide +kernel)
set_option maxRecDepth 20000 in
theorem gX6_goLose_X6_back : GoodIn wsX6_goLose (wsV RX6 105 RX6 yX6_back wsX6_back) := goodIn_app (goodIn_of _ (by decide +kernel)) ggX6_goLose_X6_back
set_option maxRecDepth 20000 in
theorem ggX6_goLose_X6_of : GoodIn wsX6_goLose wsX6_of := goodIn_r _ [14, 1, 64, 65, 66, 67, 68, 69, 70, 71, 72, 73, 74, 75, 76, 77, 78, 79, 80, 81] (by decide +kernel) (by decide +kernel)
set_option maxRecDepth 20000 in
theorem gX6_goLose_X6_of : GoodIn wsX6_goLose (wsV RX6 47 RX6 yX6_of wsX6_of) := goodIn_app (goodIn_of _ (by decide +kernel)) ggX6_goLose_X6_of
set_option maxRecDepth 20000 in
theorem ggX6_goLose_X6_lays : GoodIn wsX6_goLose wsX6_lays := goodIn_r _ [59, 1, 64, 65, 66, 67, 68, 69, 70, 71, 72, 73, 74, 75, 76, 77, 78, 79, 80, 81] (by decide +kernel) (by decide +kernel)
set_option maxRecDepth 20000 in
theorem gX6_goLose_X6_lays : GoodIn wsX6_goLose (wsV RX6 68 RX6 yX6_lays wsX6_lays) := goodIn_app (goodIn_of _ (by decide +kernel)) ggX6_goLose_X6_lays
set_option maxRecDepth 20000 in
theorem ggX6_goLose_X6_adds : GoodIn wsX6_goLose wsX6_adds := goodIn_r _ [63, 1, 64, 65, 66, 67, 68, 69, 70, 71, 72, 73, 74, 75, 76, 77, 78, 79, 80, 81] (by decide +kernel) (by decide +kernel)
set_option maxRecDepth 20000 in
theorem gX6_goLose_X6_adds : GoodIn wsX6_goLose (wsV RX6 86 RX6 yX6_adds wsX6_adds) := goodIn_app (goodIn_of _ (by decide +kernel)) ggX6_goLose_X6_adds
theorem dX6_goLose_0 : decode cX6_goLose 0 = .ok (.aload_n 0, 1) := by decide +kernel
theorem dX6_goLose_1 : decode cX6_goLose 1 = .ok (.iload_n 1, 1) := by decide +kernel
theorem dX6_goLose_2 : decode cX6_goLose 2 = .ok (.invokevirtual 105, 3) := by decide +kernel
theorem dX6_goLose_5 : decode cX6_goLose 5 = .ok (.istore_n 2, 1) := by decide +kernel
theorem dX6_goLose_6 : decode cX6_goLose 6 = .ok (.iconst 0, 1) := by decide +kernel
theorem dX6_goLose_7 : decode cX6_goLose 7 = .ok (.istore_n 3, 1) := by decide +kernel
theorem dX6_goLose_8 : decode cX6_goLose 8 = .ok (.iload_n 3, 1) := by decide +kernel
theorem dX6_goLose_9 : decode cX6_goLose 9 = .ok (.bipush 8, 2) := by decide +kernel
theorem dX6_goLose_11 : decode cX6_goLose 11 = .ok (.if_icmp .ge 45, 3) := by decide +kernel
theorem dX6_goLose_14 : decode cX6_goLose 14 = .ok (.aload_n 0, 1) := by decide +kernel
theorem dX6_goLose_15 : decode cX6_goLose 15 = .ok (.iload_n 1, 1) := by decide +kernel
theorem dX6_goLose_16 : decode cX6_goLose 16 = .ok (.bipush 13, 2) := by decide +kernel
theorem dX6_goLose_18 : decode cX6_goLose 18 = .ok (.iload_n 3, 1) := by decide +kernel
theorem dX6_goLose_19 : decode cX6_goLose 19 = .ok (.iadd, 1) := by decide +kernel
theorem dX6_goLose_20 : decode cX6_goLose 20 = .ok (.aload_n 0, 1) := by decide +kernel
theorem dX6_goLose_21 : decode cX6_goLose 21 = .ok (.iload_n 1, 1) := by decide +kernel
theorem dX6_goLose_22 : decode cX6_goLose 22 = .ok (.iconst 5, 1) := by decide +kernel
theorem dX6_goLose_23 : decode cX6_goLose 23 = .ok (.iload_n 3, 1) := by decide +kernel
theorem dX6_goLose_24 : decode cX6_goLose 24 = .ok (.iadd, 1) := by decide +kernel
theorem dX6_goLose_25 : decode cX6_goLose 25 = .ok (.invokevirtual 47, 3) := by decide +kernel
theorem dX6_goLose_28 : decode cX6_goLose 28 = .ok (.invokevirtual 68, 3) := by decide +kernel
theorem dX6_goLose_31 : decode cX6_goLose 31 = .ok (.aload_n 0, 1) := by decide +kernel
theorem dX6_goLose_32 : decode cX6_goLose 32 = .ok (.iload_n 1, 1) := by decide +kernel
theorem dX6_goLose_33 : decode cX6_goLose 33 = .ok (.iconst 5, 1) := by decide +kernel
theorem dX6_goLose_34 : decode cX6_goLose 34 = .ok (.iload_n 3, 1) := by decide +kernel
theorem dX6_goLose_35 : decode cX6_goLose 35 = .ok (.iadd, 1) := by decide +kernel
theorem dX6_goLose_36 : decode cX6_goLose 36 = .ok (.iconst 0, 1) := by decide +kernel
theorem dX6_goLose_37 : decode cX6_goLose 37 = .ok (.invokevirtual 68, 3) := by decide +kernel
theorem dX6_goLose_40 : decode cX6_goLose 40 = .ok (.aload_n 0, 1) := by decide +kernel
theorem dX6_goLose_41 : decode cX6_goLose 41 = .ok (.iload_n 1, 1) := by decide +kernel
theorem dX6_goLose_42 : decode cX6_goLose 42 = .ok (.bipush 21, 2) := by decide +kernel
theorem dX6_goLose_44 : decode cX6_goLose 44 = .ok (.iload_n 3, 1) := by decide +kernel
theorem dX6_goLose_45 : decode cX6_goLose 45 = .ok (.iadd, 1) := by decide +kernel
theorem dX6_goLose_46 : decode cX6_goLose 46 = .ok (.iconst 0, 1) := by decide +kernel
theorem dX6_goLose_47 : decode cX6_goLose 47 = .ok (.invokevirtual 68, 3) := by decide +kernel
theorem dX6_goLose_50 : decode cX6_goLose 50 = .ok (.iinc 3 1, 3) := by decide +kernel
theorem dX6_goLose_53 : decode cX6_goLose 53 = .ok (.goto (-45), 3) := by decide +kernel
theorem dX6_goLose_56 : decode cX6_goLose 56 = .ok (.iconst 0, 1) := by decide +kernel
theorem dX6_goLose_57 : decode cX6_goLose 57 = .ok (.istore_n 3, 1) := by decide +kernel
theorem dX6_goLose_58 : decode cX6_goLose 58 = .ok (.iload_n 3, 1) := by decide +kernel
theorem dX6_goLose_59 : decode cX6_goLose 59 = .ok (.bipush 48, 2) := by decide +kernel
theorem dX6_goLose_61 : decode cX6_goLose 61 = .ok (.if_icmp .ge 19, 3) := by decide +kernel
theorem dX6_goLose_64 : decode cX6_goLose 64 = .ok (.aload_n 0, 1) := by decide +kernel
theorem dX6_goLose_65 : decode cX6_goLose 65 = .ok (.iload_n 1, 1) := by decide +kernel
theorem dX6_goLose_66 : decode cX6_goLose 66 = .ok (.bipush 29, 2) := by decide +kernel
theorem dX6_goLose_68 : decode cX6_goLose 68 = .ok (.iload_n 3, 1) := by decide +kernel
theorem dX6_goLose_69 : decode cX6_goLose 69 = .ok (.iadd, 1) := by decide +kernel
theorem dX6_goLose_70 : decode cX6_goLose 70 = .ok (.iconst 0, 1) := by decide +kernel
theorem dX6_goLose_71 : decode cX6_goLose 71 = .ok (.invokevirtual 68, 3) := by decide +kernel
theorem dX6_goLose_74 : decode cX6_goLose 74 = .ok (.iinc 3 1, 3) := by decide +kernel
theorem dX6_goLose_77 : decode cX6_goLose 77 = .ok (.goto (-19), 3) := by decide +kernel
theorem dX6_goLose_80 : decode cX6_goLose 80 = .ok (.aload_n 0, 1) := by decide +kernel
theorem dX6_goLose_81 : decode cX6_goLose 81 = .ok (.iload_n 1, 1) := by decide +kernel
theorem dX6_goLose_82 : decode cX6_goLose 82 = .ok (.iconst 4, 1) := by decide +kernel
theorem dX6_goLose_83 : decode cX6_goLose 83 = .ok (.iconst 0, 1) := by decide +kernel
theorem dX6_goLose_84 : decode cX6_goLose 84 = .ok (.invokevirtual 68, 3) := by decide +kernel
theorem dX6_goLose_87 : decode cX6_goLose 87 = .ok (.aload_n 0, 1) := by decide +kernel
theorem dX6_goLose_88 : decode cX6_goLose 88 = .ok (.iload_n 1, 1) := by decide +kernel
theorem dX6_goLose_89 : decode cX6_goLose 89 = .ok (.iconst 1, 1) := by decide +kernel
theorem dX6_goLose_90 : decode cX6_goLose 90 = .ok (.iconst 0, 1) := by decide +kernel
theorem dX6_goLose_91 : decode cX6_goLose 91 = .ok (.invokevirtual 68, 3) := by decide +kernel
theorem dX6_goLose_94 : decode cX6_goLose 94 = .ok (.aload_n 0, 1) := by decide +kernel
theorem dX6_goLose_95 : decode cX6_goLose 95 = .ok (.iload_n 1, 1) := by decide +kernel
theorem dX6_goLose_96 : decode cX6_goLose 96 = .ok (.iconst 2, 1) := by decide +kernel
theorem dX6_goLose_97 : decode cX6_goLose 97 = .ok (.invokevirtual 86, 3) := by decide +kernel
theorem dX6_goLose_100 : decode cX6_goLose 100 = .ok (.aload_n 0, 1) := by decide +kernel
theorem dX6_goLose_101 : decode cX6_goLose 101 = .ok (.getfield 7, 3) := by decide +kernel
theorem dX6_goLose_104 : decode cX6_goLose 104 = .ok (.iconst 5, 1) := by decide +kernel
theorem dX6_goLose_105 : decode cX6_goLose 105 = .ok (.dup2, 1) := by decide +kernel
theorem dX6_goLose_106 : decode cX6_goLose 106 = .ok (.iaload, 1) := by decide +kernel
theorem dX6_goLose_107 : decode cX6_goLose 107 = .ok (.iconst 1, 1) := by decide +kernel
theorem dX6_goLose_108 : decode cX6_goLose 108 = .ok (.iadd, 1) := by decide +kernel
theorem dX6_goLose_109 : decode cX6_goLose 109 = .ok (.iastore, 1) := by decide +kernel
theorem dX6_goLose_110 : decode cX6_goLose 110 = .ok (.iload_n 2, 1) := by decide +kernel
theorem dX6_goLose_111 : decode cX6_goLose 111 = .ok (.ireturn, 1) := by decide +kernel
set_option maxRecDepth 20000 in
theorem ggX6_goMend_X6_back : GoodIn wsX6_goMend wsX6_back := goodIn_r _ [6, 7, 8, 9, 5, 10, 11, 12, 13, 14, 1, 15, 16, 17, 18, 19, 20, 21, 22, 23, 24, 25, 26, 27, 28, 29, 30, 31, 32, 33, 34, 35, 36, 37, 38, 39, 40, 41, 42, 43, 44, 45, 46, 47, 48, 49, 50, 51, 52, 53, 54, 55, 80, 81, 82, 83, 84, 85, 86, 87, 88, 89, 90, 91, 92, 93, 94, 95, 96, 97] (by decide +kernel) (by decide +kernel)
set_option maxRecDepth 20000 in
theorem gX6_goMend_X6_back : GoodIn wsX6_goMend (wsV RX6 105 RX6 yX6_back wsX6_back) := goodIn_app (goodIn_of _ (by decide +kernel)) ggX6_goMend_X6_back
set_option maxRecDepth 20000 in
theorem ggX6_goMend_X6_wrongs : GoodIn wsX6_goMend wsX6_wrongs := goodIn_r _ [59, 15, 16, 17, 5, 18, 19, 20, 21, 22, 23, 24, 25, 26, 27, 28, 29, 30, 31, 1, 11, 12, 13, 14, 32, 33, 34, 35, 36, 37, 38, 39, 7, 8, 9, 10, 40, 41, 42, 43, 44, 45, 46, 47, 48, 49, 50, 51, 52, 53, 54, 55, 80, 81, 82, 83, 84, 85, 86, 87, 88, 89, 90, 91, 92, 93, 94, 95, 96, 97] (by decide +kernel) (by decide +kernel)
set_option maxRecDepth 20000 in
theorem gX6_goMend_X6_wrongs : GoodIn wsX6_goMend (wsV RX6 108 RX6 yX6_wrongs wsX6_wrongs) := goodIn_app (goodIn_of _ (by decide +kernel)) ggX6_goMend_X6_wrongs
set_option maxRecDepth 20000 in
theorem ggX6_goMend_X6_heard : GoodIn wsX6_goMend wsX6_heard := goodIn_r _ [18, 19, 20, 21, 5, 22, 23, 24, 25, 26, 27, 28, 29, 30, 31, 1, 11, 12, 13, 14, 32, 33, 34, 35, 36, 37, 38, 39, 7, 8, 9, 10, 40, 41, 42, 43, 44, 45, 46, 47, 48, 49, 50, 51, 52, 53, 54, 55, 80, 81, 82, 83, 84, 85, 86, 87, 88, 89, 90, 91, 92, 93, 94, 95, 96, 97] (by decide +kernel) (by decide +kernel)
set_option maxRecDepth 20000 in
theorem gX6_goMend_X6_heard : GoodIn wsX6_goMend (wsV RX6 99 RX6 yX6_heard wsX6_heard) := goodIn_app (goodIn_of _ (by decide +kernel)) ggX6_goMend_X6_heard
set_option maxRecDepth 20000 in
theorem ggX6_goMend_X6_lays : GoodIn wsX6_goMend wsX6_lays := goodIn_r _ [63, 1, 80, 81, 82, 83, 84, 85, 86, 87, 88, 89, 90, 91, 92, 93, 94, 95, 96, 97] (by decide +kernel) (by decide +kernel)
set_option maxRecDepth 20000 in
theorem gX6_goMend_X6_lays : GoodIn wsX6_goMend (wsV RX6 68 RX6 yX6_lays wsX6_lays) := goodIn_app (goodIn_of _ (by decide +kernel)) ggX6_goMend_X6_lays
set_option maxRecDepth 20000 in
theorem ggX6_goMend_X6_of : GoodIn wsX6_goMend wsX6_of := goodIn_r _ [14, 1, 80, 81, 82, 83, 84, 85, 86, 87, 88, 89, 90, 91, 92, 93, 94, 95, 96, 97] (by decide +kernel) (by decide +kernel)
set_option maxRecDepth 20000 in
theorem gX6_goMend_X6_of : GoodIn wsX6_goMend (wsV RX6 47 RX6 yX6_of wsX6_of) := goodIn_app (goodIn_of _ (by decide +kernel)) ggX6_goMend_X6_of
set_option maxRecDepth 20000 in
theorem ggX6_goMend_X6_upper : GoodIn wsX6_goMend wsX6_upper := goodIn_r _ [31, 1, 11, 12, 13, 5, 14, 32, 33, 34, 35, 23, 80, 81, 82, 83, 84, 85, 86, 87, 88, 89, 90, 91, 92, 93, 94, 95, 96, 97] (by decide +kernel) (by decide +kernel)
set_option maxRecDepth 20000 in
theorem gX6_goMend_X6_upper : GoodIn wsX6_goMend (wsV RX6 55 RX6 yX6_upper wsX6_upper) := goodIn_app (goodIn_of _ (by decide +kernel)) ggX6_goMend_X6_upper
set_option maxRecDepth 20000 in
theorem ggX6_goMend_X6_lives : GoodIn wsX6_goMend wsX6_lives := goodIn_r _ [10, 11, 12, 13, 5, 14, 1, 80, 81, 82, 83, 84, 85, 86, 87, 88, 89, 90, 91, 92, 93, 94, 95, 96, 97] (by decide +kernel) (by decide +kernel)
set_option maxRecDepth 20000 in
theorem gX6_goMend_X6_lives : GoodIn wsX6_goMend (wsV RX6 75 RX6 yX6_lives wsX6_lives) := goodIn_app (goodIn_of _ (by decide +kernel)) ggX6_goMend_X6_lives
set_option maxRecDepth 20000 in
theorem ggX6_goMend_X6_laysRow : GoodIn wsX6_goMend wsX6_laysRow := goodIn_r _ [67, 68, 69, 70, 5, 71, 1, 24, 25, 26, 27, 28, 29, 30, 31, 11, 12, 13, 14, 32, 33, 34, 35, 23, 36, 37, 38, 39, 7, 8, 9, 10, 40, 41, 42, 43, 44, 45, 46, 47, 72, 73, 74, 75, 60, 61, 62, 63, 76, 77, 78, 79, 80, 81, 82, 83, 84, 85, 86, 87, 88, 89, 90, 91, 92, 93, 94, 95, 96, 97] (by decide +kernel) (by decide +kernel)
set_option maxRecDepth 20000 in
theorem gX6_goMend_X6_laysRow : GoodIn wsX6_goMend (wsV RX6 102 RX6 yX6_laysRow wsX6_laysRow) := goodIn_app (goodIn_of _ (by decide +kernel)) ggX6_goMend_X6_laysRow
set_option maxRecDepth 20000 in
theorem ggX6_goMend_X6_lower : GoodIn wsX6_goMend wsX6_lower := goodIn_r _ [39, 1, 11, 12, 13, 5, 14, 32, 33, 34, 35, 23, 80, 81, 82, 83, 84, 85, 86, 87, 88, 89, 90, 91, 92, 93, 94, 95, 96, 97] (by decide +kernel) (by decide +kernel)
set_option maxRecDepth 20000 in
theorem gX6_goMend_X6_lower : GoodIn wsX6_goMend (wsV RX6 58 RX6 yX6_lower wsX6_lower) := goodIn_app (goodIn_of _ (by decide +kernel)) ggX6_goMend_X6_lower
theorem dX6_goMend_0 : decode cX6_goMend 0 = .ok (.aload_n 0, 1) := by decide +kernel
theorem dX6_goMend_1 : decode cX6_goMend 1 = .ok (.iload_n 1, 1) := by decide +kernel
theorem dX6_goMend_2 : decode cX6_goMend 2 = .ok (.invokevirtual 105, 3) := by decide +kernel
theorem dX6_goMend_5 : decode cX6_goMend 5 = .ok (.istore_n 2, 1) := by decide +kernel
theorem dX6_goMend_6 : decode cX6_goMend 6 = .ok (.aload_n 0, 1) := by decide +kernel
theorem dX6_goMend_7 : decode cX6_goMend 7 = .ok (.getfield 7, 3) := by decide +kernel
theorem dX6_goMend_10 : decode cX6_goMend 10 = .ok (.bipush 6, 2) := by decide +kernel
theorem dX6_goMend_12 : decode cX6_goMend 12 = .ok (.dup2, 1) := by decide +kernel
theorem dX6_goMend_13 : decode cX6_goMend 13 = .ok (.iaload, 1) := by decide +kernel
theorem dX6_goMend_14 : decode cX6_goMend 14 = .ok (.iconst 1, 1) := by decide +kernel
theorem dX6_goMend_15 : decode cX6_goMend 15 = .ok (.iadd, 1) := by decide +kernel
theorem dX6_goMend_16 : decode cX6_goMend 16 = .ok (.iastore, 1) := by decide +kernel
theorem dX6_goMend_17 : decode cX6_goMend 17 = .ok (.aload_n 0, 1) := by decide +kernel
theorem dX6_goMend_18 : decode cX6_goMend 18 = .ok (.getfield 7, 3) := by decide +kernel
theorem dX6_goMend_21 : decode cX6_goMend 21 = .ok (.bipush 7, 2) := by decide +kernel
theorem dX6_goMend_23 : decode cX6_goMend 23 = .ok (.dup2, 1) := by decide +kernel
theorem dX6_goMend_24 : decode cX6_goMend 24 = .ok (.iaload, 1) := by decide +kernel
theorem dX6_goMend_25 : decode cX6_goMend 25 = .ok (.iload_n 2, 1) := by decide +kernel
theorem dX6_goMend_26 : decode cX6_goMend 26 = .ok (.iadd, 1) := by decide +kernel
theorem dX6_goMend_27 : decode cX6_goMend 27 = .ok (.iastore, 1) := by decide +kernel
theorem dX6_goMend_28 : decode cX6_goMend 28 = .ok (.aload_n 0, 1) := by decide +kernel
theorem dX6_goMend_29 : decode cX6_goMend 29 = .ok (.getfield 7, 3) := by decide +kernel
theorem dX6_goMend_32 : decode cX6_goMend 32 = .ok (.bipush 8, 2) := by decide +kernel
theorem dX6_goMend_34 : decode cX6_goMend 34 = .ok (.dup2, 1) := by decide +kernel
theorem dX6_goMend_35 : decode cX6_goMend 35 = .ok (.iaload, 1) := by decide +kernel
theorem dX6_goMend_36 : decode cX6_goMend 36 = .ok (.aload_n 0, 1) := by decide +kernel
theorem dX6_goMend_37 : decode cX6_goMend 37 = .ok (.iload_n 1, 1) := by decide +kernel
theorem dX6_goMend_38 : decode cX6_goMend 38 = .ok (.invokevirtual 108, 3) := by decide +kernel
theorem dX6_goMend_41 : decode cX6_goMend 41 = .ok (.iadd, 1) := by decide +kernel
theorem dX6_goMend_42 : decode cX6_goMend 42 = .ok (.iastore, 1) := by decide +kernel
theorem dX6_goMend_43 : decode cX6_goMend 43 = .ok (.iconst 0, 1) := by decide +kernel
theorem dX6_goMend_44 : decode cX6_goMend 44 = .ok (.istore_n 3, 1) := by decide +kernel
theorem dX6_goMend_45 : decode cX6_goMend 45 = .ok (.iload_n 3, 1) := by decide +kernel
theorem dX6_goMend_46 : decode cX6_goMend 46 = .ok (.bipush 8, 2) := by decide +kernel
theorem dX6_goMend_48 : decode cX6_goMend 48 = .ok (.if_icmp .ge 70, 3) := by decide +kernel
theorem dX6_goMend_51 : decode cX6_goMend 51 = .ok (.aload_n 0, 1) := by decide +kernel
theorem dX6_goMend_52 : decode cX6_goMend 52 = .ok (.iload_n 1, 1) := by decide +kernel
theorem dX6_goMend_53 : decode cX6_goMend 53 = .ok (.iload_n 3, 1) := by decide +kernel
theorem dX6_goMend_54 : decode cX6_goMend 54 = .ok (.invokevirtual 99, 3) := by decide +kernel
theorem dX6_goMend_57 : decode cX6_goMend 57 = .ok (.istore 4, 2) := by decide +kernel
theorem dX6_goMend_59 : decode cX6_goMend 59 = .ok (.aload_n 0, 1) := by decide +kernel
theorem dX6_goMend_60 : decode cX6_goMend 60 = .ok (.iload_n 1, 1) := by decide +kernel
theorem dX6_goMend_61 : decode cX6_goMend 61 = .ok (.iconst 5, 1) := by decide +kernel
theorem dX6_goMend_62 : decode cX6_goMend 62 = .ok (.iload_n 3, 1) := by decide +kernel
theorem dX6_goMend_63 : decode cX6_goMend 63 = .ok (.iadd, 1) := by decide +kernel
theorem dX6_goMend_64 : decode cX6_goMend 64 = .ok (.iload 4, 2) := by decide +kernel
theorem dX6_goMend_66 : decode cX6_goMend 66 = .ok (.invokevirtual 68, 3) := by decide +kernel
theorem dX6_goMend_69 : decode cX6_goMend 69 = .ok (.aload_n 0, 1) := by decide +kernel
theorem dX6_goMend_70 : decode cX6_goMend 70 = .ok (.iload_n 1, 1) := by decide +kernel
theorem dX6_goMend_71 : decode cX6_goMend 71 = .ok (.bipush 21, 2) := by decide +kernel
theorem dX6_goMend_73 : decode cX6_goMend 73 = .ok (.iload_n 3, 1) := by decide +kernel
theorem dX6_goMend_74 : decode cX6_goMend 74 = .ok (.iadd, 1) := by decide +kernel
theorem dX6_goMend_75 : decode cX6_goMend 75 = .ok (.iload 4, 2) := by decide +kernel
theorem dX6_goMend_77 : decode cX6_goMend 77 = .ok (.ifCond .le 21, 3) := by decide +kernel
theorem dX6_goMend_80 : decode cX6_goMend 80 = .ok (.iload 4, 2) := by decide +kernel
theorem dX6_goMend_82 : decode cX6_goMend 82 = .ok (.aload_n 0, 1) := by decide +kernel
theorem dX6_goMend_83 : decode cX6_goMend 83 = .ok (.iload_n 1, 1) := by decide +kernel
theorem dX6_goMend_84 : decode cX6_goMend 84 = .ok (.bipush 13, 2) := by decide +kernel
theorem dX6_goMend_86 : decode cX6_goMend 86 = .ok (.iload_n 3, 1) := by decide +kernel
theorem dX6_goMend_87 : decode cX6_goMend 87 = .ok (.iadd, 1) := by decide +kernel
theorem dX6_goMend_88 : decode cX6_goMend 88 = .ok (.invokevirtual 47, 3) := by decide +kernel
theorem dX6_goMend_91 : decode cX6_goMend 91 = .ok (.if_icmp .eq 7, 3) := by decide +kernel
theorem dX6_goMend_94 : decode cX6_goMend 94 = .ok (.iconst 1, 1) := by decide +kernel
theorem dX6_goMend_95 : decode cX6_goMend 95 = .ok (.goto 4, 3) := by decide +kernel
theorem dX6_goMend_98 : decode cX6_goMend 98 = .ok (.iconst 0, 1) := by decide +kernel
theorem dX6_goMend_99 : decode cX6_goMend 99 = .ok (.invokevirtual 68, 3) := by decide +kernel
theorem dX6_goMend_102 : decode cX6_goMend 102 = .ok (.aload_n 0, 1) := by decide +kernel
theorem dX6_goMend_103 : decode cX6_goMend 103 = .ok (.iload_n 1, 1) := by decide +kernel
theorem dX6_goMend_104 : decode cX6_goMend 104 = .ok (.bipush 13, 2) := by decide +kernel
theorem dX6_goMend_106 : decode cX6_goMend 106 = .ok (.iload_n 3, 1) := by decide +kernel
theorem dX6_goMend_107 : decode cX6_goMend 107 = .ok (.iadd, 1) := by decide +kernel
theorem dX6_goMend_108 : decode cX6_goMend 108 = .ok (.iconst 0, 1) := by decide +kernel
theorem dX6_goMend_109 : decode cX6_goMend 109 = .ok (.invokevirtual 68, 3) := by decide +kernel
theorem dX6_goMend_112 : decode cX6_goMend 112 = .ok (.iinc 3 1, 3) := by decide +kernel
theorem dX6_goMend_115 : decode cX6_goMend 115 = .ok (.goto (-70), 3) := by decide +kernel
theorem dX6_goMend_118 : decode cX6_goMend 118 = .ok (.aload_n 0, 1) := by decide +kernel
theorem dX6_goMend_119 : decode cX6_goMend 119 = .ok (.iload_n 1, 1) := by decide +kernel
theorem dX6_goMend_120 : decode cX6_goMend 120 = .ok (.iconst 1, 1) := by decide +kernel
theorem dX6_goMend_121 : decode cX6_goMend 121 = .ok (.iconst 1, 1) := by decide +kernel
theorem dX6_goMend_122 : decode cX6_goMend 122 = .ok (.invokevirtual 68, 3) := by decide +kernel
theorem dX6_goMend_125 : decode cX6_goMend 125 = .ok (.aload_n 0, 1) := by decide +kernel
theorem dX6_goMend_126 : decode cX6_goMend 126 = .ok (.aload_n 0, 1) := by decide +kernel
theorem dX6_goMend_127 : decode cX6_goMend 127 = .ok (.iload_n 1, 1) := by decide +kernel
theorem dX6_goMend_128 : decode cX6_goMend 128 = .ok (.invokevirtual 55, 3) := by decide +kernel
theorem dX6_goMend_131 : decode cX6_goMend 131 = .ok (.invokevirtual 75, 3) := by decide +kernel
theorem dX6_goMend_134 : decode cX6_goMend 134 = .ok (.ifCond .eq 15, 3) := by decide +kernel
theorem dX6_goMend_137 : decode cX6_goMend 137 = .ok (.aload_n 0, 1) := by decide +kernel
theorem dX6_goMend_138 : decode cX6_goMend 138 = .ok (.aload_n 0, 1) := by decide +kernel
theorem dX6_goMend_139 : decode cX6_goMend 139 = .ok (.iload_n 1, 1) := by decide +kernel
theorem dX6_goMend_140 : decode cX6_goMend 140 = .ok (.invokevirtual 55, 3) := by decide +kernel
theorem dX6_goMend_143 : decode cX6_goMend 143 = .ok (.invokevirtual 102, 3) := by decide +kernel
theorem dX6_goMend_146 : decode cX6_goMend 146 = .ok (.goto 4, 3) := by decide +kernel
theorem dX6_goMend_149 : decode cX6_goMend 149 = .ok (.iconst 0, 1) := by decide +kernel
theorem dX6_goMend_150 : decode cX6_goMend 150 = .ok (.istore_n 3, 1) := by decide +kernel
theorem dX6_goMend_151 : decode cX6_goMend 151 = .ok (.iload_n 3, 1) := by decide +kernel
theorem dX6_goMend_152 : decode cX6_goMend 152 = .ok (.aload_n 0, 1) := by decide +kernel
theorem dX6_goMend_153 : decode cX6_goMend 153 = .ok (.aload_n 0, 1) := by decide +kernel
theorem dX6_goMend_154 : decode cX6_goMend 154 = .ok (.iload_n 1, 1) := by decide +kernel
theorem dX6_goMend_155 : decode cX6_goMend 155 = .ok (.invokevirtual 58, 3) := by decide +kernel
theorem dX6_goMend_158 : decode cX6_goMend 158 = .ok (.invokevirtual 75, 3) := by decide +kernel
theorem dX6_goMend_161 : decode cX6_goMend 161 = .ok (.ifCond .eq 15, 3) := by decide +kernel
theorem dX6_goMend_164 : decode cX6_goMend 164 = .ok (.aload_n 0, 1) := by decide +kernel
theorem dX6_goMend_165 : decode cX6_goMend 165 = .ok (.aload_n 0, 1) := by decide +kernel
theorem dX6_goMend_166 : decode cX6_goMend 166 = .ok (.iload_n 1, 1) := by decide +kernel
theorem dX6_goMend_167 : decode cX6_goMend 167 = .ok (.invokevirtual 58, 3) := by decide +kernel
theorem dX6_goMend_170 : decode cX6_goMend 170 = .ok (.invokevirtual 102, 3) := by decide +kernel
theorem dX6_goMend_173 : decode cX6_goMend 173 = .ok (.goto 4, 3) := by decide +kernel
theorem dX6_goMend_176 : decode cX6_goMend 176 = .ok (.iconst 0, 1) := by decide +kernel
theorem dX6_goMend_177 : decode cX6_goMend 177 = .ok (.iadd, 1) := by decide +kernel
theorem dX6_goMend_178 : decode cX6_goMend 178 = .ok (.istore_n 3, 1) := by decide +kernel
theorem dX6_goMend_179 : decode cX6_goMend 179 = .ok (.iload_n 3, 1) := by decide +kernel
theorem dX6_goMend_180 : decode cX6_goMend 180 = .ok (.aload_n 0, 1) := by decide +kernel
theorem dX6_goMend_181 : decode cX6_goMend 181 = .ok (.iload_n 1, 1) := by decide +kernel
theorem dX6_goMend_182 : decode cX6_goMend 182 = .ok (.invokevirtual 102, 3) := by decide +kernel
theorem dX6_goMend_185 : decode cX6_goMend 185 = .ok (.iadd, 1) := by decide +kernel
theorem dX6_goMend_186 : decode cX6_goMend 186 = .ok (.istore_n 3, 1) := by decide +kernel
theorem dX6_goMend_187 : decode cX6_goMend 187 = .ok (.iload_n 2, 1) := by decide +kernel
theorem dX6_goMend_188 : decode cX6_goMend 188 = .ok (.ireturn, 1) := by decide +kernel
set_option maxRecDepth 20000 in
theorem ggX6_goSwap_X6_of : GoodIn wsX6_goSwap wsX6_of := goodIn_r _ [6, 1, 11, 12, 13, 14, 15, 16, 17, 18, 19, 20, 21, 22, 23, 24, 25, 26, 27, 28] (by decide +kernel) (by decide +kernel)
set_option maxRecDepth 20000 in
theorem gX6_goSwap_X6_of : GoodIn wsX6_goSwap (wsV RX6 47 RX6 yX6_of wsX6_of) := goodIn_app (goodIn_of _ (by decide +kernel)) ggX6_goSwap_X6_of
set_option maxRecDepth 20000 in
theorem ggX6_goSwap_X6_lays : GoodIn wsX6_goSwap wsX6_lays := goodIn_r _ [10, 1, 11, 12, 13, 14, 15, 16, 17, 18, 19, 20, 21, 22, 23, 24, 25, 26, 27, 28] (by decide +kernel) (by decide +kernel)
set_option maxRecDepth 20000 in
theorem gX6_goSwap_X6_lays : GoodIn wsX6_goSwap (wsV RX6 68 RX6 yX6_lays wsX6_lays) := goodIn_app (goodIn_of _ (by decide +kernel)) ggX6_goSwap_X6_lays
theorem dX6_goSwap_0 : decode cX6_goSwap 0 = .ok (.aload_n 0, 1) := by decide +kernel
theorem dX6_goSwap_1 : decode cX6_goSwap 1 = .ok (.iload_n 1, 1) := by decide +kernel
theorem dX6_goSwap_2 : decode cX6_goSwap 2 = .ok (.iconst 0, 1) := by decide +kernel
theorem dX6_goSwap_3 : decode cX6_goSwap 3 = .ok (.invokevirtual 47, 3) := by decide +kernel
theorem dX6_goSwap_6 : decode cX6_goSwap 6 = .ok (.aload_n 0, 1) := by decide +kernel
theorem dX6_goSwap_7 : decode cX6_goSwap 7 = .ok (.iload_n 2, 1) := by decide +kernel
theorem dX6_goSwap_8 : decode cX6_goSwap 8 = .ok (.iconst 0, 1) := by decide +kernel
theorem dX6_goSwap_9 : decode cX6_goSwap 9 = .ok (.invokevirtual 47, 3) := by decide +kernel
theorem dX6_goSwap_12 : decode cX6_goSwap 12 = .ok (.isub, 1) := by decide +kernel
theorem dX6_goSwap_13 : decode cX6_goSwap 13 = .ok (.istore_n 3, 1) := by decide +kernel
theorem dX6_goSwap_14 : decode cX6_goSwap 14 = .ok (.iload_n 3, 1) := by decide +kernel
theorem dX6_goSwap_15 : decode cX6_goSwap 15 = .ok (.ifCond .ge 8, 3) := by decide +kernel
theorem dX6_goSwap_18 : decode cX6_goSwap 18 = .ok (.iload_n 3, 1) := by decide +kernel
theorem dX6_goSwap_19 : decode cX6_goSwap 19 = .ok (.ineg, 1) := by decide +kernel
theorem dX6_goSwap_20 : decode cX6_goSwap 20 = .ok (.goto 4, 3) := by decide +kernel
theorem dX6_goSwap_23 : decode cX6_goSwap 23 = .ok (.iload_n 3, 1) := by decide +kernel
theorem dX6_goSwap_24 : decode cX6_goSwap 24 = .ok (.istore_n 3, 1) := by decide +kernel
theorem dX6_goSwap_25 : decode cX6_goSwap 25 = .ok (.aload_n 0, 1) := by decide +kernel
theorem dX6_goSwap_26 : decode cX6_goSwap 26 = .ok (.iload_n 1, 1) := by decide +kernel
theorem dX6_goSwap_27 : decode cX6_goSwap 27 = .ok (.iconst 0, 1) := by decide +kernel
theorem dX6_goSwap_28 : decode cX6_goSwap 28 = .ok (.invokevirtual 47, 3) := by decide +kernel
theorem dX6_goSwap_31 : decode cX6_goSwap 31 = .ok (.istore 4, 2) := by decide +kernel
theorem dX6_goSwap_33 : decode cX6_goSwap 33 = .ok (.aload_n 0, 1) := by decide +kernel
theorem dX6_goSwap_34 : decode cX6_goSwap 34 = .ok (.iload_n 1, 1) := by decide +kernel
theorem dX6_goSwap_35 : decode cX6_goSwap 35 = .ok (.iconst 0, 1) := by decide +kernel
theorem dX6_goSwap_36 : decode cX6_goSwap 36 = .ok (.aload_n 0, 1) := by decide +kernel
theorem dX6_goSwap_37 : decode cX6_goSwap 37 = .ok (.iload_n 2, 1) := by decide +kernel
theorem dX6_goSwap_38 : decode cX6_goSwap 38 = .ok (.iconst 0, 1) := by decide +kernel
theorem dX6_goSwap_39 : decode cX6_goSwap 39 = .ok (.invokevirtual 47, 3) := by decide +kernel
theorem dX6_goSwap_42 : decode cX6_goSwap 42 = .ok (.invokevirtual 68, 3) := by decide +kernel
theorem dX6_goSwap_45 : decode cX6_goSwap 45 = .ok (.aload_n 0, 1) := by decide +kernel
theorem dX6_goSwap_46 : decode cX6_goSwap 46 = .ok (.iload_n 2, 1) := by decide +kernel
theorem dX6_goSwap_47 : decode cX6_goSwap 47 = .ok (.iconst 0, 1) := by decide +kernel
theorem dX6_goSwap_48 : decode cX6_goSwap 48 = .ok (.iload 4, 2) := by decide +kernel
theorem dX6_goSwap_50 : decode cX6_goSwap 50 = .ok (.invokevirtual 68, 3) := by decide +kernel
theorem dX6_goSwap_53 : decode cX6_goSwap 53 = .ok (.iload_n 3, 1) := by decide +kernel
theorem dX6_goSwap_54 : decode cX6_goSwap 54 = .ok (.aload_n 0, 1) := by decide +kernel
theorem dX6_goSwap_55 : decode cX6_goSwap 55 = .ok (.getfield 7, 3) := by decide +kernel
theorem dX6_goSwap_58 : decode cX6_goSwap 58 = .ok (.iconst 0, 1) := by decide +kernel
theorem dX6_goSwap_59 : decode cX6_goSwap 59 = .ok (.iaload, 1) := by decide +kernel
theorem dX6_goSwap_60 : decode cX6_goSwap 60 = .ok (.iload_n 3, 1) := by decide +kernel
theorem dX6_goSwap_61 : decode cX6_goSwap 61 = .ok (.isub, 1) := by decide +kernel
theorem dX6_goSwap_62 : decode cX6_goSwap 62 = .ok (.if_icmp .le 14, 3) := by decide +kernel
theorem dX6_goSwap_65 : decode cX6_goSwap 65 = .ok (.aload_n 0, 1) := by decide +kernel
theorem dX6_goSwap_66 : decode cX6_goSwap 66 = .ok (.getfield 7, 3) := by decide +kernel
theorem dX6_goSwap_69 : decode cX6_goSwap 69 = .ok (.iconst 0, 1) := by decide +kernel
theorem dX6_goSwap_70 : decode cX6_goSwap 70 = .ok (.iaload, 1) := by decide +kernel
theorem dX6_goSwap_71 : decode cX6_goSwap 71 = .ok (.iload_n 3, 1) := by decide +kernel
theorem dX6_goSwap_72 : decode cX6_goSwap 72 = .ok (.isub, 1) := by decide +kernel
theorem dX6_goSwap_73 : decode cX6_goSwap 73 = .ok (.goto 4, 3) := by decide +kernel
theorem dX6_goSwap_76 : decode cX6_goSwap 76 = .ok (.iload_n 3, 1) := by decide +kernel
theorem dX6_goSwap_77 : decode cX6_goSwap 77 = .ok (.ireturn, 1) := by decide +kernel
set_option maxRecDepth 20000 in
theorem ggX6_errorOf_X6_isRow : GoodIn wsX6_errorOf wsX6_isRow := goodIn_r _ [7, 8, 9, 10, 6, 11, 20, 21, 22, 23, 24, 25, 26, 27, 28, 29, 30, 31, 32, 33, 34, 35, 36, 37] (by decide +kernel) (by decide +kernel)
set_option maxRecDepth 20000 in
theorem gX6_errorOf_X6_isRow : GoodIn wsX6_errorOf (wsV RX6 111 RX6 yX6_isRow wsX6_isRow) := goodIn_app (goodIn_of _ (by decide +kernel)) ggX6_errorOf_X6_isRow
set_option maxRecDepth 20000 in
theorem ggX6_errorOf_X6_lives : GoodIn wsX6_errorOf wsX6_lives := goodIn_r _ [15, 16, 17, 18, 6, 19, 8, 20, 21, 22, 23, 24, 25, 26, 27, 28, 29, 30, 31, 32, 33, 34, 35, 36, 37] (by decide +kernel) (by decide +kernel)
set_option maxRecDepth 20000 in
theorem gX6_errorOf_X6_lives : GoodIn wsX6_errorOf (wsV RX6 75 RX6 yX6_lives wsX6_lives) := goodIn_app (goodIn_of _ (by decide +kernel)) ggX6_errorOf_X6_lives
theorem dX6_errorOf_0 : decode cX6_errorOf 0 = .ok (.aload_n 0, 1) := by decide +kernel
theorem dX6_errorOf_1 : decode cX6_errorOf 1 = .ok (.iload_n 1, 1) := by decide +kernel
theorem dX6_errorOf_2 : decode cX6_errorOf 2 = .ok (.invokevirtual 111, 3) := by decide +kernel
theorem dX6_errorOf_5 : decode cX6_errorOf 5 = .ok (.ifCond .ne 8, 3) := by decide +kernel
theorem dX6_errorOf_8 : decode cX6_errorOf 8 = .ok (.ldc 114, 2) := by decide +kernel
theorem dX6_errorOf_10 : decode cX6_errorOf 10 = .ok (.goto 18, 3) := by decide +kernel
theorem dX6_errorOf_13 : decode cX6_errorOf 13 = .ok (.aload_n 0, 1) := by decide +kernel
theorem dX6_errorOf_14 : decode cX6_errorOf 14 = .ok (.iload_n 1, 1) := by decide +kernel
theorem dX6_errorOf_15 : decode cX6_errorOf 15 = .ok (.invokevirtual 75, 3) := by decide +kernel
theorem dX6_errorOf_18 : decode cX6_errorOf 18 = .ok (.iload_n 2, 1) := by decide +kernel
theorem dX6_errorOf_19 : decode cX6_errorOf 19 = .ok (.if_icmp .ne 7, 3) := by decide +kernel
theorem dX6_errorOf_22 : decode cX6_errorOf 22 = .ok (.iconst 0, 1) := by decide +kernel
theorem dX6_errorOf_23 : decode cX6_errorOf 23 = .ok (.goto 5, 3) := by decide +kernel
theorem dX6_errorOf_26 : decode cX6_errorOf 26 = .ok (.ldc 115, 2) := by decide +kernel
theorem dX6_errorOf_28 : decode cX6_errorOf 28 = .ok (.ireturn, 1) := by decide +kernel
set_option maxRecDepth 20000 in
theorem ggX6_errorWrite_X6_isRow : GoodIn wsX6_errorWrite wsX6_isRow := goodIn_r _ [7, 8, 9, 10, 6, 11, 23, 24, 25, 26, 27, 28, 29, 30, 31, 32, 33, 34, 35, 36, 37, 38, 39, 40] (by decide +kernel) (by decide +kernel)
set_option maxRecDepth 20000 in
theorem gX6_errorWrite_X6_isRow : GoodIn wsX6_errorWrite (wsV RX6 111 RX6 yX6_isRow wsX6_isRow) := goodIn_app (goodIn_of _ (by decide +kernel)) ggX6_errorWrite_X6_isRow
set_option maxRecDepth 20000 in
theorem ggX6_errorWrite_X6_isCell : GoodIn wsX6_errorWrite wsX6_isCell := goodIn_r _ [14, 9, 10, 6, 11] (by decide +kernel) (by decide +kernel)
set_option maxRecDepth 20000 in
theorem gX6_errorWrite_X6_isCell : GoodIn wsX6_errorWrite (va_wsS RX6 116 yX6_isCell wsX6_isCell) := goodIn_app (goodIn_of _ (by decide +kernel)) ggX6_errorWrite_X6_isCell
set_option maxRecDepth 20000 in
theorem ggX6_errorWrite_X6_in : GoodIn wsX6_errorWrite wsX6_in := goodIn_r _ [11] (by decide +kernel) (by decide +kernel)
set_option maxRecDepth 20000 in
theorem gX6_errorWrite_X6_in : GoodIn wsX6_errorWrite (va_wsS RX6 43 yX6_in wsX6_in) := goodIn_app (goodIn_of _ (by decide +kernel)) ggX6_errorWrite_X6_in
set_option maxRecDepth 20000 in
theorem ggX6_errorWrite_X6_lives : GoodIn wsX6_errorWrite wsX6_lives := goodIn_r _ [18, 19, 20, 21, 6, 22, 8, 23, 24, 25, 26, 27, 28, 29, 30, 31, 32, 33, 34, 35, 36, 37, 38, 39, 40] (by decide +kernel) (by decide +kernel)
set_option maxRecDepth 20000 in
theorem gX6_errorWrite_X6_lives : GoodIn wsX6_errorWrite (wsV RX6 75 RX6 yX6_lives wsX6_lives) := goodIn_app (goodIn_of _ (by decide +kernel)) ggX6_errorWrite_X6_lives
theorem dX6_errorWrite_0 : decode cX6_errorWrite 0 = .ok (.aload_n 0, 1) := by decide +kernel
theorem dX6_errorWrite_1 : decode cX6_errorWrite 1 = .ok (.iload_n 1, 1) := by decide +kernel
theorem dX6_errorWrite_2 : decode cX6_errorWrite 2 = .ok (.invokevirtual 111, 3) := by decide +kernel
theorem dX6_errorWrite_5 : decode cX6_errorWrite 5 = .ok (.ifCond .eq 21, 3) := by decide +kernel
theorem dX6_errorWrite_8 : decode cX6_errorWrite 8 = .ok (.iload_n 2, 1) := by decide +kernel
theorem dX6_errorWrite_9 : decode cX6_errorWrite 9 = .ok (.invokestatic 116, 3) := by decide +kernel
theorem dX6_errorWrite_12 : decode cX6_errorWrite 12 = .ok (.ifCond .eq 14, 3) := by decide +kernel
theorem dX6_errorWrite_15 : decode cX6_errorWrite 15 = .ok (.iload_n 3, 1) := by decide +kernel
theorem dX6_errorWrite_16 : decode cX6_errorWrite 16 = .ok (.iconst 0, 1) := by decide +kernel
theorem dX6_errorWrite_17 : decode cX6_errorWrite 17 = .ok (.sipush 999, 3) := by decide +kernel
theorem dX6_errorWrite_20 : decode cX6_errorWrite 20 = .ok (.invokestatic 43, 3) := by decide +kernel
theorem dX6_errorWrite_23 : decode cX6_errorWrite 23 = .ok (.ifCond .ne 8, 3) := by decide +kernel
theorem dX6_errorWrite_26 : decode cX6_errorWrite 26 = .ok (.ldc 114, 2) := by decide +kernel
theorem dX6_errorWrite_28 : decode cX6_errorWrite 28 = .ok (.goto 17, 3) := by decide +kernel
theorem dX6_errorWrite_31 : decode cX6_errorWrite 31 = .ok (.aload_n 0, 1) := by decide +kernel
theorem dX6_errorWrite_32 : decode cX6_errorWrite 32 = .ok (.iload_n 1, 1) := by decide +kernel
theorem dX6_errorWrite_33 : decode cX6_errorWrite 33 = .ok (.invokevirtual 75, 3) := by decide +kernel
theorem dX6_errorWrite_36 : decode cX6_errorWrite 36 = .ok (.ifCond .eq 7, 3) := by decide +kernel
theorem dX6_errorWrite_39 : decode cX6_errorWrite 39 = .ok (.iconst 0, 1) := by decide +kernel
theorem dX6_errorWrite_40 : decode cX6_errorWrite 40 = .ok (.goto 5, 3) := by decide +kernel
theorem dX6_errorWrite_43 : decode cX6_errorWrite 43 = .ok (.ldc 115, 2) := by decide +kernel
theorem dX6_errorWrite_45 : decode cX6_errorWrite 45 = .ok (.ireturn, 1) := by decide +kernel
set_option maxRecDepth 20000 in
theorem ggX6_errorSwap_X6_isRow : GoodIn wsX6_errorSwap wsX6_isRow := goodIn_r _ [7, 8, 9, 10, 6, 11, 20, 21, 22, 23, 24, 25, 26, 27, 28, 29, 30, 31, 32, 33, 34, 35, 36, 37] (by decide +kernel) (by decide +kernel)
set_option maxRecDepth 20000 in
theorem gX6_errorSwap_X6_isRow : GoodIn wsX6_errorSwap (wsV RX6 111 RX6 yX6_isRow wsX6_isRow) := goodIn_app (goodIn_of _ (by decide +kernel)) ggX6_errorSwap_X6_isRow
set_option maxRecDepth 20000 in
theorem ggX6_errorSwap_X6_lives : GoodIn wsX6_errorSwap wsX6_lives := goodIn_r _ [15, 16, 17, 18, 6, 19, 8, 20, 21, 22, 23, 24, 25, 26, 27, 28, 29, 30, 31, 32, 33, 34, 35, 36, 37] (by decide +kernel) (by decide +kernel)
set_option maxRecDepth 20000 in
theorem gX6_errorSwap_X6_lives : GoodIn wsX6_errorSwap (wsV RX6 75 RX6 yX6_lives wsX6_lives) := goodIn_app (goodIn_of _ (by decide +kernel)) ggX6_errorSwap_X6_lives
theorem dX6_errorSwap_0 : decode cX6_errorSwap 0 = .ok (.aload_n 0, 1) := by decide +kernel
theorem dX6_errorSwap_1 : decode cX6_errorSwap 1 = .ok (.iload_n 1, 1) := by decide +kernel
theorem dX6_errorSwap_2 : decode cX6_errorSwap 2 = .ok (.invokevirtual 111, 3) := by decide +kernel
theorem dX6_errorSwap_5 : decode cX6_errorSwap 5 = .ok (.ifCond .eq 16, 3) := by decide +kernel
theorem dX6_errorSwap_8 : decode cX6_errorSwap 8 = .ok (.aload_n 0, 1) := by decide +kernel
theorem dX6_errorSwap_9 : decode cX6_errorSwap 9 = .ok (.iload_n 2, 1) := by decide +kernel
theorem dX6_errorSwap_10 : decode cX6_errorSwap 10 = .ok (.invokevirtual 111, 3) := by decide +kernel
theorem dX6_errorSwap_13 : decode cX6_errorSwap 13 = .ok (.ifCond .eq 8, 3) := by decide +kernel
theorem dX6_errorSwap_16 : decode cX6_errorSwap 16 = .ok (.iload_n 1, 1) := by decide +kernel
theorem dX6_errorSwap_17 : decode cX6_errorSwap 17 = .ok (.iload_n 2, 1) := by decide +kernel
theorem dX6_errorSwap_18 : decode cX6_errorSwap 18 = .ok (.if_icmp .ne 8, 3) := by decide +kernel
theorem dX6_errorSwap_21 : decode cX6_errorSwap 21 = .ok (.ldc 114, 2) := by decide +kernel
theorem dX6_errorSwap_23 : decode cX6_errorSwap 23 = .ok (.goto 25, 3) := by decide +kernel
theorem dX6_errorSwap_26 : decode cX6_errorSwap 26 = .ok (.aload_n 0, 1) := by decide +kernel
theorem dX6_errorSwap_27 : decode cX6_errorSwap 27 = .ok (.iload_n 1, 1) := by decide +kernel
theorem dX6_errorSwap_28 : decode cX6_errorSwap 28 = .ok (.invokevirtual 75, 3) := by decide +kernel
theorem dX6_errorSwap_31 : decode cX6_errorSwap 31 = .ok (.ifCond .eq 15, 3) := by decide +kernel
theorem dX6_errorSwap_34 : decode cX6_errorSwap 34 = .ok (.aload_n 0, 1) := by decide +kernel
theorem dX6_errorSwap_35 : decode cX6_errorSwap 35 = .ok (.iload_n 2, 1) := by decide +kernel
theorem dX6_errorSwap_36 : decode cX6_errorSwap 36 = .ok (.invokevirtual 75, 3) := by decide +kernel
theorem dX6_errorSwap_39 : decode cX6_errorSwap 39 = .ok (.ifCond .eq 7, 3) := by decide +kernel
theorem dX6_errorSwap_42 : decode cX6_errorSwap 42 = .ok (.iconst 0, 1) := by decide +kernel
theorem dX6_errorSwap_43 : decode cX6_errorSwap 43 = .ok (.goto 5, 3) := by decide +kernel
theorem dX6_errorSwap_46 : decode cX6_errorSwap 46 = .ok (.ldc 115, 2) := by decide +kernel
theorem dX6_errorSwap_48 : decode cX6_errorSwap 48 = .ok (.ireturn, 1) := by decide +kernel
set_option maxRecDepth 20000 in
theorem ggX6_errorDays_X6_in : GoodIn wsX6_errorDays wsX6_in := goodIn_r _ [7] (by decide +kernel) (by decide +kernel)
set_option maxRecDepth 20000 in
theorem gX6_errorDays_X6_in : GoodIn wsX6_errorDays (va_wsS RX6 43 yX6_in wsX6_in) := goodIn_app (goodIn_of _ (by decide +kernel)) ggX6_errorDays_X6_in
theorem dX6_errorDays_0 : decode cX6_errorDays 0 = .ok (.iload_n 1, 1) := by decide +kernel
theorem dX6_errorDays_1 : decode cX6_errorDays 1 = .ok (.iconst 1, 1) := by decide +kernel
theorem dX6_errorDays_2 : decode cX6_errorDays 2 = .ok (.bipush 99, 2) := by decide +kernel
theorem dX6_errorDays_4 : decode cX6_errorDays 4 = .ok (.invokestatic 43, 3) := by decide +kernel
theorem dX6_errorDays_7 : decode cX6_errorDays 7 = .ok (.ifCond .ne 8, 3) := by decide +kernel
theorem dX6_errorDays_10 : decode cX6_errorDays 10 = .ok (.ldc 114, 2) := by decide +kernel
theorem dX6_errorDays_12 : decode cX6_errorDays 12 = .ok (.goto 23, 3) := by decide +kernel
theorem dX6_errorDays_15 : decode cX6_errorDays 15 = .ok (.aload_n 0, 1) := by decide +kernel
theorem dX6_errorDays_16 : decode cX6_errorDays 16 = .ok (.getfield 7, 3) := by decide +kernel
theorem dX6_errorDays_19 : decode cX6_errorDays 19 = .ok (.iconst 1, 1) := by decide +kernel
theorem dX6_errorDays_20 : decode cX6_errorDays 20 = .ok (.iaload, 1) := by decide +kernel
theorem dX6_errorDays_21 : decode cX6_errorDays 21 = .ok (.iload_n 1, 1) := by decide +kernel
theorem dX6_errorDays_22 : decode cX6_errorDays 22 = .ok (.iadd, 1) := by decide +kernel
theorem dX6_errorDays_23 : decode cX6_errorDays 23 = .ok (.sipush 9999, 3) := by decide +kernel
theorem dX6_errorDays_26 : decode cX6_errorDays 26 = .ok (.if_icmp .le 8, 3) := by decide +kernel
theorem dX6_errorDays_29 : decode cX6_errorDays 29 = .ok (.ldc 119, 2) := by decide +kernel
theorem dX6_errorDays_31 : decode cX6_errorDays 31 = .ok (.goto 4, 3) := by decide +kernel
theorem dX6_errorDays_34 : decode cX6_errorDays 34 = .ok (.iconst 0, 1) := by decide +kernel
theorem dX6_errorDays_35 : decode cX6_errorDays 35 = .ok (.ireturn, 1) := by decide +kernel
set_option maxRecDepth 20000 in
theorem ggX6_begin_X6_in : GoodIn wsX6_begin wsX6_in := goodIn_r _ [5] (by decide +kernel) (by decide +kernel)
set_option maxRecDepth 20000 in
theorem gX6_begin_X6_in : GoodIn wsX6_begin (va_wsS RX6 43 yX6_in wsX6_in) := goodIn_app (goodIn_of _ (by decide +kernel)) ggX6_begin_X6_in
set_option maxRecDepth 20000 in
theorem ggX6_begin_X6_records : GoodIn wsX6_begin wsX6_records := goodIn_r _ [9, 10, 11, 12, 13, 14, 4, 15, 73, 74, 75, 76, 77, 78, 79, 80, 81, 82, 83, 84, 85, 86, 87, 88, 89, 90] (by decide +kernel) (by decide +kernel)
set_option maxRecDepth 20000 in
theorem gX6_begin_X6_records : GoodIn wsX6_begin (wsV RX6 120 RX6 yX6_records wsX6_records) := goodIn_app (goodIn_of _ (by decide +kernel)) ggX6_begin_X6_records
set_option maxRecDepth 20000 in
theorem ggX6_begin_X6_goBegin : GoodIn wsX6_begin wsX6_goBegin := goodIn_r _ [19, 12, 20, 21, 22, 4, 23, 24, 25, 26, 27, 28, 29, 30, 31, 32, 33, 34, 35, 36, 37, 38, 39, 40, 41, 42, 43, 44, 45, 46, 47, 48, 49, 50, 51, 52, 53, 54, 55, 56, 57, 58, 59, 60, 61, 62, 63, 64, 65, 66, 67, 68, 69, 70, 71, 72, 73, 74, 75, 76, 77, 78, 79, 80, 81, 82, 83, 84, 85, 86, 87, 88, 89, 90] (by decide +kernel) (by decide +kernel)
set_option maxRecDepth 20000 in
theorem gX6_begin_X6_goBegin : GoodIn wsX6_begin (wsV RX6 31 RX6 yX6_goBegin wsX6_goBegin) := goodIn_app (goodIn_of _ (by decide +kernel)) ggX6_begin_X6_goBegin
theorem dX6_begin_0 : decode cX6_begin 0 = .ok (.iload_n 1, 1) := by decide +kernel
theorem dX6_begin_1 : decode cX6_begin 1 = .ok (.iconst 3, 1) := by decide +kernel
theorem dX6_begin_2 : decode cX6_begin 2 = .ok (.bipush 9, 2) := by decide +kernel
theorem dX6_begin_4 : decode cX6_begin 4 = .ok (.invokestatic 43, 3) := by decide +kernel
theorem dX6_begin_7 : decode cX6_begin 7 = .ok (.ifCond .ne 6, 3) := by decide +kernel
theorem dX6_begin_10 : decode cX6_begin 10 = .ok (.ldc 114, 2) := by decide +kernel
theorem dX6_begin_12 : decode cX6_begin 12 = .ok (.ireturn, 1) := by decide +kernel
theorem dX6_begin_13 : decode cX6_begin 13 = .ok (.aload_n 0, 1) := by decide +kernel
theorem dX6_begin_14 : decode cX6_begin 14 = .ok (.invokevirtual 120, 3) := by decide +kernel
theorem dX6_begin_17 : decode cX6_begin 17 = .ok (.aload_n 0, 1) := by decide +kernel
theorem dX6_begin_18 : decode cX6_begin 18 = .ok (.iload_n 1, 1) := by decide +kernel
theorem dX6_begin_19 : decode cX6_begin 19 = .ok (.invokevirtual 31, 3) := by decide +kernel
theorem dX6_begin_22 : decode cX6_begin 22 = .ok (.ireturn, 1) := by decide +kernel
set_option maxRecDepth 20000 in
theorem ggX6_write_X6_errorWrite : GoodIn wsX6_write wsX6_errorWrite := goodIn_r _ [5, 6, 7, 8, 9, 10, 4, 11, 12, 13, 14, 15, 16, 17, 18, 19, 20, 21, 22, 23, 24, 25, 26, 81, 82, 83, 84, 85, 86, 87, 88, 89, 90, 91, 92, 93, 94, 95, 96, 97, 98] (by decide +kernel) (by decide +kernel)
set_option maxRecDepth 20000 in
theorem gX6_write_X6_errorWrite : GoodIn wsX6_write (wsV RX6 123 RX6 yX6_errorWrite wsX6_errorWrite) := goodIn_app (goodIn_of _ (by decide +kernel)) ggX6_write_X6_errorWrite
set_option maxRecDepth 20000 in
theorem ggX6_write_X6_records : GoodIn wsX6_write wsX6_records := goodIn_r _ [30, 31, 32, 12, 33, 34, 4, 35, 81, 82, 83, 84, 85, 86, 87, 88, 89, 90, 91, 92, 93, 94, 95, 96, 97, 98] (by decide +kernel) (by decide +kernel)
set_option maxRecDepth 20000 in
theorem gX6_write_X6_records : GoodIn wsX6_write (wsV RX6 120 RX6 yX6_records wsX6_records) := goodIn_app (goodIn_of _ (by decide +kernel)) ggX6_write_X6_records
set_option maxRecDepth 20000 in
theorem ggX6_write_X6_goWrite : GoodIn wsX6_write wsX6_goWrite := goodIn_r _ [39, 12, 40, 41, 42, 4, 43, 44, 45, 46, 47, 48, 49, 50, 51, 52, 53, 54, 55, 23, 24, 25, 26, 56, 57, 58, 59, 60, 61, 62, 63, 64, 19, 20, 21, 22, 65, 66, 67, 68, 69, 70, 71, 72, 73, 74, 75, 76, 77, 78, 79, 80, 81, 82, 83, 84, 85, 86, 87, 88, 89, 90, 91, 92, 93, 94, 95, 96, 97, 98] (by decide +kernel) (by decide +kernel)
set_option maxRecDepth 20000 in
theorem gX6_write_X6_goWrite : GoodIn wsX6_write (wsV RX6 126 RX6 yX6_goWrite wsX6_goWrite) := goodIn_app (goodIn_of _ (by decide +kernel)) ggX6_write_X6_goWrite
theorem dX6_write_0 : decode cX6_write 0 = .ok (.aload_n 0, 1) := by decide +kernel
theorem dX6_write_1 : decode cX6_write 1 = .ok (.iload_n 1, 1) := by decide +kernel
theorem dX6_write_2 : decode cX6_write 2 = .ok (.iload_n 2, 1) := by decide +kernel
theorem dX6_write_3 : decode cX6_write 3 = .ok (.iload_n 3, 1) := by decide +kernel
theorem dX6_write_4 : decode cX6_write 4 = .ok (.invokevirtual 123, 3) := by decide +kernel
theorem dX6_write_7 : decode cX6_write 7 = .ok (.istore 4, 2) := by decide +kernel
theorem dX6_write_9 : decode cX6_write 9 = .ok (.iload 4, 2) := by decide +kernel
theorem dX6_write_11 : decode cX6_write 11 = .ok (.ifCond .ge 6, 3) := by decide +kernel
theorem dX6_write_14 : decode cX6_write 14 = .ok (.iload 4, 2) := by decide +kernel
theorem dX6_write_16 : decode cX6_write 16 = .ok (.ireturn, 1) := by decide +kernel
theorem dX6_write_17 : decode cX6_write 17 = .ok (.aload_n 0, 1) := by decide +kernel
theorem dX6_write_18 : decode cX6_write 18 = .ok (.invokevirtual 120, 3) := by decide +kernel
theorem dX6_write_21 : decode cX6_write 21 = .ok (.aload_n 0, 1) := by decide +kernel
theorem dX6_write_22 : decode cX6_write 22 = .ok (.iload_n 1, 1) := by decide +kernel
theorem dX6_write_23 : decode cX6_write 23 = .ok (.iload_n 2, 1) := by decide +kernel
theorem dX6_write_24 : decode cX6_write 24 = .ok (.iload_n 3, 1) := by decide +kernel
theorem dX6_write_25 : decode cX6_write 25 = .ok (.invokevirtual 126, 3) := by decide +kernel
theorem dX6_write_28 : decode cX6_write 28 = .ok (.ireturn, 1) := by decide +kernel
set_option maxRecDepth 20000 in
theorem ggX6_lose_X6_errorOf : GoodIn wsX6_lose wsX6_errorOf := goodIn_r _ [5, 6, 7, 8, 9, 10, 4, 11, 12, 13, 14, 15, 16, 17, 18, 19, 20, 21, 22, 23, 90, 91, 92, 93, 94, 95, 96, 97, 98, 99, 100, 101, 102, 103, 104, 105, 106, 107] (by decide +kernel) (by decide +kernel)
set_option maxRecDepth 20000 in
theorem gX6_lose_X6_errorOf : GoodIn wsX6_lose (wsV RX6 129 RX6 yX6_errorOf wsX6_errorOf) := goodIn_app (goodIn_of _ (by decide +kernel)) ggX6_lose_X6_errorOf
set_option maxRecDepth 20000 in
theorem ggX6_lose_X6_records : GoodIn wsX6_lose wsX6_records := goodIn_r _ [27, 28, 29, 12, 30, 31, 4, 32, 90, 91, 92, 93, 94, 95, 96, 97, 98, 99, 100, 101, 102, 103, 104, 105, 106, 107] (by decide +kernel) (by decide +kernel)
set_option maxRecDepth 20000 in
theorem gX6_lose_X6_records : GoodIn wsX6_lose (wsV RX6 120 RX6 yX6_records wsX6_records) := goodIn_app (goodIn_of _ (by decide +kernel)) ggX6_lose_X6_records
set_option maxRecDepth 20000 in
theorem ggX6_lose_X6_goLose : GoodIn wsX6_lose wsX6_goLose := goodIn_r _ [36, 12, 37, 38, 39, 4, 40, 16, 17, 18, 19, 20, 21, 22, 23, 41, 42, 43, 44, 45, 46, 47, 48, 49, 50, 51, 52, 53, 54, 55, 56, 57, 58, 59, 60, 61, 62, 63, 64, 65, 66, 67, 68, 69, 70, 71, 72, 73, 74, 75, 76, 77, 78, 79, 80, 81, 82, 83, 84, 85, 86, 87, 88, 89, 90, 91, 92, 93, 94, 95, 96, 97, 98, 99, 100, 101, 102, 103, 104, 105, 106, 107] (by decide +kernel) (by decide +kernel)
set_option maxRecDepth 20000 in
theorem gX6_lose_X6_goLose : GoodIn wsX6_lose (wsV RX6 133 RX6 yX6_goLose wsX6_goLose) := goodIn_app (goodIn_of _ (by decide +kernel)) ggX6_lose_X6_goLose
theorem dX6_lose_0 : decode cX6_lose 0 = .ok (.aload_n 0, 1) := by decide +kernel
theorem dX6_lose_1 : decode cX6_lose 1 = .ok (.iload_n 1, 1) := by decide +kernel
theorem dX6_lose_2 : decode cX6_lose 2 = .ok (.iconst 1, 1) := by decide +kernel
theorem dX6_lose_3 : decode cX6_lose 3 = .ok (.invokevirtual 129, 3) := by decide +kernel
theorem dX6_lose_6 : decode cX6_lose 6 = .ok (.istore_n 2, 1) := by decide +kernel
theorem dX6_lose_7 : decode cX6_lose 7 = .ok (.iload_n 2, 1) := by decide +kernel
theorem dX6_lose_8 : decode cX6_lose 8 = .ok (.ifCond .ge 5, 3) := by decide +kernel
theorem dX6_lose_11 : decode cX6_lose 11 = .ok (.iload_n 2, 1) := by decide +kernel
theorem dX6_lose_12 : decode cX6_lose 12 = .ok (.ireturn, 1) := by decide +kernel
theorem dX6_lose_13 : decode cX6_lose 13 = .ok (.aload_n 0, 1) := by decide +kernel
theorem dX6_lose_14 : decode cX6_lose 14 = .ok (.invokevirtual 120, 3) := by decide +kernel
theorem dX6_lose_17 : decode cX6_lose 17 = .ok (.aload_n 0, 1) := by decide +kernel
theorem dX6_lose_18 : decode cX6_lose 18 = .ok (.iload_n 1, 1) := by decide +kernel
theorem dX6_lose_19 : decode cX6_lose 19 = .ok (.invokevirtual 133, 3) := by decide +kernel
theorem dX6_lose_22 : decode cX6_lose 22 = .ok (.ireturn, 1) := by decide +kernel
set_option maxRecDepth 20000 in
theorem ggX6_mend_X6_errorOf : GoodIn wsX6_mend wsX6_errorOf := goodIn_r _ [5, 6, 7, 8, 9, 10, 4, 11, 12, 13, 14, 15, 16, 17, 18, 19, 20, 21, 22, 23, 106, 107, 108, 109, 110, 111, 112, 113, 114, 115, 116, 117, 118, 119, 120, 121, 122, 123] (by decide +kernel) (by decide +kernel)
set_option maxRecDepth 20000 in
theorem gX6_mend_X6_errorOf : GoodIn wsX6_mend (wsV RX6 129 RX6 yX6_errorOf wsX6_errorOf) := goodIn_app (goodIn_of _ (by decide +kernel)) ggX6_mend_X6_errorOf
set_option maxRecDepth 20000 in
theorem ggX6_mend_X6_records : GoodIn wsX6_mend wsX6_records := goodIn_r _ [27, 28, 29, 12, 30, 31, 4, 32, 106, 107, 108, 109, 110, 111, 112, 113, 114, 115, 116, 117, 118, 119, 120, 121, 122, 123] (by decide +kernel) (by decide +kernel)
set_option maxRecDepth 20000 in
theorem gX6_mend_X6_records : GoodIn wsX6_mend (wsV RX6 120 RX6 yX6_records wsX6_records) := goodIn_app (goodIn_of _ (by decide +kernel)) ggX6_mend_X6_records
set_option maxRecDepth 20000 in
theorem ggX6_mend_X6_goMend : GoodIn wsX6_mend wsX6_goMend := goodIn_r _ [36, 12, 37, 38, 39, 4, 40, 16, 17, 18, 19, 20, 21, 22, 23, 41, 42, 43, 44, 45, 46, 47, 48, 49, 50, 51, 52, 53, 54, 55, 56, 57, 58, 59, 60, 61, 62, 63, 64, 65, 66, 67, 68, 69, 70, 71, 72, 73, 74, 75, 76, 77, 78, 79, 80, 81, 82, 83, 84, 85, 86, 87, 88, 89, 90, 91, 92, 93, 94, 95, 96, 97, 98, 99, 100, 101, 102, 103, 104, 105, 106, 107, 108, 109, 110, 111, 112, 113, 114, 115, 116, 117, 118, 119, 120, 121, 122, 123] (by decide +kernel) (by decide +kernel)
set_option maxRecDepth 20000 in
theorem gX6_mend_X6_goMend : GoodIn wsX6_mend (wsV RX6 136 RX6 yX6_goMend wsX6_goMend) := goodIn_app (goodIn_of _ (by decide +kernel)) ggX6_mend_X6_goMend
theorem dX6_mend_0 : decode cX6_mend 0 = .ok (.aload_n 0, 1) := by decide +kernel
theorem dX6_mend_1 : decode cX6_mend 1 = .ok (.iload_n 1, 1) := by decide +kernel
theorem dX6_mend_2 : decode cX6_mend 2 = .ok (.iconst 0, 1) := by decide +kernel
theorem dX6_mend_3 : decode cX6_mend 3 = .ok (.invokevirtual 129, 3) := by decide +kernel
theorem dX6_mend_6 : decode cX6_mend 6 = .ok (.istore_n 2, 1) := by decide +kernel
theorem dX6_mend_7 : decode cX6_mend 7 = .ok (.iload_n 2, 1) := by decide +kernel
theorem dX6_mend_8 : decode cX6_mend 8 = .ok (.ifCond .ge 5, 3) := by decide +kernel
theorem dX6_mend_11 : decode cX6_mend 11 = .ok (.iload_n 2, 1) := by decide +kernel
theorem dX6_mend_12 : decode cX6_mend 12 = .ok (.ireturn, 1) := by decide +kernel
theorem dX6_mend_13 : decode cX6_mend 13 = .ok (.aload_n 0, 1) := by decide +kernel
theorem dX6_mend_14 : decode cX6_mend 14 = .ok (.invokevirtual 120, 3) := by decide +kernel
theorem dX6_mend_17 : decode cX6_mend 17 = .ok (.aload_n 0, 1) := by decide +kernel
theorem dX6_mend_18 : decode cX6_mend 18 = .ok (.iload_n 1, 1) := by decide +kernel
theorem dX6_mend_19 : decode cX6_mend 19 = .ok (.invokevirtual 136, 3) := by decide +kernel
theorem dX6_mend_22 : decode cX6_mend 22 = .ok (.ireturn, 1) := by decide +kernel
set_option maxRecDepth 20000 in
theorem ggX6_swap_X6_errorSwap : GoodIn wsX6_swap wsX6_errorSwap := goodIn_r _ [5, 6, 7, 8, 9, 10, 4, 11, 12, 13, 14, 15, 16, 17, 18, 19, 20, 21, 22, 23, 41, 42, 43, 44, 45, 46, 47, 48, 49, 50, 51, 52, 53, 54, 55, 56, 57, 58] (by decide +kernel) (by decide +kernel)
set_option maxRecDepth 20000 in
theorem gX6_swap_X6_errorSwap : GoodIn wsX6_swap (wsV RX6 139 RX6 yX6_errorSwap wsX6_errorSwap) := goodIn_app (goodIn_of _ (by decide +kernel)) ggX6_swap_X6_errorSwap
set_option maxRecDepth 20000 in
theorem ggX6_swap_X6_records : GoodIn wsX6_swap wsX6_records := goodIn_r _ [27, 28, 29, 12, 30, 31, 4, 32, 41, 42, 43, 44, 45, 46, 47, 48, 49, 50, 51, 52, 53, 54, 55, 56, 57, 58] (by decide +kernel) (by decide +kernel)
set_option maxRecDepth 20000 in
theorem gX6_swap_X6_records : GoodIn wsX6_swap (wsV RX6 120 RX6 yX6_records wsX6_records) := goodIn_app (goodIn_of _ (by decide +kernel)) ggX6_swap_X6_records
set_option maxRecDepth 20000 in
theorem ggX6_swap_X6_goSwap : GoodIn wsX6_swap wsX6_goSwap := goodIn_r _ [36, 12, 20, 21, 22, 4, 23, 37, 38, 39, 40, 41, 42, 43, 44, 45, 46, 47, 48, 49, 50, 51, 52, 53, 54, 55, 56, 57, 58] (by decide +kernel) (by decide +kernel)
set_option maxRecDepth 20000 in
theorem gX6_swap_X6_goSwap : GoodIn wsX6_swap (wsV RX6 142 RX6 yX6_goSwap wsX6_goSwap) := goodIn_app (goodIn_of _ (by decide +kernel)) ggX6_swap_X6_goSwap
theorem dX6_swap_0 : decode cX6_swap 0 = .ok (.aload_n 0, 1) := by decide +kernel
theorem dX6_swap_1 : decode cX6_swap 1 = .ok (.iload_n 1, 1) := by decide +kernel
theorem dX6_swap_2 : decode cX6_swap 2 = .ok (.iload_n 2, 1) := by decide +kernel
theorem dX6_swap_3 : decode cX6_swap 3 = .ok (.invokevirtual 139, 3) := by decide +kernel
theorem dX6_swap_6 : decode cX6_swap 6 = .ok (.istore_n 3, 1) := by decide +kernel
theorem dX6_swap_7 : decode cX6_swap 7 = .ok (.iload_n 3, 1) := by decide +kernel
theorem dX6_swap_8 : decode cX6_swap 8 = .ok (.ifCond .ge 5, 3) := by decide +kernel
theorem dX6_swap_11 : decode cX6_swap 11 = .ok (.iload_n 3, 1) := by decide +kernel
theorem dX6_swap_12 : decode cX6_swap 12 = .ok (.ireturn, 1) := by decide +kernel
theorem dX6_swap_13 : decode cX6_swap 13 = .ok (.aload_n 0, 1) := by decide +kernel
theorem dX6_swap_14 : decode cX6_swap 14 = .ok (.invokevirtual 120, 3) := by decide +kernel
theorem dX6_swap_17 : decode cX6_swap 17 = .ok (.aload_n 0, 1) := by decide +kernel
theorem dX6_swap_18 : decode cX6_swap 18 = .ok (.iload_n 1, 1) := by decide +kernel
theorem dX6_swap_19 : decode cX6_swap 19 = .ok (.iload_n 2, 1) := by decide +kernel
theorem dX6_swap_20 : decode cX6_swap 20 = .ok (.invokevirtual 142, 3) := by decide +kernel
theorem dX6_swap_23 : decode cX6_swap 23 = .ok (.ireturn, 1) := by decide +kernel
set_option maxRecDepth 20000 in
theorem ggX6_lay_X6_errorOf : GoodIn wsX6_lay wsX6_errorOf := goodIn_r _ [5, 6, 7, 8, 9, 10, 4, 11, 12, 13, 14, 15, 16, 17, 18, 19, 20, 21, 22, 23, 78, 79, 80, 81, 82, 83, 84, 85, 86, 87, 88, 89, 90, 91, 92, 93, 94, 95] (by decide +kernel) (by decide +kernel)
set_option maxRecDepth 20000 in
theorem gX6_lay_X6_errorOf : GoodIn wsX6_lay (wsV RX6 129 RX6 yX6_errorOf wsX6_errorOf) := goodIn_app (goodIn_of _ (by decide +kernel)) ggX6_lay_X6_errorOf
set_option maxRecDepth 20000 in
theorem ggX6_lay_X6_records : GoodIn wsX6_lay wsX6_records := goodIn_r _ [27, 28, 29, 12, 30, 31, 4, 32, 78, 79, 80, 81, 82, 83, 84, 85, 86, 87, 88, 89, 90, 91, 92, 93, 94, 95] (by decide +kernel) (by decide +kernel)
set_option maxRecDepth 20000 in
theorem gX6_lay_X6_records : GoodIn wsX6_lay (wsV RX6 120 RX6 yX6_records wsX6_records) := goodIn_app (goodIn_of _ (by decide +kernel)) ggX6_lay_X6_records
set_option maxRecDepth 20000 in
theorem ggX6_lay_X6_laysRow : GoodIn wsX6_lay wsX6_laysRow := goodIn_r _ [36, 37, 38, 39, 4, 40, 12, 41, 42, 43, 44, 45, 46, 47, 48, 20, 21, 22, 23, 49, 50, 51, 52, 53, 54, 55, 56, 57, 16, 17, 18, 19, 58, 59, 60, 61, 62, 63, 64, 65, 66, 67, 68, 69, 70, 71, 72, 73, 74, 75, 76, 77, 78, 79, 80, 81, 82, 83, 84, 85, 86, 87, 88, 89, 90, 91, 92, 93, 94, 95] (by decide +kernel) (by decide +kernel)
set_option maxRecDepth 20000 in
theorem gX6_lay_X6_laysRow : GoodIn wsX6_lay (wsV RX6 102 RX6 yX6_laysRow wsX6_laysRow) := goodIn_app (goodIn_of _ (by decide +kernel)) ggX6_lay_X6_laysRow
theorem dX6_lay_0 : decode cX6_lay 0 = .ok (.aload_n 0, 1) := by decide +kernel
theorem dX6_lay_1 : decode cX6_lay 1 = .ok (.iload_n 1, 1) := by decide +kernel
theorem dX6_lay_2 : decode cX6_lay 2 = .ok (.iconst 1, 1) := by decide +kernel
theorem dX6_lay_3 : decode cX6_lay 3 = .ok (.invokevirtual 129, 3) := by decide +kernel
theorem dX6_lay_6 : decode cX6_lay 6 = .ok (.istore_n 2, 1) := by decide +kernel
theorem dX6_lay_7 : decode cX6_lay 7 = .ok (.iload_n 2, 1) := by decide +kernel
theorem dX6_lay_8 : decode cX6_lay 8 = .ok (.ifCond .ge 5, 3) := by decide +kernel
theorem dX6_lay_11 : decode cX6_lay 11 = .ok (.iload_n 2, 1) := by decide +kernel
theorem dX6_lay_12 : decode cX6_lay 12 = .ok (.ireturn, 1) := by decide +kernel
theorem dX6_lay_13 : decode cX6_lay 13 = .ok (.aload_n 0, 1) := by decide +kernel
theorem dX6_lay_14 : decode cX6_lay 14 = .ok (.invokevirtual 120, 3) := by decide +kernel
theorem dX6_lay_17 : decode cX6_lay 17 = .ok (.aload_n 0, 1) := by decide +kernel
theorem dX6_lay_18 : decode cX6_lay 18 = .ok (.iload_n 1, 1) := by decide +kernel
theorem dX6_lay_19 : decode cX6_lay 19 = .ok (.invokevirtual 102, 3) := by decide +kernel
theorem dX6_lay_22 : decode cX6_lay 22 = .ok (.ireturn, 1) := by decide +kernel
set_option maxRecDepth 20000 in
theorem ggX6_days_X6_errorDays : GoodIn wsX6_days wsX6_errorDays := goodIn_r _ [6, 7, 1, 8, 9, 10, 5, 11, 21, 22, 23, 24, 25, 26, 27, 28, 29, 30, 31, 32, 33, 34, 35, 36, 37, 38] (by decide +kernel) (by decide +kernel)
set_option maxRecDepth 20000 in
theorem gX6_days_X6_errorDays : GoodIn wsX6_days (wsV RX6 145 RX6 yX6_errorDays wsX6_errorDays) := goodIn_app (goodIn_of _ (by decide +kernel)) ggX6_days_X6_errorDays
set_option maxRecDepth 20000 in
theorem ggX6_days_X6_records : GoodIn wsX6_days wsX6_records := goodIn_r _ [15, 16, 17, 1, 18, 19, 5, 20, 21, 22, 23, 24, 25, 26, 27, 28, 29, 30, 31, 32, 33, 34, 35, 36, 37, 38] (by decide +kernel) (by decide +kernel)
set_option maxRecDepth 20000 in
theorem gX6_days_X6_records : GoodIn wsX6_days (wsV RX6 120 RX6 yX6_records wsX6_records) := goodIn_app (goodIn_of _ (by decide +kernel)) ggX6_days_X6_records
theorem dX6_days_0 : decode cX6_days 0 = .ok (.aload_n 0, 1) := by decide +kernel
theorem dX6_days_1 : decode cX6_days 1 = .ok (.iload_n 1, 1) := by decide +kernel
theorem dX6_days_2 : decode cX6_days 2 = .ok (.invokevirtual 145, 3) := by decide +kernel
theorem dX6_days_5 : decode cX6_days 5 = .ok (.istore_n 2, 1) := by decide +kernel
theorem dX6_days_6 : decode cX6_days 6 = .ok (.iload_n 2, 1) := by decide +kernel
theorem dX6_days_7 : decode cX6_days 7 = .ok (.ifCond .ge 5, 3) := by decide +kernel
theorem dX6_days_10 : decode cX6_days 10 = .ok (.iload_n 2, 1) := by decide +kernel
theorem dX6_days_11 : decode cX6_days 11 = .ok (.ireturn, 1) := by decide +kernel
theorem dX6_days_12 : decode cX6_days 12 = .ok (.aload_n 0, 1) := by decide +kernel
theorem dX6_days_13 : decode cX6_days 13 = .ok (.invokevirtual 120, 3) := by decide +kernel
theorem dX6_days_16 : decode cX6_days 16 = .ok (.aload_n 0, 1) := by decide +kernel
theorem dX6_days_17 : decode cX6_days 17 = .ok (.getfield 7, 3) := by decide +kernel
theorem dX6_days_20 : decode cX6_days 20 = .ok (.iconst 1, 1) := by decide +kernel
theorem dX6_days_21 : decode cX6_days 21 = .ok (.dup2, 1) := by decide +kernel
theorem dX6_days_22 : decode cX6_days 22 = .ok (.iaload, 1) := by decide +kernel
theorem dX6_days_23 : decode cX6_days 23 = .ok (.iload_n 1, 1) := by decide +kernel
theorem dX6_days_24 : decode cX6_days 24 = .ok (.iadd, 1) := by decide +kernel
theorem dX6_days_25 : decode cX6_days 25 = .ok (.iastore, 1) := by decide +kernel
theorem dX6_days_26 : decode cX6_days 26 = .ok (.aload_n 0, 1) := by decide +kernel
theorem dX6_days_27 : decode cX6_days 27 = .ok (.getfield 7, 3) := by decide +kernel
theorem dX6_days_30 : decode cX6_days 30 = .ok (.iconst 1, 1) := by decide +kernel
theorem dX6_days_31 : decode cX6_days 31 = .ok (.iaload, 1) := by decide +kernel
theorem dX6_days_32 : decode cX6_days 32 = .ok (.ireturn, 1) := by decide +kernel
set_option maxRecDepth 20000 in
theorem ggX6_set_X6_in : GoodIn wsX6_set wsX6_in := goodIn_r _ [6] (by decide +kernel) (by decide +kernel)
set_option maxRecDepth 20000 in
theorem gX6_set_X6_in : GoodIn wsX6_set (va_wsS RX6 43 yX6_in wsX6_in) := goodIn_app (goodIn_of _ (by decide +kernel)) ggX6_set_X6_in
set_option maxRecDepth 20000 in
theorem ggX6_set_X6_records : GoodIn wsX6_set wsX6_records := goodIn_r _ [10, 11, 12, 2, 13, 14, 5, 15, 28, 29, 30, 31, 32, 33, 34, 35, 36, 37, 38, 39, 40, 41, 42, 43, 44, 45] (by decide +kernel) (by decide +kernel)
set_option maxRecDepth 20000 in
theorem gX6_set_X6_records : GoodIn wsX6_set (wsV RX6 120 RX6 yX6_records wsX6_records) := goodIn_app (goodIn_of _ (by decide +kernel)) ggX6_set_X6_records
set_option maxRecDepth 20000 in
theorem ggX6_set_X6_of : GoodIn wsX6_set wsX6_of := goodIn_r _ [19, 2, 28, 29, 30, 31, 32, 33, 34, 35, 36, 37, 38, 39, 40, 41, 42, 43, 44, 45] (by decide +kernel) (by decide +kernel)
set_option maxRecDepth 20000 in
theorem gX6_set_X6_of : GoodIn wsX6_set (wsV RX6 47 RX6 yX6_of wsX6_of) := goodIn_app (goodIn_of _ (by decide +kernel)) ggX6_set_X6_of
set_option maxRecDepth 20000 in
theorem ggX6_set_X6_drops : GoodIn wsX6_set wsX6_drops := goodIn_r _ [23, 2, 16, 17, 18, 5, 19, 24, 25, 26, 27, 28, 29, 30, 31, 32, 33, 34, 35, 36, 37, 38, 39, 40, 41, 42, 43, 44, 45] (by decide +kernel) (by decide +kernel)
set_option maxRecDepth 20000 in
theorem gX6_set_X6_drops : GoodIn wsX6_set (wsV RX6 82 RX6 yX6_drops wsX6_drops) := goodIn_app (goodIn_of _ (by decide +kernel)) ggX6_set_X6_drops
theorem dX6_set_0 : decode cX6_set 0 = .ok (.iload_n 1, 1) := by decide +kernel
theorem dX6_set_1 : decode cX6_set 1 = .ok (.iconst 0, 1) := by decide +kernel
theorem dX6_set_2 : decode cX6_set 2 = .ok (.iconst 1, 1) := by decide +kernel
theorem dX6_set_3 : decode cX6_set 3 = .ok (.invokestatic 43, 3) := by decide +kernel
theorem dX6_set_6 : decode cX6_set 6 = .ok (.ifCond .eq 22, 3) := by decide +kernel
theorem dX6_set_9 : decode cX6_set 9 = .ok (.iload_n 2, 1) := by decide +kernel
theorem dX6_set_10 : decode cX6_set 10 = .ok (.iconst 1, 1) := by decide +kernel
theorem dX6_set_11 : decode cX6_set 11 = .ok (.iload_n 1, 1) := by decide +kernel
theorem dX6_set_12 : decode cX6_set 12 = .ok (.ifCond .ne 8, 3) := by decide +kernel
theorem dX6_set_15 : decode cX6_set 15 = .ok (.bipush 16, 2) := by decide +kernel
theorem dX6_set_17 : decode cX6_set 17 = .ok (.goto 5, 3) := by decide +kernel
theorem dX6_set_20 : decode cX6_set 20 = .ok (.bipush 99, 2) := by decide +kernel
theorem dX6_set_22 : decode cX6_set 22 = .ok (.invokestatic 43, 3) := by decide +kernel
theorem dX6_set_25 : decode cX6_set 25 = .ok (.ifCond .ne 6, 3) := by decide +kernel
theorem dX6_set_28 : decode cX6_set 28 = .ok (.ldc 114, 2) := by decide +kernel
theorem dX6_set_30 : decode cX6_set 30 = .ok (.ireturn, 1) := by decide +kernel
theorem dX6_set_31 : decode cX6_set 31 = .ok (.aload_n 0, 1) := by decide +kernel
theorem dX6_set_32 : decode cX6_set 32 = .ok (.invokevirtual 120, 3) := by decide +kernel
theorem dX6_set_35 : decode cX6_set 35 = .ok (.aload_n 0, 1) := by decide +kernel
theorem dX6_set_36 : decode cX6_set 36 = .ok (.getfield 7, 3) := by decide +kernel
theorem dX6_set_39 : decode cX6_set 39 = .ok (.iconst 2, 1) := by decide +kernel
theorem dX6_set_40 : decode cX6_set 40 = .ok (.iload_n 1, 1) := by decide +kernel
theorem dX6_set_41 : decode cX6_set 41 = .ok (.iadd, 1) := by decide +kernel
theorem dX6_set_42 : decode cX6_set 42 = .ok (.iaload, 1) := by decide +kernel
theorem dX6_set_43 : decode cX6_set 43 = .ok (.istore_n 3, 1) := by decide +kernel
theorem dX6_set_44 : decode cX6_set 44 = .ok (.aload_n 0, 1) := by decide +kernel
theorem dX6_set_45 : decode cX6_set 45 = .ok (.getfield 7, 3) := by decide +kernel
theorem dX6_set_48 : decode cX6_set 48 = .ok (.iconst 2, 1) := by decide +kernel
theorem dX6_set_49 : decode cX6_set 49 = .ok (.iload_n 1, 1) := by decide +kernel
theorem dX6_set_50 : decode cX6_set 50 = .ok (.iadd, 1) := by decide +kernel
theorem dX6_set_51 : decode cX6_set 51 = .ok (.iload_n 2, 1) := by decide +kernel
theorem dX6_set_52 : decode cX6_set 52 = .ok (.iastore, 1) := by decide +kernel
theorem dX6_set_53 : decode cX6_set 53 = .ok (.iconst 0, 1) := by decide +kernel
theorem dX6_set_54 : decode cX6_set 54 = .ok (.istore 4, 2) := by decide +kernel
theorem dX6_set_56 : decode cX6_set 56 = .ok (.iload 4, 2) := by decide +kernel
theorem dX6_set_58 : decode cX6_set 58 = .ok (.aload_n 0, 1) := by decide +kernel
theorem dX6_set_59 : decode cX6_set 59 = .ok (.getfield 7, 3) := by decide +kernel
theorem dX6_set_62 : decode cX6_set 62 = .ok (.iconst 0, 1) := by decide +kernel
theorem dX6_set_63 : decode cX6_set 63 = .ok (.iaload, 1) := by decide +kernel
theorem dX6_set_64 : decode cX6_set 64 = .ok (.if_icmp .ge 35, 3) := by decide +kernel
theorem dX6_set_67 : decode cX6_set 67 = .ok (.aload_n 0, 1) := by decide +kernel
theorem dX6_set_68 : decode cX6_set 68 = .ok (.iload 4, 2) := by decide +kernel
theorem dX6_set_70 : decode cX6_set 70 = .ok (.iconst 4, 1) := by decide +kernel
theorem dX6_set_71 : decode cX6_set 71 = .ok (.invokevirtual 47, 3) := by decide +kernel
theorem dX6_set_74 : decode cX6_set 74 = .ok (.aload_n 0, 1) := by decide +kernel
theorem dX6_set_75 : decode cX6_set 75 = .ok (.getfield 7, 3) := by decide +kernel
theorem dX6_set_78 : decode cX6_set 78 = .ok (.iconst 2, 1) := by decide +kernel
theorem dX6_set_79 : decode cX6_set 79 = .ok (.iaload, 1) := by decide +kernel
theorem dX6_set_80 : decode cX6_set 80 = .ok (.if_icmp .le 13, 3) := by decide +kernel
theorem dX6_set_83 : decode cX6_set 83 = .ok (.aload_n 0, 1) := by decide +kernel
theorem dX6_set_84 : decode cX6_set 84 = .ok (.iload 4, 2) := by decide +kernel
theorem dX6_set_86 : decode cX6_set 86 = .ok (.iconst 0, 1) := by decide +kernel
theorem dX6_set_87 : decode cX6_set 87 = .ok (.invokevirtual 82, 3) := by decide +kernel
theorem dX6_set_90 : decode cX6_set 90 = .ok (.goto (-23), 3) := by decide +kernel
theorem dX6_set_93 : decode cX6_set 93 = .ok (.iinc 4 1, 3) := by decide +kernel
theorem dX6_set_96 : decode cX6_set 96 = .ok (.goto (-40), 3) := by decide +kernel
theorem dX6_set_99 : decode cX6_set 99 = .ok (.iload_n 3, 1) := by decide +kernel
theorem dX6_set_100 : decode cX6_set 100 = .ok (.ireturn, 1) := by decide +kernel
set_option maxRecDepth 20000 in
theorem ggX6_cell_X6_isRow : GoodIn wsX6_cell wsX6_isRow := goodIn_r _ [7, 8, 9, 10, 6, 11, 67, 68, 69, 70, 71, 72, 73, 74, 75, 76, 77, 78, 79, 80, 81, 82, 83, 84] (by decide +kernel) (by decide +kernel)
set_option maxRecDepth 20000 in
theorem gX6_cell_X6_isRow : GoodIn wsX6_cell (wsV RX6 111 RX6 yX6_isRow wsX6_isRow) := goodIn_app (goodIn_of _ (by decide +kernel)) ggX6_cell_X6_isRow
set_option maxRecDepth 20000 in
theorem ggX6_cell_X6_isCell : GoodIn wsX6_cell wsX6_isCell := goodIn_r _ [14, 9, 10, 6, 11] (by decide +kernel) (by decide +kernel)
set_option maxRecDepth 20000 in
theorem gX6_cell_X6_isCell : GoodIn wsX6_cell (va_wsS RX6 116 yX6_isCell wsX6_isCell) := goodIn_app (goodIn_of _ (by decide +kernel)) ggX6_cell_X6_isCell
set_option maxRecDepth 20000 in
theorem ggX6_cell_X6_of : GoodIn wsX6_cell wsX6_of := goodIn_r _ [18, 8, 67, 68, 69, 70, 71, 72, 73, 74, 75, 76, 77, 78, 79, 80, 81, 82, 83, 84] (by decide +kernel) (by decide +kernel)
set_option maxRecDepth 20000 in
theorem gX6_cell_X6_of : GoodIn wsX6_cell (wsV RX6 47 RX6 yX6_of wsX6_of) := goodIn_app (goodIn_of _ (by decide +kernel)) ggX6_cell_X6_of
set_option maxRecDepth 20000 in
theorem ggX6_cell_X6_heard : GoodIn wsX6_cell wsX6_heard := goodIn_r _ [22, 23, 24, 25, 6, 26, 2, 27, 28, 29, 30, 31, 32, 33, 34, 8, 15, 16, 17, 18, 35, 36, 37, 38, 39, 40, 41, 42, 43, 44, 45, 46, 47, 48, 49, 50, 51, 52, 53, 54, 55, 56, 57, 58, 59, 60, 61, 62, 67, 68, 69, 70, 71, 72, 73, 74, 75, 76, 77, 78, 79, 80, 81, 82, 83, 84] (by decide +kernel) (by decide +kernel)
set_option maxRecDepth 20000 in
theorem gX6_cell_X6_heard : GoodIn wsX6_cell (wsV RX6 99 RX6 yX6_heard wsX6_heard) := goodIn_app (goodIn_of _ (by decide +kernel)) ggX6_cell_X6_heard
set_option maxRecDepth 20000 in
theorem ggX6_cell_X6_heardAge : GoodIn wsX6_cell wsX6_heardAge := goodIn_r _ [66, 2, 23, 24, 25, 6, 26, 27, 28, 29, 30, 31, 32, 33, 34, 8, 15, 16, 17, 18, 35, 36, 37, 38, 39, 40, 41, 42, 43, 44, 45, 46, 47, 48, 49, 50, 51, 52, 53, 54, 55, 56, 57, 58, 59, 60, 61, 62, 67, 68, 69, 70, 71, 72, 73, 74, 75, 76, 77, 78, 79, 80, 81, 82, 83, 84] (by decide +kernel) (by decide +kernel)
set_option maxRecDepth 20000 in
theorem gX6_cell_X6_heardAge : GoodIn wsX6_cell (wsV RX6 148 RX6 yX6_heardAge wsX6_heardAge) := goodIn_app (goodIn_of _ (by decide +kernel)) ggX6_cell_X6_heardAge
theorem dX6_cell_0 : decode cX6_cell 0 = .ok (.aload_n 0, 1) := by decide +kernel
theorem dX6_cell_1 : decode cX6_cell 1 = .ok (.iload_n 1, 1) := by decide +kernel
theorem dX6_cell_2 : decode cX6_cell 2 = .ok (.invokevirtual 111, 3) := by decide +kernel
theorem dX6_cell_5 : decode cX6_cell 5 = .ok (.ifCond .eq 10, 3) := by decide +kernel
theorem dX6_cell_8 : decode cX6_cell 8 = .ok (.iload_n 2, 1) := by decide +kernel
theorem dX6_cell_9 : decode cX6_cell 9 = .ok (.invokestatic 116, 3) := by decide +kernel
theorem dX6_cell_12 : decode cX6_cell 12 = .ok (.ifCond .ne 6, 3) := by decide +kernel
theorem dX6_cell_15 : decode cX6_cell 15 = .ok (.ldc 114, 2) := by decide +kernel
theorem dX6_cell_17 : decode cX6_cell 17 = .ok (.ireturn, 1) := by decide +kernel
theorem dX6_cell_18 : decode cX6_cell 18 = .ok (.aload_n 0, 1) := by decide +kernel
theorem dX6_cell_19 : decode cX6_cell 19 = .ok (.iload_n 1, 1) := by decide +kernel
theorem dX6_cell_20 : decode cX6_cell 20 = .ok (.iconst 5, 1) := by decide +kernel
theorem dX6_cell_21 : decode cX6_cell 21 = .ok (.iload_n 2, 1) := by decide +kernel
theorem dX6_cell_22 : decode cX6_cell 22 = .ok (.iadd, 1) := by decide +kernel
theorem dX6_cell_23 : decode cX6_cell 23 = .ok (.invokevirtual 47, 3) := by decide +kernel
theorem dX6_cell_26 : decode cX6_cell 26 = .ok (.istore 4, 2) := by decide +kernel
theorem dX6_cell_28 : decode cX6_cell 28 = .ok (.iload_n 3, 1) := by decide +kernel
theorem dX6_cell_29 : decode cX6_cell 29 = .ok (.tableswitch 112 0 4 #[35, 50, 60, 83, 90], 35) := by decide +kernel
theorem dX6_cell_64 : decode cX6_cell 64 = .ok (.iload 4, 2) := by decide +kernel
theorem dX6_cell_66 : decode cX6_cell 66 = .ok (.ifCond .ne 8, 3) := by decide +kernel
theorem dX6_cell_69 : decode cX6_cell 69 = .ok (.ldc 51, 2) := by decide +kernel
theorem dX6_cell_71 : decode cX6_cell 71 = .ok (.goto 7, 3) := by decide +kernel
theorem dX6_cell_74 : decode cX6_cell 74 = .ok (.iload 4, 2) := by decide +kernel
theorem dX6_cell_76 : decode cX6_cell 76 = .ok (.iconst 1, 1) := by decide +kernel
theorem dX6_cell_77 : decode cX6_cell 77 = .ok (.isub, 1) := by decide +kernel
theorem dX6_cell_78 : decode cX6_cell 78 = .ok (.ireturn, 1) := by decide +kernel
theorem dX6_cell_79 : decode cX6_cell 79 = .ok (.aload_n 0, 1) := by decide +kernel
theorem dX6_cell_80 : decode cX6_cell 80 = .ok (.iload_n 1, 1) := by decide +kernel
theorem dX6_cell_81 : decode cX6_cell 81 = .ok (.bipush 21, 2) := by decide +kernel
theorem dX6_cell_83 : decode cX6_cell 83 = .ok (.iload_n 2, 1) := by decide +kernel
theorem dX6_cell_84 : decode cX6_cell 84 = .ok (.iadd, 1) := by decide +kernel
theorem dX6_cell_85 : decode cX6_cell 85 = .ok (.invokevirtual 47, 3) := by decide +kernel
theorem dX6_cell_88 : decode cX6_cell 88 = .ok (.ireturn, 1) := by decide +kernel
theorem dX6_cell_89 : decode cX6_cell 89 = .ok (.aload_n 0, 1) := by decide +kernel
theorem dX6_cell_90 : decode cX6_cell 90 = .ok (.iload_n 1, 1) := by decide +kernel
theorem dX6_cell_91 : decode cX6_cell 91 = .ok (.iload_n 2, 1) := by decide +kernel
theorem dX6_cell_92 : decode cX6_cell 92 = .ok (.invokevirtual 99, 3) := by decide +kernel
theorem dX6_cell_95 : decode cX6_cell 95 = .ok (.ifCond .ne 8, 3) := by decide +kernel
theorem dX6_cell_98 : decode cX6_cell 98 = .ok (.ldc 51, 2) := by decide +kernel
theorem dX6_cell_100 : decode cX6_cell 100 = .ok (.goto 11, 3) := by decide +kernel
theorem dX6_cell_103 : decode cX6_cell 103 = .ok (.aload_n 0, 1) := by decide +kernel
theorem dX6_cell_104 : decode cX6_cell 104 = .ok (.iload_n 1, 1) := by decide +kernel
theorem dX6_cell_105 : decode cX6_cell 105 = .ok (.iload_n 2, 1) := by decide +kernel
theorem dX6_cell_106 : decode cX6_cell 106 = .ok (.invokevirtual 99, 3) := by decide +kernel
theorem dX6_cell_109 : decode cX6_cell 109 = .ok (.iconst 1, 1) := by decide +kernel
theorem dX6_cell_110 : decode cX6_cell 110 = .ok (.isub, 1) := by decide +kernel
theorem dX6_cell_111 : decode cX6_cell 111 = .ok (.ireturn, 1) := by decide +kernel
theorem dX6_cell_112 : decode cX6_cell 112 = .ok (.aload_n 0, 1) := by decide +kernel
theorem dX6_cell_113 : decode cX6_cell 113 = .ok (.iload_n 1, 1) := by decide +kernel
theorem dX6_cell_114 : decode cX6_cell 114 = .ok (.iload_n 2, 1) := by decide +kernel
theorem dX6_cell_115 : decode cX6_cell 115 = .ok (.invokevirtual 148, 3) := by decide +kernel
theorem dX6_cell_118 : decode cX6_cell 118 = .ok (.ireturn, 1) := by decide +kernel
theorem dX6_cell_119 : decode cX6_cell 119 = .ok (.iload 4, 2) := by decide +kernel
theorem dX6_cell_121 : decode cX6_cell 121 = .ok (.ifCond .le 18, 3) := by decide +kernel
theorem dX6_cell_124 : decode cX6_cell 124 = .ok (.aload_n 0, 1) := by decide +kernel
theorem dX6_cell_125 : decode cX6_cell 125 = .ok (.iload_n 1, 1) := by decide +kernel
theorem dX6_cell_126 : decode cX6_cell 126 = .ok (.iload_n 2, 1) := by decide +kernel
theorem dX6_cell_127 : decode cX6_cell 127 = .ok (.invokevirtual 99, 3) := by decide +kernel
theorem dX6_cell_130 : decode cX6_cell 130 = .ok (.iload 4, 2) := by decide +kernel
theorem dX6_cell_132 : decode cX6_cell 132 = .ok (.if_icmp .ne 7, 3) := by decide +kernel
theorem dX6_cell_135 : decode cX6_cell 135 = .ok (.iconst 1, 1) := by decide +kernel
theorem dX6_cell_136 : decode cX6_cell 136 = .ok (.goto 4, 3) := by decide +kernel
theorem dX6_cell_139 : decode cX6_cell 139 = .ok (.iconst 0, 1) := by decide +kernel
theorem dX6_cell_140 : decode cX6_cell 140 = .ok (.ireturn, 1) := by decide +kernel
theorem dX6_cell_141 : decode cX6_cell 141 = .ok (.ldc 114, 2) := by decide +kernel
theorem dX6_cell_143 : decode cX6_cell 143 = .ok (.ireturn, 1) := by decide +kernel
set_option maxRecDepth 20000 in
theorem ggX6_margin_X6_isRow : GoodIn wsX6_margin wsX6_isRow := goodIn_r _ [7, 8, 9, 10, 6, 11, 28, 29, 30, 31, 32, 33, 34, 35, 36, 37, 38, 39, 40, 41, 42, 43, 44, 45] (by decide +kernel) (by decide +kernel)
set_option maxRecDepth 20000 in
theorem gX6_margin_X6_isRow : GoodIn wsX6_margin (wsV RX6 111 RX6 yX6_isRow wsX6_isRow) := goodIn_app (goodIn_of _ (by decide +kernel)) ggX6_margin_X6_isRow
set_option maxRecDepth 20000 in
theorem ggX6_margin_X6_in : GoodIn wsX6_margin wsX6_in := goodIn_r _ [11] (by decide +kernel) (by decide +kernel)
set_option maxRecDepth 20000 in
theorem gX6_margin_X6_in : GoodIn wsX6_margin (va_wsS RX6 43 yX6_in wsX6_in) := goodIn_app (goodIn_of _ (by decide +kernel)) ggX6_margin_X6_in
set_option maxRecDepth 20000 in
theorem ggX6_margin_X6_of : GoodIn wsX6_margin wsX6_of := goodIn_r _ [15, 8, 28, 29, 30, 31, 32, 33, 34, 35, 36, 37, 38, 39, 40, 41, 42, 43, 44, 45] (by decide +kernel) (by decide +kernel)
set_option maxRecDepth 20000 in
theorem gX6_margin_X6_of : GoodIn wsX6_margin (wsV RX6 47 RX6 yX6_of wsX6_of) := goodIn_app (goodIn_of _ (by decide +kernel)) ggX6_margin_X6_of
set_option maxRecDepth 20000 in
theorem ggX6_margin_X6_echo : GoodIn wsX6_margin wsX6_echo := goodIn_r _ [19, 12, 13, 14, 6, 15, 8, 28, 29, 30, 31, 32, 33, 34, 35, 36, 37, 38, 39, 40, 41, 42, 43, 44, 45] (by decide +kernel) (by decide +kernel)
set_option maxRecDepth 20000 in
theorem gX6_margin_X6_echo : GoodIn wsX6_margin (wsV RX6 61 RX6 yX6_echo wsX6_echo) := goodIn_app (goodIn_of _ (by decide +kernel)) ggX6_margin_X6_echo
set_option maxRecDepth 20000 in
theorem ggX6_margin_X6_age : GoodIn wsX6_margin wsX6_age := goodIn_r _ [23, 8, 16, 17, 18, 6, 19, 12, 13, 14, 15, 28, 29, 30, 31, 32, 33, 34, 35, 36, 37, 38, 39, 40, 41, 42, 43, 44, 45] (by decide +kernel) (by decide +kernel)
set_option maxRecDepth 20000 in
theorem gX6_margin_X6_age : GoodIn wsX6_margin (wsV RX6 65 RX6 yX6_age wsX6_age) := goodIn_app (goodIn_of _ (by decide +kernel)) ggX6_margin_X6_age
set_option maxRecDepth 20000 in
theorem ggX6_margin_X6_isFaded : GoodIn wsX6_margin wsX6_isFaded := goodIn_r _ [27, 8, 20, 21, 22, 6, 23, 16, 17, 18, 19, 12, 13, 14, 15, 28, 29, 30, 31, 32, 33, 34, 35, 36, 37, 38, 39, 40, 41, 42, 43, 44, 45] (by decide +kernel) (by decide +kernel)
set_option maxRecDepth 20000 in
theorem gX6_margin_X6_isFaded : GoodIn wsX6_margin (wsV RX6 92 RX6 yX6_isFaded wsX6_isFaded) := goodIn_app (goodIn_of _ (by decide +kernel)) ggX6_margin_X6_isFaded
theorem dX6_margin_0 : decode cX6_margin 0 = .ok (.aload_n 0, 1) := by decide +kernel
theorem dX6_margin_1 : decode cX6_margin 1 = .ok (.iload_n 1, 1) := by decide +kernel
theorem dX6_margin_2 : decode cX6_margin 2 = .ok (.invokevirtual 111, 3) := by decide +kernel
theorem dX6_margin_5 : decode cX6_margin 5 = .ok (.ifCond .eq 16, 3) := by decide +kernel
theorem dX6_margin_8 : decode cX6_margin 8 = .ok (.iload_n 2, 1) := by decide +kernel
theorem dX6_margin_9 : decode cX6_margin 9 = .ok (.ifCond .lt 12, 3) := by decide +kernel
theorem dX6_margin_12 : decode cX6_margin 12 = .ok (.iload_n 3, 1) := by decide +kernel
theorem dX6_margin_13 : decode cX6_margin 13 = .ok (.iconst 0, 1) := by decide +kernel
theorem dX6_margin_14 : decode cX6_margin 14 = .ok (.iconst 4, 1) := by decide +kernel
theorem dX6_margin_15 : decode cX6_margin 15 = .ok (.invokestatic 43, 3) := by decide +kernel
theorem dX6_margin_18 : decode cX6_margin 18 = .ok (.ifCond .ne 6, 3) := by decide +kernel
theorem dX6_margin_21 : decode cX6_margin 21 = .ok (.ldc 114, 2) := by decide +kernel
theorem dX6_margin_23 : decode cX6_margin 23 = .ok (.ireturn, 1) := by decide +kernel
theorem dX6_margin_24 : decode cX6_margin 24 = .ok (.iload_n 2, 1) := by decide +kernel
theorem dX6_margin_25 : decode cX6_margin 25 = .ok (.aload_n 0, 1) := by decide +kernel
theorem dX6_margin_26 : decode cX6_margin 26 = .ok (.iload_n 1, 1) := by decide +kernel
theorem dX6_margin_27 : decode cX6_margin 27 = .ok (.iconst 4, 1) := by decide +kernel
theorem dX6_margin_28 : decode cX6_margin 28 = .ok (.invokevirtual 47, 3) := by decide +kernel
theorem dX6_margin_31 : decode cX6_margin 31 = .ok (.if_icmp .lt 6, 3) := by decide +kernel
theorem dX6_margin_34 : decode cX6_margin 34 = .ok (.ldc 51, 2) := by decide +kernel
theorem dX6_margin_36 : decode cX6_margin 36 = .ok (.ireturn, 1) := by decide +kernel
theorem dX6_margin_37 : decode cX6_margin 37 = .ok (.aload_n 0, 1) := by decide +kernel
theorem dX6_margin_38 : decode cX6_margin 38 = .ok (.iload_n 1, 1) := by decide +kernel
theorem dX6_margin_39 : decode cX6_margin 39 = .ok (.iload_n 2, 1) := by decide +kernel
theorem dX6_margin_40 : decode cX6_margin 40 = .ok (.iconst 0, 1) := by decide +kernel
theorem dX6_margin_41 : decode cX6_margin 41 = .ok (.invokevirtual 61, 3) := by decide +kernel
theorem dX6_margin_44 : decode cX6_margin 44 = .ok (.istore 4, 2) := by decide +kernel
theorem dX6_margin_46 : decode cX6_margin 46 = .ok (.iload_n 3, 1) := by decide +kernel
theorem dX6_margin_47 : decode cX6_margin 47 = .ok (.ifCond .ne 11, 3) := by decide +kernel
theorem dX6_margin_50 : decode cX6_margin 50 = .ok (.iload 4, 2) := by decide +kernel
theorem dX6_margin_52 : decode cX6_margin 52 = .ok (.bipush 8, 2) := by decide +kernel
theorem dX6_margin_54 : decode cX6_margin 54 = .ok (.idiv, 1) := by decide +kernel
theorem dX6_margin_55 : decode cX6_margin 55 = .ok (.goto 59, 3) := by decide +kernel
theorem dX6_margin_58 : decode cX6_margin 58 = .ok (.iload_n 3, 1) := by decide +kernel
theorem dX6_margin_59 : decode cX6_margin 59 = .ok (.iconst 1, 1) := by decide +kernel
theorem dX6_margin_60 : decode cX6_margin 60 = .ok (.if_icmp .ne 11, 3) := by decide +kernel
theorem dX6_margin_63 : decode cX6_margin 63 = .ok (.iload 4, 2) := by decide +kernel
theorem dX6_margin_65 : decode cX6_margin 65 = .ok (.bipush 8, 2) := by decide +kernel
theorem dX6_margin_67 : decode cX6_margin 67 = .ok (.irem, 1) := by decide +kernel
theorem dX6_margin_68 : decode cX6_margin 68 = .ok (.goto 46, 3) := by decide +kernel
theorem dX6_margin_71 : decode cX6_margin 71 = .ok (.iload_n 3, 1) := by decide +kernel
theorem dX6_margin_72 : decode cX6_margin 72 = .ok (.iconst 2, 1) := by decide +kernel
theorem dX6_margin_73 : decode cX6_margin 73 = .ok (.if_icmp .ne 13, 3) := by decide +kernel
theorem dX6_margin_76 : decode cX6_margin 76 = .ok (.aload_n 0, 1) := by decide +kernel
theorem dX6_margin_77 : decode cX6_margin 77 = .ok (.iload_n 1, 1) := by decide +kernel
theorem dX6_margin_78 : decode cX6_margin 78 = .ok (.iload_n 2, 1) := by decide +kernel
theorem dX6_margin_79 : decode cX6_margin 79 = .ok (.iconst 1, 1) := by decide +kernel
theorem dX6_margin_80 : decode cX6_margin 80 = .ok (.invokevirtual 61, 3) := by decide +kernel
theorem dX6_margin_83 : decode cX6_margin 83 = .ok (.goto 31, 3) := by decide +kernel
theorem dX6_margin_86 : decode cX6_margin 86 = .ok (.iload_n 3, 1) := by decide +kernel
theorem dX6_margin_87 : decode cX6_margin 87 = .ok (.iconst 3, 1) := by decide +kernel
theorem dX6_margin_88 : decode cX6_margin 88 = .ok (.if_icmp .ne 12, 3) := by decide +kernel
theorem dX6_margin_91 : decode cX6_margin 91 = .ok (.aload_n 0, 1) := by decide +kernel
theorem dX6_margin_92 : decode cX6_margin 92 = .ok (.iload_n 1, 1) := by decide +kernel
theorem dX6_margin_93 : decode cX6_margin 93 = .ok (.iload_n 2, 1) := by decide +kernel
theorem dX6_margin_94 : decode cX6_margin 94 = .ok (.invokevirtual 65, 3) := by decide +kernel
theorem dX6_margin_97 : decode cX6_margin 97 = .ok (.goto 17, 3) := by decide +kernel
theorem dX6_margin_100 : decode cX6_margin 100 = .ok (.aload_n 0, 1) := by decide +kernel
theorem dX6_margin_101 : decode cX6_margin 101 = .ok (.iload_n 1, 1) := by decide +kernel
theorem dX6_margin_102 : decode cX6_margin 102 = .ok (.iload_n 2, 1) := by decide +kernel
theorem dX6_margin_103 : decode cX6_margin 103 = .ok (.invokevirtual 92, 3) := by decide +kernel
theorem dX6_margin_106 : decode cX6_margin 106 = .ok (.ifCond .eq 7, 3) := by decide +kernel
theorem dX6_margin_109 : decode cX6_margin 109 = .ok (.iconst 1, 1) := by decide +kernel
theorem dX6_margin_110 : decode cX6_margin 110 = .ok (.goto 4, 3) := by decide +kernel
theorem dX6_margin_113 : decode cX6_margin 113 = .ok (.iconst 0, 1) := by decide +kernel
theorem dX6_margin_114 : decode cX6_margin 114 = .ok (.ireturn, 1) := by decide +kernel
set_option maxRecDepth 20000 in
theorem ggX6_unknown_X6_of : GoodIn wsX6_unknown wsX6_of := goodIn_r _ [5, 6, 7, 8, 9, 10, 11, 12, 13, 14, 15, 16, 17, 18, 19, 20, 21, 22, 23, 24] (by decide +kernel) (by decide +kernel)
set_option maxRecDepth 20000 in
theorem gX6_unknown_X6_of : GoodIn wsX6_unknown (wsV RX6 47 RX6 yX6_of wsX6_of) := goodIn_app (goodIn_of _ (by decide +kernel)) ggX6_unknown_X6_of
theorem dX6_unknown_0 : decode cX6_unknown 0 = .ok (.iconst 0, 1) := by decide +kernel
theorem dX6_unknown_1 : decode cX6_unknown 1 = .ok (.istore_n 2, 1) := by decide +kernel
theorem dX6_unknown_2 : decode cX6_unknown 2 = .ok (.iconst 0, 1) := by decide +kernel
theorem dX6_unknown_3 : decode cX6_unknown 3 = .ok (.istore_n 3, 1) := by decide +kernel
theorem dX6_unknown_4 : decode cX6_unknown 4 = .ok (.iload_n 3, 1) := by decide +kernel
theorem dX6_unknown_5 : decode cX6_unknown 5 = .ok (.bipush 8, 2) := by decide +kernel
theorem dX6_unknown_7 : decode cX6_unknown 7 = .ok (.if_icmp .ge 28, 3) := by decide +kernel
theorem dX6_unknown_10 : decode cX6_unknown 10 = .ok (.iload_n 2, 1) := by decide +kernel
theorem dX6_unknown_11 : decode cX6_unknown 11 = .ok (.aload_n 0, 1) := by decide +kernel
theorem dX6_unknown_12 : decode cX6_unknown 12 = .ok (.iload_n 1, 1) := by decide +kernel
theorem dX6_unknown_13 : decode cX6_unknown 13 = .ok (.iconst 5, 1) := by decide +kernel
theorem dX6_unknown_14 : decode cX6_unknown 14 = .ok (.iload_n 3, 1) := by decide +kernel
theorem dX6_unknown_15 : decode cX6_unknown 15 = .ok (.iadd, 1) := by decide +kernel
theorem dX6_unknown_16 : decode cX6_unknown 16 = .ok (.invokevirtual 47, 3) := by decide +kernel
theorem dX6_unknown_19 : decode cX6_unknown 19 = .ok (.ifCond .ne 7, 3) := by decide +kernel
theorem dX6_unknown_22 : decode cX6_unknown 22 = .ok (.iconst 1, 1) := by decide +kernel
theorem dX6_unknown_23 : decode cX6_unknown 23 = .ok (.goto 4, 3) := by decide +kernel
theorem dX6_unknown_26 : decode cX6_unknown 26 = .ok (.iconst 0, 1) := by decide +kernel
theorem dX6_unknown_27 : decode cX6_unknown 27 = .ok (.iadd, 1) := by decide +kernel
theorem dX6_unknown_28 : decode cX6_unknown 28 = .ok (.istore_n 2, 1) := by decide +kernel
theorem dX6_unknown_29 : decode cX6_unknown 29 = .ok (.iinc 3 1, 3) := by decide +kernel
theorem dX6_unknown_32 : decode cX6_unknown 32 = .ok (.goto (-28), 3) := by decide +kernel
theorem dX6_unknown_35 : decode cX6_unknown 35 = .ok (.iload_n 2, 1) := by decide +kernel
theorem dX6_unknown_36 : decode cX6_unknown 36 = .ok (.ireturn, 1) := by decide +kernel
set_option maxRecDepth 20000 in
theorem ggX6_wrongCells_X6_of : GoodIn wsX6_wrongCells wsX6_of := goodIn_r _ [5, 6, 7, 8, 9, 10, 11, 12, 13, 14, 15, 16, 17, 18, 19, 20, 21, 22, 23, 24] (by decide +kernel) (by decide +kernel)
set_option maxRecDepth 20000 in
theorem gX6_wrongCells_X6_of : GoodIn wsX6_wrongCells (wsV RX6 47 RX6 yX6_of wsX6_of) := goodIn_app (goodIn_of _ (by decide +kernel)) ggX6_wrongCells_X6_of
theorem dX6_wrongCells_0 : decode cX6_wrongCells 0 = .ok (.iconst 0, 1) := by decide +kernel
theorem dX6_wrongCells_1 : decode cX6_wrongCells 1 = .ok (.istore_n 2, 1) := by decide +kernel
theorem dX6_wrongCells_2 : decode cX6_wrongCells 2 = .ok (.iconst 0, 1) := by decide +kernel
theorem dX6_wrongCells_3 : decode cX6_wrongCells 3 = .ok (.istore_n 3, 1) := by decide +kernel
theorem dX6_wrongCells_4 : decode cX6_wrongCells 4 = .ok (.iload_n 3, 1) := by decide +kernel
theorem dX6_wrongCells_5 : decode cX6_wrongCells 5 = .ok (.bipush 8, 2) := by decide +kernel
theorem dX6_wrongCells_7 : decode cX6_wrongCells 7 = .ok (.if_icmp .ge 21, 3) := by decide +kernel
theorem dX6_wrongCells_10 : decode cX6_wrongCells 10 = .ok (.iload_n 2, 1) := by decide +kernel
theorem dX6_wrongCells_11 : decode cX6_wrongCells 11 = .ok (.aload_n 0, 1) := by decide +kernel
theorem dX6_wrongCells_12 : decode cX6_wrongCells 12 = .ok (.iload_n 1, 1) := by decide +kernel
theorem dX6_wrongCells_13 : decode cX6_wrongCells 13 = .ok (.bipush 21, 2) := by decide +kernel
theorem dX6_wrongCells_15 : decode cX6_wrongCells 15 = .ok (.iload_n 3, 1) := by decide +kernel
theorem dX6_wrongCells_16 : decode cX6_wrongCells 16 = .ok (.iadd, 1) := by decide +kernel
theorem dX6_wrongCells_17 : decode cX6_wrongCells 17 = .ok (.invokevirtual 47, 3) := by decide +kernel
theorem dX6_wrongCells_20 : decode cX6_wrongCells 20 = .ok (.iadd, 1) := by decide +kernel
theorem dX6_wrongCells_21 : decode cX6_wrongCells 21 = .ok (.istore_n 2, 1) := by decide +kernel
theorem dX6_wrongCells_22 : decode cX6_wrongCells 22 = .ok (.iinc 3 1, 3) := by decide +kernel
theorem dX6_wrongCells_25 : decode cX6_wrongCells 25 = .ok (.goto (-21), 3) := by decide +kernel
theorem dX6_wrongCells_28 : decode cX6_wrongCells 28 = .ok (.iload_n 2, 1) := by decide +kernel
theorem dX6_wrongCells_29 : decode cX6_wrongCells 29 = .ok (.ireturn, 1) := by decide +kernel
set_option maxRecDepth 20000 in
theorem ggX6_row_X6_isRow : GoodIn wsX6_row wsX6_isRow := goodIn_r _ [6, 7, 8, 9, 5, 10, 72, 73, 74, 75, 76, 77, 78, 79, 80, 81, 82, 83, 84, 85, 86, 87, 88, 89] (by decide +kernel) (by decide +kernel)
set_option maxRecDepth 20000 in
theorem gX6_row_X6_isRow : GoodIn wsX6_row (wsV RX6 111 RX6 yX6_isRow wsX6_isRow) := goodIn_app (goodIn_of _ (by decide +kernel)) ggX6_row_X6_isRow
set_option maxRecDepth 20000 in
theorem ggX6_row_X6_of : GoodIn wsX6_row wsX6_of := goodIn_r _ [14, 7, 72, 73, 74, 75, 76, 77, 78, 79, 80, 81, 82, 83, 84, 85, 86, 87, 88, 89] (by decide +kernel) (by decide +kernel)
set_option maxRecDepth 20000 in
theorem gX6_row_X6_of : GoodIn wsX6_row (wsV RX6 47 RX6 yX6_of wsX6_of) := goodIn_app (goodIn_of _ (by decide +kernel)) ggX6_row_X6_of
set_option maxRecDepth 20000 in
theorem ggX6_row_X6_upper : GoodIn wsX6_row wsX6_upper := goodIn_r _ [18, 7, 11, 12, 13, 5, 14, 19, 20, 21, 22, 23, 72, 73, 74, 75, 76, 77, 78, 79, 80, 81, 82, 83, 84, 85, 86, 87, 88, 89] (by decide +kernel) (by decide +kernel)
set_option maxRecDepth 20000 in
theorem gX6_row_X6_upper : GoodIn wsX6_row (wsV RX6 55 RX6 yX6_upper wsX6_upper) := goodIn_app (goodIn_of _ (by decide +kernel)) ggX6_row_X6_upper
set_option maxRecDepth 20000 in
theorem ggX6_row_X6_lower : GoodIn wsX6_row wsX6_lower := goodIn_r _ [27, 7, 11, 12, 13, 5, 14, 19, 20, 21, 22, 23, 72, 73, 74, 75, 76, 77, 78, 79, 80, 81, 82, 83, 84, 85, 86, 87, 88, 89] (by decide +kernel) (by decide +kernel)
set_option maxRecDepth 20000 in
theorem gX6_row_X6_lower : GoodIn wsX6_row (wsV RX6 58 RX6 yX6_lower wsX6_lower) := goodIn_app (goodIn_of _ (by decide +kernel)) ggX6_row_X6_lower
set_option maxRecDepth 20000 in
theorem ggX6_row_X6_unknown : GoodIn wsX6_row wsX6_unknown := goodIn_r _ [31, 11, 12, 13, 5, 14, 7, 72, 73, 74, 75, 76, 77, 78, 79, 80, 81, 82, 83, 84, 85, 86, 87, 88, 89] (by decide +kernel) (by decide +kernel)
set_option maxRecDepth 20000 in
theorem gX6_row_X6_unknown : GoodIn wsX6_row (wsV RX6 151 RX6 yX6_unknown wsX6_unknown) := goodIn_app (goodIn_of _ (by decide +kernel)) ggX6_row_X6_unknown
set_option maxRecDepth 20000 in
theorem ggX6_row_X6_wrongCells : GoodIn wsX6_row wsX6_wrongCells := goodIn_r _ [35, 11, 12, 13, 5, 14, 7, 72, 73, 74, 75, 76, 77, 78, 79, 80, 81, 82, 83, 84, 85, 86, 87, 88, 89] (by decide +kernel) (by decide +kernel)
set_option maxRecDepth 20000 in
theorem gX6_row_X6_wrongCells : GoodIn wsX6_row (wsV RX6 154 RX6 yX6_wrongCells wsX6_wrongCells) := goodIn_app (goodIn_of _ (by decide +kernel)) ggX6_row_X6_wrongCells
set_option maxRecDepth 20000 in
theorem ggX6_row_X6_back : GoodIn wsX6_row wsX6_back := goodIn_r _ [39, 40, 41, 42, 5, 43, 11, 12, 13, 14, 7, 44, 45, 46, 47, 48, 49, 50, 51, 23, 52, 53, 54, 55, 15, 16, 17, 18, 19, 20, 21, 22, 24, 25, 26, 27, 56, 57, 58, 59, 60, 61, 62, 63, 64, 65, 66, 67, 68, 69, 70, 71, 72, 73, 74, 75, 76, 77, 78, 79, 80, 81, 82, 83, 84, 85, 86, 87, 88, 89] (by decide +kernel) (by decide +kernel)
set_option maxRecDepth 20000 in
theorem gX6_row_X6_back : GoodIn wsX6_row (wsV RX6 105 RX6 yX6_back wsX6_back) := goodIn_app (goodIn_of _ (by decide +kernel)) ggX6_row_X6_back
theorem dX6_row_0 : decode cX6_row 0 = .ok (.aload_n 0, 1) := by decide +kernel
theorem dX6_row_1 : decode cX6_row 1 = .ok (.iload_n 1, 1) := by decide +kernel
theorem dX6_row_2 : decode cX6_row 2 = .ok (.invokevirtual 111, 3) := by decide +kernel
theorem dX6_row_5 : decode cX6_row 5 = .ok (.ifCond .ne 6, 3) := by decide +kernel
theorem dX6_row_8 : decode cX6_row 8 = .ok (.ldc 114, 2) := by decide +kernel
theorem dX6_row_10 : decode cX6_row 10 = .ok (.ireturn, 1) := by decide +kernel
theorem dX6_row_11 : decode cX6_row 11 = .ok (.iload_n 2, 1) := by decide +kernel
theorem dX6_row_12 : decode cX6_row 12 = .ok (.tableswitch 121 0 9 #[56, 63, 70, 76, 82, 89, 95, 101, 107, 114], 56) := by decide +kernel
theorem dX6_row_68 : decode cX6_row 68 = .ok (.aload_n 0, 1) := by decide +kernel
theorem dX6_row_69 : decode cX6_row 69 = .ok (.iload_n 1, 1) := by decide +kernel
theorem dX6_row_70 : decode cX6_row 70 = .ok (.iconst 0, 1) := by decide +kernel
theorem dX6_row_71 : decode cX6_row 71 = .ok (.invokevirtual 47, 3) := by decide +kernel
theorem dX6_row_74 : decode cX6_row 74 = .ok (.ireturn, 1) := by decide +kernel
theorem dX6_row_75 : decode cX6_row 75 = .ok (.aload_n 0, 1) := by decide +kernel
theorem dX6_row_76 : decode cX6_row 76 = .ok (.iload_n 1, 1) := by decide +kernel
theorem dX6_row_77 : decode cX6_row 77 = .ok (.iconst 1, 1) := by decide +kernel
theorem dX6_row_78 : decode cX6_row 78 = .ok (.invokevirtual 47, 3) := by decide +kernel
theorem dX6_row_81 : decode cX6_row 81 = .ok (.ireturn, 1) := by decide +kernel
theorem dX6_row_82 : decode cX6_row 82 = .ok (.aload_n 0, 1) := by decide +kernel
theorem dX6_row_83 : decode cX6_row 83 = .ok (.iload_n 1, 1) := by decide +kernel
theorem dX6_row_84 : decode cX6_row 84 = .ok (.invokevirtual 55, 3) := by decide +kernel
theorem dX6_row_87 : decode cX6_row 87 = .ok (.ireturn, 1) := by decide +kernel
theorem dX6_row_88 : decode cX6_row 88 = .ok (.aload_n 0, 1) := by decide +kernel
theorem dX6_row_89 : decode cX6_row 89 = .ok (.iload_n 1, 1) := by decide +kernel
theorem dX6_row_90 : decode cX6_row 90 = .ok (.invokevirtual 58, 3) := by decide +kernel
theorem dX6_row_93 : decode cX6_row 93 = .ok (.ireturn, 1) := by decide +kernel
theorem dX6_row_94 : decode cX6_row 94 = .ok (.aload_n 0, 1) := by decide +kernel
theorem dX6_row_95 : decode cX6_row 95 = .ok (.iload_n 1, 1) := by decide +kernel
theorem dX6_row_96 : decode cX6_row 96 = .ok (.iconst 4, 1) := by decide +kernel
theorem dX6_row_97 : decode cX6_row 97 = .ok (.invokevirtual 47, 3) := by decide +kernel
theorem dX6_row_100 : decode cX6_row 100 = .ok (.ireturn, 1) := by decide +kernel
theorem dX6_row_101 : decode cX6_row 101 = .ok (.aload_n 0, 1) := by decide +kernel
theorem dX6_row_102 : decode cX6_row 102 = .ok (.iload_n 1, 1) := by decide +kernel
theorem dX6_row_103 : decode cX6_row 103 = .ok (.invokevirtual 151, 3) := by decide +kernel
theorem dX6_row_106 : decode cX6_row 106 = .ok (.ireturn, 1) := by decide +kernel
theorem dX6_row_107 : decode cX6_row 107 = .ok (.aload_n 0, 1) := by decide +kernel
theorem dX6_row_108 : decode cX6_row 108 = .ok (.iload_n 1, 1) := by decide +kernel
theorem dX6_row_109 : decode cX6_row 109 = .ok (.invokevirtual 154, 3) := by decide +kernel
theorem dX6_row_112 : decode cX6_row 112 = .ok (.ireturn, 1) := by decide +kernel
theorem dX6_row_113 : decode cX6_row 113 = .ok (.aload_n 0, 1) := by decide +kernel
theorem dX6_row_114 : decode cX6_row 114 = .ok (.iload_n 1, 1) := by decide +kernel
theorem dX6_row_115 : decode cX6_row 115 = .ok (.invokevirtual 105, 3) := by decide +kernel
theorem dX6_row_118 : decode cX6_row 118 = .ok (.ireturn, 1) := by decide +kernel
theorem dX6_row_119 : decode cX6_row 119 = .ok (.aload_n 0, 1) := by decide +kernel
theorem dX6_row_120 : decode cX6_row 120 = .ok (.iload_n 1, 1) := by decide +kernel
theorem dX6_row_121 : decode cX6_row 121 = .ok (.iconst 2, 1) := by decide +kernel
theorem dX6_row_122 : decode cX6_row 122 = .ok (.invokevirtual 47, 3) := by decide +kernel
theorem dX6_row_125 : decode cX6_row 125 = .ok (.ireturn, 1) := by decide +kernel
theorem dX6_row_126 : decode cX6_row 126 = .ok (.aload_n 0, 1) := by decide +kernel
theorem dX6_row_127 : decode cX6_row 127 = .ok (.iload_n 1, 1) := by decide +kernel
theorem dX6_row_128 : decode cX6_row 128 = .ok (.iconst 3, 1) := by decide +kernel
theorem dX6_row_129 : decode cX6_row 129 = .ok (.invokevirtual 47, 3) := by decide +kernel
theorem dX6_row_132 : decode cX6_row 132 = .ok (.ireturn, 1) := by decide +kernel
theorem dX6_row_133 : decode cX6_row 133 = .ok (.ldc 114, 2) := by decide +kernel
theorem dX6_row_135 : decode cX6_row 135 = .ok (.ireturn, 1) := by decide +kernel
set_option maxRecDepth 20000 in
theorem ggX6_at_X6_in : GoodIn wsX6_at wsX6_in := goodIn_r _ [6] (by decide +kernel) (by decide +kernel)
set_option maxRecDepth 20000 in
theorem gX6_at_X6_in : GoodIn wsX6_at (va_wsS RX6 43 yX6_in wsX6_in) := goodIn_app (goodIn_of _ (by decide +kernel)) ggX6_at_X6_in
set_option maxRecDepth 20000 in
theorem ggX6_at_X6_rowAt : GoodIn wsX6_at wsX6_rowAt := goodIn_r _ [10, 11, 1, 12, 13, 14, 5, 15, 16, 17, 18, 19, 20, 21, 22, 23, 24, 25, 26, 27, 28, 29, 30, 31, 32, 33] (by decide +kernel) (by decide +kernel)
set_option maxRecDepth 20000 in
theorem gX6_at_X6_rowAt : GoodIn wsX6_at (wsV RX6 52 RX6 yX6_rowAt wsX6_rowAt) := goodIn_app (goodIn_of _ (by decide +kernel)) ggX6_at_X6_rowAt
theorem dX6_at_0 : decode cX6_at 0 = .ok (.iload_n 1, 1) := by decide +kernel
theorem dX6_at_1 : decode cX6_at 1 = .ok (.iconst 0, 1) := by decide +kernel
theorem dX6_at_2 : decode cX6_at 2 = .ok (.aload_n 0, 1) := by decide +kernel
theorem dX6_at_3 : decode cX6_at 3 = .ok (.getfield 7, 3) := by decide +kernel
theorem dX6_at_6 : decode cX6_at 6 = .ok (.iconst 0, 1) := by decide +kernel
theorem dX6_at_7 : decode cX6_at 7 = .ok (.iaload, 1) := by decide +kernel
theorem dX6_at_8 : decode cX6_at 8 = .ok (.iconst 1, 1) := by decide +kernel
theorem dX6_at_9 : decode cX6_at 9 = .ok (.isub, 1) := by decide +kernel
theorem dX6_at_10 : decode cX6_at 10 = .ok (.invokestatic 43, 3) := by decide +kernel
theorem dX6_at_13 : decode cX6_at 13 = .ok (.ifCond .eq 11, 3) := by decide +kernel
theorem dX6_at_16 : decode cX6_at 16 = .ok (.aload_n 0, 1) := by decide +kernel
theorem dX6_at_17 : decode cX6_at 17 = .ok (.iload_n 1, 1) := by decide +kernel
theorem dX6_at_18 : decode cX6_at 18 = .ok (.invokevirtual 52, 3) := by decide +kernel
theorem dX6_at_21 : decode cX6_at 21 = .ok (.goto 5, 3) := by decide +kernel
theorem dX6_at_24 : decode cX6_at 24 = .ok (.ldc 114, 2) := by decide +kernel
theorem dX6_at_26 : decode cX6_at 26 = .ok (.ireturn, 1) := by decide +kernel
set_option maxRecDepth 20000 in
theorem ggX6_unheard_X6_heard : GoodIn wsX6_unheard wsX6_heard := goodIn_r _ [5, 6, 7, 8, 4, 9, 10, 11, 12, 13, 14, 15, 16, 17, 18, 19, 20, 21, 22, 23, 24, 25, 26, 27, 28, 29, 30, 31, 32, 33, 34, 35, 36, 37, 38, 39, 40, 41, 42, 43, 44, 45, 46, 47, 48, 49, 50, 51, 52, 53, 54, 55, 56, 57, 58, 59, 60, 61, 62, 63, 64, 65, 66, 67, 68, 69] (by decide +kernel) (by decide +kernel)
set_option maxRecDepth 20000 in
theorem gX6_unheard_X6_heard : GoodIn wsX6_unheard (wsV RX6 99 RX6 yX6_heard wsX6_heard) := goodIn_app (goodIn_of _ (by decide +kernel)) ggX6_unheard_X6_heard
theorem dX6_unheard_0 : decode cX6_unheard 0 = .ok (.iconst 0, 1) := by decide +kernel
theorem dX6_unheard_1 : decode cX6_unheard 1 = .ok (.istore_n 2, 1) := by decide +kernel
theorem dX6_unheard_2 : decode cX6_unheard 2 = .ok (.iconst 0, 1) := by decide +kernel
theorem dX6_unheard_3 : decode cX6_unheard 3 = .ok (.istore_n 3, 1) := by decide +kernel
theorem dX6_unheard_4 : decode cX6_unheard 4 = .ok (.iload_n 3, 1) := by decide +kernel
theorem dX6_unheard_5 : decode cX6_unheard 5 = .ok (.bipush 8, 2) := by decide +kernel
theorem dX6_unheard_7 : decode cX6_unheard 7 = .ok (.if_icmp .ge 26, 3) := by decide +kernel
theorem dX6_unheard_10 : decode cX6_unheard 10 = .ok (.iload_n 2, 1) := by decide +kernel
theorem dX6_unheard_11 : decode cX6_unheard 11 = .ok (.aload_n 0, 1) := by decide +kernel
theorem dX6_unheard_12 : decode cX6_unheard 12 = .ok (.iload_n 1, 1) := by decide +kernel
theorem dX6_unheard_13 : decode cX6_unheard 13 = .ok (.iload_n 3, 1) := by decide +kernel
theorem dX6_unheard_14 : decode cX6_unheard 14 = .ok (.invokevirtual 99, 3) := by decide +kernel
theorem dX6_unheard_17 : decode cX6_unheard 17 = .ok (.ifCond .ne 7, 3) := by decide +kernel
theorem dX6_unheard_20 : decode cX6_unheard 20 = .ok (.iconst 1, 1) := by decide +kernel
theorem dX6_unheard_21 : decode cX6_unheard 21 = .ok (.goto 4, 3) := by decide +kernel
theorem dX6_unheard_24 : decode cX6_unheard 24 = .ok (.iconst 0, 1) := by decide +kernel
theorem dX6_unheard_25 : decode cX6_unheard 25 = .ok (.iadd, 1) := by decide +kernel
theorem dX6_unheard_26 : decode cX6_unheard 26 = .ok (.istore_n 2, 1) := by decide +kernel
theorem dX6_unheard_27 : decode cX6_unheard 27 = .ok (.iinc 3 1, 3) := by decide +kernel
theorem dX6_unheard_30 : decode cX6_unheard 30 = .ok (.goto (-26), 3) := by decide +kernel
theorem dX6_unheard_33 : decode cX6_unheard 33 = .ok (.iload_n 2, 1) := by decide +kernel
theorem dX6_unheard_34 : decode cX6_unheard 34 = .ok (.ireturn, 1) := by decide +kernel
set_option maxRecDepth 20000 in
theorem ggX6_oldest_X6_heardAge : GoodIn wsX6_oldest wsX6_heardAge := goodIn_r _ [6, 1, 7, 8, 9, 5, 10, 11, 12, 13, 14, 15, 16, 17, 18, 19, 20, 21, 22, 23, 24, 25, 26, 27, 28, 29, 30, 31, 32, 33, 34, 35, 36, 37, 38, 39, 40, 41, 42, 43, 44, 45, 46, 47, 48, 49, 50, 51, 52, 53, 54, 55, 56, 57, 58, 59, 60, 61, 62, 63, 64, 65, 66, 67, 68, 69] (by decide +kernel) (by decide +kernel)
set_option maxRecDepth 20000 in
theorem gX6_oldest_X6_heardAge : GoodIn wsX6_oldest (wsV RX6 148 RX6 yX6_heardAge wsX6_heardAge) := goodIn_app (goodIn_of _ (by decide +kernel)) ggX6_oldest_X6_heardAge
theorem dX6_oldest_0 : decode cX6_oldest 0 = .ok (.ldc 51, 2) := by decide +kernel
theorem dX6_oldest_2 : decode cX6_oldest 2 = .ok (.istore_n 2, 1) := by decide +kernel
theorem dX6_oldest_3 : decode cX6_oldest 3 = .ok (.iconst 0, 1) := by decide +kernel
theorem dX6_oldest_4 : decode cX6_oldest 4 = .ok (.istore_n 3, 1) := by decide +kernel
theorem dX6_oldest_5 : decode cX6_oldest 5 = .ok (.iload_n 3, 1) := by decide +kernel
theorem dX6_oldest_6 : decode cX6_oldest 6 = .ok (.bipush 8, 2) := by decide +kernel
theorem dX6_oldest_8 : decode cX6_oldest 8 = .ok (.if_icmp .ge 30, 3) := by decide +kernel
theorem dX6_oldest_11 : decode cX6_oldest 11 = .ok (.aload_n 0, 1) := by decide +kernel
theorem dX6_oldest_12 : decode cX6_oldest 12 = .ok (.iload_n 1, 1) := by decide +kernel
theorem dX6_oldest_13 : decode cX6_oldest 13 = .ok (.iload_n 3, 1) := by decide +kernel
theorem dX6_oldest_14 : decode cX6_oldest 14 = .ok (.invokevirtual 148, 3) := by decide +kernel
theorem dX6_oldest_17 : decode cX6_oldest 17 = .ok (.iload_n 2, 1) := by decide +kernel
theorem dX6_oldest_18 : decode cX6_oldest 18 = .ok (.if_icmp .le 12, 3) := by decide +kernel
theorem dX6_oldest_21 : decode cX6_oldest 21 = .ok (.aload_n 0, 1) := by decide +kernel
theorem dX6_oldest_22 : decode cX6_oldest 22 = .ok (.iload_n 1, 1) := by decide +kernel
theorem dX6_oldest_23 : decode cX6_oldest 23 = .ok (.iload_n 3, 1) := by decide +kernel
theorem dX6_oldest_24 : decode cX6_oldest 24 = .ok (.invokevirtual 148, 3) := by decide +kernel
theorem dX6_oldest_27 : decode cX6_oldest 27 = .ok (.goto 4, 3) := by decide +kernel
theorem dX6_oldest_30 : decode cX6_oldest 30 = .ok (.iload_n 2, 1) := by decide +kernel
theorem dX6_oldest_31 : decode cX6_oldest 31 = .ok (.istore_n 2, 1) := by decide +kernel
theorem dX6_oldest_32 : decode cX6_oldest 32 = .ok (.iinc 3 1, 3) := by decide +kernel
theorem dX6_oldest_35 : decode cX6_oldest 35 = .ok (.goto (-30), 3) := by decide +kernel
theorem dX6_oldest_38 : decode cX6_oldest 38 = .ok (.iload_n 2, 1) := by decide +kernel
theorem dX6_oldest_39 : decode cX6_oldest 39 = .ok (.ireturn, 1) := by decide +kernel
set_option maxRecDepth 20000 in
theorem ggX6_would_X6_isRow : GoodIn wsX6_would wsX6_isRow := goodIn_r _ [7, 8, 9, 10, 6, 11, 81, 82, 83, 84, 85, 86, 87, 88, 89, 90, 91, 92, 93, 94, 95, 96, 97, 98] (by decide +kernel) (by decide +kernel)
set_option maxRecDepth 20000 in
theorem gX6_would_X6_isRow : GoodIn wsX6_would (wsV RX6 111 RX6 yX6_isRow wsX6_isRow) := goodIn_app (goodIn_of _ (by decide +kernel)) ggX6_would_X6_isRow
set_option maxRecDepth 20000 in
theorem ggX6_would_X6_in : GoodIn wsX6_would wsX6_in := goodIn_r _ [11] (by decide +kernel) (by decide +kernel)
set_option maxRecDepth 20000 in
theorem gX6_would_X6_in : GoodIn wsX6_would (va_wsS RX6 43 yX6_in wsX6_in) := goodIn_app (goodIn_of _ (by decide +kernel)) ggX6_would_X6_in
set_option maxRecDepth 20000 in
theorem ggX6_would_X6_lives : GoodIn wsX6_would wsX6_lives := goodIn_r _ [15, 16, 17, 18, 6, 19, 8, 81, 82, 83, 84, 85, 86, 87, 88, 89, 90, 91, 92, 93, 94, 95, 96, 97, 98] (by decide +kernel) (by decide +kernel)
set_option maxRecDepth 20000 in
theorem gX6_would_X6_lives : GoodIn wsX6_would (wsV RX6 75 RX6 yX6_lives wsX6_lives) := goodIn_app (goodIn_of _ (by decide +kernel)) ggX6_would_X6_lives
set_option maxRecDepth 20000 in
theorem ggX6_would_X6_back : GoodIn wsX6_would wsX6_back := goodIn_r _ [23, 12, 13, 14, 6, 15, 16, 17, 18, 19, 8, 24, 25, 26, 27, 28, 29, 30, 31, 32, 33, 34, 35, 36, 37, 38, 39, 40, 41, 42, 43, 44, 45, 46, 47, 48, 49, 50, 51, 52, 53, 54, 55, 56, 57, 58, 59, 60, 61, 62, 63, 64, 81, 82, 83, 84, 85, 86, 87, 88, 89, 90, 91, 92, 93, 94, 95, 96, 97, 98] (by decide +kernel) (by decide +kernel)
set_option maxRecDepth 20000 in
theorem gX6_would_X6_back : GoodIn wsX6_would (wsV RX6 105 RX6 yX6_back wsX6_back) := goodIn_app (goodIn_of _ (by decide +kernel)) ggX6_would_X6_back
set_option maxRecDepth 20000 in
theorem ggX6_would_X6_wrongs : GoodIn wsX6_would wsX6_wrongs := goodIn_r _ [68, 24, 25, 26, 6, 27, 28, 29, 30, 31, 32, 33, 34, 35, 36, 37, 38, 39, 40, 8, 16, 17, 18, 19, 41, 42, 43, 44, 45, 46, 47, 48, 12, 13, 14, 15, 49, 50, 51, 52, 53, 54, 55, 56, 57, 58, 59, 60, 61, 62, 63, 64, 81, 82, 83, 84, 85, 86, 87, 88, 89, 90, 91, 92, 93, 94, 95, 96, 97, 98] (by decide +kernel) (by decide +kernel)
