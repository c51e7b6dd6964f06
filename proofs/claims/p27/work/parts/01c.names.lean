set_option maxRecDepth 20000 in
theorem ggX2_readOrder_X2_readNumber : GoodIn wsX2_readOrder wsX2_readNumber := goodIn_r _ [16, 1, 17, 18, 19, 20, 3, 4, 5, 6, 7, 8, 9, 21, 22, 23, 24, 25, 26, 27] (by decide +kernel) (by decide +kernel)
set_option maxRecDepth 20000 in
theorem gX2_readOrder_X2_readNumber : GoodIn wsX2_readOrder (wsV RX2 72 RX2 yX2_readNumber wsX2_readNumber) := goodIn_app (goodIn_of _ (by decide +kernel)) ggX2_readOrder_X2_readNumber
theorem dX2_readOrder_0 : decode cX2_readOrder 0 = .ok (.aload_n 0, 1) := by decide +kernel
theorem dX2_readOrder_1 : decode cX2_readOrder 1 = .ok (.aload_n 0, 1) := by decide +kernel
theorem dX2_readOrder_2 : decode cX2_readOrder 2 = .ok (.getfield 22, 3) := by decide +kernel
theorem dX2_readOrder_5 : decode cX2_readOrder 5 = .ok (.invokevirtual 44, 3) := by decide +kernel
theorem dX2_readOrder_8 : decode cX2_readOrder 8 = .ok (.invokestatic 69, 3) := by decide +kernel
theorem dX2_readOrder_11 : decode cX2_readOrder 11 = .ok (.istore_n 1, 1) := by decide +kernel
theorem dX2_readOrder_12 : decode cX2_readOrder 12 = .ok (.iload_n 1, 1) := by decide +kernel
theorem dX2_readOrder_13 : decode cX2_readOrder 13 = .ok (.ifCond .ne 5, 3) := by decide +kernel
theorem dX2_readOrder_16 : decode cX2_readOrder 16 = .ok (.iconst 0, 1) := by decide +kernel
theorem dX2_readOrder_17 : decode cX2_readOrder 17 = .ok (.ireturn, 1) := by decide +kernel
theorem dX2_readOrder_18 : decode cX2_readOrder 18 = .ok (.aload_n 0, 1) := by decide +kernel
theorem dX2_readOrder_19 : decode cX2_readOrder 19 = .ok (.dup, 1) := by decide +kernel
theorem dX2_readOrder_20 : decode cX2_readOrder 20 = .ok (.getfield 22, 3) := by decide +kernel
theorem dX2_readOrder_23 : decode cX2_readOrder 23 = .ok (.iconst 1, 1) := by decide +kernel
theorem dX2_readOrder_24 : decode cX2_readOrder 24 = .ok (.iadd, 1) := by decide +kernel
theorem dX2_readOrder_25 : decode cX2_readOrder 25 = .ok (.putfield 22, 3) := by decide +kernel
theorem dX2_readOrder_28 : decode cX2_readOrder 28 = .ok (.iconst 0, 1) := by decide +kernel
theorem dX2_readOrder_29 : decode cX2_readOrder 29 = .ok (.istore_n 2, 1) := by decide +kernel
theorem dX2_readOrder_30 : decode cX2_readOrder 30 = .ok (.iload_n 2, 1) := by decide +kernel
theorem dX2_readOrder_31 : decode cX2_readOrder 31 = .ok (.iload_n 1, 1) := by decide +kernel
theorem dX2_readOrder_32 : decode cX2_readOrder 32 = .ok (.if_icmp .ge 71, 3) := by decide +kernel
theorem dX2_readOrder_35 : decode cX2_readOrder 35 = .ok (.iload_n 2, 1) := by decide +kernel
theorem dX2_readOrder_36 : decode cX2_readOrder 36 = .ok (.iconst 3, 1) := by decide +kernel
theorem dX2_readOrder_37 : decode cX2_readOrder 37 = .ok (.if_icmp .ge 66, 3) := by decide +kernel
theorem dX2_readOrder_40 : decode cX2_readOrder 40 = .ok (.aload_n 0, 1) := by decide +kernel
theorem dX2_readOrder_41 : decode cX2_readOrder 41 = .ok (.invokevirtual 72, 3) := by decide +kernel
theorem dX2_readOrder_44 : decode cX2_readOrder 44 = .ok (.istore_n 3, 1) := by decide +kernel
theorem dX2_readOrder_45 : decode cX2_readOrder 45 = .ok (.iload_n 2, 1) := by decide +kernel
theorem dX2_readOrder_46 : decode cX2_readOrder 46 = .ok (.iconst 1, 1) := by decide +kernel
theorem dX2_readOrder_47 : decode cX2_readOrder 47 = .ok (.iadd, 1) := by decide +kernel
theorem dX2_readOrder_48 : decode cX2_readOrder 48 = .ok (.iload_n 1, 1) := by decide +kernel
theorem dX2_readOrder_49 : decode cX2_readOrder 49 = .ok (.if_icmp .ge 8, 3) := by decide +kernel
theorem dX2_readOrder_52 : decode cX2_readOrder 52 = .ok (.bipush 44, 2) := by decide +kernel
theorem dX2_readOrder_54 : decode cX2_readOrder 54 = .ok (.goto 5, 3) := by decide +kernel
theorem dX2_readOrder_57 : decode cX2_readOrder 57 = .ok (.bipush 59, 2) := by decide +kernel
theorem dX2_readOrder_59 : decode cX2_readOrder 59 = .ok (.istore 4, 2) := by decide +kernel
theorem dX2_readOrder_61 : decode cX2_readOrder 61 = .ok (.iload_n 3, 1) := by decide +kernel
theorem dX2_readOrder_62 : decode cX2_readOrder 62 = .ok (.ifCond .lt 16, 3) := by decide +kernel
theorem dX2_readOrder_65 : decode cX2_readOrder 65 = .ok (.aload_n 0, 1) := by decide +kernel
theorem dX2_readOrder_66 : decode cX2_readOrder 66 = .ok (.aload_n 0, 1) := by decide +kernel
theorem dX2_readOrder_67 : decode cX2_readOrder 67 = .ok (.getfield 22, 3) := by decide +kernel
theorem dX2_readOrder_70 : decode cX2_readOrder 70 = .ok (.invokevirtual 44, 3) := by decide +kernel
theorem dX2_readOrder_73 : decode cX2_readOrder 73 = .ok (.iload 4, 2) := by decide +kernel
theorem dX2_readOrder_75 : decode cX2_readOrder 75 = .ok (.if_icmp .eq 5, 3) := by decide +kernel
theorem dX2_readOrder_78 : decode cX2_readOrder 78 = .ok (.iconst 0, 1) := by decide +kernel
theorem dX2_readOrder_79 : decode cX2_readOrder 79 = .ok (.ireturn, 1) := by decide +kernel
theorem dX2_readOrder_80 : decode cX2_readOrder 80 = .ok (.aload_n 0, 1) := by decide +kernel
theorem dX2_readOrder_81 : decode cX2_readOrder 81 = .ok (.getfield 15, 3) := by decide +kernel
theorem dX2_readOrder_84 : decode cX2_readOrder 84 = .ok (.iload_n 2, 1) := by decide +kernel
theorem dX2_readOrder_85 : decode cX2_readOrder 85 = .ok (.iload_n 3, 1) := by decide +kernel
theorem dX2_readOrder_86 : decode cX2_readOrder 86 = .ok (.iastore, 1) := by decide +kernel
theorem dX2_readOrder_87 : decode cX2_readOrder 87 = .ok (.aload_n 0, 1) := by decide +kernel
theorem dX2_readOrder_88 : decode cX2_readOrder 88 = .ok (.dup, 1) := by decide +kernel
theorem dX2_readOrder_89 : decode cX2_readOrder 89 = .ok (.getfield 22, 3) := by decide +kernel
theorem dX2_readOrder_92 : decode cX2_readOrder 92 = .ok (.iconst 1, 1) := by decide +kernel
theorem dX2_readOrder_93 : decode cX2_readOrder 93 = .ok (.iadd, 1) := by decide +kernel
theorem dX2_readOrder_94 : decode cX2_readOrder 94 = .ok (.putfield 22, 3) := by decide +kernel
theorem dX2_readOrder_97 : decode cX2_readOrder 97 = .ok (.iinc 2 1, 3) := by decide +kernel
theorem dX2_readOrder_100 : decode cX2_readOrder 100 = .ok (.goto (-70), 3) := by decide +kernel
theorem dX2_readOrder_103 : decode cX2_readOrder 103 = .ok (.iconst 1, 1) := by decide +kernel
theorem dX2_readOrder_104 : decode cX2_readOrder 104 = .ok (.ireturn, 1) := by decide +kernel
theorem dX2_numbersOf_0 : decode cX2_numbersOf 0 = .ok (.iload_n 0, 1) := by decide +kernel
theorem dX2_numbersOf_1 : decode cX2_numbersOf 1 = .ok (.lookupswitch 65 #[(97, 63), (100, 63), (108, 63), (109, 63), (115, 61), (119, 59)], 59) := by decide +kernel
theorem dX2_numbersOf_60 : decode cX2_numbersOf 60 = .ok (.iconst 3, 1) := by decide +kernel
theorem dX2_numbersOf_61 : decode cX2_numbersOf 61 = .ok (.ireturn, 1) := by decide +kernel
theorem dX2_numbersOf_62 : decode cX2_numbersOf 62 = .ok (.iconst 2, 1) := by decide +kernel
theorem dX2_numbersOf_63 : decode cX2_numbersOf 63 = .ok (.ireturn, 1) := by decide +kernel
theorem dX2_numbersOf_64 : decode cX2_numbersOf 64 = .ok (.iconst 1, 1) := by decide +kernel
theorem dX2_numbersOf_65 : decode cX2_numbersOf 65 = .ok (.ireturn, 1) := by decide +kernel
theorem dX2_numbersOf_66 : decode cX2_numbersOf 66 = .ok (.iconst 0, 1) := by decide +kernel
theorem dX2_numbersOf_67 : decode cX2_numbersOf 67 = .ok (.ireturn, 1) := by decide +kernel
set_option maxRecDepth 20000 in
theorem ggX2_readNumber_X2_signAt : GoodIn wsX2_readNumber wsX2_signAt := goodIn_r _ [10, 11, 12, 13, 14, 15, 16, 17, 18, 19] (by decide +kernel) (by decide +kernel)
set_option maxRecDepth 20000 in
theorem gX2_readNumber_X2_signAt : GoodIn wsX2_readNumber (wsV RX2 44 RX2 yX2_signAt wsX2_signAt) := goodIn_app (goodIn_of _ (by decide +kernel)) ggX2_readNumber_X2_signAt
theorem dX2_readNumber_0 : decode cX2_readNumber 0 = .ok (.iconst (-1), 1) := by decide +kernel
theorem dX2_readNumber_1 : decode cX2_readNumber 1 = .ok (.istore_n 1, 1) := by decide +kernel
theorem dX2_readNumber_2 : decode cX2_readNumber 2 = .ok (.iconst 0, 1) := by decide +kernel
theorem dX2_readNumber_3 : decode cX2_readNumber 3 = .ok (.istore_n 2, 1) := by decide +kernel
theorem dX2_readNumber_4 : decode cX2_readNumber 4 = .ok (.iload_n 2, 1) := by decide +kernel
theorem dX2_readNumber_5 : decode cX2_readNumber 5 = .ok (.iconst 3, 1) := by decide +kernel
theorem dX2_readNumber_6 : decode cX2_readNumber 6 = .ok (.if_icmp .ge 56, 3) := by decide +kernel
theorem dX2_readNumber_9 : decode cX2_readNumber 9 = .ok (.aload_n 0, 1) := by decide +kernel
theorem dX2_readNumber_10 : decode cX2_readNumber 10 = .ok (.aload_n 0, 1) := by decide +kernel
theorem dX2_readNumber_11 : decode cX2_readNumber 11 = .ok (.getfield 22, 3) := by decide +kernel
theorem dX2_readNumber_14 : decode cX2_readNumber 14 = .ok (.invokevirtual 44, 3) := by decide +kernel
theorem dX2_readNumber_17 : decode cX2_readNumber 17 = .ok (.istore_n 3, 1) := by decide +kernel
theorem dX2_readNumber_18 : decode cX2_readNumber 18 = .ok (.iload_n 3, 1) := by decide +kernel
theorem dX2_readNumber_19 : decode cX2_readNumber 19 = .ok (.bipush 48, 2) := by decide +kernel
theorem dX2_readNumber_21 : decode cX2_readNumber 21 = .ok (.if_icmp .lt 9, 3) := by decide +kernel
theorem dX2_readNumber_24 : decode cX2_readNumber 24 = .ok (.iload_n 3, 1) := by decide +kernel
theorem dX2_readNumber_25 : decode cX2_readNumber 25 = .ok (.bipush 57, 2) := by decide +kernel
theorem dX2_readNumber_27 : decode cX2_readNumber 27 = .ok (.if_icmp .le 5, 3) := by decide +kernel
theorem dX2_readNumber_30 : decode cX2_readNumber 30 = .ok (.iload_n 1, 1) := by decide +kernel
theorem dX2_readNumber_31 : decode cX2_readNumber 31 = .ok (.ireturn, 1) := by decide +kernel
theorem dX2_readNumber_32 : decode cX2_readNumber 32 = .ok (.iload_n 1, 1) := by decide +kernel
theorem dX2_readNumber_33 : decode cX2_readNumber 33 = .ok (.iconst 0, 1) := by decide +kernel
theorem dX2_readNumber_34 : decode cX2_readNumber 34 = .ok (.invokestatic 76, 3) := by decide +kernel
theorem dX2_readNumber_37 : decode cX2_readNumber 37 = .ok (.bipush 10, 2) := by decide +kernel
theorem dX2_readNumber_39 : decode cX2_readNumber 39 = .ok (.imul, 1) := by decide +kernel
theorem dX2_readNumber_40 : decode cX2_readNumber 40 = .ok (.iload_n 3, 1) := by decide +kernel
theorem dX2_readNumber_41 : decode cX2_readNumber 41 = .ok (.iadd, 1) := by decide +kernel
theorem dX2_readNumber_42 : decode cX2_readNumber 42 = .ok (.bipush 48, 2) := by decide +kernel
theorem dX2_readNumber_44 : decode cX2_readNumber 44 = .ok (.isub, 1) := by decide +kernel
theorem dX2_readNumber_45 : decode cX2_readNumber 45 = .ok (.istore_n 1, 1) := by decide +kernel
theorem dX2_readNumber_46 : decode cX2_readNumber 46 = .ok (.aload_n 0, 1) := by decide +kernel
theorem dX2_readNumber_47 : decode cX2_readNumber 47 = .ok (.dup, 1) := by decide +kernel
theorem dX2_readNumber_48 : decode cX2_readNumber 48 = .ok (.getfield 22, 3) := by decide +kernel
theorem dX2_readNumber_51 : decode cX2_readNumber 51 = .ok (.iconst 1, 1) := by decide +kernel
theorem dX2_readNumber_52 : decode cX2_readNumber 52 = .ok (.iadd, 1) := by decide +kernel
theorem dX2_readNumber_53 : decode cX2_readNumber 53 = .ok (.putfield 22, 3) := by decide +kernel
theorem dX2_readNumber_56 : decode cX2_readNumber 56 = .ok (.iinc 2 1, 3) := by decide +kernel
theorem dX2_readNumber_59 : decode cX2_readNumber 59 = .ok (.goto (-55), 3) := by decide +kernel
theorem dX2_readNumber_62 : decode cX2_readNumber 62 = .ok (.iload_n 1, 1) := by decide +kernel
theorem dX2_readNumber_63 : decode cX2_readNumber 63 = .ok (.ireturn, 1) := by decide +kernel
theorem dX2_signAt_0 : decode cX2_signAt 0 = .ok (.iload_n 1, 1) := by decide +kernel
theorem dX2_signAt_1 : decode cX2_signAt 1 = .ok (.ifCond .lt 21, 3) := by decide +kernel
theorem dX2_signAt_4 : decode cX2_signAt 4 = .ok (.iload_n 1, 1) := by decide +kernel
theorem dX2_signAt_5 : decode cX2_signAt 5 = .ok (.aload_n 0, 1) := by decide +kernel
theorem dX2_signAt_6 : decode cX2_signAt 6 = .ok (.getfield 18, 3) := by decide +kernel
theorem dX2_signAt_9 : decode cX2_signAt 9 = .ok (.if_icmp .ge 13, 3) := by decide +kernel
theorem dX2_signAt_12 : decode cX2_signAt 12 = .ok (.iload_n 1, 1) := by decide +kernel
theorem dX2_signAt_13 : decode cX2_signAt 13 = .ok (.bipush 60, 2) := by decide +kernel
theorem dX2_signAt_15 : decode cX2_signAt 15 = .ok (.if_icmp .ge 7, 3) := by decide +kernel
theorem dX2_signAt_18 : decode cX2_signAt 18 = .ok (.iconst 1, 1) := by decide +kernel
theorem dX2_signAt_19 : decode cX2_signAt 19 = .ok (.goto 4, 3) := by decide +kernel
theorem dX2_signAt_22 : decode cX2_signAt 22 = .ok (.iconst 0, 1) := by decide +kernel
theorem dX2_signAt_23 : decode cX2_signAt 23 = .ok (.istore_n 2, 1) := by decide +kernel
theorem dX2_signAt_24 : decode cX2_signAt 24 = .ok (.iload_n 2, 1) := by decide +kernel
theorem dX2_signAt_25 : decode cX2_signAt 25 = .ok (.ifCond .eq 12, 3) := by decide +kernel
theorem dX2_signAt_28 : decode cX2_signAt 28 = .ok (.aload_n 0, 1) := by decide +kernel
theorem dX2_signAt_29 : decode cX2_signAt 29 = .ok (.getfield 11, 3) := by decide +kernel
theorem dX2_signAt_32 : decode cX2_signAt 32 = .ok (.iload_n 1, 1) := by decide +kernel
theorem dX2_signAt_33 : decode cX2_signAt 33 = .ok (.iaload, 1) := by decide +kernel
theorem dX2_signAt_34 : decode cX2_signAt 34 = .ok (.goto 4, 3) := by decide +kernel
theorem dX2_signAt_37 : decode cX2_signAt 37 = .ok (.iconst 0, 1) := by decide +kernel
theorem dX2_signAt_38 : decode cX2_signAt 38 = .ok (.ireturn, 1) := by decide +kernel
theorem dX3_init_0 : decode cX3_init 0 = .ok (.aload_n 0, 1) := by decide +kernel
theorem dX3_init_1 : decode cX3_init 1 = .ok (.invokespecial 5, 3) := by decide +kernel
theorem dX3_init_4 : decode cX3_init 4 = .ok (.aload_n 0, 1) := by decide +kernel
theorem dX3_init_5 : decode cX3_init 5 = .ok (.sipush 352, 3) := by decide +kernel
theorem dX3_init_8 : decode cX3_init 8 = .ok (.newarray .int, 2) := by decide +kernel
theorem dX3_init_10 : decode cX3_init 10 = .ok (.putfield 11, 3) := by decide +kernel
theorem dX3_init_13 : decode cX3_init 13 = .ok (.aload_n 0, 1) := by decide +kernel
theorem dX3_init_14 : decode cX3_init 14 = .ok (.getfield 11, 3) := by decide +kernel
theorem dX3_init_17 : decode cX3_init 17 = .ok (.iconst 2, 1) := by decide +kernel
theorem dX3_init_18 : decode cX3_init 18 = .ok (.bipush 8, 2) := by decide +kernel
theorem dX3_init_20 : decode cX3_init 20 = .ok (.iastore, 1) := by decide +kernel
theorem dX3_init_21 : decode cX3_init 21 = .ok (.aload_n 0, 1) := by decide +kernel
theorem dX3_init_22 : decode cX3_init 22 = .ok (.getfield 11, 3) := by decide +kernel
theorem dX3_init_25 : decode cX3_init 25 = .ok (.iconst 3, 1) := by decide +kernel
theorem dX3_init_26 : decode cX3_init 26 = .ok (.bipush 20, 2) := by decide +kernel
theorem dX3_init_28 : decode cX3_init 28 = .ok (.iastore, 1) := by decide +kernel
theorem dX3_init_29 : decode cX3_init 29 = .ok (.return_, 1) := by decide +kernel
theorem dX3_get_0 : decode cX3_get 0 = .ok (.iload_n 1, 1) := by decide +kernel
theorem dX3_get_1 : decode cX3_get 1 = .ok (.ifCond .lt 19, 3) := by decide +kernel
theorem dX3_get_4 : decode cX3_get 4 = .ok (.iload_n 1, 1) := by decide +kernel
theorem dX3_get_5 : decode cX3_get 5 = .ok (.sipush 352, 3) := by decide +kernel
theorem dX3_get_8 : decode cX3_get 8 = .ok (.if_icmp .ge 12, 3) := by decide +kernel
theorem dX3_get_11 : decode cX3_get 11 = .ok (.aload_n 0, 1) := by decide +kernel
theorem dX3_get_12 : decode cX3_get 12 = .ok (.getfield 11, 3) := by decide +kernel
theorem dX3_get_15 : decode cX3_get 15 = .ok (.iload_n 1, 1) := by decide +kernel
theorem dX3_get_16 : decode cX3_get 16 = .ok (.iaload, 1) := by decide +kernel
theorem dX3_get_17 : decode cX3_get 17 = .ok (.goto 4, 3) := by decide +kernel
theorem dX3_get_20 : decode cX3_get 20 = .ok (.iconst 0, 1) := by decide +kernel
theorem dX3_get_21 : decode cX3_get 21 = .ok (.ireturn, 1) := by decide +kernel
theorem dX3_put_0 : decode cX3_put 0 = .ok (.iload_n 1, 1) := by decide +kernel
theorem dX3_put_1 : decode cX3_put 1 = .ok (.ifCond .lt 17, 3) := by decide +kernel
theorem dX3_put_4 : decode cX3_put 4 = .ok (.iload_n 1, 1) := by decide +kernel
theorem dX3_put_5 : decode cX3_put 5 = .ok (.sipush 352, 3) := by decide +kernel
theorem dX3_put_8 : decode cX3_put 8 = .ok (.if_icmp .ge 10, 3) := by decide +kernel
theorem dX3_put_11 : decode cX3_put 11 = .ok (.aload_n 0, 1) := by decide +kernel
theorem dX3_put_12 : decode cX3_put 12 = .ok (.getfield 11, 3) := by decide +kernel
theorem dX3_put_15 : decode cX3_put 15 = .ok (.iload_n 1, 1) := by decide +kernel
theorem dX3_put_16 : decode cX3_put 16 = .ok (.iload_n 2, 1) := by decide +kernel
theorem dX3_put_17 : decode cX3_put 17 = .ok (.iastore, 1) := by decide +kernel
theorem dX3_put_18 : decode cX3_put 18 = .ok (.return_, 1) := by decide +kernel
set_option maxRecDepth 20000 in
theorem ggX3_add_X3_get : GoodIn wsX3_add wsX3_get := goodIn_r _ [5, 6, 11] (by decide +kernel) (by decide +kernel)
set_option maxRecDepth 20000 in
theorem gX3_add_X3_get : GoodIn wsX3_add (wsV RX3 15 RX3 yX3_get wsX3_get) := goodIn_app (goodIn_of _ (by decide +kernel)) ggX3_add_X3_get
set_option maxRecDepth 20000 in
theorem ggX3_add_X3_put : GoodIn wsX3_add wsX3_put := goodIn_r _ [10, 6, 11] (by decide +kernel) (by decide +kernel)
set_option maxRecDepth 20000 in
theorem gX3_add_X3_put : GoodIn wsX3_add (wsV RX3 19 RX3 yX3_put wsX3_put) := goodIn_app (goodIn_of _ (by decide +kernel)) ggX3_add_X3_put
theorem dX3_add_0 : decode cX3_add 0 = .ok (.aload_n 0, 1) := by decide +kernel
theorem dX3_add_1 : decode cX3_add 1 = .ok (.iload_n 1, 1) := by decide +kernel
theorem dX3_add_2 : decode cX3_add 2 = .ok (.aload_n 0, 1) := by decide +kernel
theorem dX3_add_3 : decode cX3_add 3 = .ok (.iload_n 1, 1) := by decide +kernel
theorem dX3_add_4 : decode cX3_add 4 = .ok (.invokevirtual 15, 3) := by decide +kernel
theorem dX3_add_7 : decode cX3_add 7 = .ok (.iload_n 2, 1) := by decide +kernel
theorem dX3_add_8 : decode cX3_add 8 = .ok (.iadd, 1) := by decide +kernel
theorem dX3_add_9 : decode cX3_add 9 = .ok (.invokevirtual 19, 3) := by decide +kernel
theorem dX3_add_12 : decode cX3_add 12 = .ok (.return_, 1) := by decide +kernel
theorem dX3_copyFrom_0 : decode cX3_copyFrom 0 = .ok (.aload_n 1, 1) := by decide +kernel
theorem dX3_copyFrom_1 : decode cX3_copyFrom 1 = .ok (.ifnull 19, 3) := by decide +kernel
theorem dX3_copyFrom_4 : decode cX3_copyFrom 4 = .ok (.aload_n 1, 1) := by decide +kernel
theorem dX3_copyFrom_5 : decode cX3_copyFrom 5 = .ok (.getfield 11, 3) := by decide +kernel
theorem dX3_copyFrom_8 : decode cX3_copyFrom 8 = .ok (.iconst 0, 1) := by decide +kernel
theorem dX3_copyFrom_9 : decode cX3_copyFrom 9 = .ok (.aload_n 0, 1) := by decide +kernel
theorem dX3_copyFrom_10 : decode cX3_copyFrom 10 = .ok (.getfield 11, 3) := by decide +kernel
theorem dX3_copyFrom_13 : decode cX3_copyFrom 13 = .ok (.iconst 0, 1) := by decide +kernel
theorem dX3_copyFrom_14 : decode cX3_copyFrom 14 = .ok (.sipush 352, 3) := by decide +kernel
theorem dX3_copyFrom_17 : decode cX3_copyFrom 17 = .ok (.invokestatic 23, 3) := by decide +kernel
theorem dX3_copyFrom_20 : decode cX3_copyFrom 20 = .ok (.return_, 1) := by decide +kernel
theorem dX3_echo_0 : decode cX3_echo 0 = .ok (.iload_n 0, 1) := by decide +kernel
theorem dX3_echo_1 : decode cX3_echo 1 = .ok (.bipush 24, 2) := by decide +kernel
theorem dX3_echo_3 : decode cX3_echo 3 = .ok (.ishl, 1) := by decide +kernel
theorem dX3_echo_4 : decode cX3_echo 4 = .ok (.iload_n 1, 1) := by decide +kernel
theorem dX3_echo_5 : decode cX3_echo 5 = .ok (.bipush 14, 2) := by decide +kernel
theorem dX3_echo_7 : decode cX3_echo 7 = .ok (.ishl, 1) := by decide +kernel
theorem dX3_echo_8 : decode cX3_echo 8 = .ok (.ior, 1) := by decide +kernel
theorem dX3_echo_9 : decode cX3_echo 9 = .ok (.iload_n 2, 1) := by decide +kernel
theorem dX3_echo_10 : decode cX3_echo 10 = .ok (.ior, 1) := by decide +kernel
theorem dX3_echo_11 : decode cX3_echo 11 = .ok (.ireturn, 1) := by decide +kernel
theorem dX3_ownerOf_0 : decode cX3_ownerOf 0 = .ok (.iload_n 0, 1) := by decide +kernel
theorem dX3_ownerOf_1 : decode cX3_ownerOf 1 = .ok (.bipush 24, 2) := by decide +kernel
theorem dX3_ownerOf_3 : decode cX3_ownerOf 3 = .ok (.ishr, 1) := by decide +kernel
theorem dX3_ownerOf_4 : decode cX3_ownerOf 4 = .ok (.ireturn, 1) := by decide +kernel
theorem dX3_valueOf_0 : decode cX3_valueOf 0 = .ok (.iload_n 0, 1) := by decide +kernel
theorem dX3_valueOf_1 : decode cX3_valueOf 1 = .ok (.bipush 14, 2) := by decide +kernel
theorem dX3_valueOf_3 : decode cX3_valueOf 3 = .ok (.ishr, 1) := by decide +kernel
theorem dX3_valueOf_4 : decode cX3_valueOf 4 = .ok (.sipush 1023, 3) := by decide +kernel
theorem dX3_valueOf_7 : decode cX3_valueOf 7 = .ok (.iand, 1) := by decide +kernel
theorem dX3_valueOf_8 : decode cX3_valueOf 8 = .ok (.ireturn, 1) := by decide +kernel
theorem dX3_dayOf_0 : decode cX3_dayOf 0 = .ok (.iload_n 0, 1) := by decide +kernel
theorem dX3_dayOf_1 : decode cX3_dayOf 1 = .ok (.sipush 16383, 3) := by decide +kernel
theorem dX3_dayOf_4 : decode cX3_dayOf 4 = .ok (.iand, 1) := by decide +kernel
theorem dX3_dayOf_5 : decode cX3_dayOf 5 = .ok (.ireturn, 1) := by decide +kernel
set_option maxRecDepth 20000 in
theorem ggX3_ageOf_X3_get : GoodIn wsX3_ageOf wsX3_get := goodIn_r _ [5, 6, 10] (by decide +kernel) (by decide +kernel)
set_option maxRecDepth 20000 in
theorem gX3_ageOf_X3_get : GoodIn wsX3_ageOf (wsV RX3 15 RX3 yX3_get wsX3_get) := goodIn_app (goodIn_of _ (by decide +kernel)) ggX3_ageOf_X3_get
set_option maxRecDepth 20000 in
theorem ggX3_ageOf_X3_dayOf : GoodIn wsX3_ageOf wsX3_dayOf := goodIn_r _ [9] (by decide +kernel) (by decide +kernel)
set_option maxRecDepth 20000 in
theorem gX3_ageOf_X3_dayOf : GoodIn wsX3_ageOf (va_wsS RX3 29 yX3_dayOf wsX3_dayOf) := goodIn_app (goodIn_of _ (by decide +kernel)) ggX3_ageOf_X3_dayOf
theorem dX3_ageOf_0 : decode cX3_ageOf 0 = .ok (.aload_n 0, 1) := by decide +kernel
theorem dX3_ageOf_1 : decode cX3_ageOf 1 = .ok (.iconst 0, 1) := by decide +kernel
theorem dX3_ageOf_2 : decode cX3_ageOf 2 = .ok (.invokevirtual 15, 3) := by decide +kernel
theorem dX3_ageOf_5 : decode cX3_ageOf 5 = .ok (.iload_n 1, 1) := by decide +kernel
theorem dX3_ageOf_6 : decode cX3_ageOf 6 = .ok (.invokestatic 29, 3) := by decide +kernel
theorem dX3_ageOf_9 : decode cX3_ageOf 9 = .ok (.isub, 1) := by decide +kernel
theorem dX3_ageOf_10 : decode cX3_ageOf 10 = .ok (.ireturn, 1) := by decide +kernel
set_option maxRecDepth 20000 in
theorem ggX3_isFaded_X3_get : GoodIn wsX3_isFaded wsX3_get := goodIn_r _ [5, 6, 10] (by decide +kernel) (by decide +kernel)
set_option maxRecDepth 20000 in
theorem gX3_isFaded_X3_get : GoodIn wsX3_isFaded (wsV RX3 15 RX3 yX3_get wsX3_get) := goodIn_app (goodIn_of _ (by decide +kernel)) ggX3_isFaded_X3_get
set_option maxRecDepth 20000 in
theorem ggX3_isFaded_X3_dayOf : GoodIn wsX3_isFaded wsX3_dayOf := goodIn_r _ [9] (by decide +kernel) (by decide +kernel)
set_option maxRecDepth 20000 in
theorem gX3_isFaded_X3_dayOf : GoodIn wsX3_isFaded (va_wsS RX3 29 yX3_dayOf wsX3_dayOf) := goodIn_app (goodIn_of _ (by decide +kernel)) ggX3_isFaded_X3_dayOf
theorem dX3_isFaded_0 : decode cX3_isFaded 0 = .ok (.aload_n 0, 1) := by decide +kernel
theorem dX3_isFaded_1 : decode cX3_isFaded 1 = .ok (.iconst 0, 1) := by decide +kernel
theorem dX3_isFaded_2 : decode cX3_isFaded 2 = .ok (.invokevirtual 15, 3) := by decide +kernel
theorem dX3_isFaded_5 : decode cX3_isFaded 5 = .ok (.iload_n 1, 1) := by decide +kernel
theorem dX3_isFaded_6 : decode cX3_isFaded 6 = .ok (.invokestatic 29, 3) := by decide +kernel
theorem dX3_isFaded_9 : decode cX3_isFaded 9 = .ok (.isub, 1) := by decide +kernel
theorem dX3_isFaded_10 : decode cX3_isFaded 10 = .ok (.aload_n 0, 1) := by decide +kernel
theorem dX3_isFaded_11 : decode cX3_isFaded 11 = .ok (.iconst 3, 1) := by decide +kernel
theorem dX3_isFaded_12 : decode cX3_isFaded 12 = .ok (.invokevirtual 15, 3) := by decide +kernel
theorem dX3_isFaded_15 : decode cX3_isFaded 15 = .ok (.if_icmp .le 7, 3) := by decide +kernel
theorem dX3_isFaded_18 : decode cX3_isFaded 18 = .ok (.iconst 1, 1) := by decide +kernel
theorem dX3_isFaded_19 : decode cX3_isFaded 19 = .ok (.goto 4, 3) := by decide +kernel
theorem dX3_isFaded_22 : decode cX3_isFaded 22 = .ok (.iconst 0, 1) := by decide +kernel
theorem dX3_isFaded_23 : decode cX3_isFaded 23 = .ok (.ireturn, 1) := by decide +kernel
set_option maxRecDepth 20000 in
theorem ggX3_hasRow_X3_get : GoodIn wsX3_hasRow wsX3_get := goodIn_r _ [5, 6, 7] (by decide +kernel) (by decide +kernel)
set_option maxRecDepth 20000 in
theorem gX3_hasRow_X3_get : GoodIn wsX3_hasRow (wsV RX3 15 RX3 yX3_get wsX3_get) := goodIn_app (goodIn_of _ (by decide +kernel)) ggX3_hasRow_X3_get
theorem dX3_hasRow_0 : decode cX3_hasRow 0 = .ok (.iload_n 1, 1) := by decide +kernel
theorem dX3_hasRow_1 : decode cX3_hasRow 1 = .ok (.ifCond .lt 16, 3) := by decide +kernel
theorem dX3_hasRow_4 : decode cX3_hasRow 4 = .ok (.iload_n 1, 1) := by decide +kernel
theorem dX3_hasRow_5 : decode cX3_hasRow 5 = .ok (.aload_n 0, 1) := by decide +kernel
theorem dX3_hasRow_6 : decode cX3_hasRow 6 = .ok (.iconst 1, 1) := by decide +kernel
theorem dX3_hasRow_7 : decode cX3_hasRow 7 = .ok (.invokevirtual 15, 3) := by decide +kernel
theorem dX3_hasRow_10 : decode cX3_hasRow 10 = .ok (.if_icmp .ge 7, 3) := by decide +kernel
theorem dX3_hasRow_13 : decode cX3_hasRow 13 = .ok (.iconst 1, 1) := by decide +kernel
theorem dX3_hasRow_14 : decode cX3_hasRow 14 = .ok (.goto 4, 3) := by decide +kernel
theorem dX3_hasRow_17 : decode cX3_hasRow 17 = .ok (.iconst 0, 1) := by decide +kernel
theorem dX3_hasRow_18 : decode cX3_hasRow 18 = .ok (.ireturn, 1) := by decide +kernel
theorem dX3_isCell_0 : decode cX3_isCell 0 = .ok (.iload_n 0, 1) := by decide +kernel
theorem dX3_isCell_1 : decode cX3_isCell 1 = .ok (.ifCond .lt 13, 3) := by decide +kernel
theorem dX3_isCell_4 : decode cX3_isCell 4 = .ok (.iload_n 0, 1) := by decide +kernel
theorem dX3_isCell_5 : decode cX3_isCell 5 = .ok (.bipush 8, 2) := by decide +kernel
theorem dX3_isCell_7 : decode cX3_isCell 7 = .ok (.if_icmp .ge 7, 3) := by decide +kernel
theorem dX3_isCell_10 : decode cX3_isCell 10 = .ok (.iconst 1, 1) := by decide +kernel
theorem dX3_isCell_11 : decode cX3_isCell 11 = .ok (.goto 4, 3) := by decide +kernel
theorem dX3_isCell_14 : decode cX3_isCell 14 = .ok (.iconst 0, 1) := by decide +kernel
theorem dX3_isCell_15 : decode cX3_isCell 15 = .ok (.ireturn, 1) := by decide +kernel
set_option maxRecDepth 20000 in
theorem ggX3_lives_X3_get : GoodIn wsX3_lives wsX3_get := goodIn_r _ [5, 6, 7] (by decide +kernel) (by decide +kernel)
set_option maxRecDepth 20000 in
theorem gX3_lives_X3_get : GoodIn wsX3_lives (wsV RX3 15 RX3 yX3_get wsX3_get) := goodIn_app (goodIn_of _ (by decide +kernel)) ggX3_lives_X3_get
theorem dX3_lives_0 : decode cX3_lives 0 = .ok (.aload_n 0, 1) := by decide +kernel
theorem dX3_lives_1 : decode cX3_lives 1 = .ok (.bipush 28, 2) := by decide +kernel
theorem dX3_lives_3 : decode cX3_lives 3 = .ok (.iload_n 1, 1) := by decide +kernel
theorem dX3_lives_4 : decode cX3_lives 4 = .ok (.iadd, 1) := by decide +kernel
theorem dX3_lives_5 : decode cX3_lives 5 = .ok (.invokevirtual 15, 3) := by decide +kernel
theorem dX3_lives_8 : decode cX3_lives 8 = .ok (.iconst 1, 1) := by decide +kernel
theorem dX3_lives_9 : decode cX3_lives 9 = .ok (.if_icmp .ne 7, 3) := by decide +kernel
theorem dX3_lives_12 : decode cX3_lives 12 = .ok (.iconst 1, 1) := by decide +kernel
theorem dX3_lives_13 : decode cX3_lives 13 = .ok (.goto 4, 3) := by decide +kernel
theorem dX3_lives_16 : decode cX3_lives 16 = .ok (.iconst 0, 1) := by decide +kernel
theorem dX3_lives_17 : decode cX3_lives 17 = .ok (.ireturn, 1) := by decide +kernel
set_option maxRecDepth 20000 in
theorem ggX3_neighbour_X3_get : GoodIn wsX3_neighbour wsX3_get := goodIn_r _ [5, 6, 7] (by decide +kernel) (by decide +kernel)
set_option maxRecDepth 20000 in
theorem gX3_neighbour_X3_get : GoodIn wsX3_neighbour (wsV RX3 15 RX3 yX3_get wsX3_get) := goodIn_app (goodIn_of _ (by decide +kernel)) ggX3_neighbour_X3_get
theorem dX3_neighbour_0 : decode cX3_neighbour 0 = .ok (.aload_n 0, 1) := by decide +kernel
theorem dX3_neighbour_1 : decode cX3_neighbour 1 = .ok (.bipush 10, 2) := by decide +kernel
theorem dX3_neighbour_3 : decode cX3_neighbour 3 = .ok (.iload_n 1, 1) := by decide +kernel
theorem dX3_neighbour_4 : decode cX3_neighbour 4 = .ok (.iadd, 1) := by decide +kernel
theorem dX3_neighbour_5 : decode cX3_neighbour 5 = .ok (.invokevirtual 15, 3) := by decide +kernel
theorem dX3_neighbour_8 : decode cX3_neighbour 8 = .ok (.iload_n 2, 1) := by decide +kernel
theorem dX3_neighbour_9 : decode cX3_neighbour 9 = .ok (.iadd, 1) := by decide +kernel
theorem dX3_neighbour_10 : decode cX3_neighbour 10 = .ok (.istore_n 3, 1) := by decide +kernel
theorem dX3_neighbour_11 : decode cX3_neighbour 11 = .ok (.aload_n 0, 1) := by decide +kernel
theorem dX3_neighbour_12 : decode cX3_neighbour 12 = .ok (.iconst 1, 1) := by decide +kernel
theorem dX3_neighbour_13 : decode cX3_neighbour 13 = .ok (.invokevirtual 15, 3) := by decide +kernel
theorem dX3_neighbour_16 : decode cX3_neighbour 16 = .ok (.iconst 1, 1) := by decide +kernel
theorem dX3_neighbour_17 : decode cX3_neighbour 17 = .ok (.isub, 1) := by decide +kernel
theorem dX3_neighbour_18 : decode cX3_neighbour 18 = .ok (.istore 4, 2) := by decide +kernel
theorem dX3_neighbour_20 : decode cX3_neighbour 20 = .ok (.iload_n 3, 1) := by decide +kernel
theorem dX3_neighbour_21 : decode cX3_neighbour 21 = .ok (.ifCond .ge 9, 3) := by decide +kernel
theorem dX3_neighbour_24 : decode cX3_neighbour 24 = .ok (.iload 4, 2) := by decide +kernel
theorem dX3_neighbour_26 : decode cX3_neighbour 26 = .ok (.istore_n 3, 1) := by decide +kernel
theorem dX3_neighbour_27 : decode cX3_neighbour 27 = .ok (.goto 11, 3) := by decide +kernel
theorem dX3_neighbour_30 : decode cX3_neighbour 30 = .ok (.iload_n 3, 1) := by decide +kernel
theorem dX3_neighbour_31 : decode cX3_neighbour 31 = .ok (.iload 4, 2) := by decide +kernel
theorem dX3_neighbour_33 : decode cX3_neighbour 33 = .ok (.if_icmp .le 5, 3) := by decide +kernel
theorem dX3_neighbour_36 : decode cX3_neighbour 36 = .ok (.iconst 0, 1) := by decide +kernel
theorem dX3_neighbour_37 : decode cX3_neighbour 37 = .ok (.istore_n 3, 1) := by decide +kernel
theorem dX3_neighbour_38 : decode cX3_neighbour 38 = .ok (.aload_n 0, 1) := by decide +kernel
theorem dX3_neighbour_39 : decode cX3_neighbour 39 = .ok (.bipush 19, 2) := by decide +kernel
theorem dX3_neighbour_41 : decode cX3_neighbour 41 = .ok (.iload_n 3, 1) := by decide +kernel
theorem dX3_neighbour_42 : decode cX3_neighbour 42 = .ok (.iadd, 1) := by decide +kernel
theorem dX3_neighbour_43 : decode cX3_neighbour 43 = .ok (.invokevirtual 15, 3) := by decide +kernel
theorem dX3_neighbour_46 : decode cX3_neighbour 46 = .ok (.ireturn, 1) := by decide +kernel
theorem dX3_stepToHolder_0 : decode cX3_stepToHolder 0 = .ok (.iload_n 0, 1) := by decide +kernel
theorem dX3_stepToHolder_1 : decode cX3_stepToHolder 1 = .ok (.iconst 2, 1) := by decide +kernel
theorem dX3_stepToHolder_2 : decode cX3_stepToHolder 2 = .ok (.irem, 1) := by decide +kernel
theorem dX3_stepToHolder_3 : decode cX3_stepToHolder 3 = .ok (.ifCond .ne 7, 3) := by decide +kernel
theorem dX3_stepToHolder_6 : decode cX3_stepToHolder 6 = .ok (.iconst (-1), 1) := by decide +kernel
theorem dX3_stepToHolder_7 : decode cX3_stepToHolder 7 = .ok (.goto 4, 3) := by decide +kernel
theorem dX3_stepToHolder_10 : decode cX3_stepToHolder 10 = .ok (.iconst 1, 1) := by decide +kernel
theorem dX3_stepToHolder_11 : decode cX3_stepToHolder 11 = .ok (.ireturn, 1) := by decide +kernel
set_option maxRecDepth 20000 in
theorem ggX3_freshEcho_X3_stepToHolder : GoodIn wsX3_freshEcho wsX3_stepToHolder := goodIn_r _ [4] (by decide +kernel) (by decide +kernel)
set_option maxRecDepth 20000 in
theorem gX3_freshEcho_X3_stepToHolder : GoodIn wsX3_freshEcho (va_wsS RX3 32 yX3_stepToHolder wsX3_stepToHolder) := goodIn_app (goodIn_of _ (by decide +kernel)) ggX3_freshEcho_X3_stepToHolder
set_option maxRecDepth 20000 in
theorem ggX3_freshEcho_X3_neighbour : GoodIn wsX3_freshEcho wsX3_neighbour := goodIn_r _ [8, 9, 10, 11, 3, 12, 13, 24] (by decide +kernel) (by decide +kernel)
set_option maxRecDepth 20000 in
theorem gX3_freshEcho_X3_neighbour : GoodIn wsX3_freshEcho (wsV RX3 35 RX3 yX3_neighbour wsX3_neighbour) := goodIn_app (goodIn_of _ (by decide +kernel)) ggX3_freshEcho_X3_neighbour
set_option maxRecDepth 20000 in
theorem ggX3_freshEcho_X3_get : GoodIn wsX3_freshEcho wsX3_get := goodIn_r _ [12, 13, 24] (by decide +kernel) (by decide +kernel)
set_option maxRecDepth 20000 in
theorem gX3_freshEcho_X3_get : GoodIn wsX3_freshEcho (wsV RX3 15 RX3 yX3_get wsX3_get) := goodIn_app (goodIn_of _ (by decide +kernel)) ggX3_freshEcho_X3_get
set_option maxRecDepth 20000 in
theorem ggX3_freshEcho_X3_ownerOf : GoodIn wsX3_freshEcho wsX3_ownerOf := goodIn_r _ [16] (by decide +kernel) (by decide +kernel)
set_option maxRecDepth 20000 in
theorem gX3_freshEcho_X3_ownerOf : GoodIn wsX3_freshEcho (va_wsS RX3 39 yX3_ownerOf wsX3_ownerOf) := goodIn_app (goodIn_of _ (by decide +kernel)) ggX3_freshEcho_X3_ownerOf
set_option maxRecDepth 20000 in
theorem ggX3_freshEcho_X3_isFaded : GoodIn wsX3_freshEcho wsX3_isFaded := goodIn_r _ [20, 9, 10, 11, 3, 12, 13, 21, 22, 23, 24] (by decide +kernel) (by decide +kernel)
set_option maxRecDepth 20000 in
theorem gX3_freshEcho_X3_isFaded : GoodIn wsX3_freshEcho (wsV RX3 42 RX3 yX3_isFaded wsX3_isFaded) := goodIn_app (goodIn_of _ (by decide +kernel)) ggX3_freshEcho_X3_isFaded
theorem dX3_freshEcho_0 : decode cX3_freshEcho 0 = .ok (.aload_n 0, 1) := by decide +kernel
theorem dX3_freshEcho_1 : decode cX3_freshEcho 1 = .ok (.iload_n 1, 1) := by decide +kernel
theorem dX3_freshEcho_2 : decode cX3_freshEcho 2 = .ok (.iload_n 2, 1) := by decide +kernel
theorem dX3_freshEcho_3 : decode cX3_freshEcho 3 = .ok (.invokestatic 32, 3) := by decide +kernel
theorem dX3_freshEcho_6 : decode cX3_freshEcho 6 = .ok (.invokevirtual 35, 3) := by decide +kernel
theorem dX3_freshEcho_9 : decode cX3_freshEcho 9 = .ok (.istore_n 3, 1) := by decide +kernel
theorem dX3_freshEcho_10 : decode cX3_freshEcho 10 = .ok (.sipush 208, 3) := by decide +kernel
theorem dX3_freshEcho_13 : decode cX3_freshEcho 13 = .ok (.iload_n 3, 1) := by decide +kernel
theorem dX3_freshEcho_14 : decode cX3_freshEcho 14 = .ok (.bipush 16, 2) := by decide +kernel
theorem dX3_freshEcho_16 : decode cX3_freshEcho 16 = .ok (.imul, 1) := by decide +kernel
theorem dX3_freshEcho_17 : decode cX3_freshEcho 17 = .ok (.iadd, 1) := by decide +kernel
theorem dX3_freshEcho_18 : decode cX3_freshEcho 18 = .ok (.istore 4, 2) := by decide +kernel
theorem dX3_freshEcho_20 : decode cX3_freshEcho 20 = .ok (.aload_n 0, 1) := by decide +kernel
theorem dX3_freshEcho_21 : decode cX3_freshEcho 21 = .ok (.bipush 55, 2) := by decide +kernel
theorem dX3_freshEcho_23 : decode cX3_freshEcho 23 = .ok (.iload_n 3, 1) := by decide +kernel
theorem dX3_freshEcho_24 : decode cX3_freshEcho 24 = .ok (.iadd, 1) := by decide +kernel
theorem dX3_freshEcho_25 : decode cX3_freshEcho 25 = .ok (.invokevirtual 15, 3) := by decide +kernel
theorem dX3_freshEcho_28 : decode cX3_freshEcho 28 = .ok (.istore 5, 2) := by decide +kernel
theorem dX3_freshEcho_30 : decode cX3_freshEcho 30 = .ok (.iconst 0, 1) := by decide +kernel
theorem dX3_freshEcho_31 : decode cX3_freshEcho 31 = .ok (.istore 6, 2) := by decide +kernel
theorem dX3_freshEcho_33 : decode cX3_freshEcho 33 = .ok (.iload 6, 2) := by decide +kernel
theorem dX3_freshEcho_35 : decode cX3_freshEcho 35 = .ok (.iload 5, 2) := by decide +kernel
theorem dX3_freshEcho_37 : decode cX3_freshEcho 37 = .ok (.if_icmp .ge 50, 3) := by decide +kernel
theorem dX3_freshEcho_40 : decode cX3_freshEcho 40 = .ok (.aload_n 0, 1) := by decide +kernel
theorem dX3_freshEcho_41 : decode cX3_freshEcho 41 = .ok (.iload 4, 2) := by decide +kernel
theorem dX3_freshEcho_43 : decode cX3_freshEcho 43 = .ok (.iload 6, 2) := by decide +kernel
theorem dX3_freshEcho_45 : decode cX3_freshEcho 45 = .ok (.iadd, 1) := by decide +kernel
theorem dX3_freshEcho_46 : decode cX3_freshEcho 46 = .ok (.invokevirtual 15, 3) := by decide +kernel
theorem dX3_freshEcho_49 : decode cX3_freshEcho 49 = .ok (.istore 7, 2) := by decide +kernel
theorem dX3_freshEcho_51 : decode cX3_freshEcho 51 = .ok (.iload 7, 2) := by decide +kernel
theorem dX3_freshEcho_53 : decode cX3_freshEcho 53 = .ok (.invokestatic 39, 3) := by decide +kernel
theorem dX3_freshEcho_56 : decode cX3_freshEcho 56 = .ok (.iload_n 1, 1) := by decide +kernel
theorem dX3_freshEcho_57 : decode cX3_freshEcho 57 = .ok (.bipush 8, 2) := by decide +kernel
theorem dX3_freshEcho_59 : decode cX3_freshEcho 59 = .ok (.imul, 1) := by decide +kernel
theorem dX3_freshEcho_60 : decode cX3_freshEcho 60 = .ok (.iload_n 2, 1) := by decide +kernel
theorem dX3_freshEcho_61 : decode cX3_freshEcho 61 = .ok (.iadd, 1) := by decide +kernel
theorem dX3_freshEcho_62 : decode cX3_freshEcho 62 = .ok (.if_icmp .ne 19, 3) := by decide +kernel
theorem dX3_freshEcho_65 : decode cX3_freshEcho 65 = .ok (.aload_n 0, 1) := by decide +kernel
theorem dX3_freshEcho_66 : decode cX3_freshEcho 66 = .ok (.iload 7, 2) := by decide +kernel
theorem dX3_freshEcho_68 : decode cX3_freshEcho 68 = .ok (.invokevirtual 42, 3) := by decide +kernel
theorem dX3_freshEcho_71 : decode cX3_freshEcho 71 = .ok (.ifCond .eq 7, 3) := by decide +kernel
theorem dX3_freshEcho_74 : decode cX3_freshEcho 74 = .ok (.iconst (-1), 1) := by decide +kernel
theorem dX3_freshEcho_75 : decode cX3_freshEcho 75 = .ok (.goto 5, 3) := by decide +kernel
theorem dX3_freshEcho_78 : decode cX3_freshEcho 78 = .ok (.iload 7, 2) := by decide +kernel
theorem dX3_freshEcho_80 : decode cX3_freshEcho 80 = .ok (.ireturn, 1) := by decide +kernel
theorem dX3_freshEcho_81 : decode cX3_freshEcho 81 = .ok (.iinc 6 1, 3) := by decide +kernel
theorem dX3_freshEcho_84 : decode cX3_freshEcho 84 = .ok (.goto (-51), 3) := by decide +kernel
theorem dX3_freshEcho_87 : decode cX3_freshEcho 87 = .ok (.iconst (-1), 1) := by decide +kernel
theorem dX3_freshEcho_88 : decode cX3_freshEcho 88 = .ok (.ireturn, 1) := by decide +kernel
set_option maxRecDepth 20000 in
theorem ggX3_comingBack_X3_freshEcho : GoodIn wsX3_comingBack wsX3_freshEcho := goodIn_r _ [5, 6, 7, 4, 8, 9, 10, 11, 12, 13, 14, 15, 16, 17, 18, 19, 20, 21, 22, 23, 24, 25, 26, 27, 31] (by decide +kernel) (by decide +kernel)
set_option maxRecDepth 20000 in
theorem gX3_comingBack_X3_freshEcho : GoodIn wsX3_comingBack (wsV RX3 46 RX3 yX3_freshEcho wsX3_freshEcho) := goodIn_app (goodIn_of _ (by decide +kernel)) ggX3_comingBack_X3_freshEcho
set_option maxRecDepth 20000 in
theorem ggX3_comingBack_X3_valueOf : GoodIn wsX3_comingBack wsX3_valueOf := goodIn_r _ [30] (by decide +kernel) (by decide +kernel)
set_option maxRecDepth 20000 in
theorem gX3_comingBack_X3_valueOf : GoodIn wsX3_comingBack (va_wsS RX3 49 yX3_valueOf wsX3_valueOf) := goodIn_app (goodIn_of _ (by decide +kernel)) ggX3_comingBack_X3_valueOf
set_option maxRecDepth 20000 in
theorem ggX3_comingBack_X3_get : GoodIn wsX3_comingBack wsX3_get := goodIn_r _ [16, 17, 31] (by decide +kernel) (by decide +kernel)
set_option maxRecDepth 20000 in
theorem gX3_comingBack_X3_get : GoodIn wsX3_comingBack (wsV RX3 15 RX3 yX3_get wsX3_get) := goodIn_app (goodIn_of _ (by decide +kernel)) ggX3_comingBack_X3_get
theorem dX3_comingBack_0 : decode cX3_comingBack 0 = .ok (.iconst 0, 1) := by decide +kernel
theorem dX3_comingBack_1 : decode cX3_comingBack 1 = .ok (.istore_n 2, 1) := by decide +kernel
theorem dX3_comingBack_2 : decode cX3_comingBack 2 = .ok (.iconst 0, 1) := by decide +kernel
theorem dX3_comingBack_3 : decode cX3_comingBack 3 = .ok (.istore_n 3, 1) := by decide +kernel
theorem dX3_comingBack_4 : decode cX3_comingBack 4 = .ok (.iload_n 3, 1) := by decide +kernel
theorem dX3_comingBack_5 : decode cX3_comingBack 5 = .ok (.bipush 8, 2) := by decide +kernel
theorem dX3_comingBack_7 : decode cX3_comingBack 7 = .ok (.if_icmp .ge 47, 3) := by decide +kernel
theorem dX3_comingBack_10 : decode cX3_comingBack 10 = .ok (.aload_n 0, 1) := by decide +kernel
theorem dX3_comingBack_11 : decode cX3_comingBack 11 = .ok (.iload_n 1, 1) := by decide +kernel
theorem dX3_comingBack_12 : decode cX3_comingBack 12 = .ok (.iload_n 3, 1) := by decide +kernel
theorem dX3_comingBack_13 : decode cX3_comingBack 13 = .ok (.invokevirtual 46, 3) := by decide +kernel
theorem dX3_comingBack_16 : decode cX3_comingBack 16 = .ok (.istore 4, 2) := by decide +kernel
theorem dX3_comingBack_18 : decode cX3_comingBack 18 = .ok (.iload 4, 2) := by decide +kernel
theorem dX3_comingBack_20 : decode cX3_comingBack 20 = .ok (.iconst (-1), 1) := by decide +kernel
theorem dX3_comingBack_21 : decode cX3_comingBack 21 = .ok (.if_icmp .eq 27, 3) := by decide +kernel
theorem dX3_comingBack_24 : decode cX3_comingBack 24 = .ok (.iload 4, 2) := by decide +kernel
theorem dX3_comingBack_26 : decode cX3_comingBack 26 = .ok (.invokestatic 49, 3) := by decide +kernel
theorem dX3_comingBack_29 : decode cX3_comingBack 29 = .ok (.aload_n 0, 1) := by decide +kernel
theorem dX3_comingBack_30 : decode cX3_comingBack 30 = .ok (.bipush 64, 2) := by decide +kernel
theorem dX3_comingBack_32 : decode cX3_comingBack 32 = .ok (.iload_n 1, 1) := by decide +kernel
theorem dX3_comingBack_33 : decode cX3_comingBack 33 = .ok (.bipush 8, 2) := by decide +kernel
theorem dX3_comingBack_35 : decode cX3_comingBack 35 = .ok (.imul, 1) := by decide +kernel
theorem dX3_comingBack_36 : decode cX3_comingBack 36 = .ok (.iadd, 1) := by decide +kernel
theorem dX3_comingBack_37 : decode cX3_comingBack 37 = .ok (.iload_n 3, 1) := by decide +kernel
theorem dX3_comingBack_38 : decode cX3_comingBack 38 = .ok (.iadd, 1) := by decide +kernel
theorem dX3_comingBack_39 : decode cX3_comingBack 39 = .ok (.invokevirtual 15, 3) := by decide +kernel
theorem dX3_comingBack_42 : decode cX3_comingBack 42 = .ok (.if_icmp .ne 6, 3) := by decide +kernel
theorem dX3_comingBack_45 : decode cX3_comingBack 45 = .ok (.iinc 2 1, 3) := by decide +kernel
theorem dX3_comingBack_48 : decode cX3_comingBack 48 = .ok (.iinc 3 1, 3) := by decide +kernel
theorem dX3_comingBack_51 : decode cX3_comingBack 51 = .ok (.goto (-47), 3) := by decide +kernel
theorem dX3_comingBack_54 : decode cX3_comingBack 54 = .ok (.iload_n 2, 1) := by decide +kernel
theorem dX3_comingBack_55 : decode cX3_comingBack 55 = .ok (.ireturn, 1) := by decide +kernel
set_option maxRecDepth 20000 in
theorem ggX3_beginAnew_X3_put : GoodIn wsX3_beginAnew wsX3_put := goodIn_r _ [6, 7, 57] (by decide +kernel) (by decide +kernel)
set_option maxRecDepth 20000 in
theorem gX3_beginAnew_X3_put : GoodIn wsX3_beginAnew (wsV RX3 19 RX3 yX3_put wsX3_put) := goodIn_app (goodIn_of _ (by decide +kernel)) ggX3_beginAnew_X3_put
set_option maxRecDepth 20000 in
theorem ggX3_beginAnew_X3_layFirstEchoes : GoodIn wsX3_beginAnew wsX3_layFirstEchoes := goodIn_r _ [11, 12, 13, 14, 5, 15, 16, 17, 18, 19, 20, 21, 22, 23, 7, 24, 25, 26, 27, 28, 29, 30, 31, 32, 33, 34, 35, 36, 37, 38, 39, 40, 41, 2, 3, 4, 6, 42, 43, 44, 45, 46, 47, 48, 49, 50, 51, 52, 53, 54, 55, 56, 57] (by decide +kernel) (by decide +kernel)
set_option maxRecDepth 20000 in
theorem gX3_beginAnew_X3_layFirstEchoes : GoodIn wsX3_beginAnew (wsV RX3 53 RX3 yX3_layFirstEchoes wsX3_layFirstEchoes) := goodIn_app (goodIn_of _ (by decide +kernel)) ggX3_beginAnew_X3_layFirstEchoes
theorem dX3_beginAnew_0 : decode cX3_beginAnew 0 = .ok (.iload_n 1, 1) := by decide +kernel
theorem dX3_beginAnew_1 : decode cX3_beginAnew 1 = .ok (.iconst 3, 1) := by decide +kernel
theorem dX3_beginAnew_2 : decode cX3_beginAnew 2 = .ok (.if_icmp .lt 9, 3) := by decide +kernel
theorem dX3_beginAnew_5 : decode cX3_beginAnew 5 = .ok (.iload_n 1, 1) := by decide +kernel
theorem dX3_beginAnew_6 : decode cX3_beginAnew 6 = .ok (.bipush 9, 2) := by decide +kernel
theorem dX3_beginAnew_8 : decode cX3_beginAnew 8 = .ok (.if_icmp .le 6, 3) := by decide +kernel
theorem dX3_beginAnew_11 : decode cX3_beginAnew 11 = .ok (.ldc 52, 2) := by decide +kernel
theorem dX3_beginAnew_13 : decode cX3_beginAnew 13 = .ok (.ireturn, 1) := by decide +kernel
theorem dX3_beginAnew_14 : decode cX3_beginAnew 14 = .ok (.aload_n 0, 1) := by decide +kernel
theorem dX3_beginAnew_15 : decode cX3_beginAnew 15 = .ok (.iconst 1, 1) := by decide +kernel
theorem dX3_beginAnew_16 : decode cX3_beginAnew 16 = .ok (.iload_n 1, 1) := by decide +kernel
theorem dX3_beginAnew_17 : decode cX3_beginAnew 17 = .ok (.invokevirtual 19, 3) := by decide +kernel
theorem dX3_beginAnew_20 : decode cX3_beginAnew 20 = .ok (.iconst 4, 1) := by decide +kernel
theorem dX3_beginAnew_21 : decode cX3_beginAnew 21 = .ok (.istore_n 2, 1) := by decide +kernel
theorem dX3_beginAnew_22 : decode cX3_beginAnew 22 = .ok (.iload_n 2, 1) := by decide +kernel
theorem dX3_beginAnew_23 : decode cX3_beginAnew 23 = .ok (.sipush 352, 3) := by decide +kernel
theorem dX3_beginAnew_26 : decode cX3_beginAnew 26 = .ok (.if_icmp .ge 15, 3) := by decide +kernel
theorem dX3_beginAnew_29 : decode cX3_beginAnew 29 = .ok (.aload_n 0, 1) := by decide +kernel
theorem dX3_beginAnew_30 : decode cX3_beginAnew 30 = .ok (.iload_n 2, 1) := by decide +kernel
theorem dX3_beginAnew_31 : decode cX3_beginAnew 31 = .ok (.iconst 0, 1) := by decide +kernel
theorem dX3_beginAnew_32 : decode cX3_beginAnew 32 = .ok (.invokevirtual 19, 3) := by decide +kernel
theorem dX3_beginAnew_35 : decode cX3_beginAnew 35 = .ok (.iinc 2 1, 3) := by decide +kernel
theorem dX3_beginAnew_38 : decode cX3_beginAnew 38 = .ok (.goto (-16), 3) := by decide +kernel
theorem dX3_beginAnew_41 : decode cX3_beginAnew 41 = .ok (.iconst 0, 1) := by decide +kernel
theorem dX3_beginAnew_42 : decode cX3_beginAnew 42 = .ok (.istore_n 2, 1) := by decide +kernel
theorem dX3_beginAnew_43 : decode cX3_beginAnew 43 = .ok (.iload_n 2, 1) := by decide +kernel
theorem dX3_beginAnew_44 : decode cX3_beginAnew 44 = .ok (.iload_n 1, 1) := by decide +kernel
theorem dX3_beginAnew_45 : decode cX3_beginAnew 45 = .ok (.if_icmp .ge 36, 3) := by decide +kernel
theorem dX3_beginAnew_48 : decode cX3_beginAnew 48 = .ok (.aload_n 0, 1) := by decide +kernel
theorem dX3_beginAnew_49 : decode cX3_beginAnew 49 = .ok (.bipush 10, 2) := by decide +kernel
theorem dX3_beginAnew_51 : decode cX3_beginAnew 51 = .ok (.iload_n 2, 1) := by decide +kernel
theorem dX3_beginAnew_52 : decode cX3_beginAnew 52 = .ok (.iadd, 1) := by decide +kernel
theorem dX3_beginAnew_53 : decode cX3_beginAnew 53 = .ok (.iload_n 2, 1) := by decide +kernel
theorem dX3_beginAnew_54 : decode cX3_beginAnew 54 = .ok (.invokevirtual 19, 3) := by decide +kernel
theorem dX3_beginAnew_57 : decode cX3_beginAnew 57 = .ok (.aload_n 0, 1) := by decide +kernel
theorem dX3_beginAnew_58 : decode cX3_beginAnew 58 = .ok (.bipush 19, 2) := by decide +kernel
theorem dX3_beginAnew_60 : decode cX3_beginAnew 60 = .ok (.iload_n 2, 1) := by decide +kernel
theorem dX3_beginAnew_61 : decode cX3_beginAnew 61 = .ok (.iadd, 1) := by decide +kernel
theorem dX3_beginAnew_62 : decode cX3_beginAnew 62 = .ok (.iload_n 2, 1) := by decide +kernel
theorem dX3_beginAnew_63 : decode cX3_beginAnew 63 = .ok (.invokevirtual 19, 3) := by decide +kernel
theorem dX3_beginAnew_66 : decode cX3_beginAnew 66 = .ok (.aload_n 0, 1) := by decide +kernel
theorem dX3_beginAnew_67 : decode cX3_beginAnew 67 = .ok (.bipush 28, 2) := by decide +kernel
theorem dX3_beginAnew_69 : decode cX3_beginAnew 69 = .ok (.iload_n 2, 1) := by decide +kernel
theorem dX3_beginAnew_70 : decode cX3_beginAnew 70 = .ok (.iadd, 1) := by decide +kernel
theorem dX3_beginAnew_71 : decode cX3_beginAnew 71 = .ok (.iconst 1, 1) := by decide +kernel
theorem dX3_beginAnew_72 : decode cX3_beginAnew 72 = .ok (.invokevirtual 19, 3) := by decide +kernel
theorem dX3_beginAnew_75 : decode cX3_beginAnew 75 = .ok (.iinc 2 1, 3) := by decide +kernel
theorem dX3_beginAnew_78 : decode cX3_beginAnew 78 = .ok (.goto (-35), 3) := by decide +kernel
theorem dX3_beginAnew_81 : decode cX3_beginAnew 81 = .ok (.aload_n 0, 1) := by decide +kernel
theorem dX3_beginAnew_82 : decode cX3_beginAnew 82 = .ok (.iload_n 1, 1) := by decide +kernel
theorem dX3_beginAnew_83 : decode cX3_beginAnew 83 = .ok (.invokevirtual 53, 3) := by decide +kernel
theorem dX3_beginAnew_86 : decode cX3_beginAnew 86 = .ok (.istore_n 2, 1) := by decide +kernel
theorem dX3_beginAnew_87 : decode cX3_beginAnew 87 = .ok (.aload_n 0, 1) := by decide +kernel
theorem dX3_beginAnew_88 : decode cX3_beginAnew 88 = .ok (.bipush 9, 2) := by decide +kernel
theorem dX3_beginAnew_90 : decode cX3_beginAnew 90 = .ok (.iconst 0, 1) := by decide +kernel
theorem dX3_beginAnew_91 : decode cX3_beginAnew 91 = .ok (.invokevirtual 19, 3) := by decide +kernel
theorem dX3_beginAnew_94 : decode cX3_beginAnew 94 = .ok (.iload_n 2, 1) := by decide +kernel
theorem dX3_beginAnew_95 : decode cX3_beginAnew 95 = .ok (.ireturn, 1) := by decide +kernel
set_option maxRecDepth 20000 in
theorem ggX3_layFirstEchoes_X3_layRow : GoodIn wsX3_layFirstEchoes wsX3_layRow := goodIn_r _ [5, 6, 7, 8, 4, 9, 10, 11, 12, 13, 14, 15, 16, 17, 18, 19, 20, 21, 22, 23, 24, 25, 26, 27, 28, 29, 30, 31, 32, 33, 34, 35, 36, 37, 38, 39, 40, 41, 42, 43, 44, 45, 46, 47, 48, 49, 50, 51, 52] (by decide +kernel) (by decide +kernel)
set_option maxRecDepth 20000 in
theorem gX3_layFirstEchoes_X3_layRow : GoodIn wsX3_layFirstEchoes (wsV RX3 56 RX3 yX3_layRow wsX3_layRow) := goodIn_app (goodIn_of _ (by decide +kernel)) ggX3_layFirstEchoes_X3_layRow
set_option maxRecDepth 20000 in
theorem ggX3_layFirstEchoes_X3_put : GoodIn wsX3_layFirstEchoes wsX3_put := goodIn_r _ [36, 14, 52] (by decide +kernel) (by decide +kernel)
set_option maxRecDepth 20000 in
theorem gX3_layFirstEchoes_X3_put : GoodIn wsX3_layFirstEchoes (wsV RX3 19 RX3 yX3_put wsX3_put) := goodIn_app (goodIn_of _ (by decide +kernel)) ggX3_layFirstEchoes_X3_put
set_option maxRecDepth 20000 in
theorem ggX3_layFirstEchoes_X3_get : GoodIn wsX3_layFirstEchoes wsX3_get := goodIn_r _ [13, 14, 52] (by decide +kernel) (by decide +kernel)
set_option maxRecDepth 20000 in
theorem gX3_layFirstEchoes_X3_get : GoodIn wsX3_layFirstEchoes (wsV RX3 15 RX3 yX3_get wsX3_get) := goodIn_app (goodIn_of _ (by decide +kernel)) ggX3_layFirstEchoes_X3_get
theorem dX3_layFirstEchoes_0 : decode cX3_layFirstEchoes 0 = .ok (.iconst 0, 1) := by decide +kernel
theorem dX3_layFirstEchoes_1 : decode cX3_layFirstEchoes 1 = .ok (.istore_n 2, 1) := by decide +kernel
theorem dX3_layFirstEchoes_2 : decode cX3_layFirstEchoes 2 = .ok (.iload_n 2, 1) := by decide +kernel
theorem dX3_layFirstEchoes_3 : decode cX3_layFirstEchoes 3 = .ok (.iload_n 1, 1) := by decide +kernel
theorem dX3_layFirstEchoes_4 : decode cX3_layFirstEchoes 4 = .ok (.if_icmp .ge 15, 3) := by decide +kernel
theorem dX3_layFirstEchoes_7 : decode cX3_layFirstEchoes 7 = .ok (.aload_n 0, 1) := by decide +kernel
theorem dX3_layFirstEchoes_8 : decode cX3_layFirstEchoes 8 = .ok (.iload_n 2, 1) := by decide +kernel
theorem dX3_layFirstEchoes_9 : decode cX3_layFirstEchoes 9 = .ok (.invokevirtual 56, 3) := by decide +kernel
theorem dX3_layFirstEchoes_12 : decode cX3_layFirstEchoes 12 = .ok (.pop, 1) := by decide +kernel
theorem dX3_layFirstEchoes_13 : decode cX3_layFirstEchoes 13 = .ok (.iinc 2 1, 3) := by decide +kernel
theorem dX3_layFirstEchoes_16 : decode cX3_layFirstEchoes 16 = .ok (.goto (-14), 3) := by decide +kernel
theorem dX3_layFirstEchoes_19 : decode cX3_layFirstEchoes 19 = .ok (.iconst 0, 1) := by decide +kernel
theorem dX3_layFirstEchoes_20 : decode cX3_layFirstEchoes 20 = .ok (.istore_n 2, 1) := by decide +kernel
theorem dX3_layFirstEchoes_21 : decode cX3_layFirstEchoes 21 = .ok (.iconst 0, 1) := by decide +kernel
theorem dX3_layFirstEchoes_22 : decode cX3_layFirstEchoes 22 = .ok (.istore_n 3, 1) := by decide +kernel
theorem dX3_layFirstEchoes_23 : decode cX3_layFirstEchoes 23 = .ok (.iload_n 3, 1) := by decide +kernel
theorem dX3_layFirstEchoes_24 : decode cX3_layFirstEchoes 24 = .ok (.iload_n 1, 1) := by decide +kernel
theorem dX3_layFirstEchoes_25 : decode cX3_layFirstEchoes 25 = .ok (.if_icmp .ge 29, 3) := by decide +kernel
theorem dX3_layFirstEchoes_28 : decode cX3_layFirstEchoes 28 = .ok (.aload_n 0, 1) := by decide +kernel
theorem dX3_layFirstEchoes_29 : decode cX3_layFirstEchoes 29 = .ok (.bipush 46, 2) := by decide +kernel
theorem dX3_layFirstEchoes_31 : decode cX3_layFirstEchoes 31 = .ok (.iload_n 3, 1) := by decide +kernel
theorem dX3_layFirstEchoes_32 : decode cX3_layFirstEchoes 32 = .ok (.iadd, 1) := by decide +kernel
theorem dX3_layFirstEchoes_33 : decode cX3_layFirstEchoes 33 = .ok (.iconst 0, 1) := by decide +kernel
theorem dX3_layFirstEchoes_34 : decode cX3_layFirstEchoes 34 = .ok (.invokevirtual 19, 3) := by decide +kernel
theorem dX3_layFirstEchoes_37 : decode cX3_layFirstEchoes 37 = .ok (.iload_n 2, 1) := by decide +kernel
theorem dX3_layFirstEchoes_38 : decode cX3_layFirstEchoes 38 = .ok (.aload_n 0, 1) := by decide +kernel
theorem dX3_layFirstEchoes_39 : decode cX3_layFirstEchoes 39 = .ok (.bipush 55, 2) := by decide +kernel
theorem dX3_layFirstEchoes_41 : decode cX3_layFirstEchoes 41 = .ok (.iload_n 3, 1) := by decide +kernel
theorem dX3_layFirstEchoes_42 : decode cX3_layFirstEchoes 42 = .ok (.iadd, 1) := by decide +kernel
theorem dX3_layFirstEchoes_43 : decode cX3_layFirstEchoes 43 = .ok (.invokevirtual 15, 3) := by decide +kernel
theorem dX3_layFirstEchoes_46 : decode cX3_layFirstEchoes 46 = .ok (.iadd, 1) := by decide +kernel
theorem dX3_layFirstEchoes_47 : decode cX3_layFirstEchoes 47 = .ok (.istore_n 2, 1) := by decide +kernel
theorem dX3_layFirstEchoes_48 : decode cX3_layFirstEchoes 48 = .ok (.iinc 3 1, 3) := by decide +kernel
theorem dX3_layFirstEchoes_51 : decode cX3_layFirstEchoes 51 = .ok (.goto (-28), 3) := by decide +kernel
theorem dX3_layFirstEchoes_54 : decode cX3_layFirstEchoes 54 = .ok (.iload_n 2, 1) := by decide +kernel
theorem dX3_layFirstEchoes_55 : decode cX3_layFirstEchoes 55 = .ok (.ireturn, 1) := by decide +kernel
set_option maxRecDepth 20000 in
theorem ggX3_writeCell_X3_hasRow : GoodIn wsX3_writeCell wsX3_hasRow := goodIn_r _ [7, 8, 9, 10, 6, 11, 12, 57] (by decide +kernel) (by decide +kernel)
set_option maxRecDepth 20000 in
theorem gX3_writeCell_X3_hasRow : GoodIn wsX3_writeCell (wsV RX3 59 RX3 yX3_hasRow wsX3_hasRow) := goodIn_app (goodIn_of _ (by decide +kernel)) ggX3_writeCell_X3_hasRow
set_option maxRecDepth 20000 in
theorem ggX3_writeCell_X3_isCell : GoodIn wsX3_writeCell wsX3_isCell := goodIn_r _ [15] (by decide +kernel) (by decide +kernel)
set_option maxRecDepth 20000 in
theorem gX3_writeCell_X3_isCell : GoodIn wsX3_writeCell (va_wsS RX3 62 yX3_isCell wsX3_isCell) := goodIn_app (goodIn_of _ (by decide +kernel)) ggX3_writeCell_X3_isCell
set_option maxRecDepth 20000 in
theorem ggX3_writeCell_X3_lives : GoodIn wsX3_writeCell wsX3_lives := goodIn_r _ [19, 8, 9, 10, 6, 11, 12, 57] (by decide +kernel) (by decide +kernel)
set_option maxRecDepth 20000 in
theorem gX3_writeCell_X3_lives : GoodIn wsX3_writeCell (wsV RX3 65 RX3 yX3_lives wsX3_lives) := goodIn_app (goodIn_of _ (by decide +kernel)) ggX3_writeCell_X3_lives
set_option maxRecDepth 20000 in
theorem ggX3_writeCell_X3_put : GoodIn wsX3_writeCell wsX3_put := goodIn_r _ [23, 12, 57] (by decide +kernel) (by decide +kernel)
set_option maxRecDepth 20000 in
theorem gX3_writeCell_X3_put : GoodIn wsX3_writeCell (wsV RX3 19 RX3 yX3_put wsX3_put) := goodIn_app (goodIn_of _ (by decide +kernel)) ggX3_writeCell_X3_put
set_option maxRecDepth 20000 in
theorem ggX3_writeCell_X3_add : GoodIn wsX3_writeCell wsX3_add := goodIn_r _ [27, 8, 9, 10, 6, 11, 12, 20, 21, 22, 23, 57] (by decide +kernel) (by decide +kernel)
set_option maxRecDepth 20000 in
theorem gX3_writeCell_X3_add : GoodIn wsX3_writeCell (wsV RX3 69 RX3 yX3_add wsX3_add) := goodIn_app (goodIn_of _ (by decide +kernel)) ggX3_writeCell_X3_add
set_option maxRecDepth 20000 in
theorem ggX3_writeCell_X3_stepToHolder : GoodIn wsX3_writeCell wsX3_stepToHolder := goodIn_r _ [30] (by decide +kernel) (by decide +kernel)
set_option maxRecDepth 20000 in
theorem gX3_writeCell_X3_stepToHolder : GoodIn wsX3_writeCell (va_wsS RX3 32 yX3_stepToHolder wsX3_stepToHolder) := goodIn_app (goodIn_of _ (by decide +kernel)) ggX3_writeCell_X3_stepToHolder
set_option maxRecDepth 20000 in
theorem ggX3_writeCell_X3_neighbour : GoodIn wsX3_writeCell wsX3_neighbour := goodIn_r _ [34, 8, 9, 10, 6, 11, 12, 57] (by decide +kernel) (by decide +kernel)
set_option maxRecDepth 20000 in
theorem gX3_writeCell_X3_neighbour : GoodIn wsX3_writeCell (wsV RX3 35 RX3 yX3_neighbour wsX3_neighbour) := goodIn_app (goodIn_of _ (by decide +kernel)) ggX3_writeCell_X3_neighbour
set_option maxRecDepth 20000 in
theorem ggX3_writeCell_X3_layEcho : GoodIn wsX3_writeCell wsX3_layEcho := goodIn_r _ [38, 8, 9, 10, 6, 11, 12, 16, 17, 18, 19, 39, 40, 41, 42, 43, 44, 45, 20, 21, 22, 23, 46, 47, 48, 49, 50, 51, 52, 53, 24, 25, 26, 27, 54, 55, 56, 57] (by decide +kernel) (by decide +kernel)
set_option maxRecDepth 20000 in
theorem gX3_writeCell_X3_layEcho : GoodIn wsX3_writeCell (wsV RX3 72 RX3 yX3_layEcho wsX3_layEcho) := goodIn_app (goodIn_of _ (by decide +kernel)) ggX3_writeCell_X3_layEcho
theorem dX3_writeCell_0 : decode cX3_writeCell 0 = .ok (.aload_n 0, 1) := by decide +kernel
theorem dX3_writeCell_1 : decode cX3_writeCell 1 = .ok (.iload_n 1, 1) := by decide +kernel
theorem dX3_writeCell_2 : decode cX3_writeCell 2 = .ok (.invokevirtual 59, 3) := by decide +kernel
theorem dX3_writeCell_5 : decode cX3_writeCell 5 = .ok (.ifCond .eq 21, 3) := by decide +kernel
theorem dX3_writeCell_8 : decode cX3_writeCell 8 = .ok (.iload_n 2, 1) := by decide +kernel
theorem dX3_writeCell_9 : decode cX3_writeCell 9 = .ok (.invokestatic 62, 3) := by decide +kernel
theorem dX3_writeCell_12 : decode cX3_writeCell 12 = .ok (.ifCond .eq 14, 3) := by decide +kernel
theorem dX3_writeCell_15 : decode cX3_writeCell 15 = .ok (.iload_n 3, 1) := by decide +kernel
