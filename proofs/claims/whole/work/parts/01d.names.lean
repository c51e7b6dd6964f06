theorem dX4_unknownCells_10 : decode cX4_unknownCells 10 = .ok (.iload_n 2, 1) := by decide +kernel
theorem dX4_unknownCells_11 : decode cX4_unknownCells 11 = .ok (.aload_n 0, 1) := by decide +kernel
theorem dX4_unknownCells_12 : decode cX4_unknownCells 12 = .ok (.iload_n 1, 1) := by decide +kernel
theorem dX4_unknownCells_13 : decode cX4_unknownCells 13 = .ok (.iload_n 3, 1) := by decide +kernel
theorem dX4_unknownCells_14 : decode cX4_unknownCells 14 = .ok (.invokevirtual 92, 3) := by decide +kernel
theorem dX4_unknownCells_17 : decode cX4_unknownCells 17 = .ok (.ifCond .eq 7, 3) := by decide +kernel
theorem dX4_unknownCells_20 : decode cX4_unknownCells 20 = .ok (.iconst 0, 1) := by decide +kernel
theorem dX4_unknownCells_21 : decode cX4_unknownCells 21 = .ok (.goto 4, 3) := by decide +kernel
theorem dX4_unknownCells_24 : decode cX4_unknownCells 24 = .ok (.iconst 1, 1) := by decide +kernel
theorem dX4_unknownCells_25 : decode cX4_unknownCells 25 = .ok (.iadd, 1) := by decide +kernel
theorem dX4_unknownCells_26 : decode cX4_unknownCells 26 = .ok (.istore_n 2, 1) := by decide +kernel
theorem dX4_unknownCells_27 : decode cX4_unknownCells 27 = .ok (.iinc 3 1, 3) := by decide +kernel
theorem dX4_unknownCells_30 : decode cX4_unknownCells 30 = .ok (.goto (-26), 3) := by decide +kernel
theorem dX4_unknownCells_33 : decode cX4_unknownCells 33 = .ok (.iload_n 2, 1) := by decide +kernel
theorem dX4_unknownCells_34 : decode cX4_unknownCells 34 = .ok (.ireturn, 1) := by decide +kernel
set_option maxRecDepth 20000 in
theorem ggX4_wrongCells_X3_get : GoodIn wsX4_wrongCells wsX3_get := goodIn_r _ [6, 7, 9] (by decide +kernel) (by decide +kernel)
set_option maxRecDepth 20000 in
theorem gX4_wrongCells_X3_get : GoodIn wsX4_wrongCells (wsV RX4 28 RX3 yX3_get wsX3_get) := goodIn_app (goodIn_of _ (by decide +kernel)) ggX4_wrongCells_X3_get
theorem dX4_wrongCells_0 : decode cX4_wrongCells 0 = .ok (.iconst 0, 1) := by decide +kernel
theorem dX4_wrongCells_1 : decode cX4_wrongCells 1 = .ok (.istore_n 2, 1) := by decide +kernel
theorem dX4_wrongCells_2 : decode cX4_wrongCells 2 = .ok (.iconst 0, 1) := by decide +kernel
theorem dX4_wrongCells_3 : decode cX4_wrongCells 3 = .ok (.istore_n 3, 1) := by decide +kernel
theorem dX4_wrongCells_4 : decode cX4_wrongCells 4 = .ok (.iload_n 3, 1) := by decide +kernel
theorem dX4_wrongCells_5 : decode cX4_wrongCells 5 = .ok (.bipush 8, 2) := by decide +kernel
theorem dX4_wrongCells_7 : decode cX4_wrongCells 7 = .ok (.if_icmp .ge 29, 3) := by decide +kernel
theorem dX4_wrongCells_10 : decode cX4_wrongCells 10 = .ok (.iload_n 2, 1) := by decide +kernel
theorem dX4_wrongCells_11 : decode cX4_wrongCells 11 = .ok (.aload_n 0, 1) := by decide +kernel
theorem dX4_wrongCells_12 : decode cX4_wrongCells 12 = .ok (.getfield 9, 3) := by decide +kernel
theorem dX4_wrongCells_15 : decode cX4_wrongCells 15 = .ok (.sipush 136, 3) := by decide +kernel
theorem dX4_wrongCells_18 : decode cX4_wrongCells 18 = .ok (.iload_n 1, 1) := by decide +kernel
theorem dX4_wrongCells_19 : decode cX4_wrongCells 19 = .ok (.bipush 8, 2) := by decide +kernel
theorem dX4_wrongCells_21 : decode cX4_wrongCells 21 = .ok (.imul, 1) := by decide +kernel
theorem dX4_wrongCells_22 : decode cX4_wrongCells 22 = .ok (.iadd, 1) := by decide +kernel
theorem dX4_wrongCells_23 : decode cX4_wrongCells 23 = .ok (.iload_n 3, 1) := by decide +kernel
theorem dX4_wrongCells_24 : decode cX4_wrongCells 24 = .ok (.iadd, 1) := by decide +kernel
theorem dX4_wrongCells_25 : decode cX4_wrongCells 25 = .ok (.invokevirtual 28, 3) := by decide +kernel
theorem dX4_wrongCells_28 : decode cX4_wrongCells 28 = .ok (.iadd, 1) := by decide +kernel
theorem dX4_wrongCells_29 : decode cX4_wrongCells 29 = .ok (.istore_n 2, 1) := by decide +kernel
theorem dX4_wrongCells_30 : decode cX4_wrongCells 30 = .ok (.iinc 3 1, 3) := by decide +kernel
theorem dX4_wrongCells_33 : decode cX4_wrongCells 33 = .ok (.goto (-29), 3) := by decide +kernel
theorem dX4_wrongCells_36 : decode cX4_wrongCells 36 = .ok (.iload_n 2, 1) := by decide +kernel
theorem dX4_wrongCells_37 : decode cX4_wrongCells 37 = .ok (.ireturn, 1) := by decide +kernel
set_option maxRecDepth 20000 in
theorem ggX4_allUnknownCells_X3_get : GoodIn wsX4_allUnknownCells wsX3_get := goodIn_r _ [6, 7, 23] (by decide +kernel) (by decide +kernel)
set_option maxRecDepth 20000 in
theorem gX4_allUnknownCells_X3_get : GoodIn wsX4_allUnknownCells (wsV RX4 28 RX3 yX3_get wsX3_get) := goodIn_app (goodIn_of _ (by decide +kernel)) ggX4_allUnknownCells_X3_get
set_option maxRecDepth 20000 in
theorem ggX4_allUnknownCells_X3_lives : GoodIn wsX4_allUnknownCells wsX3_lives := goodIn_r _ [11, 12, 3, 4, 5, 6, 7, 23] (by decide +kernel) (by decide +kernel)
set_option maxRecDepth 20000 in
theorem gX4_allUnknownCells_X3_lives : GoodIn wsX4_allUnknownCells (wsV RX4 25 RX3 yX3_lives wsX3_lives) := goodIn_app (goodIn_of _ (by decide +kernel)) ggX4_allUnknownCells_X3_lives
set_option maxRecDepth 20000 in
theorem ggX4_allUnknownCells_X4_unknownCells : GoodIn wsX4_allUnknownCells wsX4_unknownCells := goodIn_r _ [17, 18, 19, 20, 16, 21, 1, 2, 3, 4, 5, 6, 7, 22, 23] (by decide +kernel) (by decide +kernel)
set_option maxRecDepth 20000 in
theorem gX4_allUnknownCells_X4_unknownCells : GoodIn wsX4_allUnknownCells (wsV RX4 55 RX4 yX4_unknownCells wsX4_unknownCells) := goodIn_app (goodIn_of _ (by decide +kernel)) ggX4_allUnknownCells_X4_unknownCells
theorem dX4_allUnknownCells_0 : decode cX4_allUnknownCells 0 = .ok (.iconst 0, 1) := by decide +kernel
theorem dX4_allUnknownCells_1 : decode cX4_allUnknownCells 1 = .ok (.istore_n 1, 1) := by decide +kernel
theorem dX4_allUnknownCells_2 : decode cX4_allUnknownCells 2 = .ok (.iconst 0, 1) := by decide +kernel
theorem dX4_allUnknownCells_3 : decode cX4_allUnknownCells 3 = .ok (.istore_n 2, 1) := by decide +kernel
theorem dX4_allUnknownCells_4 : decode cX4_allUnknownCells 4 = .ok (.iload_n 2, 1) := by decide +kernel
theorem dX4_allUnknownCells_5 : decode cX4_allUnknownCells 5 = .ok (.aload_n 0, 1) := by decide +kernel
theorem dX4_allUnknownCells_6 : decode cX4_allUnknownCells 6 = .ok (.getfield 9, 3) := by decide +kernel
theorem dX4_allUnknownCells_9 : decode cX4_allUnknownCells 9 = .ok (.iconst 1, 1) := by decide +kernel
theorem dX4_allUnknownCells_10 : decode cX4_allUnknownCells 10 = .ok (.invokevirtual 28, 3) := by decide +kernel
theorem dX4_allUnknownCells_13 : decode cX4_allUnknownCells 13 = .ok (.if_icmp .ge 32, 3) := by decide +kernel
theorem dX4_allUnknownCells_16 : decode cX4_allUnknownCells 16 = .ok (.iload_n 1, 1) := by decide +kernel
theorem dX4_allUnknownCells_17 : decode cX4_allUnknownCells 17 = .ok (.aload_n 0, 1) := by decide +kernel
theorem dX4_allUnknownCells_18 : decode cX4_allUnknownCells 18 = .ok (.getfield 9, 3) := by decide +kernel
theorem dX4_allUnknownCells_21 : decode cX4_allUnknownCells 21 = .ok (.iload_n 2, 1) := by decide +kernel
theorem dX4_allUnknownCells_22 : decode cX4_allUnknownCells 22 = .ok (.invokevirtual 25, 3) := by decide +kernel
theorem dX4_allUnknownCells_25 : decode cX4_allUnknownCells 25 = .ok (.ifCond .eq 11, 3) := by decide +kernel
theorem dX4_allUnknownCells_28 : decode cX4_allUnknownCells 28 = .ok (.aload_n 0, 1) := by decide +kernel
theorem dX4_allUnknownCells_29 : decode cX4_allUnknownCells 29 = .ok (.iload_n 2, 1) := by decide +kernel
theorem dX4_allUnknownCells_30 : decode cX4_allUnknownCells 30 = .ok (.invokevirtual 55, 3) := by decide +kernel
theorem dX4_allUnknownCells_33 : decode cX4_allUnknownCells 33 = .ok (.goto 4, 3) := by decide +kernel
theorem dX4_allUnknownCells_36 : decode cX4_allUnknownCells 36 = .ok (.iconst 0, 1) := by decide +kernel
theorem dX4_allUnknownCells_37 : decode cX4_allUnknownCells 37 = .ok (.iadd, 1) := by decide +kernel
theorem dX4_allUnknownCells_38 : decode cX4_allUnknownCells 38 = .ok (.istore_n 1, 1) := by decide +kernel
theorem dX4_allUnknownCells_39 : decode cX4_allUnknownCells 39 = .ok (.iinc 2 1, 3) := by decide +kernel
theorem dX4_allUnknownCells_42 : decode cX4_allUnknownCells 42 = .ok (.goto (-38), 3) := by decide +kernel
theorem dX4_allUnknownCells_45 : decode cX4_allUnknownCells 45 = .ok (.iload_n 1, 1) := by decide +kernel
theorem dX4_allUnknownCells_46 : decode cX4_allUnknownCells 46 = .ok (.ireturn, 1) := by decide +kernel
set_option maxRecDepth 20000 in
theorem ggX4_allWrongCells_X3_get : GoodIn wsX4_allWrongCells wsX3_get := goodIn_r _ [6, 7, 14] (by decide +kernel) (by decide +kernel)
set_option maxRecDepth 20000 in
theorem gX4_allWrongCells_X3_get : GoodIn wsX4_allWrongCells (wsV RX4 28 RX3 yX3_get wsX3_get) := goodIn_app (goodIn_of _ (by decide +kernel)) ggX4_allWrongCells_X3_get
set_option maxRecDepth 20000 in
theorem ggX4_allWrongCells_X4_wrongCells : GoodIn wsX4_allWrongCells wsX4_wrongCells := goodIn_r _ [12, 1, 2, 3, 4, 5, 6, 7, 13, 14] (by decide +kernel) (by decide +kernel)
set_option maxRecDepth 20000 in
theorem gX4_allWrongCells_X4_wrongCells : GoodIn wsX4_allWrongCells (wsV RX4 58 RX4 yX4_wrongCells wsX4_wrongCells) := goodIn_app (goodIn_of _ (by decide +kernel)) ggX4_allWrongCells_X4_wrongCells
theorem dX4_allWrongCells_0 : decode cX4_allWrongCells 0 = .ok (.iconst 0, 1) := by decide +kernel
theorem dX4_allWrongCells_1 : decode cX4_allWrongCells 1 = .ok (.istore_n 1, 1) := by decide +kernel
theorem dX4_allWrongCells_2 : decode cX4_allWrongCells 2 = .ok (.iconst 0, 1) := by decide +kernel
theorem dX4_allWrongCells_3 : decode cX4_allWrongCells 3 = .ok (.istore_n 2, 1) := by decide +kernel
theorem dX4_allWrongCells_4 : decode cX4_allWrongCells 4 = .ok (.iload_n 2, 1) := by decide +kernel
theorem dX4_allWrongCells_5 : decode cX4_allWrongCells 5 = .ok (.aload_n 0, 1) := by decide +kernel
theorem dX4_allWrongCells_6 : decode cX4_allWrongCells 6 = .ok (.getfield 9, 3) := by decide +kernel
theorem dX4_allWrongCells_9 : decode cX4_allWrongCells 9 = .ok (.iconst 1, 1) := by decide +kernel
theorem dX4_allWrongCells_10 : decode cX4_allWrongCells 10 = .ok (.invokevirtual 28, 3) := by decide +kernel
theorem dX4_allWrongCells_13 : decode cX4_allWrongCells 13 = .ok (.if_icmp .ge 17, 3) := by decide +kernel
theorem dX4_allWrongCells_16 : decode cX4_allWrongCells 16 = .ok (.iload_n 1, 1) := by decide +kernel
theorem dX4_allWrongCells_17 : decode cX4_allWrongCells 17 = .ok (.aload_n 0, 1) := by decide +kernel
theorem dX4_allWrongCells_18 : decode cX4_allWrongCells 18 = .ok (.iload_n 2, 1) := by decide +kernel
theorem dX4_allWrongCells_19 : decode cX4_allWrongCells 19 = .ok (.invokevirtual 58, 3) := by decide +kernel
theorem dX4_allWrongCells_22 : decode cX4_allWrongCells 22 = .ok (.iadd, 1) := by decide +kernel
theorem dX4_allWrongCells_23 : decode cX4_allWrongCells 23 = .ok (.istore_n 1, 1) := by decide +kernel
theorem dX4_allWrongCells_24 : decode cX4_allWrongCells 24 = .ok (.iinc 2 1, 3) := by decide +kernel
theorem dX4_allWrongCells_27 : decode cX4_allWrongCells 27 = .ok (.goto (-23), 3) := by decide +kernel
theorem dX4_allWrongCells_30 : decode cX4_allWrongCells 30 = .ok (.iload_n 1, 1) := by decide +kernel
theorem dX4_allWrongCells_31 : decode cX4_allWrongCells 31 = .ok (.ireturn, 1) := by decide +kernel
set_option maxRecDepth 20000 in
theorem ggX4_livingRows_X3_get : GoodIn wsX4_livingRows wsX3_get := goodIn_r _ [6, 7, 9] (by decide +kernel) (by decide +kernel)
set_option maxRecDepth 20000 in
theorem gX4_livingRows_X3_get : GoodIn wsX4_livingRows (wsV RX4 28 RX3 yX3_get wsX3_get) := goodIn_app (goodIn_of _ (by decide +kernel)) ggX4_livingRows_X3_get
theorem dX4_livingRows_0 : decode cX4_livingRows 0 = .ok (.iconst 0, 1) := by decide +kernel
theorem dX4_livingRows_1 : decode cX4_livingRows 1 = .ok (.istore_n 1, 1) := by decide +kernel
theorem dX4_livingRows_2 : decode cX4_livingRows 2 = .ok (.iconst 0, 1) := by decide +kernel
theorem dX4_livingRows_3 : decode cX4_livingRows 3 = .ok (.istore_n 2, 1) := by decide +kernel
theorem dX4_livingRows_4 : decode cX4_livingRows 4 = .ok (.iload_n 2, 1) := by decide +kernel
theorem dX4_livingRows_5 : decode cX4_livingRows 5 = .ok (.aload_n 0, 1) := by decide +kernel
theorem dX4_livingRows_6 : decode cX4_livingRows 6 = .ok (.getfield 9, 3) := by decide +kernel
theorem dX4_livingRows_9 : decode cX4_livingRows 9 = .ok (.iconst 1, 1) := by decide +kernel
theorem dX4_livingRows_10 : decode cX4_livingRows 10 = .ok (.invokevirtual 28, 3) := by decide +kernel
theorem dX4_livingRows_13 : decode cX4_livingRows 13 = .ok (.if_icmp .ge 25, 3) := by decide +kernel
theorem dX4_livingRows_16 : decode cX4_livingRows 16 = .ok (.iload_n 1, 1) := by decide +kernel
theorem dX4_livingRows_17 : decode cX4_livingRows 17 = .ok (.aload_n 0, 1) := by decide +kernel
theorem dX4_livingRows_18 : decode cX4_livingRows 18 = .ok (.getfield 9, 3) := by decide +kernel
theorem dX4_livingRows_21 : decode cX4_livingRows 21 = .ok (.bipush 28, 2) := by decide +kernel
theorem dX4_livingRows_23 : decode cX4_livingRows 23 = .ok (.iload_n 2, 1) := by decide +kernel
theorem dX4_livingRows_24 : decode cX4_livingRows 24 = .ok (.iadd, 1) := by decide +kernel
theorem dX4_livingRows_25 : decode cX4_livingRows 25 = .ok (.invokevirtual 28, 3) := by decide +kernel
theorem dX4_livingRows_28 : decode cX4_livingRows 28 = .ok (.iload_n 2, 1) := by decide +kernel
theorem dX4_livingRows_29 : decode cX4_livingRows 29 = .ok (.ishl, 1) := by decide +kernel
theorem dX4_livingRows_30 : decode cX4_livingRows 30 = .ok (.ior, 1) := by decide +kernel
theorem dX4_livingRows_31 : decode cX4_livingRows 31 = .ok (.istore_n 1, 1) := by decide +kernel
theorem dX4_livingRows_32 : decode cX4_livingRows 32 = .ok (.iinc 2 1, 3) := by decide +kernel
theorem dX4_livingRows_35 : decode cX4_livingRows 35 = .ok (.goto (-31), 3) := by decide +kernel
theorem dX4_livingRows_38 : decode cX4_livingRows 38 = .ok (.iload_n 1, 1) := by decide +kernel
theorem dX4_livingRows_39 : decode cX4_livingRows 39 = .ok (.ireturn, 1) := by decide +kernel
set_option maxRecDepth 20000 in
theorem ggX4_safeRows_X3_get : GoodIn wsX4_safeRows wsX3_get := goodIn_r _ [6, 7, 51] (by decide +kernel) (by decide +kernel)
set_option maxRecDepth 20000 in
theorem gX4_safeRows_X3_get : GoodIn wsX4_safeRows (wsV RX4 28 RX3 yX3_get wsX3_get) := goodIn_app (goodIn_of _ (by decide +kernel)) ggX4_safeRows_X3_get
set_option maxRecDepth 20000 in
theorem ggX4_safeRows_X3_lives : GoodIn wsX4_safeRows wsX3_lives := goodIn_r _ [11, 12, 3, 4, 5, 6, 7, 51] (by decide +kernel) (by decide +kernel)
set_option maxRecDepth 20000 in
theorem gX4_safeRows_X3_lives : GoodIn wsX4_safeRows (wsV RX4 25 RX3 yX3_lives wsX3_lives) := goodIn_app (goodIn_of _ (by decide +kernel)) ggX4_safeRows_X3_lives
set_option maxRecDepth 20000 in
theorem ggX4_safeRows_X3_comingBack : GoodIn wsX4_safeRows wsX3_comingBack := goodIn_r _ [16, 17, 18, 19, 5, 20, 21, 22, 23, 24, 25, 26, 27, 12, 3, 4, 6, 7, 28, 29, 30, 31, 32, 33, 34, 35, 36, 37, 38, 39, 40, 51] (by decide +kernel) (by decide +kernel)
set_option maxRecDepth 20000 in
theorem gX4_safeRows_X3_comingBack : GoodIn wsX4_safeRows (wsV RX4 61 RX3 yX3_comingBack wsX3_comingBack) := goodIn_app (goodIn_of _ (by decide +kernel)) ggX4_safeRows_X3_comingBack
set_option maxRecDepth 20000 in
theorem ggX4_safeRows_X4_unknownCells : GoodIn wsX4_safeRows wsX4_unknownCells := goodIn_r _ [45, 46, 47, 48, 44, 49, 1, 2, 3, 4, 5, 6, 7, 50, 51] (by decide +kernel) (by decide +kernel)
set_option maxRecDepth 20000 in
theorem gX4_safeRows_X4_unknownCells : GoodIn wsX4_safeRows (wsV RX4 55 RX4 yX4_unknownCells wsX4_unknownCells) := goodIn_app (goodIn_of _ (by decide +kernel)) ggX4_safeRows_X4_unknownCells
theorem dX4_safeRows_0 : decode cX4_safeRows 0 = .ok (.iconst 0, 1) := by decide +kernel
theorem dX4_safeRows_1 : decode cX4_safeRows 1 = .ok (.istore_n 1, 1) := by decide +kernel
theorem dX4_safeRows_2 : decode cX4_safeRows 2 = .ok (.iconst 0, 1) := by decide +kernel
theorem dX4_safeRows_3 : decode cX4_safeRows 3 = .ok (.istore_n 2, 1) := by decide +kernel
theorem dX4_safeRows_4 : decode cX4_safeRows 4 = .ok (.iload_n 2, 1) := by decide +kernel
theorem dX4_safeRows_5 : decode cX4_safeRows 5 = .ok (.aload_n 0, 1) := by decide +kernel
theorem dX4_safeRows_6 : decode cX4_safeRows 6 = .ok (.getfield 9, 3) := by decide +kernel
theorem dX4_safeRows_9 : decode cX4_safeRows 9 = .ok (.iconst 1, 1) := by decide +kernel
theorem dX4_safeRows_10 : decode cX4_safeRows 10 = .ok (.invokevirtual 28, 3) := by decide +kernel
theorem dX4_safeRows_13 : decode cX4_safeRows 13 = .ok (.if_icmp .ge 45, 3) := by decide +kernel
theorem dX4_safeRows_16 : decode cX4_safeRows 16 = .ok (.aload_n 0, 1) := by decide +kernel
theorem dX4_safeRows_17 : decode cX4_safeRows 17 = .ok (.getfield 9, 3) := by decide +kernel
theorem dX4_safeRows_20 : decode cX4_safeRows 20 = .ok (.iload_n 2, 1) := by decide +kernel
theorem dX4_safeRows_21 : decode cX4_safeRows 21 = .ok (.invokevirtual 25, 3) := by decide +kernel
theorem dX4_safeRows_24 : decode cX4_safeRows 24 = .ok (.ifCond .eq 28, 3) := by decide +kernel
theorem dX4_safeRows_27 : decode cX4_safeRows 27 = .ok (.aload_n 0, 1) := by decide +kernel
theorem dX4_safeRows_28 : decode cX4_safeRows 28 = .ok (.getfield 9, 3) := by decide +kernel
theorem dX4_safeRows_31 : decode cX4_safeRows 31 = .ok (.iload_n 2, 1) := by decide +kernel
theorem dX4_safeRows_32 : decode cX4_safeRows 32 = .ok (.invokevirtual 61, 3) := by decide +kernel
theorem dX4_safeRows_35 : decode cX4_safeRows 35 = .ok (.aload_n 0, 1) := by decide +kernel
theorem dX4_safeRows_36 : decode cX4_safeRows 36 = .ok (.iload_n 2, 1) := by decide +kernel
theorem dX4_safeRows_37 : decode cX4_safeRows 37 = .ok (.invokevirtual 55, 3) := by decide +kernel
theorem dX4_safeRows_40 : decode cX4_safeRows 40 = .ok (.iadd, 1) := by decide +kernel
theorem dX4_safeRows_41 : decode cX4_safeRows 41 = .ok (.bipush 8, 2) := by decide +kernel
theorem dX4_safeRows_43 : decode cX4_safeRows 43 = .ok (.if_icmp .ne 9, 3) := by decide +kernel
theorem dX4_safeRows_46 : decode cX4_safeRows 46 = .ok (.iload_n 1, 1) := by decide +kernel
theorem dX4_safeRows_47 : decode cX4_safeRows 47 = .ok (.iconst 1, 1) := by decide +kernel
theorem dX4_safeRows_48 : decode cX4_safeRows 48 = .ok (.iload_n 2, 1) := by decide +kernel
theorem dX4_safeRows_49 : decode cX4_safeRows 49 = .ok (.ishl, 1) := by decide +kernel
theorem dX4_safeRows_50 : decode cX4_safeRows 50 = .ok (.ior, 1) := by decide +kernel
theorem dX4_safeRows_51 : decode cX4_safeRows 51 = .ok (.istore_n 1, 1) := by decide +kernel
theorem dX4_safeRows_52 : decode cX4_safeRows 52 = .ok (.iinc 2 1, 3) := by decide +kernel
theorem dX4_safeRows_55 : decode cX4_safeRows 55 = .ok (.goto (-51), 3) := by decide +kernel
theorem dX4_safeRows_58 : decode cX4_safeRows 58 = .ok (.iload_n 1, 1) := by decide +kernel
theorem dX4_safeRows_59 : decode cX4_safeRows 59 = .ok (.ireturn, 1) := by decide +kernel
set_option maxRecDepth 20000 in
theorem ggX4_allEchoes_X3_get : GoodIn wsX4_allEchoes wsX3_get := goodIn_r _ [6, 7, 9] (by decide +kernel) (by decide +kernel)
set_option maxRecDepth 20000 in
theorem gX4_allEchoes_X3_get : GoodIn wsX4_allEchoes (wsV RX4 28 RX3 yX3_get wsX3_get) := goodIn_app (goodIn_of _ (by decide +kernel)) ggX4_allEchoes_X3_get
theorem dX4_allEchoes_0 : decode cX4_allEchoes 0 = .ok (.iconst 0, 1) := by decide +kernel
theorem dX4_allEchoes_1 : decode cX4_allEchoes 1 = .ok (.istore_n 1, 1) := by decide +kernel
theorem dX4_allEchoes_2 : decode cX4_allEchoes 2 = .ok (.iconst 0, 1) := by decide +kernel
theorem dX4_allEchoes_3 : decode cX4_allEchoes 3 = .ok (.istore_n 2, 1) := by decide +kernel
theorem dX4_allEchoes_4 : decode cX4_allEchoes 4 = .ok (.iload_n 2, 1) := by decide +kernel
theorem dX4_allEchoes_5 : decode cX4_allEchoes 5 = .ok (.aload_n 0, 1) := by decide +kernel
theorem dX4_allEchoes_6 : decode cX4_allEchoes 6 = .ok (.getfield 9, 3) := by decide +kernel
theorem dX4_allEchoes_9 : decode cX4_allEchoes 9 = .ok (.iconst 1, 1) := by decide +kernel
theorem dX4_allEchoes_10 : decode cX4_allEchoes 10 = .ok (.invokevirtual 28, 3) := by decide +kernel
theorem dX4_allEchoes_13 : decode cX4_allEchoes 13 = .ok (.if_icmp .ge 23, 3) := by decide +kernel
theorem dX4_allEchoes_16 : decode cX4_allEchoes 16 = .ok (.iload_n 1, 1) := by decide +kernel
theorem dX4_allEchoes_17 : decode cX4_allEchoes 17 = .ok (.aload_n 0, 1) := by decide +kernel
theorem dX4_allEchoes_18 : decode cX4_allEchoes 18 = .ok (.getfield 9, 3) := by decide +kernel
theorem dX4_allEchoes_21 : decode cX4_allEchoes 21 = .ok (.bipush 55, 2) := by decide +kernel
theorem dX4_allEchoes_23 : decode cX4_allEchoes 23 = .ok (.iload_n 2, 1) := by decide +kernel
theorem dX4_allEchoes_24 : decode cX4_allEchoes 24 = .ok (.iadd, 1) := by decide +kernel
theorem dX4_allEchoes_25 : decode cX4_allEchoes 25 = .ok (.invokevirtual 28, 3) := by decide +kernel
theorem dX4_allEchoes_28 : decode cX4_allEchoes 28 = .ok (.iadd, 1) := by decide +kernel
theorem dX4_allEchoes_29 : decode cX4_allEchoes 29 = .ok (.istore_n 1, 1) := by decide +kernel
theorem dX4_allEchoes_30 : decode cX4_allEchoes 30 = .ok (.iinc 2 1, 3) := by decide +kernel
theorem dX4_allEchoes_33 : decode cX4_allEchoes 33 = .ok (.goto (-29), 3) := by decide +kernel
theorem dX4_allEchoes_36 : decode cX4_allEchoes 36 = .ok (.iload_n 1, 1) := by decide +kernel
theorem dX4_allEchoes_37 : decode cX4_allEchoes 37 = .ok (.ireturn, 1) := by decide +kernel
set_option maxRecDepth 20000 in
theorem ggX4_freshEchoes_X3_get : GoodIn wsX4_freshEchoes wsX3_get := goodIn_r _ [6, 7, 22] (by decide +kernel) (by decide +kernel)
set_option maxRecDepth 20000 in
theorem gX4_freshEchoes_X3_get : GoodIn wsX4_freshEchoes (wsV RX4 28 RX3 yX3_get wsX3_get) := goodIn_app (goodIn_of _ (by decide +kernel)) ggX4_freshEchoes_X3_get
set_option maxRecDepth 20000 in
theorem ggX4_freshEchoes_X4_echoIn : GoodIn wsX4_freshEchoes wsX4_echoIn := goodIn_r _ [12, 1, 2, 3, 4, 5, 6, 7, 21, 22] (by decide +kernel) (by decide +kernel)
set_option maxRecDepth 20000 in
theorem gX4_freshEchoes_X4_echoIn : GoodIn wsX4_freshEchoes (wsV RX4 43 RX4 yX4_echoIn wsX4_echoIn) := goodIn_app (goodIn_of _ (by decide +kernel)) ggX4_freshEchoes_X4_echoIn
set_option maxRecDepth 20000 in
theorem ggX4_freshEchoes_X3_isFaded : GoodIn wsX4_freshEchoes wsX3_isFaded := goodIn_r _ [16, 17, 3, 4, 5, 6, 7, 18, 19, 20, 22] (by decide +kernel) (by decide +kernel)
set_option maxRecDepth 20000 in
theorem gX4_freshEchoes_X3_isFaded : GoodIn wsX4_freshEchoes (wsV RX4 49 RX3 yX3_isFaded wsX3_isFaded) := goodIn_app (goodIn_of _ (by decide +kernel)) ggX4_freshEchoes_X3_isFaded
theorem dX4_freshEchoes_0 : decode cX4_freshEchoes 0 = .ok (.iconst 0, 1) := by decide +kernel
theorem dX4_freshEchoes_1 : decode cX4_freshEchoes 1 = .ok (.istore_n 1, 1) := by decide +kernel
theorem dX4_freshEchoes_2 : decode cX4_freshEchoes 2 = .ok (.iconst 0, 1) := by decide +kernel
theorem dX4_freshEchoes_3 : decode cX4_freshEchoes 3 = .ok (.istore_n 2, 1) := by decide +kernel
theorem dX4_freshEchoes_4 : decode cX4_freshEchoes 4 = .ok (.iload_n 2, 1) := by decide +kernel
theorem dX4_freshEchoes_5 : decode cX4_freshEchoes 5 = .ok (.aload_n 0, 1) := by decide +kernel
theorem dX4_freshEchoes_6 : decode cX4_freshEchoes 6 = .ok (.getfield 9, 3) := by decide +kernel
theorem dX4_freshEchoes_9 : decode cX4_freshEchoes 9 = .ok (.iconst 1, 1) := by decide +kernel
theorem dX4_freshEchoes_10 : decode cX4_freshEchoes 10 = .ok (.invokevirtual 28, 3) := by decide +kernel
theorem dX4_freshEchoes_13 : decode cX4_freshEchoes 13 = .ok (.if_icmp .ge 56, 3) := by decide +kernel
theorem dX4_freshEchoes_16 : decode cX4_freshEchoes 16 = .ok (.iconst 0, 1) := by decide +kernel
theorem dX4_freshEchoes_17 : decode cX4_freshEchoes 17 = .ok (.istore_n 3, 1) := by decide +kernel
theorem dX4_freshEchoes_18 : decode cX4_freshEchoes 18 = .ok (.iload_n 3, 1) := by decide +kernel
theorem dX4_freshEchoes_19 : decode cX4_freshEchoes 19 = .ok (.aload_n 0, 1) := by decide +kernel
theorem dX4_freshEchoes_20 : decode cX4_freshEchoes 20 = .ok (.getfield 9, 3) := by decide +kernel
theorem dX4_freshEchoes_23 : decode cX4_freshEchoes 23 = .ok (.bipush 55, 2) := by decide +kernel
theorem dX4_freshEchoes_25 : decode cX4_freshEchoes 25 = .ok (.iload_n 2, 1) := by decide +kernel
theorem dX4_freshEchoes_26 : decode cX4_freshEchoes 26 = .ok (.iadd, 1) := by decide +kernel
theorem dX4_freshEchoes_27 : decode cX4_freshEchoes 27 = .ok (.invokevirtual 28, 3) := by decide +kernel
theorem dX4_freshEchoes_30 : decode cX4_freshEchoes 30 = .ok (.if_icmp .ge 33, 3) := by decide +kernel
theorem dX4_freshEchoes_33 : decode cX4_freshEchoes 33 = .ok (.iload_n 1, 1) := by decide +kernel
theorem dX4_freshEchoes_34 : decode cX4_freshEchoes 34 = .ok (.aload_n 0, 1) := by decide +kernel
theorem dX4_freshEchoes_35 : decode cX4_freshEchoes 35 = .ok (.getfield 9, 3) := by decide +kernel
theorem dX4_freshEchoes_38 : decode cX4_freshEchoes 38 = .ok (.aload_n 0, 1) := by decide +kernel
theorem dX4_freshEchoes_39 : decode cX4_freshEchoes 39 = .ok (.iload_n 2, 1) := by decide +kernel
theorem dX4_freshEchoes_40 : decode cX4_freshEchoes 40 = .ok (.iload_n 3, 1) := by decide +kernel
theorem dX4_freshEchoes_41 : decode cX4_freshEchoes 41 = .ok (.invokevirtual 43, 3) := by decide +kernel
theorem dX4_freshEchoes_44 : decode cX4_freshEchoes 44 = .ok (.invokevirtual 49, 3) := by decide +kernel
theorem dX4_freshEchoes_47 : decode cX4_freshEchoes 47 = .ok (.ifCond .eq 7, 3) := by decide +kernel
theorem dX4_freshEchoes_50 : decode cX4_freshEchoes 50 = .ok (.iconst 0, 1) := by decide +kernel
theorem dX4_freshEchoes_51 : decode cX4_freshEchoes 51 = .ok (.goto 4, 3) := by decide +kernel
theorem dX4_freshEchoes_54 : decode cX4_freshEchoes 54 = .ok (.iconst 1, 1) := by decide +kernel
theorem dX4_freshEchoes_55 : decode cX4_freshEchoes 55 = .ok (.iadd, 1) := by decide +kernel
theorem dX4_freshEchoes_56 : decode cX4_freshEchoes 56 = .ok (.istore_n 1, 1) := by decide +kernel
theorem dX4_freshEchoes_57 : decode cX4_freshEchoes 57 = .ok (.iinc 3 1, 3) := by decide +kernel
theorem dX4_freshEchoes_60 : decode cX4_freshEchoes 60 = .ok (.goto (-42), 3) := by decide +kernel
theorem dX4_freshEchoes_63 : decode cX4_freshEchoes 63 = .ok (.iinc 2 1, 3) := by decide +kernel
theorem dX4_freshEchoes_66 : decode cX4_freshEchoes 66 = .ok (.goto (-62), 3) := by decide +kernel
theorem dX4_freshEchoes_69 : decode cX4_freshEchoes 69 = .ok (.iload_n 1, 1) := by decide +kernel
theorem dX4_freshEchoes_70 : decode cX4_freshEchoes 70 = .ok (.ireturn, 1) := by decide +kernel
set_option maxRecDepth 20000 in
theorem ggX5_init_X3_init : GoodIn wsX5_init wsX3_init := goodIn_r _ [27, 28, 2, 3, 29, 30, 124] (by decide +kernel) (by decide +kernel)
set_option maxRecDepth 20000 in
theorem gX5_init_X3_init : GoodIn wsX5_init (wsX3_init) := ggX5_init_X3_init
set_option maxRecDepth 20000 in
theorem ggX5_init_X4_init : GoodIn wsX5_init wsX4_init := goodIn_r _ [33, 34, 2, 3, 35, 131] (by decide +kernel) (by decide +kernel)
set_option maxRecDepth 20000 in
theorem gX5_init_X4_init : GoodIn wsX5_init (wsX4_init) := ggX5_init_X4_init
set_option maxRecDepth 20000 in
theorem ggX5_init_X1_init : GoodIn wsX5_init wsX1_init := goodIn_r _ [38, 39, 2, 3, 40, 41, 5, 6, 29, 42, 43, 44, 45, 26, 27, 28, 30, 132, 133, 134, 135, 124] (by decide +kernel) (by decide +kernel)
set_option maxRecDepth 20000 in
theorem gX5_init_X1_init : GoodIn wsX5_init (wsX1_init) := ggX5_init_X1_init
set_option maxRecDepth 20000 in
theorem ggX5_init_X0_init : GoodIn wsX5_init wsX0_init := goodIn_r _ [48, 49, 2, 3, 50, 51, 5, 6, 52, 53, 54, 26, 27, 28, 29, 30, 136, 137, 138, 124] (by decide +kernel) (by decide +kernel)
set_option maxRecDepth 20000 in
theorem gX5_init_X0_init : GoodIn wsX5_init (wsX0_init) := ggX5_init_X0_init
set_option maxRecDepth 20000 in
theorem ggX5_init_X2_init : GoodIn wsX5_init wsX2_init := goodIn_r _ [57, 58, 2, 3, 29, 59, 60, 61, 62, 63, 64, 65, 139, 140, 141, 142, 143, 144, 145] (by decide +kernel) (by decide +kernel)
set_option maxRecDepth 20000 in
theorem gX5_init_X2_init : GoodIn wsX5_init (wsX2_init) := ggX5_init_X2_init
set_option maxRecDepth 20000 in
theorem ggX5_init_X3_beginAnew : GoodIn wsX5_init wsX3_beginAnew := goodIn_r _ [69, 70, 71, 72, 73, 6, 74, 30, 75, 76, 77, 78, 79, 80, 81, 82, 83, 84, 85, 86, 87, 88, 89, 90, 91, 92, 93, 94, 95, 96, 97, 98, 99, 100, 101, 102, 103, 104, 105, 106, 107, 108, 109, 110, 111, 112, 113, 114, 115, 116, 117, 118, 119, 120, 121, 122, 123, 124] (by decide +kernel) (by decide +kernel)
set_option maxRecDepth 20000 in
theorem gX5_init_X3_beginAnew : GoodIn wsX5_init (wsV RX5 49 RX3 yX3_beginAnew wsX3_beginAnew) := goodIn_app (goodIn_of _ (by decide +kernel)) ggX5_init_X3_beginAnew
theorem dX5_init_0 : decode cX5_init 0 = .ok (.aload_n 0, 1) := by decide +kernel
theorem dX5_init_1 : decode cX5_init 1 = .ok (.invokespecial 1, 3) := by decide +kernel
theorem dX5_init_4 : decode cX5_init 4 = .ok (.aload_n 0, 1) := by decide +kernel
theorem dX5_init_5 : decode cX5_init 5 = .ok (.new 7, 3) := by decide +kernel
theorem dX5_init_8 : decode cX5_init 8 = .ok (.dup, 1) := by decide +kernel
theorem dX5_init_9 : decode cX5_init 9 = .ok (.invokespecial 9, 3) := by decide +kernel
theorem dX5_init_12 : decode cX5_init 12 = .ok (.putfield 10, 3) := by decide +kernel
theorem dX5_init_15 : decode cX5_init 15 = .ok (.aload_n 0, 1) := by decide +kernel
theorem dX5_init_16 : decode cX5_init 16 = .ok (.new 7, 3) := by decide +kernel
theorem dX5_init_19 : decode cX5_init 19 = .ok (.dup, 1) := by decide +kernel
theorem dX5_init_20 : decode cX5_init 20 = .ok (.invokespecial 9, 3) := by decide +kernel
theorem dX5_init_23 : decode cX5_init 23 = .ok (.putfield 16, 3) := by decide +kernel
theorem dX5_init_26 : decode cX5_init 26 = .ok (.aload_n 0, 1) := by decide +kernel
theorem dX5_init_27 : decode cX5_init 27 = .ok (.new 19, 3) := by decide +kernel
theorem dX5_init_30 : decode cX5_init 30 = .ok (.dup, 1) := by decide +kernel
theorem dX5_init_31 : decode cX5_init 31 = .ok (.aload_n 0, 1) := by decide +kernel
theorem dX5_init_32 : decode cX5_init 32 = .ok (.getfield 10, 3) := by decide +kernel
theorem dX5_init_35 : decode cX5_init 35 = .ok (.invokespecial 21, 3) := by decide +kernel
theorem dX5_init_38 : decode cX5_init 38 = .ok (.putfield 24, 3) := by decide +kernel
theorem dX5_init_41 : decode cX5_init 41 = .ok (.aload_n 0, 1) := by decide +kernel
theorem dX5_init_42 : decode cX5_init 42 = .ok (.new 28, 3) := by decide +kernel
theorem dX5_init_45 : decode cX5_init 45 = .ok (.dup, 1) := by decide +kernel
theorem dX5_init_46 : decode cX5_init 46 = .ok (.invokespecial 30, 3) := by decide +kernel
theorem dX5_init_49 : decode cX5_init 49 = .ok (.putfield 31, 3) := by decide +kernel
theorem dX5_init_52 : decode cX5_init 52 = .ok (.aload_n 0, 1) := by decide +kernel
theorem dX5_init_53 : decode cX5_init 53 = .ok (.new 35, 3) := by decide +kernel
theorem dX5_init_56 : decode cX5_init 56 = .ok (.dup, 1) := by decide +kernel
theorem dX5_init_57 : decode cX5_init 57 = .ok (.invokespecial 37, 3) := by decide +kernel
theorem dX5_init_60 : decode cX5_init 60 = .ok (.putfield 38, 3) := by decide +kernel
theorem dX5_init_63 : decode cX5_init 63 = .ok (.aload_n 0, 1) := by decide +kernel
theorem dX5_init_64 : decode cX5_init 64 = .ok (.new 42, 3) := by decide +kernel
theorem dX5_init_67 : decode cX5_init 67 = .ok (.dup, 1) := by decide +kernel
theorem dX5_init_68 : decode cX5_init 68 = .ok (.invokespecial 44, 3) := by decide +kernel
theorem dX5_init_71 : decode cX5_init 71 = .ok (.putfield 45, 3) := by decide +kernel
theorem dX5_init_74 : decode cX5_init 74 = .ok (.aload_n 0, 1) := by decide +kernel
theorem dX5_init_75 : decode cX5_init 75 = .ok (.getfield 10, 3) := by decide +kernel
theorem dX5_init_78 : decode cX5_init 78 = .ok (.iconst 5, 1) := by decide +kernel
theorem dX5_init_79 : decode cX5_init 79 = .ok (.invokevirtual 49, 3) := by decide +kernel
theorem dX5_init_82 : decode cX5_init 82 = .ok (.pop, 1) := by decide +kernel
theorem dX5_init_83 : decode cX5_init 83 = .ok (.return_, 1) := by decide +kernel
set_option maxRecDepth 20000 in
theorem ggX5_begin_X0_note : GoodIn wsX5_begin wsX0_note := goodIn_r _ [7, 8, 9, 10, 11, 6, 12, 13, 14, 15, 16, 17, 18, 19, 20, 21, 22, 23, 24, 93, 94, 95, 96] (by decide +kernel) (by decide +kernel)
set_option maxRecDepth 20000 in
theorem gX5_begin_X0_note : GoodIn wsX5_begin (wsV RX5 53 RX0 yX0_note wsX0_note) := goodIn_app (goodIn_of _ (by decide +kernel)) ggX5_begin_X0_note
set_option maxRecDepth 20000 in
theorem ggX5_begin_X3_beginAnew : GoodIn wsX5_begin wsX3_beginAnew := goodIn_r _ [28, 29, 30, 31, 32, 18, 33, 20, 34, 35, 36, 37, 38, 39, 40, 41, 42, 43, 44, 45, 46, 47, 48, 49, 50, 51, 52, 53, 54, 55, 56, 57, 58, 59, 60, 61, 62, 63, 64, 65, 66, 67, 68, 69, 70, 71, 72, 73, 74, 75, 76, 77, 78, 79, 80, 81, 82, 96] (by decide +kernel) (by decide +kernel)
set_option maxRecDepth 20000 in
theorem gX5_begin_X3_beginAnew : GoodIn wsX5_begin (wsV RX5 49 RX3 yX3_beginAnew wsX3_beginAnew) := goodIn_app (goodIn_of _ (by decide +kernel)) ggX5_begin_X3_beginAnew
set_option maxRecDepth 20000 in
theorem ggX5_begin_X0_keepUnlessError : GoodIn wsX5_begin wsX0_keepUnlessError := goodIn_r _ [86, 8, 13, 93, 94, 95] (by decide +kernel) (by decide +kernel)
set_option maxRecDepth 20000 in
theorem gX5_begin_X0_keepUnlessError : GoodIn wsX5_begin (wsV RX5 56 RX0 yX0_keepUnlessError wsX0_keepUnlessError) := goodIn_app (goodIn_of _ (by decide +kernel)) ggX5_begin_X0_keepUnlessError
theorem dX5_begin_0 : decode cX5_begin 0 = .ok (.aload_n 0, 1) := by decide +kernel
theorem dX5_begin_1 : decode cX5_begin 1 = .ok (.getfield 38, 3) := by decide +kernel
theorem dX5_begin_4 : decode cX5_begin 4 = .ok (.aload_n 0, 1) := by decide +kernel
theorem dX5_begin_5 : decode cX5_begin 5 = .ok (.getfield 10, 3) := by decide +kernel
theorem dX5_begin_8 : decode cX5_begin 8 = .ok (.invokevirtual 53, 3) := by decide +kernel
theorem dX5_begin_11 : decode cX5_begin 11 = .ok (.aload_n 0, 1) := by decide +kernel
theorem dX5_begin_12 : decode cX5_begin 12 = .ok (.getfield 38, 3) := by decide +kernel
theorem dX5_begin_15 : decode cX5_begin 15 = .ok (.aload_n 0, 1) := by decide +kernel
theorem dX5_begin_16 : decode cX5_begin 16 = .ok (.getfield 10, 3) := by decide +kernel
theorem dX5_begin_19 : decode cX5_begin 19 = .ok (.iload_n 1, 1) := by decide +kernel
theorem dX5_begin_20 : decode cX5_begin 20 = .ok (.invokevirtual 49, 3) := by decide +kernel
theorem dX5_begin_23 : decode cX5_begin 23 = .ok (.invokevirtual 56, 3) := by decide +kernel
theorem dX5_begin_26 : decode cX5_begin 26 = .ok (.ireturn, 1) := by decide +kernel
set_option maxRecDepth 20000 in
theorem ggX5_write_X0_note : GoodIn wsX5_write wsX0_note := goodIn_r _ [7, 8, 9, 10, 11, 6, 12, 13, 14, 15, 16, 17, 18, 19, 20, 21, 22, 23, 24, 93, 94, 95, 96] (by decide +kernel) (by decide +kernel)
set_option maxRecDepth 20000 in
theorem gX5_write_X0_note : GoodIn wsX5_write (wsV RX5 53 RX0 yX0_note wsX0_note) := goodIn_app (goodIn_of _ (by decide +kernel)) ggX5_write_X0_note
set_option maxRecDepth 20000 in
theorem ggX5_write_X3_writeCell : GoodIn wsX5_write wsX3_writeCell := goodIn_r _ [28, 29, 30, 31, 32, 33, 18, 34, 35, 36, 37, 38, 20, 39, 40, 41, 42, 43, 44, 45, 46, 47, 48, 49, 50, 51, 52, 53, 54, 55, 56, 57, 58, 59, 60, 61, 62, 63, 64, 65, 66, 67, 68, 69, 70, 71, 72, 73, 74, 75, 76, 77, 78, 79, 80, 81, 82, 96] (by decide +kernel) (by decide +kernel)
set_option maxRecDepth 20000 in
theorem gX5_write_X3_writeCell : GoodIn wsX5_write (wsV RX5 59 RX3 yX3_writeCell wsX3_writeCell) := goodIn_app (goodIn_of _ (by decide +kernel)) ggX5_write_X3_writeCell
set_option maxRecDepth 20000 in
theorem ggX5_write_X0_keepUnlessError : GoodIn wsX5_write wsX0_keepUnlessError := goodIn_r _ [86, 8, 13, 93, 94, 95] (by decide +kernel) (by decide +kernel)
set_option maxRecDepth 20000 in
theorem gX5_write_X0_keepUnlessError : GoodIn wsX5_write (wsV RX5 56 RX0 yX0_keepUnlessError wsX0_keepUnlessError) := goodIn_app (goodIn_of _ (by decide +kernel)) ggX5_write_X0_keepUnlessError
theorem dX5_write_0 : decode cX5_write 0 = .ok (.aload_n 0, 1) := by decide +kernel
theorem dX5_write_1 : decode cX5_write 1 = .ok (.getfield 38, 3) := by decide +kernel
theorem dX5_write_4 : decode cX5_write 4 = .ok (.aload_n 0, 1) := by decide +kernel
theorem dX5_write_5 : decode cX5_write 5 = .ok (.getfield 10, 3) := by decide +kernel
theorem dX5_write_8 : decode cX5_write 8 = .ok (.invokevirtual 53, 3) := by decide +kernel
theorem dX5_write_11 : decode cX5_write 11 = .ok (.aload_n 0, 1) := by decide +kernel
theorem dX5_write_12 : decode cX5_write 12 = .ok (.getfield 38, 3) := by decide +kernel
theorem dX5_write_15 : decode cX5_write 15 = .ok (.aload_n 0, 1) := by decide +kernel
theorem dX5_write_16 : decode cX5_write 16 = .ok (.getfield 10, 3) := by decide +kernel
theorem dX5_write_19 : decode cX5_write 19 = .ok (.iload_n 1, 1) := by decide +kernel
theorem dX5_write_20 : decode cX5_write 20 = .ok (.iload_n 2, 1) := by decide +kernel
theorem dX5_write_21 : decode cX5_write 21 = .ok (.iload_n 3, 1) := by decide +kernel
theorem dX5_write_22 : decode cX5_write 22 = .ok (.invokevirtual 59, 3) := by decide +kernel
theorem dX5_write_25 : decode cX5_write 25 = .ok (.invokevirtual 56, 3) := by decide +kernel
theorem dX5_write_28 : decode cX5_write 28 = .ok (.ireturn, 1) := by decide +kernel
set_option maxRecDepth 20000 in
theorem ggX5_lose_X0_note : GoodIn wsX5_lose wsX0_note := goodIn_r _ [7, 8, 9, 10, 11, 6, 12, 13, 14, 15, 16, 17, 18, 19, 20, 21, 22, 23, 24, 89, 90, 91, 92] (by decide +kernel) (by decide +kernel)
set_option maxRecDepth 20000 in
theorem gX5_lose_X0_note : GoodIn wsX5_lose (wsV RX5 53 RX0 yX0_note wsX0_note) := goodIn_app (goodIn_of _ (by decide +kernel)) ggX5_lose_X0_note
set_option maxRecDepth 20000 in
theorem ggX5_lose_X3_loseRow : GoodIn wsX5_lose wsX3_loseRow := goodIn_r _ [28, 29, 30, 31, 32, 33, 18, 34, 35, 36, 37, 38, 20, 39, 40, 41, 42, 43, 44, 45, 46, 47, 48, 49, 50, 51, 52, 53, 54, 55, 56, 57, 58, 59, 60, 61, 62, 63, 64, 65, 66, 67, 68, 69, 70, 71, 72, 73, 74, 75, 76, 77, 78, 92] (by decide +kernel) (by decide +kernel)
set_option maxRecDepth 20000 in
theorem gX5_lose_X3_loseRow : GoodIn wsX5_lose (wsV RX5 63 RX3 yX3_loseRow wsX3_loseRow) := goodIn_app (goodIn_of _ (by decide +kernel)) ggX5_lose_X3_loseRow
set_option maxRecDepth 20000 in
theorem ggX5_lose_X0_keepUnlessError : GoodIn wsX5_lose wsX0_keepUnlessError := goodIn_r _ [82, 8, 13, 89, 90, 91] (by decide +kernel) (by decide +kernel)
set_option maxRecDepth 20000 in
theorem gX5_lose_X0_keepUnlessError : GoodIn wsX5_lose (wsV RX5 56 RX0 yX0_keepUnlessError wsX0_keepUnlessError) := goodIn_app (goodIn_of _ (by decide +kernel)) ggX5_lose_X0_keepUnlessError
theorem dX5_lose_0 : decode cX5_lose 0 = .ok (.aload_n 0, 1) := by decide +kernel
theorem dX5_lose_1 : decode cX5_lose 1 = .ok (.getfield 38, 3) := by decide +kernel
theorem dX5_lose_4 : decode cX5_lose 4 = .ok (.aload_n 0, 1) := by decide +kernel
theorem dX5_lose_5 : decode cX5_lose 5 = .ok (.getfield 10, 3) := by decide +kernel
theorem dX5_lose_8 : decode cX5_lose 8 = .ok (.invokevirtual 53, 3) := by decide +kernel
theorem dX5_lose_11 : decode cX5_lose 11 = .ok (.aload_n 0, 1) := by decide +kernel
theorem dX5_lose_12 : decode cX5_lose 12 = .ok (.getfield 38, 3) := by decide +kernel
theorem dX5_lose_15 : decode cX5_lose 15 = .ok (.aload_n 0, 1) := by decide +kernel
theorem dX5_lose_16 : decode cX5_lose 16 = .ok (.getfield 10, 3) := by decide +kernel
theorem dX5_lose_19 : decode cX5_lose 19 = .ok (.iload_n 1, 1) := by decide +kernel
theorem dX5_lose_20 : decode cX5_lose 20 = .ok (.invokevirtual 63, 3) := by decide +kernel
theorem dX5_lose_23 : decode cX5_lose 23 = .ok (.invokevirtual 56, 3) := by decide +kernel
theorem dX5_lose_26 : decode cX5_lose 26 = .ok (.ireturn, 1) := by decide +kernel
set_option maxRecDepth 20000 in
theorem ggX5_mend_X0_note : GoodIn wsX5_mend wsX0_note := goodIn_r _ [7, 8, 9, 10, 11, 6, 12, 13, 14, 15, 16, 17, 18, 19, 20, 21, 22, 23, 24, 116, 117, 118, 119] (by decide +kernel) (by decide +kernel)
set_option maxRecDepth 20000 in
theorem gX5_mend_X0_note : GoodIn wsX5_mend (wsV RX5 53 RX0 yX0_note wsX0_note) := goodIn_app (goodIn_of _ (by decide +kernel)) ggX5_mend_X0_note
set_option maxRecDepth 20000 in
theorem ggX5_mend_X3_mendRow : GoodIn wsX5_mend wsX3_mendRow := goodIn_r _ [28, 29, 30, 31, 32, 33, 18, 34, 35, 36, 37, 38, 20, 39, 40, 41, 42, 43, 44, 45, 46, 47, 48, 49, 50, 51, 52, 53, 54, 55, 56, 57, 58, 59, 60, 61, 62, 63, 64, 65, 66, 67, 68, 69, 70, 71, 72, 73, 74, 75, 76, 77, 78, 79, 80, 81, 82, 83, 84, 85, 86, 87, 88, 89, 90, 91, 92, 93, 94, 95, 96, 97, 98, 99, 100, 101, 102, 103, 104, 105, 119] (by decide +kernel) (by decide +kernel)
set_option maxRecDepth 20000 in
theorem gX5_mend_X3_mendRow : GoodIn wsX5_mend (wsV RX5 66 RX3 yX3_mendRow wsX3_mendRow) := goodIn_app (goodIn_of _ (by decide +kernel)) ggX5_mend_X3_mendRow
set_option maxRecDepth 20000 in
theorem ggX5_mend_X0_keepUnlessError : GoodIn wsX5_mend wsX0_keepUnlessError := goodIn_r _ [109, 8, 13, 116, 117, 118] (by decide +kernel) (by decide +kernel)
set_option maxRecDepth 20000 in
theorem gX5_mend_X0_keepUnlessError : GoodIn wsX5_mend (wsV RX5 56 RX0 yX0_keepUnlessError wsX0_keepUnlessError) := goodIn_app (goodIn_of _ (by decide +kernel)) ggX5_mend_X0_keepUnlessError
theorem dX5_mend_0 : decode cX5_mend 0 = .ok (.aload_n 0, 1) := by decide +kernel
theorem dX5_mend_1 : decode cX5_mend 1 = .ok (.getfield 38, 3) := by decide +kernel
theorem dX5_mend_4 : decode cX5_mend 4 = .ok (.aload_n 0, 1) := by decide +kernel
theorem dX5_mend_5 : decode cX5_mend 5 = .ok (.getfield 10, 3) := by decide +kernel
theorem dX5_mend_8 : decode cX5_mend 8 = .ok (.invokevirtual 53, 3) := by decide +kernel
theorem dX5_mend_11 : decode cX5_mend 11 = .ok (.aload_n 0, 1) := by decide +kernel
theorem dX5_mend_12 : decode cX5_mend 12 = .ok (.getfield 38, 3) := by decide +kernel
theorem dX5_mend_15 : decode cX5_mend 15 = .ok (.aload_n 0, 1) := by decide +kernel
theorem dX5_mend_16 : decode cX5_mend 16 = .ok (.getfield 10, 3) := by decide +kernel
theorem dX5_mend_19 : decode cX5_mend 19 = .ok (.iload_n 1, 1) := by decide +kernel
theorem dX5_mend_20 : decode cX5_mend 20 = .ok (.invokevirtual 66, 3) := by decide +kernel
theorem dX5_mend_23 : decode cX5_mend 23 = .ok (.invokevirtual 56, 3) := by decide +kernel
theorem dX5_mend_26 : decode cX5_mend 26 = .ok (.ireturn, 1) := by decide +kernel
set_option maxRecDepth 20000 in
theorem ggX5_swap_X0_note : GoodIn wsX5_swap wsX0_note := goodIn_r _ [7, 8, 9, 10, 11, 6, 12, 13, 14, 15, 16, 17, 18, 19, 20, 21, 22, 23, 24, 64, 65, 66, 67] (by decide +kernel) (by decide +kernel)
set_option maxRecDepth 20000 in
theorem gX5_swap_X0_note : GoodIn wsX5_swap (wsV RX5 53 RX0 yX0_note wsX0_note) := goodIn_app (goodIn_of _ (by decide +kernel)) ggX5_swap_X0_note
set_option maxRecDepth 20000 in
theorem ggX5_swap_X3_swapRows : GoodIn wsX5_swap wsX3_swapRows := goodIn_r _ [28, 29, 30, 31, 32, 33, 34, 35, 36, 37, 38, 39, 40, 18, 41, 42, 43, 44, 45, 20, 46, 47, 48, 49, 50, 51, 52, 53, 67] (by decide +kernel) (by decide +kernel)
set_option maxRecDepth 20000 in
theorem gX5_swap_X3_swapRows : GoodIn wsX5_swap (wsV RX5 69 RX3 yX3_swapRows wsX3_swapRows) := goodIn_app (goodIn_of _ (by decide +kernel)) ggX5_swap_X3_swapRows
set_option maxRecDepth 20000 in
theorem ggX5_swap_X0_keepUnlessError : GoodIn wsX5_swap wsX0_keepUnlessError := goodIn_r _ [57, 8, 13, 64, 65, 66] (by decide +kernel) (by decide +kernel)
set_option maxRecDepth 20000 in
theorem gX5_swap_X0_keepUnlessError : GoodIn wsX5_swap (wsV RX5 56 RX0 yX0_keepUnlessError wsX0_keepUnlessError) := goodIn_app (goodIn_of _ (by decide +kernel)) ggX5_swap_X0_keepUnlessError
theorem dX5_swap_0 : decode cX5_swap 0 = .ok (.aload_n 0, 1) := by decide +kernel
theorem dX5_swap_1 : decode cX5_swap 1 = .ok (.getfield 38, 3) := by decide +kernel
theorem dX5_swap_4 : decode cX5_swap 4 = .ok (.aload_n 0, 1) := by decide +kernel
theorem dX5_swap_5 : decode cX5_swap 5 = .ok (.getfield 10, 3) := by decide +kernel
theorem dX5_swap_8 : decode cX5_swap 8 = .ok (.invokevirtual 53, 3) := by decide +kernel
theorem dX5_swap_11 : decode cX5_swap 11 = .ok (.aload_n 0, 1) := by decide +kernel
theorem dX5_swap_12 : decode cX5_swap 12 = .ok (.getfield 38, 3) := by decide +kernel
theorem dX5_swap_15 : decode cX5_swap 15 = .ok (.aload_n 0, 1) := by decide +kernel
theorem dX5_swap_16 : decode cX5_swap 16 = .ok (.getfield 10, 3) := by decide +kernel
theorem dX5_swap_19 : decode cX5_swap 19 = .ok (.iload_n 1, 1) := by decide +kernel
theorem dX5_swap_20 : decode cX5_swap 20 = .ok (.iload_n 2, 1) := by decide +kernel
theorem dX5_swap_21 : decode cX5_swap 21 = .ok (.invokevirtual 69, 3) := by decide +kernel
theorem dX5_swap_24 : decode cX5_swap 24 = .ok (.invokevirtual 56, 3) := by decide +kernel
theorem dX5_swap_27 : decode cX5_swap 27 = .ok (.ireturn, 1) := by decide +kernel
set_option maxRecDepth 20000 in
theorem ggX5_lay_X0_note : GoodIn wsX5_lay wsX0_note := goodIn_r _ [7, 8, 9, 10, 11, 6, 12, 13, 14, 15, 16, 17, 18, 19, 20, 21, 22, 23, 24, 94, 95, 96, 97] (by decide +kernel) (by decide +kernel)
set_option maxRecDepth 20000 in
theorem gX5_lay_X0_note : GoodIn wsX5_lay (wsV RX5 53 RX0 yX0_note wsX0_note) := goodIn_app (goodIn_of _ (by decide +kernel)) ggX5_lay_X0_note
set_option maxRecDepth 20000 in
theorem ggX5_lay_X3_layAnew : GoodIn wsX5_lay wsX3_layAnew := goodIn_r _ [28, 29, 30, 31, 32, 33, 18, 34, 35, 36, 37, 38, 20, 39, 40, 41, 42, 43, 44, 45, 46, 47, 48, 49, 50, 51, 52, 53, 54, 55, 56, 57, 58, 59, 60, 61, 62, 63, 64, 65, 66, 67, 68, 69, 70, 71, 72, 73, 74, 75, 76, 77, 78, 79, 80, 81, 82, 83, 97] (by decide +kernel) (by decide +kernel)
set_option maxRecDepth 20000 in
theorem gX5_lay_X3_layAnew : GoodIn wsX5_lay (wsV RX5 73 RX3 yX3_layAnew wsX3_layAnew) := goodIn_app (goodIn_of _ (by decide +kernel)) ggX5_lay_X3_layAnew
set_option maxRecDepth 20000 in
theorem ggX5_lay_X0_keepUnlessError : GoodIn wsX5_lay wsX0_keepUnlessError := goodIn_r _ [87, 8, 13, 94, 95, 96] (by decide +kernel) (by decide +kernel)
set_option maxRecDepth 20000 in
theorem gX5_lay_X0_keepUnlessError : GoodIn wsX5_lay (wsV RX5 56 RX0 yX0_keepUnlessError wsX0_keepUnlessError) := goodIn_app (goodIn_of _ (by decide +kernel)) ggX5_lay_X0_keepUnlessError
theorem dX5_lay_0 : decode cX5_lay 0 = .ok (.aload_n 0, 1) := by decide +kernel
theorem dX5_lay_1 : decode cX5_lay 1 = .ok (.getfield 38, 3) := by decide +kernel
theorem dX5_lay_4 : decode cX5_lay 4 = .ok (.aload_n 0, 1) := by decide +kernel
theorem dX5_lay_5 : decode cX5_lay 5 = .ok (.getfield 10, 3) := by decide +kernel
theorem dX5_lay_8 : decode cX5_lay 8 = .ok (.invokevirtual 53, 3) := by decide +kernel
theorem dX5_lay_11 : decode cX5_lay 11 = .ok (.aload_n 0, 1) := by decide +kernel
theorem dX5_lay_12 : decode cX5_lay 12 = .ok (.getfield 38, 3) := by decide +kernel
theorem dX5_lay_15 : decode cX5_lay 15 = .ok (.aload_n 0, 1) := by decide +kernel
theorem dX5_lay_16 : decode cX5_lay 16 = .ok (.getfield 10, 3) := by decide +kernel
theorem dX5_lay_19 : decode cX5_lay 19 = .ok (.iload_n 1, 1) := by decide +kernel
theorem dX5_lay_20 : decode cX5_lay 20 = .ok (.invokevirtual 73, 3) := by decide +kernel
theorem dX5_lay_23 : decode cX5_lay 23 = .ok (.invokevirtual 56, 3) := by decide +kernel
theorem dX5_lay_26 : decode cX5_lay 26 = .ok (.ireturn, 1) := by decide +kernel
set_option maxRecDepth 20000 in
theorem ggX5_days_X0_note : GoodIn wsX5_days wsX0_note := goodIn_r _ [7, 8, 9, 10, 11, 6, 12, 13, 14, 15, 16, 17, 18, 19, 20, 21, 22, 23, 24, 53, 54, 55, 56] (by decide +kernel) (by decide +kernel)
set_option maxRecDepth 20000 in
theorem gX5_days_X0_note : GoodIn wsX5_days (wsV RX5 53 RX0 yX0_note wsX0_note) := goodIn_app (goodIn_of _ (by decide +kernel)) ggX5_days_X0_note
set_option maxRecDepth 20000 in
theorem ggX5_days_X3_endDays : GoodIn wsX5_days wsX3_endDays := goodIn_r _ [28, 29, 30, 31, 32, 33, 18, 34, 20, 35, 36, 37, 38, 39, 40, 41, 42, 56] (by decide +kernel) (by decide +kernel)
set_option maxRecDepth 20000 in
theorem gX5_days_X3_endDays : GoodIn wsX5_days (wsV RX5 76 RX3 yX3_endDays wsX3_endDays) := goodIn_app (goodIn_of _ (by decide +kernel)) ggX5_days_X3_endDays
set_option maxRecDepth 20000 in
theorem ggX5_days_X0_keepUnlessError : GoodIn wsX5_days wsX0_keepUnlessError := goodIn_r _ [46, 8, 13, 53, 54, 55] (by decide +kernel) (by decide +kernel)
set_option maxRecDepth 20000 in
theorem gX5_days_X0_keepUnlessError : GoodIn wsX5_days (wsV RX5 56 RX0 yX0_keepUnlessError wsX0_keepUnlessError) := goodIn_app (goodIn_of _ (by decide +kernel)) ggX5_days_X0_keepUnlessError
theorem dX5_days_0 : decode cX5_days 0 = .ok (.aload_n 0, 1) := by decide +kernel
theorem dX5_days_1 : decode cX5_days 1 = .ok (.getfield 38, 3) := by decide +kernel
theorem dX5_days_4 : decode cX5_days 4 = .ok (.aload_n 0, 1) := by decide +kernel
theorem dX5_days_5 : decode cX5_days 5 = .ok (.getfield 10, 3) := by decide +kernel
theorem dX5_days_8 : decode cX5_days 8 = .ok (.invokevirtual 53, 3) := by decide +kernel
theorem dX5_days_11 : decode cX5_days 11 = .ok (.aload_n 0, 1) := by decide +kernel
theorem dX5_days_12 : decode cX5_days 12 = .ok (.getfield 38, 3) := by decide +kernel
theorem dX5_days_15 : decode cX5_days 15 = .ok (.aload_n 0, 1) := by decide +kernel
theorem dX5_days_16 : decode cX5_days 16 = .ok (.getfield 10, 3) := by decide +kernel
theorem dX5_days_19 : decode cX5_days 19 = .ok (.iload_n 1, 1) := by decide +kernel
theorem dX5_days_20 : decode cX5_days 20 = .ok (.invokevirtual 76, 3) := by decide +kernel
theorem dX5_days_23 : decode cX5_days 23 = .ok (.invokevirtual 56, 3) := by decide +kernel
theorem dX5_days_26 : decode cX5_days 26 = .ok (.ireturn, 1) := by decide +kernel
set_option maxRecDepth 20000 in
theorem ggX5_set_X0_note : GoodIn wsX5_set wsX0_note := goodIn_r _ [7, 8, 9, 10, 11, 6, 12, 13, 14, 15, 16, 17, 18, 19, 20, 21, 22, 23, 24, 56, 57, 58, 59] (by decide +kernel) (by decide +kernel)
set_option maxRecDepth 20000 in
theorem gX5_set_X0_note : GoodIn wsX5_set (wsV RX5 53 RX0 yX0_note wsX0_note) := goodIn_app (goodIn_of _ (by decide +kernel)) ggX5_set_X0_note
set_option maxRecDepth 20000 in
theorem ggX5_set_X3_changeSetting : GoodIn wsX5_set wsX3_changeSetting := goodIn_r _ [28, 29, 30, 31, 32, 18, 33, 20, 34, 35, 36, 37, 38, 39, 40, 41, 42, 43, 44, 45, 59] (by decide +kernel) (by decide +kernel)
set_option maxRecDepth 20000 in
theorem gX5_set_X3_changeSetting : GoodIn wsX5_set (wsV RX5 79 RX3 yX3_changeSetting wsX3_changeSetting) := goodIn_app (goodIn_of _ (by decide +kernel)) ggX5_set_X3_changeSetting
set_option maxRecDepth 20000 in
theorem ggX5_set_X0_keepUnlessError : GoodIn wsX5_set wsX0_keepUnlessError := goodIn_r _ [49, 8, 13, 56, 57, 58] (by decide +kernel) (by decide +kernel)
set_option maxRecDepth 20000 in
theorem gX5_set_X0_keepUnlessError : GoodIn wsX5_set (wsV RX5 56 RX0 yX0_keepUnlessError wsX0_keepUnlessError) := goodIn_app (goodIn_of _ (by decide +kernel)) ggX5_set_X0_keepUnlessError
theorem dX5_set_0 : decode cX5_set 0 = .ok (.aload_n 0, 1) := by decide +kernel
theorem dX5_set_1 : decode cX5_set 1 = .ok (.getfield 38, 3) := by decide +kernel
theorem dX5_set_4 : decode cX5_set 4 = .ok (.aload_n 0, 1) := by decide +kernel
theorem dX5_set_5 : decode cX5_set 5 = .ok (.getfield 10, 3) := by decide +kernel
theorem dX5_set_8 : decode cX5_set 8 = .ok (.invokevirtual 53, 3) := by decide +kernel
theorem dX5_set_11 : decode cX5_set 11 = .ok (.aload_n 0, 1) := by decide +kernel
theorem dX5_set_12 : decode cX5_set 12 = .ok (.getfield 38, 3) := by decide +kernel
theorem dX5_set_15 : decode cX5_set 15 = .ok (.aload_n 0, 1) := by decide +kernel
theorem dX5_set_16 : decode cX5_set 16 = .ok (.getfield 10, 3) := by decide +kernel
theorem dX5_set_19 : decode cX5_set 19 = .ok (.iload_n 1, 1) := by decide +kernel
theorem dX5_set_20 : decode cX5_set 20 = .ok (.iload_n 2, 1) := by decide +kernel
theorem dX5_set_21 : decode cX5_set 21 = .ok (.invokevirtual 79, 3) := by decide +kernel
theorem dX5_set_24 : decode cX5_set 24 = .ok (.invokevirtual 56, 3) := by decide +kernel
theorem dX5_set_27 : decode cX5_set 27 = .ok (.ireturn, 1) := by decide +kernel
set_option maxRecDepth 20000 in
theorem ggX5_cell_X4_ofCell : GoodIn wsX5_cell wsX4_ofCell := goodIn_r _ [6, 7, 8, 9, 10, 11, 12, 13, 14, 15, 16, 17, 18, 19, 20, 21, 22, 23, 24, 25, 26, 27, 28, 29, 30, 31, 32, 33, 34, 35, 36, 37, 38, 39, 40, 41, 42, 43, 44, 45, 46, 47, 48, 49, 50, 51, 52, 53, 54, 55, 62, 63] (by decide +kernel) (by decide +kernel)
set_option maxRecDepth 20000 in
theorem gX5_cell_X4_ofCell : GoodIn wsX5_cell (wsV RX5 82 RX4 yX4_ofCell wsX4_ofCell) := goodIn_app (goodIn_of _ (by decide +kernel)) ggX5_cell_X4_ofCell
theorem dX5_cell_0 : decode cX5_cell 0 = .ok (.aload_n 0, 1) := by decide +kernel
theorem dX5_cell_1 : decode cX5_cell 1 = .ok (.getfield 24, 3) := by decide +kernel
theorem dX5_cell_4 : decode cX5_cell 4 = .ok (.iload_n 1, 1) := by decide +kernel
theorem dX5_cell_5 : decode cX5_cell 5 = .ok (.iload_n 2, 1) := by decide +kernel
theorem dX5_cell_6 : decode cX5_cell 6 = .ok (.iload_n 3, 1) := by decide +kernel
theorem dX5_cell_7 : decode cX5_cell 7 = .ok (.invokevirtual 82, 3) := by decide +kernel
theorem dX5_cell_10 : decode cX5_cell 10 = .ok (.ireturn, 1) := by decide +kernel
set_option maxRecDepth 20000 in
theorem ggX5_margin_X4_ofMargin : GoodIn wsX5_margin wsX4_ofMargin := goodIn_r _ [6, 7, 8, 9, 10, 11, 12, 13, 14, 15, 16, 17, 18, 19, 20, 21, 22, 23, 5, 24, 25, 26, 27, 28, 29, 30, 31, 32, 33, 34, 35, 36, 37, 38, 39, 40, 41, 48, 49] (by decide +kernel) (by decide +kernel)
set_option maxRecDepth 20000 in
theorem gX5_margin_X4_ofMargin : GoodIn wsX5_margin (wsV RX5 85 RX4 yX4_ofMargin wsX4_ofMargin) := goodIn_app (goodIn_of _ (by decide +kernel)) ggX5_margin_X4_ofMargin
theorem dX5_margin_0 : decode cX5_margin 0 = .ok (.aload_n 0, 1) := by decide +kernel
theorem dX5_margin_1 : decode cX5_margin 1 = .ok (.getfield 24, 3) := by decide +kernel
theorem dX5_margin_4 : decode cX5_margin 4 = .ok (.iload_n 1, 1) := by decide +kernel
theorem dX5_margin_5 : decode cX5_margin 5 = .ok (.iload_n 2, 1) := by decide +kernel
theorem dX5_margin_6 : decode cX5_margin 6 = .ok (.iload_n 3, 1) := by decide +kernel
theorem dX5_margin_7 : decode cX5_margin 7 = .ok (.invokevirtual 85, 3) := by decide +kernel
theorem dX5_margin_10 : decode cX5_margin 10 = .ok (.ireturn, 1) := by decide +kernel
set_option maxRecDepth 20000 in
theorem ggX5_row_X4_ofRow : GoodIn wsX5_row wsX4_ofRow := goodIn_r _ [6, 7, 8, 9, 10, 11, 12, 13, 14, 15, 16, 17, 18, 19, 20, 21, 22, 23, 24, 25, 26, 27, 28, 29, 30, 5, 31, 32, 33, 34, 35, 36, 37, 38, 39, 40, 41, 42, 43, 44, 45, 46, 47, 48, 49, 50, 51, 52, 53, 54, 55, 56, 57, 58, 59, 60, 61, 62, 63, 64, 71, 72] (by decide +kernel) (by decide +kernel)
set_option maxRecDepth 20000 in
theorem gX5_row_X4_ofRow : GoodIn wsX5_row (wsV RX5 88 RX4 yX4_ofRow wsX4_ofRow) := goodIn_app (goodIn_of _ (by decide +kernel)) ggX5_row_X4_ofRow
theorem dX5_row_0 : decode cX5_row 0 = .ok (.aload_n 0, 1) := by decide +kernel
theorem dX5_row_1 : decode cX5_row 1 = .ok (.getfield 24, 3) := by decide +kernel
theorem dX5_row_4 : decode cX5_row 4 = .ok (.iload_n 1, 1) := by decide +kernel
theorem dX5_row_5 : decode cX5_row 5 = .ok (.iload_n 2, 1) := by decide +kernel
theorem dX5_row_6 : decode cX5_row 6 = .ok (.invokevirtual 88, 3) := by decide +kernel
theorem dX5_row_9 : decode cX5_row 9 = .ok (.ireturn, 1) := by decide +kernel
set_option maxRecDepth 20000 in
theorem ggX5_at_X3_hasRow : GoodIn wsX5_at wsX3_hasRow := goodIn_r _ [7, 8, 9, 10, 6, 11, 12, 20] (by decide +kernel) (by decide +kernel)
set_option maxRecDepth 20000 in
theorem gX5_at_X3_hasRow : GoodIn wsX5_at (wsV RX5 91 RX3 yX3_hasRow wsX3_hasRow) := goodIn_app (goodIn_of _ (by decide +kernel)) ggX5_at_X3_hasRow
set_option maxRecDepth 20000 in
theorem ggX5_at_X3_get : GoodIn wsX5_at wsX3_get := goodIn_r _ [11, 12, 20] (by decide +kernel) (by decide +kernel)
set_option maxRecDepth 20000 in
theorem gX5_at_X3_get : GoodIn wsX5_at (wsV RX5 95 RX3 yX3_get wsX3_get) := goodIn_app (goodIn_of _ (by decide +kernel)) ggX5_at_X3_get
theorem dX5_at_0 : decode cX5_at 0 = .ok (.aload_n 0, 1) := by decide +kernel
theorem dX5_at_1 : decode cX5_at 1 = .ok (.getfield 10, 3) := by decide +kernel
theorem dX5_at_4 : decode cX5_at 4 = .ok (.iload_n 1, 1) := by decide +kernel
theorem dX5_at_5 : decode cX5_at 5 = .ok (.invokevirtual 91, 3) := by decide +kernel
theorem dX5_at_8 : decode cX5_at 8 = .ok (.ifCond .eq 17, 3) := by decide +kernel
theorem dX5_at_11 : decode cX5_at 11 = .ok (.aload_n 0, 1) := by decide +kernel
theorem dX5_at_12 : decode cX5_at 12 = .ok (.getfield 10, 3) := by decide +kernel
theorem dX5_at_15 : decode cX5_at 15 = .ok (.bipush 19, 2) := by decide +kernel
theorem dX5_at_17 : decode cX5_at 17 = .ok (.iload_n 1, 1) := by decide +kernel
theorem dX5_at_18 : decode cX5_at 18 = .ok (.iadd, 1) := by decide +kernel
theorem dX5_at_19 : decode cX5_at 19 = .ok (.invokevirtual 95, 3) := by decide +kernel
theorem dX5_at_22 : decode cX5_at 22 = .ok (.goto 5, 3) := by decide +kernel
theorem dX5_at_25 : decode cX5_at 25 = .ok (.ldc 98, 2) := by decide +kernel
theorem dX5_at_27 : decode cX5_at 27 = .ok (.ireturn, 1) := by decide +kernel
set_option maxRecDepth 20000 in
theorem ggX5_would_X4_ofMending : GoodIn wsX5_would wsX4_ofMending := goodIn_r _ [6, 7, 8, 9, 10, 11, 12, 13, 14, 15, 16, 17, 18, 19, 20, 21, 22, 23, 24, 25, 26, 27, 28, 29, 30, 31, 32, 33, 34, 35, 36, 37, 38, 39, 40, 41, 42, 43, 44, 45, 46, 47, 48, 49, 50, 51, 52, 53, 54, 55, 56, 57, 58, 59, 60, 61, 68, 69] (by decide +kernel) (by decide +kernel)
set_option maxRecDepth 20000 in
theorem gX5_would_X4_ofMending : GoodIn wsX5_would (wsV RX5 99 RX4 yX4_ofMending wsX4_ofMending) := goodIn_app (goodIn_of _ (by decide +kernel)) ggX5_would_X4_ofMending
theorem dX5_would_0 : decode cX5_would 0 = .ok (.aload_n 0, 1) := by decide +kernel
theorem dX5_would_1 : decode cX5_would 1 = .ok (.getfield 24, 3) := by decide +kernel
theorem dX5_would_4 : decode cX5_would 4 = .ok (.iload_n 1, 1) := by decide +kernel
theorem dX5_would_5 : decode cX5_would 5 = .ok (.iload_n 2, 1) := by decide +kernel
theorem dX5_would_6 : decode cX5_would 6 = .ok (.invokevirtual 99, 3) := by decide +kernel
theorem dX5_would_9 : decode cX5_would 9 = .ok (.ireturn, 1) := by decide +kernel
set_option maxRecDepth 20000 in
theorem ggX5_order_X1_findBest : GoodIn wsX5_order wsX1_findBest := goodIn_r _ [9, 10, 11, 12, 13, 8, 14, 15, 16, 17, 18, 19, 20, 21, 22, 23, 24, 25, 26, 27, 28, 29, 30, 31, 32, 33, 34, 35, 36, 37, 38, 39, 40, 41, 42, 43, 44, 45, 46, 47, 48, 49, 50, 51, 52, 53, 54, 55, 56, 57, 58, 59, 60, 61, 62, 63, 64, 65, 66, 67, 68, 69, 70, 71, 72, 73, 74, 75, 76, 77, 78, 79, 80, 81, 82, 83, 84, 85, 86, 87, 88, 89, 90, 91, 92, 93, 94, 95, 96, 97, 98, 99, 100, 101, 102, 103, 104, 105, 106, 107, 108, 109, 110, 111, 112, 113, 114, 115, 116, 117, 118, 119, 120, 121, 122, 123, 135, 136, 137, 138, 139] (by decide +kernel) (by decide +kernel)
set_option maxRecDepth 20000 in
theorem gX5_order_X1_findBest : GoodIn wsX5_order (wsV RX5 102 RX1 yX1_findBest wsX1_findBest) := goodIn_app (goodIn_of _ (by decide +kernel)) ggX5_order_X1_findBest
set_option maxRecDepth 20000 in
theorem ggX5_order_X1_bestRow : GoodIn wsX5_order wsX1_bestRow := goodIn_r _ [127, 36, 128, 135, 136, 137, 138] (by decide +kernel) (by decide +kernel)
set_option maxRecDepth 20000 in
theorem gX5_order_X1_bestRow : GoodIn wsX5_order (wsV RX5 106 RX1 yX1_bestRow wsX1_bestRow) := goodIn_app (goodIn_of _ (by decide +kernel)) ggX5_order_X1_bestRow
theorem dX5_order_0 : decode cX5_order 0 = .ok (.iload_n 1, 1) := by decide +kernel
theorem dX5_order_1 : decode cX5_order 1 = .ok (.ifCond .ge 6, 3) := by decide +kernel
theorem dX5_order_4 : decode cX5_order 4 = .ok (.ldc 98, 2) := by decide +kernel
theorem dX5_order_6 : decode cX5_order 6 = .ok (.ireturn, 1) := by decide +kernel
theorem dX5_order_7 : decode cX5_order 7 = .ok (.aload_n 0, 1) := by decide +kernel
theorem dX5_order_8 : decode cX5_order 8 = .ok (.getfield 31, 3) := by decide +kernel
theorem dX5_order_11 : decode cX5_order 11 = .ok (.aload_n 0, 1) := by decide +kernel
theorem dX5_order_12 : decode cX5_order 12 = .ok (.getfield 10, 3) := by decide +kernel
theorem dX5_order_15 : decode cX5_order 15 = .ok (.invokevirtual 102, 3) := by decide +kernel
theorem dX5_order_18 : decode cX5_order 18 = .ok (.istore_n 2, 1) := by decide +kernel
theorem dX5_order_19 : decode cX5_order 19 = .ok (.iload_n 2, 1) := by decide +kernel
theorem dX5_order_20 : decode cX5_order 20 = .ok (.ifCond .ge 5, 3) := by decide +kernel
theorem dX5_order_23 : decode cX5_order 23 = .ok (.iload_n 2, 1) := by decide +kernel
theorem dX5_order_24 : decode cX5_order 24 = .ok (.ireturn, 1) := by decide +kernel
theorem dX5_order_25 : decode cX5_order 25 = .ok (.iload_n 1, 1) := by decide +kernel
theorem dX5_order_26 : decode cX5_order 26 = .ok (.iload_n 2, 1) := by decide +kernel
theorem dX5_order_27 : decode cX5_order 27 = .ok (.if_icmp .ge 14, 3) := by decide +kernel
theorem dX5_order_30 : decode cX5_order 30 = .ok (.aload_n 0, 1) := by decide +kernel
theorem dX5_order_31 : decode cX5_order 31 = .ok (.getfield 31, 3) := by decide +kernel
theorem dX5_order_34 : decode cX5_order 34 = .ok (.iload_n 1, 1) := by decide +kernel
theorem dX5_order_35 : decode cX5_order 35 = .ok (.invokevirtual 106, 3) := by decide +kernel
theorem dX5_order_38 : decode cX5_order 38 = .ok (.goto 5, 3) := by decide +kernel
theorem dX5_order_41 : decode cX5_order 41 = .ok (.ldc 109, 2) := by decide +kernel
theorem dX5_order_43 : decode cX5_order 43 = .ok (.ireturn, 1) := by decide +kernel
set_option maxRecDepth 20000 in
theorem ggX5_comes_X1_findBest : GoodIn wsX5_comes wsX1_findBest := goodIn_r _ [7, 8, 9, 10, 11, 6, 12, 13, 14, 15, 16, 17, 18, 19, 20, 21, 22, 23, 24, 25, 26, 27, 28, 29, 30, 31, 32, 33, 34, 35, 36, 37, 38, 39, 40, 41, 42, 43, 44, 45, 46, 47, 48, 49, 50, 51, 52, 53, 54, 55, 56, 57, 58, 59, 60, 61, 62, 63, 64, 65, 66, 67, 68, 69, 70, 71, 72, 73, 74, 75, 76, 77, 78, 79, 80, 81, 82, 83, 84, 85, 86, 87, 88, 89, 90, 91, 92, 93, 94, 95, 96, 97, 98, 99, 100, 101, 102, 103, 104, 105, 106, 107, 108, 109, 110, 111, 112, 113, 114, 115, 116, 117, 118, 119, 120, 121, 132, 133, 134, 135, 136] (by decide +kernel) (by decide +kernel)
set_option maxRecDepth 20000 in
theorem gX5_comes_X1_findBest : GoodIn wsX5_comes (wsV RX5 102 RX1 yX1_findBest wsX1_findBest) := goodIn_app (goodIn_of _ (by decide +kernel)) ggX5_comes_X1_findBest
set_option maxRecDepth 20000 in
theorem ggX5_comes_X1_bestSum : GoodIn wsX5_comes wsX1_bestSum := goodIn_r _ [125, 9, 132, 133, 134, 135] (by decide +kernel) (by decide +kernel)
set_option maxRecDepth 20000 in
theorem gX5_comes_X1_bestSum : GoodIn wsX5_comes (wsV RX5 110 RX1 yX1_bestSum wsX1_bestSum) := goodIn_app (goodIn_of _ (by decide +kernel)) ggX5_comes_X1_bestSum
theorem dX5_comes_0 : decode cX5_comes 0 = .ok (.aload_n 0, 1) := by decide +kernel
theorem dX5_comes_1 : decode cX5_comes 1 = .ok (.getfield 31, 3) := by decide +kernel
theorem dX5_comes_4 : decode cX5_comes 4 = .ok (.aload_n 0, 1) := by decide +kernel
theorem dX5_comes_5 : decode cX5_comes 5 = .ok (.getfield 10, 3) := by decide +kernel
theorem dX5_comes_8 : decode cX5_comes 8 = .ok (.invokevirtual 102, 3) := by decide +kernel
theorem dX5_comes_11 : decode cX5_comes 11 = .ok (.istore_n 1, 1) := by decide +kernel
theorem dX5_comes_12 : decode cX5_comes 12 = .ok (.iload_n 1, 1) := by decide +kernel
theorem dX5_comes_13 : decode cX5_comes 13 = .ok (.ifCond .ge 7, 3) := by decide +kernel
theorem dX5_comes_16 : decode cX5_comes 16 = .ok (.iload_n 1, 1) := by decide +kernel
theorem dX5_comes_17 : decode cX5_comes 17 = .ok (.goto 10, 3) := by decide +kernel
theorem dX5_comes_20 : decode cX5_comes 20 = .ok (.aload_n 0, 1) := by decide +kernel
theorem dX5_comes_21 : decode cX5_comes 21 = .ok (.getfield 31, 3) := by decide +kernel
theorem dX5_comes_24 : decode cX5_comes 24 = .ok (.invokevirtual 110, 3) := by decide +kernel
theorem dX5_comes_27 : decode cX5_comes 27 = .ok (.ireturn, 1) := by decide +kernel
set_option maxRecDepth 20000 in
theorem ggX5_safeFor_X4_daysSafe : GoodIn wsX5_safeFor wsX4_daysSafe := goodIn_r _ [6, 7, 8, 9, 10, 11, 5, 12, 13, 14, 15, 16, 17, 18, 19, 20, 21, 22, 23, 24, 25, 26, 27, 28, 29, 30, 31, 32, 33, 34, 35, 36, 37, 38, 39, 40, 41, 42, 43, 44, 45, 46, 47, 48, 49, 50, 51, 52, 53, 54, 55, 56, 57, 58, 59, 60, 61, 62, 63, 64, 65, 66, 67, 68, 69, 70, 71, 72, 79, 80] (by decide +kernel) (by decide +kernel)
set_option maxRecDepth 20000 in
theorem gX5_safeFor_X4_daysSafe : GoodIn wsX5_safeFor (wsV RX5 114 RX4 yX4_daysSafe wsX4_daysSafe) := goodIn_app (goodIn_of _ (by decide +kernel)) ggX5_safeFor_X4_daysSafe
theorem dX5_safeFor_0 : decode cX5_safeFor 0 = .ok (.aload_n 0, 1) := by decide +kernel
theorem dX5_safeFor_1 : decode cX5_safeFor 1 = .ok (.getfield 24, 3) := by decide +kernel
theorem dX5_safeFor_4 : decode cX5_safeFor 4 = .ok (.invokevirtual 114, 3) := by decide +kernel
theorem dX5_safeFor_7 : decode cX5_safeFor 7 = .ok (.ireturn, 1) := by decide +kernel
set_option maxRecDepth 20000 in
theorem ggX5_mean_X4_meanAge : GoodIn wsX5_mean wsX4_meanAge := goodIn_r _ [6, 7, 8, 9, 10, 11, 5, 12, 13, 14, 15, 16, 17, 18, 19, 20, 21, 22, 23, 24, 25, 26, 27, 28, 29, 30, 31, 32, 33, 34, 35, 36, 37, 38, 45, 46] (by decide +kernel) (by decide +kernel)
set_option maxRecDepth 20000 in
theorem gX5_mean_X4_meanAge : GoodIn wsX5_mean (wsV RX5 117 RX4 yX4_meanAge wsX4_meanAge) := goodIn_app (goodIn_of _ (by decide +kernel)) ggX5_mean_X4_meanAge
theorem dX5_mean_0 : decode cX5_mean 0 = .ok (.aload_n 0, 1) := by decide +kernel
theorem dX5_mean_1 : decode cX5_mean 1 = .ok (.getfield 24, 3) := by decide +kernel
theorem dX5_mean_4 : decode cX5_mean 4 = .ok (.invokevirtual 117, 3) := by decide +kernel
theorem dX5_mean_7 : decode cX5_mean 7 = .ok (.ireturn, 1) := by decide +kernel
set_option maxRecDepth 20000 in
theorem ggX5_share_X4_shareComingBack : GoodIn wsX5_share wsX4_shareComingBack := goodIn_r _ [6, 7, 8, 9, 10, 11, 12, 13, 14, 15, 16, 17, 18, 19, 20, 21, 22, 23, 24, 25, 26, 27, 28, 29, 30, 31, 32, 33, 34, 35, 36, 37, 38, 39, 40, 41, 42, 43, 44, 45, 46, 47, 48, 49, 5, 50, 51, 58, 59] (by decide +kernel) (by decide +kernel)
set_option maxRecDepth 20000 in
theorem gX5_share_X4_shareComingBack : GoodIn wsX5_share (wsV RX5 120 RX4 yX4_shareComingBack wsX4_shareComingBack) := goodIn_app (goodIn_of _ (by decide +kernel)) ggX5_share_X4_shareComingBack
theorem dX5_share_0 : decode cX5_share 0 = .ok (.aload_n 0, 1) := by decide +kernel
theorem dX5_share_1 : decode cX5_share 1 = .ok (.getfield 24, 3) := by decide +kernel
theorem dX5_share_4 : decode cX5_share 4 = .ok (.invokevirtual 120, 3) := by decide +kernel
theorem dX5_share_7 : decode cX5_share 7 = .ok (.ireturn, 1) := by decide +kernel
set_option maxRecDepth 20000 in
theorem ggX5_count_X0_size : GoodIn wsX5_count wsX0_size := goodIn_r _ [8, 9, 109, 110, 111] (by decide +kernel) (by decide +kernel)
set_option maxRecDepth 20000 in
theorem gX5_count_X0_size : GoodIn wsX5_count (wsV RX5 123 RX0 yX0_size wsX0_size) := goodIn_app (goodIn_of _ (by decide +kernel)) ggX5_count_X0_size
set_option maxRecDepth 20000 in
theorem ggX5_count_X2_length : GoodIn wsX5_count wsX2_length := goodIn_r _ [14, 15, 112, 113, 114, 115, 116, 117, 118] (by decide +kernel) (by decide +kernel)
set_option maxRecDepth 20000 in
theorem gX5_count_X2_length : GoodIn wsX5_count (wsV RX5 126 RX2 yX2_length wsX2_length) := goodIn_app (goodIn_of _ (by decide +kernel)) ggX5_count_X2_length
set_option maxRecDepth 20000 in
theorem ggX5_count_X4_ofAll : GoodIn wsX5_count wsX4_ofAll := goodIn_r _ [20, 21, 22, 23, 24, 25, 26, 27, 28, 29, 30, 31, 19, 32, 33, 34, 35, 36, 37, 38, 39, 40, 41, 42, 43, 44, 45, 46, 47, 48, 49, 50, 51, 52, 53, 54, 55, 56, 57, 58, 59, 60, 61, 62, 63, 64, 65, 66, 67, 68, 69, 70, 71, 72, 73, 74, 75, 76, 77, 78, 79, 80, 81, 82, 83, 84, 85, 86, 87, 88, 89, 90, 91, 92, 93, 94, 95, 96, 97, 98, 99, 100, 101, 102, 119, 120] (by decide +kernel) (by decide +kernel)
set_option maxRecDepth 20000 in
theorem gX5_count_X4_ofAll : GoodIn wsX5_count (wsV RX5 129 RX4 yX4_ofAll wsX4_ofAll) := goodIn_app (goodIn_of _ (by decide +kernel)) ggX5_count_X4_ofAll
theorem dX5_count_0 : decode cX5_count 0 = .ok (.iload_n 1, 1) := by decide +kernel
theorem dX5_count_1 : decode cX5_count 1 = .ok (.lookupswitch 43 #[(14, 27), (15, 35)], 27) := by decide +kernel
theorem dX5_count_28 : decode cX5_count 28 = .ok (.aload_n 0, 1) := by decide +kernel
theorem dX5_count_29 : decode cX5_count 29 = .ok (.getfield 38, 3) := by decide +kernel
theorem dX5_count_32 : decode cX5_count 32 = .ok (.invokevirtual 123, 3) := by decide +kernel
theorem dX5_count_35 : decode cX5_count 35 = .ok (.ireturn, 1) := by decide +kernel
theorem dX5_count_36 : decode cX5_count 36 = .ok (.aload_n 0, 1) := by decide +kernel
theorem dX5_count_37 : decode cX5_count 37 = .ok (.getfield 45, 3) := by decide +kernel
theorem dX5_count_40 : decode cX5_count 40 = .ok (.invokevirtual 126, 3) := by decide +kernel
theorem dX5_count_43 : decode cX5_count 43 = .ok (.ireturn, 1) := by decide +kernel
theorem dX5_count_44 : decode cX5_count 44 = .ok (.aload_n 0, 1) := by decide +kernel
theorem dX5_count_45 : decode cX5_count 45 = .ok (.getfield 24, 3) := by decide +kernel
theorem dX5_count_48 : decode cX5_count 48 = .ok (.iload_n 1, 1) := by decide +kernel
theorem dX5_count_49 : decode cX5_count 49 = .ok (.invokevirtual 129, 3) := by decide +kernel
theorem dX5_count_52 : decode cX5_count 52 = .ok (.ireturn, 1) := by decide +kernel
set_option maxRecDepth 20000 in
theorem ggX5_undo_X0_bringBack : GoodIn wsX5_undo wsX0_bringBack := goodIn_r _ [7, 8, 9, 10, 11, 12, 6, 13, 14, 15, 16, 17, 18, 19, 20, 21, 22, 23, 24, 25, 32, 33, 34, 35] (by decide +kernel) (by decide +kernel)
set_option maxRecDepth 20000 in
theorem gX5_undo_X0_bringBack : GoodIn wsX5_undo (wsV RX5 132 RX0 yX0_bringBack wsX0_bringBack) := goodIn_app (goodIn_of _ (by decide +kernel)) ggX5_undo_X0_bringBack
theorem dX5_undo_0 : decode cX5_undo 0 = .ok (.aload_n 0, 1) := by decide +kernel
theorem dX5_undo_1 : decode cX5_undo 1 = .ok (.getfield 38, 3) := by decide +kernel
theorem dX5_undo_4 : decode cX5_undo 4 = .ok (.aload_n 0, 1) := by decide +kernel
theorem dX5_undo_5 : decode cX5_undo 5 = .ok (.getfield 10, 3) := by decide +kernel
theorem dX5_undo_8 : decode cX5_undo 8 = .ok (.invokevirtual 132, 3) := by decide +kernel
theorem dX5_undo_11 : decode cX5_undo 11 = .ok (.ireturn, 1) := by decide +kernel
set_option maxRecDepth 20000 in
theorem ggX5_type_X2_append : GoodIn wsX5_type wsX2_append := goodIn_r _ [6, 7, 8, 9, 10, 17, 18, 19, 20, 21, 22, 23] (by decide +kernel) (by decide +kernel)
set_option maxRecDepth 20000 in
theorem gX5_type_X2_append : GoodIn wsX5_type (wsV RX5 135 RX2 yX2_append wsX2_append) := goodIn_app (goodIn_of _ (by decide +kernel)) ggX5_type_X2_append
theorem dX5_type_0 : decode cX5_type 0 = .ok (.aload_n 0, 1) := by decide +kernel
theorem dX5_type_1 : decode cX5_type 1 = .ok (.getfield 45, 3) := by decide +kernel
theorem dX5_type_4 : decode cX5_type 4 = .ok (.iload_n 1, 1) := by decide +kernel
theorem dX5_type_5 : decode cX5_type 5 = .ok (.invokevirtual 135, 3) := by decide +kernel
theorem dX5_type_8 : decode cX5_type 8 = .ok (.ireturn, 1) := by decide +kernel
set_option maxRecDepth 20000 in
theorem ggX5_clearText_X2_empty : GoodIn wsX5_clearText wsX2_empty := goodIn_r _ [6, 7, 14, 15, 16, 17, 18, 19, 20] (by decide +kernel) (by decide +kernel)
set_option maxRecDepth 20000 in
theorem gX5_clearText_X2_empty : GoodIn wsX5_clearText (wsV RX5 138 RX2 yX2_empty wsX2_empty) := goodIn_app (goodIn_of _ (by decide +kernel)) ggX5_clearText_X2_empty
theorem dX5_clearText_0 : decode cX5_clearText 0 = .ok (.aload_n 0, 1) := by decide +kernel
theorem dX5_clearText_1 : decode cX5_clearText 1 = .ok (.getfield 45, 3) := by decide +kernel
theorem dX5_clearText_4 : decode cX5_clearText 4 = .ok (.invokevirtual 138, 3) := by decide +kernel
theorem dX5_clearText_7 : decode cX5_clearText 7 = .ok (.ireturn, 1) := by decide +kernel
set_option maxRecDepth 20000 in
theorem ggX5_fault_X3_copyFrom : GoodIn wsX5_fault wsX3_copyFrom := goodIn_r _ [10, 11, 12, 13, 14, 15, 169] (by decide +kernel) (by decide +kernel)
set_option maxRecDepth 20000 in
theorem gX5_fault_X3_copyFrom : GoodIn wsX5_fault (wsV RX5 141 RX3 yX3_copyFrom wsX3_copyFrom) := goodIn_app (goodIn_of _ (by decide +kernel)) ggX5_fault_X3_copyFrom
set_option maxRecDepth 20000 in
theorem ggX5_fault_X2_run : GoodIn wsX5_fault wsX2_run := goodIn_r _ [20, 21, 22, 23, 24, 25, 26, 19, 27, 28, 29, 30, 31, 32, 33, 34, 35, 36, 37, 38, 39, 40, 41, 42, 43, 44, 45, 46, 47, 48, 49, 50, 51, 52, 53, 9, 54, 55, 56, 57, 58, 59, 60, 61, 62, 63, 64, 11, 65, 66, 67, 68, 69, 70, 71, 72, 73, 74, 75, 76, 77, 78, 79, 80, 81, 82, 83, 84, 85, 86, 87, 88, 89, 90, 91, 92, 93, 94, 95, 96, 97, 98, 99, 100, 101, 102, 103, 104, 105, 106, 107, 108, 109, 110, 111, 112, 113, 114, 115, 116, 117, 118, 119, 120, 121, 122, 123, 124, 125, 126, 127, 128, 129, 130, 131, 132, 133, 134, 135, 136, 137, 138, 139, 140, 141, 142, 143, 144, 145, 146, 147, 148, 149, 150, 151, 152, 153, 154, 155, 156, 157, 158, 170, 171, 172, 173, 174, 175, 176, 169] (by decide +kernel) (by decide +kernel)
set_option maxRecDepth 20000 in
theorem gX5_fault_X2_run : GoodIn wsX5_fault (wsV RX5 144 RX2 yX2_run wsX2_run) := goodIn_app (goodIn_of _ (by decide +kernel)) ggX5_fault_X2_run
set_option maxRecDepth 20000 in
theorem ggX5_fault_X2_ofFault : GoodIn wsX5_fault wsX2_ofFault := goodIn_r _ [162, 48, 49, 50, 170, 171, 172, 173, 174, 175, 176] (by decide +kernel) (by decide +kernel)
set_option maxRecDepth 20000 in
theorem gX5_fault_X2_ofFault : GoodIn wsX5_fault (wsV RX5 147 RX2 yX2_ofFault wsX2_ofFault) := goodIn_app (goodIn_of _ (by decide +kernel)) ggX5_fault_X2_ofFault
theorem dX5_fault_0 : decode cX5_fault 0 = .ok (.iload_n 1, 1) := by decide +kernel
theorem dX5_fault_1 : decode cX5_fault 1 = .ok (.ifCond .lt 8, 3) := by decide +kernel
theorem dX5_fault_4 : decode cX5_fault 4 = .ok (.iload_n 1, 1) := by decide +kernel
theorem dX5_fault_5 : decode cX5_fault 5 = .ok (.iconst 2, 1) := by decide +kernel
theorem dX5_fault_6 : decode cX5_fault 6 = .ok (.if_icmp .le 6, 3) := by decide +kernel
theorem dX5_fault_9 : decode cX5_fault 9 = .ok (.ldc 98, 2) := by decide +kernel
theorem dX5_fault_11 : decode cX5_fault 11 = .ok (.ireturn, 1) := by decide +kernel
theorem dX5_fault_12 : decode cX5_fault 12 = .ok (.aload_n 0, 1) := by decide +kernel
theorem dX5_fault_13 : decode cX5_fault 13 = .ok (.getfield 16, 3) := by decide +kernel
theorem dX5_fault_16 : decode cX5_fault 16 = .ok (.aload_n 0, 1) := by decide +kernel
theorem dX5_fault_17 : decode cX5_fault 17 = .ok (.getfield 10, 3) := by decide +kernel
theorem dX5_fault_20 : decode cX5_fault 20 = .ok (.invokevirtual 141, 3) := by decide +kernel
theorem dX5_fault_23 : decode cX5_fault 23 = .ok (.aload_n 0, 1) := by decide +kernel
theorem dX5_fault_24 : decode cX5_fault 24 = .ok (.getfield 45, 3) := by decide +kernel
theorem dX5_fault_27 : decode cX5_fault 27 = .ok (.aload_n 0, 1) := by decide +kernel
theorem dX5_fault_28 : decode cX5_fault 28 = .ok (.getfield 16, 3) := by decide +kernel
theorem dX5_fault_31 : decode cX5_fault 31 = .ok (.invokevirtual 144, 3) := by decide +kernel
theorem dX5_fault_34 : decode cX5_fault 34 = .ok (.ifCond .ge 14, 3) := by decide +kernel
theorem dX5_fault_37 : decode cX5_fault 37 = .ok (.aload_n 0, 1) := by decide +kernel
theorem dX5_fault_38 : decode cX5_fault 38 = .ok (.getfield 45, 3) := by decide +kernel
theorem dX5_fault_41 : decode cX5_fault 41 = .ok (.iload_n 1, 1) := by decide +kernel
theorem dX5_fault_42 : decode cX5_fault 42 = .ok (.invokevirtual 147, 3) := by decide +kernel
theorem dX5_fault_45 : decode cX5_fault 45 = .ok (.goto 5, 3) := by decide +kernel
theorem dX5_fault_48 : decode cX5_fault 48 = .ok (.ldc 109, 2) := by decide +kernel
theorem dX5_fault_50 : decode cX5_fault 50 = .ok (.ireturn, 1) := by decide +kernel
set_option maxRecDepth 20000 in
theorem ggX5_play_X3_copyFrom : GoodIn wsX5_play wsX3_copyFrom := goodIn_r _ [10, 11, 12, 13, 14, 15, 182] (by decide +kernel) (by decide +kernel)
set_option maxRecDepth 20000 in
theorem gX5_play_X3_copyFrom : GoodIn wsX5_play (wsV RX5 141 RX3 yX3_copyFrom wsX3_copyFrom) := goodIn_app (goodIn_of _ (by decide +kernel)) ggX5_play_X3_copyFrom
set_option maxRecDepth 20000 in
theorem ggX5_play_X2_run : GoodIn wsX5_play wsX2_run := goodIn_r _ [20, 21, 22, 23, 24, 25, 26, 19, 27, 28, 29, 30, 31, 32, 33, 34, 35, 36, 37, 38, 39, 40, 41, 42, 43, 44, 45, 46, 47, 48, 49, 50, 51, 52, 53, 9, 54, 55, 56, 57, 58, 59, 60, 61, 62, 63, 64, 11, 65, 66, 67, 68, 69, 70, 71, 72, 73, 74, 75, 76, 77, 78, 79, 80, 81, 82, 83, 84, 85, 86, 87, 88, 89, 90, 91, 92, 93, 94, 95, 96, 97, 98, 99, 100, 101, 102, 103, 104, 105, 106, 107, 108, 109, 110, 111, 112, 113, 114, 115, 116, 117, 118, 119, 120, 121, 122, 123, 124, 125, 126, 127, 128, 129, 130, 131, 132, 133, 134, 135, 136, 137, 138, 139, 140, 141, 142, 143, 144, 145, 146, 147, 148, 149, 150, 151, 152, 153, 154, 155, 156, 157, 158, 183, 184, 185, 186, 187, 188, 189, 182] (by decide +kernel) (by decide +kernel)
set_option maxRecDepth 20000 in
theorem gX5_play_X2_run : GoodIn wsX5_play (wsV RX5 144 RX2 yX2_run wsX2_run) := goodIn_app (goodIn_of _ (by decide +kernel)) ggX5_play_X2_run
set_option maxRecDepth 20000 in
theorem ggX5_play_X0_note : GoodIn wsX5_play wsX0_note := goodIn_r _ [163, 164, 165, 166, 167, 162, 168, 169, 170, 171, 7, 8, 9, 10, 11, 12, 13, 14, 15, 190, 191, 192, 182] (by decide +kernel) (by decide +kernel)
set_option maxRecDepth 20000 in
theorem gX5_play_X0_note : GoodIn wsX5_play (wsV RX5 53 RX0 yX0_note wsX0_note) := goodIn_app (goodIn_of _ (by decide +kernel)) ggX5_play_X0_note
set_option maxRecDepth 20000 in
theorem ggX5_play_X0_keepUnlessError : GoodIn wsX5_play wsX0_keepUnlessError := goodIn_r _ [175, 164, 169, 190, 191, 192] (by decide +kernel) (by decide +kernel)
set_option maxRecDepth 20000 in
theorem gX5_play_X0_keepUnlessError : GoodIn wsX5_play (wsV RX5 56 RX0 yX0_keepUnlessError wsX0_keepUnlessError) := goodIn_app (goodIn_of _ (by decide +kernel)) ggX5_play_X0_keepUnlessError
theorem dX5_play_0 : decode cX5_play 0 = .ok (.aload_n 0, 1) := by decide +kernel
theorem dX5_play_1 : decode cX5_play 1 = .ok (.getfield 16, 3) := by decide +kernel
theorem dX5_play_4 : decode cX5_play 4 = .ok (.aload_n 0, 1) := by decide +kernel
theorem dX5_play_5 : decode cX5_play 5 = .ok (.getfield 10, 3) := by decide +kernel
theorem dX5_play_8 : decode cX5_play 8 = .ok (.invokevirtual 141, 3) := by decide +kernel
theorem dX5_play_11 : decode cX5_play 11 = .ok (.aload_n 0, 1) := by decide +kernel
theorem dX5_play_12 : decode cX5_play 12 = .ok (.getfield 45, 3) := by decide +kernel
theorem dX5_play_15 : decode cX5_play 15 = .ok (.aload_n 0, 1) := by decide +kernel
theorem dX5_play_16 : decode cX5_play 16 = .ok (.getfield 16, 3) := by decide +kernel
theorem dX5_play_19 : decode cX5_play 19 = .ok (.invokevirtual 144, 3) := by decide +kernel
theorem dX5_play_22 : decode cX5_play 22 = .ok (.istore_n 1, 1) := by decide +kernel
theorem dX5_play_23 : decode cX5_play 23 = .ok (.iload_n 1, 1) := by decide +kernel
theorem dX5_play_24 : decode cX5_play 24 = .ok (.ifCond .ge 6, 3) := by decide +kernel
theorem dX5_play_27 : decode cX5_play 27 = .ok (.ldc 150, 2) := by decide +kernel
theorem dX5_play_29 : decode cX5_play 29 = .ok (.ireturn, 1) := by decide +kernel
theorem dX5_play_30 : decode cX5_play 30 = .ok (.aload_n 0, 1) := by decide +kernel
theorem dX5_play_31 : decode cX5_play 31 = .ok (.getfield 38, 3) := by decide +kernel
theorem dX5_play_34 : decode cX5_play 34 = .ok (.aload_n 0, 1) := by decide +kernel
theorem dX5_play_35 : decode cX5_play 35 = .ok (.getfield 10, 3) := by decide +kernel
theorem dX5_play_38 : decode cX5_play 38 = .ok (.invokevirtual 53, 3) := by decide +kernel
theorem dX5_play_41 : decode cX5_play 41 = .ok (.aload_n 0, 1) := by decide +kernel
theorem dX5_play_42 : decode cX5_play 42 = .ok (.getfield 10, 3) := by decide +kernel
theorem dX5_play_45 : decode cX5_play 45 = .ok (.aload_n 0, 1) := by decide +kernel
theorem dX5_play_46 : decode cX5_play 46 = .ok (.getfield 16, 3) := by decide +kernel
theorem dX5_play_49 : decode cX5_play 49 = .ok (.invokevirtual 141, 3) := by decide +kernel
theorem dX5_play_52 : decode cX5_play 52 = .ok (.aload_n 0, 1) := by decide +kernel
theorem dX5_play_53 : decode cX5_play 53 = .ok (.getfield 38, 3) := by decide +kernel
theorem dX5_play_56 : decode cX5_play 56 = .ok (.iload_n 1, 1) := by decide +kernel
theorem dX5_play_57 : decode cX5_play 57 = .ok (.invokevirtual 56, 3) := by decide +kernel
theorem dX5_play_60 : decode cX5_play 60 = .ok (.ireturn, 1) := by decide +kernel
set_option maxRecDepth 20000 in
theorem ggX6_init_X6_goBegin : GoodIn wsX6_init wsX6_goBegin := goodIn_r _ [16, 5, 17, 18, 19, 15, 20, 21, 22, 23, 24, 25, 26, 27, 28, 29, 30, 31, 32, 33, 34, 35, 36, 37, 38, 39, 40, 41, 42, 43, 44, 45, 46, 47, 48, 49, 50, 51, 52, 53, 54, 55, 56, 57, 58, 59, 60, 61, 62, 63, 64, 65, 66, 67, 68, 69, 70, 71, 72, 73, 74, 75, 76, 77, 78, 79, 80, 81, 82, 83, 84, 85, 86, 87] (by decide +kernel) (by decide +kernel)
set_option maxRecDepth 20000 in
theorem gX6_init_X6_goBegin : GoodIn wsX6_init (wsV RX6 31 RX6 yX6_goBegin wsX6_goBegin) := goodIn_app (goodIn_of _ (by decide +kernel)) ggX6_init_X6_goBegin
theorem dX6_init_0 : decode cX6_init 0 = .ok (.aload_n 0, 1) := by decide +kernel
theorem dX6_init_1 : decode cX6_init 1 = .ok (.invokespecial 1, 3) := by decide +kernel
theorem dX6_init_4 : decode cX6_init 4 = .ok (.aload_n 0, 1) := by decide +kernel
theorem dX6_init_5 : decode cX6_init 5 = .ok (.sipush 703, 3) := by decide +kernel
theorem dX6_init_8 : decode cX6_init 8 = .ok (.newarray .int, 2) := by decide +kernel
theorem dX6_init_10 : decode cX6_init 10 = .ok (.putfield 7, 3) := by decide +kernel
theorem dX6_init_13 : decode cX6_init 13 = .ok (.aload_n 0, 1) := by decide +kernel
theorem dX6_init_14 : decode cX6_init 14 = .ok (.sipush 703, 3) := by decide +kernel
theorem dX6_init_17 : decode cX6_init 17 = .ok (.newarray .int, 2) := by decide +kernel
theorem dX6_init_19 : decode cX6_init 19 = .ok (.putfield 13, 3) := by decide +kernel
theorem dX6_init_22 : decode cX6_init 22 = .ok (.aload_n 0, 1) := by decide +kernel
theorem dX6_init_23 : decode cX6_init 23 = .ok (.sipush 703, 3) := by decide +kernel
theorem dX6_init_26 : decode cX6_init 26 = .ok (.newarray .int, 2) := by decide +kernel
theorem dX6_init_28 : decode cX6_init 28 = .ok (.putfield 16, 3) := by decide +kernel
theorem dX6_init_31 : decode cX6_init 31 = .ok (.aload_n 0, 1) := by decide +kernel
theorem dX6_init_32 : decode cX6_init 32 = .ok (.sipush 2812, 3) := by decide +kernel
theorem dX6_init_35 : decode cX6_init 35 = .ok (.newarray .int, 2) := by decide +kernel
theorem dX6_init_37 : decode cX6_init 37 = .ok (.putfield 19, 3) := by decide +kernel
theorem dX6_init_40 : decode cX6_init 40 = .ok (.aload_n 0, 1) := by decide +kernel
theorem dX6_init_41 : decode cX6_init 41 = .ok (.bipush 60, 2) := by decide +kernel
theorem dX6_init_43 : decode cX6_init 43 = .ok (.newarray .int, 2) := by decide +kernel
theorem dX6_init_45 : decode cX6_init 45 = .ok (.putfield 22, 3) := by decide +kernel
theorem dX6_init_48 : decode cX6_init 48 = .ok (.aload_n 0, 1) := by decide +kernel
theorem dX6_init_49 : decode cX6_init 49 = .ok (.iconst 4, 1) := by decide +kernel
theorem dX6_init_50 : decode cX6_init 50 = .ok (.newarray .int, 2) := by decide +kernel
theorem dX6_init_52 : decode cX6_init 52 = .ok (.putfield 25, 3) := by decide +kernel
theorem dX6_init_55 : decode cX6_init 55 = .ok (.aload_n 0, 1) := by decide +kernel
theorem dX6_init_56 : decode cX6_init 56 = .ok (.iconst 3, 1) := by decide +kernel
theorem dX6_init_57 : decode cX6_init 57 = .ok (.newarray .int, 2) := by decide +kernel
theorem dX6_init_59 : decode cX6_init 59 = .ok (.putfield 28, 3) := by decide +kernel
theorem dX6_init_62 : decode cX6_init 62 = .ok (.aload_n 0, 1) := by decide +kernel
theorem dX6_init_63 : decode cX6_init 63 = .ok (.getfield 7, 3) := by decide +kernel
theorem dX6_init_66 : decode cX6_init 66 = .ok (.iconst 2, 1) := by decide +kernel
theorem dX6_init_67 : decode cX6_init 67 = .ok (.bipush 8, 2) := by decide +kernel
theorem dX6_init_69 : decode cX6_init 69 = .ok (.iastore, 1) := by decide +kernel
theorem dX6_init_70 : decode cX6_init 70 = .ok (.aload_n 0, 1) := by decide +kernel
theorem dX6_init_71 : decode cX6_init 71 = .ok (.getfield 7, 3) := by decide +kernel
theorem dX6_init_74 : decode cX6_init 74 = .ok (.iconst 3, 1) := by decide +kernel
theorem dX6_init_75 : decode cX6_init 75 = .ok (.bipush 20, 2) := by decide +kernel
theorem dX6_init_77 : decode cX6_init 77 = .ok (.iastore, 1) := by decide +kernel
theorem dX6_init_78 : decode cX6_init 78 = .ok (.aload_n 0, 1) := by decide +kernel
theorem dX6_init_79 : decode cX6_init 79 = .ok (.iconst 5, 1) := by decide +kernel
theorem dX6_init_80 : decode cX6_init 80 = .ok (.invokevirtual 31, 3) := by decide +kernel
theorem dX6_init_83 : decode cX6_init 83 = .ok (.pop, 1) := by decide +kernel
theorem dX6_init_84 : decode cX6_init 84 = .ok (.return_, 1) := by decide +kernel
theorem dX6_in_0 : decode cX6_in 0 = .ok (.iload_n 0, 1) := by decide +kernel
theorem dX6_in_1 : decode cX6_in 1 = .ok (.iload_n 1, 1) := by decide +kernel
theorem dX6_in_2 : decode cX6_in 2 = .ok (.if_icmp .lt 12, 3) := by decide +kernel
theorem dX6_in_5 : decode cX6_in 5 = .ok (.iload_n 0, 1) := by decide +kernel
theorem dX6_in_6 : decode cX6_in 6 = .ok (.iload_n 2, 1) := by decide +kernel
theorem dX6_in_7 : decode cX6_in 7 = .ok (.if_icmp .gt 7, 3) := by decide +kernel
theorem dX6_in_10 : decode cX6_in 10 = .ok (.iconst 1, 1) := by decide +kernel
theorem dX6_in_11 : decode cX6_in 11 = .ok (.goto 4, 3) := by decide +kernel
theorem dX6_in_14 : decode cX6_in 14 = .ok (.iconst 0, 1) := by decide +kernel
theorem dX6_in_15 : decode cX6_in 15 = .ok (.ireturn, 1) := by decide +kernel
theorem dX6_copies_0 : decode cX6_copies 0 = .ok (.iconst 0, 1) := by decide +kernel
theorem dX6_copies_1 : decode cX6_copies 1 = .ok (.istore 4, 2) := by decide +kernel
theorem dX6_copies_3 : decode cX6_copies 3 = .ok (.iload 4, 2) := by decide +kernel
theorem dX6_copies_5 : decode cX6_copies 5 = .ok (.sipush 703, 3) := by decide +kernel
theorem dX6_copies_8 : decode cX6_copies 8 = .ok (.if_icmp .ge 21, 3) := by decide +kernel
theorem dX6_copies_11 : decode cX6_copies 11 = .ok (.aload_n 2, 1) := by decide +kernel
theorem dX6_copies_12 : decode cX6_copies 12 = .ok (.iload_n 3, 1) := by decide +kernel
theorem dX6_copies_13 : decode cX6_copies 13 = .ok (.iload 4, 2) := by decide +kernel
theorem dX6_copies_15 : decode cX6_copies 15 = .ok (.iadd, 1) := by decide +kernel
theorem dX6_copies_16 : decode cX6_copies 16 = .ok (.aload_n 0, 1) := by decide +kernel
theorem dX6_copies_17 : decode cX6_copies 17 = .ok (.iload_n 1, 1) := by decide +kernel
theorem dX6_copies_18 : decode cX6_copies 18 = .ok (.iload 4, 2) := by decide +kernel
theorem dX6_copies_20 : decode cX6_copies 20 = .ok (.iadd, 1) := by decide +kernel
theorem dX6_copies_21 : decode cX6_copies 21 = .ok (.iaload, 1) := by decide +kernel
theorem dX6_copies_22 : decode cX6_copies 22 = .ok (.iastore, 1) := by decide +kernel
theorem dX6_copies_23 : decode cX6_copies 23 = .ok (.iinc 4 1, 3) := by decide +kernel
theorem dX6_copies_26 : decode cX6_copies 26 = .ok (.goto (-23), 3) := by decide +kernel
theorem dX6_copies_29 : decode cX6_copies 29 = .ok (.return_, 1) := by decide +kernel
set_option maxRecDepth 20000 in
theorem ggX6_records_X6_copies : GoodIn wsX6_records wsX6_copies := goodIn_r _ [7] (by decide +kernel) (by decide +kernel)
set_option maxRecDepth 20000 in
theorem gX6_records_X6_copies : GoodIn wsX6_records (va_wsS RX6 39 yX6_copies wsX6_copies) := goodIn_app (goodIn_of _ (by decide +kernel)) ggX6_records_X6_copies
theorem dX6_records_0 : decode cX6_records 0 = .ok (.aload_n 0, 1) := by decide +kernel
theorem dX6_records_1 : decode cX6_records 1 = .ok (.getfield 35, 3) := by decide +kernel
theorem dX6_records_4 : decode cX6_records 4 = .ok (.iconst 4, 1) := by decide +kernel
theorem dX6_records_5 : decode cX6_records 5 = .ok (.if_icmp .ne 44, 3) := by decide +kernel
theorem dX6_records_8 : decode cX6_records 8 = .ok (.iconst 0, 1) := by decide +kernel
theorem dX6_records_9 : decode cX6_records 9 = .ok (.istore_n 1, 1) := by decide +kernel
theorem dX6_records_10 : decode cX6_records 10 = .ok (.iload_n 1, 1) := by decide +kernel
theorem dX6_records_11 : decode cX6_records 11 = .ok (.sipush 2109, 3) := by decide +kernel
theorem dX6_records_14 : decode cX6_records 14 = .ok (.if_icmp .ge 25, 3) := by decide +kernel
theorem dX6_records_17 : decode cX6_records 17 = .ok (.aload_n 0, 1) := by decide +kernel
theorem dX6_records_18 : decode cX6_records 18 = .ok (.getfield 19, 3) := by decide +kernel
theorem dX6_records_21 : decode cX6_records 21 = .ok (.iload_n 1, 1) := by decide +kernel
theorem dX6_records_22 : decode cX6_records 22 = .ok (.aload_n 0, 1) := by decide +kernel
theorem dX6_records_23 : decode cX6_records 23 = .ok (.getfield 19, 3) := by decide +kernel
theorem dX6_records_26 : decode cX6_records 26 = .ok (.iload_n 1, 1) := by decide +kernel
theorem dX6_records_27 : decode cX6_records 27 = .ok (.sipush 703, 3) := by decide +kernel
theorem dX6_records_30 : decode cX6_records 30 = .ok (.iadd, 1) := by decide +kernel
theorem dX6_records_31 : decode cX6_records 31 = .ok (.iaload, 1) := by decide +kernel
theorem dX6_records_32 : decode cX6_records 32 = .ok (.iastore, 1) := by decide +kernel
theorem dX6_records_33 : decode cX6_records 33 = .ok (.iinc 1 1, 3) := by decide +kernel
theorem dX6_records_36 : decode cX6_records 36 = .ok (.goto (-26), 3) := by decide +kernel
theorem dX6_records_39 : decode cX6_records 39 = .ok (.aload_n 0, 1) := by decide +kernel
theorem dX6_records_40 : decode cX6_records 40 = .ok (.dup, 1) := by decide +kernel
theorem dX6_records_41 : decode cX6_records 41 = .ok (.getfield 35, 3) := by decide +kernel
theorem dX6_records_44 : decode cX6_records 44 = .ok (.iconst 1, 1) := by decide +kernel
theorem dX6_records_45 : decode cX6_records 45 = .ok (.isub, 1) := by decide +kernel
theorem dX6_records_46 : decode cX6_records 46 = .ok (.putfield 35, 3) := by decide +kernel
theorem dX6_records_49 : decode cX6_records 49 = .ok (.aload_n 0, 1) := by decide +kernel
theorem dX6_records_50 : decode cX6_records 50 = .ok (.getfield 7, 3) := by decide +kernel
theorem dX6_records_53 : decode cX6_records 53 = .ok (.iconst 0, 1) := by decide +kernel
theorem dX6_records_54 : decode cX6_records 54 = .ok (.aload_n 0, 1) := by decide +kernel
theorem dX6_records_55 : decode cX6_records 55 = .ok (.getfield 19, 3) := by decide +kernel
theorem dX6_records_58 : decode cX6_records 58 = .ok (.sipush 703, 3) := by decide +kernel
theorem dX6_records_61 : decode cX6_records 61 = .ok (.aload_n 0, 1) := by decide +kernel
theorem dX6_records_62 : decode cX6_records 62 = .ok (.getfield 35, 3) := by decide +kernel
theorem dX6_records_65 : decode cX6_records 65 = .ok (.imul, 1) := by decide +kernel
theorem dX6_records_66 : decode cX6_records 66 = .ok (.invokestatic 39, 3) := by decide +kernel
theorem dX6_records_69 : decode cX6_records 69 = .ok (.aload_n 0, 1) := by decide +kernel
theorem dX6_records_70 : decode cX6_records 70 = .ok (.dup, 1) := by decide +kernel
theorem dX6_records_71 : decode cX6_records 71 = .ok (.getfield 35, 3) := by decide +kernel
theorem dX6_records_74 : decode cX6_records 74 = .ok (.iconst 1, 1) := by decide +kernel
theorem dX6_records_75 : decode cX6_records 75 = .ok (.iadd, 1) := by decide +kernel
theorem dX6_records_76 : decode cX6_records 76 = .ok (.putfield 35, 3) := by decide +kernel
theorem dX6_records_79 : decode cX6_records 79 = .ok (.return_, 1) := by decide +kernel
set_option maxRecDepth 20000 in
theorem ggX6_isRow_X6_in : GoodIn wsX6_isRow wsX6_in := goodIn_r _ [5] (by decide +kernel) (by decide +kernel)
set_option maxRecDepth 20000 in
theorem gX6_isRow_X6_in : GoodIn wsX6_isRow (va_wsS RX6 43 yX6_in wsX6_in) := goodIn_app (goodIn_of _ (by decide +kernel)) ggX6_isRow_X6_in
theorem dX6_isRow_0 : decode cX6_isRow 0 = .ok (.iload_n 1, 1) := by decide +kernel
theorem dX6_isRow_1 : decode cX6_isRow 1 = .ok (.iconst 0, 1) := by decide +kernel
theorem dX6_isRow_2 : decode cX6_isRow 2 = .ok (.aload_n 0, 1) := by decide +kernel
theorem dX6_isRow_3 : decode cX6_isRow 3 = .ok (.getfield 7, 3) := by decide +kernel
theorem dX6_isRow_6 : decode cX6_isRow 6 = .ok (.iconst 0, 1) := by decide +kernel
theorem dX6_isRow_7 : decode cX6_isRow 7 = .ok (.iaload, 1) := by decide +kernel
theorem dX6_isRow_8 : decode cX6_isRow 8 = .ok (.iconst 1, 1) := by decide +kernel
theorem dX6_isRow_9 : decode cX6_isRow 9 = .ok (.isub, 1) := by decide +kernel
theorem dX6_isRow_10 : decode cX6_isRow 10 = .ok (.invokestatic 43, 3) := by decide +kernel
theorem dX6_isRow_13 : decode cX6_isRow 13 = .ok (.ireturn, 1) := by decide +kernel
set_option maxRecDepth 20000 in
theorem ggX6_isCell_X6_in : GoodIn wsX6_isCell wsX6_in := goodIn_r _ [4] (by decide +kernel) (by decide +kernel)
set_option maxRecDepth 20000 in
theorem gX6_isCell_X6_in : GoodIn wsX6_isCell (va_wsS RX6 43 yX6_in wsX6_in) := goodIn_app (goodIn_of _ (by decide +kernel)) ggX6_isCell_X6_in
theorem dX6_isCell_0 : decode cX6_isCell 0 = .ok (.iload_n 0, 1) := by decide +kernel
theorem dX6_isCell_1 : decode cX6_isCell 1 = .ok (.iconst 0, 1) := by decide +kernel
theorem dX6_isCell_2 : decode cX6_isCell 2 = .ok (.bipush 7, 2) := by decide +kernel
theorem dX6_isCell_4 : decode cX6_isCell 4 = .ok (.invokestatic 43, 3) := by decide +kernel
theorem dX6_isCell_7 : decode cX6_isCell 7 = .ok (.ireturn, 1) := by decide +kernel
theorem dX6_of_0 : decode cX6_of 0 = .ok (.aload_n 0, 1) := by decide +kernel
theorem dX6_of_1 : decode cX6_of 1 = .ok (.getfield 7, 3) := by decide +kernel
theorem dX6_of_4 : decode cX6_of 4 = .ok (.bipush 10, 2) := by decide +kernel
theorem dX6_of_6 : decode cX6_of 6 = .ok (.bipush 77, 2) := by decide +kernel
theorem dX6_of_8 : decode cX6_of 8 = .ok (.iload_n 1, 1) := by decide +kernel
theorem dX6_of_9 : decode cX6_of 9 = .ok (.imul, 1) := by decide +kernel
theorem dX6_of_10 : decode cX6_of 10 = .ok (.iadd, 1) := by decide +kernel
theorem dX6_of_11 : decode cX6_of 11 = .ok (.iload_n 2, 1) := by decide +kernel
theorem dX6_of_12 : decode cX6_of 12 = .ok (.iadd, 1) := by decide +kernel
theorem dX6_of_13 : decode cX6_of 13 = .ok (.iaload, 1) := by decide +kernel
theorem dX6_of_14 : decode cX6_of 14 = .ok (.ireturn, 1) := by decide +kernel
theorem dX6_lays_0 : decode cX6_lays 0 = .ok (.aload_n 0, 1) := by decide +kernel
theorem dX6_lays_1 : decode cX6_lays 1 = .ok (.getfield 7, 3) := by decide +kernel
theorem dX6_lays_4 : decode cX6_lays 4 = .ok (.bipush 10, 2) := by decide +kernel
theorem dX6_lays_6 : decode cX6_lays 6 = .ok (.bipush 77, 2) := by decide +kernel
theorem dX6_lays_8 : decode cX6_lays 8 = .ok (.iload_n 1, 1) := by decide +kernel
theorem dX6_lays_9 : decode cX6_lays 9 = .ok (.imul, 1) := by decide +kernel
theorem dX6_lays_10 : decode cX6_lays 10 = .ok (.iadd, 1) := by decide +kernel
theorem dX6_lays_11 : decode cX6_lays 11 = .ok (.iload_n 2, 1) := by decide +kernel
theorem dX6_lays_12 : decode cX6_lays 12 = .ok (.iadd, 1) := by decide +kernel
theorem dX6_lays_13 : decode cX6_lays 13 = .ok (.iload_n 3, 1) := by decide +kernel
theorem dX6_lays_14 : decode cX6_lays 14 = .ok (.iastore, 1) := by decide +kernel
theorem dX6_lays_15 : decode cX6_lays 15 = .ok (.return_, 1) := by decide +kernel
theorem dX6_adds_0 : decode cX6_adds 0 = .ok (.aload_n 0, 1) := by decide +kernel
theorem dX6_adds_1 : decode cX6_adds 1 = .ok (.getfield 7, 3) := by decide +kernel
theorem dX6_adds_4 : decode cX6_adds 4 = .ok (.bipush 10, 2) := by decide +kernel
theorem dX6_adds_6 : decode cX6_adds 6 = .ok (.bipush 77, 2) := by decide +kernel
theorem dX6_adds_8 : decode cX6_adds 8 = .ok (.iload_n 1, 1) := by decide +kernel
theorem dX6_adds_9 : decode cX6_adds 9 = .ok (.imul, 1) := by decide +kernel
theorem dX6_adds_10 : decode cX6_adds 10 = .ok (.iadd, 1) := by decide +kernel
theorem dX6_adds_11 : decode cX6_adds 11 = .ok (.iload_n 2, 1) := by decide +kernel
theorem dX6_adds_12 : decode cX6_adds 12 = .ok (.iadd, 1) := by decide +kernel
theorem dX6_adds_13 : decode cX6_adds 13 = .ok (.dup2, 1) := by decide +kernel
theorem dX6_adds_14 : decode cX6_adds 14 = .ok (.iaload, 1) := by decide +kernel
theorem dX6_adds_15 : decode cX6_adds 15 = .ok (.iconst 1, 1) := by decide +kernel
theorem dX6_adds_16 : decode cX6_adds 16 = .ok (.iadd, 1) := by decide +kernel
theorem dX6_adds_17 : decode cX6_adds 17 = .ok (.iastore, 1) := by decide +kernel
theorem dX6_adds_18 : decode cX6_adds 18 = .ok (.return_, 1) := by decide +kernel
set_option maxRecDepth 20000 in
theorem ggX6_lives_X6_of : GoodIn wsX6_lives wsX6_of := goodIn_r _ [5, 6, 7, 8, 9, 10, 11, 12, 13, 14, 15, 16, 17, 18, 19, 20, 21, 22, 23, 24] (by decide +kernel) (by decide +kernel)
set_option maxRecDepth 20000 in
theorem gX6_lives_X6_of : GoodIn wsX6_lives (wsV RX6 47 RX6 yX6_of wsX6_of) := goodIn_app (goodIn_of _ (by decide +kernel)) ggX6_lives_X6_of
theorem dX6_lives_0 : decode cX6_lives 0 = .ok (.aload_n 0, 1) := by decide +kernel
theorem dX6_lives_1 : decode cX6_lives 1 = .ok (.iload_n 1, 1) := by decide +kernel
theorem dX6_lives_2 : decode cX6_lives 2 = .ok (.iconst 1, 1) := by decide +kernel
theorem dX6_lives_3 : decode cX6_lives 3 = .ok (.invokevirtual 47, 3) := by decide +kernel
theorem dX6_lives_6 : decode cX6_lives 6 = .ok (.iconst 1, 1) := by decide +kernel
theorem dX6_lives_7 : decode cX6_lives 7 = .ok (.if_icmp .ne 7, 3) := by decide +kernel
theorem dX6_lives_10 : decode cX6_lives 10 = .ok (.iconst 1, 1) := by decide +kernel
theorem dX6_lives_11 : decode cX6_lives 11 = .ok (.goto 4, 3) := by decide +kernel
theorem dX6_lives_14 : decode cX6_lives 14 = .ok (.iconst 0, 1) := by decide +kernel
theorem dX6_lives_15 : decode cX6_lives 15 = .ok (.ireturn, 1) := by decide +kernel
set_option maxRecDepth 20000 in
theorem ggX6_rowAt_X6_of : GoodIn wsX6_rowAt wsX6_of := goodIn_r _ [7, 2, 8, 9, 10, 11, 12, 13, 14, 15, 16, 17, 18, 19, 20, 21, 22, 23, 24, 25] (by decide +kernel) (by decide +kernel)
set_option maxRecDepth 20000 in
theorem gX6_rowAt_X6_of : GoodIn wsX6_rowAt (wsV RX6 47 RX6 yX6_of wsX6_of) := goodIn_app (goodIn_of _ (by decide +kernel)) ggX6_rowAt_X6_of
theorem dX6_rowAt_0 : decode cX6_rowAt 0 = .ok (.ldc 51, 2) := by decide +kernel
theorem dX6_rowAt_2 : decode cX6_rowAt 2 = .ok (.istore_n 2, 1) := by decide +kernel
theorem dX6_rowAt_3 : decode cX6_rowAt 3 = .ok (.iconst 0, 1) := by decide +kernel
theorem dX6_rowAt_4 : decode cX6_rowAt 4 = .ok (.istore_n 3, 1) := by decide +kernel
theorem dX6_rowAt_5 : decode cX6_rowAt 5 = .ok (.iload_n 3, 1) := by decide +kernel
theorem dX6_rowAt_6 : decode cX6_rowAt 6 = .ok (.aload_n 0, 1) := by decide +kernel
theorem dX6_rowAt_7 : decode cX6_rowAt 7 = .ok (.getfield 7, 3) := by decide +kernel
theorem dX6_rowAt_10 : decode cX6_rowAt 10 = .ok (.iconst 0, 1) := by decide +kernel
theorem dX6_rowAt_11 : decode cX6_rowAt 11 = .ok (.iaload, 1) := by decide +kernel
theorem dX6_rowAt_12 : decode cX6_rowAt 12 = .ok (.if_icmp .ge 25, 3) := by decide +kernel
theorem dX6_rowAt_15 : decode cX6_rowAt 15 = .ok (.aload_n 0, 1) := by decide +kernel
theorem dX6_rowAt_16 : decode cX6_rowAt 16 = .ok (.iload_n 3, 1) := by decide +kernel
theorem dX6_rowAt_17 : decode cX6_rowAt 17 = .ok (.iconst 0, 1) := by decide +kernel
theorem dX6_rowAt_18 : decode cX6_rowAt 18 = .ok (.invokevirtual 47, 3) := by decide +kernel
theorem dX6_rowAt_21 : decode cX6_rowAt 21 = .ok (.iload_n 1, 1) := by decide +kernel
theorem dX6_rowAt_22 : decode cX6_rowAt 22 = .ok (.if_icmp .ne 7, 3) := by decide +kernel
theorem dX6_rowAt_25 : decode cX6_rowAt 25 = .ok (.iload_n 3, 1) := by decide +kernel
theorem dX6_rowAt_26 : decode cX6_rowAt 26 = .ok (.goto 4, 3) := by decide +kernel
theorem dX6_rowAt_29 : decode cX6_rowAt 29 = .ok (.iload_n 2, 1) := by decide +kernel
theorem dX6_rowAt_30 : decode cX6_rowAt 30 = .ok (.istore_n 2, 1) := by decide +kernel
theorem dX6_rowAt_31 : decode cX6_rowAt 31 = .ok (.iinc 3 1, 3) := by decide +kernel
theorem dX6_rowAt_34 : decode cX6_rowAt 34 = .ok (.goto (-29), 3) := by decide +kernel
theorem dX6_rowAt_37 : decode cX6_rowAt 37 = .ok (.iload_n 2, 1) := by decide +kernel
theorem dX6_rowAt_38 : decode cX6_rowAt 38 = .ok (.ireturn, 1) := by decide +kernel
set_option maxRecDepth 20000 in
theorem ggX6_upper_X6_of : GoodIn wsX6_upper wsX6_of := goodIn_r _ [6, 1, 12, 13, 14, 15, 16, 17, 18, 19, 20, 21, 22, 23, 24, 25, 26, 27, 28, 29] (by decide +kernel) (by decide +kernel)
set_option maxRecDepth 20000 in
theorem gX6_upper_X6_of : GoodIn wsX6_upper (wsV RX6 47 RX6 yX6_of wsX6_of) := goodIn_app (goodIn_of _ (by decide +kernel)) ggX6_upper_X6_of
set_option maxRecDepth 20000 in
theorem ggX6_upper_X6_rowAt : GoodIn wsX6_upper wsX6_rowAt := goodIn_r _ [10, 11, 1, 2, 3, 4, 5, 6, 12, 13, 14, 15, 16, 17, 18, 19, 20, 21, 22, 23, 24, 25, 26, 27, 28, 29] (by decide +kernel) (by decide +kernel)
set_option maxRecDepth 20000 in
theorem gX6_upper_X6_rowAt : GoodIn wsX6_upper (wsV RX6 52 RX6 yX6_rowAt wsX6_rowAt) := goodIn_app (goodIn_of _ (by decide +kernel)) ggX6_upper_X6_rowAt
theorem dX6_upper_0 : decode cX6_upper 0 = .ok (.aload_n 0, 1) := by decide +kernel
theorem dX6_upper_1 : decode cX6_upper 1 = .ok (.aload_n 0, 1) := by decide +kernel
theorem dX6_upper_2 : decode cX6_upper 2 = .ok (.iload_n 1, 1) := by decide +kernel
theorem dX6_upper_3 : decode cX6_upper 3 = .ok (.iconst 0, 1) := by decide +kernel
theorem dX6_upper_4 : decode cX6_upper 4 = .ok (.invokevirtual 47, 3) := by decide +kernel
theorem dX6_upper_7 : decode cX6_upper 7 = .ok (.aload_n 0, 1) := by decide +kernel
theorem dX6_upper_8 : decode cX6_upper 8 = .ok (.getfield 7, 3) := by decide +kernel
theorem dX6_upper_11 : decode cX6_upper 11 = .ok (.iconst 0, 1) := by decide +kernel
theorem dX6_upper_12 : decode cX6_upper 12 = .ok (.iaload, 1) := by decide +kernel
theorem dX6_upper_13 : decode cX6_upper 13 = .ok (.iadd, 1) := by decide +kernel
theorem dX6_upper_14 : decode cX6_upper 14 = .ok (.iconst 1, 1) := by decide +kernel
theorem dX6_upper_15 : decode cX6_upper 15 = .ok (.isub, 1) := by decide +kernel
theorem dX6_upper_16 : decode cX6_upper 16 = .ok (.aload_n 0, 1) := by decide +kernel
theorem dX6_upper_17 : decode cX6_upper 17 = .ok (.getfield 7, 3) := by decide +kernel
theorem dX6_upper_20 : decode cX6_upper 20 = .ok (.iconst 0, 1) := by decide +kernel
theorem dX6_upper_21 : decode cX6_upper 21 = .ok (.iaload, 1) := by decide +kernel
theorem dX6_upper_22 : decode cX6_upper 22 = .ok (.irem, 1) := by decide +kernel
theorem dX6_upper_23 : decode cX6_upper 23 = .ok (.invokevirtual 52, 3) := by decide +kernel
theorem dX6_upper_26 : decode cX6_upper 26 = .ok (.ireturn, 1) := by decide +kernel
set_option maxRecDepth 20000 in
theorem ggX6_lower_X6_of : GoodIn wsX6_lower wsX6_of := goodIn_r _ [6, 1, 12, 13, 14, 15, 16, 17, 18, 19, 20, 21, 22, 23, 24, 25, 26, 27, 28, 29] (by decide +kernel) (by decide +kernel)
set_option maxRecDepth 20000 in
theorem gX6_lower_X6_of : GoodIn wsX6_lower (wsV RX6 47 RX6 yX6_of wsX6_of) := goodIn_app (goodIn_of _ (by decide +kernel)) ggX6_lower_X6_of
set_option maxRecDepth 20000 in
theorem ggX6_lower_X6_rowAt : GoodIn wsX6_lower wsX6_rowAt := goodIn_r _ [10, 11, 1, 2, 3, 4, 5, 6, 12, 13, 14, 15, 16, 17, 18, 19, 20, 21, 22, 23, 24, 25, 26, 27, 28, 29] (by decide +kernel) (by decide +kernel)
set_option maxRecDepth 20000 in
theorem gX6_lower_X6_rowAt : GoodIn wsX6_lower (wsV RX6 52 RX6 yX6_rowAt wsX6_rowAt) := goodIn_app (goodIn_of _ (by decide +kernel)) ggX6_lower_X6_rowAt
theorem dX6_lower_0 : decode cX6_lower 0 = .ok (.aload_n 0, 1) := by decide +kernel
theorem dX6_lower_1 : decode cX6_lower 1 = .ok (.aload_n 0, 1) := by decide +kernel
theorem dX6_lower_2 : decode cX6_lower 2 = .ok (.iload_n 1, 1) := by decide +kernel
theorem dX6_lower_3 : decode cX6_lower 3 = .ok (.iconst 0, 1) := by decide +kernel
theorem dX6_lower_4 : decode cX6_lower 4 = .ok (.invokevirtual 47, 3) := by decide +kernel
theorem dX6_lower_7 : decode cX6_lower 7 = .ok (.iconst 1, 1) := by decide +kernel
theorem dX6_lower_8 : decode cX6_lower 8 = .ok (.iadd, 1) := by decide +kernel
theorem dX6_lower_9 : decode cX6_lower 9 = .ok (.aload_n 0, 1) := by decide +kernel
theorem dX6_lower_10 : decode cX6_lower 10 = .ok (.getfield 7, 3) := by decide +kernel
theorem dX6_lower_13 : decode cX6_lower 13 = .ok (.iconst 0, 1) := by decide +kernel
theorem dX6_lower_14 : decode cX6_lower 14 = .ok (.iaload, 1) := by decide +kernel
theorem dX6_lower_15 : decode cX6_lower 15 = .ok (.irem, 1) := by decide +kernel
theorem dX6_lower_16 : decode cX6_lower 16 = .ok (.invokevirtual 52, 3) := by decide +kernel
theorem dX6_lower_19 : decode cX6_lower 19 = .ok (.ireturn, 1) := by decide +kernel
set_option maxRecDepth 20000 in
theorem ggX6_bearer_X6_upper : GoodIn wsX6_bearer wsX6_upper := goodIn_r _ [5, 6, 7, 8, 9, 4, 10, 11, 12, 13, 14, 15, 20, 21, 22, 23, 24, 25, 26, 27, 28, 29, 30, 31, 32, 33, 34, 35, 36, 37] (by decide +kernel) (by decide +kernel)
set_option maxRecDepth 20000 in
theorem gX6_bearer_X6_upper : GoodIn wsX6_bearer (wsV RX6 55 RX6 yX6_upper wsX6_upper) := goodIn_app (goodIn_of _ (by decide +kernel)) ggX6_bearer_X6_upper
set_option maxRecDepth 20000 in
theorem ggX6_bearer_X6_lower : GoodIn wsX6_bearer wsX6_lower := goodIn_r _ [19, 6, 7, 8, 9, 4, 10, 11, 12, 13, 14, 15, 20, 21, 22, 23, 24, 25, 26, 27, 28, 29, 30, 31, 32, 33, 34, 35, 36, 37] (by decide +kernel) (by decide +kernel)
set_option maxRecDepth 20000 in
theorem gX6_bearer_X6_lower : GoodIn wsX6_bearer (wsV RX6 58 RX6 yX6_lower wsX6_lower) := goodIn_app (goodIn_of _ (by decide +kernel)) ggX6_bearer_X6_lower
theorem dX6_bearer_0 : decode cX6_bearer 0 = .ok (.iload_n 2, 1) := by decide +kernel
theorem dX6_bearer_1 : decode cX6_bearer 1 = .ok (.iconst 2, 1) := by decide +kernel
theorem dX6_bearer_2 : decode cX6_bearer 2 = .ok (.irem, 1) := by decide +kernel
theorem dX6_bearer_3 : decode cX6_bearer 3 = .ok (.ifCond .ne 11, 3) := by decide +kernel
theorem dX6_bearer_6 : decode cX6_bearer 6 = .ok (.aload_n 0, 1) := by decide +kernel
theorem dX6_bearer_7 : decode cX6_bearer 7 = .ok (.iload_n 1, 1) := by decide +kernel
theorem dX6_bearer_8 : decode cX6_bearer 8 = .ok (.invokevirtual 55, 3) := by decide +kernel
theorem dX6_bearer_11 : decode cX6_bearer 11 = .ok (.goto 8, 3) := by decide +kernel
theorem dX6_bearer_14 : decode cX6_bearer 14 = .ok (.aload_n 0, 1) := by decide +kernel
theorem dX6_bearer_15 : decode cX6_bearer 15 = .ok (.iload_n 1, 1) := by decide +kernel
theorem dX6_bearer_16 : decode cX6_bearer 16 = .ok (.invokevirtual 58, 3) := by decide +kernel
theorem dX6_bearer_19 : decode cX6_bearer 19 = .ok (.ireturn, 1) := by decide +kernel
set_option maxRecDepth 20000 in
theorem ggX6_echo_X6_of : GoodIn wsX6_echo wsX6_of := goodIn_r _ [5, 6, 7, 8, 9, 10, 11, 12, 13, 14, 15, 16, 17, 18, 19, 20, 21, 22, 23, 24] (by decide +kernel) (by decide +kernel)
set_option maxRecDepth 20000 in
theorem gX6_echo_X6_of : GoodIn wsX6_echo (wsV RX6 47 RX6 yX6_of wsX6_of) := goodIn_app (goodIn_of _ (by decide +kernel)) ggX6_echo_X6_of
theorem dX6_echo_0 : decode cX6_echo 0 = .ok (.aload_n 0, 1) := by decide +kernel
theorem dX6_echo_1 : decode cX6_echo 1 = .ok (.iload_n 1, 1) := by decide +kernel
theorem dX6_echo_2 : decode cX6_echo 2 = .ok (.bipush 29, 2) := by decide +kernel
theorem dX6_echo_4 : decode cX6_echo 4 = .ok (.iconst 3, 1) := by decide +kernel
theorem dX6_echo_5 : decode cX6_echo 5 = .ok (.iload_n 2, 1) := by decide +kernel
theorem dX6_echo_6 : decode cX6_echo 6 = .ok (.imul, 1) := by decide +kernel
theorem dX6_echo_7 : decode cX6_echo 7 = .ok (.iadd, 1) := by decide +kernel
theorem dX6_echo_8 : decode cX6_echo 8 = .ok (.iload_n 3, 1) := by decide +kernel
theorem dX6_echo_9 : decode cX6_echo 9 = .ok (.iadd, 1) := by decide +kernel
theorem dX6_echo_10 : decode cX6_echo 10 = .ok (.invokevirtual 47, 3) := by decide +kernel
theorem dX6_echo_13 : decode cX6_echo 13 = .ok (.ireturn, 1) := by decide +kernel
set_option maxRecDepth 20000 in
theorem ggX6_age_X6_echo : GoodIn wsX6_age wsX6_echo := goodIn_r _ [6, 7, 8, 9, 5, 10, 1, 11, 12, 13, 14, 15, 16, 17, 18, 19, 20, 21, 22, 23, 24, 25, 26, 27, 28] (by decide +kernel) (by decide +kernel)
set_option maxRecDepth 20000 in
theorem gX6_age_X6_echo : GoodIn wsX6_age (wsV RX6 61 RX6 yX6_echo wsX6_echo) := goodIn_app (goodIn_of _ (by decide +kernel)) ggX6_age_X6_echo
theorem dX6_age_0 : decode cX6_age 0 = .ok (.aload_n 0, 1) := by decide +kernel
theorem dX6_age_1 : decode cX6_age 1 = .ok (.getfield 7, 3) := by decide +kernel
theorem dX6_age_4 : decode cX6_age 4 = .ok (.iconst 1, 1) := by decide +kernel
theorem dX6_age_5 : decode cX6_age 5 = .ok (.iaload, 1) := by decide +kernel
theorem dX6_age_6 : decode cX6_age 6 = .ok (.aload_n 0, 1) := by decide +kernel
theorem dX6_age_7 : decode cX6_age 7 = .ok (.iload_n 1, 1) := by decide +kernel
theorem dX6_age_8 : decode cX6_age 8 = .ok (.iload_n 2, 1) := by decide +kernel
theorem dX6_age_9 : decode cX6_age 9 = .ok (.iconst 2, 1) := by decide +kernel
theorem dX6_age_10 : decode cX6_age 10 = .ok (.invokevirtual 61, 3) := by decide +kernel
theorem dX6_age_13 : decode cX6_age 13 = .ok (.isub, 1) := by decide +kernel
theorem dX6_age_14 : decode cX6_age 14 = .ok (.ireturn, 1) := by decide +kernel
set_option maxRecDepth 20000 in
theorem ggX6_isFaded_X6_age : GoodIn wsX6_isFaded wsX6_age := goodIn_r _ [6, 1, 7, 8, 9, 5, 10, 11, 12, 13, 14, 15, 16, 17, 18, 19, 20, 21, 22, 23, 24, 25, 26, 27, 28, 29, 30, 31, 32] (by decide +kernel) (by decide +kernel)
set_option maxRecDepth 20000 in
theorem gX6_isFaded_X6_age : GoodIn wsX6_isFaded (wsV RX6 65 RX6 yX6_age wsX6_age) := goodIn_app (goodIn_of _ (by decide +kernel)) ggX6_isFaded_X6_age
theorem dX6_isFaded_0 : decode cX6_isFaded 0 = .ok (.aload_n 0, 1) := by decide +kernel
theorem dX6_isFaded_1 : decode cX6_isFaded 1 = .ok (.iload_n 1, 1) := by decide +kernel
theorem dX6_isFaded_2 : decode cX6_isFaded 2 = .ok (.iload_n 2, 1) := by decide +kernel
theorem dX6_isFaded_3 : decode cX6_isFaded 3 = .ok (.invokevirtual 65, 3) := by decide +kernel
theorem dX6_isFaded_6 : decode cX6_isFaded 6 = .ok (.aload_n 0, 1) := by decide +kernel
theorem dX6_isFaded_7 : decode cX6_isFaded 7 = .ok (.getfield 7, 3) := by decide +kernel
theorem dX6_isFaded_10 : decode cX6_isFaded 10 = .ok (.iconst 3, 1) := by decide +kernel
theorem dX6_isFaded_11 : decode cX6_isFaded 11 = .ok (.iaload, 1) := by decide +kernel
theorem dX6_isFaded_12 : decode cX6_isFaded 12 = .ok (.if_icmp .le 7, 3) := by decide +kernel
theorem dX6_isFaded_15 : decode cX6_isFaded 15 = .ok (.iconst 1, 1) := by decide +kernel
theorem dX6_isFaded_16 : decode cX6_isFaded 16 = .ok (.goto 4, 3) := by decide +kernel
theorem dX6_isFaded_19 : decode cX6_isFaded 19 = .ok (.iconst 0, 1) := by decide +kernel
theorem dX6_isFaded_20 : decode cX6_isFaded 20 = .ok (.ireturn, 1) := by decide +kernel
set_option maxRecDepth 20000 in
theorem ggX6_drops_X6_of : GoodIn wsX6_drops wsX6_of := goodIn_r _ [6, 1, 11, 12, 13, 14, 15, 16, 17, 18, 19, 20, 21, 22, 23, 24, 25, 26, 27, 28] (by decide +kernel) (by decide +kernel)
set_option maxRecDepth 20000 in
theorem gX6_drops_X6_of : GoodIn wsX6_drops (wsV RX6 47 RX6 yX6_of wsX6_of) := goodIn_app (goodIn_of _ (by decide +kernel)) ggX6_drops_X6_of
set_option maxRecDepth 20000 in
theorem ggX6_drops_X6_lays : GoodIn wsX6_drops wsX6_lays := goodIn_r _ [10, 1, 11, 12, 13, 14, 15, 16, 17, 18, 19, 20, 21, 22, 23, 24, 25, 26, 27, 28] (by decide +kernel) (by decide +kernel)
set_option maxRecDepth 20000 in
theorem gX6_drops_X6_lays : GoodIn wsX6_drops (wsV RX6 68 RX6 yX6_lays wsX6_lays) := goodIn_app (goodIn_of _ (by decide +kernel)) ggX6_drops_X6_lays
theorem dX6_drops_0 : decode cX6_drops 0 = .ok (.bipush 10, 2) := by decide +kernel
theorem dX6_drops_2 : decode cX6_drops 2 = .ok (.bipush 77, 2) := by decide +kernel
theorem dX6_drops_4 : decode cX6_drops 4 = .ok (.iload_n 1, 1) := by decide +kernel
theorem dX6_drops_5 : decode cX6_drops 5 = .ok (.imul, 1) := by decide +kernel
theorem dX6_drops_6 : decode cX6_drops 6 = .ok (.iadd, 1) := by decide +kernel
theorem dX6_drops_7 : decode cX6_drops 7 = .ok (.bipush 29, 2) := by decide +kernel
theorem dX6_drops_9 : decode cX6_drops 9 = .ok (.iadd, 1) := by decide +kernel
theorem dX6_drops_10 : decode cX6_drops 10 = .ok (.istore_n 3, 1) := by decide +kernel
theorem dX6_drops_11 : decode cX6_drops 11 = .ok (.iload_n 3, 1) := by decide +kernel
theorem dX6_drops_12 : decode cX6_drops 12 = .ok (.iconst 3, 1) := by decide +kernel
theorem dX6_drops_13 : decode cX6_drops 13 = .ok (.aload_n 0, 1) := by decide +kernel
theorem dX6_drops_14 : decode cX6_drops 14 = .ok (.iload_n 1, 1) := by decide +kernel
theorem dX6_drops_15 : decode cX6_drops 15 = .ok (.iconst 4, 1) := by decide +kernel
theorem dX6_drops_16 : decode cX6_drops 16 = .ok (.invokevirtual 47, 3) := by decide +kernel
theorem dX6_drops_19 : decode cX6_drops 19 = .ok (.imul, 1) := by decide +kernel
theorem dX6_drops_20 : decode cX6_drops 20 = .ok (.iadd, 1) := by decide +kernel
theorem dX6_drops_21 : decode cX6_drops 21 = .ok (.istore 4, 2) := by decide +kernel
theorem dX6_drops_23 : decode cX6_drops 23 = .ok (.iload_n 3, 1) := by decide +kernel
theorem dX6_drops_24 : decode cX6_drops 24 = .ok (.iconst 3, 1) := by decide +kernel
theorem dX6_drops_25 : decode cX6_drops 25 = .ok (.iload_n 2, 1) := by decide +kernel
theorem dX6_drops_26 : decode cX6_drops 26 = .ok (.imul, 1) := by decide +kernel
theorem dX6_drops_27 : decode cX6_drops 27 = .ok (.iadd, 1) := by decide +kernel
theorem dX6_drops_28 : decode cX6_drops 28 = .ok (.istore 5, 2) := by decide +kernel
theorem dX6_drops_30 : decode cX6_drops 30 = .ok (.iload 5, 2) := by decide +kernel
theorem dX6_drops_32 : decode cX6_drops 32 = .ok (.iload 4, 2) := by decide +kernel
theorem dX6_drops_34 : decode cX6_drops 34 = .ok (.if_icmp .ge 38, 3) := by decide +kernel
theorem dX6_drops_37 : decode cX6_drops 37 = .ok (.aload_n 0, 1) := by decide +kernel
theorem dX6_drops_38 : decode cX6_drops 38 = .ok (.getfield 7, 3) := by decide +kernel
theorem dX6_drops_41 : decode cX6_drops 41 = .ok (.iload 5, 2) := by decide +kernel
theorem dX6_drops_43 : decode cX6_drops 43 = .ok (.iload 5, 2) := by decide +kernel
theorem dX6_drops_45 : decode cX6_drops 45 = .ok (.iconst 3, 1) := by decide +kernel
theorem dX6_drops_46 : decode cX6_drops 46 = .ok (.iadd, 1) := by decide +kernel
theorem dX6_drops_47 : decode cX6_drops 47 = .ok (.iload 4, 2) := by decide +kernel
theorem dX6_drops_49 : decode cX6_drops 49 = .ok (.if_icmp .ge 15, 3) := by decide +kernel
theorem dX6_drops_52 : decode cX6_drops 52 = .ok (.aload_n 0, 1) := by decide +kernel
theorem dX6_drops_53 : decode cX6_drops 53 = .ok (.getfield 7, 3) := by decide +kernel
theorem dX6_drops_56 : decode cX6_drops 56 = .ok (.iload 5, 2) := by decide +kernel
theorem dX6_drops_58 : decode cX6_drops 58 = .ok (.iconst 3, 1) := by decide +kernel
theorem dX6_drops_59 : decode cX6_drops 59 = .ok (.iadd, 1) := by decide +kernel
theorem dX6_drops_60 : decode cX6_drops 60 = .ok (.iaload, 1) := by decide +kernel
theorem dX6_drops_61 : decode cX6_drops 61 = .ok (.goto 4, 3) := by decide +kernel
theorem dX6_drops_64 : decode cX6_drops 64 = .ok (.iconst 0, 1) := by decide +kernel
theorem dX6_drops_65 : decode cX6_drops 65 = .ok (.iastore, 1) := by decide +kernel
theorem dX6_drops_66 : decode cX6_drops 66 = .ok (.iinc 5 1, 3) := by decide +kernel
theorem dX6_drops_69 : decode cX6_drops 69 = .ok (.goto (-39), 3) := by decide +kernel
theorem dX6_drops_72 : decode cX6_drops 72 = .ok (.aload_n 0, 1) := by decide +kernel
theorem dX6_drops_73 : decode cX6_drops 73 = .ok (.iload_n 1, 1) := by decide +kernel
theorem dX6_drops_74 : decode cX6_drops 74 = .ok (.iconst 4, 1) := by decide +kernel
theorem dX6_drops_75 : decode cX6_drops 75 = .ok (.aload_n 0, 1) := by decide +kernel
theorem dX6_drops_76 : decode cX6_drops 76 = .ok (.iload_n 1, 1) := by decide +kernel
theorem dX6_drops_77 : decode cX6_drops 77 = .ok (.iconst 4, 1) := by decide +kernel
theorem dX6_drops_78 : decode cX6_drops 78 = .ok (.invokevirtual 47, 3) := by decide +kernel
theorem dX6_drops_81 : decode cX6_drops 81 = .ok (.iconst 1, 1) := by decide +kernel
theorem dX6_drops_82 : decode cX6_drops 82 = .ok (.isub, 1) := by decide +kernel
theorem dX6_drops_83 : decode cX6_drops 83 = .ok (.invokevirtual 68, 3) := by decide +kernel
theorem dX6_drops_86 : decode cX6_drops 86 = .ok (.return_, 1) := by decide +kernel
set_option maxRecDepth 20000 in
theorem ggX6_rankOf_X6_of : GoodIn wsX6_rankOf wsX6_of := goodIn_r _ [6, 7, 12, 13, 14, 15, 16, 17, 18, 19, 20, 21, 22, 23, 24, 25, 26, 27, 28, 29] (by decide +kernel) (by decide +kernel)
set_option maxRecDepth 20000 in
theorem gX6_rankOf_X6_of : GoodIn wsX6_rankOf (wsV RX6 47 RX6 yX6_of wsX6_of) := goodIn_app (goodIn_of _ (by decide +kernel)) ggX6_rankOf_X6_of
set_option maxRecDepth 20000 in
theorem ggX6_rankOf_X6_echo : GoodIn wsX6_rankOf wsX6_echo := goodIn_r _ [11, 2, 3, 4, 5, 6, 7, 12, 13, 14, 15, 16, 17, 18, 19, 20, 21, 22, 23, 24, 25, 26, 27, 28, 29] (by decide +kernel) (by decide +kernel)
set_option maxRecDepth 20000 in
theorem gX6_rankOf_X6_echo : GoodIn wsX6_rankOf (wsV RX6 61 RX6 yX6_echo wsX6_echo) := goodIn_app (goodIn_of _ (by decide +kernel)) ggX6_rankOf_X6_echo
theorem dX6_rankOf_0 : decode cX6_rankOf 0 = .ok (.ldc 51, 2) := by decide +kernel
theorem dX6_rankOf_2 : decode cX6_rankOf 2 = .ok (.istore 4, 2) := by decide +kernel
theorem dX6_rankOf_4 : decode cX6_rankOf 4 = .ok (.iconst 0, 1) := by decide +kernel
theorem dX6_rankOf_5 : decode cX6_rankOf 5 = .ok (.istore 5, 2) := by decide +kernel
theorem dX6_rankOf_7 : decode cX6_rankOf 7 = .ok (.iload 5, 2) := by decide +kernel
theorem dX6_rankOf_9 : decode cX6_rankOf 9 = .ok (.aload_n 0, 1) := by decide +kernel
theorem dX6_rankOf_10 : decode cX6_rankOf 10 = .ok (.iload_n 1, 1) := by decide +kernel
theorem dX6_rankOf_11 : decode cX6_rankOf 11 = .ok (.iconst 4, 1) := by decide +kernel
theorem dX6_rankOf_12 : decode cX6_rankOf 12 = .ok (.invokevirtual 47, 3) := by decide +kernel
theorem dX6_rankOf_15 : decode cX6_rankOf 15 = .ok (.if_icmp .ge 35, 3) := by decide +kernel
theorem dX6_rankOf_18 : decode cX6_rankOf 18 = .ok (.aload_n 0, 1) := by decide +kernel
theorem dX6_rankOf_19 : decode cX6_rankOf 19 = .ok (.iload_n 1, 1) := by decide +kernel
theorem dX6_rankOf_20 : decode cX6_rankOf 20 = .ok (.iload 5, 2) := by decide +kernel
theorem dX6_rankOf_22 : decode cX6_rankOf 22 = .ok (.iconst 0, 1) := by decide +kernel
theorem dX6_rankOf_23 : decode cX6_rankOf 23 = .ok (.invokevirtual 61, 3) := by decide +kernel
theorem dX6_rankOf_26 : decode cX6_rankOf 26 = .ok (.bipush 8, 2) := by decide +kernel
theorem dX6_rankOf_28 : decode cX6_rankOf 28 = .ok (.iload_n 2, 1) := by decide +kernel
theorem dX6_rankOf_29 : decode cX6_rankOf 29 = .ok (.imul, 1) := by decide +kernel
theorem dX6_rankOf_30 : decode cX6_rankOf 30 = .ok (.iload_n 3, 1) := by decide +kernel
theorem dX6_rankOf_31 : decode cX6_rankOf 31 = .ok (.iadd, 1) := by decide +kernel
theorem dX6_rankOf_32 : decode cX6_rankOf 32 = .ok (.if_icmp .ne 8, 3) := by decide +kernel
theorem dX6_rankOf_35 : decode cX6_rankOf 35 = .ok (.iload 5, 2) := by decide +kernel
theorem dX6_rankOf_37 : decode cX6_rankOf 37 = .ok (.goto 5, 3) := by decide +kernel
theorem dX6_rankOf_40 : decode cX6_rankOf 40 = .ok (.iload 4, 2) := by decide +kernel
theorem dX6_rankOf_42 : decode cX6_rankOf 42 = .ok (.istore 4, 2) := by decide +kernel
theorem dX6_rankOf_44 : decode cX6_rankOf 44 = .ok (.iinc 5 1, 3) := by decide +kernel
theorem dX6_rankOf_47 : decode cX6_rankOf 47 = .ok (.goto (-40), 3) := by decide +kernel
theorem dX6_rankOf_50 : decode cX6_rankOf 50 = .ok (.iload 4, 2) := by decide +kernel
theorem dX6_rankOf_52 : decode cX6_rankOf 52 = .ok (.ireturn, 1) := by decide +kernel
set_option maxRecDepth 20000 in
theorem ggX6_laysEcho_X6_bearer : GoodIn wsX6_laysEcho wsX6_bearer := goodIn_r _ [6, 7, 8, 9, 5, 10, 1, 11, 12, 13, 14, 15, 16, 17, 18, 19, 20, 21, 22, 23, 48, 49, 50, 51, 52, 53, 54, 55, 56, 57, 58, 59, 60, 61, 62, 63, 64, 65] (by decide +kernel) (by decide +kernel)
set_option maxRecDepth 20000 in
theorem gX6_laysEcho_X6_bearer : GoodIn wsX6_laysEcho (wsV RX6 72 RX6 yX6_bearer wsX6_bearer) := goodIn_app (goodIn_of _ (by decide +kernel)) ggX6_laysEcho_X6_bearer
set_option maxRecDepth 20000 in
theorem ggX6_laysEcho_X6_of : GoodIn wsX6_laysEcho wsX6_of := goodIn_r _ [14, 1, 48, 49, 50, 51, 52, 53, 54, 55, 56, 57, 58, 59, 60, 61, 62, 63, 64, 65] (by decide +kernel) (by decide +kernel)
set_option maxRecDepth 20000 in
theorem gX6_laysEcho_X6_of : GoodIn wsX6_laysEcho (wsV RX6 47 RX6 yX6_of wsX6_of) := goodIn_app (goodIn_of _ (by decide +kernel)) ggX6_laysEcho_X6_of
set_option maxRecDepth 20000 in
theorem ggX6_laysEcho_X6_lives : GoodIn wsX6_laysEcho wsX6_lives := goodIn_r _ [27, 11, 12, 13, 5, 14, 1, 48, 49, 50, 51, 52, 53, 54, 55, 56, 57, 58, 59, 60, 61, 62, 63, 64, 65] (by decide +kernel) (by decide +kernel)
set_option maxRecDepth 20000 in
theorem gX6_laysEcho_X6_lives : GoodIn wsX6_laysEcho (wsV RX6 75 RX6 yX6_lives wsX6_lives) := goodIn_app (goodIn_of _ (by decide +kernel)) ggX6_laysEcho_X6_lives
set_option maxRecDepth 20000 in
theorem ggX6_laysEcho_X6_rankOf : GoodIn wsX6_laysEcho wsX6_rankOf := goodIn_r _ [31, 19, 11, 12, 13, 5, 14, 1, 32, 33, 34, 35, 48, 49, 50, 51, 52, 53, 54, 55, 56, 57, 58, 59, 60, 61, 62, 63, 64, 65] (by decide +kernel) (by decide +kernel)
set_option maxRecDepth 20000 in
theorem gX6_laysEcho_X6_rankOf : GoodIn wsX6_laysEcho (wsV RX6 79 RX6 yX6_rankOf wsX6_rankOf) := goodIn_app (goodIn_of _ (by decide +kernel)) ggX6_laysEcho_X6_rankOf
set_option maxRecDepth 20000 in
theorem ggX6_laysEcho_X6_drops : GoodIn wsX6_laysEcho wsX6_drops := goodIn_r _ [39, 1, 11, 12, 13, 5, 14, 40, 41, 42, 43, 48, 49, 50, 51, 52, 53, 54, 55, 56, 57, 58, 59, 60, 61, 62, 63, 64, 65] (by decide +kernel) (by decide +kernel)
set_option maxRecDepth 20000 in
theorem gX6_laysEcho_X6_drops : GoodIn wsX6_laysEcho (wsV RX6 82 RX6 yX6_drops wsX6_drops) := goodIn_app (goodIn_of _ (by decide +kernel)) ggX6_laysEcho_X6_drops
set_option maxRecDepth 20000 in
theorem ggX6_laysEcho_X6_adds : GoodIn wsX6_laysEcho wsX6_adds := goodIn_r _ [47, 1, 48, 49, 50, 51, 52, 53, 54, 55, 56, 57, 58, 59, 60, 61, 62, 63, 64, 65] (by decide +kernel) (by decide +kernel)
set_option maxRecDepth 20000 in
theorem gX6_laysEcho_X6_adds : GoodIn wsX6_laysEcho (wsV RX6 86 RX6 yX6_adds wsX6_adds) := goodIn_app (goodIn_of _ (by decide +kernel)) ggX6_laysEcho_X6_adds
set_option maxRecDepth 20000 in
theorem ggX6_laysEcho_X6_lays : GoodIn wsX6_laysEcho wsX6_lays := goodIn_r _ [43, 1, 48, 49, 50, 51, 52, 53, 54, 55, 56, 57, 58, 59, 60, 61, 62, 63, 64, 65] (by decide +kernel) (by decide +kernel)
set_option maxRecDepth 20000 in
theorem gX6_laysEcho_X6_lays : GoodIn wsX6_laysEcho (wsV RX6 68 RX6 yX6_lays wsX6_lays) := goodIn_app (goodIn_of _ (by decide +kernel)) ggX6_laysEcho_X6_lays
theorem dX6_laysEcho_0 : decode cX6_laysEcho 0 = .ok (.aload_n 0, 1) := by decide +kernel
theorem dX6_laysEcho_1 : decode cX6_laysEcho 1 = .ok (.iload_n 1, 1) := by decide +kernel
theorem dX6_laysEcho_2 : decode cX6_laysEcho 2 = .ok (.iload_n 2, 1) := by decide +kernel
theorem dX6_laysEcho_3 : decode cX6_laysEcho 3 = .ok (.invokevirtual 72, 3) := by decide +kernel
theorem dX6_laysEcho_6 : decode cX6_laysEcho 6 = .ok (.istore_n 3, 1) := by decide +kernel
theorem dX6_laysEcho_7 : decode cX6_laysEcho 7 = .ok (.aload_n 0, 1) := by decide +kernel
theorem dX6_laysEcho_8 : decode cX6_laysEcho 8 = .ok (.iload_n 1, 1) := by decide +kernel
theorem dX6_laysEcho_9 : decode cX6_laysEcho 9 = .ok (.iconst 5, 1) := by decide +kernel
theorem dX6_laysEcho_10 : decode cX6_laysEcho 10 = .ok (.iload_n 2, 1) := by decide +kernel
theorem dX6_laysEcho_11 : decode cX6_laysEcho 11 = .ok (.iadd, 1) := by decide +kernel
theorem dX6_laysEcho_12 : decode cX6_laysEcho 12 = .ok (.invokevirtual 47, 3) := by decide +kernel
theorem dX6_laysEcho_15 : decode cX6_laysEcho 15 = .ok (.ifCond .eq 11, 3) := by decide +kernel
theorem dX6_laysEcho_18 : decode cX6_laysEcho 18 = .ok (.aload_n 0, 1) := by decide +kernel
theorem dX6_laysEcho_19 : decode cX6_laysEcho 19 = .ok (.iload_n 3, 1) := by decide +kernel
theorem dX6_laysEcho_20 : decode cX6_laysEcho 20 = .ok (.invokevirtual 75, 3) := by decide +kernel
theorem dX6_laysEcho_23 : decode cX6_laysEcho 23 = .ok (.ifCond .ne 5, 3) := by decide +kernel
theorem dX6_laysEcho_26 : decode cX6_laysEcho 26 = .ok (.iconst 0, 1) := by decide +kernel
theorem dX6_laysEcho_27 : decode cX6_laysEcho 27 = .ok (.ireturn, 1) := by decide +kernel
theorem dX6_laysEcho_28 : decode cX6_laysEcho 28 = .ok (.aload_n 0, 1) := by decide +kernel
theorem dX6_laysEcho_29 : decode cX6_laysEcho 29 = .ok (.iload_n 3, 1) := by decide +kernel
theorem dX6_laysEcho_30 : decode cX6_laysEcho 30 = .ok (.iload_n 1, 1) := by decide +kernel
theorem dX6_laysEcho_31 : decode cX6_laysEcho 31 = .ok (.iload_n 2, 1) := by decide +kernel
theorem dX6_laysEcho_32 : decode cX6_laysEcho 32 = .ok (.invokevirtual 79, 3) := by decide +kernel
theorem dX6_laysEcho_35 : decode cX6_laysEcho 35 = .ok (.istore 4, 2) := by decide +kernel
theorem dX6_laysEcho_37 : decode cX6_laysEcho 37 = .ok (.iload 4, 2) := by decide +kernel
theorem dX6_laysEcho_39 : decode cX6_laysEcho 39 = .ok (.ifCond .lt 10, 3) := by decide +kernel
theorem dX6_laysEcho_42 : decode cX6_laysEcho 42 = .ok (.aload_n 0, 1) := by decide +kernel
theorem dX6_laysEcho_43 : decode cX6_laysEcho 43 = .ok (.iload_n 3, 1) := by decide +kernel
theorem dX6_laysEcho_44 : decode cX6_laysEcho 44 = .ok (.iload 4, 2) := by decide +kernel
theorem dX6_laysEcho_46 : decode cX6_laysEcho 46 = .ok (.invokevirtual 82, 3) := by decide +kernel
theorem dX6_laysEcho_49 : decode cX6_laysEcho 49 = .ok (.aload_n 0, 1) := by decide +kernel
theorem dX6_laysEcho_50 : decode cX6_laysEcho 50 = .ok (.iload_n 3, 1) := by decide +kernel
theorem dX6_laysEcho_51 : decode cX6_laysEcho 51 = .ok (.iconst 4, 1) := by decide +kernel
theorem dX6_laysEcho_52 : decode cX6_laysEcho 52 = .ok (.invokevirtual 47, 3) := by decide +kernel
theorem dX6_laysEcho_55 : decode cX6_laysEcho 55 = .ok (.aload_n 0, 1) := by decide +kernel
theorem dX6_laysEcho_56 : decode cX6_laysEcho 56 = .ok (.getfield 7, 3) := by decide +kernel
theorem dX6_laysEcho_59 : decode cX6_laysEcho 59 = .ok (.iconst 2, 1) := by decide +kernel
theorem dX6_laysEcho_60 : decode cX6_laysEcho 60 = .ok (.iaload, 1) := by decide +kernel
theorem dX6_laysEcho_61 : decode cX6_laysEcho 61 = .ok (.if_icmp .lt 18, 3) := by decide +kernel
theorem dX6_laysEcho_64 : decode cX6_laysEcho 64 = .ok (.aload_n 0, 1) := by decide +kernel
theorem dX6_laysEcho_65 : decode cX6_laysEcho 65 = .ok (.iload_n 3, 1) := by decide +kernel
theorem dX6_laysEcho_66 : decode cX6_laysEcho 66 = .ok (.iconst 0, 1) := by decide +kernel
theorem dX6_laysEcho_67 : decode cX6_laysEcho 67 = .ok (.invokevirtual 82, 3) := by decide +kernel
theorem dX6_laysEcho_70 : decode cX6_laysEcho 70 = .ok (.aload_n 0, 1) := by decide +kernel
theorem dX6_laysEcho_71 : decode cX6_laysEcho 71 = .ok (.iload_n 3, 1) := by decide +kernel
theorem dX6_laysEcho_72 : decode cX6_laysEcho 72 = .ok (.iconst 3, 1) := by decide +kernel
theorem dX6_laysEcho_73 : decode cX6_laysEcho 73 = .ok (.invokevirtual 86, 3) := by decide +kernel
theorem dX6_laysEcho_76 : decode cX6_laysEcho 76 = .ok (.goto (-27), 3) := by decide +kernel
theorem dX6_laysEcho_79 : decode cX6_laysEcho 79 = .ok (.bipush 29, 2) := by decide +kernel
theorem dX6_laysEcho_81 : decode cX6_laysEcho 81 = .ok (.iconst 3, 1) := by decide +kernel
theorem dX6_laysEcho_82 : decode cX6_laysEcho 82 = .ok (.aload_n 0, 1) := by decide +kernel
theorem dX6_laysEcho_83 : decode cX6_laysEcho 83 = .ok (.iload_n 3, 1) := by decide +kernel
theorem dX6_laysEcho_84 : decode cX6_laysEcho 84 = .ok (.iconst 4, 1) := by decide +kernel
theorem dX6_laysEcho_85 : decode cX6_laysEcho 85 = .ok (.invokevirtual 47, 3) := by decide +kernel
theorem dX6_laysEcho_88 : decode cX6_laysEcho 88 = .ok (.imul, 1) := by decide +kernel
theorem dX6_laysEcho_89 : decode cX6_laysEcho 89 = .ok (.iadd, 1) := by decide +kernel
theorem dX6_laysEcho_90 : decode cX6_laysEcho 90 = .ok (.istore 5, 2) := by decide +kernel
theorem dX6_laysEcho_92 : decode cX6_laysEcho 92 = .ok (.aload_n 0, 1) := by decide +kernel
theorem dX6_laysEcho_93 : decode cX6_laysEcho 93 = .ok (.iload_n 3, 1) := by decide +kernel
theorem dX6_laysEcho_94 : decode cX6_laysEcho 94 = .ok (.iload 5, 2) := by decide +kernel
theorem dX6_laysEcho_96 : decode cX6_laysEcho 96 = .ok (.bipush 8, 2) := by decide +kernel
theorem dX6_laysEcho_98 : decode cX6_laysEcho 98 = .ok (.iload_n 1, 1) := by decide +kernel
theorem dX6_laysEcho_99 : decode cX6_laysEcho 99 = .ok (.imul, 1) := by decide +kernel
theorem dX6_laysEcho_100 : decode cX6_laysEcho 100 = .ok (.iload_n 2, 1) := by decide +kernel
theorem dX6_laysEcho_101 : decode cX6_laysEcho 101 = .ok (.iadd, 1) := by decide +kernel
theorem dX6_laysEcho_102 : decode cX6_laysEcho 102 = .ok (.invokevirtual 68, 3) := by decide +kernel
theorem dX6_laysEcho_105 : decode cX6_laysEcho 105 = .ok (.aload_n 0, 1) := by decide +kernel
theorem dX6_laysEcho_106 : decode cX6_laysEcho 106 = .ok (.iload_n 3, 1) := by decide +kernel
theorem dX6_laysEcho_107 : decode cX6_laysEcho 107 = .ok (.iload 5, 2) := by decide +kernel
theorem dX6_laysEcho_109 : decode cX6_laysEcho 109 = .ok (.iconst 1, 1) := by decide +kernel
theorem dX6_laysEcho_110 : decode cX6_laysEcho 110 = .ok (.iadd, 1) := by decide +kernel
theorem dX6_laysEcho_111 : decode cX6_laysEcho 111 = .ok (.aload_n 0, 1) := by decide +kernel
theorem dX6_laysEcho_112 : decode cX6_laysEcho 112 = .ok (.iload_n 1, 1) := by decide +kernel
theorem dX6_laysEcho_113 : decode cX6_laysEcho 113 = .ok (.iconst 5, 1) := by decide +kernel
theorem dX6_laysEcho_114 : decode cX6_laysEcho 114 = .ok (.iload_n 2, 1) := by decide +kernel
theorem dX6_laysEcho_115 : decode cX6_laysEcho 115 = .ok (.iadd, 1) := by decide +kernel
theorem dX6_laysEcho_116 : decode cX6_laysEcho 116 = .ok (.invokevirtual 47, 3) := by decide +kernel
theorem dX6_laysEcho_119 : decode cX6_laysEcho 119 = .ok (.iconst 1, 1) := by decide +kernel
theorem dX6_laysEcho_120 : decode cX6_laysEcho 120 = .ok (.isub, 1) := by decide +kernel
theorem dX6_laysEcho_121 : decode cX6_laysEcho 121 = .ok (.invokevirtual 68, 3) := by decide +kernel
theorem dX6_laysEcho_124 : decode cX6_laysEcho 124 = .ok (.aload_n 0, 1) := by decide +kernel
theorem dX6_laysEcho_125 : decode cX6_laysEcho 125 = .ok (.iload_n 3, 1) := by decide +kernel
theorem dX6_laysEcho_126 : decode cX6_laysEcho 126 = .ok (.iload 5, 2) := by decide +kernel
theorem dX6_laysEcho_128 : decode cX6_laysEcho 128 = .ok (.iconst 2, 1) := by decide +kernel
theorem dX6_laysEcho_129 : decode cX6_laysEcho 129 = .ok (.iadd, 1) := by decide +kernel
theorem dX6_laysEcho_130 : decode cX6_laysEcho 130 = .ok (.aload_n 0, 1) := by decide +kernel
theorem dX6_laysEcho_131 : decode cX6_laysEcho 131 = .ok (.getfield 7, 3) := by decide +kernel
theorem dX6_laysEcho_134 : decode cX6_laysEcho 134 = .ok (.iconst 1, 1) := by decide +kernel
theorem dX6_laysEcho_135 : decode cX6_laysEcho 135 = .ok (.iaload, 1) := by decide +kernel
theorem dX6_laysEcho_136 : decode cX6_laysEcho 136 = .ok (.invokevirtual 68, 3) := by decide +kernel
theorem dX6_laysEcho_139 : decode cX6_laysEcho 139 = .ok (.aload_n 0, 1) := by decide +kernel
theorem dX6_laysEcho_140 : decode cX6_laysEcho 140 = .ok (.iload_n 3, 1) := by decide +kernel
theorem dX6_laysEcho_141 : decode cX6_laysEcho 141 = .ok (.iconst 4, 1) := by decide +kernel
theorem dX6_laysEcho_142 : decode cX6_laysEcho 142 = .ok (.invokevirtual 86, 3) := by decide +kernel
theorem dX6_laysEcho_145 : decode cX6_laysEcho 145 = .ok (.aload_n 0, 1) := by decide +kernel
theorem dX6_laysEcho_146 : decode cX6_laysEcho 146 = .ok (.getfield 7, 3) := by decide +kernel
theorem dX6_laysEcho_149 : decode cX6_laysEcho 149 = .ok (.bipush 9, 2) := by decide +kernel
theorem dX6_laysEcho_151 : decode cX6_laysEcho 151 = .ok (.dup2, 1) := by decide +kernel
theorem dX6_laysEcho_152 : decode cX6_laysEcho 152 = .ok (.iaload, 1) := by decide +kernel
theorem dX6_laysEcho_153 : decode cX6_laysEcho 153 = .ok (.iconst 1, 1) := by decide +kernel
theorem dX6_laysEcho_154 : decode cX6_laysEcho 154 = .ok (.iadd, 1) := by decide +kernel
theorem dX6_laysEcho_155 : decode cX6_laysEcho 155 = .ok (.iastore, 1) := by decide +kernel
theorem dX6_laysEcho_156 : decode cX6_laysEcho 156 = .ok (.iconst 1, 1) := by decide +kernel
theorem dX6_laysEcho_157 : decode cX6_laysEcho 157 = .ok (.ireturn, 1) := by decide +kernel
set_option maxRecDepth 20000 in
theorem ggX6_laysRow_X6_laysEcho : GoodIn wsX6_laysRow wsX6_laysEcho := goodIn_r _ [5, 6, 7, 8, 9, 4, 10, 11, 12, 13, 14, 15, 16, 17, 18, 19, 20, 21, 22, 23, 24, 25, 26, 27, 28, 29, 30, 31, 32, 33, 34, 35, 36, 37, 38, 39, 40, 41, 42, 43, 44, 45, 46, 47, 48, 49, 50, 51, 52, 53, 54, 55, 56, 57, 58, 59, 60, 61, 62, 63, 64, 65, 66, 67, 68, 69] (by decide +kernel) (by decide +kernel)
set_option maxRecDepth 20000 in
theorem gX6_laysRow_X6_laysEcho : GoodIn wsX6_laysRow (wsV RX6 89 RX6 yX6_laysEcho wsX6_laysEcho) := goodIn_app (goodIn_of _ (by decide +kernel)) ggX6_laysRow_X6_laysEcho
theorem dX6_laysRow_0 : decode cX6_laysRow 0 = .ok (.iconst 0, 1) := by decide +kernel
theorem dX6_laysRow_1 : decode cX6_laysRow 1 = .ok (.istore_n 2, 1) := by decide +kernel
theorem dX6_laysRow_2 : decode cX6_laysRow 2 = .ok (.iconst 0, 1) := by decide +kernel
theorem dX6_laysRow_3 : decode cX6_laysRow 3 = .ok (.istore_n 3, 1) := by decide +kernel
theorem dX6_laysRow_4 : decode cX6_laysRow 4 = .ok (.iload_n 3, 1) := by decide +kernel
theorem dX6_laysRow_5 : decode cX6_laysRow 5 = .ok (.bipush 8, 2) := by decide +kernel
theorem dX6_laysRow_7 : decode cX6_laysRow 7 = .ok (.if_icmp .ge 18, 3) := by decide +kernel
theorem dX6_laysRow_10 : decode cX6_laysRow 10 = .ok (.iload_n 2, 1) := by decide +kernel
theorem dX6_laysRow_11 : decode cX6_laysRow 11 = .ok (.aload_n 0, 1) := by decide +kernel
theorem dX6_laysRow_12 : decode cX6_laysRow 12 = .ok (.iload_n 1, 1) := by decide +kernel
theorem dX6_laysRow_13 : decode cX6_laysRow 13 = .ok (.iload_n 3, 1) := by decide +kernel
theorem dX6_laysRow_14 : decode cX6_laysRow 14 = .ok (.invokevirtual 89, 3) := by decide +kernel
theorem dX6_laysRow_17 : decode cX6_laysRow 17 = .ok (.iadd, 1) := by decide +kernel
theorem dX6_laysRow_18 : decode cX6_laysRow 18 = .ok (.istore_n 2, 1) := by decide +kernel
theorem dX6_laysRow_19 : decode cX6_laysRow 19 = .ok (.iinc 3 1, 3) := by decide +kernel
theorem dX6_laysRow_22 : decode cX6_laysRow 22 = .ok (.goto (-18), 3) := by decide +kernel
theorem dX6_laysRow_25 : decode cX6_laysRow 25 = .ok (.iload_n 2, 1) := by decide +kernel
theorem dX6_laysRow_26 : decode cX6_laysRow 26 = .ok (.ireturn, 1) := by decide +kernel
set_option maxRecDepth 20000 in
theorem ggX6_told_X6_bearer : GoodIn wsX6_told wsX6_bearer := goodIn_r _ [6, 7, 8, 9, 5, 10, 11, 12, 13, 14, 15, 16, 17, 18, 19, 1, 20, 21, 22, 23, 44, 45, 46, 47, 48, 49, 50, 51, 52, 53, 54, 55, 56, 57, 58, 59, 60, 61] (by decide +kernel) (by decide +kernel)
set_option maxRecDepth 20000 in
theorem gX6_told_X6_bearer : GoodIn wsX6_told (wsV RX6 72 RX6 yX6_bearer wsX6_bearer) := goodIn_app (goodIn_of _ (by decide +kernel)) ggX6_told_X6_bearer
set_option maxRecDepth 20000 in
theorem ggX6_told_X6_lives : GoodIn wsX6_told wsX6_lives := goodIn_r _ [27, 12, 13, 14, 5, 15, 11, 44, 45, 46, 47, 48, 49, 50, 51, 52, 53, 54, 55, 56, 57, 58, 59, 60, 61] (by decide +kernel) (by decide +kernel)
set_option maxRecDepth 20000 in
theorem gX6_told_X6_lives : GoodIn wsX6_told (wsV RX6 75 RX6 yX6_lives wsX6_lives) := goodIn_app (goodIn_of _ (by decide +kernel)) ggX6_told_X6_lives
set_option maxRecDepth 20000 in
theorem ggX6_told_X6_rankOf : GoodIn wsX6_told wsX6_rankOf := goodIn_r _ [31, 1, 12, 13, 14, 5, 15, 11, 32, 33, 34, 35, 44, 45, 46, 47, 48, 49, 50, 51, 52, 53, 54, 55, 56, 57, 58, 59, 60, 61] (by decide +kernel) (by decide +kernel)
