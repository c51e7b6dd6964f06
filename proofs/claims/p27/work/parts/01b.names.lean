set_option maxRecDepth 20000 in
theorem ggX0_init_X3_init : GoodIn wsX0_init wsX3_init := goodIn_r _ [12, 13, 2, 3, 14, 15, 19] (by decide +kernel) (by decide +kernel)
set_option maxRecDepth 20000 in
theorem gX0_init_X3_init : GoodIn wsX0_init (wsX3_init) := ggX0_init_X3_init
theorem dX0_init_0 : decode cX0_init 0 = .ok (.aload_n 0, 1) := by decide +kernel
theorem dX0_init_1 : decode cX0_init 1 = .ok (.invokespecial 5, 3) := by decide +kernel
theorem dX0_init_4 : decode cX0_init 4 = .ok (.aload_n 0, 1) := by decide +kernel
theorem dX0_init_5 : decode cX0_init 5 = .ok (.iconst 5, 1) := by decide +kernel
theorem dX0_init_6 : decode cX0_init 6 = .ok (.anewarray 11, 3) := by decide +kernel
theorem dX0_init_9 : decode cX0_init 9 = .ok (.putfield 13, 3) := by decide +kernel
theorem dX0_init_12 : decode cX0_init 12 = .ok (.iconst 0, 1) := by decide +kernel
theorem dX0_init_13 : decode cX0_init 13 = .ok (.istore_n 1, 1) := by decide +kernel
theorem dX0_init_14 : decode cX0_init 14 = .ok (.iload_n 1, 1) := by decide +kernel
theorem dX0_init_15 : decode cX0_init 15 = .ok (.iconst 5, 1) := by decide +kernel
theorem dX0_init_16 : decode cX0_init 16 = .ok (.if_icmp .ge 22, 3) := by decide +kernel
theorem dX0_init_19 : decode cX0_init 19 = .ok (.aload_n 0, 1) := by decide +kernel
theorem dX0_init_20 : decode cX0_init 20 = .ok (.getfield 13, 3) := by decide +kernel
theorem dX0_init_23 : decode cX0_init 23 = .ok (.iload_n 1, 1) := by decide +kernel
theorem dX0_init_24 : decode cX0_init 24 = .ok (.new 11, 3) := by decide +kernel
theorem dX0_init_27 : decode cX0_init 27 = .ok (.dup, 1) := by decide +kernel
theorem dX0_init_28 : decode cX0_init 28 = .ok (.invokespecial 17, 3) := by decide +kernel
theorem dX0_init_31 : decode cX0_init 31 = .ok (.aastore, 1) := by decide +kernel
theorem dX0_init_32 : decode cX0_init 32 = .ok (.iinc 1 1, 3) := by decide +kernel
theorem dX0_init_35 : decode cX0_init 35 = .ok (.goto (-21), 3) := by decide +kernel
theorem dX0_init_38 : decode cX0_init 38 = .ok (.aload_n 0, 1) := by decide +kernel
theorem dX0_init_39 : decode cX0_init 39 = .ok (.iconst 0, 1) := by decide +kernel
theorem dX0_init_40 : decode cX0_init 40 = .ok (.putfield 18, 3) := by decide +kernel
theorem dX0_init_43 : decode cX0_init 43 = .ok (.aload_n 0, 1) := by decide +kernel
theorem dX0_init_44 : decode cX0_init 44 = .ok (.iconst 0, 1) := by decide +kernel
theorem dX0_init_45 : decode cX0_init 45 = .ok (.putfield 22, 3) := by decide +kernel
theorem dX0_init_48 : decode cX0_init 48 = .ok (.return_, 1) := by decide +kernel
theorem dX0_size_0 : decode cX0_size 0 = .ok (.aload_n 0, 1) := by decide +kernel
theorem dX0_size_1 : decode cX0_size 1 = .ok (.getfield 22, 3) := by decide +kernel
theorem dX0_size_4 : decode cX0_size 4 = .ok (.ireturn, 1) := by decide +kernel
set_option maxRecDepth 20000 in
theorem ggX0_note_X0_stateAt : GoodIn wsX0_note wsX0_stateAt := goodIn_r _ [6, 7, 8, 19, 20, 21] (by decide +kernel) (by decide +kernel)
set_option maxRecDepth 20000 in
theorem gX0_note_X0_stateAt : GoodIn wsX0_note (wsV RX0 25 RX0 yX0_stateAt wsX0_stateAt) := goodIn_app (goodIn_of _ (by decide +kernel)) ggX0_note_X0_stateAt
set_option maxRecDepth 20000 in
theorem ggX0_note_X3_copyFrom : GoodIn wsX0_note wsX3_copyFrom := goodIn_r _ [13, 14, 15, 16, 17, 18, 22] (by decide +kernel) (by decide +kernel)
set_option maxRecDepth 20000 in
theorem gX0_note_X3_copyFrom : GoodIn wsX0_note (wsV RX0 29 RX3 yX3_copyFrom wsX3_copyFrom) := goodIn_app (goodIn_of _ (by decide +kernel)) ggX0_note_X3_copyFrom
theorem dX0_note_0 : decode cX0_note 0 = .ok (.aload_n 0, 1) := by decide +kernel
theorem dX0_note_1 : decode cX0_note 1 = .ok (.aload_n 0, 1) := by decide +kernel
theorem dX0_note_2 : decode cX0_note 2 = .ok (.getfield 22, 3) := by decide +kernel
theorem dX0_note_5 : decode cX0_note 5 = .ok (.invokevirtual 25, 3) := by decide +kernel
theorem dX0_note_8 : decode cX0_note 8 = .ok (.astore_n 2, 1) := by decide +kernel
theorem dX0_note_9 : decode cX0_note 9 = .ok (.aload_n 2, 1) := by decide +kernel
theorem dX0_note_10 : decode cX0_note 10 = .ok (.ifnull 8, 3) := by decide +kernel
theorem dX0_note_13 : decode cX0_note 13 = .ok (.aload_n 2, 1) := by decide +kernel
theorem dX0_note_14 : decode cX0_note 14 = .ok (.aload_n 1, 1) := by decide +kernel
theorem dX0_note_15 : decode cX0_note 15 = .ok (.invokevirtual 29, 3) := by decide +kernel
theorem dX0_note_18 : decode cX0_note 18 = .ok (.return_, 1) := by decide +kernel
theorem dX0_keepUnlessError_0 : decode cX0_keepUnlessError 0 = .ok (.iload_n 1, 1) := by decide +kernel
theorem dX0_keepUnlessError_1 : decode cX0_keepUnlessError 1 = .ok (.ifCond .ge 5, 3) := by decide +kernel
theorem dX0_keepUnlessError_4 : decode cX0_keepUnlessError 4 = .ok (.iload_n 1, 1) := by decide +kernel
theorem dX0_keepUnlessError_5 : decode cX0_keepUnlessError 5 = .ok (.ireturn, 1) := by decide +kernel
theorem dX0_keepUnlessError_6 : decode cX0_keepUnlessError 6 = .ok (.aload_n 0, 1) := by decide +kernel
theorem dX0_keepUnlessError_7 : decode cX0_keepUnlessError 7 = .ok (.getfield 22, 3) := by decide +kernel
theorem dX0_keepUnlessError_10 : decode cX0_keepUnlessError 10 = .ok (.iconst 4, 1) := by decide +kernel
theorem dX0_keepUnlessError_11 : decode cX0_keepUnlessError 11 = .ok (.if_icmp .ge 16, 3) := by decide +kernel
theorem dX0_keepUnlessError_14 : decode cX0_keepUnlessError 14 = .ok (.aload_n 0, 1) := by decide +kernel
theorem dX0_keepUnlessError_15 : decode cX0_keepUnlessError 15 = .ok (.dup, 1) := by decide +kernel
theorem dX0_keepUnlessError_16 : decode cX0_keepUnlessError 16 = .ok (.getfield 22, 3) := by decide +kernel
theorem dX0_keepUnlessError_19 : decode cX0_keepUnlessError 19 = .ok (.iconst 1, 1) := by decide +kernel
theorem dX0_keepUnlessError_20 : decode cX0_keepUnlessError 20 = .ok (.iadd, 1) := by decide +kernel
theorem dX0_keepUnlessError_21 : decode cX0_keepUnlessError 21 = .ok (.putfield 22, 3) := by decide +kernel
theorem dX0_keepUnlessError_24 : decode cX0_keepUnlessError 24 = .ok (.goto 15, 3) := by decide +kernel
theorem dX0_keepUnlessError_27 : decode cX0_keepUnlessError 27 = .ok (.aload_n 0, 1) := by decide +kernel
theorem dX0_keepUnlessError_28 : decode cX0_keepUnlessError 28 = .ok (.aload_n 0, 1) := by decide +kernel
theorem dX0_keepUnlessError_29 : decode cX0_keepUnlessError 29 = .ok (.getfield 18, 3) := by decide +kernel
theorem dX0_keepUnlessError_32 : decode cX0_keepUnlessError 32 = .ok (.iconst 1, 1) := by decide +kernel
theorem dX0_keepUnlessError_33 : decode cX0_keepUnlessError 33 = .ok (.iadd, 1) := by decide +kernel
theorem dX0_keepUnlessError_34 : decode cX0_keepUnlessError 34 = .ok (.iconst 5, 1) := by decide +kernel
theorem dX0_keepUnlessError_35 : decode cX0_keepUnlessError 35 = .ok (.irem, 1) := by decide +kernel
theorem dX0_keepUnlessError_36 : decode cX0_keepUnlessError 36 = .ok (.putfield 18, 3) := by decide +kernel
theorem dX0_keepUnlessError_39 : decode cX0_keepUnlessError 39 = .ok (.iload_n 1, 1) := by decide +kernel
theorem dX0_keepUnlessError_40 : decode cX0_keepUnlessError 40 = .ok (.ireturn, 1) := by decide +kernel
set_option maxRecDepth 20000 in
theorem ggX0_bringBack_X0_stateAt : GoodIn wsX0_bringBack wsX0_stateAt := goodIn_r _ [7, 8, 9, 20, 21, 22] (by decide +kernel) (by decide +kernel)
set_option maxRecDepth 20000 in
theorem gX0_bringBack_X0_stateAt : GoodIn wsX0_bringBack (wsV RX0 25 RX0 yX0_stateAt wsX0_stateAt) := goodIn_app (goodIn_of _ (by decide +kernel)) ggX0_bringBack_X0_stateAt
set_option maxRecDepth 20000 in
theorem ggX0_bringBack_X3_copyFrom : GoodIn wsX0_bringBack wsX3_copyFrom := goodIn_r _ [14, 15, 16, 17, 18, 19, 23] (by decide +kernel) (by decide +kernel)
set_option maxRecDepth 20000 in
theorem gX0_bringBack_X3_copyFrom : GoodIn wsX0_bringBack (wsV RX0 29 RX3 yX3_copyFrom wsX3_copyFrom) := goodIn_app (goodIn_of _ (by decide +kernel)) ggX0_bringBack_X3_copyFrom
theorem dX0_bringBack_0 : decode cX0_bringBack 0 = .ok (.aload_n 0, 1) := by decide +kernel
theorem dX0_bringBack_1 : decode cX0_bringBack 1 = .ok (.getfield 22, 3) := by decide +kernel
theorem dX0_bringBack_4 : decode cX0_bringBack 4 = .ok (.ifCond .ne 6, 3) := by decide +kernel
theorem dX0_bringBack_7 : decode cX0_bringBack 7 = .ok (.ldc 33, 2) := by decide +kernel
theorem dX0_bringBack_9 : decode cX0_bringBack 9 = .ok (.ireturn, 1) := by decide +kernel
theorem dX0_bringBack_10 : decode cX0_bringBack 10 = .ok (.aload_n 0, 1) := by decide +kernel
theorem dX0_bringBack_11 : decode cX0_bringBack 11 = .ok (.dup, 1) := by decide +kernel
theorem dX0_bringBack_12 : decode cX0_bringBack 12 = .ok (.getfield 22, 3) := by decide +kernel
theorem dX0_bringBack_15 : decode cX0_bringBack 15 = .ok (.iconst 1, 1) := by decide +kernel
theorem dX0_bringBack_16 : decode cX0_bringBack 16 = .ok (.isub, 1) := by decide +kernel
theorem dX0_bringBack_17 : decode cX0_bringBack 17 = .ok (.putfield 22, 3) := by decide +kernel
theorem dX0_bringBack_20 : decode cX0_bringBack 20 = .ok (.aload_n 1, 1) := by decide +kernel
theorem dX0_bringBack_21 : decode cX0_bringBack 21 = .ok (.aload_n 0, 1) := by decide +kernel
theorem dX0_bringBack_22 : decode cX0_bringBack 22 = .ok (.aload_n 0, 1) := by decide +kernel
theorem dX0_bringBack_23 : decode cX0_bringBack 23 = .ok (.getfield 22, 3) := by decide +kernel
theorem dX0_bringBack_26 : decode cX0_bringBack 26 = .ok (.invokevirtual 25, 3) := by decide +kernel
theorem dX0_bringBack_29 : decode cX0_bringBack 29 = .ok (.invokevirtual 29, 3) := by decide +kernel
theorem dX0_bringBack_32 : decode cX0_bringBack 32 = .ok (.aload_n 0, 1) := by decide +kernel
theorem dX0_bringBack_33 : decode cX0_bringBack 33 = .ok (.getfield 22, 3) := by decide +kernel
theorem dX0_bringBack_36 : decode cX0_bringBack 36 = .ok (.ireturn, 1) := by decide +kernel
theorem dX0_stateAt_0 : decode cX0_stateAt 0 = .ok (.aload_n 0, 1) := by decide +kernel
theorem dX0_stateAt_1 : decode cX0_stateAt 1 = .ok (.getfield 18, 3) := by decide +kernel
theorem dX0_stateAt_4 : decode cX0_stateAt 4 = .ok (.iload_n 1, 1) := by decide +kernel
theorem dX0_stateAt_5 : decode cX0_stateAt 5 = .ok (.iadd, 1) := by decide +kernel
theorem dX0_stateAt_6 : decode cX0_stateAt 6 = .ok (.iconst 5, 1) := by decide +kernel
theorem dX0_stateAt_7 : decode cX0_stateAt 7 = .ok (.irem, 1) := by decide +kernel
theorem dX0_stateAt_8 : decode cX0_stateAt 8 = .ok (.istore_n 2, 1) := by decide +kernel
theorem dX0_stateAt_9 : decode cX0_stateAt 9 = .ok (.iload_n 2, 1) := by decide +kernel
theorem dX0_stateAt_10 : decode cX0_stateAt 10 = .ok (.ifCond .lt 12, 3) := by decide +kernel
theorem dX0_stateAt_13 : decode cX0_stateAt 13 = .ok (.aload_n 0, 1) := by decide +kernel
theorem dX0_stateAt_14 : decode cX0_stateAt 14 = .ok (.getfield 13, 3) := by decide +kernel
theorem dX0_stateAt_17 : decode cX0_stateAt 17 = .ok (.iload_n 2, 1) := by decide +kernel
theorem dX0_stateAt_18 : decode cX0_stateAt 18 = .ok (.aaload, 1) := by decide +kernel
theorem dX0_stateAt_19 : decode cX0_stateAt 19 = .ok (.goto 4, 3) := by decide +kernel
theorem dX0_stateAt_22 : decode cX0_stateAt 22 = .ok (.aconst_null, 1) := by decide +kernel
theorem dX0_stateAt_23 : decode cX0_stateAt 23 = .ok (.areturn, 1) := by decide +kernel
set_option maxRecDepth 20000 in
theorem ggX1_init_X3_init : GoodIn wsX1_init wsX3_init := goodIn_r _ [14, 15, 2, 3, 8, 16, 21] (by decide +kernel) (by decide +kernel)
set_option maxRecDepth 20000 in
theorem gX1_init_X3_init : GoodIn wsX1_init (wsX3_init) := ggX1_init_X3_init
theorem dX1_init_0 : decode cX1_init 0 = .ok (.aload_n 0, 1) := by decide +kernel
theorem dX1_init_1 : decode cX1_init 1 = .ok (.invokespecial 3, 3) := by decide +kernel
theorem dX1_init_4 : decode cX1_init 4 = .ok (.aload_n 0, 1) := by decide +kernel
theorem dX1_init_5 : decode cX1_init 5 = .ok (.iconst 4, 1) := by decide +kernel
theorem dX1_init_6 : decode cX1_init 6 = .ok (.anewarray 11, 3) := by decide +kernel
theorem dX1_init_9 : decode cX1_init 9 = .ok (.putfield 13, 3) := by decide +kernel
theorem dX1_init_12 : decode cX1_init 12 = .ok (.iconst 0, 1) := by decide +kernel
theorem dX1_init_13 : decode cX1_init 13 = .ok (.istore_n 1, 1) := by decide +kernel
theorem dX1_init_14 : decode cX1_init 14 = .ok (.iload_n 1, 1) := by decide +kernel
theorem dX1_init_15 : decode cX1_init 15 = .ok (.iconst 4, 1) := by decide +kernel
theorem dX1_init_16 : decode cX1_init 16 = .ok (.if_icmp .ge 22, 3) := by decide +kernel
theorem dX1_init_19 : decode cX1_init 19 = .ok (.aload_n 0, 1) := by decide +kernel
theorem dX1_init_20 : decode cX1_init 20 = .ok (.getfield 13, 3) := by decide +kernel
theorem dX1_init_23 : decode cX1_init 23 = .ok (.iload_n 1, 1) := by decide +kernel
theorem dX1_init_24 : decode cX1_init 24 = .ok (.new 11, 3) := by decide +kernel
theorem dX1_init_27 : decode cX1_init 27 = .ok (.dup, 1) := by decide +kernel
theorem dX1_init_28 : decode cX1_init 28 = .ok (.invokespecial 17, 3) := by decide +kernel
theorem dX1_init_31 : decode cX1_init 31 = .ok (.aastore, 1) := by decide +kernel
theorem dX1_init_32 : decode cX1_init 32 = .ok (.iinc 1 1, 3) := by decide +kernel
theorem dX1_init_35 : decode cX1_init 35 = .ok (.goto (-21), 3) := by decide +kernel
theorem dX1_init_38 : decode cX1_init 38 = .ok (.aload_n 0, 1) := by decide +kernel
theorem dX1_init_39 : decode cX1_init 39 = .ok (.iconst 4, 1) := by decide +kernel
theorem dX1_init_40 : decode cX1_init 40 = .ok (.newarray .int, 2) := by decide +kernel
theorem dX1_init_42 : decode cX1_init 42 = .ok (.putfield 18, 3) := by decide +kernel
theorem dX1_init_45 : decode cX1_init 45 = .ok (.aload_n 0, 1) := by decide +kernel
theorem dX1_init_46 : decode cX1_init 46 = .ok (.iconst 4, 1) := by decide +kernel
theorem dX1_init_47 : decode cX1_init 47 = .ok (.newarray .int, 2) := by decide +kernel
theorem dX1_init_49 : decode cX1_init 49 = .ok (.putfield 22, 3) := by decide +kernel
theorem dX1_init_52 : decode cX1_init 52 = .ok (.aload_n 0, 1) := by decide +kernel
theorem dX1_init_53 : decode cX1_init 53 = .ok (.iconst 0, 1) := by decide +kernel
theorem dX1_init_54 : decode cX1_init 54 = .ok (.putfield 25, 3) := by decide +kernel
theorem dX1_init_57 : decode cX1_init 57 = .ok (.return_, 1) := by decide +kernel
set_option maxRecDepth 20000 in
theorem ggX1_findBest_X1_lostRows : GoodIn wsX1_findBest wsX1_lostRows := goodIn_r _ [6, 7, 8, 9, 10, 11, 12, 13, 14, 15, 16, 17, 120] (by decide +kernel) (by decide +kernel)
set_option maxRecDepth 20000 in
theorem gX1_findBest_X1_lostRows : GoodIn wsX1_findBest (va_wsS RX1 29 yX1_lostRows wsX1_lostRows) := goodIn_app (goodIn_of _ (by decide +kernel)) ggX1_findBest_X1_lostRows
set_option maxRecDepth 20000 in
theorem ggX1_findBest_X1_tryOrders : GoodIn wsX1_findBest wsX1_tryOrders := goodIn_r _ [21, 22, 2, 23, 3, 4, 5, 6, 7, 8, 9, 10, 11, 12, 13, 14, 15, 16, 17, 24, 25, 26, 27, 28, 29, 30, 31, 32, 33, 34, 35, 36, 37, 38, 39, 40, 41, 42, 43, 44, 45, 46, 47, 48, 49, 50, 51, 52, 53, 54, 55, 56, 57, 58, 59, 60, 61, 62, 63, 64, 65, 66, 67, 68, 69, 70, 71, 72, 73, 74, 75, 76, 77, 78, 79, 80, 81, 82, 83, 84, 85, 86, 87, 88, 89, 90, 91, 92, 93, 94, 95, 96, 97, 98, 99, 100, 101, 102, 103, 104, 105, 106, 107, 108, 109, 110, 111, 112, 113, 114, 115, 18, 19, 20, 116, 117, 118, 119, 120] (by decide +kernel) (by decide +kernel)
set_option maxRecDepth 20000 in
theorem gX1_findBest_X1_tryOrders : GoodIn wsX1_findBest (wsV RX1 34 RX1 yX1_tryOrders wsX1_tryOrders) := goodIn_app (goodIn_of _ (by decide +kernel)) ggX1_findBest_X1_tryOrders
theorem dX1_findBest_0 : decode cX1_findBest 0 = .ok (.aload_n 1, 1) := by decide +kernel
theorem dX1_findBest_1 : decode cX1_findBest 1 = .ok (.invokestatic 29, 3) := by decide +kernel
theorem dX1_findBest_4 : decode cX1_findBest 4 = .ok (.istore_n 2, 1) := by decide +kernel
theorem dX1_findBest_5 : decode cX1_findBest 5 = .ok (.iload_n 2, 1) := by decide +kernel
theorem dX1_findBest_6 : decode cX1_findBest 6 = .ok (.iconst 4, 1) := by decide +kernel
theorem dX1_findBest_7 : decode cX1_findBest 7 = .ok (.if_icmp .le 6, 3) := by decide +kernel
theorem dX1_findBest_10 : decode cX1_findBest 10 = .ok (.ldc 33, 2) := by decide +kernel
theorem dX1_findBest_12 : decode cX1_findBest 12 = .ok (.ireturn, 1) := by decide +kernel
theorem dX1_findBest_13 : decode cX1_findBest 13 = .ok (.aload_n 0, 1) := by decide +kernel
theorem dX1_findBest_14 : decode cX1_findBest 14 = .ok (.iconst (-1), 1) := by decide +kernel
theorem dX1_findBest_15 : decode cX1_findBest 15 = .ok (.putfield 25, 3) := by decide +kernel
theorem dX1_findBest_18 : decode cX1_findBest 18 = .ok (.aload_n 0, 1) := by decide +kernel
theorem dX1_findBest_19 : decode cX1_findBest 19 = .ok (.aload_n 1, 1) := by decide +kernel
theorem dX1_findBest_20 : decode cX1_findBest 20 = .ok (.iconst 0, 1) := by decide +kernel
theorem dX1_findBest_21 : decode cX1_findBest 21 = .ok (.iconst 0, 1) := by decide +kernel
theorem dX1_findBest_22 : decode cX1_findBest 22 = .ok (.invokevirtual 34, 3) := by decide +kernel
theorem dX1_findBest_25 : decode cX1_findBest 25 = .ok (.iload_n 2, 1) := by decide +kernel
theorem dX1_findBest_26 : decode cX1_findBest 26 = .ok (.ireturn, 1) := by decide +kernel
theorem dX1_bestRow_0 : decode cX1_bestRow 0 = .ok (.iload_n 1, 1) := by decide +kernel
theorem dX1_bestRow_1 : decode cX1_bestRow 1 = .ok (.ifCond .lt 17, 3) := by decide +kernel
theorem dX1_bestRow_4 : decode cX1_bestRow 4 = .ok (.iload_n 1, 1) := by decide +kernel
theorem dX1_bestRow_5 : decode cX1_bestRow 5 = .ok (.iconst 4, 1) := by decide +kernel
theorem dX1_bestRow_6 : decode cX1_bestRow 6 = .ok (.if_icmp .ge 12, 3) := by decide +kernel
theorem dX1_bestRow_9 : decode cX1_bestRow 9 = .ok (.aload_n 0, 1) := by decide +kernel
theorem dX1_bestRow_10 : decode cX1_bestRow 10 = .ok (.getfield 22, 3) := by decide +kernel
theorem dX1_bestRow_13 : decode cX1_bestRow 13 = .ok (.iload_n 1, 1) := by decide +kernel
theorem dX1_bestRow_14 : decode cX1_bestRow 14 = .ok (.iaload, 1) := by decide +kernel
theorem dX1_bestRow_15 : decode cX1_bestRow 15 = .ok (.goto 5, 3) := by decide +kernel
theorem dX1_bestRow_18 : decode cX1_bestRow 18 = .ok (.ldc 38, 2) := by decide +kernel
theorem dX1_bestRow_20 : decode cX1_bestRow 20 = .ok (.ireturn, 1) := by decide +kernel
theorem dX1_bestSum_0 : decode cX1_bestSum 0 = .ok (.aload_n 0, 1) := by decide +kernel
theorem dX1_bestSum_1 : decode cX1_bestSum 1 = .ok (.getfield 25, 3) := by decide +kernel
theorem dX1_bestSum_4 : decode cX1_bestSum 4 = .ok (.ireturn, 1) := by decide +kernel
set_option maxRecDepth 20000 in
theorem ggX1_tryOrders_X1_lostRows : GoodIn wsX1_tryOrders wsX1_lostRows := goodIn_r _ [7, 8, 9, 10, 11, 12, 13, 14, 15, 16, 17, 18, 118] (by decide +kernel) (by decide +kernel)
set_option maxRecDepth 20000 in
theorem gX1_tryOrders_X1_lostRows : GoodIn wsX1_tryOrders (va_wsS RX1 29 yX1_lostRows wsX1_lostRows) := goodIn_app (goodIn_of _ (by decide +kernel)) ggX1_tryOrders_X1_lostRows
set_option maxRecDepth 20000 in
theorem ggX1_tryOrders_X1_keepIfBetter : GoodIn wsX1_tryOrders wsX1_keepIfBetter := goodIn_r _ [22, 2, 3, 23, 24, 25, 26, 27, 114, 115, 116, 117] (by decide +kernel) (by decide +kernel)
set_option maxRecDepth 20000 in
theorem gX1_tryOrders_X1_keepIfBetter : GoodIn wsX1_tryOrders (wsV RX1 39 RX1 yX1_keepIfBetter wsX1_keepIfBetter) := goodIn_app (goodIn_of _ (by decide +kernel)) ggX1_tryOrders_X1_keepIfBetter
set_option maxRecDepth 20000 in
theorem ggX1_tryOrders_X1_stillComing : GoodIn wsX1_tryOrders wsX1_stillComing := goodIn_r _ [30, 8, 9, 10, 11, 12, 13, 14, 15, 16, 17, 18, 31, 32, 33, 34, 35, 36, 37, 38, 39, 40, 41, 42, 43, 44, 45, 46, 47, 48, 49, 50, 51, 52, 53, 54, 55, 56, 57, 58, 118] (by decide +kernel) (by decide +kernel)
set_option maxRecDepth 20000 in
theorem gX1_tryOrders_X1_stillComing : GoodIn wsX1_tryOrders (va_wsS RX1 43 yX1_stillComing wsX1_stillComing) := goodIn_app (goodIn_of _ (by decide +kernel)) ggX1_tryOrders_X1_stillComing
set_option maxRecDepth 20000 in
theorem ggX1_tryOrders_X3_get : GoodIn wsX1_tryOrders wsX3_get := goodIn_r _ [12, 13, 118] (by decide +kernel) (by decide +kernel)
set_option maxRecDepth 20000 in
theorem gX1_tryOrders_X3_get : GoodIn wsX1_tryOrders (wsV RX1 46 RX3 yX3_get wsX3_get) := goodIn_app (goodIn_of _ (by decide +kernel)) ggX1_tryOrders_X3_get
set_option maxRecDepth 20000 in
theorem ggX1_tryOrders_X3_lives : GoodIn wsX1_tryOrders wsX3_lives := goodIn_r _ [17, 18, 9, 10, 11, 12, 13, 118] (by decide +kernel) (by decide +kernel)
set_option maxRecDepth 20000 in
theorem gX1_tryOrders_X3_lives : GoodIn wsX1_tryOrders (wsV RX1 50 RX3 yX3_lives wsX3_lives) := goodIn_app (goodIn_of _ (by decide +kernel)) ggX1_tryOrders_X3_lives
set_option maxRecDepth 20000 in
theorem ggX1_tryOrders_X3_copyFrom : GoodIn wsX1_tryOrders wsX3_copyFrom := goodIn_r _ [62, 13, 63, 25, 26, 27, 118] (by decide +kernel) (by decide +kernel)
set_option maxRecDepth 20000 in
theorem gX1_tryOrders_X3_copyFrom : GoodIn wsX1_tryOrders (wsV RX1 54 RX3 yX3_copyFrom wsX3_copyFrom) := goodIn_app (goodIn_of _ (by decide +kernel)) ggX1_tryOrders_X3_copyFrom
set_option maxRecDepth 20000 in
theorem ggX1_tryOrders_X3_mendRow : GoodIn wsX1_tryOrders wsX3_mendRow := goodIn_r _ [67, 68, 69, 70, 71, 72, 11, 73, 18, 9, 10, 12, 13, 74, 15, 16, 17, 75, 32, 33, 34, 35, 36, 37, 38, 39, 40, 41, 42, 43, 44, 45, 46, 47, 48, 49, 50, 51, 52, 53, 54, 55, 56, 57, 58, 76, 77, 78, 79, 80, 81, 82, 83, 84, 85, 86, 87, 88, 89, 90, 91, 92, 93, 94, 95, 96, 97, 98, 99, 100, 101, 102, 103, 104, 105, 106, 107, 108, 109, 110, 118] (by decide +kernel) (by decide +kernel)
set_option maxRecDepth 20000 in
theorem gX1_tryOrders_X3_mendRow : GoodIn wsX1_tryOrders (wsV RX1 58 RX3 yX3_mendRow wsX3_mendRow) := goodIn_app (goodIn_of _ (by decide +kernel)) ggX1_tryOrders_X3_mendRow
set_option maxRecDepth 20000 in
theorem ggX1_tryOrders_X1_tryOrders : GoodIn wsX1_tryOrders wsX1_tryOrders := goodIn_r _ [0, 1, 2, 3, 4, 5, 6, 7, 8, 9, 10, 11, 12, 13, 14, 15, 16, 17, 18, 19, 20, 21, 22, 23, 24, 25, 26, 27, 28, 29, 30, 31, 32, 33, 34, 35, 36, 37, 38, 39, 40, 41, 42, 43, 44, 45, 46, 47, 48, 49, 50, 51, 52, 53, 54, 55, 56, 57, 58, 59, 60, 61, 62, 63, 64, 65, 66, 67, 68, 69, 70, 71, 72, 73, 74, 75, 76, 77, 78, 79, 80, 81, 82, 83, 84, 85, 86, 87, 88, 89, 90, 91, 92, 93, 94, 95, 96, 97, 98, 99, 100, 101, 102, 103, 104, 105, 106, 107, 108, 109, 110, 111, 112, 113, 114, 115, 116, 117, 118] (by decide +kernel) (by decide +kernel)
set_option maxRecDepth 20000 in
theorem gX1_tryOrders_X1_tryOrders : GoodIn wsX1_tryOrders (wsV RX1 34 RX1 yX1_tryOrders wsX1_tryOrders) := goodIn_app (goodIn_of _ (by decide +kernel)) ggX1_tryOrders_X1_tryOrders
theorem dX1_tryOrders_0 : decode cX1_tryOrders 0 = .ok (.aload_n 1, 1) := by decide +kernel
theorem dX1_tryOrders_1 : decode cX1_tryOrders 1 = .ok (.invokestatic 29, 3) := by decide +kernel
theorem dX1_tryOrders_4 : decode cX1_tryOrders 4 = .ok (.ifCond .ne 9, 3) := by decide +kernel
theorem dX1_tryOrders_7 : decode cX1_tryOrders 7 = .ok (.aload_n 0, 1) := by decide +kernel
theorem dX1_tryOrders_8 : decode cX1_tryOrders 8 = .ok (.iload_n 3, 1) := by decide +kernel
theorem dX1_tryOrders_9 : decode cX1_tryOrders 9 = .ok (.invokevirtual 39, 3) := by decide +kernel
theorem dX1_tryOrders_12 : decode cX1_tryOrders 12 = .ok (.return_, 1) := by decide +kernel
theorem dX1_tryOrders_13 : decode cX1_tryOrders 13 = .ok (.iload_n 2, 1) := by decide +kernel
theorem dX1_tryOrders_14 : decode cX1_tryOrders 14 = .ok (.ifCond .lt 17, 3) := by decide +kernel
theorem dX1_tryOrders_17 : decode cX1_tryOrders 17 = .ok (.iload_n 2, 1) := by decide +kernel
theorem dX1_tryOrders_18 : decode cX1_tryOrders 18 = .ok (.iconst 4, 1) := by decide +kernel
theorem dX1_tryOrders_19 : decode cX1_tryOrders 19 = .ok (.if_icmp .ge 12, 3) := by decide +kernel
theorem dX1_tryOrders_22 : decode cX1_tryOrders 22 = .ok (.aload_n 0, 1) := by decide +kernel
theorem dX1_tryOrders_23 : decode cX1_tryOrders 23 = .ok (.getfield 13, 3) := by decide +kernel
theorem dX1_tryOrders_26 : decode cX1_tryOrders 26 = .ok (.iload_n 2, 1) := by decide +kernel
theorem dX1_tryOrders_27 : decode cX1_tryOrders 27 = .ok (.aaload, 1) := by decide +kernel
theorem dX1_tryOrders_28 : decode cX1_tryOrders 28 = .ok (.ifnonnull 4, 3) := by decide +kernel
theorem dX1_tryOrders_31 : decode cX1_tryOrders 31 = .ok (.return_, 1) := by decide +kernel
theorem dX1_tryOrders_32 : decode cX1_tryOrders 32 = .ok (.aload_n 0, 1) := by decide +kernel
theorem dX1_tryOrders_33 : decode cX1_tryOrders 33 = .ok (.getfield 13, 3) := by decide +kernel
theorem dX1_tryOrders_36 : decode cX1_tryOrders 36 = .ok (.iload_n 2, 1) := by decide +kernel
theorem dX1_tryOrders_37 : decode cX1_tryOrders 37 = .ok (.aaload, 1) := by decide +kernel
theorem dX1_tryOrders_38 : decode cX1_tryOrders 38 = .ok (.astore 4, 2) := by decide +kernel
theorem dX1_tryOrders_40 : decode cX1_tryOrders 40 = .ok (.iload_n 3, 1) := by decide +kernel
theorem dX1_tryOrders_41 : decode cX1_tryOrders 41 = .ok (.aload_n 1, 1) := by decide +kernel
theorem dX1_tryOrders_42 : decode cX1_tryOrders 42 = .ok (.invokestatic 43, 3) := by decide +kernel
theorem dX1_tryOrders_45 : decode cX1_tryOrders 45 = .ok (.iadd, 1) := by decide +kernel
theorem dX1_tryOrders_46 : decode cX1_tryOrders 46 = .ok (.istore 5, 2) := by decide +kernel
theorem dX1_tryOrders_48 : decode cX1_tryOrders 48 = .ok (.iconst 0, 1) := by decide +kernel
theorem dX1_tryOrders_49 : decode cX1_tryOrders 49 = .ok (.istore 6, 2) := by decide +kernel
theorem dX1_tryOrders_51 : decode cX1_tryOrders 51 = .ok (.iload 6, 2) := by decide +kernel
theorem dX1_tryOrders_53 : decode cX1_tryOrders 53 = .ok (.aload_n 1, 1) := by decide +kernel
theorem dX1_tryOrders_54 : decode cX1_tryOrders 54 = .ok (.iconst 1, 1) := by decide +kernel
theorem dX1_tryOrders_55 : decode cX1_tryOrders 55 = .ok (.invokevirtual 46, 3) := by decide +kernel
theorem dX1_tryOrders_58 : decode cX1_tryOrders 58 = .ok (.if_icmp .ge 59, 3) := by decide +kernel
theorem dX1_tryOrders_61 : decode cX1_tryOrders 61 = .ok (.aload_n 1, 1) := by decide +kernel
theorem dX1_tryOrders_62 : decode cX1_tryOrders 62 = .ok (.iload 6, 2) := by decide +kernel
theorem dX1_tryOrders_64 : decode cX1_tryOrders 64 = .ok (.invokevirtual 50, 3) := by decide +kernel
theorem dX1_tryOrders_67 : decode cX1_tryOrders 67 = .ok (.ifCond .ne 44, 3) := by decide +kernel
theorem dX1_tryOrders_70 : decode cX1_tryOrders 70 = .ok (.iload 5, 2) := by decide +kernel
theorem dX1_tryOrders_72 : decode cX1_tryOrders 72 = .ok (.aload_n 0, 1) := by decide +kernel
theorem dX1_tryOrders_73 : decode cX1_tryOrders 73 = .ok (.getfield 25, 3) := by decide +kernel
theorem dX1_tryOrders_76 : decode cX1_tryOrders 76 = .ok (.if_icmp .le 35, 3) := by decide +kernel
theorem dX1_tryOrders_79 : decode cX1_tryOrders 79 = .ok (.aload 4, 2) := by decide +kernel
theorem dX1_tryOrders_81 : decode cX1_tryOrders 81 = .ok (.aload_n 1, 1) := by decide +kernel
theorem dX1_tryOrders_82 : decode cX1_tryOrders 82 = .ok (.invokevirtual 54, 3) := by decide +kernel
theorem dX1_tryOrders_85 : decode cX1_tryOrders 85 = .ok (.aload_n 0, 1) := by decide +kernel
theorem dX1_tryOrders_86 : decode cX1_tryOrders 86 = .ok (.getfield 18, 3) := by decide +kernel
theorem dX1_tryOrders_89 : decode cX1_tryOrders 89 = .ok (.iload_n 2, 1) := by decide +kernel
theorem dX1_tryOrders_90 : decode cX1_tryOrders 90 = .ok (.iload 6, 2) := by decide +kernel
theorem dX1_tryOrders_92 : decode cX1_tryOrders 92 = .ok (.iastore, 1) := by decide +kernel
theorem dX1_tryOrders_93 : decode cX1_tryOrders 93 = .ok (.aload_n 0, 1) := by decide +kernel
theorem dX1_tryOrders_94 : decode cX1_tryOrders 94 = .ok (.aload 4, 2) := by decide +kernel
theorem dX1_tryOrders_96 : decode cX1_tryOrders 96 = .ok (.iload_n 2, 1) := by decide +kernel
theorem dX1_tryOrders_97 : decode cX1_tryOrders 97 = .ok (.iconst 1, 1) := by decide +kernel
theorem dX1_tryOrders_98 : decode cX1_tryOrders 98 = .ok (.iadd, 1) := by decide +kernel
theorem dX1_tryOrders_99 : decode cX1_tryOrders 99 = .ok (.iload_n 3, 1) := by decide +kernel
theorem dX1_tryOrders_100 : decode cX1_tryOrders 100 = .ok (.aload 4, 2) := by decide +kernel
theorem dX1_tryOrders_102 : decode cX1_tryOrders 102 = .ok (.iload 6, 2) := by decide +kernel
theorem dX1_tryOrders_104 : decode cX1_tryOrders 104 = .ok (.invokevirtual 58, 3) := by decide +kernel
theorem dX1_tryOrders_107 : decode cX1_tryOrders 107 = .ok (.iadd, 1) := by decide +kernel
theorem dX1_tryOrders_108 : decode cX1_tryOrders 108 = .ok (.invokevirtual 34, 3) := by decide +kernel
theorem dX1_tryOrders_111 : decode cX1_tryOrders 111 = .ok (.iinc 6 1, 3) := by decide +kernel
theorem dX1_tryOrders_114 : decode cX1_tryOrders 114 = .ok (.goto (-63), 3) := by decide +kernel
theorem dX1_tryOrders_117 : decode cX1_tryOrders 117 = .ok (.return_, 1) := by decide +kernel
theorem dX1_keepIfBetter_0 : decode cX1_keepIfBetter 0 = .ok (.iload_n 1, 1) := by decide +kernel
theorem dX1_keepIfBetter_1 : decode cX1_keepIfBetter 1 = .ok (.aload_n 0, 1) := by decide +kernel
theorem dX1_keepIfBetter_2 : decode cX1_keepIfBetter 2 = .ok (.getfield 25, 3) := by decide +kernel
theorem dX1_keepIfBetter_5 : decode cX1_keepIfBetter 5 = .ok (.if_icmp .le 22, 3) := by decide +kernel
theorem dX1_keepIfBetter_8 : decode cX1_keepIfBetter 8 = .ok (.aload_n 0, 1) := by decide +kernel
theorem dX1_keepIfBetter_9 : decode cX1_keepIfBetter 9 = .ok (.iload_n 1, 1) := by decide +kernel
theorem dX1_keepIfBetter_10 : decode cX1_keepIfBetter 10 = .ok (.putfield 25, 3) := by decide +kernel
theorem dX1_keepIfBetter_13 : decode cX1_keepIfBetter 13 = .ok (.aload_n 0, 1) := by decide +kernel
theorem dX1_keepIfBetter_14 : decode cX1_keepIfBetter 14 = .ok (.getfield 18, 3) := by decide +kernel
theorem dX1_keepIfBetter_17 : decode cX1_keepIfBetter 17 = .ok (.iconst 0, 1) := by decide +kernel
theorem dX1_keepIfBetter_18 : decode cX1_keepIfBetter 18 = .ok (.aload_n 0, 1) := by decide +kernel
theorem dX1_keepIfBetter_19 : decode cX1_keepIfBetter 19 = .ok (.getfield 22, 3) := by decide +kernel
theorem dX1_keepIfBetter_22 : decode cX1_keepIfBetter 22 = .ok (.iconst 0, 1) := by decide +kernel
theorem dX1_keepIfBetter_23 : decode cX1_keepIfBetter 23 = .ok (.iconst 4, 1) := by decide +kernel
theorem dX1_keepIfBetter_24 : decode cX1_keepIfBetter 24 = .ok (.invokestatic 61, 3) := by decide +kernel
theorem dX1_keepIfBetter_27 : decode cX1_keepIfBetter 27 = .ok (.return_, 1) := by decide +kernel
set_option maxRecDepth 20000 in
theorem ggX1_lostRows_X3_get : GoodIn wsX1_lostRows wsX3_get := goodIn_r _ [5, 6, 12] (by decide +kernel) (by decide +kernel)
set_option maxRecDepth 20000 in
theorem gX1_lostRows_X3_get : GoodIn wsX1_lostRows (wsV RX1 46 RX3 yX3_get wsX3_get) := goodIn_app (goodIn_of _ (by decide +kernel)) ggX1_lostRows_X3_get
set_option maxRecDepth 20000 in
theorem ggX1_lostRows_X3_lives : GoodIn wsX1_lostRows wsX3_lives := goodIn_r _ [10, 11, 2, 3, 4, 5, 6, 12] (by decide +kernel) (by decide +kernel)
set_option maxRecDepth 20000 in
theorem gX1_lostRows_X3_lives : GoodIn wsX1_lostRows (wsV RX1 50 RX3 yX3_lives wsX3_lives) := goodIn_app (goodIn_of _ (by decide +kernel)) ggX1_lostRows_X3_lives
theorem dX1_lostRows_0 : decode cX1_lostRows 0 = .ok (.iconst 0, 1) := by decide +kernel
theorem dX1_lostRows_1 : decode cX1_lostRows 1 = .ok (.istore_n 1, 1) := by decide +kernel
theorem dX1_lostRows_2 : decode cX1_lostRows 2 = .ok (.iconst 0, 1) := by decide +kernel
theorem dX1_lostRows_3 : decode cX1_lostRows 3 = .ok (.istore_n 2, 1) := by decide +kernel
theorem dX1_lostRows_4 : decode cX1_lostRows 4 = .ok (.iload_n 2, 1) := by decide +kernel
theorem dX1_lostRows_5 : decode cX1_lostRows 5 = .ok (.aload_n 0, 1) := by decide +kernel
theorem dX1_lostRows_6 : decode cX1_lostRows 6 = .ok (.iconst 1, 1) := by decide +kernel
theorem dX1_lostRows_7 : decode cX1_lostRows 7 = .ok (.invokevirtual 46, 3) := by decide +kernel
theorem dX1_lostRows_10 : decode cX1_lostRows 10 = .ok (.if_icmp .ge 25, 3) := by decide +kernel
theorem dX1_lostRows_13 : decode cX1_lostRows 13 = .ok (.iload_n 1, 1) := by decide +kernel
theorem dX1_lostRows_14 : decode cX1_lostRows 14 = .ok (.aload_n 0, 1) := by decide +kernel
theorem dX1_lostRows_15 : decode cX1_lostRows 15 = .ok (.iload_n 2, 1) := by decide +kernel
theorem dX1_lostRows_16 : decode cX1_lostRows 16 = .ok (.invokevirtual 50, 3) := by decide +kernel
theorem dX1_lostRows_19 : decode cX1_lostRows 19 = .ok (.ifCond .eq 7, 3) := by decide +kernel
theorem dX1_lostRows_22 : decode cX1_lostRows 22 = .ok (.iconst 0, 1) := by decide +kernel
theorem dX1_lostRows_23 : decode cX1_lostRows 23 = .ok (.goto 4, 3) := by decide +kernel
theorem dX1_lostRows_26 : decode cX1_lostRows 26 = .ok (.iconst 1, 1) := by decide +kernel
theorem dX1_lostRows_27 : decode cX1_lostRows 27 = .ok (.iadd, 1) := by decide +kernel
theorem dX1_lostRows_28 : decode cX1_lostRows 28 = .ok (.istore_n 1, 1) := by decide +kernel
theorem dX1_lostRows_29 : decode cX1_lostRows 29 = .ok (.iinc 2 1, 3) := by decide +kernel
theorem dX1_lostRows_32 : decode cX1_lostRows 32 = .ok (.goto (-28), 3) := by decide +kernel
theorem dX1_lostRows_35 : decode cX1_lostRows 35 = .ok (.iload_n 1, 1) := by decide +kernel
theorem dX1_lostRows_36 : decode cX1_lostRows 36 = .ok (.ireturn, 1) := by decide +kernel
set_option maxRecDepth 20000 in
theorem ggX1_stillComing_X3_get : GoodIn wsX1_stillComing wsX3_get := goodIn_r _ [5, 6, 40] (by decide +kernel) (by decide +kernel)
set_option maxRecDepth 20000 in
theorem gX1_stillComing_X3_get : GoodIn wsX1_stillComing (wsV RX1 46 RX3 yX3_get wsX3_get) := goodIn_app (goodIn_of _ (by decide +kernel)) ggX1_stillComing_X3_get
set_option maxRecDepth 20000 in
theorem ggX1_stillComing_X3_lives : GoodIn wsX1_stillComing wsX3_lives := goodIn_r _ [10, 11, 2, 3, 4, 5, 6, 40] (by decide +kernel) (by decide +kernel)
set_option maxRecDepth 20000 in
theorem gX1_stillComing_X3_lives : GoodIn wsX1_stillComing (wsV RX1 50 RX3 yX3_lives wsX3_lives) := goodIn_app (goodIn_of _ (by decide +kernel)) ggX1_stillComing_X3_lives
set_option maxRecDepth 20000 in
theorem ggX1_stillComing_X3_comingBack : GoodIn wsX1_stillComing wsX3_comingBack := goodIn_r _ [15, 16, 17, 18, 4, 19, 20, 21, 22, 23, 24, 25, 26, 11, 2, 3, 5, 6, 27, 28, 29, 30, 31, 32, 33, 34, 35, 36, 37, 38, 39, 40] (by decide +kernel) (by decide +kernel)
set_option maxRecDepth 20000 in
theorem gX1_stillComing_X3_comingBack : GoodIn wsX1_stillComing (wsV RX1 67 RX3 yX3_comingBack wsX3_comingBack) := goodIn_app (goodIn_of _ (by decide +kernel)) ggX1_stillComing_X3_comingBack
theorem dX1_stillComing_0 : decode cX1_stillComing 0 = .ok (.iconst 0, 1) := by decide +kernel
theorem dX1_stillComing_1 : decode cX1_stillComing 1 = .ok (.istore_n 1, 1) := by decide +kernel
theorem dX1_stillComing_2 : decode cX1_stillComing 2 = .ok (.iconst 0, 1) := by decide +kernel
theorem dX1_stillComing_3 : decode cX1_stillComing 3 = .ok (.istore_n 2, 1) := by decide +kernel
theorem dX1_stillComing_4 : decode cX1_stillComing 4 = .ok (.iload_n 2, 1) := by decide +kernel
theorem dX1_stillComing_5 : decode cX1_stillComing 5 = .ok (.aload_n 0, 1) := by decide +kernel
theorem dX1_stillComing_6 : decode cX1_stillComing 6 = .ok (.iconst 1, 1) := by decide +kernel
theorem dX1_stillComing_7 : decode cX1_stillComing 7 = .ok (.invokevirtual 46, 3) := by decide +kernel
theorem dX1_stillComing_10 : decode cX1_stillComing 10 = .ok (.if_icmp .ge 29, 3) := by decide +kernel
theorem dX1_stillComing_13 : decode cX1_stillComing 13 = .ok (.iload_n 1, 1) := by decide +kernel
theorem dX1_stillComing_14 : decode cX1_stillComing 14 = .ok (.aload_n 0, 1) := by decide +kernel
theorem dX1_stillComing_15 : decode cX1_stillComing 15 = .ok (.iload_n 2, 1) := by decide +kernel
theorem dX1_stillComing_16 : decode cX1_stillComing 16 = .ok (.invokevirtual 50, 3) := by decide +kernel
theorem dX1_stillComing_19 : decode cX1_stillComing 19 = .ok (.ifCond .eq 7, 3) := by decide +kernel
theorem dX1_stillComing_22 : decode cX1_stillComing 22 = .ok (.iconst 0, 1) := by decide +kernel
theorem dX1_stillComing_23 : decode cX1_stillComing 23 = .ok (.goto 8, 3) := by decide +kernel
theorem dX1_stillComing_26 : decode cX1_stillComing 26 = .ok (.aload_n 0, 1) := by decide +kernel
theorem dX1_stillComing_27 : decode cX1_stillComing 27 = .ok (.iload_n 2, 1) := by decide +kernel
theorem dX1_stillComing_28 : decode cX1_stillComing 28 = .ok (.invokevirtual 67, 3) := by decide +kernel
theorem dX1_stillComing_31 : decode cX1_stillComing 31 = .ok (.iadd, 1) := by decide +kernel
theorem dX1_stillComing_32 : decode cX1_stillComing 32 = .ok (.istore_n 1, 1) := by decide +kernel
theorem dX1_stillComing_33 : decode cX1_stillComing 33 = .ok (.iinc 2 1, 3) := by decide +kernel
theorem dX1_stillComing_36 : decode cX1_stillComing 36 = .ok (.goto (-32), 3) := by decide +kernel
theorem dX1_stillComing_39 : decode cX1_stillComing 39 = .ok (.iload_n 1, 1) := by decide +kernel
theorem dX1_stillComing_40 : decode cX1_stillComing 40 = .ok (.ireturn, 1) := by decide +kernel
theorem dX2_init_0 : decode cX2_init 0 = .ok (.aload_n 0, 1) := by decide +kernel
theorem dX2_init_1 : decode cX2_init 1 = .ok (.invokespecial 3, 3) := by decide +kernel
theorem dX2_init_4 : decode cX2_init 4 = .ok (.aload_n 0, 1) := by decide +kernel
theorem dX2_init_5 : decode cX2_init 5 = .ok (.bipush 60, 2) := by decide +kernel
theorem dX2_init_7 : decode cX2_init 7 = .ok (.newarray .int, 2) := by decide +kernel
theorem dX2_init_9 : decode cX2_init 9 = .ok (.putfield 11, 3) := by decide +kernel
theorem dX2_init_12 : decode cX2_init 12 = .ok (.aload_n 0, 1) := by decide +kernel
theorem dX2_init_13 : decode cX2_init 13 = .ok (.iconst 3, 1) := by decide +kernel
theorem dX2_init_14 : decode cX2_init 14 = .ok (.newarray .int, 2) := by decide +kernel
theorem dX2_init_16 : decode cX2_init 16 = .ok (.putfield 15, 3) := by decide +kernel
theorem dX2_init_19 : decode cX2_init 19 = .ok (.aload_n 0, 1) := by decide +kernel
theorem dX2_init_20 : decode cX2_init 20 = .ok (.iconst 0, 1) := by decide +kernel
theorem dX2_init_21 : decode cX2_init 21 = .ok (.putfield 18, 3) := by decide +kernel
theorem dX2_init_24 : decode cX2_init 24 = .ok (.aload_n 0, 1) := by decide +kernel
theorem dX2_init_25 : decode cX2_init 25 = .ok (.iconst 0, 1) := by decide +kernel
theorem dX2_init_26 : decode cX2_init 26 = .ok (.putfield 22, 3) := by decide +kernel
theorem dX2_init_29 : decode cX2_init 29 = .ok (.aload_n 0, 1) := by decide +kernel
theorem dX2_init_30 : decode cX2_init 30 = .ok (.iconst 0, 1) := by decide +kernel
theorem dX2_init_31 : decode cX2_init 31 = .ok (.putfield 25, 3) := by decide +kernel
theorem dX2_init_34 : decode cX2_init 34 = .ok (.aload_n 0, 1) := by decide +kernel
theorem dX2_init_35 : decode cX2_init 35 = .ok (.iconst 0, 1) := by decide +kernel
theorem dX2_init_36 : decode cX2_init 36 = .ok (.putfield 28, 3) := by decide +kernel
theorem dX2_init_39 : decode cX2_init 39 = .ok (.aload_n 0, 1) := by decide +kernel
theorem dX2_init_40 : decode cX2_init 40 = .ok (.iconst 0, 1) := by decide +kernel
theorem dX2_init_41 : decode cX2_init 41 = .ok (.putfield 31, 3) := by decide +kernel
theorem dX2_init_44 : decode cX2_init 44 = .ok (.return_, 1) := by decide +kernel
theorem dX2_length_0 : decode cX2_length 0 = .ok (.aload_n 0, 1) := by decide +kernel
theorem dX2_length_1 : decode cX2_length 1 = .ok (.getfield 18, 3) := by decide +kernel
theorem dX2_length_4 : decode cX2_length 4 = .ok (.ireturn, 1) := by decide +kernel
theorem dX2_append_0 : decode cX2_append 0 = .ok (.iload_n 1, 1) := by decide +kernel
theorem dX2_append_1 : decode cX2_append 1 = .ok (.bipush 32, 2) := by decide +kernel
theorem dX2_append_3 : decode cX2_append 3 = .ok (.if_icmp .lt 9, 3) := by decide +kernel
theorem dX2_append_6 : decode cX2_append 6 = .ok (.iload_n 1, 1) := by decide +kernel
theorem dX2_append_7 : decode cX2_append 7 = .ok (.bipush 126, 2) := by decide +kernel
theorem dX2_append_9 : decode cX2_append 9 = .ok (.if_icmp .le 6, 3) := by decide +kernel
theorem dX2_append_12 : decode cX2_append 12 = .ok (.ldc 34, 2) := by decide +kernel
theorem dX2_append_14 : decode cX2_append 14 = .ok (.ireturn, 1) := by decide +kernel
theorem dX2_append_15 : decode cX2_append 15 = .ok (.aload_n 0, 1) := by decide +kernel
theorem dX2_append_16 : decode cX2_append 16 = .ok (.getfield 18, 3) := by decide +kernel
theorem dX2_append_19 : decode cX2_append 19 = .ok (.ifCond .lt 12, 3) := by decide +kernel
theorem dX2_append_22 : decode cX2_append 22 = .ok (.aload_n 0, 1) := by decide +kernel
theorem dX2_append_23 : decode cX2_append 23 = .ok (.getfield 18, 3) := by decide +kernel
theorem dX2_append_26 : decode cX2_append 26 = .ok (.bipush 60, 2) := by decide +kernel
theorem dX2_append_28 : decode cX2_append 28 = .ok (.if_icmp .lt 6, 3) := by decide +kernel
theorem dX2_append_31 : decode cX2_append 31 = .ok (.ldc 35, 2) := by decide +kernel
theorem dX2_append_33 : decode cX2_append 33 = .ok (.ireturn, 1) := by decide +kernel
theorem dX2_append_34 : decode cX2_append 34 = .ok (.aload_n 0, 1) := by decide +kernel
theorem dX2_append_35 : decode cX2_append 35 = .ok (.getfield 11, 3) := by decide +kernel
theorem dX2_append_38 : decode cX2_append 38 = .ok (.aload_n 0, 1) := by decide +kernel
theorem dX2_append_39 : decode cX2_append 39 = .ok (.getfield 18, 3) := by decide +kernel
theorem dX2_append_42 : decode cX2_append 42 = .ok (.iload_n 1, 1) := by decide +kernel
theorem dX2_append_43 : decode cX2_append 43 = .ok (.iastore, 1) := by decide +kernel
theorem dX2_append_44 : decode cX2_append 44 = .ok (.aload_n 0, 1) := by decide +kernel
theorem dX2_append_45 : decode cX2_append 45 = .ok (.dup, 1) := by decide +kernel
theorem dX2_append_46 : decode cX2_append 46 = .ok (.getfield 18, 3) := by decide +kernel
theorem dX2_append_49 : decode cX2_append 49 = .ok (.iconst 1, 1) := by decide +kernel
theorem dX2_append_50 : decode cX2_append 50 = .ok (.iadd, 1) := by decide +kernel
theorem dX2_append_51 : decode cX2_append 51 = .ok (.putfield 18, 3) := by decide +kernel
theorem dX2_append_54 : decode cX2_append 54 = .ok (.aload_n 0, 1) := by decide +kernel
theorem dX2_append_55 : decode cX2_append 55 = .ok (.getfield 18, 3) := by decide +kernel
theorem dX2_append_58 : decode cX2_append 58 = .ok (.ireturn, 1) := by decide +kernel
theorem dX2_empty_0 : decode cX2_empty 0 = .ok (.aload_n 0, 1) := by decide +kernel
theorem dX2_empty_1 : decode cX2_empty 1 = .ok (.getfield 18, 3) := by decide +kernel
theorem dX2_empty_4 : decode cX2_empty 4 = .ok (.istore_n 1, 1) := by decide +kernel
theorem dX2_empty_5 : decode cX2_empty 5 = .ok (.aload_n 0, 1) := by decide +kernel
theorem dX2_empty_6 : decode cX2_empty 6 = .ok (.iconst 0, 1) := by decide +kernel
theorem dX2_empty_7 : decode cX2_empty 7 = .ok (.putfield 18, 3) := by decide +kernel
theorem dX2_empty_10 : decode cX2_empty 10 = .ok (.iload_n 1, 1) := by decide +kernel
theorem dX2_empty_11 : decode cX2_empty 11 = .ok (.ireturn, 1) := by decide +kernel
theorem dX2_ofFault_0 : decode cX2_ofFault 0 = .ok (.iload_n 1, 1) := by decide +kernel
theorem dX2_ofFault_1 : decode cX2_ofFault 1 = .ok (.lookupswitch 37 #[(0, 27), (1, 32)], 27) := by decide +kernel
theorem dX2_ofFault_28 : decode cX2_ofFault 28 = .ok (.aload_n 0, 1) := by decide +kernel
theorem dX2_ofFault_29 : decode cX2_ofFault 29 = .ok (.getfield 25, 3) := by decide +kernel
theorem dX2_ofFault_32 : decode cX2_ofFault 32 = .ok (.ireturn, 1) := by decide +kernel
theorem dX2_ofFault_33 : decode cX2_ofFault 33 = .ok (.aload_n 0, 1) := by decide +kernel
theorem dX2_ofFault_34 : decode cX2_ofFault 34 = .ok (.getfield 28, 3) := by decide +kernel
theorem dX2_ofFault_37 : decode cX2_ofFault 37 = .ok (.ireturn, 1) := by decide +kernel
theorem dX2_ofFault_38 : decode cX2_ofFault 38 = .ok (.aload_n 0, 1) := by decide +kernel
theorem dX2_ofFault_39 : decode cX2_ofFault 39 = .ok (.getfield 31, 3) := by decide +kernel
theorem dX2_ofFault_42 : decode cX2_ofFault 42 = .ok (.ireturn, 1) := by decide +kernel
set_option maxRecDepth 20000 in
theorem ggX2_run_X2_readOrder : GoodIn wsX2_run wsX2_readOrder := goodIn_r _ [8, 1, 3, 9, 10, 11, 7, 12, 2, 13, 14, 15, 16, 17, 18, 19, 20, 21, 22, 23, 24, 142, 143, 144, 145, 146, 147, 148] (by decide +kernel) (by decide +kernel)
set_option maxRecDepth 20000 in
theorem gX2_run_X2_readOrder : GoodIn wsX2_run (wsV RX2 36 RX2 yX2_readOrder wsX2_readOrder) := goodIn_app (goodIn_of _ (by decide +kernel)) ggX2_run_X2_readOrder
set_option maxRecDepth 20000 in
theorem ggX2_run_X2_foundFault : GoodIn wsX2_run wsX2_foundFault := goodIn_r _ [28, 29, 30, 31, 142, 143, 144, 145, 146, 147, 148] (by decide +kernel) (by decide +kernel)
set_option maxRecDepth 20000 in
theorem gX2_run_X2_foundFault : GoodIn wsX2_run (wsV RX2 40 RX2 yX2_foundFault wsX2_foundFault) := goodIn_app (goodIn_of _ (by decide +kernel)) ggX2_run_X2_foundFault
set_option maxRecDepth 20000 in
theorem ggX2_run_X2_signAt : GoodIn wsX2_run wsX2_signAt := goodIn_r _ [12, 2, 13, 142, 143, 144, 145, 146, 147, 148] (by decide +kernel) (by decide +kernel)
set_option maxRecDepth 20000 in
theorem gX2_run_X2_signAt : GoodIn wsX2_run (wsV RX2 44 RX2 yX2_signAt wsX2_signAt) := goodIn_app (goodIn_of _ (by decide +kernel)) ggX2_run_X2_signAt
set_option maxRecDepth 20000 in
theorem ggX2_run_X3_writeCell : GoodIn wsX2_run wsX3_writeCell := goodIn_r _ [36, 37, 38, 39, 40, 41, 35, 42, 43, 44, 45, 46, 47, 48, 49, 50, 51, 52, 53, 54, 55, 56, 57, 58, 59, 60, 61, 62, 63, 64, 65, 66, 67, 68, 69, 70, 71, 72, 73, 74, 75, 76, 77, 78, 79, 80, 81, 82, 83, 84, 85, 22, 23, 24, 86, 87, 88, 149] (by decide +kernel) (by decide +kernel)
set_option maxRecDepth 20000 in
theorem gX2_run_X3_writeCell : GoodIn wsX2_run (wsV RX2 48 RX3 yX3_writeCell wsX3_writeCell) := goodIn_app (goodIn_of _ (by decide +kernel)) ggX2_run_X3_writeCell
set_option maxRecDepth 20000 in
theorem ggX2_run_X3_loseRow : GoodIn wsX2_run wsX3_loseRow := goodIn_r _ [92, 37, 38, 39, 40, 41, 35, 42, 43, 44, 45, 46, 47, 51, 52, 53, 54, 93, 94, 95, 96, 97, 98, 99, 100, 63, 64, 65, 66, 67, 68, 69, 78, 79, 80, 101, 102, 103, 104, 105, 106, 107, 108, 109, 110, 55, 56, 57, 58, 59, 60, 61, 62, 149] (by decide +kernel) (by decide +kernel)
set_option maxRecDepth 20000 in
theorem gX2_run_X3_loseRow : GoodIn wsX2_run (wsV RX2 53 RX3 yX3_loseRow wsX3_loseRow) := goodIn_app (goodIn_of _ (by decide +kernel)) ggX2_run_X3_loseRow
set_option maxRecDepth 20000 in
theorem ggX2_run_X3_mendRow : GoodIn wsX2_run wsX3_mendRow := goodIn_r _ [114, 37, 38, 39, 40, 41, 35, 42, 43, 44, 45, 46, 47, 51, 52, 53, 54, 93, 94, 95, 96, 97, 98, 99, 100, 63, 64, 65, 66, 67, 68, 69, 78, 79, 80, 101, 102, 103, 104, 105, 106, 107, 108, 109, 110, 115, 116, 117, 118, 55, 56, 57, 58, 59, 60, 61, 62, 119, 120, 121, 122, 70, 71, 72, 73, 74, 75, 76, 77, 81, 82, 83, 84, 85, 22, 23, 24, 86, 87, 88, 149] (by decide +kernel) (by decide +kernel)
set_option maxRecDepth 20000 in
theorem gX2_run_X3_mendRow : GoodIn wsX2_run (wsV RX2 56 RX3 yX3_mendRow wsX3_mendRow) := goodIn_app (goodIn_of _ (by decide +kernel)) ggX2_run_X3_mendRow
set_option maxRecDepth 20000 in
theorem ggX2_run_X3_swapRows : GoodIn wsX2_run wsX3_swapRows := goodIn_r _ [126, 37, 38, 127, 128, 23, 129, 130, 131, 132, 39, 40, 41, 35, 42, 43, 44, 45, 46, 47, 51, 52, 53, 54, 55, 56, 57, 58, 149] (by decide +kernel) (by decide +kernel)
set_option maxRecDepth 20000 in
theorem gX2_run_X3_swapRows : GoodIn wsX2_run (wsV RX2 59 RX3 yX3_swapRows wsX3_swapRows) := goodIn_app (goodIn_of _ (by decide +kernel)) ggX2_run_X3_swapRows
set_option maxRecDepth 20000 in
theorem ggX2_run_X3_layAnew : GoodIn wsX2_run wsX3_layAnew := goodIn_r _ [136, 37, 38, 39, 40, 41, 35, 42, 43, 44, 45, 46, 47, 51, 52, 53, 54, 119, 120, 121, 122, 66, 67, 68, 69, 63, 64, 65, 70, 71, 72, 73, 74, 75, 76, 77, 78, 79, 80, 55, 56, 57, 58, 81, 82, 83, 84, 85, 22, 23, 24, 59, 60, 61, 62, 86, 87, 88, 149] (by decide +kernel) (by decide +kernel)
set_option maxRecDepth 20000 in
theorem gX2_run_X3_layAnew : GoodIn wsX2_run (wsV RX2 63 RX3 yX3_layAnew wsX3_layAnew) := goodIn_app (goodIn_of _ (by decide +kernel)) ggX2_run_X3_layAnew
set_option maxRecDepth 20000 in
theorem ggX2_run_X3_endDays : GoodIn wsX2_run wsX3_endDays := goodIn_r _ [140, 37, 141, 43, 44, 45, 35, 46, 47, 59, 60, 61, 62, 55, 56, 57, 58, 149] (by decide +kernel) (by decide +kernel)
set_option maxRecDepth 20000 in
theorem gX2_run_X3_endDays : GoodIn wsX2_run (wsV RX2 66 RX3 yX3_endDays wsX3_endDays) := goodIn_app (goodIn_of _ (by decide +kernel)) ggX2_run_X3_endDays
theorem dX2_run_0 : decode cX2_run 0 = .ok (.aload_n 0, 1) := by decide +kernel
theorem dX2_run_1 : decode cX2_run 1 = .ok (.iconst 0, 1) := by decide +kernel
theorem dX2_run_2 : decode cX2_run 2 = .ok (.putfield 22, 3) := by decide +kernel
theorem dX2_run_5 : decode cX2_run 5 = .ok (.iconst 0, 1) := by decide +kernel
theorem dX2_run_6 : decode cX2_run 6 = .ok (.istore_n 2, 1) := by decide +kernel
theorem dX2_run_7 : decode cX2_run 7 = .ok (.aload_n 0, 1) := by decide +kernel
theorem dX2_run_8 : decode cX2_run 8 = .ok (.getfield 22, 3) := by decide +kernel
theorem dX2_run_11 : decode cX2_run 11 = .ok (.aload_n 0, 1) := by decide +kernel
theorem dX2_run_12 : decode cX2_run 12 = .ok (.getfield 18, 3) := by decide +kernel
theorem dX2_run_15 : decode cX2_run 15 = .ok (.if_icmp .ge 214, 3) := by decide +kernel
theorem dX2_run_18 : decode cX2_run 18 = .ok (.iload_n 2, 1) := by decide +kernel
theorem dX2_run_19 : decode cX2_run 19 = .ok (.bipush 60, 2) := by decide +kernel
theorem dX2_run_21 : decode cX2_run 21 = .ok (.if_icmp .ge 208, 3) := by decide +kernel
theorem dX2_run_24 : decode cX2_run 24 = .ok (.aload_n 0, 1) := by decide +kernel
theorem dX2_run_25 : decode cX2_run 25 = .ok (.getfield 22, 3) := by decide +kernel
theorem dX2_run_28 : decode cX2_run 28 = .ok (.istore_n 3, 1) := by decide +kernel
theorem dX2_run_29 : decode cX2_run 29 = .ok (.aload_n 0, 1) := by decide +kernel
theorem dX2_run_30 : decode cX2_run 30 = .ok (.invokevirtual 36, 3) := by decide +kernel
theorem dX2_run_33 : decode cX2_run 33 = .ok (.ifCond .ne 16, 3) := by decide +kernel
theorem dX2_run_36 : decode cX2_run 36 = .ok (.aload_n 0, 1) := by decide +kernel
theorem dX2_run_37 : decode cX2_run 37 = .ok (.iload_n 3, 1) := by decide +kernel
theorem dX2_run_38 : decode cX2_run 38 = .ok (.iconst 1, 1) := by decide +kernel
theorem dX2_run_39 : decode cX2_run 39 = .ok (.aload_n 0, 1) := by decide +kernel
theorem dX2_run_40 : decode cX2_run 40 = .ok (.getfield 22, 3) := by decide +kernel
theorem dX2_run_43 : decode cX2_run 43 = .ok (.iload_n 3, 1) := by decide +kernel
theorem dX2_run_44 : decode cX2_run 44 = .ok (.isub, 1) := by decide +kernel
theorem dX2_run_45 : decode cX2_run 45 = .ok (.invokevirtual 40, 3) := by decide +kernel
theorem dX2_run_48 : decode cX2_run 48 = .ok (.ireturn, 1) := by decide +kernel
theorem dX2_run_49 : decode cX2_run 49 = .ok (.aload_n 0, 1) := by decide +kernel
theorem dX2_run_50 : decode cX2_run 50 = .ok (.iload_n 3, 1) := by decide +kernel
theorem dX2_run_51 : decode cX2_run 51 = .ok (.invokevirtual 44, 3) := by decide +kernel
theorem dX2_run_54 : decode cX2_run 54 = .ok (.lookupswitch 143 #[(97, 128), (108, 77), (109, 92), (115, 107), (119, 50)], 50) := by decide +kernel
theorem dX2_run_104 : decode cX2_run 104 = .ok (.aload_n 1, 1) := by decide +kernel
theorem dX2_run_105 : decode cX2_run 105 = .ok (.aload_n 0, 1) := by decide +kernel
theorem dX2_run_106 : decode cX2_run 106 = .ok (.getfield 15, 3) := by decide +kernel
theorem dX2_run_109 : decode cX2_run 109 = .ok (.iconst 0, 1) := by decide +kernel
theorem dX2_run_110 : decode cX2_run 110 = .ok (.iaload, 1) := by decide +kernel
theorem dX2_run_111 : decode cX2_run 111 = .ok (.aload_n 0, 1) := by decide +kernel
theorem dX2_run_112 : decode cX2_run 112 = .ok (.getfield 15, 3) := by decide +kernel
theorem dX2_run_115 : decode cX2_run 115 = .ok (.iconst 1, 1) := by decide +kernel
theorem dX2_run_116 : decode cX2_run 116 = .ok (.iaload, 1) := by decide +kernel
theorem dX2_run_117 : decode cX2_run 117 = .ok (.aload_n 0, 1) := by decide +kernel
theorem dX2_run_118 : decode cX2_run 118 = .ok (.getfield 15, 3) := by decide +kernel
theorem dX2_run_121 : decode cX2_run 121 = .ok (.iconst 2, 1) := by decide +kernel
theorem dX2_run_122 : decode cX2_run 122 = .ok (.iaload, 1) := by decide +kernel
theorem dX2_run_123 : decode cX2_run 123 = .ok (.invokevirtual 48, 3) := by decide +kernel
theorem dX2_run_126 : decode cX2_run 126 = .ok (.istore 4, 2) := by decide +kernel
theorem dX2_run_128 : decode cX2_run 128 = .ok (.goto 81, 3) := by decide +kernel
theorem dX2_run_131 : decode cX2_run 131 = .ok (.aload_n 1, 1) := by decide +kernel
theorem dX2_run_132 : decode cX2_run 132 = .ok (.aload_n 0, 1) := by decide +kernel
theorem dX2_run_133 : decode cX2_run 133 = .ok (.getfield 15, 3) := by decide +kernel
theorem dX2_run_136 : decode cX2_run 136 = .ok (.iconst 0, 1) := by decide +kernel
theorem dX2_run_137 : decode cX2_run 137 = .ok (.iaload, 1) := by decide +kernel
theorem dX2_run_138 : decode cX2_run 138 = .ok (.invokevirtual 53, 3) := by decide +kernel
theorem dX2_run_141 : decode cX2_run 141 = .ok (.istore 4, 2) := by decide +kernel
theorem dX2_run_143 : decode cX2_run 143 = .ok (.goto 66, 3) := by decide +kernel
theorem dX2_run_146 : decode cX2_run 146 = .ok (.aload_n 1, 1) := by decide +kernel
theorem dX2_run_147 : decode cX2_run 147 = .ok (.aload_n 0, 1) := by decide +kernel
theorem dX2_run_148 : decode cX2_run 148 = .ok (.getfield 15, 3) := by decide +kernel
theorem dX2_run_151 : decode cX2_run 151 = .ok (.iconst 0, 1) := by decide +kernel
theorem dX2_run_152 : decode cX2_run 152 = .ok (.iaload, 1) := by decide +kernel
theorem dX2_run_153 : decode cX2_run 153 = .ok (.invokevirtual 56, 3) := by decide +kernel
theorem dX2_run_156 : decode cX2_run 156 = .ok (.istore 4, 2) := by decide +kernel
theorem dX2_run_158 : decode cX2_run 158 = .ok (.goto 51, 3) := by decide +kernel
theorem dX2_run_161 : decode cX2_run 161 = .ok (.aload_n 1, 1) := by decide +kernel
theorem dX2_run_162 : decode cX2_run 162 = .ok (.aload_n 0, 1) := by decide +kernel
theorem dX2_run_163 : decode cX2_run 163 = .ok (.getfield 15, 3) := by decide +kernel
theorem dX2_run_166 : decode cX2_run 166 = .ok (.iconst 0, 1) := by decide +kernel
theorem dX2_run_167 : decode cX2_run 167 = .ok (.iaload, 1) := by decide +kernel
theorem dX2_run_168 : decode cX2_run 168 = .ok (.aload_n 0, 1) := by decide +kernel
theorem dX2_run_169 : decode cX2_run 169 = .ok (.getfield 15, 3) := by decide +kernel
theorem dX2_run_172 : decode cX2_run 172 = .ok (.iconst 1, 1) := by decide +kernel
theorem dX2_run_173 : decode cX2_run 173 = .ok (.iaload, 1) := by decide +kernel
theorem dX2_run_174 : decode cX2_run 174 = .ok (.invokevirtual 59, 3) := by decide +kernel
theorem dX2_run_177 : decode cX2_run 177 = .ok (.istore 4, 2) := by decide +kernel
theorem dX2_run_179 : decode cX2_run 179 = .ok (.goto 30, 3) := by decide +kernel
theorem dX2_run_182 : decode cX2_run 182 = .ok (.aload_n 1, 1) := by decide +kernel
theorem dX2_run_183 : decode cX2_run 183 = .ok (.aload_n 0, 1) := by decide +kernel
theorem dX2_run_184 : decode cX2_run 184 = .ok (.getfield 15, 3) := by decide +kernel
theorem dX2_run_187 : decode cX2_run 187 = .ok (.iconst 0, 1) := by decide +kernel
theorem dX2_run_188 : decode cX2_run 188 = .ok (.iaload, 1) := by decide +kernel
theorem dX2_run_189 : decode cX2_run 189 = .ok (.invokevirtual 63, 3) := by decide +kernel
theorem dX2_run_192 : decode cX2_run 192 = .ok (.istore 4, 2) := by decide +kernel
theorem dX2_run_194 : decode cX2_run 194 = .ok (.goto 15, 3) := by decide +kernel
theorem dX2_run_197 : decode cX2_run 197 = .ok (.aload_n 1, 1) := by decide +kernel
theorem dX2_run_198 : decode cX2_run 198 = .ok (.aload_n 0, 1) := by decide +kernel
theorem dX2_run_199 : decode cX2_run 199 = .ok (.getfield 15, 3) := by decide +kernel
theorem dX2_run_202 : decode cX2_run 202 = .ok (.iconst 0, 1) := by decide +kernel
theorem dX2_run_203 : decode cX2_run 203 = .ok (.iaload, 1) := by decide +kernel
theorem dX2_run_204 : decode cX2_run 204 = .ok (.invokevirtual 66, 3) := by decide +kernel
theorem dX2_run_207 : decode cX2_run 207 = .ok (.istore 4, 2) := by decide +kernel
theorem dX2_run_209 : decode cX2_run 209 = .ok (.iload 4, 2) := by decide +kernel
theorem dX2_run_211 : decode cX2_run 211 = .ok (.ifCond .ge 12, 3) := by decide +kernel
theorem dX2_run_214 : decode cX2_run 214 = .ok (.aload_n 0, 1) := by decide +kernel
theorem dX2_run_215 : decode cX2_run 215 = .ok (.iload_n 3, 1) := by decide +kernel
theorem dX2_run_216 : decode cX2_run 216 = .ok (.iconst 2, 1) := by decide +kernel
theorem dX2_run_217 : decode cX2_run 217 = .ok (.iload 4, 2) := by decide +kernel
theorem dX2_run_219 : decode cX2_run 219 = .ok (.invokevirtual 40, 3) := by decide +kernel
theorem dX2_run_222 : decode cX2_run 222 = .ok (.ireturn, 1) := by decide +kernel
theorem dX2_run_223 : decode cX2_run 223 = .ok (.iinc 2 1, 3) := by decide +kernel
theorem dX2_run_226 : decode cX2_run 226 = .ok (.goto (-219), 3) := by decide +kernel
theorem dX2_run_229 : decode cX2_run 229 = .ok (.iload_n 2, 1) := by decide +kernel
theorem dX2_run_230 : decode cX2_run 230 = .ok (.ireturn, 1) := by decide +kernel
theorem dX2_foundFault_0 : decode cX2_foundFault 0 = .ok (.aload_n 0, 1) := by decide +kernel
theorem dX2_foundFault_1 : decode cX2_foundFault 1 = .ok (.iload_n 1, 1) := by decide +kernel
theorem dX2_foundFault_2 : decode cX2_foundFault 2 = .ok (.putfield 25, 3) := by decide +kernel
theorem dX2_foundFault_5 : decode cX2_foundFault 5 = .ok (.aload_n 0, 1) := by decide +kernel
theorem dX2_foundFault_6 : decode cX2_foundFault 6 = .ok (.iload_n 2, 1) := by decide +kernel
theorem dX2_foundFault_7 : decode cX2_foundFault 7 = .ok (.putfield 28, 3) := by decide +kernel
theorem dX2_foundFault_10 : decode cX2_foundFault 10 = .ok (.aload_n 0, 1) := by decide +kernel
theorem dX2_foundFault_11 : decode cX2_foundFault 11 = .ok (.iload_n 3, 1) := by decide +kernel
theorem dX2_foundFault_12 : decode cX2_foundFault 12 = .ok (.putfield 31, 3) := by decide +kernel
theorem dX2_foundFault_15 : decode cX2_foundFault 15 = .ok (.iconst (-1), 1) := by decide +kernel
theorem dX2_foundFault_16 : decode cX2_foundFault 16 = .ok (.ireturn, 1) := by decide +kernel
set_option maxRecDepth 20000 in
theorem ggX2_readOrder_X2_signAt : GoodIn wsX2_readOrder wsX2_signAt := goodIn_r _ [7, 8, 9, 21, 22, 23, 24, 25, 26, 27] (by decide +kernel) (by decide +kernel)
set_option maxRecDepth 20000 in
theorem gX2_readOrder_X2_signAt : GoodIn wsX2_readOrder (wsV RX2 44 RX2 yX2_signAt wsX2_signAt) := goodIn_app (goodIn_of _ (by decide +kernel)) ggX2_readOrder_X2_signAt
set_option maxRecDepth 20000 in
theorem ggX2_readOrder_X2_numbersOf : GoodIn wsX2_readOrder wsX2_numbersOf := goodIn_r _ [12] (by decide +kernel) (by decide +kernel)
set_option maxRecDepth 20000 in
theorem gX2_readOrder_X2_numbersOf : GoodIn wsX2_readOrder (va_wsS RX2 69 yX2_numbersOf wsX2_numbersOf) := goodIn_app (goodIn_of _ (by decide +kernel)) ggX2_readOrder_X2_numbersOf
