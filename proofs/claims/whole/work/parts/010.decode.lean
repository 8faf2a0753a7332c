set_option maxRecDepth 20000 in
theorem ggX0_init_X2_init : GoodIn wsX0_init wsX2_init := goodIn_r _ [10, 11, 2, 3, 12, 13, 14, 15, 16, 17, 18, 19, 20, 21, 22, 23, 24, 25, 26, 27, 28, 29, 30, 31, 32, 33, 34, 35, 36, 37, 38, 39, 43, 44, 45, 46, 47, 48, 49, 50, 51, 52, 53, 54, 55, 56, 57, 58] (by decide +kernel) (by decide +kernel)
set_option maxRecDepth 20000 in
theorem gX0_init_X2_init : GoodIn wsX0_init (wsX2_init) := ggX0_init_X2_init
theorem dX0_init_0 : decode cX0_init 0 = .ok (.aload_n 0, 1) := by decide +kernel
theorem dX0_init_1 : decode cX0_init 1 = .ok (.invokespecial 3, 3) := by decide +kernel
theorem dX0_init_4 : decode cX0_init 4 = .ok (.aload_n 0, 1) := by decide +kernel
theorem dX0_init_5 : decode cX0_init 5 = .ok (.bipush 6, 2) := by decide +kernel
theorem dX0_init_7 : decode cX0_init 7 = .ok (.anewarray 9, 3) := by decide +kernel
theorem dX0_init_10 : decode cX0_init 10 = .ok (.putfield 11, 3) := by decide +kernel
theorem dX0_init_13 : decode cX0_init 13 = .ok (.iconst 0, 1) := by decide +kernel
theorem dX0_init_14 : decode cX0_init 14 = .ok (.istore_n 1, 1) := by decide +kernel
theorem dX0_init_15 : decode cX0_init 15 = .ok (.iload_n 1, 1) := by decide +kernel
theorem dX0_init_16 : decode cX0_init 16 = .ok (.aload_n 0, 1) := by decide +kernel
theorem dX0_init_17 : decode cX0_init 17 = .ok (.getfield 11, 3) := by decide +kernel
theorem dX0_init_20 : decode cX0_init 20 = .ok (.arraylength, 1) := by decide +kernel
theorem dX0_init_21 : decode cX0_init 21 = .ok (.if_icmp .ge 22, 3) := by decide +kernel
theorem dX0_init_24 : decode cX0_init 24 = .ok (.aload_n 0, 1) := by decide +kernel
theorem dX0_init_25 : decode cX0_init 25 = .ok (.getfield 11, 3) := by decide +kernel
theorem dX0_init_28 : decode cX0_init 28 = .ok (.iload_n 1, 1) := by decide +kernel
theorem dX0_init_29 : decode cX0_init 29 = .ok (.new 9, 3) := by decide +kernel
theorem dX0_init_32 : decode cX0_init 32 = .ok (.dup, 1) := by decide +kernel
theorem dX0_init_33 : decode cX0_init 33 = .ok (.invokespecial 17, 3) := by decide +kernel
theorem dX0_init_36 : decode cX0_init 36 = .ok (.aastore, 1) := by decide +kernel
theorem dX0_init_37 : decode cX0_init 37 = .ok (.iinc 1 1, 3) := by decide +kernel
theorem dX0_init_40 : decode cX0_init 40 = .ok (.goto (-25), 3) := by decide +kernel
theorem dX0_init_43 : decode cX0_init 43 = .ok (.return_, 1) := by decide +kernel
theorem dX0_length_0 : decode cX0_length 0 = .ok (.aload_n 0, 1) := by decide +kernel
theorem dX0_length_1 : decode cX0_length 1 = .ok (.getfield 18, 3) := by decide +kernel
theorem dX0_length_4 : decode cX0_length 4 = .ok (.ireturn, 1) := by decide +kernel
set_option maxRecDepth 20000 in
theorem ggX0_save_X0_planAt : GoodIn wsX0_save wsX0_planAt := goodIn_r _ [7, 8, 44, 45, 46] (by decide +kernel) (by decide +kernel)
set_option maxRecDepth 20000 in
theorem gX0_save_X0_planAt : GoodIn wsX0_save (wsV RX0 25 RX0 yX0_planAt wsX0_planAt) := goodIn_app (goodIn_of _ (by decide +kernel)) ggX0_save_X0_planAt
set_option maxRecDepth 20000 in
theorem ggX0_save_X2_copyFrom : GoodIn wsX0_save wsX2_copyFrom := goodIn_r _ [13, 14, 15, 16, 17, 18, 19, 20, 21, 22, 23, 24, 25, 26, 27, 28, 29, 30, 31, 32, 33, 34, 35, 36, 37, 38, 39, 40, 41, 42, 43, 47, 48, 49, 50, 51, 52, 53, 54, 55, 56, 57, 58, 59, 60, 61, 62] (by decide +kernel) (by decide +kernel)
set_option maxRecDepth 20000 in
theorem gX0_save_X2_copyFrom : GoodIn wsX0_save (wsV RX0 29 RX2 yX2_copyFrom wsX2_copyFrom) := goodIn_app (goodIn_of _ (by decide +kernel)) ggX0_save_X2_copyFrom
theorem dX0_save_0 : decode cX0_save 0 = .ok (.aload_n 0, 1) := by decide +kernel
theorem dX0_save_1 : decode cX0_save 1 = .ok (.aload_n 0, 1) := by decide +kernel
theorem dX0_save_2 : decode cX0_save 2 = .ok (.getfield 22, 3) := by decide +kernel
theorem dX0_save_5 : decode cX0_save 5 = .ok (.aload_n 0, 1) := by decide +kernel
theorem dX0_save_6 : decode cX0_save 6 = .ok (.getfield 18, 3) := by decide +kernel
theorem dX0_save_9 : decode cX0_save 9 = .ok (.iadd, 1) := by decide +kernel
theorem dX0_save_10 : decode cX0_save 10 = .ok (.invokevirtual 25, 3) := by decide +kernel
theorem dX0_save_13 : decode cX0_save 13 = .ok (.astore_n 2, 1) := by decide +kernel
theorem dX0_save_14 : decode cX0_save 14 = .ok (.aload_n 2, 1) := by decide +kernel
theorem dX0_save_15 : decode cX0_save 15 = .ok (.ifnull 8, 3) := by decide +kernel
theorem dX0_save_18 : decode cX0_save 18 = .ok (.aload_n 2, 1) := by decide +kernel
theorem dX0_save_19 : decode cX0_save 19 = .ok (.aload_n 1, 1) := by decide +kernel
theorem dX0_save_20 : decode cX0_save 20 = .ok (.invokevirtual 29, 3) := by decide +kernel
theorem dX0_save_23 : decode cX0_save 23 = .ok (.aload_n 0, 1) := by decide +kernel
theorem dX0_save_24 : decode cX0_save 24 = .ok (.getfield 18, 3) := by decide +kernel
theorem dX0_save_27 : decode cX0_save 27 = .ok (.bipush 6, 2) := by decide +kernel
theorem dX0_save_29 : decode cX0_save 29 = .ok (.if_icmp .ge 16, 3) := by decide +kernel
theorem dX0_save_32 : decode cX0_save 32 = .ok (.aload_n 0, 1) := by decide +kernel
theorem dX0_save_33 : decode cX0_save 33 = .ok (.dup, 1) := by decide +kernel
theorem dX0_save_34 : decode cX0_save 34 = .ok (.getfield 18, 3) := by decide +kernel
theorem dX0_save_37 : decode cX0_save 37 = .ok (.iconst 1, 1) := by decide +kernel
theorem dX0_save_38 : decode cX0_save 38 = .ok (.iadd, 1) := by decide +kernel
theorem dX0_save_39 : decode cX0_save 39 = .ok (.putfield 18, 3) := by decide +kernel
theorem dX0_save_42 : decode cX0_save 42 = .ok (.goto 16, 3) := by decide +kernel
theorem dX0_save_45 : decode cX0_save 45 = .ok (.aload_n 0, 1) := by decide +kernel
theorem dX0_save_46 : decode cX0_save 46 = .ok (.aload_n 0, 1) := by decide +kernel
theorem dX0_save_47 : decode cX0_save 47 = .ok (.getfield 22, 3) := by decide +kernel
theorem dX0_save_50 : decode cX0_save 50 = .ok (.iconst 1, 1) := by decide +kernel
theorem dX0_save_51 : decode cX0_save 51 = .ok (.iadd, 1) := by decide +kernel
theorem dX0_save_52 : decode cX0_save 52 = .ok (.bipush 6, 2) := by decide +kernel
theorem dX0_save_54 : decode cX0_save 54 = .ok (.irem, 1) := by decide +kernel
theorem dX0_save_55 : decode cX0_save 55 = .ok (.putfield 22, 3) := by decide +kernel
theorem dX0_save_58 : decode cX0_save 58 = .ok (.return_, 1) := by decide +kernel
set_option maxRecDepth 20000 in
theorem ggX0_takeLatest_X0_planAt : GoodIn wsX0_takeLatest wsX0_planAt := goodIn_r _ [7, 8, 44, 45, 46] (by decide +kernel) (by decide +kernel)
set_option maxRecDepth 20000 in
theorem gX0_takeLatest_X0_planAt : GoodIn wsX0_takeLatest (wsV RX0 25 RX0 yX0_planAt wsX0_planAt) := goodIn_app (goodIn_of _ (by decide +kernel)) ggX0_takeLatest_X0_planAt
set_option maxRecDepth 20000 in
theorem ggX0_takeLatest_X2_copyFrom : GoodIn wsX0_takeLatest wsX2_copyFrom := goodIn_r _ [13, 14, 15, 16, 17, 18, 19, 20, 21, 22, 23, 24, 25, 26, 27, 28, 29, 30, 31, 32, 33, 34, 35, 36, 37, 38, 39, 40, 41, 42, 43, 47, 48, 49, 50, 51, 52, 53, 54, 55, 56, 57, 58, 59, 60, 61, 62] (by decide +kernel) (by decide +kernel)
set_option maxRecDepth 20000 in
theorem gX0_takeLatest_X2_copyFrom : GoodIn wsX0_takeLatest (wsV RX0 29 RX2 yX2_copyFrom wsX2_copyFrom) := goodIn_app (goodIn_of _ (by decide +kernel)) ggX0_takeLatest_X2_copyFrom
theorem dX0_takeLatest_0 : decode cX0_takeLatest 0 = .ok (.aload_n 0, 1) := by decide +kernel
theorem dX0_takeLatest_1 : decode cX0_takeLatest 1 = .ok (.getfield 18, 3) := by decide +kernel
theorem dX0_takeLatest_4 : decode cX0_takeLatest 4 = .ok (.ifCond .ne 4, 3) := by decide +kernel
theorem dX0_takeLatest_7 : decode cX0_takeLatest 7 = .ok (.return_, 1) := by decide +kernel
theorem dX0_takeLatest_8 : decode cX0_takeLatest 8 = .ok (.aload_n 0, 1) := by decide +kernel
theorem dX0_takeLatest_9 : decode cX0_takeLatest 9 = .ok (.dup, 1) := by decide +kernel
theorem dX0_takeLatest_10 : decode cX0_takeLatest 10 = .ok (.getfield 18, 3) := by decide +kernel
theorem dX0_takeLatest_13 : decode cX0_takeLatest 13 = .ok (.iconst 1, 1) := by decide +kernel
theorem dX0_takeLatest_14 : decode cX0_takeLatest 14 = .ok (.isub, 1) := by decide +kernel
theorem dX0_takeLatest_15 : decode cX0_takeLatest 15 = .ok (.putfield 18, 3) := by decide +kernel
theorem dX0_takeLatest_18 : decode cX0_takeLatest 18 = .ok (.aload_n 0, 1) := by decide +kernel
theorem dX0_takeLatest_19 : decode cX0_takeLatest 19 = .ok (.aload_n 0, 1) := by decide +kernel
theorem dX0_takeLatest_20 : decode cX0_takeLatest 20 = .ok (.getfield 22, 3) := by decide +kernel
theorem dX0_takeLatest_23 : decode cX0_takeLatest 23 = .ok (.aload_n 0, 1) := by decide +kernel
theorem dX0_takeLatest_24 : decode cX0_takeLatest 24 = .ok (.getfield 18, 3) := by decide +kernel
theorem dX0_takeLatest_27 : decode cX0_takeLatest 27 = .ok (.iadd, 1) := by decide +kernel
theorem dX0_takeLatest_28 : decode cX0_takeLatest 28 = .ok (.invokevirtual 25, 3) := by decide +kernel
theorem dX0_takeLatest_31 : decode cX0_takeLatest 31 = .ok (.astore_n 2, 1) := by decide +kernel
theorem dX0_takeLatest_32 : decode cX0_takeLatest 32 = .ok (.aload_n 2, 1) := by decide +kernel
theorem dX0_takeLatest_33 : decode cX0_takeLatest 33 = .ok (.ifnull 8, 3) := by decide +kernel
theorem dX0_takeLatest_36 : decode cX0_takeLatest 36 = .ok (.aload_n 1, 1) := by decide +kernel
theorem dX0_takeLatest_37 : decode cX0_takeLatest 37 = .ok (.aload_n 2, 1) := by decide +kernel
theorem dX0_takeLatest_38 : decode cX0_takeLatest 38 = .ok (.invokevirtual 29, 3) := by decide +kernel
theorem dX0_takeLatest_41 : decode cX0_takeLatest 41 = .ok (.return_, 1) := by decide +kernel
theorem dX0_planAt_0 : decode cX0_planAt 0 = .ok (.iload_n 1, 1) := by decide +kernel
theorem dX0_planAt_1 : decode cX0_planAt 1 = .ok (.bipush 6, 2) := by decide +kernel
theorem dX0_planAt_3 : decode cX0_planAt 3 = .ok (.irem, 1) := by decide +kernel
theorem dX0_planAt_4 : decode cX0_planAt 4 = .ok (.istore_n 2, 1) := by decide +kernel
theorem dX0_planAt_5 : decode cX0_planAt 5 = .ok (.iload_n 2, 1) := by decide +kernel
theorem dX0_planAt_6 : decode cX0_planAt 6 = .ok (.ifCond .lt 21, 3) := by decide +kernel
theorem dX0_planAt_9 : decode cX0_planAt 9 = .ok (.iload_n 2, 1) := by decide +kernel
theorem dX0_planAt_10 : decode cX0_planAt 10 = .ok (.aload_n 0, 1) := by decide +kernel
theorem dX0_planAt_11 : decode cX0_planAt 11 = .ok (.getfield 11, 3) := by decide +kernel
theorem dX0_planAt_14 : decode cX0_planAt 14 = .ok (.arraylength, 1) := by decide +kernel
theorem dX0_planAt_15 : decode cX0_planAt 15 = .ok (.if_icmp .ge 12, 3) := by decide +kernel
theorem dX0_planAt_18 : decode cX0_planAt 18 = .ok (.aload_n 0, 1) := by decide +kernel
theorem dX0_planAt_19 : decode cX0_planAt 19 = .ok (.getfield 11, 3) := by decide +kernel
theorem dX0_planAt_22 : decode cX0_planAt 22 = .ok (.iload_n 2, 1) := by decide +kernel
theorem dX0_planAt_23 : decode cX0_planAt 23 = .ok (.aaload, 1) := by decide +kernel
theorem dX0_planAt_24 : decode cX0_planAt 24 = .ok (.goto 4, 3) := by decide +kernel
theorem dX0_planAt_27 : decode cX0_planAt 27 = .ok (.aconst_null, 1) := by decide +kernel
theorem dX0_planAt_28 : decode cX0_planAt 28 = .ok (.areturn, 1) := by decide +kernel
theorem dX1_init_0 : decode cX1_init 0 = .ok (.aload_n 0, 1) := by decide +kernel
theorem dX1_init_1 : decode cX1_init 1 = .ok (.invokespecial 3, 3) := by decide +kernel
theorem dX1_init_4 : decode cX1_init 4 = .ok (.aload_n 0, 1) := by decide +kernel
theorem dX1_init_5 : decode cX1_init 5 = .ok (.iload_n 1, 1) := by decide +kernel
theorem dX1_init_6 : decode cX1_init 6 = .ok (.iconst 0, 1) := by decide +kernel
theorem dX1_init_7 : decode cX1_init 7 = .ok (.invokestatic 9, 3) := by decide +kernel
theorem dX1_init_10 : decode cX1_init 10 = .ok (.newarray .int, 2) := by decide +kernel
theorem dX1_init_12 : decode cX1_init 12 = .ok (.putfield 15, 3) := by decide +kernel
theorem dX1_init_15 : decode cX1_init 15 = .ok (.aload_n 0, 1) := by decide +kernel
theorem dX1_init_16 : decode cX1_init 16 = .ok (.iconst 0, 1) := by decide +kernel
theorem dX1_init_17 : decode cX1_init 17 = .ok (.putfield 21, 3) := by decide +kernel
theorem dX1_init_20 : decode cX1_init 20 = .ok (.return_, 1) := by decide +kernel
theorem dX1_length_0 : decode cX1_length 0 = .ok (.aload_n 0, 1) := by decide +kernel
theorem dX1_length_1 : decode cX1_length 1 = .ok (.getfield 21, 3) := by decide +kernel
theorem dX1_length_4 : decode cX1_length 4 = .ok (.ireturn, 1) := by decide +kernel
theorem dX1_isFull_0 : decode cX1_isFull 0 = .ok (.aload_n 0, 1) := by decide +kernel
theorem dX1_isFull_1 : decode cX1_isFull 1 = .ok (.getfield 21, 3) := by decide +kernel
theorem dX1_isFull_4 : decode cX1_isFull 4 = .ok (.aload_n 0, 1) := by decide +kernel
theorem dX1_isFull_5 : decode cX1_isFull 5 = .ok (.getfield 15, 3) := by decide +kernel
theorem dX1_isFull_8 : decode cX1_isFull 8 = .ok (.arraylength, 1) := by decide +kernel
theorem dX1_isFull_9 : decode cX1_isFull 9 = .ok (.if_icmp .lt 7, 3) := by decide +kernel
theorem dX1_isFull_12 : decode cX1_isFull 12 = .ok (.iconst 1, 1) := by decide +kernel
theorem dX1_isFull_13 : decode cX1_isFull 13 = .ok (.goto 4, 3) := by decide +kernel
theorem dX1_isFull_16 : decode cX1_isFull 16 = .ok (.iconst 0, 1) := by decide +kernel
theorem dX1_isFull_17 : decode cX1_isFull 17 = .ok (.ireturn, 1) := by decide +kernel
theorem dX1_itemAt_0 : decode cX1_itemAt 0 = .ok (.iload_n 1, 1) := by decide +kernel
theorem dX1_itemAt_1 : decode cX1_itemAt 1 = .ok (.ifCond .lt 29, 3) := by decide +kernel
theorem dX1_itemAt_4 : decode cX1_itemAt 4 = .ok (.iload_n 1, 1) := by decide +kernel
theorem dX1_itemAt_5 : decode cX1_itemAt 5 = .ok (.aload_n 0, 1) := by decide +kernel
theorem dX1_itemAt_6 : decode cX1_itemAt 6 = .ok (.getfield 21, 3) := by decide +kernel
theorem dX1_itemAt_9 : decode cX1_itemAt 9 = .ok (.if_icmp .ge 21, 3) := by decide +kernel
theorem dX1_itemAt_12 : decode cX1_itemAt 12 = .ok (.iload_n 1, 1) := by decide +kernel
theorem dX1_itemAt_13 : decode cX1_itemAt 13 = .ok (.aload_n 0, 1) := by decide +kernel
theorem dX1_itemAt_14 : decode cX1_itemAt 14 = .ok (.getfield 15, 3) := by decide +kernel
theorem dX1_itemAt_17 : decode cX1_itemAt 17 = .ok (.arraylength, 1) := by decide +kernel
theorem dX1_itemAt_18 : decode cX1_itemAt 18 = .ok (.if_icmp .ge 12, 3) := by decide +kernel
theorem dX1_itemAt_21 : decode cX1_itemAt 21 = .ok (.aload_n 0, 1) := by decide +kernel
theorem dX1_itemAt_22 : decode cX1_itemAt 22 = .ok (.getfield 15, 3) := by decide +kernel
theorem dX1_itemAt_25 : decode cX1_itemAt 25 = .ok (.iload_n 1, 1) := by decide +kernel
theorem dX1_itemAt_26 : decode cX1_itemAt 26 = .ok (.iaload, 1) := by decide +kernel
theorem dX1_itemAt_27 : decode cX1_itemAt 27 = .ok (.goto 4, 3) := by decide +kernel
theorem dX1_itemAt_30 : decode cX1_itemAt 30 = .ok (.iconst (-1), 1) := by decide +kernel
theorem dX1_itemAt_31 : decode cX1_itemAt 31 = .ok (.ireturn, 1) := by decide +kernel
set_option maxRecDepth 20000 in
theorem ggX1_holds_X1_itemAt : GoodIn wsX1_holds wsX1_itemAt := goodIn_r _ [6, 1, 7, 8, 9] (by decide +kernel) (by decide +kernel)
set_option maxRecDepth 20000 in
theorem gX1_holds_X1_itemAt : GoodIn wsX1_holds (wsV RX1 25 RX1 yX1_itemAt wsX1_itemAt) := goodIn_app (goodIn_of _ (by decide +kernel)) ggX1_holds_X1_itemAt
theorem dX1_holds_0 : decode cX1_holds 0 = .ok (.iconst 0, 1) := by decide +kernel
theorem dX1_holds_1 : decode cX1_holds 1 = .ok (.istore_n 2, 1) := by decide +kernel
theorem dX1_holds_2 : decode cX1_holds 2 = .ok (.iload_n 2, 1) := by decide +kernel
theorem dX1_holds_3 : decode cX1_holds 3 = .ok (.aload_n 0, 1) := by decide +kernel
theorem dX1_holds_4 : decode cX1_holds 4 = .ok (.getfield 21, 3) := by decide +kernel
theorem dX1_holds_7 : decode cX1_holds 7 = .ok (.if_icmp .ge 20, 3) := by decide +kernel
theorem dX1_holds_10 : decode cX1_holds 10 = .ok (.aload_n 0, 1) := by decide +kernel
theorem dX1_holds_11 : decode cX1_holds 11 = .ok (.iload_n 2, 1) := by decide +kernel
theorem dX1_holds_12 : decode cX1_holds 12 = .ok (.invokevirtual 25, 3) := by decide +kernel
theorem dX1_holds_15 : decode cX1_holds 15 = .ok (.iload_n 1, 1) := by decide +kernel
theorem dX1_holds_16 : decode cX1_holds 16 = .ok (.if_icmp .ne 5, 3) := by decide +kernel
theorem dX1_holds_19 : decode cX1_holds 19 = .ok (.iconst 1, 1) := by decide +kernel
theorem dX1_holds_20 : decode cX1_holds 20 = .ok (.ireturn, 1) := by decide +kernel
theorem dX1_holds_21 : decode cX1_holds 21 = .ok (.iinc 2 1, 3) := by decide +kernel
theorem dX1_holds_24 : decode cX1_holds 24 = .ok (.goto (-22), 3) := by decide +kernel
theorem dX1_holds_27 : decode cX1_holds 27 = .ok (.iconst 0, 1) := by decide +kernel
theorem dX1_holds_28 : decode cX1_holds 28 = .ok (.ireturn, 1) := by decide +kernel
set_option maxRecDepth 20000 in
theorem ggX1_addLast_X1_isFull : GoodIn wsX1_addLast wsX1_isFull := goodIn_r _ [7, 2, 1, 12, 13] (by decide +kernel) (by decide +kernel)
set_option maxRecDepth 20000 in
theorem gX1_addLast_X1_isFull : GoodIn wsX1_addLast (wsV RX1 29 RX1 yX1_isFull wsX1_isFull) := goodIn_app (goodIn_of _ (by decide +kernel)) ggX1_addLast_X1_isFull
set_option maxRecDepth 20000 in
theorem ggX1_addLast_X3_put : GoodIn wsX1_addLast wsX3_put := goodIn_r _ [11] (by decide +kernel) (by decide +kernel)
set_option maxRecDepth 20000 in
theorem gX1_addLast_X3_put : GoodIn wsX1_addLast (va_wsS RX1 33 yX3_put wsX3_put) := goodIn_app (goodIn_of _ (by decide +kernel)) ggX1_addLast_X3_put
theorem dX1_addLast_0 : decode cX1_addLast 0 = .ok (.aload_n 0, 1) := by decide +kernel
theorem dX1_addLast_1 : decode cX1_addLast 1 = .ok (.invokevirtual 29, 3) := by decide +kernel
theorem dX1_addLast_4 : decode cX1_addLast 4 = .ok (.ifCond .ne 25, 3) := by decide +kernel
theorem dX1_addLast_7 : decode cX1_addLast 7 = .ok (.aload_n 0, 1) := by decide +kernel
theorem dX1_addLast_8 : decode cX1_addLast 8 = .ok (.getfield 15, 3) := by decide +kernel
theorem dX1_addLast_11 : decode cX1_addLast 11 = .ok (.aload_n 0, 1) := by decide +kernel
theorem dX1_addLast_12 : decode cX1_addLast 12 = .ok (.getfield 21, 3) := by decide +kernel
theorem dX1_addLast_15 : decode cX1_addLast 15 = .ok (.iload_n 1, 1) := by decide +kernel
theorem dX1_addLast_16 : decode cX1_addLast 16 = .ok (.invokestatic 33, 3) := by decide +kernel
theorem dX1_addLast_19 : decode cX1_addLast 19 = .ok (.aload_n 0, 1) := by decide +kernel
theorem dX1_addLast_20 : decode cX1_addLast 20 = .ok (.dup, 1) := by decide +kernel
theorem dX1_addLast_21 : decode cX1_addLast 21 = .ok (.getfield 21, 3) := by decide +kernel
theorem dX1_addLast_24 : decode cX1_addLast 24 = .ok (.iconst 1, 1) := by decide +kernel
theorem dX1_addLast_25 : decode cX1_addLast 25 = .ok (.iadd, 1) := by decide +kernel
theorem dX1_addLast_26 : decode cX1_addLast 26 = .ok (.putfield 21, 3) := by decide +kernel
theorem dX1_addLast_29 : decode cX1_addLast 29 = .ok (.return_, 1) := by decide +kernel
set_option maxRecDepth 20000 in
theorem ggX1_dropItem_X1_itemAt : GoodIn wsX1_dropItem wsX1_itemAt := goodIn_r _ [7, 1, 2, 12, 13] (by decide +kernel) (by decide +kernel)
set_option maxRecDepth 20000 in
theorem gX1_dropItem_X1_itemAt : GoodIn wsX1_dropItem (wsV RX1 25 RX1 yX1_itemAt wsX1_itemAt) := goodIn_app (goodIn_of _ (by decide +kernel)) ggX1_dropItem_X1_itemAt
set_option maxRecDepth 20000 in
theorem ggX1_dropItem_X3_put : GoodIn wsX1_dropItem wsX3_put := goodIn_r _ [11] (by decide +kernel) (by decide +kernel)
set_option maxRecDepth 20000 in
theorem gX1_dropItem_X3_put : GoodIn wsX1_dropItem (va_wsS RX1 33 yX3_put wsX3_put) := goodIn_app (goodIn_of _ (by decide +kernel)) ggX1_dropItem_X3_put
theorem dX1_dropItem_0 : decode cX1_dropItem 0 = .ok (.iconst 0, 1) := by decide +kernel
theorem dX1_dropItem_1 : decode cX1_dropItem 1 = .ok (.istore_n 2, 1) := by decide +kernel
theorem dX1_dropItem_2 : decode cX1_dropItem 2 = .ok (.iconst 0, 1) := by decide +kernel
theorem dX1_dropItem_3 : decode cX1_dropItem 3 = .ok (.istore_n 3, 1) := by decide +kernel
theorem dX1_dropItem_4 : decode cX1_dropItem 4 = .ok (.iload_n 3, 1) := by decide +kernel
theorem dX1_dropItem_5 : decode cX1_dropItem 5 = .ok (.aload_n 0, 1) := by decide +kernel
theorem dX1_dropItem_6 : decode cX1_dropItem 6 = .ok (.getfield 21, 3) := by decide +kernel
theorem dX1_dropItem_9 : decode cX1_dropItem 9 = .ok (.if_icmp .ge 35, 3) := by decide +kernel
theorem dX1_dropItem_12 : decode cX1_dropItem 12 = .ok (.aload_n 0, 1) := by decide +kernel
theorem dX1_dropItem_13 : decode cX1_dropItem 13 = .ok (.iload_n 3, 1) := by decide +kernel
theorem dX1_dropItem_14 : decode cX1_dropItem 14 = .ok (.invokevirtual 25, 3) := by decide +kernel
theorem dX1_dropItem_17 : decode cX1_dropItem 17 = .ok (.istore 4, 2) := by decide +kernel
theorem dX1_dropItem_19 : decode cX1_dropItem 19 = .ok (.iload 4, 2) := by decide +kernel
theorem dX1_dropItem_21 : decode cX1_dropItem 21 = .ok (.iload_n 1, 1) := by decide +kernel
theorem dX1_dropItem_22 : decode cX1_dropItem 22 = .ok (.if_icmp .eq 16, 3) := by decide +kernel
theorem dX1_dropItem_25 : decode cX1_dropItem 25 = .ok (.aload_n 0, 1) := by decide +kernel
theorem dX1_dropItem_26 : decode cX1_dropItem 26 = .ok (.getfield 15, 3) := by decide +kernel
theorem dX1_dropItem_29 : decode cX1_dropItem 29 = .ok (.iload_n 2, 1) := by decide +kernel
theorem dX1_dropItem_30 : decode cX1_dropItem 30 = .ok (.iload 4, 2) := by decide +kernel
theorem dX1_dropItem_32 : decode cX1_dropItem 32 = .ok (.invokestatic 33, 3) := by decide +kernel
theorem dX1_dropItem_35 : decode cX1_dropItem 35 = .ok (.iinc 2 1, 3) := by decide +kernel
theorem dX1_dropItem_38 : decode cX1_dropItem 38 = .ok (.iinc 3 1, 3) := by decide +kernel
theorem dX1_dropItem_41 : decode cX1_dropItem 41 = .ok (.goto (-37), 3) := by decide +kernel
theorem dX1_dropItem_44 : decode cX1_dropItem 44 = .ok (.aload_n 0, 1) := by decide +kernel
theorem dX1_dropItem_45 : decode cX1_dropItem 45 = .ok (.iload_n 2, 1) := by decide +kernel
theorem dX1_dropItem_46 : decode cX1_dropItem 46 = .ok (.putfield 21, 3) := by decide +kernel
theorem dX1_dropItem_49 : decode cX1_dropItem 49 = .ok (.return_, 1) := by decide +kernel
theorem dX1_dropAll_0 : decode cX1_dropAll 0 = .ok (.aload_n 0, 1) := by decide +kernel
theorem dX1_dropAll_1 : decode cX1_dropAll 1 = .ok (.iconst 0, 1) := by decide +kernel
theorem dX1_dropAll_2 : decode cX1_dropAll 2 = .ok (.putfield 21, 3) := by decide +kernel
theorem dX1_dropAll_5 : decode cX1_dropAll 5 = .ok (.return_, 1) := by decide +kernel
set_option maxRecDepth 20000 in
theorem ggX1_copyFrom_X3_copy : GoodIn wsX1_copyFrom wsX3_copy := goodIn_r _ [10] (by decide +kernel) (by decide +kernel)
set_option maxRecDepth 20000 in
theorem gX1_copyFrom_X3_copy : GoodIn wsX1_copyFrom (va_wsS RX1 39 yX3_copy wsX3_copy) := goodIn_app (goodIn_of _ (by decide +kernel)) ggX1_copyFrom_X3_copy
theorem dX1_copyFrom_0 : decode cX1_copyFrom 0 = .ok (.aload_n 1, 1) := by decide +kernel
theorem dX1_copyFrom_1 : decode cX1_copyFrom 1 = .ok (.getfield 15, 3) := by decide +kernel
theorem dX1_copyFrom_4 : decode cX1_copyFrom 4 = .ok (.aload_n 0, 1) := by decide +kernel
theorem dX1_copyFrom_5 : decode cX1_copyFrom 5 = .ok (.getfield 15, 3) := by decide +kernel
theorem dX1_copyFrom_8 : decode cX1_copyFrom 8 = .ok (.invokestatic 39, 3) := by decide +kernel
theorem dX1_copyFrom_11 : decode cX1_copyFrom 11 = .ok (.aload_n 0, 1) := by decide +kernel
theorem dX1_copyFrom_12 : decode cX1_copyFrom 12 = .ok (.aload_n 1, 1) := by decide +kernel
theorem dX1_copyFrom_13 : decode cX1_copyFrom 13 = .ok (.getfield 21, 3) := by decide +kernel
theorem dX1_copyFrom_16 : decode cX1_copyFrom 16 = .ok (.aload_n 0, 1) := by decide +kernel
theorem dX1_copyFrom_17 : decode cX1_copyFrom 17 = .ok (.getfield 15, 3) := by decide +kernel
theorem dX1_copyFrom_20 : decode cX1_copyFrom 20 = .ok (.arraylength, 1) := by decide +kernel
theorem dX1_copyFrom_21 : decode cX1_copyFrom 21 = .ok (.invokestatic 43, 3) := by decide +kernel
theorem dX1_copyFrom_24 : decode cX1_copyFrom 24 = .ok (.putfield 21, 3) := by decide +kernel
theorem dX1_copyFrom_27 : decode cX1_copyFrom 27 = .ok (.return_, 1) := by decide +kernel
set_option maxRecDepth 20000 in
theorem ggX2_init_X1_init : GoodIn wsX2_init wsX1_init := goodIn_r _ [20, 21, 2, 3, 22, 23, 24, 25, 4, 26, 27, 46, 47] (by decide +kernel) (by decide +kernel)
set_option maxRecDepth 20000 in
theorem gX2_init_X1_init : GoodIn wsX2_init (wsX1_init) := ggX2_init_X1_init
set_option maxRecDepth 20000 in
theorem ggX2_init_X3_copy : GoodIn wsX2_init wsX3_copy := goodIn_r _ [31] (by decide +kernel) (by decide +kernel)
set_option maxRecDepth 20000 in
theorem gX2_init_X3_copy : GoodIn wsX2_init (va_wsS RX2 51 yX3_copy wsX3_copy) := goodIn_app (goodIn_of _ (by decide +kernel)) ggX2_init_X3_copy
theorem dX2_init_0 : decode cX2_init 0 = .ok (.aload_n 0, 1) := by decide +kernel
theorem dX2_init_1 : decode cX2_init 1 = .ok (.invokespecial 3, 3) := by decide +kernel
theorem dX2_init_4 : decode cX2_init 4 = .ok (.aload_n 0, 1) := by decide +kernel
theorem dX2_init_5 : decode cX2_init 5 = .ok (.bipush 16, 2) := by decide +kernel
theorem dX2_init_7 : decode cX2_init 7 = .ok (.newarray .int, 2) := by decide +kernel
theorem dX2_init_9 : decode cX2_init 9 = .ok (.putfield 9, 3) := by decide +kernel
theorem dX2_init_12 : decode cX2_init 12 = .ok (.aload_n 0, 1) := by decide +kernel
theorem dX2_init_13 : decode cX2_init 13 = .ok (.bipush 16, 2) := by decide +kernel
theorem dX2_init_15 : decode cX2_init 15 = .ok (.newarray .int, 2) := by decide +kernel
theorem dX2_init_17 : decode cX2_init 17 = .ok (.putfield 15, 3) := by decide +kernel
theorem dX2_init_20 : decode cX2_init 20 = .ok (.aload_n 0, 1) := by decide +kernel
theorem dX2_init_21 : decode cX2_init 21 = .ok (.bipush 16, 2) := by decide +kernel
theorem dX2_init_23 : decode cX2_init 23 = .ok (.newarray .int, 2) := by decide +kernel
theorem dX2_init_25 : decode cX2_init 25 = .ok (.putfield 18, 3) := by decide +kernel
theorem dX2_init_28 : decode cX2_init 28 = .ok (.aload_n 0, 1) := by decide +kernel
theorem dX2_init_29 : decode cX2_init 29 = .ok (.bipush 16, 2) := by decide +kernel
theorem dX2_init_31 : decode cX2_init 31 = .ok (.newarray .int, 2) := by decide +kernel
theorem dX2_init_33 : decode cX2_init 33 = .ok (.putfield 21, 3) := by decide +kernel
theorem dX2_init_36 : decode cX2_init 36 = .ok (.aload_n 0, 1) := by decide +kernel
theorem dX2_init_37 : decode cX2_init 37 = .ok (.bipush 16, 2) := by decide +kernel
theorem dX2_init_39 : decode cX2_init 39 = .ok (.newarray .int, 2) := by decide +kernel
theorem dX2_init_41 : decode cX2_init 41 = .ok (.putfield 24, 3) := by decide +kernel
theorem dX2_init_44 : decode cX2_init 44 = .ok (.aload_n 0, 1) := by decide +kernel
theorem dX2_init_45 : decode cX2_init 45 = .ok (.iconst 4, 1) := by decide +kernel
theorem dX2_init_46 : decode cX2_init 46 = .ok (.newarray .int, 2) := by decide +kernel
theorem dX2_init_48 : decode cX2_init 48 = .ok (.putfield 27, 3) := by decide +kernel
theorem dX2_init_51 : decode cX2_init 51 = .ok (.aload_n 0, 1) := by decide +kernel
theorem dX2_init_52 : decode cX2_init 52 = .ok (.bipush 32, 2) := by decide +kernel
theorem dX2_init_54 : decode cX2_init 54 = .ok (.newarray .int, 2) := by decide +kernel
theorem dX2_init_56 : decode cX2_init 56 = .ok (.putfield 30, 3) := by decide +kernel
theorem dX2_init_59 : decode cX2_init 59 = .ok (.aload_n 0, 1) := by decide +kernel
theorem dX2_init_60 : decode cX2_init 60 = .ok (.iconst 4, 1) := by decide +kernel
theorem dX2_init_61 : decode cX2_init 61 = .ok (.newarray .int, 2) := by decide +kernel
theorem dX2_init_63 : decode cX2_init 63 = .ok (.putfield 33, 3) := by decide +kernel
theorem dX2_init_66 : decode cX2_init 66 = .ok (.aload_n 0, 1) := by decide +kernel
theorem dX2_init_67 : decode cX2_init 67 = .ok (.new 36, 3) := by decide +kernel
theorem dX2_init_70 : decode cX2_init 70 = .ok (.dup, 1) := by decide +kernel
theorem dX2_init_71 : decode cX2_init 71 = .ok (.bipush 8, 2) := by decide +kernel
theorem dX2_init_73 : decode cX2_init 73 = .ok (.invokespecial 38, 3) := by decide +kernel
theorem dX2_init_76 : decode cX2_init 76 = .ok (.putfield 41, 3) := by decide +kernel
theorem dX2_init_79 : decode cX2_init 79 = .ok (.aload_n 0, 1) := by decide +kernel
theorem dX2_init_80 : decode cX2_init 80 = .ok (.new 36, 3) := by decide +kernel
theorem dX2_init_83 : decode cX2_init 83 = .ok (.dup, 1) := by decide +kernel
theorem dX2_init_84 : decode cX2_init 84 = .ok (.bipush 16, 2) := by decide +kernel
theorem dX2_init_86 : decode cX2_init 86 = .ok (.invokespecial 38, 3) := by decide +kernel
theorem dX2_init_89 : decode cX2_init 89 = .ok (.putfield 45, 3) := by decide +kernel
theorem dX2_init_92 : decode cX2_init 92 = .ok (.getstatic 48, 3) := by decide +kernel
theorem dX2_init_95 : decode cX2_init 95 = .ok (.aload_n 0, 1) := by decide +kernel
theorem dX2_init_96 : decode cX2_init 96 = .ok (.getfield 33, 3) := by decide +kernel
theorem dX2_init_99 : decode cX2_init 99 = .ok (.invokestatic 51, 3) := by decide +kernel
theorem dX2_init_102 : decode cX2_init 102 = .ok (.return_, 1) := by decide +kernel
set_option maxRecDepth 20000 in
theorem ggX2_copyFrom_X3_copy : GoodIn wsX2_copyFrom wsX3_copy := goodIn_r _ [18] (by decide +kernel) (by decide +kernel)
set_option maxRecDepth 20000 in
theorem gX2_copyFrom_X3_copy : GoodIn wsX2_copyFrom (va_wsS RX2 51 yX3_copy wsX3_copy) := goodIn_app (goodIn_of _ (by decide +kernel)) ggX2_copyFrom_X3_copy
set_option maxRecDepth 20000 in
theorem ggX2_copyFrom_X1_copyFrom : GoodIn wsX2_copyFrom wsX1_copyFrom := goodIn_r _ [23, 24, 25, 26, 27, 28, 29, 30, 16, 17, 18, 45, 46] (by decide +kernel) (by decide +kernel)
set_option maxRecDepth 20000 in
theorem gX2_copyFrom_X1_copyFrom : GoodIn wsX2_copyFrom (wsV RX2 57 RX1 yX1_copyFrom wsX1_copyFrom) := goodIn_app (goodIn_of _ (by decide +kernel)) ggX2_copyFrom_X1_copyFrom
theorem dX2_copyFrom_0 : decode cX2_copyFrom 0 = .ok (.aload_n 1, 1) := by decide +kernel
theorem dX2_copyFrom_1 : decode cX2_copyFrom 1 = .ok (.getfield 9, 3) := by decide +kernel
theorem dX2_copyFrom_4 : decode cX2_copyFrom 4 = .ok (.aload_n 0, 1) := by decide +kernel
theorem dX2_copyFrom_5 : decode cX2_copyFrom 5 = .ok (.getfield 9, 3) := by decide +kernel
theorem dX2_copyFrom_8 : decode cX2_copyFrom 8 = .ok (.invokestatic 51, 3) := by decide +kernel
theorem dX2_copyFrom_11 : decode cX2_copyFrom 11 = .ok (.aload_n 1, 1) := by decide +kernel
theorem dX2_copyFrom_12 : decode cX2_copyFrom 12 = .ok (.getfield 15, 3) := by decide +kernel
theorem dX2_copyFrom_15 : decode cX2_copyFrom 15 = .ok (.aload_n 0, 1) := by decide +kernel
theorem dX2_copyFrom_16 : decode cX2_copyFrom 16 = .ok (.getfield 15, 3) := by decide +kernel
theorem dX2_copyFrom_19 : decode cX2_copyFrom 19 = .ok (.invokestatic 51, 3) := by decide +kernel
theorem dX2_copyFrom_22 : decode cX2_copyFrom 22 = .ok (.aload_n 1, 1) := by decide +kernel
theorem dX2_copyFrom_23 : decode cX2_copyFrom 23 = .ok (.getfield 18, 3) := by decide +kernel
theorem dX2_copyFrom_26 : decode cX2_copyFrom 26 = .ok (.aload_n 0, 1) := by decide +kernel
theorem dX2_copyFrom_27 : decode cX2_copyFrom 27 = .ok (.getfield 18, 3) := by decide +kernel
theorem dX2_copyFrom_30 : decode cX2_copyFrom 30 = .ok (.invokestatic 51, 3) := by decide +kernel
theorem dX2_copyFrom_33 : decode cX2_copyFrom 33 = .ok (.aload_n 1, 1) := by decide +kernel
theorem dX2_copyFrom_34 : decode cX2_copyFrom 34 = .ok (.getfield 21, 3) := by decide +kernel
theorem dX2_copyFrom_37 : decode cX2_copyFrom 37 = .ok (.aload_n 0, 1) := by decide +kernel
theorem dX2_copyFrom_38 : decode cX2_copyFrom 38 = .ok (.getfield 21, 3) := by decide +kernel
theorem dX2_copyFrom_41 : decode cX2_copyFrom 41 = .ok (.invokestatic 51, 3) := by decide +kernel
theorem dX2_copyFrom_44 : decode cX2_copyFrom 44 = .ok (.aload_n 1, 1) := by decide +kernel
theorem dX2_copyFrom_45 : decode cX2_copyFrom 45 = .ok (.getfield 24, 3) := by decide +kernel
theorem dX2_copyFrom_48 : decode cX2_copyFrom 48 = .ok (.aload_n 0, 1) := by decide +kernel
theorem dX2_copyFrom_49 : decode cX2_copyFrom 49 = .ok (.getfield 24, 3) := by decide +kernel
theorem dX2_copyFrom_52 : decode cX2_copyFrom 52 = .ok (.invokestatic 51, 3) := by decide +kernel
theorem dX2_copyFrom_55 : decode cX2_copyFrom 55 = .ok (.aload_n 1, 1) := by decide +kernel
theorem dX2_copyFrom_56 : decode cX2_copyFrom 56 = .ok (.getfield 27, 3) := by decide +kernel
theorem dX2_copyFrom_59 : decode cX2_copyFrom 59 = .ok (.aload_n 0, 1) := by decide +kernel
theorem dX2_copyFrom_60 : decode cX2_copyFrom 60 = .ok (.getfield 27, 3) := by decide +kernel
theorem dX2_copyFrom_63 : decode cX2_copyFrom 63 = .ok (.invokestatic 51, 3) := by decide +kernel
theorem dX2_copyFrom_66 : decode cX2_copyFrom 66 = .ok (.aload_n 1, 1) := by decide +kernel
theorem dX2_copyFrom_67 : decode cX2_copyFrom 67 = .ok (.getfield 30, 3) := by decide +kernel
theorem dX2_copyFrom_70 : decode cX2_copyFrom 70 = .ok (.aload_n 0, 1) := by decide +kernel
theorem dX2_copyFrom_71 : decode cX2_copyFrom 71 = .ok (.getfield 30, 3) := by decide +kernel
theorem dX2_copyFrom_74 : decode cX2_copyFrom 74 = .ok (.invokestatic 51, 3) := by decide +kernel
theorem dX2_copyFrom_77 : decode cX2_copyFrom 77 = .ok (.aload_n 1, 1) := by decide +kernel
theorem dX2_copyFrom_78 : decode cX2_copyFrom 78 = .ok (.getfield 33, 3) := by decide +kernel
theorem dX2_copyFrom_81 : decode cX2_copyFrom 81 = .ok (.aload_n 0, 1) := by decide +kernel
theorem dX2_copyFrom_82 : decode cX2_copyFrom 82 = .ok (.getfield 33, 3) := by decide +kernel
theorem dX2_copyFrom_85 : decode cX2_copyFrom 85 = .ok (.invokestatic 51, 3) := by decide +kernel
theorem dX2_copyFrom_88 : decode cX2_copyFrom 88 = .ok (.aload_n 0, 1) := by decide +kernel
theorem dX2_copyFrom_89 : decode cX2_copyFrom 89 = .ok (.getfield 41, 3) := by decide +kernel
theorem dX2_copyFrom_92 : decode cX2_copyFrom 92 = .ok (.aload_n 1, 1) := by decide +kernel
theorem dX2_copyFrom_93 : decode cX2_copyFrom 93 = .ok (.getfield 41, 3) := by decide +kernel
theorem dX2_copyFrom_96 : decode cX2_copyFrom 96 = .ok (.invokevirtual 57, 3) := by decide +kernel
theorem dX2_copyFrom_99 : decode cX2_copyFrom 99 = .ok (.aload_n 0, 1) := by decide +kernel
theorem dX2_copyFrom_100 : decode cX2_copyFrom 100 = .ok (.getfield 45, 3) := by decide +kernel
theorem dX2_copyFrom_103 : decode cX2_copyFrom 103 = .ok (.aload_n 1, 1) := by decide +kernel
theorem dX2_copyFrom_104 : decode cX2_copyFrom 104 = .ok (.getfield 45, 3) := by decide +kernel
theorem dX2_copyFrom_107 : decode cX2_copyFrom 107 = .ok (.invokevirtual 57, 3) := by decide +kernel
theorem dX2_copyFrom_110 : decode cX2_copyFrom 110 = .ok (.aload_n 0, 1) := by decide +kernel
theorem dX2_copyFrom_111 : decode cX2_copyFrom 111 = .ok (.aload_n 1, 1) := by decide +kernel
theorem dX2_copyFrom_112 : decode cX2_copyFrom 112 = .ok (.getfield 61, 3) := by decide +kernel
theorem dX2_copyFrom_115 : decode cX2_copyFrom 115 = .ok (.putfield 61, 3) := by decide +kernel
theorem dX2_copyFrom_118 : decode cX2_copyFrom 118 = .ok (.aload_n 0, 1) := by decide +kernel
theorem dX2_copyFrom_119 : decode cX2_copyFrom 119 = .ok (.aload_n 1, 1) := by decide +kernel
theorem dX2_copyFrom_120 : decode cX2_copyFrom 120 = .ok (.getfield 65, 3) := by decide +kernel
theorem dX2_copyFrom_123 : decode cX2_copyFrom 123 = .ok (.putfield 65, 3) := by decide +kernel
theorem dX2_copyFrom_126 : decode cX2_copyFrom 126 = .ok (.aload_n 0, 1) := by decide +kernel
theorem dX2_copyFrom_127 : decode cX2_copyFrom 127 = .ok (.aload_n 1, 1) := by decide +kernel
theorem dX2_copyFrom_128 : decode cX2_copyFrom 128 = .ok (.getfield 68, 3) := by decide +kernel
theorem dX2_copyFrom_131 : decode cX2_copyFrom 131 = .ok (.putfield 68, 3) := by decide +kernel
theorem dX2_copyFrom_134 : decode cX2_copyFrom 134 = .ok (.aload_n 0, 1) := by decide +kernel
theorem dX2_copyFrom_135 : decode cX2_copyFrom 135 = .ok (.aload_n 1, 1) := by decide +kernel
theorem dX2_copyFrom_136 : decode cX2_copyFrom 136 = .ok (.getfield 71, 3) := by decide +kernel
theorem dX2_copyFrom_139 : decode cX2_copyFrom 139 = .ok (.putfield 71, 3) := by decide +kernel
theorem dX2_copyFrom_142 : decode cX2_copyFrom 142 = .ok (.return_, 1) := by decide +kernel
theorem dX2_isGuest_0 : decode cX2_isGuest 0 = .ok (.iload_n 1, 1) := by decide +kernel
theorem dX2_isGuest_1 : decode cX2_isGuest 1 = .ok (.ifCond .lt 15, 3) := by decide +kernel
theorem dX2_isGuest_4 : decode cX2_isGuest 4 = .ok (.iload_n 1, 1) := by decide +kernel
theorem dX2_isGuest_5 : decode cX2_isGuest 5 = .ok (.aload_n 0, 1) := by decide +kernel
theorem dX2_isGuest_6 : decode cX2_isGuest 6 = .ok (.getfield 61, 3) := by decide +kernel
theorem dX2_isGuest_9 : decode cX2_isGuest 9 = .ok (.if_icmp .ge 7, 3) := by decide +kernel
theorem dX2_isGuest_12 : decode cX2_isGuest 12 = .ok (.iconst 1, 1) := by decide +kernel
theorem dX2_isGuest_13 : decode cX2_isGuest 13 = .ok (.goto 4, 3) := by decide +kernel
theorem dX2_isGuest_16 : decode cX2_isGuest 16 = .ok (.iconst 0, 1) := by decide +kernel
theorem dX2_isGuest_17 : decode cX2_isGuest 17 = .ok (.ireturn, 1) := by decide +kernel
theorem dX2_isTable_0 : decode cX2_isTable 0 = .ok (.iload_n 1, 1) := by decide +kernel
theorem dX2_isTable_1 : decode cX2_isTable 1 = .ok (.ifCond .lt 15, 3) := by decide +kernel
theorem dX2_isTable_4 : decode cX2_isTable 4 = .ok (.iload_n 1, 1) := by decide +kernel
theorem dX2_isTable_5 : decode cX2_isTable 5 = .ok (.aload_n 0, 1) := by decide +kernel
theorem dX2_isTable_6 : decode cX2_isTable 6 = .ok (.getfield 65, 3) := by decide +kernel
theorem dX2_isTable_9 : decode cX2_isTable 9 = .ok (.if_icmp .ge 7, 3) := by decide +kernel
theorem dX2_isTable_12 : decode cX2_isTable 12 = .ok (.iconst 1, 1) := by decide +kernel
theorem dX2_isTable_13 : decode cX2_isTable 13 = .ok (.goto 4, 3) := by decide +kernel
theorem dX2_isTable_16 : decode cX2_isTable 16 = .ok (.iconst 0, 1) := by decide +kernel
theorem dX2_isTable_17 : decode cX2_isTable 17 = .ok (.ireturn, 1) := by decide +kernel
set_option maxRecDepth 20000 in
theorem ggX2_isSeat_X2_isTable : GoodIn wsX2_isSeat wsX2_isTable := goodIn_r _ [5, 6, 12, 13, 14, 15, 16, 17, 18, 19, 20, 21, 22, 23, 24, 25] (by decide +kernel) (by decide +kernel)
set_option maxRecDepth 20000 in
theorem gX2_isSeat_X2_isTable : GoodIn wsX2_isSeat (wsV RX2 74 RX2 yX2_isTable wsX2_isTable) := goodIn_app (goodIn_of _ (by decide +kernel)) ggX2_isSeat_X2_isTable
set_option maxRecDepth 20000 in
theorem ggX2_isSeat_X2_seatsAt : GoodIn wsX2_isSeat wsX2_seatsAt := goodIn_r _ [10, 11, 12, 13, 14, 15, 16, 17, 18, 19, 20, 21, 22, 23, 24, 25] (by decide +kernel) (by decide +kernel)
set_option maxRecDepth 20000 in
theorem gX2_isSeat_X2_seatsAt : GoodIn wsX2_isSeat (wsV RX2 78 RX2 yX2_seatsAt wsX2_seatsAt) := goodIn_app (goodIn_of _ (by decide +kernel)) ggX2_isSeat_X2_seatsAt
theorem dX2_isSeat_0 : decode cX2_isSeat 0 = .ok (.aload_n 0, 1) := by decide +kernel
theorem dX2_isSeat_1 : decode cX2_isSeat 1 = .ok (.iload_n 1, 1) := by decide +kernel
theorem dX2_isSeat_2 : decode cX2_isSeat 2 = .ok (.invokevirtual 74, 3) := by decide +kernel
theorem dX2_isSeat_5 : decode cX2_isSeat 5 = .ok (.ifCond .eq 20, 3) := by decide +kernel
theorem dX2_isSeat_8 : decode cX2_isSeat 8 = .ok (.iload_n 2, 1) := by decide +kernel
theorem dX2_isSeat_9 : decode cX2_isSeat 9 = .ok (.ifCond .lt 16, 3) := by decide +kernel
theorem dX2_isSeat_12 : decode cX2_isSeat 12 = .ok (.iload_n 2, 1) := by decide +kernel
theorem dX2_isSeat_13 : decode cX2_isSeat 13 = .ok (.aload_n 0, 1) := by decide +kernel
theorem dX2_isSeat_14 : decode cX2_isSeat 14 = .ok (.iload_n 1, 1) := by decide +kernel
theorem dX2_isSeat_15 : decode cX2_isSeat 15 = .ok (.invokevirtual 78, 3) := by decide +kernel
theorem dX2_isSeat_18 : decode cX2_isSeat 18 = .ok (.if_icmp .ge 7, 3) := by decide +kernel
theorem dX2_isSeat_21 : decode cX2_isSeat 21 = .ok (.iconst 1, 1) := by decide +kernel
theorem dX2_isSeat_22 : decode cX2_isSeat 22 = .ok (.goto 4, 3) := by decide +kernel
theorem dX2_isSeat_25 : decode cX2_isSeat 25 = .ok (.iconst 0, 1) := by decide +kernel
theorem dX2_isSeat_26 : decode cX2_isSeat 26 = .ok (.ireturn, 1) := by decide +kernel
theorem dX2_isAtLeg_0 : decode cX2_isAtLeg 0 = .ok (.iload_n 0, 1) := by decide +kernel
theorem dX2_isAtLeg_1 : decode cX2_isAtLeg 1 = .ok (.iconst 3, 1) := by decide +kernel
theorem dX2_isAtLeg_2 : decode cX2_isAtLeg 2 = .ok (.irem, 1) := by decide +kernel
theorem dX2_isAtLeg_3 : decode cX2_isAtLeg 3 = .ok (.ifCond .ne 7, 3) := by decide +kernel
theorem dX2_isAtLeg_6 : decode cX2_isAtLeg 6 = .ok (.iconst 1, 1) := by decide +kernel
theorem dX2_isAtLeg_7 : decode cX2_isAtLeg 7 = .ok (.goto 4, 3) := by decide +kernel
theorem dX2_isAtLeg_10 : decode cX2_isAtLeg 10 = .ok (.iconst 0, 1) := by decide +kernel
theorem dX2_isAtLeg_11 : decode cX2_isAtLeg 11 = .ok (.ireturn, 1) := by decide +kernel
set_option maxRecDepth 20000 in
theorem ggX2_isSitting_X3_at : GoodIn wsX2_isSitting wsX3_at := goodIn_r _ [5] (by decide +kernel) (by decide +kernel)
set_option maxRecDepth 20000 in
theorem gX2_isSitting_X3_at : GoodIn wsX2_isSitting (va_wsS RX2 82 yX3_at wsX3_at) := goodIn_app (goodIn_of _ (by decide +kernel)) ggX2_isSitting_X3_at
theorem dX2_isSitting_0 : decode cX2_isSitting 0 = .ok (.aload_n 0, 1) := by decide +kernel
theorem dX2_isSitting_1 : decode cX2_isSitting 1 = .ok (.getfield 21, 3) := by decide +kernel
theorem dX2_isSitting_4 : decode cX2_isSitting 4 = .ok (.iload_n 1, 1) := by decide +kernel
theorem dX2_isSitting_5 : decode cX2_isSitting 5 = .ok (.invokestatic 82, 3) := by decide +kernel
theorem dX2_isSitting_8 : decode cX2_isSitting 8 = .ok (.iconst (-1), 1) := by decide +kernel
theorem dX2_isSitting_9 : decode cX2_isSitting 9 = .ok (.if_icmp .eq 7, 3) := by decide +kernel
theorem dX2_isSitting_12 : decode cX2_isSitting 12 = .ok (.iconst 1, 1) := by decide +kernel
theorem dX2_isSitting_13 : decode cX2_isSitting 13 = .ok (.goto 4, 3) := by decide +kernel
theorem dX2_isSitting_16 : decode cX2_isSitting 16 = .ok (.iconst 0, 1) := by decide +kernel
theorem dX2_isSitting_17 : decode cX2_isSitting 17 = .ok (.ireturn, 1) := by decide +kernel
theorem dX2_seatsAt_0 : decode cX2_seatsAt 0 = .ok (.iload_n 1, 1) := by decide +kernel
theorem dX2_seatsAt_1 : decode cX2_seatsAt 1 = .ok (.ifCond .lt 21, 3) := by decide +kernel
theorem dX2_seatsAt_4 : decode cX2_seatsAt 4 = .ok (.iload_n 1, 1) := by decide +kernel
theorem dX2_seatsAt_5 : decode cX2_seatsAt 5 = .ok (.aload_n 0, 1) := by decide +kernel
theorem dX2_seatsAt_6 : decode cX2_seatsAt 6 = .ok (.getfield 27, 3) := by decide +kernel
theorem dX2_seatsAt_9 : decode cX2_seatsAt 9 = .ok (.arraylength, 1) := by decide +kernel
theorem dX2_seatsAt_10 : decode cX2_seatsAt 10 = .ok (.if_icmp .ge 12, 3) := by decide +kernel
theorem dX2_seatsAt_13 : decode cX2_seatsAt 13 = .ok (.aload_n 0, 1) := by decide +kernel
theorem dX2_seatsAt_14 : decode cX2_seatsAt 14 = .ok (.getfield 27, 3) := by decide +kernel
theorem dX2_seatsAt_17 : decode cX2_seatsAt 17 = .ok (.iload_n 1, 1) := by decide +kernel
theorem dX2_seatsAt_18 : decode cX2_seatsAt 18 = .ok (.iaload, 1) := by decide +kernel
theorem dX2_seatsAt_19 : decode cX2_seatsAt 19 = .ok (.goto 4, 3) := by decide +kernel
theorem dX2_seatsAt_22 : decode cX2_seatsAt 22 = .ok (.iconst 0, 1) := by decide +kernel
theorem dX2_seatsAt_23 : decode cX2_seatsAt 23 = .ok (.ireturn, 1) := by decide +kernel
theorem dX2_holderAt_0 : decode cX2_holderAt 0 = .ok (.iload_n 1, 1) := by decide +kernel
theorem dX2_holderAt_1 : decode cX2_holderAt 1 = .ok (.bipush 8, 2) := by decide +kernel
theorem dX2_holderAt_3 : decode cX2_holderAt 3 = .ok (.imul, 1) := by decide +kernel
theorem dX2_holderAt_4 : decode cX2_holderAt 4 = .ok (.iload_n 2, 1) := by decide +kernel
theorem dX2_holderAt_5 : decode cX2_holderAt 5 = .ok (.iadd, 1) := by decide +kernel
theorem dX2_holderAt_6 : decode cX2_holderAt 6 = .ok (.istore_n 3, 1) := by decide +kernel
theorem dX2_holderAt_7 : decode cX2_holderAt 7 = .ok (.iload_n 3, 1) := by decide +kernel
theorem dX2_holderAt_8 : decode cX2_holderAt 8 = .ok (.ifCond .lt 21, 3) := by decide +kernel
theorem dX2_holderAt_11 : decode cX2_holderAt 11 = .ok (.iload_n 3, 1) := by decide +kernel
theorem dX2_holderAt_12 : decode cX2_holderAt 12 = .ok (.aload_n 0, 1) := by decide +kernel
theorem dX2_holderAt_13 : decode cX2_holderAt 13 = .ok (.getfield 30, 3) := by decide +kernel
theorem dX2_holderAt_16 : decode cX2_holderAt 16 = .ok (.arraylength, 1) := by decide +kernel
theorem dX2_holderAt_17 : decode cX2_holderAt 17 = .ok (.if_icmp .ge 12, 3) := by decide +kernel
theorem dX2_holderAt_20 : decode cX2_holderAt 20 = .ok (.aload_n 0, 1) := by decide +kernel
theorem dX2_holderAt_21 : decode cX2_holderAt 21 = .ok (.getfield 30, 3) := by decide +kernel
theorem dX2_holderAt_24 : decode cX2_holderAt 24 = .ok (.iload_n 3, 1) := by decide +kernel
theorem dX2_holderAt_25 : decode cX2_holderAt 25 = .ok (.iaload, 1) := by decide +kernel
theorem dX2_holderAt_26 : decode cX2_holderAt 26 = .ok (.goto 4, 3) := by decide +kernel
theorem dX2_holderAt_29 : decode cX2_holderAt 29 = .ok (.iconst (-1), 1) := by decide +kernel
theorem dX2_holderAt_30 : decode cX2_holderAt 30 = .ok (.ireturn, 1) := by decide +kernel
set_option maxRecDepth 20000 in
theorem ggX2_sittingAt_X2_seatsAt : GoodIn wsX2_sittingAt wsX2_seatsAt := goodIn_r _ [5, 6, 12, 13, 14, 15, 16, 17, 18, 19, 20, 21, 22, 23, 24, 25] (by decide +kernel) (by decide +kernel)
set_option maxRecDepth 20000 in
theorem gX2_sittingAt_X2_seatsAt : GoodIn wsX2_sittingAt (wsV RX2 78 RX2 yX2_seatsAt wsX2_seatsAt) := goodIn_app (goodIn_of _ (by decide +kernel)) ggX2_sittingAt_X2_seatsAt
set_option maxRecDepth 20000 in
theorem ggX2_sittingAt_X2_holderAt : GoodIn wsX2_sittingAt wsX2_holderAt := goodIn_r _ [10, 11, 12, 13, 14, 15, 16, 17, 18, 19, 20, 21, 22, 23, 24, 25] (by decide +kernel) (by decide +kernel)
set_option maxRecDepth 20000 in
theorem gX2_sittingAt_X2_holderAt : GoodIn wsX2_sittingAt (wsV RX2 86 RX2 yX2_holderAt wsX2_holderAt) := goodIn_app (goodIn_of _ (by decide +kernel)) ggX2_sittingAt_X2_holderAt
theorem dX2_sittingAt_0 : decode cX2_sittingAt 0 = .ok (.iconst 0, 1) := by decide +kernel
theorem dX2_sittingAt_1 : decode cX2_sittingAt 1 = .ok (.istore_n 2, 1) := by decide +kernel
theorem dX2_sittingAt_2 : decode cX2_sittingAt 2 = .ok (.iconst 0, 1) := by decide +kernel
theorem dX2_sittingAt_3 : decode cX2_sittingAt 3 = .ok (.istore_n 3, 1) := by decide +kernel
theorem dX2_sittingAt_4 : decode cX2_sittingAt 4 = .ok (.iload_n 3, 1) := by decide +kernel
theorem dX2_sittingAt_5 : decode cX2_sittingAt 5 = .ok (.aload_n 0, 1) := by decide +kernel
theorem dX2_sittingAt_6 : decode cX2_sittingAt 6 = .ok (.iload_n 1, 1) := by decide +kernel
theorem dX2_sittingAt_7 : decode cX2_sittingAt 7 = .ok (.invokevirtual 78, 3) := by decide +kernel
theorem dX2_sittingAt_10 : decode cX2_sittingAt 10 = .ok (.if_icmp .ge 22, 3) := by decide +kernel
theorem dX2_sittingAt_13 : decode cX2_sittingAt 13 = .ok (.aload_n 0, 1) := by decide +kernel
theorem dX2_sittingAt_14 : decode cX2_sittingAt 14 = .ok (.iload_n 1, 1) := by decide +kernel
theorem dX2_sittingAt_15 : decode cX2_sittingAt 15 = .ok (.iload_n 3, 1) := by decide +kernel
theorem dX2_sittingAt_16 : decode cX2_sittingAt 16 = .ok (.invokevirtual 86, 3) := by decide +kernel
theorem dX2_sittingAt_19 : decode cX2_sittingAt 19 = .ok (.iconst (-1), 1) := by decide +kernel
theorem dX2_sittingAt_20 : decode cX2_sittingAt 20 = .ok (.if_icmp .eq 6, 3) := by decide +kernel
theorem dX2_sittingAt_23 : decode cX2_sittingAt 23 = .ok (.iinc 2 1, 3) := by decide +kernel
theorem dX2_sittingAt_26 : decode cX2_sittingAt 26 = .ok (.iinc 3 1, 3) := by decide +kernel
theorem dX2_sittingAt_29 : decode cX2_sittingAt 29 = .ok (.goto (-25), 3) := by decide +kernel
theorem dX2_sittingAt_32 : decode cX2_sittingAt 32 = .ok (.iload_n 2, 1) := by decide +kernel
theorem dX2_sittingAt_33 : decode cX2_sittingAt 33 = .ok (.ireturn, 1) := by decide +kernel
set_option maxRecDepth 20000 in
theorem ggX2_easySeatsFree_X2_seatsAt : GoodIn wsX2_easySeatsFree wsX2_seatsAt := goodIn_r _ [5, 6, 15, 16, 17, 18, 19, 20, 21, 22, 23, 24, 25, 26, 27, 28] (by decide +kernel) (by decide +kernel)
set_option maxRecDepth 20000 in
theorem gX2_easySeatsFree_X2_seatsAt : GoodIn wsX2_easySeatsFree (wsV RX2 78 RX2 yX2_seatsAt wsX2_seatsAt) := goodIn_app (goodIn_of _ (by decide +kernel)) ggX2_easySeatsFree_X2_seatsAt
set_option maxRecDepth 20000 in
theorem ggX2_easySeatsFree_X2_holderAt : GoodIn wsX2_easySeatsFree wsX2_holderAt := goodIn_r _ [10, 11, 15, 16, 17, 18, 19, 20, 21, 22, 23, 24, 25, 26, 27, 28] (by decide +kernel) (by decide +kernel)
set_option maxRecDepth 20000 in
theorem gX2_easySeatsFree_X2_holderAt : GoodIn wsX2_easySeatsFree (wsV RX2 86 RX2 yX2_holderAt wsX2_holderAt) := goodIn_app (goodIn_of _ (by decide +kernel)) ggX2_easySeatsFree_X2_holderAt
set_option maxRecDepth 20000 in
theorem ggX2_easySeatsFree_X2_isAtLeg : GoodIn wsX2_easySeatsFree wsX2_isAtLeg := goodIn_r _ [14] (by decide +kernel) (by decide +kernel)
set_option maxRecDepth 20000 in
theorem gX2_easySeatsFree_X2_isAtLeg : GoodIn wsX2_easySeatsFree (va_wsS RX2 90 yX2_isAtLeg wsX2_isAtLeg) := goodIn_app (goodIn_of _ (by decide +kernel)) ggX2_easySeatsFree_X2_isAtLeg
theorem dX2_easySeatsFree_0 : decode cX2_easySeatsFree 0 = .ok (.iconst 0, 1) := by decide +kernel
theorem dX2_easySeatsFree_1 : decode cX2_easySeatsFree 1 = .ok (.istore_n 2, 1) := by decide +kernel
theorem dX2_easySeatsFree_2 : decode cX2_easySeatsFree 2 = .ok (.iconst 0, 1) := by decide +kernel
theorem dX2_easySeatsFree_3 : decode cX2_easySeatsFree 3 = .ok (.istore_n 3, 1) := by decide +kernel
theorem dX2_easySeatsFree_4 : decode cX2_easySeatsFree 4 = .ok (.iload_n 3, 1) := by decide +kernel
theorem dX2_easySeatsFree_5 : decode cX2_easySeatsFree 5 = .ok (.aload_n 0, 1) := by decide +kernel
theorem dX2_easySeatsFree_6 : decode cX2_easySeatsFree 6 = .ok (.iload_n 1, 1) := by decide +kernel
theorem dX2_easySeatsFree_7 : decode cX2_easySeatsFree 7 = .ok (.invokevirtual 78, 3) := by decide +kernel
theorem dX2_easySeatsFree_10 : decode cX2_easySeatsFree 10 = .ok (.if_icmp .ge 29, 3) := by decide +kernel
theorem dX2_easySeatsFree_13 : decode cX2_easySeatsFree 13 = .ok (.aload_n 0, 1) := by decide +kernel
theorem dX2_easySeatsFree_14 : decode cX2_easySeatsFree 14 = .ok (.iload_n 1, 1) := by decide +kernel
theorem dX2_easySeatsFree_15 : decode cX2_easySeatsFree 15 = .ok (.iload_n 3, 1) := by decide +kernel
theorem dX2_easySeatsFree_16 : decode cX2_easySeatsFree 16 = .ok (.invokevirtual 86, 3) := by decide +kernel
theorem dX2_easySeatsFree_19 : decode cX2_easySeatsFree 19 = .ok (.iconst (-1), 1) := by decide +kernel
theorem dX2_easySeatsFree_20 : decode cX2_easySeatsFree 20 = .ok (.if_icmp .ne 13, 3) := by decide +kernel
theorem dX2_easySeatsFree_23 : decode cX2_easySeatsFree 23 = .ok (.iload_n 3, 1) := by decide +kernel
theorem dX2_easySeatsFree_24 : decode cX2_easySeatsFree 24 = .ok (.invokestatic 90, 3) := by decide +kernel
theorem dX2_easySeatsFree_27 : decode cX2_easySeatsFree 27 = .ok (.ifCond .ne 6, 3) := by decide +kernel
theorem dX2_easySeatsFree_30 : decode cX2_easySeatsFree 30 = .ok (.iinc 2 1, 3) := by decide +kernel
theorem dX2_easySeatsFree_33 : decode cX2_easySeatsFree 33 = .ok (.iinc 3 1, 3) := by decide +kernel
theorem dX2_easySeatsFree_36 : decode cX2_easySeatsFree 36 = .ok (.goto (-32), 3) := by decide +kernel
theorem dX2_easySeatsFree_39 : decode cX2_easySeatsFree 39 = .ok (.iload_n 2, 1) := by decide +kernel
theorem dX2_easySeatsFree_40 : decode cX2_easySeatsFree 40 = .ok (.ireturn, 1) := by decide +kernel
set_option maxRecDepth 20000 in
theorem ggX2_familyMask_X2_seatsAt : GoodIn wsX2_familyMask wsX2_seatsAt := goodIn_r _ [6, 7, 17, 18, 19, 20, 21, 22, 23, 24, 25, 26, 27, 28, 29, 30] (by decide +kernel) (by decide +kernel)
set_option maxRecDepth 20000 in
theorem gX2_familyMask_X2_seatsAt : GoodIn wsX2_familyMask (wsV RX2 78 RX2 yX2_seatsAt wsX2_seatsAt) := goodIn_app (goodIn_of _ (by decide +kernel)) ggX2_familyMask_X2_seatsAt
set_option maxRecDepth 20000 in
theorem ggX2_familyMask_X2_holderAt : GoodIn wsX2_familyMask wsX2_holderAt := goodIn_r _ [11, 12, 17, 18, 19, 20, 21, 22, 23, 24, 25, 26, 27, 28, 29, 30] (by decide +kernel) (by decide +kernel)
set_option maxRecDepth 20000 in
theorem gX2_familyMask_X2_holderAt : GoodIn wsX2_familyMask (wsV RX2 86 RX2 yX2_holderAt wsX2_holderAt) := goodIn_app (goodIn_of _ (by decide +kernel)) ggX2_familyMask_X2_holderAt
set_option maxRecDepth 20000 in
theorem ggX2_familyMask_X3_at : GoodIn wsX2_familyMask wsX3_at := goodIn_r _ [16] (by decide +kernel) (by decide +kernel)
set_option maxRecDepth 20000 in
theorem gX2_familyMask_X3_at : GoodIn wsX2_familyMask (va_wsS RX2 82 yX3_at wsX3_at) := goodIn_app (goodIn_of _ (by decide +kernel)) ggX2_familyMask_X3_at
theorem dX2_familyMask_0 : decode cX2_familyMask 0 = .ok (.iconst 0, 1) := by decide +kernel
theorem dX2_familyMask_1 : decode cX2_familyMask 1 = .ok (.istore_n 2, 1) := by decide +kernel
theorem dX2_familyMask_2 : decode cX2_familyMask 2 = .ok (.iconst 0, 1) := by decide +kernel
theorem dX2_familyMask_3 : decode cX2_familyMask 3 = .ok (.istore_n 3, 1) := by decide +kernel
theorem dX2_familyMask_4 : decode cX2_familyMask 4 = .ok (.iload_n 3, 1) := by decide +kernel
theorem dX2_familyMask_5 : decode cX2_familyMask 5 = .ok (.aload_n 0, 1) := by decide +kernel
theorem dX2_familyMask_6 : decode cX2_familyMask 6 = .ok (.iload_n 1, 1) := by decide +kernel
theorem dX2_familyMask_7 : decode cX2_familyMask 7 = .ok (.invokevirtual 78, 3) := by decide +kernel
theorem dX2_familyMask_10 : decode cX2_familyMask 10 = .ok (.if_icmp .ge 37, 3) := by decide +kernel
theorem dX2_familyMask_13 : decode cX2_familyMask 13 = .ok (.aload_n 0, 1) := by decide +kernel
theorem dX2_familyMask_14 : decode cX2_familyMask 14 = .ok (.iload_n 1, 1) := by decide +kernel
theorem dX2_familyMask_15 : decode cX2_familyMask 15 = .ok (.iload_n 3, 1) := by decide +kernel
theorem dX2_familyMask_16 : decode cX2_familyMask 16 = .ok (.invokevirtual 86, 3) := by decide +kernel
theorem dX2_familyMask_19 : decode cX2_familyMask 19 = .ok (.istore 4, 2) := by decide +kernel
theorem dX2_familyMask_21 : decode cX2_familyMask 21 = .ok (.iload 4, 2) := by decide +kernel
theorem dX2_familyMask_23 : decode cX2_familyMask 23 = .ok (.iconst (-1), 1) := by decide +kernel
theorem dX2_familyMask_24 : decode cX2_familyMask 24 = .ok (.if_icmp .eq 17, 3) := by decide +kernel
theorem dX2_familyMask_27 : decode cX2_familyMask 27 = .ok (.iload_n 2, 1) := by decide +kernel
theorem dX2_familyMask_28 : decode cX2_familyMask 28 = .ok (.iconst 1, 1) := by decide +kernel
theorem dX2_familyMask_29 : decode cX2_familyMask 29 = .ok (.aload_n 0, 1) := by decide +kernel
theorem dX2_familyMask_30 : decode cX2_familyMask 30 = .ok (.getfield 9, 3) := by decide +kernel
theorem dX2_familyMask_33 : decode cX2_familyMask 33 = .ok (.iload 4, 2) := by decide +kernel
theorem dX2_familyMask_35 : decode cX2_familyMask 35 = .ok (.invokestatic 82, 3) := by decide +kernel
theorem dX2_familyMask_38 : decode cX2_familyMask 38 = .ok (.ishl, 1) := by decide +kernel
theorem dX2_familyMask_39 : decode cX2_familyMask 39 = .ok (.ior, 1) := by decide +kernel
theorem dX2_familyMask_40 : decode cX2_familyMask 40 = .ok (.istore_n 2, 1) := by decide +kernel
theorem dX2_familyMask_41 : decode cX2_familyMask 41 = .ok (.iinc 3 1, 3) := by decide +kernel
theorem dX2_familyMask_44 : decode cX2_familyMask 44 = .ok (.goto (-40), 3) := by decide +kernel
theorem dX2_familyMask_47 : decode cX2_familyMask 47 = .ok (.iload_n 2, 1) := by decide +kernel
theorem dX2_familyMask_48 : decode cX2_familyMask 48 = .ok (.ireturn, 1) := by decide +kernel
set_option maxRecDepth 20000 in
theorem ggX2_familyAt_X2_seatsAt : GoodIn wsX2_familyAt wsX2_seatsAt := goodIn_r _ [6, 7, 17, 18, 19, 20, 21, 22, 23, 24, 25, 26, 27, 28, 29, 30] (by decide +kernel) (by decide +kernel)
set_option maxRecDepth 20000 in
theorem gX2_familyAt_X2_seatsAt : GoodIn wsX2_familyAt (wsV RX2 78 RX2 yX2_seatsAt wsX2_seatsAt) := goodIn_app (goodIn_of _ (by decide +kernel)) ggX2_familyAt_X2_seatsAt
set_option maxRecDepth 20000 in
theorem ggX2_familyAt_X2_holderAt : GoodIn wsX2_familyAt wsX2_holderAt := goodIn_r _ [11, 12, 17, 18, 19, 20, 21, 22, 23, 24, 25, 26, 27, 28, 29, 30] (by decide +kernel) (by decide +kernel)
set_option maxRecDepth 20000 in
theorem gX2_familyAt_X2_holderAt : GoodIn wsX2_familyAt (wsV RX2 86 RX2 yX2_holderAt wsX2_holderAt) := goodIn_app (goodIn_of _ (by decide +kernel)) ggX2_familyAt_X2_holderAt
set_option maxRecDepth 20000 in
theorem ggX2_familyAt_X3_at : GoodIn wsX2_familyAt wsX3_at := goodIn_r _ [16] (by decide +kernel) (by decide +kernel)
set_option maxRecDepth 20000 in
theorem gX2_familyAt_X3_at : GoodIn wsX2_familyAt (va_wsS RX2 82 yX3_at wsX3_at) := goodIn_app (goodIn_of _ (by decide +kernel)) ggX2_familyAt_X3_at
theorem dX2_familyAt_0 : decode cX2_familyAt 0 = .ok (.iconst 0, 1) := by decide +kernel
theorem dX2_familyAt_1 : decode cX2_familyAt 1 = .ok (.istore_n 3, 1) := by decide +kernel
theorem dX2_familyAt_2 : decode cX2_familyAt 2 = .ok (.iconst 0, 1) := by decide +kernel
theorem dX2_familyAt_3 : decode cX2_familyAt 3 = .ok (.istore 4, 2) := by decide +kernel
theorem dX2_familyAt_5 : decode cX2_familyAt 5 = .ok (.iload 4, 2) := by decide +kernel
theorem dX2_familyAt_7 : decode cX2_familyAt 7 = .ok (.aload_n 0, 1) := by decide +kernel
theorem dX2_familyAt_8 : decode cX2_familyAt 8 = .ok (.iload_n 1, 1) := by decide +kernel
theorem dX2_familyAt_9 : decode cX2_familyAt 9 = .ok (.invokevirtual 78, 3) := by decide +kernel
theorem dX2_familyAt_12 : decode cX2_familyAt 12 = .ok (.if_icmp .ge 40, 3) := by decide +kernel
theorem dX2_familyAt_15 : decode cX2_familyAt 15 = .ok (.aload_n 0, 1) := by decide +kernel
theorem dX2_familyAt_16 : decode cX2_familyAt 16 = .ok (.iload_n 1, 1) := by decide +kernel
theorem dX2_familyAt_17 : decode cX2_familyAt 17 = .ok (.iload 4, 2) := by decide +kernel
theorem dX2_familyAt_19 : decode cX2_familyAt 19 = .ok (.invokevirtual 86, 3) := by decide +kernel
theorem dX2_familyAt_22 : decode cX2_familyAt 22 = .ok (.istore 5, 2) := by decide +kernel
theorem dX2_familyAt_24 : decode cX2_familyAt 24 = .ok (.iload 5, 2) := by decide +kernel
theorem dX2_familyAt_26 : decode cX2_familyAt 26 = .ok (.iconst (-1), 1) := by decide +kernel
theorem dX2_familyAt_27 : decode cX2_familyAt 27 = .ok (.if_icmp .eq 19, 3) := by decide +kernel
theorem dX2_familyAt_30 : decode cX2_familyAt 30 = .ok (.aload_n 0, 1) := by decide +kernel
theorem dX2_familyAt_31 : decode cX2_familyAt 31 = .ok (.getfield 9, 3) := by decide +kernel
theorem dX2_familyAt_34 : decode cX2_familyAt 34 = .ok (.iload 5, 2) := by decide +kernel
theorem dX2_familyAt_36 : decode cX2_familyAt 36 = .ok (.invokestatic 82, 3) := by decide +kernel
theorem dX2_familyAt_39 : decode cX2_familyAt 39 = .ok (.iload_n 2, 1) := by decide +kernel
theorem dX2_familyAt_40 : decode cX2_familyAt 40 = .ok (.if_icmp .ne 6, 3) := by decide +kernel
theorem dX2_familyAt_43 : decode cX2_familyAt 43 = .ok (.iinc 3 1, 3) := by decide +kernel
theorem dX2_familyAt_46 : decode cX2_familyAt 46 = .ok (.iinc 4 1, 3) := by decide +kernel
theorem dX2_familyAt_49 : decode cX2_familyAt 49 = .ok (.goto (-44), 3) := by decide +kernel
theorem dX2_familyAt_52 : decode cX2_familyAt 52 = .ok (.iload_n 3, 1) := by decide +kernel
theorem dX2_familyAt_53 : decode cX2_familyAt 53 = .ok (.ireturn, 1) := by decide +kernel
set_option maxRecDepth 20000 in
theorem ggX2_lettersOfTable_X2_seatsAt : GoodIn wsX2_lettersOfTable wsX2_seatsAt := goodIn_r _ [5, 6, 10, 11, 12, 13, 14, 15, 16, 17, 18, 19, 20, 21, 22, 23] (by decide +kernel) (by decide +kernel)
set_option maxRecDepth 20000 in
theorem gX2_lettersOfTable_X2_seatsAt : GoodIn wsX2_lettersOfTable (wsV RX2 78 RX2 yX2_seatsAt wsX2_seatsAt) := goodIn_app (goodIn_of _ (by decide +kernel)) ggX2_lettersOfTable_X2_seatsAt
set_option maxRecDepth 20000 in
theorem ggX2_lettersOfTable_X2_isAtLeg : GoodIn wsX2_lettersOfTable wsX2_isAtLeg := goodIn_r _ [9] (by decide +kernel) (by decide +kernel)
set_option maxRecDepth 20000 in
theorem gX2_lettersOfTable_X2_isAtLeg : GoodIn wsX2_lettersOfTable (va_wsS RX2 90 yX2_isAtLeg wsX2_isAtLeg) := goodIn_app (goodIn_of _ (by decide +kernel)) ggX2_lettersOfTable_X2_isAtLeg
theorem dX2_lettersOfTable_0 : decode cX2_lettersOfTable 0 = .ok (.iconst 0, 1) := by decide +kernel
theorem dX2_lettersOfTable_1 : decode cX2_lettersOfTable 1 = .ok (.istore_n 2, 1) := by decide +kernel
theorem dX2_lettersOfTable_2 : decode cX2_lettersOfTable 2 = .ok (.iconst 0, 1) := by decide +kernel
theorem dX2_lettersOfTable_3 : decode cX2_lettersOfTable 3 = .ok (.istore_n 3, 1) := by decide +kernel
theorem dX2_lettersOfTable_4 : decode cX2_lettersOfTable 4 = .ok (.iload_n 3, 1) := by decide +kernel
theorem dX2_lettersOfTable_5 : decode cX2_lettersOfTable 5 = .ok (.aload_n 0, 1) := by decide +kernel
theorem dX2_lettersOfTable_6 : decode cX2_lettersOfTable 6 = .ok (.iload_n 1, 1) := by decide +kernel
theorem dX2_lettersOfTable_7 : decode cX2_lettersOfTable 7 = .ok (.invokevirtual 78, 3) := by decide +kernel
theorem dX2_lettersOfTable_10 : decode cX2_lettersOfTable 10 = .ok (.if_icmp .ge 24, 3) := by decide +kernel
theorem dX2_lettersOfTable_13 : decode cX2_lettersOfTable 13 = .ok (.iload_n 2, 1) := by decide +kernel
theorem dX2_lettersOfTable_14 : decode cX2_lettersOfTable 14 = .ok (.iload_n 3, 1) := by decide +kernel
theorem dX2_lettersOfTable_15 : decode cX2_lettersOfTable 15 = .ok (.invokestatic 90, 3) := by decide +kernel
theorem dX2_lettersOfTable_18 : decode cX2_lettersOfTable 18 = .ok (.ifCond .eq 7, 3) := by decide +kernel
theorem dX2_lettersOfTable_21 : decode cX2_lettersOfTable 21 = .ok (.iconst 2, 1) := by decide +kernel
theorem dX2_lettersOfTable_22 : decode cX2_lettersOfTable 22 = .ok (.goto 4, 3) := by decide +kernel
theorem dX2_lettersOfTable_25 : decode cX2_lettersOfTable 25 = .ok (.iconst 1, 1) := by decide +kernel
theorem dX2_lettersOfTable_26 : decode cX2_lettersOfTable 26 = .ok (.iadd, 1) := by decide +kernel
theorem dX2_lettersOfTable_27 : decode cX2_lettersOfTable 27 = .ok (.istore_n 2, 1) := by decide +kernel
theorem dX2_lettersOfTable_28 : decode cX2_lettersOfTable 28 = .ok (.iinc 3 1, 3) := by decide +kernel
theorem dX2_lettersOfTable_31 : decode cX2_lettersOfTable 31 = .ok (.goto (-27), 3) := by decide +kernel
theorem dX2_lettersOfTable_34 : decode cX2_lettersOfTable 34 = .ok (.iload_n 2, 1) := by decide +kernel
theorem dX2_lettersOfTable_35 : decode cX2_lettersOfTable 35 = .ok (.ireturn, 1) := by decide +kernel
set_option maxRecDepth 20000 in
theorem ggX2_letterOfTable_X2_seatsAt : GoodIn wsX2_letterOfTable wsX2_seatsAt := goodIn_r _ [6, 7, 20, 21, 22, 23, 24, 25, 26, 27, 28, 29, 30, 31, 32, 33] (by decide +kernel) (by decide +kernel)
set_option maxRecDepth 20000 in
theorem gX2_letterOfTable_X2_seatsAt : GoodIn wsX2_letterOfTable (wsV RX2 78 RX2 yX2_seatsAt wsX2_seatsAt) := goodIn_app (goodIn_of _ (by decide +kernel)) ggX2_letterOfTable_X2_seatsAt
set_option maxRecDepth 20000 in
theorem ggX2_letterOfTable_X2_holderAt : GoodIn wsX2_letterOfTable wsX2_holderAt := goodIn_r _ [11, 12, 20, 21, 22, 23, 24, 25, 26, 27, 28, 29, 30, 31, 32, 33] (by decide +kernel) (by decide +kernel)
set_option maxRecDepth 20000 in
theorem gX2_letterOfTable_X2_holderAt : GoodIn wsX2_letterOfTable (wsV RX2 86 RX2 yX2_holderAt wsX2_holderAt) := goodIn_app (goodIn_of _ (by decide +kernel)) ggX2_letterOfTable_X2_holderAt
set_option maxRecDepth 20000 in
theorem ggX2_letterOfTable_X3_at : GoodIn wsX2_letterOfTable wsX3_at := goodIn_r _ [16] (by decide +kernel) (by decide +kernel)
set_option maxRecDepth 20000 in
theorem gX2_letterOfTable_X3_at : GoodIn wsX2_letterOfTable (va_wsS RX2 82 yX3_at wsX3_at) := goodIn_app (goodIn_of _ (by decide +kernel)) ggX2_letterOfTable_X3_at
set_option maxRecDepth 20000 in
theorem ggX2_letterOfTable_X2_isAtLeg : GoodIn wsX2_letterOfTable wsX2_isAtLeg := goodIn_r _ [19] (by decide +kernel) (by decide +kernel)
set_option maxRecDepth 20000 in
theorem gX2_letterOfTable_X2_isAtLeg : GoodIn wsX2_letterOfTable (va_wsS RX2 90 yX2_isAtLeg wsX2_isAtLeg) := goodIn_app (goodIn_of _ (by decide +kernel)) ggX2_letterOfTable_X2_isAtLeg
theorem dX2_letterOfTable_0 : decode cX2_letterOfTable 0 = .ok (.iconst 0, 1) := by decide +kernel
theorem dX2_letterOfTable_1 : decode cX2_letterOfTable 1 = .ok (.istore_n 3, 1) := by decide +kernel
theorem dX2_letterOfTable_2 : decode cX2_letterOfTable 2 = .ok (.iconst 0, 1) := by decide +kernel
theorem dX2_letterOfTable_3 : decode cX2_letterOfTable 3 = .ok (.istore 4, 2) := by decide +kernel
theorem dX2_letterOfTable_5 : decode cX2_letterOfTable 5 = .ok (.iload 4, 2) := by decide +kernel
theorem dX2_letterOfTable_7 : decode cX2_letterOfTable 7 = .ok (.aload_n 0, 1) := by decide +kernel
theorem dX2_letterOfTable_8 : decode cX2_letterOfTable 8 = .ok (.iload_n 1, 1) := by decide +kernel
theorem dX2_letterOfTable_9 : decode cX2_letterOfTable 9 = .ok (.invokevirtual 78, 3) := by decide +kernel
theorem dX2_letterOfTable_12 : decode cX2_letterOfTable 12 = .ok (.if_icmp .ge 69, 3) := by decide +kernel
theorem dX2_letterOfTable_15 : decode cX2_letterOfTable 15 = .ok (.iload_n 3, 1) := by decide +kernel
theorem dX2_letterOfTable_16 : decode cX2_letterOfTable 16 = .ok (.iload_n 2, 1) := by decide +kernel
theorem dX2_letterOfTable_17 : decode cX2_letterOfTable 17 = .ok (.if_icmp .ne 36, 3) := by decide +kernel
theorem dX2_letterOfTable_20 : decode cX2_letterOfTable 20 = .ok (.aload_n 0, 1) := by decide +kernel
theorem dX2_letterOfTable_21 : decode cX2_letterOfTable 21 = .ok (.iload_n 1, 1) := by decide +kernel
theorem dX2_letterOfTable_22 : decode cX2_letterOfTable 22 = .ok (.iload 4, 2) := by decide +kernel
theorem dX2_letterOfTable_24 : decode cX2_letterOfTable 24 = .ok (.invokevirtual 86, 3) := by decide +kernel
theorem dX2_letterOfTable_27 : decode cX2_letterOfTable 27 = .ok (.istore 5, 2) := by decide +kernel
theorem dX2_letterOfTable_29 : decode cX2_letterOfTable 29 = .ok (.iload 5, 2) := by decide +kernel
theorem dX2_letterOfTable_31 : decode cX2_letterOfTable 31 = .ok (.iconst (-1), 1) := by decide +kernel
theorem dX2_letterOfTable_32 : decode cX2_letterOfTable 32 = .ok (.if_icmp .ne 8, 3) := by decide +kernel
theorem dX2_letterOfTable_35 : decode cX2_letterOfTable 35 = .ok (.bipush 46, 2) := by decide +kernel
theorem dX2_letterOfTable_37 : decode cX2_letterOfTable 37 = .ok (.goto 15, 3) := by decide +kernel
theorem dX2_letterOfTable_40 : decode cX2_letterOfTable 40 = .ok (.bipush 65, 2) := by decide +kernel
theorem dX2_letterOfTable_42 : decode cX2_letterOfTable 42 = .ok (.aload_n 0, 1) := by decide +kernel
theorem dX2_letterOfTable_43 : decode cX2_letterOfTable 43 = .ok (.getfield 9, 3) := by decide +kernel
theorem dX2_letterOfTable_46 : decode cX2_letterOfTable 46 = .ok (.iload 5, 2) := by decide +kernel
theorem dX2_letterOfTable_48 : decode cX2_letterOfTable 48 = .ok (.invokestatic 82, 3) := by decide +kernel
theorem dX2_letterOfTable_51 : decode cX2_letterOfTable 51 = .ok (.iadd, 1) := by decide +kernel
theorem dX2_letterOfTable_52 : decode cX2_letterOfTable 52 = .ok (.ireturn, 1) := by decide +kernel
theorem dX2_letterOfTable_53 : decode cX2_letterOfTable 53 = .ok (.iinc 3 1, 3) := by decide +kernel
theorem dX2_letterOfTable_56 : decode cX2_letterOfTable 56 = .ok (.iload 4, 2) := by decide +kernel
theorem dX2_letterOfTable_58 : decode cX2_letterOfTable 58 = .ok (.invokestatic 90, 3) := by decide +kernel
theorem dX2_letterOfTable_61 : decode cX2_letterOfTable 61 = .ok (.ifCond .eq 14, 3) := by decide +kernel
theorem dX2_letterOfTable_64 : decode cX2_letterOfTable 64 = .ok (.iload_n 3, 1) := by decide +kernel
theorem dX2_letterOfTable_65 : decode cX2_letterOfTable 65 = .ok (.iload_n 2, 1) := by decide +kernel
theorem dX2_letterOfTable_66 : decode cX2_letterOfTable 66 = .ok (.if_icmp .ne 6, 3) := by decide +kernel
theorem dX2_letterOfTable_69 : decode cX2_letterOfTable 69 = .ok (.bipush 124, 2) := by decide +kernel
theorem dX2_letterOfTable_71 : decode cX2_letterOfTable 71 = .ok (.ireturn, 1) := by decide +kernel
theorem dX2_letterOfTable_72 : decode cX2_letterOfTable 72 = .ok (.iinc 3 1, 3) := by decide +kernel
theorem dX2_letterOfTable_75 : decode cX2_letterOfTable 75 = .ok (.iinc 4 1, 3) := by decide +kernel
theorem dX2_letterOfTable_78 : decode cX2_letterOfTable 78 = .ok (.goto (-73), 3) := by decide +kernel
theorem dX2_letterOfTable_81 : decode cX2_letterOfTable 81 = .ok (.iconst (-1), 1) := by decide +kernel
theorem dX2_letterOfTable_82 : decode cX2_letterOfTable 82 = .ok (.ireturn, 1) := by decide +kernel
set_option maxRecDepth 20000 in
theorem ggX2_addGuest_X3_put : GoodIn wsX2_addGuest wsX3_put := goodIn_r _ [10] (by decide +kernel) (by decide +kernel)
set_option maxRecDepth 20000 in
theorem gX2_addGuest_X3_put : GoodIn wsX2_addGuest (va_wsS RX2 93 yX3_put wsX3_put) := goodIn_app (goodIn_of _ (by decide +kernel)) ggX2_addGuest_X3_put
theorem dX2_addGuest_0 : decode cX2_addGuest 0 = .ok (.aload_n 0, 1) := by decide +kernel
theorem dX2_addGuest_1 : decode cX2_addGuest 1 = .ok (.getfield 61, 3) := by decide +kernel
theorem dX2_addGuest_4 : decode cX2_addGuest 4 = .ok (.istore_n 3, 1) := by decide +kernel
theorem dX2_addGuest_5 : decode cX2_addGuest 5 = .ok (.aload_n 0, 1) := by decide +kernel
theorem dX2_addGuest_6 : decode cX2_addGuest 6 = .ok (.getfield 9, 3) := by decide +kernel
theorem dX2_addGuest_9 : decode cX2_addGuest 9 = .ok (.iload_n 3, 1) := by decide +kernel
theorem dX2_addGuest_10 : decode cX2_addGuest 10 = .ok (.iload_n 1, 1) := by decide +kernel
theorem dX2_addGuest_11 : decode cX2_addGuest 11 = .ok (.invokestatic 93, 3) := by decide +kernel
theorem dX2_addGuest_14 : decode cX2_addGuest 14 = .ok (.aload_n 0, 1) := by decide +kernel
theorem dX2_addGuest_15 : decode cX2_addGuest 15 = .ok (.getfield 15, 3) := by decide +kernel
theorem dX2_addGuest_18 : decode cX2_addGuest 18 = .ok (.iload_n 3, 1) := by decide +kernel
theorem dX2_addGuest_19 : decode cX2_addGuest 19 = .ok (.iload_n 2, 1) := by decide +kernel
theorem dX2_addGuest_20 : decode cX2_addGuest 20 = .ok (.invokestatic 93, 3) := by decide +kernel
theorem dX2_addGuest_23 : decode cX2_addGuest 23 = .ok (.aload_n 0, 1) := by decide +kernel
theorem dX2_addGuest_24 : decode cX2_addGuest 24 = .ok (.getfield 18, 3) := by decide +kernel
theorem dX2_addGuest_27 : decode cX2_addGuest 27 = .ok (.iload_n 3, 1) := by decide +kernel
theorem dX2_addGuest_28 : decode cX2_addGuest 28 = .ok (.iconst (-1), 1) := by decide +kernel
theorem dX2_addGuest_29 : decode cX2_addGuest 29 = .ok (.invokestatic 93, 3) := by decide +kernel
theorem dX2_addGuest_32 : decode cX2_addGuest 32 = .ok (.aload_n 0, 1) := by decide +kernel
theorem dX2_addGuest_33 : decode cX2_addGuest 33 = .ok (.getfield 21, 3) := by decide +kernel
theorem dX2_addGuest_36 : decode cX2_addGuest 36 = .ok (.iload_n 3, 1) := by decide +kernel
theorem dX2_addGuest_37 : decode cX2_addGuest 37 = .ok (.iconst (-1), 1) := by decide +kernel
theorem dX2_addGuest_38 : decode cX2_addGuest 38 = .ok (.invokestatic 93, 3) := by decide +kernel
theorem dX2_addGuest_41 : decode cX2_addGuest 41 = .ok (.aload_n 0, 1) := by decide +kernel
theorem dX2_addGuest_42 : decode cX2_addGuest 42 = .ok (.getfield 24, 3) := by decide +kernel
theorem dX2_addGuest_45 : decode cX2_addGuest 45 = .ok (.iload_n 3, 1) := by decide +kernel
theorem dX2_addGuest_46 : decode cX2_addGuest 46 = .ok (.iconst (-1), 1) := by decide +kernel
theorem dX2_addGuest_47 : decode cX2_addGuest 47 = .ok (.invokestatic 93, 3) := by decide +kernel
theorem dX2_addGuest_50 : decode cX2_addGuest 50 = .ok (.aload_n 0, 1) := by decide +kernel
theorem dX2_addGuest_51 : decode cX2_addGuest 51 = .ok (.dup, 1) := by decide +kernel
theorem dX2_addGuest_52 : decode cX2_addGuest 52 = .ok (.getfield 61, 3) := by decide +kernel
theorem dX2_addGuest_55 : decode cX2_addGuest 55 = .ok (.iconst 1, 1) := by decide +kernel
theorem dX2_addGuest_56 : decode cX2_addGuest 56 = .ok (.iadd, 1) := by decide +kernel
theorem dX2_addGuest_57 : decode cX2_addGuest 57 = .ok (.putfield 61, 3) := by decide +kernel
theorem dX2_addGuest_60 : decode cX2_addGuest 60 = .ok (.iload_n 3, 1) := by decide +kernel
theorem dX2_addGuest_61 : decode cX2_addGuest 61 = .ok (.ireturn, 1) := by decide +kernel
set_option maxRecDepth 20000 in
theorem ggX2_addTable_X3_put : GoodIn wsX2_addTable wsX3_put := goodIn_r _ [7] (by decide +kernel) (by decide +kernel)
set_option maxRecDepth 20000 in
theorem gX2_addTable_X3_put : GoodIn wsX2_addTable (va_wsS RX2 93 yX3_put wsX3_put) := goodIn_app (goodIn_of _ (by decide +kernel)) ggX2_addTable_X3_put
theorem dX2_addTable_0 : decode cX2_addTable 0 = .ok (.aload_n 0, 1) := by decide +kernel
theorem dX2_addTable_1 : decode cX2_addTable 1 = .ok (.getfield 65, 3) := by decide +kernel
theorem dX2_addTable_4 : decode cX2_addTable 4 = .ok (.istore_n 2, 1) := by decide +kernel
theorem dX2_addTable_5 : decode cX2_addTable 5 = .ok (.aload_n 0, 1) := by decide +kernel
theorem dX2_addTable_6 : decode cX2_addTable 6 = .ok (.getfield 27, 3) := by decide +kernel
theorem dX2_addTable_9 : decode cX2_addTable 9 = .ok (.iload_n 2, 1) := by decide +kernel
theorem dX2_addTable_10 : decode cX2_addTable 10 = .ok (.iload_n 1, 1) := by decide +kernel
theorem dX2_addTable_11 : decode cX2_addTable 11 = .ok (.invokestatic 93, 3) := by decide +kernel
theorem dX2_addTable_14 : decode cX2_addTable 14 = .ok (.iconst 0, 1) := by decide +kernel
theorem dX2_addTable_15 : decode cX2_addTable 15 = .ok (.istore_n 3, 1) := by decide +kernel
theorem dX2_addTable_16 : decode cX2_addTable 16 = .ok (.iload_n 3, 1) := by decide +kernel
theorem dX2_addTable_17 : decode cX2_addTable 17 = .ok (.bipush 8, 2) := by decide +kernel
theorem dX2_addTable_19 : decode cX2_addTable 19 = .ok (.if_icmp .ge 23, 3) := by decide +kernel
theorem dX2_addTable_22 : decode cX2_addTable 22 = .ok (.aload_n 0, 1) := by decide +kernel
theorem dX2_addTable_23 : decode cX2_addTable 23 = .ok (.getfield 30, 3) := by decide +kernel
theorem dX2_addTable_26 : decode cX2_addTable 26 = .ok (.iload_n 2, 1) := by decide +kernel
theorem dX2_addTable_27 : decode cX2_addTable 27 = .ok (.bipush 8, 2) := by decide +kernel
theorem dX2_addTable_29 : decode cX2_addTable 29 = .ok (.imul, 1) := by decide +kernel
theorem dX2_addTable_30 : decode cX2_addTable 30 = .ok (.iload_n 3, 1) := by decide +kernel
theorem dX2_addTable_31 : decode cX2_addTable 31 = .ok (.iadd, 1) := by decide +kernel
theorem dX2_addTable_32 : decode cX2_addTable 32 = .ok (.iconst (-1), 1) := by decide +kernel
theorem dX2_addTable_33 : decode cX2_addTable 33 = .ok (.invokestatic 93, 3) := by decide +kernel
theorem dX2_addTable_36 : decode cX2_addTable 36 = .ok (.iinc 3 1, 3) := by decide +kernel
theorem dX2_addTable_39 : decode cX2_addTable 39 = .ok (.goto (-23), 3) := by decide +kernel
theorem dX2_addTable_42 : decode cX2_addTable 42 = .ok (.aload_n 0, 1) := by decide +kernel
theorem dX2_addTable_43 : decode cX2_addTable 43 = .ok (.dup, 1) := by decide +kernel
theorem dX2_addTable_44 : decode cX2_addTable 44 = .ok (.getfield 65, 3) := by decide +kernel
theorem dX2_addTable_47 : decode cX2_addTable 47 = .ok (.iconst 1, 1) := by decide +kernel
theorem dX2_addTable_48 : decode cX2_addTable 48 = .ok (.iadd, 1) := by decide +kernel
theorem dX2_addTable_49 : decode cX2_addTable 49 = .ok (.putfield 65, 3) := by decide +kernel
theorem dX2_addTable_52 : decode cX2_addTable 52 = .ok (.iload_n 2, 1) := by decide +kernel
theorem dX2_addTable_53 : decode cX2_addTable 53 = .ok (.ireturn, 1) := by decide +kernel
theorem dX2_feudCode_0 : decode cX2_feudCode 0 = .ok (.bipush 6, 2) := by decide +kernel
theorem dX2_feudCode_2 : decode cX2_feudCode 2 = .ok (.iload_n 0, 1) := by decide +kernel
theorem dX2_feudCode_3 : decode cX2_feudCode 3 = .ok (.iload_n 1, 1) := by decide +kernel
theorem dX2_feudCode_4 : decode cX2_feudCode 4 = .ok (.invokestatic 97, 3) := by decide +kernel
theorem dX2_feudCode_7 : decode cX2_feudCode 7 = .ok (.imul, 1) := by decide +kernel
theorem dX2_feudCode_8 : decode cX2_feudCode 8 = .ok (.iload_n 0, 1) := by decide +kernel
theorem dX2_feudCode_9 : decode cX2_feudCode 9 = .ok (.iload_n 1, 1) := by decide +kernel
theorem dX2_feudCode_10 : decode cX2_feudCode 10 = .ok (.invokestatic 102, 3) := by decide +kernel
theorem dX2_feudCode_13 : decode cX2_feudCode 13 = .ok (.iadd, 1) := by decide +kernel
theorem dX2_feudCode_14 : decode cX2_feudCode 14 = .ok (.ireturn, 1) := by decide +kernel
set_option maxRecDepth 20000 in
theorem ggX2_hasFeud_X2_feudCode : GoodIn wsX2_hasFeud wsX2_feudCode := goodIn_r _ [5, 6, 7, 8, 9, 10, 11, 12] (by decide +kernel) (by decide +kernel)
set_option maxRecDepth 20000 in
theorem gX2_hasFeud_X2_feudCode : GoodIn wsX2_hasFeud (va_wsS RX2 105 yX2_feudCode wsX2_feudCode) := goodIn_app (goodIn_of _ (by decide +kernel)) ggX2_hasFeud_X2_feudCode
set_option maxRecDepth 20000 in
theorem ggX2_hasFeud_X1_holds : GoodIn wsX2_hasFeud wsX1_holds := goodIn_r _ [17, 18, 19, 20, 21, 16, 22, 23, 38, 39] (by decide +kernel) (by decide +kernel)
set_option maxRecDepth 20000 in
theorem gX2_hasFeud_X1_holds : GoodIn wsX2_hasFeud (wsV RX2 108 RX1 yX1_holds wsX1_holds) := goodIn_app (goodIn_of _ (by decide +kernel)) ggX2_hasFeud_X1_holds
theorem dX2_hasFeud_0 : decode cX2_hasFeud 0 = .ok (.aload_n 0, 1) := by decide +kernel
theorem dX2_hasFeud_1 : decode cX2_hasFeud 1 = .ok (.getfield 41, 3) := by decide +kernel
theorem dX2_hasFeud_4 : decode cX2_hasFeud 4 = .ok (.iload_n 1, 1) := by decide +kernel
theorem dX2_hasFeud_5 : decode cX2_hasFeud 5 = .ok (.iload_n 2, 1) := by decide +kernel
theorem dX2_hasFeud_6 : decode cX2_hasFeud 6 = .ok (.invokestatic 105, 3) := by decide +kernel
theorem dX2_hasFeud_9 : decode cX2_hasFeud 9 = .ok (.invokevirtual 108, 3) := by decide +kernel
theorem dX2_hasFeud_12 : decode cX2_hasFeud 12 = .ok (.ireturn, 1) := by decide +kernel
set_option maxRecDepth 20000 in
theorem ggX2_foeMask_X1_length : GoodIn wsX2_foeMask wsX1_length := goodIn_r _ [6, 7, 27, 28] (by decide +kernel) (by decide +kernel)
set_option maxRecDepth 20000 in
theorem gX2_foeMask_X1_length : GoodIn wsX2_foeMask (wsV RX2 111 RX1 yX1_length wsX1_length) := goodIn_app (goodIn_of _ (by decide +kernel)) ggX2_foeMask_X1_length
set_option maxRecDepth 20000 in
theorem ggX2_foeMask_X1_itemAt : GoodIn wsX2_foeMask wsX1_itemAt := goodIn_r _ [11, 7, 12, 27, 28] (by decide +kernel) (by decide +kernel)
set_option maxRecDepth 20000 in
theorem gX2_foeMask_X1_itemAt : GoodIn wsX2_foeMask (wsV RX2 115 RX1 yX1_itemAt wsX1_itemAt) := goodIn_app (goodIn_of _ (by decide +kernel)) ggX2_foeMask_X1_itemAt
theorem dX2_foeMask_0 : decode cX2_foeMask 0 = .ok (.iconst 0, 1) := by decide +kernel
theorem dX2_foeMask_1 : decode cX2_foeMask 1 = .ok (.istore_n 2, 1) := by decide +kernel
theorem dX2_foeMask_2 : decode cX2_foeMask 2 = .ok (.iconst 0, 1) := by decide +kernel
theorem dX2_foeMask_3 : decode cX2_foeMask 3 = .ok (.istore_n 3, 1) := by decide +kernel
theorem dX2_foeMask_4 : decode cX2_foeMask 4 = .ok (.iload_n 3, 1) := by decide +kernel
theorem dX2_foeMask_5 : decode cX2_foeMask 5 = .ok (.aload_n 0, 1) := by decide +kernel
theorem dX2_foeMask_6 : decode cX2_foeMask 6 = .ok (.getfield 41, 3) := by decide +kernel
theorem dX2_foeMask_9 : decode cX2_foeMask 9 = .ok (.invokevirtual 111, 3) := by decide +kernel
theorem dX2_foeMask_12 : decode cX2_foeMask 12 = .ok (.if_icmp .ge 59, 3) := by decide +kernel
theorem dX2_foeMask_15 : decode cX2_foeMask 15 = .ok (.aload_n 0, 1) := by decide +kernel
theorem dX2_foeMask_16 : decode cX2_foeMask 16 = .ok (.getfield 41, 3) := by decide +kernel
theorem dX2_foeMask_19 : decode cX2_foeMask 19 = .ok (.iload_n 3, 1) := by decide +kernel
theorem dX2_foeMask_20 : decode cX2_foeMask 20 = .ok (.invokevirtual 115, 3) := by decide +kernel
theorem dX2_foeMask_23 : decode cX2_foeMask 23 = .ok (.istore 4, 2) := by decide +kernel
theorem dX2_foeMask_25 : decode cX2_foeMask 25 = .ok (.iload 4, 2) := by decide +kernel
theorem dX2_foeMask_27 : decode cX2_foeMask 27 = .ok (.bipush 6, 2) := by decide +kernel
theorem dX2_foeMask_29 : decode cX2_foeMask 29 = .ok (.idiv, 1) := by decide +kernel
theorem dX2_foeMask_30 : decode cX2_foeMask 30 = .ok (.istore 5, 2) := by decide +kernel
theorem dX2_foeMask_32 : decode cX2_foeMask 32 = .ok (.iload 4, 2) := by decide +kernel
theorem dX2_foeMask_34 : decode cX2_foeMask 34 = .ok (.bipush 6, 2) := by decide +kernel
theorem dX2_foeMask_36 : decode cX2_foeMask 36 = .ok (.irem, 1) := by decide +kernel
theorem dX2_foeMask_37 : decode cX2_foeMask 37 = .ok (.istore 6, 2) := by decide +kernel
theorem dX2_foeMask_39 : decode cX2_foeMask 39 = .ok (.iload 5, 2) := by decide +kernel
theorem dX2_foeMask_41 : decode cX2_foeMask 41 = .ok (.iload_n 1, 1) := by decide +kernel
theorem dX2_foeMask_42 : decode cX2_foeMask 42 = .ok (.if_icmp .ne 10, 3) := by decide +kernel
theorem dX2_foeMask_45 : decode cX2_foeMask 45 = .ok (.iload_n 2, 1) := by decide +kernel
theorem dX2_foeMask_46 : decode cX2_foeMask 46 = .ok (.iconst 1, 1) := by decide +kernel
theorem dX2_foeMask_47 : decode cX2_foeMask 47 = .ok (.iload 6, 2) := by decide +kernel
theorem dX2_foeMask_49 : decode cX2_foeMask 49 = .ok (.ishl, 1) := by decide +kernel
theorem dX2_foeMask_50 : decode cX2_foeMask 50 = .ok (.ior, 1) := by decide +kernel
theorem dX2_foeMask_51 : decode cX2_foeMask 51 = .ok (.istore_n 2, 1) := by decide +kernel
theorem dX2_foeMask_52 : decode cX2_foeMask 52 = .ok (.iload 6, 2) := by decide +kernel
theorem dX2_foeMask_54 : decode cX2_foeMask 54 = .ok (.iload_n 1, 1) := by decide +kernel
theorem dX2_foeMask_55 : decode cX2_foeMask 55 = .ok (.if_icmp .ne 10, 3) := by decide +kernel
theorem dX2_foeMask_58 : decode cX2_foeMask 58 = .ok (.iload_n 2, 1) := by decide +kernel
theorem dX2_foeMask_59 : decode cX2_foeMask 59 = .ok (.iconst 1, 1) := by decide +kernel
theorem dX2_foeMask_60 : decode cX2_foeMask 60 = .ok (.iload 5, 2) := by decide +kernel
theorem dX2_foeMask_62 : decode cX2_foeMask 62 = .ok (.ishl, 1) := by decide +kernel
theorem dX2_foeMask_63 : decode cX2_foeMask 63 = .ok (.ior, 1) := by decide +kernel
theorem dX2_foeMask_64 : decode cX2_foeMask 64 = .ok (.istore_n 2, 1) := by decide +kernel
theorem dX2_foeMask_65 : decode cX2_foeMask 65 = .ok (.iinc 3 1, 3) := by decide +kernel
theorem dX2_foeMask_68 : decode cX2_foeMask 68 = .ok (.goto (-64), 3) := by decide +kernel
theorem dX2_foeMask_71 : decode cX2_foeMask 71 = .ok (.iload_n 2, 1) := by decide +kernel
theorem dX2_foeMask_72 : decode cX2_foeMask 72 = .ok (.ireturn, 1) := by decide +kernel
set_option maxRecDepth 20000 in
theorem ggX2_familyThatRises_X2_familyAt : GoodIn wsX2_familyThatRises wsX2_familyAt := goodIn_r _ [9, 10, 11, 12, 13, 8, 14, 15, 16, 17, 18, 19, 20, 21, 22, 23, 24, 25, 26, 27, 28, 29, 30, 31, 32, 33, 34, 35, 36, 37, 38] (by decide +kernel) (by decide +kernel)
set_option maxRecDepth 20000 in
theorem gX2_familyThatRises_X2_familyAt : GoodIn wsX2_familyThatRises (wsV RX2 118 RX2 yX2_familyAt wsX2_familyAt) := goodIn_app (goodIn_of _ (by decide +kernel)) ggX2_familyThatRises_X2_familyAt
theorem dX2_familyThatRises_0 : decode cX2_familyThatRises 0 = .ok (.aload_n 0, 1) := by decide +kernel
theorem dX2_familyThatRises_1 : decode cX2_familyThatRises 1 = .ok (.iload_n 1, 1) := by decide +kernel
theorem dX2_familyThatRises_2 : decode cX2_familyThatRises 2 = .ok (.iload_n 2, 1) := by decide +kernel
theorem dX2_familyThatRises_3 : decode cX2_familyThatRises 3 = .ok (.invokevirtual 118, 3) := by decide +kernel
theorem dX2_familyThatRises_6 : decode cX2_familyThatRises 6 = .ok (.istore 4, 2) := by decide +kernel
theorem dX2_familyThatRises_8 : decode cX2_familyThatRises 8 = .ok (.aload_n 0, 1) := by decide +kernel
theorem dX2_familyThatRises_9 : decode cX2_familyThatRises 9 = .ok (.iload_n 1, 1) := by decide +kernel
theorem dX2_familyThatRises_10 : decode cX2_familyThatRises 10 = .ok (.iload_n 3, 1) := by decide +kernel
theorem dX2_familyThatRises_11 : decode cX2_familyThatRises 11 = .ok (.invokevirtual 118, 3) := by decide +kernel
theorem dX2_familyThatRises_14 : decode cX2_familyThatRises 14 = .ok (.istore 5, 2) := by decide +kernel
theorem dX2_familyThatRises_16 : decode cX2_familyThatRises 16 = .ok (.iload 4, 2) := by decide +kernel
theorem dX2_familyThatRises_18 : decode cX2_familyThatRises 18 = .ok (.ifCond .eq 8, 3) := by decide +kernel
theorem dX2_familyThatRises_21 : decode cX2_familyThatRises 21 = .ok (.iload 5, 2) := by decide +kernel
theorem dX2_familyThatRises_23 : decode cX2_familyThatRises 23 = .ok (.ifCond .ne 5, 3) := by decide +kernel
theorem dX2_familyThatRises_26 : decode cX2_familyThatRises 26 = .ok (.iconst (-1), 1) := by decide +kernel
theorem dX2_familyThatRises_27 : decode cX2_familyThatRises 27 = .ok (.ireturn, 1) := by decide +kernel
theorem dX2_familyThatRises_28 : decode cX2_familyThatRises 28 = .ok (.iload 4, 2) := by decide +kernel
theorem dX2_familyThatRises_30 : decode cX2_familyThatRises 30 = .ok (.iload 5, 2) := by decide +kernel
theorem dX2_familyThatRises_32 : decode cX2_familyThatRises 32 = .ok (.if_icmp .ne 9, 3) := by decide +kernel
theorem dX2_familyThatRises_35 : decode cX2_familyThatRises 35 = .ok (.iload_n 2, 1) := by decide +kernel
theorem dX2_familyThatRises_36 : decode cX2_familyThatRises 36 = .ok (.iload_n 3, 1) := by decide +kernel
theorem dX2_familyThatRises_37 : decode cX2_familyThatRises 37 = .ok (.invokestatic 102, 3) := by decide +kernel
theorem dX2_familyThatRises_40 : decode cX2_familyThatRises 40 = .ok (.ireturn, 1) := by decide +kernel
theorem dX2_familyThatRises_41 : decode cX2_familyThatRises 41 = .ok (.iload 4, 2) := by decide +kernel
theorem dX2_familyThatRises_43 : decode cX2_familyThatRises 43 = .ok (.iload 5, 2) := by decide +kernel
theorem dX2_familyThatRises_45 : decode cX2_familyThatRises 45 = .ok (.if_icmp .ge 7, 3) := by decide +kernel
theorem dX2_familyThatRises_48 : decode cX2_familyThatRises 48 = .ok (.iload_n 2, 1) := by decide +kernel
theorem dX2_familyThatRises_49 : decode cX2_familyThatRises 49 = .ok (.goto 4, 3) := by decide +kernel
theorem dX2_familyThatRises_52 : decode cX2_familyThatRises 52 = .ok (.iload_n 3, 1) := by decide +kernel
theorem dX2_familyThatRises_53 : decode cX2_familyThatRises 53 = .ok (.ireturn, 1) := by decide +kernel
set_option maxRecDepth 20000 in
theorem ggX2_risersOfFeud_X2_hasFeud : GoodIn wsX2_risersOfFeud wsX2_hasFeud := goodIn_r _ [6, 7, 8, 9, 5, 10, 11, 12, 13, 14, 15, 16, 17, 18, 19, 20, 21, 22, 23, 24, 25, 26, 27, 28, 52, 53, 54, 55, 56, 57, 58, 59, 60, 61, 62, 63, 64, 65, 66, 67] (by decide +kernel) (by decide +kernel)
set_option maxRecDepth 20000 in
theorem gX2_risersOfFeud_X2_hasFeud : GoodIn wsX2_risersOfFeud (wsV RX2 121 RX2 yX2_hasFeud wsX2_hasFeud) := goodIn_app (goodIn_of _ (by decide +kernel)) ggX2_risersOfFeud_X2_hasFeud
set_option maxRecDepth 20000 in
theorem ggX2_risersOfFeud_X2_familyThatRises : GoodIn wsX2_risersOfFeud wsX2_familyThatRises := goodIn_r _ [32, 15, 16, 13, 17, 33, 34, 35, 5, 36, 37, 38, 39, 40, 41, 42, 43, 44, 45, 46, 47, 48, 49, 50, 51, 52, 53, 54, 55, 56, 57, 58, 59, 60, 61, 62, 63, 64, 65] (by decide +kernel) (by decide +kernel)
set_option maxRecDepth 20000 in
theorem gX2_risersOfFeud_X2_familyThatRises : GoodIn wsX2_risersOfFeud (wsV RX2 125 RX2 yX2_familyThatRises wsX2_familyThatRises) := goodIn_app (goodIn_of _ (by decide +kernel)) ggX2_risersOfFeud_X2_familyThatRises
set_option maxRecDepth 20000 in
theorem ggX2_risersOfFeud_X2_familyAt : GoodIn wsX2_risersOfFeud wsX2_familyAt := goodIn_r _ [36, 37, 38, 39, 40, 5, 41, 42, 43, 44, 45, 46, 47, 48, 49, 50, 51, 52, 53, 54, 55, 56, 57, 58, 59, 60, 61, 62, 63, 64, 65] (by decide +kernel) (by decide +kernel)
set_option maxRecDepth 20000 in
theorem gX2_risersOfFeud_X2_familyAt : GoodIn wsX2_risersOfFeud (wsV RX2 118 RX2 yX2_familyAt wsX2_familyAt) := goodIn_app (goodIn_of _ (by decide +kernel)) ggX2_risersOfFeud_X2_familyAt
theorem dX2_risersOfFeud_0 : decode cX2_risersOfFeud 0 = .ok (.aload_n 0, 1) := by decide +kernel
theorem dX2_risersOfFeud_1 : decode cX2_risersOfFeud 1 = .ok (.iload_n 1, 1) := by decide +kernel
theorem dX2_risersOfFeud_2 : decode cX2_risersOfFeud 2 = .ok (.iload_n 2, 1) := by decide +kernel
theorem dX2_risersOfFeud_3 : decode cX2_risersOfFeud 3 = .ok (.invokevirtual 121, 3) := by decide +kernel
theorem dX2_risersOfFeud_6 : decode cX2_risersOfFeud 6 = .ok (.ifCond .eq 5, 3) := by decide +kernel
theorem dX2_risersOfFeud_9 : decode cX2_risersOfFeud 9 = .ok (.iconst 0, 1) := by decide +kernel
theorem dX2_risersOfFeud_10 : decode cX2_risersOfFeud 10 = .ok (.ireturn, 1) := by decide +kernel
theorem dX2_risersOfFeud_11 : decode cX2_risersOfFeud 11 = .ok (.iconst 0, 1) := by decide +kernel
theorem dX2_risersOfFeud_12 : decode cX2_risersOfFeud 12 = .ok (.istore_n 3, 1) := by decide +kernel
theorem dX2_risersOfFeud_13 : decode cX2_risersOfFeud 13 = .ok (.iconst 0, 1) := by decide +kernel
theorem dX2_risersOfFeud_14 : decode cX2_risersOfFeud 14 = .ok (.istore 4, 2) := by decide +kernel
theorem dX2_risersOfFeud_16 : decode cX2_risersOfFeud 16 = .ok (.iload 4, 2) := by decide +kernel
theorem dX2_risersOfFeud_18 : decode cX2_risersOfFeud 18 = .ok (.aload_n 0, 1) := by decide +kernel
theorem dX2_risersOfFeud_19 : decode cX2_risersOfFeud 19 = .ok (.getfield 65, 3) := by decide +kernel
theorem dX2_risersOfFeud_22 : decode cX2_risersOfFeud 22 = .ok (.if_icmp .ge 36, 3) := by decide +kernel
theorem dX2_risersOfFeud_25 : decode cX2_risersOfFeud 25 = .ok (.aload_n 0, 1) := by decide +kernel
theorem dX2_risersOfFeud_26 : decode cX2_risersOfFeud 26 = .ok (.iload 4, 2) := by decide +kernel
theorem dX2_risersOfFeud_28 : decode cX2_risersOfFeud 28 = .ok (.iload_n 1, 1) := by decide +kernel
theorem dX2_risersOfFeud_29 : decode cX2_risersOfFeud 29 = .ok (.iload_n 2, 1) := by decide +kernel
theorem dX2_risersOfFeud_30 : decode cX2_risersOfFeud 30 = .ok (.invokevirtual 125, 3) := by decide +kernel
theorem dX2_risersOfFeud_33 : decode cX2_risersOfFeud 33 = .ok (.istore 5, 2) := by decide +kernel
theorem dX2_risersOfFeud_35 : decode cX2_risersOfFeud 35 = .ok (.iload 5, 2) := by decide +kernel
theorem dX2_risersOfFeud_37 : decode cX2_risersOfFeud 37 = .ok (.iconst (-1), 1) := by decide +kernel
theorem dX2_risersOfFeud_38 : decode cX2_risersOfFeud 38 = .ok (.if_icmp .eq 14, 3) := by decide +kernel
theorem dX2_risersOfFeud_41 : decode cX2_risersOfFeud 41 = .ok (.iload_n 3, 1) := by decide +kernel
theorem dX2_risersOfFeud_42 : decode cX2_risersOfFeud 42 = .ok (.aload_n 0, 1) := by decide +kernel
theorem dX2_risersOfFeud_43 : decode cX2_risersOfFeud 43 = .ok (.iload 4, 2) := by decide +kernel
theorem dX2_risersOfFeud_45 : decode cX2_risersOfFeud 45 = .ok (.iload 5, 2) := by decide +kernel
theorem dX2_risersOfFeud_47 : decode cX2_risersOfFeud 47 = .ok (.invokevirtual 118, 3) := by decide +kernel
theorem dX2_risersOfFeud_50 : decode cX2_risersOfFeud 50 = .ok (.iadd, 1) := by decide +kernel
theorem dX2_risersOfFeud_51 : decode cX2_risersOfFeud 51 = .ok (.istore_n 3, 1) := by decide +kernel
theorem dX2_risersOfFeud_52 : decode cX2_risersOfFeud 52 = .ok (.iinc 4 1, 3) := by decide +kernel
theorem dX2_risersOfFeud_55 : decode cX2_risersOfFeud 55 = .ok (.goto (-39), 3) := by decide +kernel
theorem dX2_risersOfFeud_58 : decode cX2_risersOfFeud 58 = .ok (.iload_n 3, 1) := by decide +kernel
theorem dX2_risersOfFeud_59 : decode cX2_risersOfFeud 59 = .ok (.ireturn, 1) := by decide +kernel
set_option maxRecDepth 20000 in
theorem ggX2_beginFeud_X2_feudCode : GoodIn wsX2_beginFeud wsX2_feudCode := goodIn_r _ [6, 7, 8, 9, 10, 11, 12, 13] (by decide +kernel) (by decide +kernel)
set_option maxRecDepth 20000 in
theorem gX2_beginFeud_X2_feudCode : GoodIn wsX2_beginFeud (va_wsS RX2 105 yX2_feudCode wsX2_feudCode) := goodIn_app (goodIn_of _ (by decide +kernel)) ggX2_beginFeud_X2_feudCode
set_option maxRecDepth 20000 in
theorem ggX2_beginFeud_X1_addLast : GoodIn wsX2_beginFeud wsX1_addLast := goodIn_r _ [18, 19, 20, 21, 22, 23, 17, 24, 25, 26, 27, 28, 86, 87] (by decide +kernel) (by decide +kernel)
set_option maxRecDepth 20000 in
theorem gX2_beginFeud_X1_addLast : GoodIn wsX2_beginFeud (wsV RX2 129 RX1 yX1_addLast wsX1_addLast) := goodIn_app (goodIn_of _ (by decide +kernel)) ggX2_beginFeud_X1_addLast
set_option maxRecDepth 20000 in
theorem ggX2_beginFeud_X2_familyThatRises : GoodIn wsX2_beginFeud wsX2_familyThatRises := goodIn_r _ [32, 11, 12, 9, 13, 33, 34, 35, 5, 36, 37, 38, 39, 40, 41, 42, 43, 44, 45, 46, 47, 48, 49, 27, 50, 72, 73, 74, 75, 76, 77, 78, 79, 80, 81, 82, 83, 84, 85] (by decide +kernel) (by decide +kernel)
set_option maxRecDepth 20000 in
theorem gX2_beginFeud_X2_familyThatRises : GoodIn wsX2_beginFeud (wsV RX2 125 RX2 yX2_familyThatRises wsX2_familyThatRises) := goodIn_app (goodIn_of _ (by decide +kernel)) ggX2_beginFeud_X2_familyThatRises
set_option maxRecDepth 20000 in
theorem ggX2_beginFeud_X2_standFamilyUp : GoodIn wsX2_beginFeud wsX2_standFamilyUp := goodIn_r _ [54, 37, 38, 39, 40, 5, 41, 42, 43, 44, 45, 46, 47, 48, 49, 27, 50, 55, 56, 57, 58, 59, 60, 61, 62, 63, 26, 28, 64, 65, 66, 17, 67, 20, 19, 68, 69, 70, 71, 25, 72, 73, 74, 75, 76, 77, 78, 79, 80, 81, 82, 83, 84, 85, 86, 87] (by decide +kernel) (by decide +kernel)
set_option maxRecDepth 20000 in
theorem gX2_beginFeud_X2_standFamilyUp : GoodIn wsX2_beginFeud (wsV RX2 132 RX2 yX2_standFamilyUp wsX2_standFamilyUp) := goodIn_app (goodIn_of _ (by decide +kernel)) ggX2_beginFeud_X2_standFamilyUp
theorem dX2_beginFeud_0 : decode cX2_beginFeud 0 = .ok (.aload_n 0, 1) := by decide +kernel
theorem dX2_beginFeud_1 : decode cX2_beginFeud 1 = .ok (.getfield 41, 3) := by decide +kernel
theorem dX2_beginFeud_4 : decode cX2_beginFeud 4 = .ok (.iload_n 1, 1) := by decide +kernel
theorem dX2_beginFeud_5 : decode cX2_beginFeud 5 = .ok (.iload_n 2, 1) := by decide +kernel
theorem dX2_beginFeud_6 : decode cX2_beginFeud 6 = .ok (.invokestatic 105, 3) := by decide +kernel
theorem dX2_beginFeud_9 : decode cX2_beginFeud 9 = .ok (.invokevirtual 129, 3) := by decide +kernel
theorem dX2_beginFeud_12 : decode cX2_beginFeud 12 = .ok (.iconst 0, 1) := by decide +kernel
theorem dX2_beginFeud_13 : decode cX2_beginFeud 13 = .ok (.istore_n 3, 1) := by decide +kernel
theorem dX2_beginFeud_14 : decode cX2_beginFeud 14 = .ok (.iconst 0, 1) := by decide +kernel
theorem dX2_beginFeud_15 : decode cX2_beginFeud 15 = .ok (.istore 4, 2) := by decide +kernel
theorem dX2_beginFeud_17 : decode cX2_beginFeud 17 = .ok (.iload 4, 2) := by decide +kernel
theorem dX2_beginFeud_19 : decode cX2_beginFeud 19 = .ok (.aload_n 0, 1) := by decide +kernel
theorem dX2_beginFeud_20 : decode cX2_beginFeud 20 = .ok (.getfield 65, 3) := by decide +kernel
theorem dX2_beginFeud_23 : decode cX2_beginFeud 23 = .ok (.if_icmp .ge 36, 3) := by decide +kernel
theorem dX2_beginFeud_26 : decode cX2_beginFeud 26 = .ok (.aload_n 0, 1) := by decide +kernel
theorem dX2_beginFeud_27 : decode cX2_beginFeud 27 = .ok (.iload 4, 2) := by decide +kernel
theorem dX2_beginFeud_29 : decode cX2_beginFeud 29 = .ok (.iload_n 1, 1) := by decide +kernel
theorem dX2_beginFeud_30 : decode cX2_beginFeud 30 = .ok (.iload_n 2, 1) := by decide +kernel
theorem dX2_beginFeud_31 : decode cX2_beginFeud 31 = .ok (.invokevirtual 125, 3) := by decide +kernel
theorem dX2_beginFeud_34 : decode cX2_beginFeud 34 = .ok (.istore 5, 2) := by decide +kernel
theorem dX2_beginFeud_36 : decode cX2_beginFeud 36 = .ok (.iload 5, 2) := by decide +kernel
theorem dX2_beginFeud_38 : decode cX2_beginFeud 38 = .ok (.iconst (-1), 1) := by decide +kernel
theorem dX2_beginFeud_39 : decode cX2_beginFeud 39 = .ok (.if_icmp .eq 14, 3) := by decide +kernel
theorem dX2_beginFeud_42 : decode cX2_beginFeud 42 = .ok (.iload_n 3, 1) := by decide +kernel
theorem dX2_beginFeud_43 : decode cX2_beginFeud 43 = .ok (.aload_n 0, 1) := by decide +kernel
theorem dX2_beginFeud_44 : decode cX2_beginFeud 44 = .ok (.iload 4, 2) := by decide +kernel
theorem dX2_beginFeud_46 : decode cX2_beginFeud 46 = .ok (.iload 5, 2) := by decide +kernel
theorem dX2_beginFeud_48 : decode cX2_beginFeud 48 = .ok (.invokevirtual 132, 3) := by decide +kernel
theorem dX2_beginFeud_51 : decode cX2_beginFeud 51 = .ok (.iadd, 1) := by decide +kernel
theorem dX2_beginFeud_52 : decode cX2_beginFeud 52 = .ok (.istore_n 3, 1) := by decide +kernel
theorem dX2_beginFeud_53 : decode cX2_beginFeud 53 = .ok (.iinc 4 1, 3) := by decide +kernel
theorem dX2_beginFeud_56 : decode cX2_beginFeud 56 = .ok (.goto (-39), 3) := by decide +kernel
theorem dX2_beginFeud_59 : decode cX2_beginFeud 59 = .ok (.iload_n 3, 1) := by decide +kernel
theorem dX2_beginFeud_60 : decode cX2_beginFeud 60 = .ok (.ireturn, 1) := by decide +kernel
set_option maxRecDepth 20000 in
theorem ggX2_standFamilyUp_X2_seatsAt : GoodIn wsX2_standFamilyUp wsX2_seatsAt := goodIn_r _ [6, 7, 40, 41, 42, 43, 44, 45, 46, 47, 48, 49, 50, 51, 52, 53] (by decide +kernel) (by decide +kernel)
set_option maxRecDepth 20000 in
theorem gX2_standFamilyUp_X2_seatsAt : GoodIn wsX2_standFamilyUp (wsV RX2 78 RX2 yX2_seatsAt wsX2_seatsAt) := goodIn_app (goodIn_of _ (by decide +kernel)) ggX2_standFamilyUp_X2_seatsAt
set_option maxRecDepth 20000 in
theorem ggX2_standFamilyUp_X2_holderAt : GoodIn wsX2_standFamilyUp wsX2_holderAt := goodIn_r _ [11, 12, 40, 41, 42, 43, 44, 45, 46, 47, 48, 49, 50, 51, 52, 53] (by decide +kernel) (by decide +kernel)
set_option maxRecDepth 20000 in
theorem gX2_standFamilyUp_X2_holderAt : GoodIn wsX2_standFamilyUp (wsV RX2 86 RX2 yX2_holderAt wsX2_holderAt) := goodIn_app (goodIn_of _ (by decide +kernel)) ggX2_standFamilyUp_X2_holderAt
set_option maxRecDepth 20000 in
theorem ggX2_standFamilyUp_X3_at : GoodIn wsX2_standFamilyUp wsX3_at := goodIn_r _ [16] (by decide +kernel) (by decide +kernel)
set_option maxRecDepth 20000 in
theorem gX2_standFamilyUp_X3_at : GoodIn wsX2_standFamilyUp (va_wsS RX2 82 yX3_at wsX3_at) := goodIn_app (goodIn_of _ (by decide +kernel)) ggX2_standFamilyUp_X3_at
set_option maxRecDepth 20000 in
theorem ggX2_standFamilyUp_X2_standUp : GoodIn wsX2_standFamilyUp wsX2_standUp := goodIn_r _ [20, 21, 22, 12, 23, 24, 13, 14, 15, 16, 25, 26, 27, 28, 29, 30, 31, 32, 33, 34, 35, 36, 37, 38, 39, 40, 41, 42, 43, 44, 45, 46, 47, 48, 49, 50, 51, 52, 53, 54, 55] (by decide +kernel) (by decide +kernel)
set_option maxRecDepth 20000 in
theorem gX2_standFamilyUp_X2_standUp : GoodIn wsX2_standFamilyUp (wsV RX2 135 RX2 yX2_standUp wsX2_standUp) := goodIn_app (goodIn_of _ (by decide +kernel)) ggX2_standFamilyUp_X2_standUp
theorem dX2_standFamilyUp_0 : decode cX2_standFamilyUp 0 = .ok (.iconst 0, 1) := by decide +kernel
theorem dX2_standFamilyUp_1 : decode cX2_standFamilyUp 1 = .ok (.istore_n 3, 1) := by decide +kernel
theorem dX2_standFamilyUp_2 : decode cX2_standFamilyUp 2 = .ok (.iconst 0, 1) := by decide +kernel
theorem dX2_standFamilyUp_3 : decode cX2_standFamilyUp 3 = .ok (.istore 4, 2) := by decide +kernel
theorem dX2_standFamilyUp_5 : decode cX2_standFamilyUp 5 = .ok (.iload 4, 2) := by decide +kernel
theorem dX2_standFamilyUp_7 : decode cX2_standFamilyUp 7 = .ok (.aload_n 0, 1) := by decide +kernel
theorem dX2_standFamilyUp_8 : decode cX2_standFamilyUp 8 = .ok (.iload_n 1, 1) := by decide +kernel
theorem dX2_standFamilyUp_9 : decode cX2_standFamilyUp 9 = .ok (.invokevirtual 78, 3) := by decide +kernel
theorem dX2_standFamilyUp_12 : decode cX2_standFamilyUp 12 = .ok (.if_icmp .ge 46, 3) := by decide +kernel
theorem dX2_standFamilyUp_15 : decode cX2_standFamilyUp 15 = .ok (.aload_n 0, 1) := by decide +kernel
theorem dX2_standFamilyUp_16 : decode cX2_standFamilyUp 16 = .ok (.iload_n 1, 1) := by decide +kernel
theorem dX2_standFamilyUp_17 : decode cX2_standFamilyUp 17 = .ok (.iload 4, 2) := by decide +kernel
theorem dX2_standFamilyUp_19 : decode cX2_standFamilyUp 19 = .ok (.invokevirtual 86, 3) := by decide +kernel
theorem dX2_standFamilyUp_22 : decode cX2_standFamilyUp 22 = .ok (.istore 5, 2) := by decide +kernel
theorem dX2_standFamilyUp_24 : decode cX2_standFamilyUp 24 = .ok (.iload 5, 2) := by decide +kernel
theorem dX2_standFamilyUp_26 : decode cX2_standFamilyUp 26 = .ok (.iconst (-1), 1) := by decide +kernel
theorem dX2_standFamilyUp_27 : decode cX2_standFamilyUp 27 = .ok (.if_icmp .eq 25, 3) := by decide +kernel
theorem dX2_standFamilyUp_30 : decode cX2_standFamilyUp 30 = .ok (.aload_n 0, 1) := by decide +kernel
theorem dX2_standFamilyUp_31 : decode cX2_standFamilyUp 31 = .ok (.getfield 9, 3) := by decide +kernel
theorem dX2_standFamilyUp_34 : decode cX2_standFamilyUp 34 = .ok (.iload 5, 2) := by decide +kernel
theorem dX2_standFamilyUp_36 : decode cX2_standFamilyUp 36 = .ok (.invokestatic 82, 3) := by decide +kernel
theorem dX2_standFamilyUp_39 : decode cX2_standFamilyUp 39 = .ok (.iload_n 2, 1) := by decide +kernel
theorem dX2_standFamilyUp_40 : decode cX2_standFamilyUp 40 = .ok (.if_icmp .ne 12, 3) := by decide +kernel
theorem dX2_standFamilyUp_43 : decode cX2_standFamilyUp 43 = .ok (.aload_n 0, 1) := by decide +kernel
theorem dX2_standFamilyUp_44 : decode cX2_standFamilyUp 44 = .ok (.iload 5, 2) := by decide +kernel
theorem dX2_standFamilyUp_46 : decode cX2_standFamilyUp 46 = .ok (.invokevirtual 135, 3) := by decide +kernel
theorem dX2_standFamilyUp_49 : decode cX2_standFamilyUp 49 = .ok (.iinc 3 1, 3) := by decide +kernel
theorem dX2_standFamilyUp_52 : decode cX2_standFamilyUp 52 = .ok (.iinc 4 1, 3) := by decide +kernel
theorem dX2_standFamilyUp_55 : decode cX2_standFamilyUp 55 = .ok (.goto (-50), 3) := by decide +kernel
theorem dX2_standFamilyUp_58 : decode cX2_standFamilyUp 58 = .ok (.iload_n 3, 1) := by decide +kernel
theorem dX2_standFamilyUp_59 : decode cX2_standFamilyUp 59 = .ok (.ireturn, 1) := by decide +kernel
set_option maxRecDepth 20000 in
theorem ggX2_reasonAgainst_X2_holderAt : GoodIn wsX2_reasonAgainst wsX2_holderAt := goodIn_r _ [9, 10, 47, 48, 49, 50, 51, 52, 53, 54, 55, 56, 57, 58, 59, 60] (by decide +kernel) (by decide +kernel)
set_option maxRecDepth 20000 in
theorem gX2_reasonAgainst_X2_holderAt : GoodIn wsX2_reasonAgainst (wsV RX2 86 RX2 yX2_holderAt wsX2_holderAt) := goodIn_app (goodIn_of _ (by decide +kernel)) ggX2_reasonAgainst_X2_holderAt
set_option maxRecDepth 20000 in
theorem ggX2_reasonAgainst_X2_isAtLeg : GoodIn wsX2_reasonAgainst wsX2_isAtLeg := goodIn_r _ [13] (by decide +kernel) (by decide +kernel)
set_option maxRecDepth 20000 in
theorem gX2_reasonAgainst_X2_isAtLeg : GoodIn wsX2_reasonAgainst (va_wsS RX2 90 yX2_isAtLeg wsX2_isAtLeg) := goodIn_app (goodIn_of _ (by decide +kernel)) ggX2_reasonAgainst_X2_isAtLeg
set_option maxRecDepth 20000 in
theorem ggX2_reasonAgainst_X3_at : GoodIn wsX2_reasonAgainst wsX3_at := goodIn_r _ [17] (by decide +kernel) (by decide +kernel)
set_option maxRecDepth 20000 in
theorem gX2_reasonAgainst_X3_at : GoodIn wsX2_reasonAgainst (va_wsS RX2 82 yX3_at wsX3_at) := goodIn_app (goodIn_of _ (by decide +kernel)) ggX2_reasonAgainst_X3_at
set_option maxRecDepth 20000 in
theorem ggX2_reasonAgainst_X2_foeMask : GoodIn wsX2_reasonAgainst wsX2_foeMask := goodIn_r _ [21, 22, 23, 24, 25, 26, 27, 28, 29, 30, 31, 32, 33, 47, 48, 49, 50, 51, 52, 53, 54, 55, 56, 57, 58, 59, 60, 61, 62] (by decide +kernel) (by decide +kernel)
set_option maxRecDepth 20000 in
theorem gX2_reasonAgainst_X2_foeMask : GoodIn wsX2_reasonAgainst (wsV RX2 138 RX2 yX2_foeMask wsX2_foeMask) := goodIn_app (goodIn_of _ (by decide +kernel)) ggX2_reasonAgainst_X2_foeMask
set_option maxRecDepth 20000 in
theorem ggX2_reasonAgainst_X2_familyMask : GoodIn wsX2_reasonAgainst wsX2_familyMask := goodIn_r _ [37, 2, 38, 39, 40, 8, 41, 42, 5, 6, 7, 9, 10, 14, 15, 16, 17, 47, 48, 49, 50, 51, 52, 53, 54, 55, 56, 57, 58, 59, 60] (by decide +kernel) (by decide +kernel)
set_option maxRecDepth 20000 in
theorem gX2_reasonAgainst_X2_familyMask : GoodIn wsX2_reasonAgainst (wsV RX2 141 RX2 yX2_familyMask wsX2_familyMask) := goodIn_app (goodIn_of _ (by decide +kernel)) ggX2_reasonAgainst_X2_familyMask
set_option maxRecDepth 20000 in
theorem ggX2_reasonAgainst_X2_familyAt : GoodIn wsX2_reasonAgainst wsX2_familyAt := goodIn_r _ [46, 2, 38, 39, 40, 8, 41, 42, 5, 6, 7, 9, 10, 14, 15, 16, 17, 47, 48, 49, 50, 51, 52, 53, 54, 55, 56, 57, 58, 59, 60] (by decide +kernel) (by decide +kernel)
set_option maxRecDepth 20000 in
theorem gX2_reasonAgainst_X2_familyAt : GoodIn wsX2_reasonAgainst (wsV RX2 118 RX2 yX2_familyAt wsX2_familyAt) := goodIn_app (goodIn_of _ (by decide +kernel)) ggX2_reasonAgainst_X2_familyAt
theorem dX2_reasonAgainst_0 : decode cX2_reasonAgainst 0 = .ok (.aload_n 0, 1) := by decide +kernel
theorem dX2_reasonAgainst_1 : decode cX2_reasonAgainst 1 = .ok (.iload_n 2, 1) := by decide +kernel
theorem dX2_reasonAgainst_2 : decode cX2_reasonAgainst 2 = .ok (.iload_n 3, 1) := by decide +kernel
theorem dX2_reasonAgainst_3 : decode cX2_reasonAgainst 3 = .ok (.invokevirtual 86, 3) := by decide +kernel
theorem dX2_reasonAgainst_6 : decode cX2_reasonAgainst 6 = .ok (.istore 4, 2) := by decide +kernel
theorem dX2_reasonAgainst_8 : decode cX2_reasonAgainst 8 = .ok (.iload 4, 2) := by decide +kernel
theorem dX2_reasonAgainst_10 : decode cX2_reasonAgainst 10 = .ok (.iload_n 1, 1) := by decide +kernel
theorem dX2_reasonAgainst_11 : decode cX2_reasonAgainst 11 = .ok (.if_icmp .ne 5, 3) := by decide +kernel
theorem dX2_reasonAgainst_14 : decode cX2_reasonAgainst 14 = .ok (.iconst 1, 1) := by decide +kernel
theorem dX2_reasonAgainst_15 : decode cX2_reasonAgainst 15 = .ok (.ireturn, 1) := by decide +kernel
theorem dX2_reasonAgainst_16 : decode cX2_reasonAgainst 16 = .ok (.iload 4, 2) := by decide +kernel
theorem dX2_reasonAgainst_18 : decode cX2_reasonAgainst 18 = .ok (.iconst (-1), 1) := by decide +kernel
theorem dX2_reasonAgainst_19 : decode cX2_reasonAgainst 19 = .ok (.if_icmp .eq 5, 3) := by decide +kernel
theorem dX2_reasonAgainst_22 : decode cX2_reasonAgainst 22 = .ok (.iconst 2, 1) := by decide +kernel
theorem dX2_reasonAgainst_23 : decode cX2_reasonAgainst 23 = .ok (.ireturn, 1) := by decide +kernel
theorem dX2_reasonAgainst_24 : decode cX2_reasonAgainst 24 = .ok (.iload_n 3, 1) := by decide +kernel
theorem dX2_reasonAgainst_25 : decode cX2_reasonAgainst 25 = .ok (.invokestatic 90, 3) := by decide +kernel
theorem dX2_reasonAgainst_28 : decode cX2_reasonAgainst 28 = .ok (.ifCond .eq 17, 3) := by decide +kernel
theorem dX2_reasonAgainst_31 : decode cX2_reasonAgainst 31 = .ok (.aload_n 0, 1) := by decide +kernel
theorem dX2_reasonAgainst_32 : decode cX2_reasonAgainst 32 = .ok (.getfield 15, 3) := by decide +kernel
theorem dX2_reasonAgainst_35 : decode cX2_reasonAgainst 35 = .ok (.iload_n 1, 1) := by decide +kernel
theorem dX2_reasonAgainst_36 : decode cX2_reasonAgainst 36 = .ok (.invokestatic 82, 3) := by decide +kernel
theorem dX2_reasonAgainst_39 : decode cX2_reasonAgainst 39 = .ok (.iconst 3, 1) := by decide +kernel
theorem dX2_reasonAgainst_40 : decode cX2_reasonAgainst 40 = .ok (.if_icmp .ne 5, 3) := by decide +kernel
theorem dX2_reasonAgainst_43 : decode cX2_reasonAgainst 43 = .ok (.iconst 3, 1) := by decide +kernel
theorem dX2_reasonAgainst_44 : decode cX2_reasonAgainst 44 = .ok (.ireturn, 1) := by decide +kernel
theorem dX2_reasonAgainst_45 : decode cX2_reasonAgainst 45 = .ok (.aload_n 0, 1) := by decide +kernel
theorem dX2_reasonAgainst_46 : decode cX2_reasonAgainst 46 = .ok (.getfield 9, 3) := by decide +kernel
theorem dX2_reasonAgainst_49 : decode cX2_reasonAgainst 49 = .ok (.iload_n 1, 1) := by decide +kernel
theorem dX2_reasonAgainst_50 : decode cX2_reasonAgainst 50 = .ok (.invokestatic 82, 3) := by decide +kernel
theorem dX2_reasonAgainst_53 : decode cX2_reasonAgainst 53 = .ok (.istore 5, 2) := by decide +kernel
theorem dX2_reasonAgainst_55 : decode cX2_reasonAgainst 55 = .ok (.aload_n 0, 1) := by decide +kernel
theorem dX2_reasonAgainst_56 : decode cX2_reasonAgainst 56 = .ok (.iload 5, 2) := by decide +kernel
theorem dX2_reasonAgainst_58 : decode cX2_reasonAgainst 58 = .ok (.invokevirtual 138, 3) := by decide +kernel
theorem dX2_reasonAgainst_61 : decode cX2_reasonAgainst 61 = .ok (.aload_n 0, 1) := by decide +kernel
theorem dX2_reasonAgainst_62 : decode cX2_reasonAgainst 62 = .ok (.iload_n 2, 1) := by decide +kernel
theorem dX2_reasonAgainst_63 : decode cX2_reasonAgainst 63 = .ok (.invokevirtual 141, 3) := by decide +kernel
theorem dX2_reasonAgainst_66 : decode cX2_reasonAgainst 66 = .ok (.iand, 1) := by decide +kernel
theorem dX2_reasonAgainst_67 : decode cX2_reasonAgainst 67 = .ok (.ifCond .eq 5, 3) := by decide +kernel
theorem dX2_reasonAgainst_70 : decode cX2_reasonAgainst 70 = .ok (.iconst 4, 1) := by decide +kernel
theorem dX2_reasonAgainst_71 : decode cX2_reasonAgainst 71 = .ok (.ireturn, 1) := by decide +kernel
theorem dX2_reasonAgainst_72 : decode cX2_reasonAgainst 72 = .ok (.aload_n 0, 1) := by decide +kernel
theorem dX2_reasonAgainst_73 : decode cX2_reasonAgainst 73 = .ok (.iload_n 2, 1) := by decide +kernel
theorem dX2_reasonAgainst_74 : decode cX2_reasonAgainst 74 = .ok (.iload 5, 2) := by decide +kernel
theorem dX2_reasonAgainst_76 : decode cX2_reasonAgainst 76 = .ok (.invokevirtual 118, 3) := by decide +kernel
theorem dX2_reasonAgainst_79 : decode cX2_reasonAgainst 79 = .ok (.istore 6, 2) := by decide +kernel
theorem dX2_reasonAgainst_81 : decode cX2_reasonAgainst 81 = .ok (.aload_n 0, 1) := by decide +kernel
theorem dX2_reasonAgainst_82 : decode cX2_reasonAgainst 82 = .ok (.getfield 21, 3) := by decide +kernel
theorem dX2_reasonAgainst_85 : decode cX2_reasonAgainst 85 = .ok (.iload_n 1, 1) := by decide +kernel
theorem dX2_reasonAgainst_86 : decode cX2_reasonAgainst 86 = .ok (.invokestatic 82, 3) := by decide +kernel
theorem dX2_reasonAgainst_89 : decode cX2_reasonAgainst 89 = .ok (.iload_n 2, 1) := by decide +kernel
theorem dX2_reasonAgainst_90 : decode cX2_reasonAgainst 90 = .ok (.if_icmp .ne 6, 3) := by decide +kernel
theorem dX2_reasonAgainst_93 : decode cX2_reasonAgainst 93 = .ok (.iinc 6 (-1), 3) := by decide +kernel
theorem dX2_reasonAgainst_96 : decode cX2_reasonAgainst 96 = .ok (.iload 6, 2) := by decide +kernel
theorem dX2_reasonAgainst_98 : decode cX2_reasonAgainst 98 = .ok (.aload_n 0, 1) := by decide +kernel
theorem dX2_reasonAgainst_99 : decode cX2_reasonAgainst 99 = .ok (.getfield 33, 3) := by decide +kernel
theorem dX2_reasonAgainst_102 : decode cX2_reasonAgainst 102 = .ok (.iconst 0, 1) := by decide +kernel
theorem dX2_reasonAgainst_103 : decode cX2_reasonAgainst 103 = .ok (.invokestatic 82, 3) := by decide +kernel
theorem dX2_reasonAgainst_106 : decode cX2_reasonAgainst 106 = .ok (.if_icmp .lt 7, 3) := by decide +kernel
theorem dX2_reasonAgainst_109 : decode cX2_reasonAgainst 109 = .ok (.iconst 5, 1) := by decide +kernel
theorem dX2_reasonAgainst_110 : decode cX2_reasonAgainst 110 = .ok (.goto 4, 3) := by decide +kernel
theorem dX2_reasonAgainst_113 : decode cX2_reasonAgainst 113 = .ok (.iconst 0, 1) := by decide +kernel
theorem dX2_reasonAgainst_114 : decode cX2_reasonAgainst 114 = .ok (.ireturn, 1) := by decide +kernel
set_option maxRecDepth 20000 in
theorem ggX2_mayTake_X2_isGuest : GoodIn wsX2_mayTake wsX2_isGuest := goodIn_r _ [5, 6, 65, 66, 67, 68, 69, 70, 71, 72, 73, 74, 75, 76, 77, 78] (by decide +kernel) (by decide +kernel)
set_option maxRecDepth 20000 in
theorem gX2_mayTake_X2_isGuest : GoodIn wsX2_mayTake (wsV RX2 144 RX2 yX2_isGuest wsX2_isGuest) := goodIn_app (goodIn_of _ (by decide +kernel)) ggX2_mayTake_X2_isGuest
set_option maxRecDepth 20000 in
theorem ggX2_mayTake_X2_isSeat : GoodIn wsX2_mayTake wsX2_isSeat := goodIn_r _ [10, 11, 12, 13, 4, 14, 15, 16, 17, 18, 19, 20, 65, 66, 67, 68, 69, 70, 71, 72, 73, 74, 75, 76, 77, 78] (by decide +kernel) (by decide +kernel)
set_option maxRecDepth 20000 in
theorem gX2_mayTake_X2_isSeat : GoodIn wsX2_mayTake (wsV RX2 147 RX2 yX2_isSeat wsX2_isSeat) := goodIn_app (goodIn_of _ (by decide +kernel)) ggX2_mayTake_X2_isSeat
set_option maxRecDepth 20000 in
theorem ggX2_mayTake_X2_reasonAgainst : GoodIn wsX2_mayTake wsX2_reasonAgainst := goodIn_r _ [24, 25, 26, 27, 28, 29, 30, 31, 4, 32, 33, 34, 35, 36, 37, 38, 39, 40, 41, 42, 43, 44, 45, 46, 47, 48, 49, 50, 51, 52, 53, 54, 55, 56, 57, 58, 59, 60, 16, 17, 18, 19, 20, 61, 62, 63, 64, 65, 66, 67, 68, 69, 70, 71, 72, 73, 74, 75, 76, 77, 78, 79, 80] (by decide +kernel) (by decide +kernel)
set_option maxRecDepth 20000 in
theorem gX2_mayTake_X2_reasonAgainst : GoodIn wsX2_mayTake (wsV RX2 150 RX2 yX2_reasonAgainst wsX2_reasonAgainst) := goodIn_app (goodIn_of _ (by decide +kernel)) ggX2_mayTake_X2_reasonAgainst
theorem dX2_mayTake_0 : decode cX2_mayTake 0 = .ok (.aload_n 0, 1) := by decide +kernel
theorem dX2_mayTake_1 : decode cX2_mayTake 1 = .ok (.iload_n 1, 1) := by decide +kernel
theorem dX2_mayTake_2 : decode cX2_mayTake 2 = .ok (.invokevirtual 144, 3) := by decide +kernel
theorem dX2_mayTake_5 : decode cX2_mayTake 5 = .ok (.ifCond .eq 26, 3) := by decide +kernel
theorem dX2_mayTake_8 : decode cX2_mayTake 8 = .ok (.aload_n 0, 1) := by decide +kernel
theorem dX2_mayTake_9 : decode cX2_mayTake 9 = .ok (.iload_n 2, 1) := by decide +kernel
theorem dX2_mayTake_10 : decode cX2_mayTake 10 = .ok (.iload_n 3, 1) := by decide +kernel
theorem dX2_mayTake_11 : decode cX2_mayTake 11 = .ok (.invokevirtual 147, 3) := by decide +kernel
theorem dX2_mayTake_14 : decode cX2_mayTake 14 = .ok (.ifCond .eq 17, 3) := by decide +kernel
theorem dX2_mayTake_17 : decode cX2_mayTake 17 = .ok (.aload_n 0, 1) := by decide +kernel
theorem dX2_mayTake_18 : decode cX2_mayTake 18 = .ok (.iload_n 1, 1) := by decide +kernel
theorem dX2_mayTake_19 : decode cX2_mayTake 19 = .ok (.iload_n 2, 1) := by decide +kernel
theorem dX2_mayTake_20 : decode cX2_mayTake 20 = .ok (.iload_n 3, 1) := by decide +kernel
theorem dX2_mayTake_21 : decode cX2_mayTake 21 = .ok (.invokevirtual 150, 3) := by decide +kernel
theorem dX2_mayTake_24 : decode cX2_mayTake 24 = .ok (.ifCond .ne 7, 3) := by decide +kernel
theorem dX2_mayTake_27 : decode cX2_mayTake 27 = .ok (.iconst 1, 1) := by decide +kernel
theorem dX2_mayTake_28 : decode cX2_mayTake 28 = .ok (.goto 4, 3) := by decide +kernel
theorem dX2_mayTake_31 : decode cX2_mayTake 31 = .ok (.iconst 0, 1) := by decide +kernel
theorem dX2_mayTake_32 : decode cX2_mayTake 32 = .ok (.ireturn, 1) := by decide +kernel
set_option maxRecDepth 20000 in
theorem ggX2_takeSeat_X2_isSitting : GoodIn wsX2_takeSeat wsX2_isSitting := goodIn_r _ [10, 1, 11, 12, 13, 14, 43, 44, 45, 46, 47, 48, 49, 50, 51, 52, 53, 54, 55, 56] (by decide +kernel) (by decide +kernel)
set_option maxRecDepth 20000 in
theorem gX2_takeSeat_X2_isSitting : GoodIn wsX2_takeSeat (wsV RX2 153 RX2 yX2_isSitting wsX2_isSitting) := goodIn_app (goodIn_of _ (by decide +kernel)) ggX2_takeSeat_X2_isSitting
set_option maxRecDepth 20000 in
theorem ggX2_takeSeat_X2_standUp : GoodIn wsX2_takeSeat wsX2_standUp := goodIn_r _ [18, 1, 2, 3, 4, 19, 11, 12, 13, 14, 20, 21, 22, 23, 24, 25, 26, 27, 28, 29, 30, 31, 32, 33, 34, 43, 44, 45, 46, 47, 48, 49, 50, 51, 52, 53, 54, 55, 56, 57, 58] (by decide +kernel) (by decide +kernel)
set_option maxRecDepth 20000 in
theorem gX2_takeSeat_X2_standUp : GoodIn wsX2_takeSeat (wsV RX2 135 RX2 yX2_standUp wsX2_standUp) := goodIn_app (goodIn_of _ (by decide +kernel)) ggX2_takeSeat_X2_standUp
set_option maxRecDepth 20000 in
theorem ggX2_takeSeat_X3_put : GoodIn wsX2_takeSeat wsX3_put := goodIn_r _ [22] (by decide +kernel) (by decide +kernel)
set_option maxRecDepth 20000 in
theorem gX2_takeSeat_X3_put : GoodIn wsX2_takeSeat (va_wsS RX2 93 yX3_put wsX3_put) := goodIn_app (goodIn_of _ (by decide +kernel)) ggX2_takeSeat_X3_put
set_option maxRecDepth 20000 in
theorem ggX2_takeSeat_X1_addLast : GoodIn wsX2_takeSeat wsX1_addLast := goodIn_r _ [38, 29, 28, 39, 40, 41, 26, 42, 34, 21, 13, 22, 57, 58] (by decide +kernel) (by decide +kernel)
set_option maxRecDepth 20000 in
theorem gX2_takeSeat_X1_addLast : GoodIn wsX2_takeSeat (wsV RX2 129 RX1 yX1_addLast wsX1_addLast) := goodIn_app (goodIn_of _ (by decide +kernel)) ggX2_takeSeat_X1_addLast
theorem dX2_takeSeat_0 : decode cX2_takeSeat 0 = .ok (.aload_n 0, 1) := by decide +kernel
theorem dX2_takeSeat_1 : decode cX2_takeSeat 1 = .ok (.iload_n 1, 1) := by decide +kernel
theorem dX2_takeSeat_2 : decode cX2_takeSeat 2 = .ok (.invokevirtual 153, 3) := by decide +kernel
theorem dX2_takeSeat_5 : decode cX2_takeSeat 5 = .ok (.ifCond .eq 8, 3) := by decide +kernel
theorem dX2_takeSeat_8 : decode cX2_takeSeat 8 = .ok (.aload_n 0, 1) := by decide +kernel
theorem dX2_takeSeat_9 : decode cX2_takeSeat 9 = .ok (.iload_n 1, 1) := by decide +kernel
theorem dX2_takeSeat_10 : decode cX2_takeSeat 10 = .ok (.invokevirtual 135, 3) := by decide +kernel
theorem dX2_takeSeat_13 : decode cX2_takeSeat 13 = .ok (.aload_n 0, 1) := by decide +kernel
theorem dX2_takeSeat_14 : decode cX2_takeSeat 14 = .ok (.getfield 21, 3) := by decide +kernel
theorem dX2_takeSeat_17 : decode cX2_takeSeat 17 = .ok (.iload_n 1, 1) := by decide +kernel
theorem dX2_takeSeat_18 : decode cX2_takeSeat 18 = .ok (.iload_n 2, 1) := by decide +kernel
theorem dX2_takeSeat_19 : decode cX2_takeSeat 19 = .ok (.invokestatic 93, 3) := by decide +kernel
theorem dX2_takeSeat_22 : decode cX2_takeSeat 22 = .ok (.aload_n 0, 1) := by decide +kernel
theorem dX2_takeSeat_23 : decode cX2_takeSeat 23 = .ok (.getfield 24, 3) := by decide +kernel
theorem dX2_takeSeat_26 : decode cX2_takeSeat 26 = .ok (.iload_n 1, 1) := by decide +kernel
theorem dX2_takeSeat_27 : decode cX2_takeSeat 27 = .ok (.iload_n 3, 1) := by decide +kernel
theorem dX2_takeSeat_28 : decode cX2_takeSeat 28 = .ok (.invokestatic 93, 3) := by decide +kernel
theorem dX2_takeSeat_31 : decode cX2_takeSeat 31 = .ok (.aload_n 0, 1) := by decide +kernel
theorem dX2_takeSeat_32 : decode cX2_takeSeat 32 = .ok (.getfield 30, 3) := by decide +kernel
theorem dX2_takeSeat_35 : decode cX2_takeSeat 35 = .ok (.iload_n 2, 1) := by decide +kernel
theorem dX2_takeSeat_36 : decode cX2_takeSeat 36 = .ok (.bipush 8, 2) := by decide +kernel
theorem dX2_takeSeat_38 : decode cX2_takeSeat 38 = .ok (.imul, 1) := by decide +kernel
theorem dX2_takeSeat_39 : decode cX2_takeSeat 39 = .ok (.iload_n 3, 1) := by decide +kernel
theorem dX2_takeSeat_40 : decode cX2_takeSeat 40 = .ok (.iadd, 1) := by decide +kernel
theorem dX2_takeSeat_41 : decode cX2_takeSeat 41 = .ok (.iload_n 1, 1) := by decide +kernel
theorem dX2_takeSeat_42 : decode cX2_takeSeat 42 = .ok (.invokestatic 93, 3) := by decide +kernel
theorem dX2_takeSeat_45 : decode cX2_takeSeat 45 = .ok (.aload_n 0, 1) := by decide +kernel
theorem dX2_takeSeat_46 : decode cX2_takeSeat 46 = .ok (.getfield 45, 3) := by decide +kernel
theorem dX2_takeSeat_49 : decode cX2_takeSeat 49 = .ok (.iload_n 1, 1) := by decide +kernel
theorem dX2_takeSeat_50 : decode cX2_takeSeat 50 = .ok (.invokevirtual 129, 3) := by decide +kernel
theorem dX2_takeSeat_53 : decode cX2_takeSeat 53 = .ok (.aload_n 0, 1) := by decide +kernel
theorem dX2_takeSeat_54 : decode cX2_takeSeat 54 = .ok (.dup, 1) := by decide +kernel
theorem dX2_takeSeat_55 : decode cX2_takeSeat 55 = .ok (.getfield 68, 3) := by decide +kernel
theorem dX2_takeSeat_58 : decode cX2_takeSeat 58 = .ok (.iconst 1, 1) := by decide +kernel
theorem dX2_takeSeat_59 : decode cX2_takeSeat 59 = .ok (.iadd, 1) := by decide +kernel
theorem dX2_takeSeat_60 : decode cX2_takeSeat 60 = .ok (.putfield 68, 3) := by decide +kernel
theorem dX2_takeSeat_63 : decode cX2_takeSeat 63 = .ok (.return_, 1) := by decide +kernel
set_option maxRecDepth 20000 in
theorem ggX2_standUp_X3_at : GoodIn wsX2_standUp wsX3_at := goodIn_r _ [9] (by decide +kernel) (by decide +kernel)
set_option maxRecDepth 20000 in
theorem gX2_standUp_X3_at : GoodIn wsX2_standUp (va_wsS RX2 82 yX3_at wsX3_at) := goodIn_app (goodIn_of _ (by decide +kernel)) ggX2_standUp_X3_at
set_option maxRecDepth 20000 in
theorem ggX2_standUp_X3_put : GoodIn wsX2_standUp wsX3_put := goodIn_r _ [12] (by decide +kernel) (by decide +kernel)
set_option maxRecDepth 20000 in
theorem gX2_standUp_X3_put : GoodIn wsX2_standUp (va_wsS RX2 93 yX3_put wsX3_put) := goodIn_app (goodIn_of _ (by decide +kernel)) ggX2_standUp_X3_put
set_option maxRecDepth 20000 in
theorem ggX2_standUp_X1_dropItem : GoodIn wsX2_standUp wsX1_dropItem := goodIn_r _ [17, 18, 19, 20, 21, 22, 16, 23, 24, 11, 8, 12, 39, 40] (by decide +kernel) (by decide +kernel)
set_option maxRecDepth 20000 in
theorem gX2_standUp_X1_dropItem : GoodIn wsX2_standUp (wsV RX2 156 RX1 yX1_dropItem wsX1_dropItem) := goodIn_app (goodIn_of _ (by decide +kernel)) ggX2_standUp_X1_dropItem
theorem dX2_standUp_0 : decode cX2_standUp 0 = .ok (.aload_n 0, 1) := by decide +kernel
theorem dX2_standUp_1 : decode cX2_standUp 1 = .ok (.getfield 21, 3) := by decide +kernel
theorem dX2_standUp_4 : decode cX2_standUp 4 = .ok (.iload_n 1, 1) := by decide +kernel
theorem dX2_standUp_5 : decode cX2_standUp 5 = .ok (.invokestatic 82, 3) := by decide +kernel
theorem dX2_standUp_8 : decode cX2_standUp 8 = .ok (.istore_n 2, 1) := by decide +kernel
theorem dX2_standUp_9 : decode cX2_standUp 9 = .ok (.aload_n 0, 1) := by decide +kernel
theorem dX2_standUp_10 : decode cX2_standUp 10 = .ok (.getfield 24, 3) := by decide +kernel
theorem dX2_standUp_13 : decode cX2_standUp 13 = .ok (.iload_n 1, 1) := by decide +kernel
theorem dX2_standUp_14 : decode cX2_standUp 14 = .ok (.invokestatic 82, 3) := by decide +kernel
theorem dX2_standUp_17 : decode cX2_standUp 17 = .ok (.istore_n 3, 1) := by decide +kernel
theorem dX2_standUp_18 : decode cX2_standUp 18 = .ok (.aload_n 0, 1) := by decide +kernel
theorem dX2_standUp_19 : decode cX2_standUp 19 = .ok (.getfield 30, 3) := by decide +kernel
theorem dX2_standUp_22 : decode cX2_standUp 22 = .ok (.iload_n 2, 1) := by decide +kernel
theorem dX2_standUp_23 : decode cX2_standUp 23 = .ok (.bipush 8, 2) := by decide +kernel
theorem dX2_standUp_25 : decode cX2_standUp 25 = .ok (.imul, 1) := by decide +kernel
theorem dX2_standUp_26 : decode cX2_standUp 26 = .ok (.iload_n 3, 1) := by decide +kernel
theorem dX2_standUp_27 : decode cX2_standUp 27 = .ok (.iadd, 1) := by decide +kernel
theorem dX2_standUp_28 : decode cX2_standUp 28 = .ok (.iconst (-1), 1) := by decide +kernel
theorem dX2_standUp_29 : decode cX2_standUp 29 = .ok (.invokestatic 93, 3) := by decide +kernel
theorem dX2_standUp_32 : decode cX2_standUp 32 = .ok (.aload_n 0, 1) := by decide +kernel
theorem dX2_standUp_33 : decode cX2_standUp 33 = .ok (.getfield 21, 3) := by decide +kernel
theorem dX2_standUp_36 : decode cX2_standUp 36 = .ok (.iload_n 1, 1) := by decide +kernel
theorem dX2_standUp_37 : decode cX2_standUp 37 = .ok (.iconst (-1), 1) := by decide +kernel
theorem dX2_standUp_38 : decode cX2_standUp 38 = .ok (.invokestatic 93, 3) := by decide +kernel
theorem dX2_standUp_41 : decode cX2_standUp 41 = .ok (.aload_n 0, 1) := by decide +kernel
theorem dX2_standUp_42 : decode cX2_standUp 42 = .ok (.getfield 24, 3) := by decide +kernel
theorem dX2_standUp_45 : decode cX2_standUp 45 = .ok (.iload_n 1, 1) := by decide +kernel
theorem dX2_standUp_46 : decode cX2_standUp 46 = .ok (.iconst (-1), 1) := by decide +kernel
theorem dX2_standUp_47 : decode cX2_standUp 47 = .ok (.invokestatic 93, 3) := by decide +kernel
theorem dX2_standUp_50 : decode cX2_standUp 50 = .ok (.aload_n 0, 1) := by decide +kernel
theorem dX2_standUp_51 : decode cX2_standUp 51 = .ok (.getfield 45, 3) := by decide +kernel
theorem dX2_standUp_54 : decode cX2_standUp 54 = .ok (.iload_n 1, 1) := by decide +kernel
theorem dX2_standUp_55 : decode cX2_standUp 55 = .ok (.invokevirtual 156, 3) := by decide +kernel
theorem dX2_standUp_58 : decode cX2_standUp 58 = .ok (.aload_n 0, 1) := by decide +kernel
theorem dX2_standUp_59 : decode cX2_standUp 59 = .ok (.dup, 1) := by decide +kernel
theorem dX2_standUp_60 : decode cX2_standUp 60 = .ok (.getfield 71, 3) := by decide +kernel
theorem dX2_standUp_63 : decode cX2_standUp 63 = .ok (.iconst 1, 1) := by decide +kernel
theorem dX2_standUp_64 : decode cX2_standUp 64 = .ok (.iadd, 1) := by decide +kernel
theorem dX2_standUp_65 : decode cX2_standUp 65 = .ok (.putfield 71, 3) := by decide +kernel
theorem dX2_standUp_68 : decode cX2_standUp 68 = .ok (.return_, 1) := by decide +kernel
set_option maxRecDepth 20000 in
theorem ggX2_exchange_X2_isSitting : GoodIn wsX2_exchange wsX2_isSitting := goodIn_r _ [7, 1, 8, 9, 10, 11, 102, 103, 104, 105, 106, 107, 108, 109, 110, 111, 112, 113, 114, 115] (by decide +kernel) (by decide +kernel)
set_option maxRecDepth 20000 in
theorem gX2_exchange_X2_isSitting : GoodIn wsX2_exchange (wsV RX2 153 RX2 yX2_isSitting wsX2_isSitting) := goodIn_app (goodIn_of _ (by decide +kernel)) ggX2_exchange_X2_isSitting
set_option maxRecDepth 20000 in
theorem ggX2_exchange_X3_at : GoodIn wsX2_exchange wsX3_at := goodIn_r _ [11] (by decide +kernel) (by decide +kernel)
set_option maxRecDepth 20000 in
theorem gX2_exchange_X3_at : GoodIn wsX2_exchange (va_wsS RX2 82 yX3_at wsX3_at) := goodIn_app (goodIn_of _ (by decide +kernel)) ggX2_exchange_X3_at
set_option maxRecDepth 20000 in
theorem ggX2_exchange_X2_standUp : GoodIn wsX2_exchange wsX2_standUp := goodIn_r _ [15, 1, 2, 16, 17, 18, 8, 9, 10, 11, 19, 20, 21, 22, 23, 24, 25, 26, 27, 28, 29, 30, 31, 32, 33, 102, 103, 104, 105, 106, 107, 108, 109, 110, 111, 112, 113, 114, 115, 116, 117] (by decide +kernel) (by decide +kernel)
set_option maxRecDepth 20000 in
theorem gX2_exchange_X2_standUp : GoodIn wsX2_exchange (wsV RX2 135 RX2 yX2_standUp wsX2_standUp) := goodIn_app (goodIn_of _ (by decide +kernel)) ggX2_exchange_X2_standUp
set_option maxRecDepth 20000 in
theorem ggX2_exchange_X2_mayTake : GoodIn wsX2_exchange wsX2_mayTake := goodIn_r _ [37, 38, 39, 40, 6, 41, 42, 43, 44, 45, 46, 47, 48, 49, 50, 51, 52, 53, 54, 55, 56, 57, 58, 59, 60, 61, 62, 1, 63, 64, 65, 66, 67, 16, 68, 69, 70, 8, 9, 10, 11, 71, 72, 73, 74, 75, 76, 77, 78, 25, 79, 27, 80, 30, 31, 32, 28, 81, 82, 83, 84, 85, 86, 87, 88, 102, 103, 104, 105, 106, 107, 108, 109, 110, 111, 112, 113, 114, 115, 116, 117] (by decide +kernel) (by decide +kernel)
set_option maxRecDepth 20000 in
theorem gX2_exchange_X2_mayTake : GoodIn wsX2_exchange (wsV RX2 159 RX2 yX2_mayTake wsX2_mayTake) := goodIn_app (goodIn_of _ (by decide +kernel)) ggX2_exchange_X2_mayTake
set_option maxRecDepth 20000 in
theorem ggX2_exchange_X2_takeSeat : GoodIn wsX2_exchange wsX2_takeSeat := goodIn_r _ [92, 1, 2, 16, 17, 93, 3, 4, 5, 6, 7, 8, 9, 10, 11, 12, 13, 14, 15, 18, 19, 20, 21, 22, 23, 24, 25, 26, 27, 28, 29, 30, 31, 32, 33, 94, 95, 96, 97, 98, 99, 100, 101, 102, 103, 104, 105, 106, 107, 108, 109, 110, 111, 112, 113, 114, 115, 116, 117] (by decide +kernel) (by decide +kernel)
set_option maxRecDepth 20000 in
theorem gX2_exchange_X2_takeSeat : GoodIn wsX2_exchange (wsV RX2 163 RX2 yX2_takeSeat wsX2_takeSeat) := goodIn_app (goodIn_of _ (by decide +kernel)) ggX2_exchange_X2_takeSeat
theorem dX2_exchange_0 : decode cX2_exchange 0 = .ok (.aload_n 0, 1) := by decide +kernel
theorem dX2_exchange_1 : decode cX2_exchange 1 = .ok (.iload_n 1, 1) := by decide +kernel
theorem dX2_exchange_2 : decode cX2_exchange 2 = .ok (.invokevirtual 153, 3) := by decide +kernel
theorem dX2_exchange_5 : decode cX2_exchange 5 = .ok (.ifCond .eq 11, 3) := by decide +kernel
theorem dX2_exchange_8 : decode cX2_exchange 8 = .ok (.aload_n 0, 1) := by decide +kernel
theorem dX2_exchange_9 : decode cX2_exchange 9 = .ok (.iload_n 2, 1) := by decide +kernel
theorem dX2_exchange_10 : decode cX2_exchange 10 = .ok (.invokevirtual 153, 3) := by decide +kernel
theorem dX2_exchange_13 : decode cX2_exchange 13 = .ok (.ifCond .ne 5, 3) := by decide +kernel
theorem dX2_exchange_16 : decode cX2_exchange 16 = .ok (.iconst 0, 1) := by decide +kernel
theorem dX2_exchange_17 : decode cX2_exchange 17 = .ok (.ireturn, 1) := by decide +kernel
theorem dX2_exchange_18 : decode cX2_exchange 18 = .ok (.aload_n 0, 1) := by decide +kernel
theorem dX2_exchange_19 : decode cX2_exchange 19 = .ok (.getfield 21, 3) := by decide +kernel
theorem dX2_exchange_22 : decode cX2_exchange 22 = .ok (.iload_n 1, 1) := by decide +kernel
theorem dX2_exchange_23 : decode cX2_exchange 23 = .ok (.invokestatic 82, 3) := by decide +kernel
theorem dX2_exchange_26 : decode cX2_exchange 26 = .ok (.istore_n 3, 1) := by decide +kernel
theorem dX2_exchange_27 : decode cX2_exchange 27 = .ok (.aload_n 0, 1) := by decide +kernel
theorem dX2_exchange_28 : decode cX2_exchange 28 = .ok (.getfield 24, 3) := by decide +kernel
theorem dX2_exchange_31 : decode cX2_exchange 31 = .ok (.iload_n 1, 1) := by decide +kernel
theorem dX2_exchange_32 : decode cX2_exchange 32 = .ok (.invokestatic 82, 3) := by decide +kernel
theorem dX2_exchange_35 : decode cX2_exchange 35 = .ok (.istore 4, 2) := by decide +kernel
theorem dX2_exchange_37 : decode cX2_exchange 37 = .ok (.aload_n 0, 1) := by decide +kernel
theorem dX2_exchange_38 : decode cX2_exchange 38 = .ok (.getfield 21, 3) := by decide +kernel
theorem dX2_exchange_41 : decode cX2_exchange 41 = .ok (.iload_n 2, 1) := by decide +kernel
theorem dX2_exchange_42 : decode cX2_exchange 42 = .ok (.invokestatic 82, 3) := by decide +kernel
theorem dX2_exchange_45 : decode cX2_exchange 45 = .ok (.istore 5, 2) := by decide +kernel
theorem dX2_exchange_47 : decode cX2_exchange 47 = .ok (.aload_n 0, 1) := by decide +kernel
theorem dX2_exchange_48 : decode cX2_exchange 48 = .ok (.getfield 24, 3) := by decide +kernel
theorem dX2_exchange_51 : decode cX2_exchange 51 = .ok (.iload_n 2, 1) := by decide +kernel
theorem dX2_exchange_52 : decode cX2_exchange 52 = .ok (.invokestatic 82, 3) := by decide +kernel
theorem dX2_exchange_55 : decode cX2_exchange 55 = .ok (.istore 6, 2) := by decide +kernel
theorem dX2_exchange_57 : decode cX2_exchange 57 = .ok (.aload_n 0, 1) := by decide +kernel
theorem dX2_exchange_58 : decode cX2_exchange 58 = .ok (.iload_n 1, 1) := by decide +kernel
theorem dX2_exchange_59 : decode cX2_exchange 59 = .ok (.invokevirtual 135, 3) := by decide +kernel
theorem dX2_exchange_62 : decode cX2_exchange 62 = .ok (.aload_n 0, 1) := by decide +kernel
theorem dX2_exchange_63 : decode cX2_exchange 63 = .ok (.iload_n 2, 1) := by decide +kernel
theorem dX2_exchange_64 : decode cX2_exchange 64 = .ok (.invokevirtual 135, 3) := by decide +kernel
theorem dX2_exchange_67 : decode cX2_exchange 67 = .ok (.aload_n 0, 1) := by decide +kernel
theorem dX2_exchange_68 : decode cX2_exchange 68 = .ok (.iload_n 1, 1) := by decide +kernel
theorem dX2_exchange_69 : decode cX2_exchange 69 = .ok (.iload 5, 2) := by decide +kernel
theorem dX2_exchange_71 : decode cX2_exchange 71 = .ok (.iload 6, 2) := by decide +kernel
theorem dX2_exchange_73 : decode cX2_exchange 73 = .ok (.invokevirtual 159, 3) := by decide +kernel
theorem dX2_exchange_76 : decode cX2_exchange 76 = .ok (.ifCond .ne 5, 3) := by decide +kernel
theorem dX2_exchange_79 : decode cX2_exchange 79 = .ok (.iconst 0, 1) := by decide +kernel
theorem dX2_exchange_80 : decode cX2_exchange 80 = .ok (.ireturn, 1) := by decide +kernel
theorem dX2_exchange_81 : decode cX2_exchange 81 = .ok (.aload_n 0, 1) := by decide +kernel
theorem dX2_exchange_82 : decode cX2_exchange 82 = .ok (.iload_n 1, 1) := by decide +kernel
theorem dX2_exchange_83 : decode cX2_exchange 83 = .ok (.iload 5, 2) := by decide +kernel
theorem dX2_exchange_85 : decode cX2_exchange 85 = .ok (.iload 6, 2) := by decide +kernel
theorem dX2_exchange_87 : decode cX2_exchange 87 = .ok (.invokevirtual 163, 3) := by decide +kernel
theorem dX2_exchange_90 : decode cX2_exchange 90 = .ok (.aload_n 0, 1) := by decide +kernel
theorem dX2_exchange_91 : decode cX2_exchange 91 = .ok (.iload_n 2, 1) := by decide +kernel
theorem dX2_exchange_92 : decode cX2_exchange 92 = .ok (.iload_n 3, 1) := by decide +kernel
theorem dX2_exchange_93 : decode cX2_exchange 93 = .ok (.iload 4, 2) := by decide +kernel
theorem dX2_exchange_95 : decode cX2_exchange 95 = .ok (.invokevirtual 159, 3) := by decide +kernel
theorem dX2_exchange_98 : decode cX2_exchange 98 = .ok (.ifCond .ne 5, 3) := by decide +kernel
theorem dX2_exchange_101 : decode cX2_exchange 101 = .ok (.iconst 0, 1) := by decide +kernel
theorem dX2_exchange_102 : decode cX2_exchange 102 = .ok (.ireturn, 1) := by decide +kernel
theorem dX2_exchange_103 : decode cX2_exchange 103 = .ok (.aload_n 0, 1) := by decide +kernel
theorem dX2_exchange_104 : decode cX2_exchange 104 = .ok (.iload_n 2, 1) := by decide +kernel
theorem dX2_exchange_105 : decode cX2_exchange 105 = .ok (.iload_n 3, 1) := by decide +kernel
theorem dX2_exchange_106 : decode cX2_exchange 106 = .ok (.iload 4, 2) := by decide +kernel
theorem dX2_exchange_108 : decode cX2_exchange 108 = .ok (.invokevirtual 163, 3) := by decide +kernel
theorem dX2_exchange_111 : decode cX2_exchange 111 = .ok (.iconst 1, 1) := by decide +kernel
theorem dX2_exchange_112 : decode cX2_exchange 112 = .ok (.ireturn, 1) := by decide +kernel
set_option maxRecDepth 20000 in
theorem ggX2_bestPlace_X2_seatsAt : GoodIn wsX2_bestPlace wsX2_seatsAt := goodIn_r _ [6, 7, 77, 78, 79, 80, 81, 82, 83, 84, 85, 86, 87, 88, 89, 90] (by decide +kernel) (by decide +kernel)
set_option maxRecDepth 20000 in
theorem gX2_bestPlace_X2_seatsAt : GoodIn wsX2_bestPlace (wsV RX2 78 RX2 yX2_seatsAt wsX2_seatsAt) := goodIn_app (goodIn_of _ (by decide +kernel)) ggX2_bestPlace_X2_seatsAt
set_option maxRecDepth 20000 in
theorem ggX2_bestPlace_X2_reasonAgainst : GoodIn wsX2_bestPlace wsX2_reasonAgainst := goodIn_r _ [11, 12, 13, 14, 15, 16, 17, 18, 5, 19, 20, 21, 22, 23, 24, 25, 26, 27, 28, 29, 30, 31, 32, 33, 34, 35, 36, 37, 38, 39, 40, 41, 42, 43, 44, 45, 46, 47, 2, 3, 4, 6, 7, 48, 49, 50, 51, 77, 78, 79, 80, 81, 82, 83, 84, 85, 86, 87, 88, 89, 90, 91, 92] (by decide +kernel) (by decide +kernel)
set_option maxRecDepth 20000 in
theorem gX2_bestPlace_X2_reasonAgainst : GoodIn wsX2_bestPlace (wsV RX2 150 RX2 yX2_reasonAgainst wsX2_reasonAgainst) := goodIn_app (goodIn_of _ (by decide +kernel)) ggX2_bestPlace_X2_reasonAgainst
set_option maxRecDepth 20000 in
theorem ggX2_bestPlace_X4_gain : GoodIn wsX2_bestPlace wsX4_gain := goodIn_r _ [55, 56, 25, 26, 27, 57, 58, 54, 59, 60, 22, 5, 23, 61, 62, 63, 64, 65, 66, 67, 68, 69, 70, 71, 72, 73, 3, 4, 6, 7, 74, 75, 76, 77, 78, 79, 80, 81, 82, 83, 84, 85, 86, 87, 88, 89, 90] (by decide +kernel) (by decide +kernel)
set_option maxRecDepth 20000 in
theorem gX2_bestPlace_X4_gain : GoodIn wsX2_bestPlace (va_wsS RX2 167 yX4_gain wsX4_gain) := goodIn_app (goodIn_of _ (by decide +kernel)) ggX2_bestPlace_X4_gain
theorem dX2_bestPlace_0 : decode cX2_bestPlace 0 = .ok (.iconst (-1), 1) := by decide +kernel
theorem dX2_bestPlace_1 : decode cX2_bestPlace 1 = .ok (.istore_n 2, 1) := by decide +kernel
theorem dX2_bestPlace_2 : decode cX2_bestPlace 2 = .ok (.iconst 0, 1) := by decide +kernel
theorem dX2_bestPlace_3 : decode cX2_bestPlace 3 = .ok (.istore_n 3, 1) := by decide +kernel
theorem dX2_bestPlace_4 : decode cX2_bestPlace 4 = .ok (.iconst 0, 1) := by decide +kernel
theorem dX2_bestPlace_5 : decode cX2_bestPlace 5 = .ok (.istore 4, 2) := by decide +kernel
theorem dX2_bestPlace_7 : decode cX2_bestPlace 7 = .ok (.iload 4, 2) := by decide +kernel
theorem dX2_bestPlace_9 : decode cX2_bestPlace 9 = .ok (.aload_n 0, 1) := by decide +kernel
theorem dX2_bestPlace_10 : decode cX2_bestPlace 10 = .ok (.getfield 65, 3) := by decide +kernel
theorem dX2_bestPlace_13 : decode cX2_bestPlace 13 = .ok (.if_icmp .ge 78, 3) := by decide +kernel
theorem dX2_bestPlace_16 : decode cX2_bestPlace 16 = .ok (.iconst 0, 1) := by decide +kernel
theorem dX2_bestPlace_17 : decode cX2_bestPlace 17 = .ok (.istore 5, 2) := by decide +kernel
theorem dX2_bestPlace_19 : decode cX2_bestPlace 19 = .ok (.iload 5, 2) := by decide +kernel
theorem dX2_bestPlace_21 : decode cX2_bestPlace 21 = .ok (.aload_n 0, 1) := by decide +kernel
theorem dX2_bestPlace_22 : decode cX2_bestPlace 22 = .ok (.iload 4, 2) := by decide +kernel
theorem dX2_bestPlace_24 : decode cX2_bestPlace 24 = .ok (.invokevirtual 78, 3) := by decide +kernel
theorem dX2_bestPlace_27 : decode cX2_bestPlace 27 = .ok (.if_icmp .ge 58, 3) := by decide +kernel
theorem dX2_bestPlace_30 : decode cX2_bestPlace 30 = .ok (.aload_n 0, 1) := by decide +kernel
theorem dX2_bestPlace_31 : decode cX2_bestPlace 31 = .ok (.iload_n 1, 1) := by decide +kernel
theorem dX2_bestPlace_32 : decode cX2_bestPlace 32 = .ok (.iload 4, 2) := by decide +kernel
theorem dX2_bestPlace_34 : decode cX2_bestPlace 34 = .ok (.iload 5, 2) := by decide +kernel
theorem dX2_bestPlace_36 : decode cX2_bestPlace 36 = .ok (.invokevirtual 150, 3) := by decide +kernel
theorem dX2_bestPlace_39 : decode cX2_bestPlace 39 = .ok (.ifCond .eq 6, 3) := by decide +kernel
theorem dX2_bestPlace_42 : decode cX2_bestPlace 42 = .ok (.goto 37, 3) := by decide +kernel
theorem dX2_bestPlace_45 : decode cX2_bestPlace 45 = .ok (.aload_n 0, 1) := by decide +kernel
theorem dX2_bestPlace_46 : decode cX2_bestPlace 46 = .ok (.iload_n 1, 1) := by decide +kernel
theorem dX2_bestPlace_47 : decode cX2_bestPlace 47 = .ok (.iload 4, 2) := by decide +kernel
theorem dX2_bestPlace_49 : decode cX2_bestPlace 49 = .ok (.iload 5, 2) := by decide +kernel
theorem dX2_bestPlace_51 : decode cX2_bestPlace 51 = .ok (.invokestatic 167, 3) := by decide +kernel
theorem dX2_bestPlace_54 : decode cX2_bestPlace 54 = .ok (.istore 6, 2) := by decide +kernel
theorem dX2_bestPlace_56 : decode cX2_bestPlace 56 = .ok (.iload_n 2, 1) := by decide +kernel
theorem dX2_bestPlace_57 : decode cX2_bestPlace 57 = .ok (.iconst (-1), 1) := by decide +kernel
theorem dX2_bestPlace_58 : decode cX2_bestPlace 58 = .ok (.if_icmp .eq 9, 3) := by decide +kernel
theorem dX2_bestPlace_61 : decode cX2_bestPlace 61 = .ok (.iload 6, 2) := by decide +kernel
theorem dX2_bestPlace_63 : decode cX2_bestPlace 63 = .ok (.iload_n 3, 1) := by decide +kernel
theorem dX2_bestPlace_64 : decode cX2_bestPlace 64 = .ok (.if_icmp .le 15, 3) := by decide +kernel
theorem dX2_bestPlace_67 : decode cX2_bestPlace 67 = .ok (.iload 4, 2) := by decide +kernel
theorem dX2_bestPlace_69 : decode cX2_bestPlace 69 = .ok (.bipush 8, 2) := by decide +kernel
theorem dX2_bestPlace_71 : decode cX2_bestPlace 71 = .ok (.imul, 1) := by decide +kernel
theorem dX2_bestPlace_72 : decode cX2_bestPlace 72 = .ok (.iload 5, 2) := by decide +kernel
theorem dX2_bestPlace_74 : decode cX2_bestPlace 74 = .ok (.iadd, 1) := by decide +kernel
theorem dX2_bestPlace_75 : decode cX2_bestPlace 75 = .ok (.istore_n 2, 1) := by decide +kernel
theorem dX2_bestPlace_76 : decode cX2_bestPlace 76 = .ok (.iload 6, 2) := by decide +kernel
theorem dX2_bestPlace_78 : decode cX2_bestPlace 78 = .ok (.istore_n 3, 1) := by decide +kernel
theorem dX2_bestPlace_79 : decode cX2_bestPlace 79 = .ok (.iinc 5 1, 3) := by decide +kernel
theorem dX2_bestPlace_82 : decode cX2_bestPlace 82 = .ok (.goto (-63), 3) := by decide +kernel
theorem dX2_bestPlace_85 : decode cX2_bestPlace 85 = .ok (.iinc 4 1, 3) := by decide +kernel
theorem dX2_bestPlace_88 : decode cX2_bestPlace 88 = .ok (.goto (-81), 3) := by decide +kernel
theorem dX2_bestPlace_91 : decode cX2_bestPlace 91 = .ok (.iload_n 2, 1) := by decide +kernel
theorem dX2_bestPlace_92 : decode cX2_bestPlace 92 = .ok (.ireturn, 1) := by decide +kernel
set_option maxRecDepth 20000 in
theorem ggX2_seatStanding_X2_isSitting : GoodIn wsX2_seatStanding wsX2_isSitting := goodIn_r _ [7, 8, 9, 10, 11, 12, 114, 115, 116, 117, 118, 119, 120, 121, 122, 123, 124, 125, 126, 127] (by decide +kernel) (by decide +kernel)
set_option maxRecDepth 20000 in
theorem gX2_seatStanding_X2_isSitting : GoodIn wsX2_seatStanding (wsV RX2 153 RX2 yX2_isSitting wsX2_isSitting) := goodIn_app (goodIn_of _ (by decide +kernel)) ggX2_seatStanding_X2_isSitting
set_option maxRecDepth 20000 in
theorem ggX2_seatStanding_X2_bestPlace : GoodIn wsX2_seatStanding wsX2_bestPlace := goodIn_r _ [16, 17, 18, 19, 20, 6, 21, 22, 23, 24, 25, 26, 27, 28, 8, 29, 30, 31, 32, 33, 34, 35, 36, 37, 9, 10, 11, 12, 38, 39, 40, 41, 42, 43, 44, 45, 46, 47, 48, 49, 50, 51, 52, 53, 54, 55, 56, 57, 58, 59, 60, 61, 62, 63, 64, 65, 66, 67, 68, 69, 70, 71, 72, 73, 74, 75, 76, 77, 78, 79, 80, 81, 1, 82, 83, 84, 85, 114, 115, 116, 117, 118, 119, 120, 121, 122, 123, 124, 125, 126, 127, 128, 129] (by decide +kernel) (by decide +kernel)
set_option maxRecDepth 20000 in
theorem gX2_seatStanding_X2_bestPlace : GoodIn wsX2_seatStanding (wsV RX2 173 RX2 yX2_bestPlace wsX2_bestPlace) := goodIn_app (goodIn_of _ (by decide +kernel)) ggX2_seatStanding_X2_bestPlace
set_option maxRecDepth 20000 in
theorem ggX2_seatStanding_X2_takeSeat : GoodIn wsX2_seatStanding wsX2_takeSeat := goodIn_r _ [89, 8, 90, 34, 2, 91, 3, 4, 5, 6, 7, 9, 10, 11, 12, 92, 93, 94, 95, 96, 97, 98, 99, 100, 101, 102, 46, 103, 48, 53, 104, 50, 51, 52, 105, 106, 107, 108, 109, 110, 111, 112, 113, 114, 115, 116, 117, 118, 119, 120, 121, 122, 123, 124, 125, 126, 127, 128, 129] (by decide +kernel) (by decide +kernel)
set_option maxRecDepth 20000 in
theorem gX2_seatStanding_X2_takeSeat : GoodIn wsX2_seatStanding (wsV RX2 163 RX2 yX2_takeSeat wsX2_takeSeat) := goodIn_app (goodIn_of _ (by decide +kernel)) ggX2_seatStanding_X2_takeSeat
set_option maxRecDepth 20000 in
theorem ggX2_seatStanding_X1_length : GoodIn wsX2_seatStanding wsX1_length := goodIn_r _ [47, 48, 128, 129] (by decide +kernel) (by decide +kernel)
set_option maxRecDepth 20000 in
theorem gX2_seatStanding_X1_length : GoodIn wsX2_seatStanding (wsV RX2 111 RX1 yX1_length wsX1_length) := goodIn_app (goodIn_of _ (by decide +kernel)) ggX2_seatStanding_X1_length
theorem dX2_seatStanding_0 : decode cX2_seatStanding 0 = .ok (.iconst 0, 1) := by decide +kernel
theorem dX2_seatStanding_1 : decode cX2_seatStanding 1 = .ok (.istore_n 1, 1) := by decide +kernel
theorem dX2_seatStanding_2 : decode cX2_seatStanding 2 = .ok (.iload_n 1, 1) := by decide +kernel
theorem dX2_seatStanding_3 : decode cX2_seatStanding 3 = .ok (.aload_n 0, 1) := by decide +kernel
theorem dX2_seatStanding_4 : decode cX2_seatStanding 4 = .ok (.getfield 61, 3) := by decide +kernel
theorem dX2_seatStanding_7 : decode cX2_seatStanding 7 = .ok (.if_icmp .ge 41, 3) := by decide +kernel
theorem dX2_seatStanding_10 : decode cX2_seatStanding 10 = .ok (.aload_n 0, 1) := by decide +kernel
theorem dX2_seatStanding_11 : decode cX2_seatStanding 11 = .ok (.iload_n 1, 1) := by decide +kernel
theorem dX2_seatStanding_12 : decode cX2_seatStanding 12 = .ok (.invokevirtual 153, 3) := by decide +kernel
theorem dX2_seatStanding_15 : decode cX2_seatStanding 15 = .ok (.ifCond .ne 27, 3) := by decide +kernel
theorem dX2_seatStanding_18 : decode cX2_seatStanding 18 = .ok (.aload_n 0, 1) := by decide +kernel
theorem dX2_seatStanding_19 : decode cX2_seatStanding 19 = .ok (.iload_n 1, 1) := by decide +kernel
theorem dX2_seatStanding_20 : decode cX2_seatStanding 20 = .ok (.invokevirtual 173, 3) := by decide +kernel
theorem dX2_seatStanding_23 : decode cX2_seatStanding 23 = .ok (.istore_n 2, 1) := by decide +kernel
theorem dX2_seatStanding_24 : decode cX2_seatStanding 24 = .ok (.iload_n 2, 1) := by decide +kernel
theorem dX2_seatStanding_25 : decode cX2_seatStanding 25 = .ok (.iconst (-1), 1) := by decide +kernel
theorem dX2_seatStanding_26 : decode cX2_seatStanding 26 = .ok (.if_icmp .eq 16, 3) := by decide +kernel
theorem dX2_seatStanding_29 : decode cX2_seatStanding 29 = .ok (.aload_n 0, 1) := by decide +kernel
theorem dX2_seatStanding_30 : decode cX2_seatStanding 30 = .ok (.iload_n 1, 1) := by decide +kernel
theorem dX2_seatStanding_31 : decode cX2_seatStanding 31 = .ok (.iload_n 2, 1) := by decide +kernel
theorem dX2_seatStanding_32 : decode cX2_seatStanding 32 = .ok (.bipush 8, 2) := by decide +kernel
theorem dX2_seatStanding_34 : decode cX2_seatStanding 34 = .ok (.idiv, 1) := by decide +kernel
theorem dX2_seatStanding_35 : decode cX2_seatStanding 35 = .ok (.iload_n 2, 1) := by decide +kernel
theorem dX2_seatStanding_36 : decode cX2_seatStanding 36 = .ok (.bipush 8, 2) := by decide +kernel
theorem dX2_seatStanding_38 : decode cX2_seatStanding 38 = .ok (.irem, 1) := by decide +kernel
theorem dX2_seatStanding_39 : decode cX2_seatStanding 39 = .ok (.invokevirtual 163, 3) := by decide +kernel
theorem dX2_seatStanding_42 : decode cX2_seatStanding 42 = .ok (.iinc 1 1, 3) := by decide +kernel
theorem dX2_seatStanding_45 : decode cX2_seatStanding 45 = .ok (.goto (-43), 3) := by decide +kernel
theorem dX2_seatStanding_48 : decode cX2_seatStanding 48 = .ok (.aload_n 0, 1) := by decide +kernel
theorem dX2_seatStanding_49 : decode cX2_seatStanding 49 = .ok (.getfield 61, 3) := by decide +kernel
theorem dX2_seatStanding_52 : decode cX2_seatStanding 52 = .ok (.aload_n 0, 1) := by decide +kernel
theorem dX2_seatStanding_53 : decode cX2_seatStanding 53 = .ok (.getfield 45, 3) := by decide +kernel
theorem dX2_seatStanding_56 : decode cX2_seatStanding 56 = .ok (.invokevirtual 111, 3) := by decide +kernel
theorem dX2_seatStanding_59 : decode cX2_seatStanding 59 = .ok (.isub, 1) := by decide +kernel
theorem dX2_seatStanding_60 : decode cX2_seatStanding 60 = .ok (.ireturn, 1) := by decide +kernel
theorem dX3_at_0 : decode cX3_at 0 = .ok (.iload_n 1, 1) := by decide +kernel
theorem dX3_at_1 : decode cX3_at 1 = .ok (.ifCond .lt 15, 3) := by decide +kernel
theorem dX3_at_4 : decode cX3_at 4 = .ok (.iload_n 1, 1) := by decide +kernel
theorem dX3_at_5 : decode cX3_at 5 = .ok (.aload_n 0, 1) := by decide +kernel
theorem dX3_at_6 : decode cX3_at 6 = .ok (.arraylength, 1) := by decide +kernel
theorem dX3_at_7 : decode cX3_at 7 = .ok (.if_icmp .ge 9, 3) := by decide +kernel
theorem dX3_at_10 : decode cX3_at 10 = .ok (.aload_n 0, 1) := by decide +kernel
theorem dX3_at_11 : decode cX3_at 11 = .ok (.iload_n 1, 1) := by decide +kernel
theorem dX3_at_12 : decode cX3_at 12 = .ok (.iaload, 1) := by decide +kernel
theorem dX3_at_13 : decode cX3_at 13 = .ok (.goto 4, 3) := by decide +kernel
theorem dX3_at_16 : decode cX3_at 16 = .ok (.iconst (-1), 1) := by decide +kernel
theorem dX3_at_17 : decode cX3_at 17 = .ok (.ireturn, 1) := by decide +kernel
theorem dX3_put_0 : decode cX3_put 0 = .ok (.iload_n 1, 1) := by decide +kernel
theorem dX3_put_1 : decode cX3_put 1 = .ok (.ifCond .lt 13, 3) := by decide +kernel
theorem dX3_put_4 : decode cX3_put 4 = .ok (.iload_n 1, 1) := by decide +kernel
theorem dX3_put_5 : decode cX3_put 5 = .ok (.aload_n 0, 1) := by decide +kernel
theorem dX3_put_6 : decode cX3_put 6 = .ok (.arraylength, 1) := by decide +kernel
theorem dX3_put_7 : decode cX3_put 7 = .ok (.if_icmp .ge 7, 3) := by decide +kernel
theorem dX3_put_10 : decode cX3_put 10 = .ok (.aload_n 0, 1) := by decide +kernel
theorem dX3_put_11 : decode cX3_put 11 = .ok (.iload_n 1, 1) := by decide +kernel
theorem dX3_put_12 : decode cX3_put 12 = .ok (.iload_n 2, 1) := by decide +kernel
theorem dX3_put_13 : decode cX3_put 13 = .ok (.iastore, 1) := by decide +kernel
theorem dX3_put_14 : decode cX3_put 14 = .ok (.return_, 1) := by decide +kernel
theorem dX3_copy_0 : decode cX3_copy 0 = .ok (.iconst 0, 1) := by decide +kernel
theorem dX3_copy_1 : decode cX3_copy 1 = .ok (.istore_n 2, 1) := by decide +kernel
theorem dX3_copy_2 : decode cX3_copy 2 = .ok (.iload_n 2, 1) := by decide +kernel
theorem dX3_copy_3 : decode cX3_copy 3 = .ok (.aload_n 0, 1) := by decide +kernel
theorem dX3_copy_4 : decode cX3_copy 4 = .ok (.arraylength, 1) := by decide +kernel
theorem dX3_copy_5 : decode cX3_copy 5 = .ok (.if_icmp .ge 21, 3) := by decide +kernel
theorem dX3_copy_8 : decode cX3_copy 8 = .ok (.iload_n 2, 1) := by decide +kernel
theorem dX3_copy_9 : decode cX3_copy 9 = .ok (.aload_n 1, 1) := by decide +kernel
theorem dX3_copy_10 : decode cX3_copy 10 = .ok (.arraylength, 1) := by decide +kernel
theorem dX3_copy_11 : decode cX3_copy 11 = .ok (.if_icmp .ge 15, 3) := by decide +kernel
theorem dX3_copy_14 : decode cX3_copy 14 = .ok (.aload_n 1, 1) := by decide +kernel
theorem dX3_copy_15 : decode cX3_copy 15 = .ok (.iload_n 2, 1) := by decide +kernel
theorem dX3_copy_16 : decode cX3_copy 16 = .ok (.aload_n 0, 1) := by decide +kernel
theorem dX3_copy_17 : decode cX3_copy 17 = .ok (.iload_n 2, 1) := by decide +kernel
theorem dX3_copy_18 : decode cX3_copy 18 = .ok (.iaload, 1) := by decide +kernel
theorem dX3_copy_19 : decode cX3_copy 19 = .ok (.iastore, 1) := by decide +kernel
theorem dX3_copy_20 : decode cX3_copy 20 = .ok (.iinc 2 1, 3) := by decide +kernel
theorem dX3_copy_23 : decode cX3_copy 23 = .ok (.goto (-21), 3) := by decide +kernel
theorem dX3_copy_26 : decode cX3_copy 26 = .ok (.return_, 1) := by decide +kernel
set_option maxRecDepth 20000 in
theorem ggX4_byGuests_X4_ofGuest : GoodIn wsX4_byGuests wsX4_ofGuest := goodIn_r _ [4, 5, 6, 7, 8, 9, 10, 11, 12, 13, 14, 15, 16, 17, 3, 18, 19, 20, 21, 22, 23, 24, 25, 26, 27, 28, 29, 30, 31, 32, 33, 34, 35, 36, 37, 38, 39, 40, 41, 42, 43, 44, 45, 46, 47, 48, 49, 50, 51, 52, 53, 54, 55, 56, 57, 58] (by decide +kernel) (by decide +kernel)
set_option maxRecDepth 20000 in
theorem gX4_byGuests_X4_ofGuest : GoodIn wsX4_byGuests (va_wsS RX4 15 yX4_ofGuest wsX4_ofGuest) := goodIn_app (goodIn_of _ (by decide +kernel)) ggX4_byGuests_X4_ofGuest
theorem dX4_byGuests_0 : decode cX4_byGuests 0 = .ok (.iconst 0, 1) := by decide +kernel
theorem dX4_byGuests_1 : decode cX4_byGuests 1 = .ok (.istore_n 1, 1) := by decide +kernel
theorem dX4_byGuests_2 : decode cX4_byGuests 2 = .ok (.iconst 0, 1) := by decide +kernel
theorem dX4_byGuests_3 : decode cX4_byGuests 3 = .ok (.istore_n 2, 1) := by decide +kernel
theorem dX4_byGuests_4 : decode cX4_byGuests 4 = .ok (.iload_n 2, 1) := by decide +kernel
theorem dX4_byGuests_5 : decode cX4_byGuests 5 = .ok (.aload_n 0, 1) := by decide +kernel
theorem dX4_byGuests_6 : decode cX4_byGuests 6 = .ok (.getfield 9, 3) := by decide +kernel
theorem dX4_byGuests_9 : decode cX4_byGuests 9 = .ok (.if_icmp .ge 17, 3) := by decide +kernel
theorem dX4_byGuests_12 : decode cX4_byGuests 12 = .ok (.iload_n 1, 1) := by decide +kernel
theorem dX4_byGuests_13 : decode cX4_byGuests 13 = .ok (.aload_n 0, 1) := by decide +kernel
theorem dX4_byGuests_14 : decode cX4_byGuests 14 = .ok (.iload_n 2, 1) := by decide +kernel
theorem dX4_byGuests_15 : decode cX4_byGuests 15 = .ok (.invokestatic 15, 3) := by decide +kernel
theorem dX4_byGuests_18 : decode cX4_byGuests 18 = .ok (.iadd, 1) := by decide +kernel
theorem dX4_byGuests_19 : decode cX4_byGuests 19 = .ok (.istore_n 1, 1) := by decide +kernel
theorem dX4_byGuests_20 : decode cX4_byGuests 20 = .ok (.iinc 2 1, 3) := by decide +kernel
theorem dX4_byGuests_23 : decode cX4_byGuests 23 = .ok (.goto (-19), 3) := by decide +kernel
theorem dX4_byGuests_26 : decode cX4_byGuests 26 = .ok (.iload_n 1, 1) := by decide +kernel
theorem dX4_byGuests_27 : decode cX4_byGuests 27 = .ok (.ireturn, 1) := by decide +kernel
set_option maxRecDepth 20000 in
theorem ggX4_byTables_X4_ofTable : GoodIn wsX4_byTables wsX4_ofTable := goodIn_r _ [4, 5, 6, 7, 8, 9, 10, 11, 12, 13, 14, 15, 16, 17, 3, 18, 19, 20, 21, 22, 23, 24, 25, 26, 27, 28, 29, 30, 31, 32, 33, 34, 35, 36, 37, 38, 39, 40, 41, 42, 43, 44, 45, 46, 47, 48, 49, 50, 51, 52, 53, 54] (by decide +kernel) (by decide +kernel)
set_option maxRecDepth 20000 in
theorem gX4_byTables_X4_ofTable : GoodIn wsX4_byTables (va_wsS RX4 24 yX4_ofTable wsX4_ofTable) := goodIn_app (goodIn_of _ (by decide +kernel)) ggX4_byTables_X4_ofTable
theorem dX4_byTables_0 : decode cX4_byTables 0 = .ok (.iconst 0, 1) := by decide +kernel
theorem dX4_byTables_1 : decode cX4_byTables 1 = .ok (.istore_n 1, 1) := by decide +kernel
theorem dX4_byTables_2 : decode cX4_byTables 2 = .ok (.iconst 0, 1) := by decide +kernel
theorem dX4_byTables_3 : decode cX4_byTables 3 = .ok (.istore_n 2, 1) := by decide +kernel
theorem dX4_byTables_4 : decode cX4_byTables 4 = .ok (.iload_n 2, 1) := by decide +kernel
theorem dX4_byTables_5 : decode cX4_byTables 5 = .ok (.aload_n 0, 1) := by decide +kernel
theorem dX4_byTables_6 : decode cX4_byTables 6 = .ok (.getfield 21, 3) := by decide +kernel
theorem dX4_byTables_9 : decode cX4_byTables 9 = .ok (.if_icmp .ge 17, 3) := by decide +kernel
theorem dX4_byTables_12 : decode cX4_byTables 12 = .ok (.iload_n 1, 1) := by decide +kernel
theorem dX4_byTables_13 : decode cX4_byTables 13 = .ok (.aload_n 0, 1) := by decide +kernel
theorem dX4_byTables_14 : decode cX4_byTables 14 = .ok (.iload_n 2, 1) := by decide +kernel
theorem dX4_byTables_15 : decode cX4_byTables 15 = .ok (.invokestatic 24, 3) := by decide +kernel
theorem dX4_byTables_18 : decode cX4_byTables 18 = .ok (.iadd, 1) := by decide +kernel
theorem dX4_byTables_19 : decode cX4_byTables 19 = .ok (.istore_n 1, 1) := by decide +kernel
theorem dX4_byTables_20 : decode cX4_byTables 20 = .ok (.iinc 2 1, 3) := by decide +kernel
theorem dX4_byTables_23 : decode cX4_byTables 23 = .ok (.goto (-19), 3) := by decide +kernel
theorem dX4_byTables_26 : decode cX4_byTables 26 = .ok (.iload_n 1, 1) := by decide +kernel
theorem dX4_byTables_27 : decode cX4_byTables 27 = .ok (.ireturn, 1) := by decide +kernel
set_option maxRecDepth 20000 in
theorem ggX4_ofGuest_X2_isSitting : GoodIn wsX4_ofGuest wsX2_isSitting := goodIn_r _ [5, 6, 7, 8, 9, 10, 42, 43, 44, 45, 46, 47, 48, 49, 50, 51, 52, 53, 54, 55] (by decide +kernel) (by decide +kernel)
set_option maxRecDepth 20000 in
theorem gX4_ofGuest_X2_isSitting : GoodIn wsX4_ofGuest (wsV RX4 27 RX2 yX2_isSitting wsX2_isSitting) := goodIn_app (goodIn_of _ (by decide +kernel)) ggX4_ofGuest_X2_isSitting
set_option maxRecDepth 20000 in
theorem ggX4_ofGuest_X3_at : GoodIn wsX4_ofGuest wsX3_at := goodIn_r _ [10] (by decide +kernel) (by decide +kernel)
set_option maxRecDepth 20000 in
theorem gX4_ofGuest_X3_at : GoodIn wsX4_ofGuest (va_wsS RX4 35 yX3_at wsX3_at) := goodIn_app (goodIn_of _ (by decide +kernel)) ggX4_ofGuest_X3_at
set_option maxRecDepth 20000 in
theorem ggX4_ofGuest_X4_ofSitting : GoodIn wsX4_ofGuest wsX4_ofSitting := goodIn_r _ [15, 16, 17, 4, 18, 11, 8, 9, 10, 42, 43, 44, 45, 46, 47, 48, 49, 50, 51, 52, 53, 54, 55] (by decide +kernel) (by decide +kernel)
set_option maxRecDepth 20000 in
theorem gX4_ofGuest_X4_ofSitting : GoodIn wsX4_ofGuest (va_wsS RX4 41 yX4_ofSitting wsX4_ofSitting) := goodIn_app (goodIn_of _ (by decide +kernel)) ggX4_ofGuest_X4_ofSitting
set_option maxRecDepth 20000 in
theorem ggX4_ofGuest_X4_levelOfGuest : GoodIn wsX4_ofGuest wsX4_levelOfGuest := goodIn_r _ [21, 1, 2, 3, 4, 5, 6, 7, 8, 9, 10, 11, 22, 23, 14, 24, 25, 26, 27, 28, 29, 30, 31, 32, 33, 34, 35, 36, 37, 38, 42, 43, 44, 45, 46, 47, 48, 49, 50, 51, 52, 53, 54, 55] (by decide +kernel) (by decide +kernel)
set_option maxRecDepth 20000 in
theorem gX4_ofGuest_X4_levelOfGuest : GoodIn wsX4_ofGuest (va_wsS RX4 45 yX4_levelOfGuest wsX4_levelOfGuest) := goodIn_app (goodIn_of _ (by decide +kernel)) ggX4_ofGuest_X4_levelOfGuest
set_option maxRecDepth 20000 in
theorem ggX4_ofGuest_X4_ofLevel : GoodIn wsX4_ofGuest wsX4_ofLevel := goodIn_r _ [41, 11, 8, 9, 10, 42, 43, 44, 45, 46, 47, 48, 49, 50, 51, 52, 53, 54, 55] (by decide +kernel) (by decide +kernel)
set_option maxRecDepth 20000 in
theorem gX4_ofGuest_X4_ofLevel : GoodIn wsX4_ofGuest (va_wsS RX4 48 yX4_ofLevel wsX4_ofLevel) := goodIn_app (goodIn_of _ (by decide +kernel)) ggX4_ofGuest_X4_ofLevel
theorem dX4_ofGuest_0 : decode cX4_ofGuest 0 = .ok (.aload_n 0, 1) := by decide +kernel
theorem dX4_ofGuest_1 : decode cX4_ofGuest 1 = .ok (.iload_n 1, 1) := by decide +kernel
theorem dX4_ofGuest_2 : decode cX4_ofGuest 2 = .ok (.invokevirtual 27, 3) := by decide +kernel
theorem dX4_ofGuest_5 : decode cX4_ofGuest 5 = .ok (.ifCond .ne 5, 3) := by decide +kernel
theorem dX4_ofGuest_8 : decode cX4_ofGuest 8 = .ok (.iconst 0, 1) := by decide +kernel
theorem dX4_ofGuest_9 : decode cX4_ofGuest 9 = .ok (.ireturn, 1) := by decide +kernel
theorem dX4_ofGuest_10 : decode cX4_ofGuest 10 = .ok (.aload_n 0, 1) := by decide +kernel
theorem dX4_ofGuest_11 : decode cX4_ofGuest 11 = .ok (.getfield 31, 3) := by decide +kernel
theorem dX4_ofGuest_14 : decode cX4_ofGuest 14 = .ok (.iload_n 1, 1) := by decide +kernel
theorem dX4_ofGuest_15 : decode cX4_ofGuest 15 = .ok (.invokestatic 35, 3) := by decide +kernel
theorem dX4_ofGuest_18 : decode cX4_ofGuest 18 = .ok (.istore_n 2, 1) := by decide +kernel
theorem dX4_ofGuest_19 : decode cX4_ofGuest 19 = .ok (.aload_n 0, 1) := by decide +kernel
theorem dX4_ofGuest_20 : decode cX4_ofGuest 20 = .ok (.iload_n 1, 1) := by decide +kernel
theorem dX4_ofGuest_21 : decode cX4_ofGuest 21 = .ok (.iload_n 2, 1) := by decide +kernel
theorem dX4_ofGuest_22 : decode cX4_ofGuest 22 = .ok (.invokestatic 41, 3) := by decide +kernel
theorem dX4_ofGuest_25 : decode cX4_ofGuest 25 = .ok (.aload_n 0, 1) := by decide +kernel
theorem dX4_ofGuest_26 : decode cX4_ofGuest 26 = .ok (.aload_n 0, 1) := by decide +kernel
theorem dX4_ofGuest_27 : decode cX4_ofGuest 27 = .ok (.iload_n 1, 1) := by decide +kernel
theorem dX4_ofGuest_28 : decode cX4_ofGuest 28 = .ok (.invokestatic 45, 3) := by decide +kernel
theorem dX4_ofGuest_31 : decode cX4_ofGuest 31 = .ok (.invokestatic 48, 3) := by decide +kernel
theorem dX4_ofGuest_34 : decode cX4_ofGuest 34 = .ok (.iadd, 1) := by decide +kernel
theorem dX4_ofGuest_35 : decode cX4_ofGuest 35 = .ok (.ireturn, 1) := by decide +kernel
set_option maxRecDepth 20000 in
theorem ggX4_ofTable_X2_seatsAt : GoodIn wsX4_ofTable wsX2_seatsAt := goodIn_r _ [5, 6, 38, 39, 40, 41, 42, 43, 44, 45, 46, 47, 48, 49, 50, 51] (by decide +kernel) (by decide +kernel)
set_option maxRecDepth 20000 in
theorem gX4_ofTable_X2_seatsAt : GoodIn wsX4_ofTable (wsV RX4 51 RX2 yX2_seatsAt wsX2_seatsAt) := goodIn_app (goodIn_of _ (by decide +kernel)) ggX4_ofTable_X2_seatsAt
set_option maxRecDepth 20000 in
theorem ggX4_ofTable_X2_holderAt : GoodIn wsX4_ofTable wsX2_holderAt := goodIn_r _ [10, 11, 38, 39, 40, 41, 42, 43, 44, 45, 46, 47, 48, 49, 50, 51] (by decide +kernel) (by decide +kernel)
set_option maxRecDepth 20000 in
theorem gX4_ofTable_X2_holderAt : GoodIn wsX4_ofTable (wsV RX4 55 RX2 yX2_holderAt wsX2_holderAt) := goodIn_app (goodIn_of _ (by decide +kernel)) ggX4_ofTable_X2_holderAt
set_option maxRecDepth 20000 in
theorem ggX4_ofTable_X4_ofSitting : GoodIn wsX4_ofTable wsX4_ofSitting := goodIn_r _ [15, 16, 17, 4, 18, 19, 20, 21, 22, 38, 39, 40, 41, 42, 43, 44, 45, 46, 47, 48, 49, 50, 51] (by decide +kernel) (by decide +kernel)
set_option maxRecDepth 20000 in
theorem gX4_ofTable_X4_ofSitting : GoodIn wsX4_ofTable (va_wsS RX4 41 yX4_ofSitting wsX4_ofSitting) := goodIn_app (goodIn_of _ (by decide +kernel)) ggX4_ofTable_X4_ofSitting
set_option maxRecDepth 20000 in
theorem ggX4_ofTable_X3_at : GoodIn wsX4_ofTable wsX3_at := goodIn_r _ [22] (by decide +kernel) (by decide +kernel)
set_option maxRecDepth 20000 in
theorem gX4_ofTable_X3_at : GoodIn wsX4_ofTable (va_wsS RX4 35 yX3_at wsX3_at) := goodIn_app (goodIn_of _ (by decide +kernel)) ggX4_ofTable_X3_at
set_option maxRecDepth 20000 in
theorem ggX4_ofTable_X4_levelBetween : GoodIn wsX4_ofTable wsX4_levelBetween := goodIn_r _ [25, 26, 27, 28, 29, 30, 31, 32, 4, 33, 34, 19, 20, 21, 22, 1, 2, 3, 5, 6, 38, 39, 40, 41, 42, 43, 44, 45, 46, 47, 48, 49, 50, 51] (by decide +kernel) (by decide +kernel)
set_option maxRecDepth 20000 in
theorem gX4_ofTable_X4_levelBetween : GoodIn wsX4_ofTable (va_wsS RX4 62 yX4_levelBetween wsX4_levelBetween) := goodIn_app (goodIn_of _ (by decide +kernel)) ggX4_ofTable_X4_levelBetween
set_option maxRecDepth 20000 in
theorem ggX4_ofTable_X4_ofLevel : GoodIn wsX4_ofTable wsX4_ofLevel := goodIn_r _ [37, 19, 20, 21, 22, 38, 39, 40, 41, 42, 43, 44, 45, 46, 47, 48, 49, 50, 51] (by decide +kernel) (by decide +kernel)
set_option maxRecDepth 20000 in
theorem gX4_ofTable_X4_ofLevel : GoodIn wsX4_ofTable (va_wsS RX4 48 yX4_ofLevel wsX4_ofLevel) := goodIn_app (goodIn_of _ (by decide +kernel)) ggX4_ofTable_X4_ofLevel
theorem dX4_ofTable_0 : decode cX4_ofTable 0 = .ok (.iconst 0, 1) := by decide +kernel
theorem dX4_ofTable_1 : decode cX4_ofTable 1 = .ok (.istore_n 2, 1) := by decide +kernel
theorem dX4_ofTable_2 : decode cX4_ofTable 2 = .ok (.iconst 0, 1) := by decide +kernel
theorem dX4_ofTable_3 : decode cX4_ofTable 3 = .ok (.istore_n 3, 1) := by decide +kernel
theorem dX4_ofTable_4 : decode cX4_ofTable 4 = .ok (.iload_n 3, 1) := by decide +kernel
theorem dX4_ofTable_5 : decode cX4_ofTable 5 = .ok (.aload_n 0, 1) := by decide +kernel
theorem dX4_ofTable_6 : decode cX4_ofTable 6 = .ok (.iload_n 1, 1) := by decide +kernel
theorem dX4_ofTable_7 : decode cX4_ofTable 7 = .ok (.invokevirtual 51, 3) := by decide +kernel
theorem dX4_ofTable_10 : decode cX4_ofTable 10 = .ok (.if_icmp .ge 99, 3) := by decide +kernel
theorem dX4_ofTable_13 : decode cX4_ofTable 13 = .ok (.aload_n 0, 1) := by decide +kernel
theorem dX4_ofTable_14 : decode cX4_ofTable 14 = .ok (.iload_n 1, 1) := by decide +kernel
theorem dX4_ofTable_15 : decode cX4_ofTable 15 = .ok (.iload_n 3, 1) := by decide +kernel
theorem dX4_ofTable_16 : decode cX4_ofTable 16 = .ok (.invokevirtual 55, 3) := by decide +kernel
theorem dX4_ofTable_19 : decode cX4_ofTable 19 = .ok (.istore 4, 2) := by decide +kernel
theorem dX4_ofTable_21 : decode cX4_ofTable 21 = .ok (.iload 4, 2) := by decide +kernel
theorem dX4_ofTable_23 : decode cX4_ofTable 23 = .ok (.iconst (-1), 1) := by decide +kernel
theorem dX4_ofTable_24 : decode cX4_ofTable 24 = .ok (.if_icmp .ne 6, 3) := by decide +kernel
theorem dX4_ofTable_27 : decode cX4_ofTable 27 = .ok (.goto 76, 3) := by decide +kernel
theorem dX4_ofTable_30 : decode cX4_ofTable 30 = .ok (.iload_n 2, 1) := by decide +kernel
theorem dX4_ofTable_31 : decode cX4_ofTable 31 = .ok (.aload_n 0, 1) := by decide +kernel
theorem dX4_ofTable_32 : decode cX4_ofTable 32 = .ok (.iload 4, 2) := by decide +kernel
theorem dX4_ofTable_34 : decode cX4_ofTable 34 = .ok (.iload_n 3, 1) := by decide +kernel
theorem dX4_ofTable_35 : decode cX4_ofTable 35 = .ok (.invokestatic 41, 3) := by decide +kernel
theorem dX4_ofTable_38 : decode cX4_ofTable 38 = .ok (.iadd, 1) := by decide +kernel
theorem dX4_ofTable_39 : decode cX4_ofTable 39 = .ok (.istore_n 2, 1) := by decide +kernel
theorem dX4_ofTable_40 : decode cX4_ofTable 40 = .ok (.iconst 0, 1) := by decide +kernel
theorem dX4_ofTable_41 : decode cX4_ofTable 41 = .ok (.istore 5, 2) := by decide +kernel
theorem dX4_ofTable_43 : decode cX4_ofTable 43 = .ok (.iload 5, 2) := by decide +kernel
theorem dX4_ofTable_45 : decode cX4_ofTable 45 = .ok (.aload_n 0, 1) := by decide +kernel
theorem dX4_ofTable_46 : decode cX4_ofTable 46 = .ok (.iload_n 1, 1) := by decide +kernel
theorem dX4_ofTable_47 : decode cX4_ofTable 47 = .ok (.invokevirtual 51, 3) := by decide +kernel
theorem dX4_ofTable_50 : decode cX4_ofTable 50 = .ok (.if_icmp .ge 53, 3) := by decide +kernel
theorem dX4_ofTable_53 : decode cX4_ofTable 53 = .ok (.aload_n 0, 1) := by decide +kernel
theorem dX4_ofTable_54 : decode cX4_ofTable 54 = .ok (.iload_n 1, 1) := by decide +kernel
theorem dX4_ofTable_55 : decode cX4_ofTable 55 = .ok (.iload 5, 2) := by decide +kernel
theorem dX4_ofTable_57 : decode cX4_ofTable 57 = .ok (.invokevirtual 55, 3) := by decide +kernel
theorem dX4_ofTable_60 : decode cX4_ofTable 60 = .ok (.istore 6, 2) := by decide +kernel
theorem dX4_ofTable_62 : decode cX4_ofTable 62 = .ok (.iload 6, 2) := by decide +kernel
theorem dX4_ofTable_64 : decode cX4_ofTable 64 = .ok (.iconst (-1), 1) := by decide +kernel
theorem dX4_ofTable_65 : decode cX4_ofTable 65 = .ok (.if_icmp .eq 32, 3) := by decide +kernel
theorem dX4_ofTable_68 : decode cX4_ofTable 68 = .ok (.aload_n 0, 1) := by decide +kernel
theorem dX4_ofTable_69 : decode cX4_ofTable 69 = .ok (.getfield 59, 3) := by decide +kernel
theorem dX4_ofTable_72 : decode cX4_ofTable 72 = .ok (.iload 4, 2) := by decide +kernel
theorem dX4_ofTable_74 : decode cX4_ofTable 74 = .ok (.invokestatic 35, 3) := by decide +kernel
theorem dX4_ofTable_77 : decode cX4_ofTable 77 = .ok (.iload 6, 2) := by decide +kernel
theorem dX4_ofTable_79 : decode cX4_ofTable 79 = .ok (.if_icmp .ne 18, 3) := by decide +kernel
theorem dX4_ofTable_82 : decode cX4_ofTable 82 = .ok (.iload_n 2, 1) := by decide +kernel
theorem dX4_ofTable_83 : decode cX4_ofTable 83 = .ok (.aload_n 0, 1) := by decide +kernel
theorem dX4_ofTable_84 : decode cX4_ofTable 84 = .ok (.aload_n 0, 1) := by decide +kernel
theorem dX4_ofTable_85 : decode cX4_ofTable 85 = .ok (.iload 6, 2) := by decide +kernel
theorem dX4_ofTable_87 : decode cX4_ofTable 87 = .ok (.iload_n 1, 1) := by decide +kernel
theorem dX4_ofTable_88 : decode cX4_ofTable 88 = .ok (.iload_n 3, 1) := by decide +kernel
theorem dX4_ofTable_89 : decode cX4_ofTable 89 = .ok (.invokestatic 62, 3) := by decide +kernel
theorem dX4_ofTable_92 : decode cX4_ofTable 92 = .ok (.invokestatic 48, 3) := by decide +kernel
theorem dX4_ofTable_95 : decode cX4_ofTable 95 = .ok (.iadd, 1) := by decide +kernel
theorem dX4_ofTable_96 : decode cX4_ofTable 96 = .ok (.istore_n 2, 1) := by decide +kernel
theorem dX4_ofTable_97 : decode cX4_ofTable 97 = .ok (.iinc 5 1, 3) := by decide +kernel
theorem dX4_ofTable_100 : decode cX4_ofTable 100 = .ok (.goto (-57), 3) := by decide +kernel
theorem dX4_ofTable_103 : decode cX4_ofTable 103 = .ok (.iinc 3 1, 3) := by decide +kernel
theorem dX4_ofTable_106 : decode cX4_ofTable 106 = .ok (.goto (-102), 3) := by decide +kernel
theorem dX4_ofTable_109 : decode cX4_ofTable 109 = .ok (.iload_n 2, 1) := by decide +kernel
theorem dX4_ofTable_110 : decode cX4_ofTable 110 = .ok (.ireturn, 1) := by decide +kernel
set_option maxRecDepth 20000 in
theorem ggX4_gain_X3_at : GoodIn wsX4_gain wsX3_at := goodIn_r _ [4] (by decide +kernel) (by decide +kernel)
set_option maxRecDepth 20000 in
theorem gX4_gain_X3_at : GoodIn wsX4_gain (va_wsS RX4 35 yX3_at wsX3_at) := goodIn_app (goodIn_of _ (by decide +kernel)) ggX4_gain_X3_at
set_option maxRecDepth 20000 in
theorem ggX4_gain_X4_ofSitting : GoodIn wsX4_gain wsX4_ofSitting := goodIn_r _ [8, 9, 10, 11, 12, 1, 2, 3, 4, 33, 34, 35, 36, 37, 38, 39, 40, 41, 42, 43, 44, 45, 46] (by decide +kernel) (by decide +kernel)
set_option maxRecDepth 20000 in
theorem gX4_gain_X4_ofSitting : GoodIn wsX4_gain (va_wsS RX4 41 yX4_ofSitting wsX4_ofSitting) := goodIn_app (goodIn_of _ (by decide +kernel)) ggX4_gain_X4_ofSitting
set_option maxRecDepth 20000 in
theorem ggX4_gain_X4_levelBetween : GoodIn wsX4_gain wsX4_levelBetween := goodIn_r _ [15, 16, 17, 18, 19, 20, 21, 22, 11, 23, 24, 1, 2, 3, 4, 25, 26, 27, 28, 29, 33, 34, 35, 36, 37, 38, 39, 40, 41, 42, 43, 44, 45, 46] (by decide +kernel) (by decide +kernel)
set_option maxRecDepth 20000 in
theorem gX4_gain_X4_levelBetween : GoodIn wsX4_gain (va_wsS RX4 62 yX4_levelBetween wsX4_levelBetween) := goodIn_app (goodIn_of _ (by decide +kernel)) ggX4_gain_X4_levelBetween
set_option maxRecDepth 20000 in
theorem ggX4_gain_X4_ofLevel : GoodIn wsX4_gain wsX4_ofLevel := goodIn_r _ [32, 1, 2, 3, 4, 33, 34, 35, 36, 37, 38, 39, 40, 41, 42, 43, 44, 45, 46] (by decide +kernel) (by decide +kernel)
set_option maxRecDepth 20000 in
theorem gX4_gain_X4_ofLevel : GoodIn wsX4_gain (va_wsS RX4 48 yX4_ofLevel wsX4_ofLevel) := goodIn_app (goodIn_of _ (by decide +kernel)) ggX4_gain_X4_ofLevel
theorem dX4_gain_0 : decode cX4_gain 0 = .ok (.aload_n 0, 1) := by decide +kernel
theorem dX4_gain_1 : decode cX4_gain 1 = .ok (.getfield 59, 3) := by decide +kernel
theorem dX4_gain_4 : decode cX4_gain 4 = .ok (.iload_n 1, 1) := by decide +kernel
theorem dX4_gain_5 : decode cX4_gain 5 = .ok (.invokestatic 35, 3) := by decide +kernel
theorem dX4_gain_8 : decode cX4_gain 8 = .ok (.istore 4, 2) := by decide +kernel
theorem dX4_gain_10 : decode cX4_gain 10 = .ok (.aload_n 0, 1) := by decide +kernel
theorem dX4_gain_11 : decode cX4_gain 11 = .ok (.iload_n 1, 1) := by decide +kernel
theorem dX4_gain_12 : decode cX4_gain 12 = .ok (.iload_n 3, 1) := by decide +kernel
theorem dX4_gain_13 : decode cX4_gain 13 = .ok (.invokestatic 41, 3) := by decide +kernel
theorem dX4_gain_16 : decode cX4_gain 16 = .ok (.istore 5, 2) := by decide +kernel
theorem dX4_gain_18 : decode cX4_gain 18 = .ok (.iload 5, 2) := by decide +kernel
theorem dX4_gain_20 : decode cX4_gain 20 = .ok (.aload_n 0, 1) := by decide +kernel
theorem dX4_gain_21 : decode cX4_gain 21 = .ok (.aload_n 0, 1) := by decide +kernel
theorem dX4_gain_22 : decode cX4_gain 22 = .ok (.iload 4, 2) := by decide +kernel
theorem dX4_gain_24 : decode cX4_gain 24 = .ok (.iload_n 2, 1) := by decide +kernel
theorem dX4_gain_25 : decode cX4_gain 25 = .ok (.iload_n 3, 1) := by decide +kernel
theorem dX4_gain_26 : decode cX4_gain 26 = .ok (.invokestatic 62, 3) := by decide +kernel
theorem dX4_gain_29 : decode cX4_gain 29 = .ok (.invokestatic 48, 3) := by decide +kernel
theorem dX4_gain_32 : decode cX4_gain 32 = .ok (.iadd, 1) := by decide +kernel
theorem dX4_gain_33 : decode cX4_gain 33 = .ok (.istore 5, 2) := by decide +kernel
theorem dX4_gain_35 : decode cX4_gain 35 = .ok (.iconst 0, 1) := by decide +kernel
theorem dX4_gain_36 : decode cX4_gain 36 = .ok (.istore 6, 2) := by decide +kernel
theorem dX4_gain_38 : decode cX4_gain 38 = .ok (.iload 6, 2) := by decide +kernel
theorem dX4_gain_40 : decode cX4_gain 40 = .ok (.aload_n 0, 1) := by decide +kernel
theorem dX4_gain_41 : decode cX4_gain 41 = .ok (.getfield 9, 3) := by decide +kernel
theorem dX4_gain_44 : decode cX4_gain 44 = .ok (.if_icmp .ge 39, 3) := by decide +kernel
theorem dX4_gain_47 : decode cX4_gain 47 = .ok (.aload_n 0, 1) := by decide +kernel
theorem dX4_gain_48 : decode cX4_gain 48 = .ok (.getfield 59, 3) := by decide +kernel
theorem dX4_gain_51 : decode cX4_gain 51 = .ok (.iload 6, 2) := by decide +kernel
theorem dX4_gain_53 : decode cX4_gain 53 = .ok (.invokestatic 35, 3) := by decide +kernel
theorem dX4_gain_56 : decode cX4_gain 56 = .ok (.iload_n 1, 1) := by decide +kernel
theorem dX4_gain_57 : decode cX4_gain 57 = .ok (.if_icmp .ne 20, 3) := by decide +kernel
theorem dX4_gain_60 : decode cX4_gain 60 = .ok (.iload 5, 2) := by decide +kernel
theorem dX4_gain_62 : decode cX4_gain 62 = .ok (.aload_n 0, 1) := by decide +kernel
theorem dX4_gain_63 : decode cX4_gain 63 = .ok (.aload_n 0, 1) := by decide +kernel
theorem dX4_gain_64 : decode cX4_gain 64 = .ok (.iload 6, 2) := by decide +kernel
theorem dX4_gain_66 : decode cX4_gain 66 = .ok (.iload_n 2, 1) := by decide +kernel
theorem dX4_gain_67 : decode cX4_gain 67 = .ok (.iload_n 3, 1) := by decide +kernel
theorem dX4_gain_68 : decode cX4_gain 68 = .ok (.invokestatic 62, 3) := by decide +kernel
theorem dX4_gain_71 : decode cX4_gain 71 = .ok (.invokestatic 48, 3) := by decide +kernel
theorem dX4_gain_74 : decode cX4_gain 74 = .ok (.iadd, 1) := by decide +kernel
theorem dX4_gain_75 : decode cX4_gain 75 = .ok (.istore 5, 2) := by decide +kernel
theorem dX4_gain_77 : decode cX4_gain 77 = .ok (.iinc 6 1, 3) := by decide +kernel
theorem dX4_gain_80 : decode cX4_gain 80 = .ok (.goto (-42), 3) := by decide +kernel
theorem dX4_gain_83 : decode cX4_gain 83 = .ok (.iload 5, 2) := by decide +kernel
theorem dX4_gain_85 : decode cX4_gain 85 = .ok (.ireturn, 1) := by decide +kernel
set_option maxRecDepth 20000 in
theorem ggX4_afterMove_X4_byGuests : GoodIn wsX4_afterMove wsX4_byGuests := goodIn_r _ [4, 5, 6, 3, 7, 8, 9, 10, 11, 12, 13, 14, 15, 16, 17, 18, 19, 20, 21, 22, 23, 24, 25, 26, 27, 28, 29, 30, 31, 32, 33, 34, 35, 36, 37, 38, 39, 40, 41, 42, 43, 44, 45, 46, 47, 51, 52, 53, 54, 55, 56, 57, 58, 59, 60, 61, 62, 63, 64] (by decide +kernel) (by decide +kernel)
set_option maxRecDepth 20000 in
theorem gX4_afterMove_X4_byGuests : GoodIn wsX4_afterMove (va_wsS RX4 66 yX4_byGuests wsX4_byGuests) := goodIn_app (goodIn_of _ (by decide +kernel)) ggX4_afterMove_X4_byGuests
set_option maxRecDepth 20000 in
theorem ggX4_afterMove_X4_gain : GoodIn wsX4_afterMove wsX4_gain := goodIn_r _ [50, 18, 15, 16, 17, 19, 20, 3, 21, 22, 23, 11, 24, 28, 29, 30, 31, 32, 33, 34, 35, 36, 37, 38, 39, 40, 41, 42, 43, 44, 45, 46, 47, 51, 52, 53, 54, 55, 56, 57, 58, 59, 60, 61, 62, 63, 64] (by decide +kernel) (by decide +kernel)
set_option maxRecDepth 20000 in
theorem gX4_afterMove_X4_gain : GoodIn wsX4_afterMove (va_wsS RX4 70 yX4_gain wsX4_gain) := goodIn_app (goodIn_of _ (by decide +kernel)) ggX4_afterMove_X4_gain
set_option maxRecDepth 20000 in
theorem ggX4_afterMove_X2_isSitting : GoodIn wsX4_afterMove wsX2_isSitting := goodIn_r _ [12, 13, 14, 15, 16, 17, 51, 52, 53, 54, 55, 56, 57, 58, 59, 60, 61, 62, 63, 64] (by decide +kernel) (by decide +kernel)
set_option maxRecDepth 20000 in
theorem gX4_afterMove_X2_isSitting : GoodIn wsX4_afterMove (wsV RX4 27 RX2 yX2_isSitting wsX2_isSitting) := goodIn_app (goodIn_of _ (by decide +kernel)) ggX4_afterMove_X2_isSitting
set_option maxRecDepth 20000 in
theorem ggX4_afterMove_X3_at : GoodIn wsX4_afterMove wsX3_at := goodIn_r _ [17] (by decide +kernel) (by decide +kernel)
set_option maxRecDepth 20000 in
theorem gX4_afterMove_X3_at : GoodIn wsX4_afterMove (va_wsS RX4 35 yX3_at wsX3_at) := goodIn_app (goodIn_of _ (by decide +kernel)) ggX4_afterMove_X3_at
theorem dX4_afterMove_0 : decode cX4_afterMove 0 = .ok (.aload_n 0, 1) := by decide +kernel
theorem dX4_afterMove_1 : decode cX4_afterMove 1 = .ok (.invokestatic 66, 3) := by decide +kernel
theorem dX4_afterMove_4 : decode cX4_afterMove 4 = .ok (.aload_n 0, 1) := by decide +kernel
theorem dX4_afterMove_5 : decode cX4_afterMove 5 = .ok (.iload_n 1, 1) := by decide +kernel
theorem dX4_afterMove_6 : decode cX4_afterMove 6 = .ok (.iload_n 2, 1) := by decide +kernel
theorem dX4_afterMove_7 : decode cX4_afterMove 7 = .ok (.iload_n 3, 1) := by decide +kernel
theorem dX4_afterMove_8 : decode cX4_afterMove 8 = .ok (.invokestatic 70, 3) := by decide +kernel
theorem dX4_afterMove_11 : decode cX4_afterMove 11 = .ok (.iadd, 1) := by decide +kernel
theorem dX4_afterMove_12 : decode cX4_afterMove 12 = .ok (.istore 4, 2) := by decide +kernel
theorem dX4_afterMove_14 : decode cX4_afterMove 14 = .ok (.aload_n 0, 1) := by decide +kernel
theorem dX4_afterMove_15 : decode cX4_afterMove 15 = .ok (.iload_n 1, 1) := by decide +kernel
theorem dX4_afterMove_16 : decode cX4_afterMove 16 = .ok (.invokevirtual 27, 3) := by decide +kernel
theorem dX4_afterMove_19 : decode cX4_afterMove 19 = .ok (.ifCond .eq 29, 3) := by decide +kernel
theorem dX4_afterMove_22 : decode cX4_afterMove 22 = .ok (.iload 4, 2) := by decide +kernel
theorem dX4_afterMove_24 : decode cX4_afterMove 24 = .ok (.aload_n 0, 1) := by decide +kernel
theorem dX4_afterMove_25 : decode cX4_afterMove 25 = .ok (.iload_n 1, 1) := by decide +kernel
theorem dX4_afterMove_26 : decode cX4_afterMove 26 = .ok (.aload_n 0, 1) := by decide +kernel
theorem dX4_afterMove_27 : decode cX4_afterMove 27 = .ok (.getfield 73, 3) := by decide +kernel
theorem dX4_afterMove_30 : decode cX4_afterMove 30 = .ok (.iload_n 1, 1) := by decide +kernel
theorem dX4_afterMove_31 : decode cX4_afterMove 31 = .ok (.invokestatic 35, 3) := by decide +kernel
theorem dX4_afterMove_34 : decode cX4_afterMove 34 = .ok (.aload_n 0, 1) := by decide +kernel
theorem dX4_afterMove_35 : decode cX4_afterMove 35 = .ok (.getfield 31, 3) := by decide +kernel
theorem dX4_afterMove_38 : decode cX4_afterMove 38 = .ok (.iload_n 1, 1) := by decide +kernel
theorem dX4_afterMove_39 : decode cX4_afterMove 39 = .ok (.invokestatic 35, 3) := by decide +kernel
theorem dX4_afterMove_42 : decode cX4_afterMove 42 = .ok (.invokestatic 70, 3) := by decide +kernel
theorem dX4_afterMove_45 : decode cX4_afterMove 45 = .ok (.isub, 1) := by decide +kernel
theorem dX4_afterMove_46 : decode cX4_afterMove 46 = .ok (.istore 4, 2) := by decide +kernel
theorem dX4_afterMove_48 : decode cX4_afterMove 48 = .ok (.iload 4, 2) := by decide +kernel
theorem dX4_afterMove_50 : decode cX4_afterMove 50 = .ok (.ireturn, 1) := by decide +kernel
set_option maxRecDepth 20000 in
theorem ggX4_ofSitting_X2_isAtLeg : GoodIn wsX4_ofSitting wsX2_isAtLeg := goodIn_r _ [4] (by decide +kernel) (by decide +kernel)
set_option maxRecDepth 20000 in
theorem gX4_ofSitting_X2_isAtLeg : GoodIn wsX4_ofSitting (va_wsS RX4 76 yX2_isAtLeg wsX2_isAtLeg) := goodIn_app (goodIn_of _ (by decide +kernel)) ggX4_ofSitting_X2_isAtLeg
set_option maxRecDepth 20000 in
theorem ggX4_ofSitting_X3_at : GoodIn wsX4_ofSitting wsX3_at := goodIn_r _ [8] (by decide +kernel) (by decide +kernel)
set_option maxRecDepth 20000 in
theorem gX4_ofSitting_X3_at : GoodIn wsX4_ofSitting (va_wsS RX4 35 yX3_at wsX3_at) := goodIn_app (goodIn_of _ (by decide +kernel)) ggX4_ofSitting_X3_at
theorem dX4_ofSitting_0 : decode cX4_ofSitting 0 = .ok (.iload_n 2, 1) := by decide +kernel
theorem dX4_ofSitting_1 : decode cX4_ofSitting 1 = .ok (.invokestatic 76, 3) := by decide +kernel
theorem dX4_ofSitting_4 : decode cX4_ofSitting 4 = .ok (.ifCond .eq 19, 3) := by decide +kernel
theorem dX4_ofSitting_7 : decode cX4_ofSitting 7 = .ok (.aload_n 0, 1) := by decide +kernel
theorem dX4_ofSitting_8 : decode cX4_ofSitting 8 = .ok (.getfield 79, 3) := by decide +kernel
theorem dX4_ofSitting_11 : decode cX4_ofSitting 11 = .ok (.iload_n 1, 1) := by decide +kernel
theorem dX4_ofSitting_12 : decode cX4_ofSitting 12 = .ok (.invokestatic 35, 3) := by decide +kernel
theorem dX4_ofSitting_15 : decode cX4_ofSitting 15 = .ok (.iconst 2, 1) := by decide +kernel
theorem dX4_ofSitting_16 : decode cX4_ofSitting 16 = .ok (.if_icmp .ne 7, 3) := by decide +kernel
theorem dX4_ofSitting_19 : decode cX4_ofSitting 19 = .ok (.iconst 1, 1) := by decide +kernel
theorem dX4_ofSitting_20 : decode cX4_ofSitting 20 = .ok (.goto 4, 3) := by decide +kernel
theorem dX4_ofSitting_23 : decode cX4_ofSitting 23 = .ok (.iconst 0, 1) := by decide +kernel
theorem dX4_ofSitting_24 : decode cX4_ofSitting 24 = .ok (.istore_n 3, 1) := by decide +kernel
theorem dX4_ofSitting_25 : decode cX4_ofSitting 25 = .ok (.iload_n 3, 1) := by decide +kernel
theorem dX4_ofSitting_26 : decode cX4_ofSitting 26 = .ok (.ifCond .eq 16, 3) := by decide +kernel
theorem dX4_ofSitting_29 : decode cX4_ofSitting 29 = .ok (.iconst 1, 1) := by decide +kernel
theorem dX4_ofSitting_30 : decode cX4_ofSitting 30 = .ok (.aload_n 0, 1) := by decide +kernel
theorem dX4_ofSitting_31 : decode cX4_ofSitting 31 = .ok (.getfield 82, 3) := by decide +kernel
theorem dX4_ofSitting_34 : decode cX4_ofSitting 34 = .ok (.iconst 3, 1) := by decide +kernel
theorem dX4_ofSitting_35 : decode cX4_ofSitting 35 = .ok (.invokestatic 35, 3) := by decide +kernel
theorem dX4_ofSitting_38 : decode cX4_ofSitting 38 = .ok (.isub, 1) := by decide +kernel
theorem dX4_ofSitting_39 : decode cX4_ofSitting 39 = .ok (.goto 4, 3) := by decide +kernel
theorem dX4_ofSitting_42 : decode cX4_ofSitting 42 = .ok (.iconst 1, 1) := by decide +kernel
theorem dX4_ofSitting_43 : decode cX4_ofSitting 43 = .ok (.ireturn, 1) := by decide +kernel
set_option maxRecDepth 20000 in
theorem ggX4_levelOfGuest_X2_isSitting : GoodIn wsX4_levelOfGuest wsX2_isSitting := goodIn_r _ [5, 6, 7, 8, 9, 10, 30, 31, 32, 33, 34, 35, 36, 37, 38, 39, 40, 41, 42, 43] (by decide +kernel) (by decide +kernel)
set_option maxRecDepth 20000 in
theorem gX4_levelOfGuest_X2_isSitting : GoodIn wsX4_levelOfGuest (wsV RX4 27 RX2 yX2_isSitting wsX2_isSitting) := goodIn_app (goodIn_of _ (by decide +kernel)) ggX4_levelOfGuest_X2_isSitting
set_option maxRecDepth 20000 in
theorem ggX4_levelOfGuest_X3_at : GoodIn wsX4_levelOfGuest wsX3_at := goodIn_r _ [10] (by decide +kernel) (by decide +kernel)
set_option maxRecDepth 20000 in
theorem gX4_levelOfGuest_X3_at : GoodIn wsX4_levelOfGuest (va_wsS RX4 35 yX3_at wsX3_at) := goodIn_app (goodIn_of _ (by decide +kernel)) ggX4_levelOfGuest_X3_at
set_option maxRecDepth 20000 in
theorem ggX4_levelOfGuest_X4_levelBetween : GoodIn wsX4_levelOfGuest wsX4_levelBetween := goodIn_r _ [15, 16, 17, 18, 19, 20, 21, 22, 4, 23, 24, 11, 8, 9, 10, 25, 26, 27, 28, 29, 30, 31, 32, 33, 34, 35, 36, 37, 38, 39, 40, 41, 42, 43] (by decide +kernel) (by decide +kernel)
set_option maxRecDepth 20000 in
theorem gX4_levelOfGuest_X4_levelBetween : GoodIn wsX4_levelOfGuest (va_wsS RX4 62 yX4_levelBetween wsX4_levelBetween) := goodIn_app (goodIn_of _ (by decide +kernel)) ggX4_levelOfGuest_X4_levelBetween
theorem dX4_levelOfGuest_0 : decode cX4_levelOfGuest 0 = .ok (.aload_n 0, 1) := by decide +kernel
theorem dX4_levelOfGuest_1 : decode cX4_levelOfGuest 1 = .ok (.iload_n 1, 1) := by decide +kernel
theorem dX4_levelOfGuest_2 : decode cX4_levelOfGuest 2 = .ok (.invokevirtual 27, 3) := by decide +kernel
theorem dX4_levelOfGuest_5 : decode cX4_levelOfGuest 5 = .ok (.ifCond .ne 5, 3) := by decide +kernel
theorem dX4_levelOfGuest_8 : decode cX4_levelOfGuest 8 = .ok (.iconst 0, 1) := by decide +kernel
theorem dX4_levelOfGuest_9 : decode cX4_levelOfGuest 9 = .ok (.ireturn, 1) := by decide +kernel
theorem dX4_levelOfGuest_10 : decode cX4_levelOfGuest 10 = .ok (.aload_n 0, 1) := by decide +kernel
theorem dX4_levelOfGuest_11 : decode cX4_levelOfGuest 11 = .ok (.getfield 59, 3) := by decide +kernel
theorem dX4_levelOfGuest_14 : decode cX4_levelOfGuest 14 = .ok (.iload_n 1, 1) := by decide +kernel
theorem dX4_levelOfGuest_15 : decode cX4_levelOfGuest 15 = .ok (.invokestatic 35, 3) := by decide +kernel
theorem dX4_levelOfGuest_18 : decode cX4_levelOfGuest 18 = .ok (.istore_n 2, 1) := by decide +kernel
theorem dX4_levelOfGuest_19 : decode cX4_levelOfGuest 19 = .ok (.aload_n 0, 1) := by decide +kernel
theorem dX4_levelOfGuest_20 : decode cX4_levelOfGuest 20 = .ok (.iload_n 2, 1) := by decide +kernel
theorem dX4_levelOfGuest_21 : decode cX4_levelOfGuest 21 = .ok (.aload_n 0, 1) := by decide +kernel
theorem dX4_levelOfGuest_22 : decode cX4_levelOfGuest 22 = .ok (.getfield 73, 3) := by decide +kernel
theorem dX4_levelOfGuest_25 : decode cX4_levelOfGuest 25 = .ok (.iload_n 1, 1) := by decide +kernel
theorem dX4_levelOfGuest_26 : decode cX4_levelOfGuest 26 = .ok (.invokestatic 35, 3) := by decide +kernel
theorem dX4_levelOfGuest_29 : decode cX4_levelOfGuest 29 = .ok (.aload_n 0, 1) := by decide +kernel
theorem dX4_levelOfGuest_30 : decode cX4_levelOfGuest 30 = .ok (.getfield 31, 3) := by decide +kernel
theorem dX4_levelOfGuest_33 : decode cX4_levelOfGuest 33 = .ok (.iload_n 1, 1) := by decide +kernel
theorem dX4_levelOfGuest_34 : decode cX4_levelOfGuest 34 = .ok (.invokestatic 35, 3) := by decide +kernel
theorem dX4_levelOfGuest_37 : decode cX4_levelOfGuest 37 = .ok (.invokestatic 62, 3) := by decide +kernel
theorem dX4_levelOfGuest_40 : decode cX4_levelOfGuest 40 = .ok (.ireturn, 1) := by decide +kernel
set_option maxRecDepth 20000 in
theorem ggX4_levelBetween_X2_isGuest : GoodIn wsX4_levelBetween wsX2_isGuest := goodIn_r _ [9, 10, 20, 21, 22, 23, 24, 25, 26, 27, 28, 29, 30, 31, 32, 33] (by decide +kernel) (by decide +kernel)
set_option maxRecDepth 20000 in
theorem gX4_levelBetween_X2_isGuest : GoodIn wsX4_levelBetween (wsV RX4 85 RX2 yX2_isGuest wsX2_isGuest) := goodIn_app (goodIn_of _ (by decide +kernel)) ggX4_levelBetween_X2_isGuest
set_option maxRecDepth 20000 in
theorem ggX4_levelBetween_X3_at : GoodIn wsX4_levelBetween wsX3_at := goodIn_r _ [14] (by decide +kernel) (by decide +kernel)
set_option maxRecDepth 20000 in
theorem gX4_levelBetween_X3_at : GoodIn wsX4_levelBetween (va_wsS RX4 35 yX3_at wsX3_at) := goodIn_app (goodIn_of _ (by decide +kernel)) ggX4_levelBetween_X3_at
set_option maxRecDepth 20000 in
theorem ggX4_levelBetween_X2_seatsAt : GoodIn wsX4_levelBetween wsX2_seatsAt := goodIn_r _ [18, 19, 20, 21, 22, 23, 24, 25, 26, 27, 28, 29, 30, 31, 32, 33] (by decide +kernel) (by decide +kernel)
set_option maxRecDepth 20000 in
theorem gX4_levelBetween_X2_seatsAt : GoodIn wsX4_levelBetween (wsV RX4 51 RX2 yX2_seatsAt wsX2_seatsAt) := goodIn_app (goodIn_of _ (by decide +kernel)) ggX4_levelBetween_X2_seatsAt
theorem dX4_levelBetween_0 : decode cX4_levelBetween 0 = .ok (.aload_n 0, 1) := by decide +kernel
theorem dX4_levelBetween_1 : decode cX4_levelBetween 1 = .ok (.iload_n 1, 1) := by decide +kernel
theorem dX4_levelBetween_2 : decode cX4_levelBetween 2 = .ok (.invokevirtual 85, 3) := by decide +kernel
theorem dX4_levelBetween_5 : decode cX4_levelBetween 5 = .ok (.ifCond .eq 15, 3) := by decide +kernel
theorem dX4_levelBetween_8 : decode cX4_levelBetween 8 = .ok (.aload_n 0, 1) := by decide +kernel
theorem dX4_levelBetween_9 : decode cX4_levelBetween 9 = .ok (.getfield 73, 3) := by decide +kernel
theorem dX4_levelBetween_12 : decode cX4_levelBetween 12 = .ok (.iload_n 1, 1) := by decide +kernel
theorem dX4_levelBetween_13 : decode cX4_levelBetween 13 = .ok (.invokestatic 35, 3) := by decide +kernel
theorem dX4_levelBetween_16 : decode cX4_levelBetween 16 = .ok (.iload_n 2, 1) := by decide +kernel
theorem dX4_levelBetween_17 : decode cX4_levelBetween 17 = .ok (.if_icmp .eq 5, 3) := by decide +kernel
theorem dX4_levelBetween_20 : decode cX4_levelBetween 20 = .ok (.iconst 0, 1) := by decide +kernel
theorem dX4_levelBetween_21 : decode cX4_levelBetween 21 = .ok (.ireturn, 1) := by decide +kernel
theorem dX4_levelBetween_22 : decode cX4_levelBetween 22 = .ok (.aload_n 0, 1) := by decide +kernel
theorem dX4_levelBetween_23 : decode cX4_levelBetween 23 = .ok (.getfield 31, 3) := by decide +kernel
theorem dX4_levelBetween_26 : decode cX4_levelBetween 26 = .ok (.iload_n 1, 1) := by decide +kernel
theorem dX4_levelBetween_27 : decode cX4_levelBetween 27 = .ok (.invokestatic 35, 3) := by decide +kernel
theorem dX4_levelBetween_30 : decode cX4_levelBetween 30 = .ok (.iload_n 3, 1) := by decide +kernel
theorem dX4_levelBetween_31 : decode cX4_levelBetween 31 = .ok (.isub, 1) := by decide +kernel
theorem dX4_levelBetween_32 : decode cX4_levelBetween 32 = .ok (.invokestatic 88, 3) := by decide +kernel
theorem dX4_levelBetween_35 : decode cX4_levelBetween 35 = .ok (.istore 4, 2) := by decide +kernel
theorem dX4_levelBetween_37 : decode cX4_levelBetween 37 = .ok (.iload 4, 2) := by decide +kernel
theorem dX4_levelBetween_39 : decode cX4_levelBetween 39 = .ok (.iconst 1, 1) := by decide +kernel
theorem dX4_levelBetween_40 : decode cX4_levelBetween 40 = .ok (.if_icmp .eq 15, 3) := by decide +kernel
theorem dX4_levelBetween_43 : decode cX4_levelBetween 43 = .ok (.iload 4, 2) := by decide +kernel
theorem dX4_levelBetween_45 : decode cX4_levelBetween 45 = .ok (.aload_n 0, 1) := by decide +kernel
theorem dX4_levelBetween_46 : decode cX4_levelBetween 46 = .ok (.iload_n 2, 1) := by decide +kernel
theorem dX4_levelBetween_47 : decode cX4_levelBetween 47 = .ok (.invokevirtual 51, 3) := by decide +kernel
theorem dX4_levelBetween_50 : decode cX4_levelBetween 50 = .ok (.iconst 1, 1) := by decide +kernel
theorem dX4_levelBetween_51 : decode cX4_levelBetween 51 = .ok (.isub, 1) := by decide +kernel
theorem dX4_levelBetween_52 : decode cX4_levelBetween 52 = .ok (.if_icmp .ne 7, 3) := by decide +kernel
theorem dX4_levelBetween_55 : decode cX4_levelBetween 55 = .ok (.iconst 2, 1) := by decide +kernel
theorem dX4_levelBetween_56 : decode cX4_levelBetween 56 = .ok (.goto 4, 3) := by decide +kernel
theorem dX4_levelBetween_59 : decode cX4_levelBetween 59 = .ok (.iconst 1, 1) := by decide +kernel
theorem dX4_levelBetween_60 : decode cX4_levelBetween 60 = .ok (.ireturn, 1) := by decide +kernel
set_option maxRecDepth 20000 in
theorem ggX4_ofLevel_X3_at : GoodIn wsX4_ofLevel wsX3_at := goodIn_r _ [4] (by decide +kernel) (by decide +kernel)
set_option maxRecDepth 20000 in
theorem gX4_ofLevel_X3_at : GoodIn wsX4_ofLevel (va_wsS RX4 35 yX3_at wsX3_at) := goodIn_app (goodIn_of _ (by decide +kernel)) ggX4_ofLevel_X3_at
theorem dX4_ofLevel_0 : decode cX4_ofLevel 0 = .ok (.iconst 0, 1) := by decide +kernel
theorem dX4_ofLevel_1 : decode cX4_ofLevel 1 = .ok (.istore_n 2, 1) := by decide +kernel
theorem dX4_ofLevel_2 : decode cX4_ofLevel 2 = .ok (.iload_n 1, 1) := by decide +kernel
theorem dX4_ofLevel_3 : decode cX4_ofLevel 3 = .ok (.iconst 1, 1) := by decide +kernel
theorem dX4_ofLevel_4 : decode cX4_ofLevel 4 = .ok (.if_icmp .lt 14, 3) := by decide +kernel
theorem dX4_ofLevel_7 : decode cX4_ofLevel 7 = .ok (.iload_n 2, 1) := by decide +kernel
theorem dX4_ofLevel_8 : decode cX4_ofLevel 8 = .ok (.aload_n 0, 1) := by decide +kernel
theorem dX4_ofLevel_9 : decode cX4_ofLevel 9 = .ok (.getfield 82, 3) := by decide +kernel
theorem dX4_ofLevel_12 : decode cX4_ofLevel 12 = .ok (.iconst 1, 1) := by decide +kernel
theorem dX4_ofLevel_13 : decode cX4_ofLevel 13 = .ok (.invokestatic 35, 3) := by decide +kernel
theorem dX4_ofLevel_16 : decode cX4_ofLevel 16 = .ok (.iadd, 1) := by decide +kernel
theorem dX4_ofLevel_17 : decode cX4_ofLevel 17 = .ok (.istore_n 2, 1) := by decide +kernel
theorem dX4_ofLevel_18 : decode cX4_ofLevel 18 = .ok (.iload_n 1, 1) := by decide +kernel
theorem dX4_ofLevel_19 : decode cX4_ofLevel 19 = .ok (.iconst 2, 1) := by decide +kernel
theorem dX4_ofLevel_20 : decode cX4_ofLevel 20 = .ok (.if_icmp .lt 14, 3) := by decide +kernel
theorem dX4_ofLevel_23 : decode cX4_ofLevel 23 = .ok (.iload_n 2, 1) := by decide +kernel
theorem dX4_ofLevel_24 : decode cX4_ofLevel 24 = .ok (.aload_n 0, 1) := by decide +kernel
theorem dX4_ofLevel_25 : decode cX4_ofLevel 25 = .ok (.getfield 82, 3) := by decide +kernel
theorem dX4_ofLevel_28 : decode cX4_ofLevel 28 = .ok (.iconst 2, 1) := by decide +kernel
theorem dX4_ofLevel_29 : decode cX4_ofLevel 29 = .ok (.invokestatic 35, 3) := by decide +kernel
theorem dX4_ofLevel_32 : decode cX4_ofLevel 32 = .ok (.iadd, 1) := by decide +kernel
theorem dX4_ofLevel_33 : decode cX4_ofLevel 33 = .ok (.istore_n 2, 1) := by decide +kernel
theorem dX4_ofLevel_34 : decode cX4_ofLevel 34 = .ok (.iload_n 2, 1) := by decide +kernel
theorem dX4_ofLevel_35 : decode cX4_ofLevel 35 = .ok (.ireturn, 1) := by decide +kernel
set_option maxRecDepth 20000 in
theorem ggX4_wishesMet_X4_levelOfGuest : GoodIn wsX4_wishesMet wsX4_levelOfGuest := goodIn_r _ [4, 5, 6, 7, 8, 9, 10, 11, 12, 13, 14, 15, 16, 17, 3, 18, 19, 20, 21, 22, 23, 24, 25, 26, 27, 28, 29, 30, 31, 32, 33, 34, 35, 36, 37, 38, 39, 40, 41, 42, 43, 44, 45, 46] (by decide +kernel) (by decide +kernel)
set_option maxRecDepth 20000 in
theorem gX4_wishesMet_X4_levelOfGuest : GoodIn wsX4_wishesMet (va_wsS RX4 45 yX4_levelOfGuest wsX4_levelOfGuest) := goodIn_app (goodIn_of _ (by decide +kernel)) ggX4_wishesMet_X4_levelOfGuest
theorem dX4_wishesMet_0 : decode cX4_wishesMet 0 = .ok (.iconst 0, 1) := by decide +kernel
theorem dX4_wishesMet_1 : decode cX4_wishesMet 1 = .ok (.istore_n 1, 1) := by decide +kernel
theorem dX4_wishesMet_2 : decode cX4_wishesMet 2 = .ok (.iconst 0, 1) := by decide +kernel
theorem dX4_wishesMet_3 : decode cX4_wishesMet 3 = .ok (.istore_n 2, 1) := by decide +kernel
theorem dX4_wishesMet_4 : decode cX4_wishesMet 4 = .ok (.iload_n 2, 1) := by decide +kernel
theorem dX4_wishesMet_5 : decode cX4_wishesMet 5 = .ok (.aload_n 0, 1) := by decide +kernel
theorem dX4_wishesMet_6 : decode cX4_wishesMet 6 = .ok (.getfield 9, 3) := by decide +kernel
theorem dX4_wishesMet_9 : decode cX4_wishesMet 9 = .ok (.if_icmp .ge 20, 3) := by decide +kernel
theorem dX4_wishesMet_12 : decode cX4_wishesMet 12 = .ok (.aload_n 0, 1) := by decide +kernel
theorem dX4_wishesMet_13 : decode cX4_wishesMet 13 = .ok (.iload_n 2, 1) := by decide +kernel
theorem dX4_wishesMet_14 : decode cX4_wishesMet 14 = .ok (.invokestatic 45, 3) := by decide +kernel
theorem dX4_wishesMet_17 : decode cX4_wishesMet 17 = .ok (.ifCond .le 6, 3) := by decide +kernel
theorem dX4_wishesMet_20 : decode cX4_wishesMet 20 = .ok (.iinc 1 1, 3) := by decide +kernel
theorem dX4_wishesMet_23 : decode cX4_wishesMet 23 = .ok (.iinc 2 1, 3) := by decide +kernel
theorem dX4_wishesMet_26 : decode cX4_wishesMet 26 = .ok (.goto (-22), 3) := by decide +kernel
theorem dX4_wishesMet_29 : decode cX4_wishesMet 29 = .ok (.iload_n 1, 1) := by decide +kernel
theorem dX4_wishesMet_30 : decode cX4_wishesMet 30 = .ok (.ireturn, 1) := by decide +kernel
set_option maxRecDepth 20000 in
theorem ggX4_shareMet_X3_at : GoodIn wsX4_shareMet wsX3_at := goodIn_r _ [4] (by decide +kernel) (by decide +kernel)
set_option maxRecDepth 20000 in
theorem gX4_shareMet_X3_at : GoodIn wsX4_shareMet (va_wsS RX4 35 yX3_at wsX3_at) := goodIn_app (goodIn_of _ (by decide +kernel)) ggX4_shareMet_X3_at
set_option maxRecDepth 20000 in
theorem ggX4_shareMet_X4_wishesMet : GoodIn wsX4_shareMet wsX4_wishesMet := goodIn_r _ [8, 9, 10, 7, 11, 12, 13, 14, 15, 16, 17, 18, 2, 3, 4, 1, 19, 20, 21, 22, 23, 24, 25, 26, 27, 28, 29, 30, 31, 32, 33, 34, 35, 36, 37, 38, 39, 40, 41, 42, 43, 44, 45, 46, 47, 48, 49] (by decide +kernel) (by decide +kernel)
set_option maxRecDepth 20000 in
theorem gX4_shareMet_X4_wishesMet : GoodIn wsX4_shareMet (va_wsS RX4 93 yX4_wishesMet wsX4_wishesMet) := goodIn_app (goodIn_of _ (by decide +kernel)) ggX4_shareMet_X4_wishesMet
theorem dX4_shareMet_0 : decode cX4_shareMet 0 = .ok (.iconst 0, 1) := by decide +kernel
theorem dX4_shareMet_1 : decode cX4_shareMet 1 = .ok (.istore_n 1, 1) := by decide +kernel
theorem dX4_shareMet_2 : decode cX4_shareMet 2 = .ok (.iconst 0, 1) := by decide +kernel
theorem dX4_shareMet_3 : decode cX4_shareMet 3 = .ok (.istore_n 2, 1) := by decide +kernel
theorem dX4_shareMet_4 : decode cX4_shareMet 4 = .ok (.iload_n 2, 1) := by decide +kernel
theorem dX4_shareMet_5 : decode cX4_shareMet 5 = .ok (.aload_n 0, 1) := by decide +kernel
theorem dX4_shareMet_6 : decode cX4_shareMet 6 = .ok (.getfield 9, 3) := by decide +kernel
theorem dX4_shareMet_9 : decode cX4_shareMet 9 = .ok (.if_icmp .ge 24, 3) := by decide +kernel
theorem dX4_shareMet_12 : decode cX4_shareMet 12 = .ok (.aload_n 0, 1) := by decide +kernel
theorem dX4_shareMet_13 : decode cX4_shareMet 13 = .ok (.getfield 59, 3) := by decide +kernel
theorem dX4_shareMet_16 : decode cX4_shareMet 16 = .ok (.iload_n 2, 1) := by decide +kernel
theorem dX4_shareMet_17 : decode cX4_shareMet 17 = .ok (.invokestatic 35, 3) := by decide +kernel
theorem dX4_shareMet_20 : decode cX4_shareMet 20 = .ok (.iconst (-1), 1) := by decide +kernel
theorem dX4_shareMet_21 : decode cX4_shareMet 21 = .ok (.if_icmp .eq 6, 3) := by decide +kernel
theorem dX4_shareMet_24 : decode cX4_shareMet 24 = .ok (.iinc 1 1, 3) := by decide +kernel
theorem dX4_shareMet_27 : decode cX4_shareMet 27 = .ok (.iinc 2 1, 3) := by decide +kernel
theorem dX4_shareMet_30 : decode cX4_shareMet 30 = .ok (.goto (-26), 3) := by decide +kernel
theorem dX4_shareMet_33 : decode cX4_shareMet 33 = .ok (.iload_n 1, 1) := by decide +kernel
theorem dX4_shareMet_34 : decode cX4_shareMet 34 = .ok (.ifCond .ne 7, 3) := by decide +kernel
theorem dX4_shareMet_37 : decode cX4_shareMet 37 = .ok (.dconst 1, 1) := by decide +kernel
theorem dX4_shareMet_38 : decode cX4_shareMet 38 = .ok (.goto 11, 3) := by decide +kernel
theorem dX4_shareMet_41 : decode cX4_shareMet 41 = .ok (.aload_n 0, 1) := by decide +kernel
theorem dX4_shareMet_42 : decode cX4_shareMet 42 = .ok (.invokestatic 93, 3) := by decide +kernel
theorem dX4_shareMet_45 : decode cX4_shareMet 45 = .ok (.i2d, 1) := by decide +kernel
theorem dX4_shareMet_46 : decode cX4_shareMet 46 = .ok (.iload_n 1, 1) := by decide +kernel
theorem dX4_shareMet_47 : decode cX4_shareMet 47 = .ok (.i2d, 1) := by decide +kernel
theorem dX4_shareMet_48 : decode cX4_shareMet 48 = .ok (.ddiv, 1) := by decide +kernel
theorem dX4_shareMet_49 : decode cX4_shareMet 49 = .ok (.dreturn, 1) := by decide +kernel
set_option maxRecDepth 20000 in
theorem ggX5_init_X1_init : GoodIn wsX5_init wsX1_init := goodIn_r _ [10, 11, 2, 3, 12, 13, 14, 15, 16, 17, 18, 19, 20] (by decide +kernel) (by decide +kernel)
set_option maxRecDepth 20000 in
theorem gX5_init_X1_init : GoodIn wsX5_init (wsX1_init) := ggX5_init_X1_init
theorem dX5_init_0 : decode cX5_init 0 = .ok (.aload_n 0, 1) := by decide +kernel
theorem dX5_init_1 : decode cX5_init 1 = .ok (.invokespecial 3, 3) := by decide +kernel
theorem dX5_init_4 : decode cX5_init 4 = .ok (.aload_n 0, 1) := by decide +kernel
theorem dX5_init_5 : decode cX5_init 5 = .ok (.new 9, 3) := by decide +kernel
theorem dX5_init_8 : decode cX5_init 8 = .ok (.dup, 1) := by decide +kernel
theorem dX5_init_9 : decode cX5_init 9 = .ok (.bipush 60, 2) := by decide +kernel
theorem dX5_init_11 : decode cX5_init 11 = .ok (.invokespecial 11, 3) := by decide +kernel
theorem dX5_init_14 : decode cX5_init 14 = .ok (.putfield 14, 3) := by decide +kernel
theorem dX5_init_17 : decode cX5_init 17 = .ok (.return_, 1) := by decide +kernel
set_option maxRecDepth 20000 in
theorem ggX5_firstBroken_X1_length : GoodIn wsX5_firstBroken wsX1_length := goodIn_r _ [6, 7, 27, 28] (by decide +kernel) (by decide +kernel)
set_option maxRecDepth 20000 in
theorem gX5_firstBroken_X1_length : GoodIn wsX5_firstBroken (wsV RX5 20 RX1 yX1_length wsX1_length) := goodIn_app (goodIn_of _ (by decide +kernel)) ggX5_firstBroken_X1_length
set_option maxRecDepth 20000 in
theorem ggX5_firstBroken_X1_itemAt : GoodIn wsX5_firstBroken wsX1_itemAt := goodIn_r _ [11, 7, 12, 27, 28] (by decide +kernel) (by decide +kernel)
set_option maxRecDepth 20000 in
theorem gX5_firstBroken_X1_itemAt : GoodIn wsX5_firstBroken (wsV RX5 24 RX1 yX1_itemAt wsX1_itemAt) := goodIn_app (goodIn_of _ (by decide +kernel)) ggX5_firstBroken_X1_itemAt
set_option maxRecDepth 20000 in
theorem ggX5_firstBroken_X5_next : GoodIn wsX5_firstBroken wsX5_next := goodIn_r _ [16, 17, 18, 15, 19, 20, 21, 22, 23, 24, 25] (by decide +kernel) (by decide +kernel)
set_option maxRecDepth 20000 in
theorem gX5_firstBroken_X5_next : GoodIn wsX5_firstBroken (va_wsS RX5 28 yX5_next wsX5_next) := goodIn_app (goodIn_of _ (by decide +kernel)) ggX5_firstBroken_X5_next
theorem dX5_firstBroken_0 : decode cX5_firstBroken 0 = .ok (.iconst 0, 1) := by decide +kernel
theorem dX5_firstBroken_1 : decode cX5_firstBroken 1 = .ok (.istore_n 1, 1) := by decide +kernel
theorem dX5_firstBroken_2 : decode cX5_firstBroken 2 = .ok (.iconst 0, 1) := by decide +kernel
theorem dX5_firstBroken_3 : decode cX5_firstBroken 3 = .ok (.istore_n 2, 1) := by decide +kernel
theorem dX5_firstBroken_4 : decode cX5_firstBroken 4 = .ok (.iload_n 2, 1) := by decide +kernel
theorem dX5_firstBroken_5 : decode cX5_firstBroken 5 = .ok (.aload_n 0, 1) := by decide +kernel
theorem dX5_firstBroken_6 : decode cX5_firstBroken 6 = .ok (.getfield 14, 3) := by decide +kernel
theorem dX5_firstBroken_9 : decode cX5_firstBroken 9 = .ok (.invokevirtual 20, 3) := by decide +kernel
theorem dX5_firstBroken_12 : decode cX5_firstBroken 12 = .ok (.if_icmp .ge 29, 3) := by decide +kernel
theorem dX5_firstBroken_15 : decode cX5_firstBroken 15 = .ok (.iload_n 1, 1) := by decide +kernel
theorem dX5_firstBroken_16 : decode cX5_firstBroken 16 = .ok (.aload_n 0, 1) := by decide +kernel
theorem dX5_firstBroken_17 : decode cX5_firstBroken 17 = .ok (.getfield 14, 3) := by decide +kernel
theorem dX5_firstBroken_20 : decode cX5_firstBroken 20 = .ok (.iload_n 2, 1) := by decide +kernel
theorem dX5_firstBroken_21 : decode cX5_firstBroken 21 = .ok (.invokevirtual 24, 3) := by decide +kernel
theorem dX5_firstBroken_24 : decode cX5_firstBroken 24 = .ok (.invokestatic 28, 3) := by decide +kernel
theorem dX5_firstBroken_27 : decode cX5_firstBroken 27 = .ok (.istore_n 1, 1) := by decide +kernel
theorem dX5_firstBroken_28 : decode cX5_firstBroken 28 = .ok (.iload_n 1, 1) := by decide +kernel
theorem dX5_firstBroken_29 : decode cX5_firstBroken 29 = .ok (.iconst (-1), 1) := by decide +kernel
theorem dX5_firstBroken_30 : decode cX5_firstBroken 30 = .ok (.if_icmp .ne 5, 3) := by decide +kernel
theorem dX5_firstBroken_33 : decode cX5_firstBroken 33 = .ok (.iload_n 2, 1) := by decide +kernel
theorem dX5_firstBroken_34 : decode cX5_firstBroken 34 = .ok (.ireturn, 1) := by decide +kernel
theorem dX5_firstBroken_35 : decode cX5_firstBroken 35 = .ok (.iinc 2 1, 3) := by decide +kernel
theorem dX5_firstBroken_38 : decode cX5_firstBroken 38 = .ok (.goto (-34), 3) := by decide +kernel
theorem dX5_firstBroken_41 : decode cX5_firstBroken 41 = .ok (.aload_n 0, 1) := by decide +kernel
theorem dX5_firstBroken_42 : decode cX5_firstBroken 42 = .ok (.getfield 14, 3) := by decide +kernel
theorem dX5_firstBroken_45 : decode cX5_firstBroken 45 = .ok (.invokevirtual 20, 3) := by decide +kernel
theorem dX5_firstBroken_48 : decode cX5_firstBroken 48 = .ok (.ireturn, 1) := by decide +kernel
set_option maxRecDepth 20000 in
theorem ggX5_isComplete_X1_length : GoodIn wsX5_isComplete wsX1_length := goodIn_r _ [6, 7, 27, 28] (by decide +kernel) (by decide +kernel)
set_option maxRecDepth 20000 in
theorem gX5_isComplete_X1_length : GoodIn wsX5_isComplete (wsV RX5 20 RX1 yX1_length wsX1_length) := goodIn_app (goodIn_of _ (by decide +kernel)) ggX5_isComplete_X1_length
set_option maxRecDepth 20000 in
theorem ggX5_isComplete_X1_itemAt : GoodIn wsX5_isComplete wsX1_itemAt := goodIn_r _ [11, 7, 12, 27, 28] (by decide +kernel) (by decide +kernel)
set_option maxRecDepth 20000 in
theorem gX5_isComplete_X1_itemAt : GoodIn wsX5_isComplete (wsV RX5 24 RX1 yX1_itemAt wsX1_itemAt) := goodIn_app (goodIn_of _ (by decide +kernel)) ggX5_isComplete_X1_itemAt
set_option maxRecDepth 20000 in
theorem ggX5_isComplete_X5_next : GoodIn wsX5_isComplete wsX5_next := goodIn_r _ [16, 17, 18, 15, 19, 20, 21, 22, 23, 24, 25] (by decide +kernel) (by decide +kernel)
set_option maxRecDepth 20000 in
theorem gX5_isComplete_X5_next : GoodIn wsX5_isComplete (va_wsS RX5 28 yX5_next wsX5_next) := goodIn_app (goodIn_of _ (by decide +kernel)) ggX5_isComplete_X5_next
theorem dX5_isComplete_0 : decode cX5_isComplete 0 = .ok (.iconst 0, 1) := by decide +kernel
theorem dX5_isComplete_1 : decode cX5_isComplete 1 = .ok (.istore_n 1, 1) := by decide +kernel
theorem dX5_isComplete_2 : decode cX5_isComplete 2 = .ok (.iconst 0, 1) := by decide +kernel
theorem dX5_isComplete_3 : decode cX5_isComplete 3 = .ok (.istore_n 2, 1) := by decide +kernel
theorem dX5_isComplete_4 : decode cX5_isComplete 4 = .ok (.iload_n 2, 1) := by decide +kernel
theorem dX5_isComplete_5 : decode cX5_isComplete 5 = .ok (.aload_n 0, 1) := by decide +kernel
theorem dX5_isComplete_6 : decode cX5_isComplete 6 = .ok (.getfield 14, 3) := by decide +kernel
theorem dX5_isComplete_9 : decode cX5_isComplete 9 = .ok (.invokevirtual 20, 3) := by decide +kernel
theorem dX5_isComplete_12 : decode cX5_isComplete 12 = .ok (.if_icmp .ge 22, 3) := by decide +kernel
theorem dX5_isComplete_15 : decode cX5_isComplete 15 = .ok (.iload_n 1, 1) := by decide +kernel
theorem dX5_isComplete_16 : decode cX5_isComplete 16 = .ok (.aload_n 0, 1) := by decide +kernel
theorem dX5_isComplete_17 : decode cX5_isComplete 17 = .ok (.getfield 14, 3) := by decide +kernel
theorem dX5_isComplete_20 : decode cX5_isComplete 20 = .ok (.iload_n 2, 1) := by decide +kernel
theorem dX5_isComplete_21 : decode cX5_isComplete 21 = .ok (.invokevirtual 24, 3) := by decide +kernel
theorem dX5_isComplete_24 : decode cX5_isComplete 24 = .ok (.invokestatic 28, 3) := by decide +kernel
theorem dX5_isComplete_27 : decode cX5_isComplete 27 = .ok (.istore_n 1, 1) := by decide +kernel
theorem dX5_isComplete_28 : decode cX5_isComplete 28 = .ok (.iinc 2 1, 3) := by decide +kernel
theorem dX5_isComplete_31 : decode cX5_isComplete 31 = .ok (.goto (-27), 3) := by decide +kernel
theorem dX5_isComplete_34 : decode cX5_isComplete 34 = .ok (.iload_n 1, 1) := by decide +kernel
theorem dX5_isComplete_35 : decode cX5_isComplete 35 = .ok (.iconst 5, 1) := by decide +kernel
theorem dX5_isComplete_36 : decode cX5_isComplete 36 = .ok (.if_icmp .eq 15, 3) := by decide +kernel
theorem dX5_isComplete_39 : decode cX5_isComplete 39 = .ok (.iload_n 1, 1) := by decide +kernel
theorem dX5_isComplete_40 : decode cX5_isComplete 40 = .ok (.bipush 7, 2) := by decide +kernel
theorem dX5_isComplete_42 : decode cX5_isComplete 42 = .ok (.if_icmp .eq 9, 3) := by decide +kernel
theorem dX5_isComplete_45 : decode cX5_isComplete 45 = .ok (.iload_n 1, 1) := by decide +kernel
theorem dX5_isComplete_46 : decode cX5_isComplete 46 = .ok (.bipush 8, 2) := by decide +kernel
theorem dX5_isComplete_48 : decode cX5_isComplete 48 = .ok (.if_icmp .ne 7, 3) := by decide +kernel
theorem dX5_isComplete_51 : decode cX5_isComplete 51 = .ok (.iconst 1, 1) := by decide +kernel
theorem dX5_isComplete_52 : decode cX5_isComplete 52 = .ok (.goto 4, 3) := by decide +kernel
theorem dX5_isComplete_55 : decode cX5_isComplete 55 = .ok (.iconst 0, 1) := by decide +kernel
theorem dX5_isComplete_56 : decode cX5_isComplete 56 = .ok (.ireturn, 1) := by decide +kernel
set_option maxRecDepth 20000 in
theorem ggX5_next_X5_firstDigit : GoodIn wsX5_next wsX5_firstDigit := goodIn_r _ [4, 5, 6, 3, 7] (by decide +kernel) (by decide +kernel)
set_option maxRecDepth 20000 in
theorem gX5_next_X5_firstDigit : GoodIn wsX5_next (va_wsS RX5 32 yX5_firstDigit wsX5_firstDigit) := goodIn_app (goodIn_of _ (by decide +kernel)) ggX5_next_X5_firstDigit
set_option maxRecDepth 20000 in
theorem ggX5_next_X5_isIn : GoodIn wsX5_next wsX5_isIn := goodIn_r _ [7] (by decide +kernel) (by decide +kernel)
set_option maxRecDepth 20000 in
theorem gX5_next_X5_isIn : GoodIn wsX5_next (va_wsS RX5 36 yX5_isIn wsX5_isIn) := goodIn_app (goodIn_of _ (by decide +kernel)) ggX5_next_X5_isIn
set_option maxRecDepth 20000 in
theorem ggX5_next_X5_only : GoodIn wsX5_next wsX5_only := goodIn_r _ [10] (by decide +kernel) (by decide +kernel)
set_option maxRecDepth 20000 in
theorem gX5_next_X5_only : GoodIn wsX5_next (va_wsS RX5 40 yX5_only wsX5_only) := goodIn_app (goodIn_of _ (by decide +kernel)) ggX5_next_X5_only
theorem dX5_next_0 : decode cX5_next 0 = .ok (.iload_n 0, 1) := by decide +kernel
theorem dX5_next_1 : decode cX5_next 1 = .ok (.tableswitch 175 0 8 #[51, 69, 92, 100, 117, 167, 134, 143, 167], 51) := by decide +kernel
theorem dX5_next_52 : decode cX5_next 52 = .ok (.iload_n 1, 1) := by decide +kernel
theorem dX5_next_53 : decode cX5_next 53 = .ok (.bipush 45, 2) := by decide +kernel
theorem dX5_next_55 : decode cX5_next 55 = .ok (.if_icmp .ne 8, 3) := by decide +kernel
theorem dX5_next_58 : decode cX5_next 58 = .ok (.bipush 6, 2) := by decide +kernel
theorem dX5_next_60 : decode cX5_next 60 = .ok (.goto 9, 3) := by decide +kernel
theorem dX5_next_63 : decode cX5_next 63 = .ok (.iload_n 1, 1) := by decide +kernel
theorem dX5_next_64 : decode cX5_next 64 = .ok (.iconst 1, 1) := by decide +kernel
theorem dX5_next_65 : decode cX5_next 65 = .ok (.iconst 2, 1) := by decide +kernel
theorem dX5_next_66 : decode cX5_next 66 = .ok (.invokestatic 32, 3) := by decide +kernel
theorem dX5_next_69 : decode cX5_next 69 = .ok (.ireturn, 1) := by decide +kernel
theorem dX5_next_70 : decode cX5_next 70 = .ok (.iload_n 1, 1) := by decide +kernel
theorem dX5_next_71 : decode cX5_next 71 = .ok (.bipush 48, 2) := by decide +kernel
theorem dX5_next_73 : decode cX5_next 73 = .ok (.bipush 53, 2) := by decide +kernel
theorem dX5_next_75 : decode cX5_next 75 = .ok (.invokestatic 36, 3) := by decide +kernel
theorem dX5_next_78 : decode cX5_next 78 = .ok (.ifCond .eq 7, 3) := by decide +kernel
theorem dX5_next_81 : decode cX5_next 81 = .ok (.iconst 2, 1) := by decide +kernel
theorem dX5_next_82 : decode cX5_next 82 = .ok (.goto 10, 3) := by decide +kernel
theorem dX5_next_85 : decode cX5_next 85 = .ok (.iload_n 1, 1) := by decide +kernel
theorem dX5_next_86 : decode cX5_next 86 = .ok (.bipush 64, 2) := by decide +kernel
theorem dX5_next_88 : decode cX5_next 88 = .ok (.iconst 3, 1) := by decide +kernel
theorem dX5_next_89 : decode cX5_next 89 = .ok (.invokestatic 40, 3) := by decide +kernel
theorem dX5_next_92 : decode cX5_next 92 = .ok (.ireturn, 1) := by decide +kernel
theorem dX5_next_93 : decode cX5_next 93 = .ok (.iload_n 1, 1) := by decide +kernel
theorem dX5_next_94 : decode cX5_next 94 = .ok (.bipush 64, 2) := by decide +kernel
theorem dX5_next_96 : decode cX5_next 96 = .ok (.iconst 3, 1) := by decide +kernel
theorem dX5_next_97 : decode cX5_next 97 = .ok (.invokestatic 40, 3) := by decide +kernel
theorem dX5_next_100 : decode cX5_next 100 = .ok (.ireturn, 1) := by decide +kernel
theorem dX5_next_101 : decode cX5_next 101 = .ok (.iload_n 1, 1) := by decide +kernel
theorem dX5_next_102 : decode cX5_next 102 = .ok (.bipush 48, 2) := by decide +kernel
theorem dX5_next_104 : decode cX5_next 104 = .ok (.bipush 51, 2) := by decide +kernel
theorem dX5_next_106 : decode cX5_next 106 = .ok (.invokestatic 36, 3) := by decide +kernel
theorem dX5_next_109 : decode cX5_next 109 = .ok (.ifCond .eq 7, 3) := by decide +kernel
theorem dX5_next_112 : decode cX5_next 112 = .ok (.iconst 4, 1) := by decide +kernel
theorem dX5_next_113 : decode cX5_next 113 = .ok (.goto 4, 3) := by decide +kernel
theorem dX5_next_116 : decode cX5_next 116 = .ok (.iconst (-1), 1) := by decide +kernel
theorem dX5_next_117 : decode cX5_next 117 = .ok (.ireturn, 1) := by decide +kernel
theorem dX5_next_118 : decode cX5_next 118 = .ok (.iload_n 1, 1) := by decide +kernel
theorem dX5_next_119 : decode cX5_next 119 = .ok (.bipush 97, 2) := by decide +kernel
theorem dX5_next_121 : decode cX5_next 121 = .ok (.bipush 104, 2) := by decide +kernel
theorem dX5_next_123 : decode cX5_next 123 = .ok (.invokestatic 36, 3) := by decide +kernel
theorem dX5_next_126 : decode cX5_next 126 = .ok (.ifCond .eq 7, 3) := by decide +kernel
theorem dX5_next_129 : decode cX5_next 129 = .ok (.iconst 5, 1) := by decide +kernel
theorem dX5_next_130 : decode cX5_next 130 = .ok (.goto 4, 3) := by decide +kernel
theorem dX5_next_133 : decode cX5_next 133 = .ok (.iconst (-1), 1) := by decide +kernel
theorem dX5_next_134 : decode cX5_next 134 = .ok (.ireturn, 1) := by decide +kernel
theorem dX5_next_135 : decode cX5_next 135 = .ok (.iload_n 1, 1) := by decide +kernel
theorem dX5_next_136 : decode cX5_next 136 = .ok (.bipush 7, 2) := by decide +kernel
theorem dX5_next_138 : decode cX5_next 138 = .ok (.bipush 8, 2) := by decide +kernel
theorem dX5_next_140 : decode cX5_next 140 = .ok (.invokestatic 32, 3) := by decide +kernel
theorem dX5_next_143 : decode cX5_next 143 = .ok (.ireturn, 1) := by decide +kernel
theorem dX5_next_144 : decode cX5_next 144 = .ok (.iload_n 1, 1) := by decide +kernel
theorem dX5_next_145 : decode cX5_next 145 = .ok (.bipush 48, 2) := by decide +kernel
theorem dX5_next_147 : decode cX5_next 147 = .ok (.bipush 53, 2) := by decide +kernel
theorem dX5_next_149 : decode cX5_next 149 = .ok (.invokestatic 36, 3) := by decide +kernel
theorem dX5_next_152 : decode cX5_next 152 = .ok (.ifCond .eq 8, 3) := by decide +kernel
theorem dX5_next_155 : decode cX5_next 155 = .ok (.bipush 8, 2) := by decide +kernel
theorem dX5_next_157 : decode cX5_next 157 = .ok (.goto 10, 3) := by decide +kernel
theorem dX5_next_160 : decode cX5_next 160 = .ok (.iload_n 1, 1) := by decide +kernel
theorem dX5_next_161 : decode cX5_next 161 = .ok (.bipush 59, 2) := by decide +kernel
theorem dX5_next_163 : decode cX5_next 163 = .ok (.iconst 0, 1) := by decide +kernel
theorem dX5_next_164 : decode cX5_next 164 = .ok (.invokestatic 40, 3) := by decide +kernel
theorem dX5_next_167 : decode cX5_next 167 = .ok (.ireturn, 1) := by decide +kernel
theorem dX5_next_168 : decode cX5_next 168 = .ok (.iload_n 1, 1) := by decide +kernel
theorem dX5_next_169 : decode cX5_next 169 = .ok (.bipush 59, 2) := by decide +kernel
theorem dX5_next_171 : decode cX5_next 171 = .ok (.iconst 0, 1) := by decide +kernel
theorem dX5_next_172 : decode cX5_next 172 = .ok (.invokestatic 40, 3) := by decide +kernel
theorem dX5_next_175 : decode cX5_next 175 = .ok (.ireturn, 1) := by decide +kernel
theorem dX5_next_176 : decode cX5_next 176 = .ok (.iconst (-1), 1) := by decide +kernel
theorem dX5_next_177 : decode cX5_next 177 = .ok (.ireturn, 1) := by decide +kernel
theorem dX5_isIn_0 : decode cX5_isIn 0 = .ok (.iload_n 0, 1) := by decide +kernel
theorem dX5_isIn_1 : decode cX5_isIn 1 = .ok (.iload_n 1, 1) := by decide +kernel
theorem dX5_isIn_2 : decode cX5_isIn 2 = .ok (.if_icmp .lt 12, 3) := by decide +kernel
theorem dX5_isIn_5 : decode cX5_isIn 5 = .ok (.iload_n 0, 1) := by decide +kernel
theorem dX5_isIn_6 : decode cX5_isIn 6 = .ok (.iload_n 2, 1) := by decide +kernel
theorem dX5_isIn_7 : decode cX5_isIn 7 = .ok (.if_icmp .gt 7, 3) := by decide +kernel
theorem dX5_isIn_10 : decode cX5_isIn 10 = .ok (.iconst 1, 1) := by decide +kernel
theorem dX5_isIn_11 : decode cX5_isIn 11 = .ok (.goto 4, 3) := by decide +kernel
theorem dX5_isIn_14 : decode cX5_isIn 14 = .ok (.iconst 0, 1) := by decide +kernel
theorem dX5_isIn_15 : decode cX5_isIn 15 = .ok (.ireturn, 1) := by decide +kernel
theorem dX5_only_0 : decode cX5_only 0 = .ok (.iload_n 0, 1) := by decide +kernel
theorem dX5_only_1 : decode cX5_only 1 = .ok (.iload_n 1, 1) := by decide +kernel
theorem dX5_only_2 : decode cX5_only 2 = .ok (.if_icmp .ne 7, 3) := by decide +kernel
theorem dX5_only_5 : decode cX5_only 5 = .ok (.iload_n 2, 1) := by decide +kernel
theorem dX5_only_6 : decode cX5_only 6 = .ok (.goto 4, 3) := by decide +kernel
theorem dX5_only_9 : decode cX5_only 9 = .ok (.iconst (-1), 1) := by decide +kernel
theorem dX5_only_10 : decode cX5_only 10 = .ok (.ireturn, 1) := by decide +kernel
set_option maxRecDepth 20000 in
theorem ggX5_firstDigit_X5_isIn : GoodIn wsX5_firstDigit wsX5_isIn := goodIn_r _ [4] (by decide +kernel) (by decide +kernel)
set_option maxRecDepth 20000 in
theorem gX5_firstDigit_X5_isIn : GoodIn wsX5_firstDigit (va_wsS RX5 36 yX5_isIn wsX5_isIn) := goodIn_app (goodIn_of _ (by decide +kernel)) ggX5_firstDigit_X5_isIn
theorem dX5_firstDigit_0 : decode cX5_firstDigit 0 = .ok (.iload_n 0, 1) := by decide +kernel
theorem dX5_firstDigit_1 : decode cX5_firstDigit 1 = .ok (.bipush 48, 2) := by decide +kernel
theorem dX5_firstDigit_3 : decode cX5_firstDigit 3 = .ok (.bipush 57, 2) := by decide +kernel
theorem dX5_firstDigit_5 : decode cX5_firstDigit 5 = .ok (.invokestatic 36, 3) := by decide +kernel
theorem dX5_firstDigit_8 : decode cX5_firstDigit 8 = .ok (.ifCond .ne 5, 3) := by decide +kernel
theorem dX5_firstDigit_11 : decode cX5_firstDigit 11 = .ok (.iconst (-1), 1) := by decide +kernel
theorem dX5_firstDigit_12 : decode cX5_firstDigit 12 = .ok (.ireturn, 1) := by decide +kernel
theorem dX5_firstDigit_13 : decode cX5_firstDigit 13 = .ok (.iload_n 0, 1) := by decide +kernel
theorem dX5_firstDigit_14 : decode cX5_firstDigit 14 = .ok (.bipush 49, 2) := by decide +kernel
theorem dX5_firstDigit_16 : decode cX5_firstDigit 16 = .ok (.if_icmp .ne 7, 3) := by decide +kernel
theorem dX5_firstDigit_19 : decode cX5_firstDigit 19 = .ok (.iload_n 1, 1) := by decide +kernel
theorem dX5_firstDigit_20 : decode cX5_firstDigit 20 = .ok (.goto 4, 3) := by decide +kernel
theorem dX5_firstDigit_23 : decode cX5_firstDigit 23 = .ok (.iload_n 2, 1) := by decide +kernel
theorem dX5_firstDigit_24 : decode cX5_firstDigit 24 = .ok (.ireturn, 1) := by decide +kernel
set_option maxRecDepth 20000 in
theorem ggX5_doParts_X1_length : GoodIn wsX5_doParts wsX1_length := goodIn_r _ [6, 7, 122, 123] (by decide +kernel) (by decide +kernel)
set_option maxRecDepth 20000 in
theorem gX5_doParts_X1_length : GoodIn wsX5_doParts (wsV RX5 20 RX1 yX1_length wsX1_length) := goodIn_app (goodIn_of _ (by decide +kernel)) ggX5_doParts_X1_length
set_option maxRecDepth 20000 in
theorem ggX5_doParts_X1_itemAt : GoodIn wsX5_doParts wsX1_itemAt := goodIn_r _ [11, 7, 12, 122, 123] (by decide +kernel) (by decide +kernel)
set_option maxRecDepth 20000 in
theorem gX5_doParts_X1_itemAt : GoodIn wsX5_doParts (wsV RX5 24 RX1 yX1_itemAt wsX1_itemAt) := goodIn_app (goodIn_of _ (by decide +kernel)) ggX5_doParts_X1_itemAt
set_option maxRecDepth 20000 in
theorem ggX5_doParts_X5_doRise : GoodIn wsX5_doParts wsX5_doRise := goodIn_r _ [17, 18, 19, 20, 16, 21, 1, 8, 9, 10, 5, 11, 7, 12, 22, 23, 24, 25, 26, 27, 28, 29, 30, 31, 32, 33, 34, 35, 36, 37, 38, 39, 40, 41, 42, 43, 44, 45, 46, 47, 48, 49, 50, 51, 52, 53, 121, 122, 123, 124, 125, 126, 127, 128, 129, 130, 131, 132, 133, 134, 135, 136, 137] (by decide +kernel) (by decide +kernel)
set_option maxRecDepth 20000 in
theorem gX5_doParts_X5_doRise : GoodIn wsX5_doParts (wsV RX5 43 RX5 yX5_doRise wsX5_doRise) := goodIn_app (goodIn_of _ (by decide +kernel)) ggX5_doParts_X5_doRise
set_option maxRecDepth 20000 in
theorem ggX5_doParts_X5_doSit : GoodIn wsX5_doParts wsX5_doSit := goodIn_r _ [57, 1, 18, 19, 20, 16, 21, 8, 9, 10, 5, 11, 7, 12, 58, 59, 60, 25, 61, 62, 23, 24, 26, 27, 63, 64, 65, 66, 67, 68, 69, 70, 71, 72, 73, 74, 75, 76, 77, 78, 79, 80, 81, 82, 32, 83, 84, 85, 86, 87, 42, 88, 89, 90, 33, 34, 35, 36, 91, 92, 93, 94, 95, 96, 3, 4, 6, 97, 98, 99, 100, 101, 102, 103, 104, 105, 106, 107, 108, 109, 41, 43, 110, 111, 29, 30, 31, 112, 38, 39, 40, 44, 45, 46, 47, 48, 49, 50, 51, 52, 53, 113, 114, 115, 116, 117, 118, 119, 120, 121, 122, 123, 124, 125, 126, 127, 128, 129, 130, 131, 132, 133, 134, 135, 136, 137] (by decide +kernel) (by decide +kernel)
set_option maxRecDepth 20000 in
theorem gX5_doParts_X5_doSit : GoodIn wsX5_doParts (wsV RX5 47 RX5 yX5_doSit wsX5_doSit) := goodIn_app (goodIn_of _ (by decide +kernel)) ggX5_doParts_X5_doSit
theorem dX5_doParts_0 : decode cX5_doParts 0 = .ok (.iconst 0, 1) := by decide +kernel
theorem dX5_doParts_1 : decode cX5_doParts 1 = .ok (.istore_n 2, 1) := by decide +kernel
theorem dX5_doParts_2 : decode cX5_doParts 2 = .ok (.iconst 0, 1) := by decide +kernel
theorem dX5_doParts_3 : decode cX5_doParts 3 = .ok (.istore_n 3, 1) := by decide +kernel
theorem dX5_doParts_4 : decode cX5_doParts 4 = .ok (.iconst 0, 1) := by decide +kernel
theorem dX5_doParts_5 : decode cX5_doParts 5 = .ok (.istore 4, 2) := by decide +kernel
theorem dX5_doParts_7 : decode cX5_doParts 7 = .ok (.iload 4, 2) := by decide +kernel
theorem dX5_doParts_9 : decode cX5_doParts 9 = .ok (.aload_n 0, 1) := by decide +kernel
theorem dX5_doParts_10 : decode cX5_doParts 10 = .ok (.getfield 14, 3) := by decide +kernel
theorem dX5_doParts_13 : decode cX5_doParts 13 = .ok (.invokevirtual 20, 3) := by decide +kernel
theorem dX5_doParts_16 : decode cX5_doParts 16 = .ok (.if_icmp .gt 84, 3) := by decide +kernel
theorem dX5_doParts_19 : decode cX5_doParts 19 = .ok (.iload 4, 2) := by decide +kernel
theorem dX5_doParts_21 : decode cX5_doParts 21 = .ok (.aload_n 0, 1) := by decide +kernel
theorem dX5_doParts_22 : decode cX5_doParts 22 = .ok (.getfield 14, 3) := by decide +kernel
theorem dX5_doParts_25 : decode cX5_doParts 25 = .ok (.invokevirtual 20, 3) := by decide +kernel
theorem dX5_doParts_28 : decode cX5_doParts 28 = .ok (.if_icmp .eq 17, 3) := by decide +kernel
theorem dX5_doParts_31 : decode cX5_doParts 31 = .ok (.aload_n 0, 1) := by decide +kernel
theorem dX5_doParts_32 : decode cX5_doParts 32 = .ok (.getfield 14, 3) := by decide +kernel
theorem dX5_doParts_35 : decode cX5_doParts 35 = .ok (.iload 4, 2) := by decide +kernel
theorem dX5_doParts_37 : decode cX5_doParts 37 = .ok (.invokevirtual 24, 3) := by decide +kernel
theorem dX5_doParts_40 : decode cX5_doParts 40 = .ok (.bipush 59, 2) := by decide +kernel
theorem dX5_doParts_42 : decode cX5_doParts 42 = .ok (.if_icmp .ne 52, 3) := by decide +kernel
theorem dX5_doParts_45 : decode cX5_doParts 45 = .ok (.aload_n 0, 1) := by decide +kernel
theorem dX5_doParts_46 : decode cX5_doParts 46 = .ok (.getfield 14, 3) := by decide +kernel
theorem dX5_doParts_49 : decode cX5_doParts 49 = .ok (.iload_n 3, 1) := by decide +kernel
theorem dX5_doParts_50 : decode cX5_doParts 50 = .ok (.invokevirtual 24, 3) := by decide +kernel
theorem dX5_doParts_53 : decode cX5_doParts 53 = .ok (.bipush 45, 2) := by decide +kernel
theorem dX5_doParts_55 : decode cX5_doParts 55 = .ok (.if_icmp .ne 16, 3) := by decide +kernel
theorem dX5_doParts_58 : decode cX5_doParts 58 = .ok (.aload_n 0, 1) := by decide +kernel
theorem dX5_doParts_59 : decode cX5_doParts 59 = .ok (.aload_n 1, 1) := by decide +kernel
theorem dX5_doParts_60 : decode cX5_doParts 60 = .ok (.iload_n 3, 1) := by decide +kernel
theorem dX5_doParts_61 : decode cX5_doParts 61 = .ok (.iconst 1, 1) := by decide +kernel
theorem dX5_doParts_62 : decode cX5_doParts 62 = .ok (.iadd, 1) := by decide +kernel
theorem dX5_doParts_63 : decode cX5_doParts 63 = .ok (.iload 4, 2) := by decide +kernel
theorem dX5_doParts_65 : decode cX5_doParts 65 = .ok (.invokevirtual 43, 3) := by decide +kernel
theorem dX5_doParts_68 : decode cX5_doParts 68 = .ok (.goto 11, 3) := by decide +kernel
theorem dX5_doParts_71 : decode cX5_doParts 71 = .ok (.aload_n 0, 1) := by decide +kernel
theorem dX5_doParts_72 : decode cX5_doParts 72 = .ok (.aload_n 1, 1) := by decide +kernel
theorem dX5_doParts_73 : decode cX5_doParts 73 = .ok (.iload_n 3, 1) := by decide +kernel
theorem dX5_doParts_74 : decode cX5_doParts 74 = .ok (.iload 4, 2) := by decide +kernel
theorem dX5_doParts_76 : decode cX5_doParts 76 = .ok (.invokevirtual 47, 3) := by decide +kernel
theorem dX5_doParts_79 : decode cX5_doParts 79 = .ok (.istore 5, 2) := by decide +kernel
theorem dX5_doParts_81 : decode cX5_doParts 81 = .ok (.iload 5, 2) := by decide +kernel
theorem dX5_doParts_83 : decode cX5_doParts 83 = .ok (.ifCond .eq 6, 3) := by decide +kernel
theorem dX5_doParts_86 : decode cX5_doParts 86 = .ok (.iinc 2 1, 3) := by decide +kernel
theorem dX5_doParts_89 : decode cX5_doParts 89 = .ok (.iload 4, 2) := by decide +kernel
theorem dX5_doParts_91 : decode cX5_doParts 91 = .ok (.iconst 1, 1) := by decide +kernel
theorem dX5_doParts_92 : decode cX5_doParts 92 = .ok (.iadd, 1) := by decide +kernel
theorem dX5_doParts_93 : decode cX5_doParts 93 = .ok (.istore_n 3, 1) := by decide +kernel
theorem dX5_doParts_94 : decode cX5_doParts 94 = .ok (.iinc 4 1, 3) := by decide +kernel
theorem dX5_doParts_97 : decode cX5_doParts 97 = .ok (.goto (-90), 3) := by decide +kernel
theorem dX5_doParts_100 : decode cX5_doParts 100 = .ok (.iload_n 2, 1) := by decide +kernel
theorem dX5_doParts_101 : decode cX5_doParts 101 = .ok (.ireturn, 1) := by decide +kernel
set_option maxRecDepth 20000 in
theorem ggX5_doRise_X5_numberIn : GoodIn wsX5_doRise wsX5_numberIn := goodIn_r _ [5, 6, 7, 8, 9, 10, 11, 12, 13, 46, 47, 48] (by decide +kernel) (by decide +kernel)
set_option maxRecDepth 20000 in
theorem gX5_doRise_X5_numberIn : GoodIn wsX5_doRise (wsV RX5 50 RX5 yX5_numberIn wsX5_numberIn) := goodIn_app (goodIn_of _ (by decide +kernel)) ggX5_doRise_X5_numberIn
set_option maxRecDepth 20000 in
theorem ggX5_doRise_X2_isGuest : GoodIn wsX5_doRise wsX2_isGuest := goodIn_r _ [18, 19, 49, 50, 51, 52, 53, 54, 55, 56, 57, 58, 59, 60, 61, 62] (by decide +kernel) (by decide +kernel)
set_option maxRecDepth 20000 in
theorem gX5_doRise_X2_isGuest : GoodIn wsX5_doRise (wsV RX5 53 RX2 yX2_isGuest wsX2_isGuest) := goodIn_app (goodIn_of _ (by decide +kernel)) ggX5_doRise_X2_isGuest
set_option maxRecDepth 20000 in
theorem ggX5_doRise_X2_isSitting : GoodIn wsX5_doRise wsX2_isSitting := goodIn_r _ [23, 24, 25, 26, 27, 28, 49, 50, 51, 52, 53, 54, 55, 56, 57, 58, 59, 60, 61, 62] (by decide +kernel) (by decide +kernel)
set_option maxRecDepth 20000 in
theorem gX5_doRise_X2_isSitting : GoodIn wsX5_doRise (wsV RX5 59 RX2 yX2_isSitting wsX2_isSitting) := goodIn_app (goodIn_of _ (by decide +kernel)) ggX5_doRise_X2_isSitting
set_option maxRecDepth 20000 in
theorem ggX5_doRise_X2_standUp : GoodIn wsX5_doRise wsX2_standUp := goodIn_r _ [32, 24, 33, 34, 35, 36, 25, 26, 27, 28, 37, 38, 39, 40, 41, 42, 10, 43, 12, 13, 44, 8, 9, 11, 45, 49, 50, 51, 52, 53, 54, 55, 56, 57, 58, 59, 60, 61, 62, 47, 48] (by decide +kernel) (by decide +kernel)
set_option maxRecDepth 20000 in
theorem gX5_doRise_X2_standUp : GoodIn wsX5_doRise (wsV RX5 62 RX2 yX2_standUp wsX2_standUp) := goodIn_app (goodIn_of _ (by decide +kernel)) ggX5_doRise_X2_standUp
