theorem dX5_doRise_0 : decode cX5_doRise 0 = .ok (.aload_n 0, 1) := by decide +kernel
theorem dX5_doRise_1 : decode cX5_doRise 1 = .ok (.iload_n 2, 1) := by decide +kernel
theorem dX5_doRise_2 : decode cX5_doRise 2 = .ok (.iload_n 3, 1) := by decide +kernel
theorem dX5_doRise_3 : decode cX5_doRise 3 = .ok (.invokevirtual 50, 3) := by decide +kernel
theorem dX5_doRise_6 : decode cX5_doRise 6 = .ok (.istore 4, 2) := by decide +kernel
theorem dX5_doRise_8 : decode cX5_doRise 8 = .ok (.aload_n 1, 1) := by decide +kernel
theorem dX5_doRise_9 : decode cX5_doRise 9 = .ok (.iload 4, 2) := by decide +kernel
theorem dX5_doRise_11 : decode cX5_doRise 11 = .ok (.invokevirtual 53, 3) := by decide +kernel
theorem dX5_doRise_14 : decode cX5_doRise 14 = .ok (.ifCond .eq 12, 3) := by decide +kernel
theorem dX5_doRise_17 : decode cX5_doRise 17 = .ok (.aload_n 1, 1) := by decide +kernel
theorem dX5_doRise_18 : decode cX5_doRise 18 = .ok (.iload 4, 2) := by decide +kernel
theorem dX5_doRise_20 : decode cX5_doRise 20 = .ok (.invokevirtual 59, 3) := by decide +kernel
theorem dX5_doRise_23 : decode cX5_doRise 23 = .ok (.ifCond .ne 5, 3) := by decide +kernel
theorem dX5_doRise_26 : decode cX5_doRise 26 = .ok (.iconst 0, 1) := by decide +kernel
theorem dX5_doRise_27 : decode cX5_doRise 27 = .ok (.ireturn, 1) := by decide +kernel
theorem dX5_doRise_28 : decode cX5_doRise 28 = .ok (.aload_n 1, 1) := by decide +kernel
theorem dX5_doRise_29 : decode cX5_doRise 29 = .ok (.iload 4, 2) := by decide +kernel
theorem dX5_doRise_31 : decode cX5_doRise 31 = .ok (.invokevirtual 62, 3) := by decide +kernel
theorem dX5_doRise_34 : decode cX5_doRise 34 = .ok (.iconst 1, 1) := by decide +kernel
theorem dX5_doRise_35 : decode cX5_doRise 35 = .ok (.ireturn, 1) := by decide +kernel
set_option maxRecDepth 20000 in
theorem ggX5_doSit_X5_numberIn : GoodIn wsX5_doSit wsX5_numberIn := goodIn_r _ [6, 1, 7, 8, 9, 10, 11, 12, 13, 109, 110, 111] (by decide +kernel) (by decide +kernel)
set_option maxRecDepth 20000 in
theorem gX5_doSit_X5_numberIn : GoodIn wsX5_doSit (wsV RX5 50 RX5 yX5_numberIn wsX5_numberIn) := goodIn_app (goodIn_of _ (by decide +kernel)) ggX5_doSit_X5_numberIn
set_option maxRecDepth 20000 in
theorem ggX5_doSit_X1_itemAt : GoodIn wsX5_doSit wsX1_itemAt := goodIn_r _ [11, 12, 13, 110, 111] (by decide +kernel) (by decide +kernel)
set_option maxRecDepth 20000 in
theorem gX5_doSit_X1_itemAt : GoodIn wsX5_doSit (wsV RX5 24 RX1 yX1_itemAt wsX1_itemAt) := goodIn_app (goodIn_of _ (by decide +kernel)) ggX5_doSit_X1_itemAt
set_option maxRecDepth 20000 in
theorem ggX5_doSit_X2_mayTake : GoodIn wsX5_doSit wsX2_mayTake := goodIn_r _ [18, 19, 20, 21, 17, 22, 23, 24, 25, 26, 27, 28, 29, 30, 31, 32, 33, 34, 35, 36, 37, 38, 39, 40, 41, 42, 43, 44, 45, 46, 47, 48, 49, 50, 51, 52, 53, 54, 55, 56, 57, 58, 59, 60, 61, 62, 63, 64, 65, 10, 66, 12, 67, 8, 9, 11, 13, 68, 69, 70, 71, 72, 73, 74, 75, 112, 113, 114, 115, 116, 117, 118, 119, 120, 121, 122, 123, 124, 125, 110, 111] (by decide +kernel) (by decide +kernel)
set_option maxRecDepth 20000 in
theorem gX5_doSit_X2_mayTake : GoodIn wsX5_doSit (wsV RX5 65 RX2 yX2_mayTake wsX2_mayTake) := goodIn_app (goodIn_of _ (by decide +kernel)) ggX5_doSit_X2_mayTake
set_option maxRecDepth 20000 in
theorem ggX5_doSit_X2_takeSeat : GoodIn wsX5_doSit wsX2_takeSeat := goodIn_r _ [79, 44, 80, 50, 81, 82, 83, 84, 85, 17, 86, 54, 55, 56, 57, 87, 88, 89, 90, 91, 92, 93, 94, 95, 96, 97, 10, 98, 12, 13, 99, 8, 9, 11, 100, 101, 102, 103, 104, 105, 106, 107, 108, 112, 113, 114, 115, 116, 117, 118, 119, 120, 121, 122, 123, 124, 125, 110, 111] (by decide +kernel) (by decide +kernel)
set_option maxRecDepth 20000 in
theorem gX5_doSit_X2_takeSeat : GoodIn wsX5_doSit (wsV RX5 68 RX2 yX2_takeSeat wsX2_takeSeat) := goodIn_app (goodIn_of _ (by decide +kernel)) ggX5_doSit_X2_takeSeat
theorem dX5_doSit_0 : decode cX5_doSit 0 = .ok (.aload_n 0, 1) := by decide +kernel
theorem dX5_doSit_1 : decode cX5_doSit 1 = .ok (.iload_n 2, 1) := by decide +kernel
theorem dX5_doSit_2 : decode cX5_doSit 2 = .ok (.iload_n 3, 1) := by decide +kernel
theorem dX5_doSit_3 : decode cX5_doSit 3 = .ok (.iconst 3, 1) := by decide +kernel
theorem dX5_doSit_4 : decode cX5_doSit 4 = .ok (.isub, 1) := by decide +kernel
theorem dX5_doSit_5 : decode cX5_doSit 5 = .ok (.invokevirtual 50, 3) := by decide +kernel
theorem dX5_doSit_8 : decode cX5_doSit 8 = .ok (.istore 4, 2) := by decide +kernel
theorem dX5_doSit_10 : decode cX5_doSit 10 = .ok (.aload_n 0, 1) := by decide +kernel
theorem dX5_doSit_11 : decode cX5_doSit 11 = .ok (.getfield 14, 3) := by decide +kernel
theorem dX5_doSit_14 : decode cX5_doSit 14 = .ok (.iload_n 3, 1) := by decide +kernel
theorem dX5_doSit_15 : decode cX5_doSit 15 = .ok (.iconst 2, 1) := by decide +kernel
theorem dX5_doSit_16 : decode cX5_doSit 16 = .ok (.isub, 1) := by decide +kernel
theorem dX5_doSit_17 : decode cX5_doSit 17 = .ok (.invokevirtual 24, 3) := by decide +kernel
theorem dX5_doSit_20 : decode cX5_doSit 20 = .ok (.bipush 48, 2) := by decide +kernel
theorem dX5_doSit_22 : decode cX5_doSit 22 = .ok (.isub, 1) := by decide +kernel
theorem dX5_doSit_23 : decode cX5_doSit 23 = .ok (.istore 5, 2) := by decide +kernel
theorem dX5_doSit_25 : decode cX5_doSit 25 = .ok (.aload_n 0, 1) := by decide +kernel
theorem dX5_doSit_26 : decode cX5_doSit 26 = .ok (.getfield 14, 3) := by decide +kernel
theorem dX5_doSit_29 : decode cX5_doSit 29 = .ok (.iload_n 3, 1) := by decide +kernel
theorem dX5_doSit_30 : decode cX5_doSit 30 = .ok (.iconst 1, 1) := by decide +kernel
theorem dX5_doSit_31 : decode cX5_doSit 31 = .ok (.isub, 1) := by decide +kernel
theorem dX5_doSit_32 : decode cX5_doSit 32 = .ok (.invokevirtual 24, 3) := by decide +kernel
theorem dX5_doSit_35 : decode cX5_doSit 35 = .ok (.bipush 97, 2) := by decide +kernel
theorem dX5_doSit_37 : decode cX5_doSit 37 = .ok (.isub, 1) := by decide +kernel
theorem dX5_doSit_38 : decode cX5_doSit 38 = .ok (.istore 6, 2) := by decide +kernel
theorem dX5_doSit_40 : decode cX5_doSit 40 = .ok (.aload_n 1, 1) := by decide +kernel
theorem dX5_doSit_41 : decode cX5_doSit 41 = .ok (.iload 4, 2) := by decide +kernel
theorem dX5_doSit_43 : decode cX5_doSit 43 = .ok (.iload 5, 2) := by decide +kernel
theorem dX5_doSit_45 : decode cX5_doSit 45 = .ok (.iload 6, 2) := by decide +kernel
theorem dX5_doSit_47 : decode cX5_doSit 47 = .ok (.invokevirtual 65, 3) := by decide +kernel
theorem dX5_doSit_50 : decode cX5_doSit 50 = .ok (.ifCond .ne 5, 3) := by decide +kernel
theorem dX5_doSit_53 : decode cX5_doSit 53 = .ok (.iconst 0, 1) := by decide +kernel
theorem dX5_doSit_54 : decode cX5_doSit 54 = .ok (.ireturn, 1) := by decide +kernel
theorem dX5_doSit_55 : decode cX5_doSit 55 = .ok (.aload_n 1, 1) := by decide +kernel
theorem dX5_doSit_56 : decode cX5_doSit 56 = .ok (.iload 4, 2) := by decide +kernel
theorem dX5_doSit_58 : decode cX5_doSit 58 = .ok (.iload 5, 2) := by decide +kernel
theorem dX5_doSit_60 : decode cX5_doSit 60 = .ok (.iload 6, 2) := by decide +kernel
theorem dX5_doSit_62 : decode cX5_doSit 62 = .ok (.invokevirtual 68, 3) := by decide +kernel
theorem dX5_doSit_65 : decode cX5_doSit 65 = .ok (.iconst 1, 1) := by decide +kernel
theorem dX5_doSit_66 : decode cX5_doSit 66 = .ok (.ireturn, 1) := by decide +kernel
set_option maxRecDepth 20000 in
theorem ggX5_numberIn_X1_itemAt : GoodIn wsX5_numberIn wsX1_itemAt := goodIn_r _ [6, 7, 8, 10, 11] (by decide +kernel) (by decide +kernel)
set_option maxRecDepth 20000 in
theorem gX5_numberIn_X1_itemAt : GoodIn wsX5_numberIn (wsV RX5 24 RX1 yX1_itemAt wsX1_itemAt) := goodIn_app (goodIn_of _ (by decide +kernel)) ggX5_numberIn_X1_itemAt
theorem dX5_numberIn_0 : decode cX5_numberIn 0 = .ok (.iconst 0, 1) := by decide +kernel
theorem dX5_numberIn_1 : decode cX5_numberIn 1 = .ok (.istore_n 3, 1) := by decide +kernel
theorem dX5_numberIn_2 : decode cX5_numberIn 2 = .ok (.iload_n 1, 1) := by decide +kernel
theorem dX5_numberIn_3 : decode cX5_numberIn 3 = .ok (.istore 4, 2) := by decide +kernel
theorem dX5_numberIn_5 : decode cX5_numberIn 5 = .ok (.iload 4, 2) := by decide +kernel
theorem dX5_numberIn_7 : decode cX5_numberIn 7 = .ok (.iload_n 2, 1) := by decide +kernel
theorem dX5_numberIn_8 : decode cX5_numberIn 8 = .ok (.if_icmp .ge 27, 3) := by decide +kernel
theorem dX5_numberIn_11 : decode cX5_numberIn 11 = .ok (.bipush 10, 2) := by decide +kernel
theorem dX5_numberIn_13 : decode cX5_numberIn 13 = .ok (.iload_n 3, 1) := by decide +kernel
theorem dX5_numberIn_14 : decode cX5_numberIn 14 = .ok (.imul, 1) := by decide +kernel
theorem dX5_numberIn_15 : decode cX5_numberIn 15 = .ok (.aload_n 0, 1) := by decide +kernel
theorem dX5_numberIn_16 : decode cX5_numberIn 16 = .ok (.getfield 14, 3) := by decide +kernel
theorem dX5_numberIn_19 : decode cX5_numberIn 19 = .ok (.iload 4, 2) := by decide +kernel
theorem dX5_numberIn_21 : decode cX5_numberIn 21 = .ok (.invokevirtual 24, 3) := by decide +kernel
theorem dX5_numberIn_24 : decode cX5_numberIn 24 = .ok (.iadd, 1) := by decide +kernel
theorem dX5_numberIn_25 : decode cX5_numberIn 25 = .ok (.bipush 48, 2) := by decide +kernel
theorem dX5_numberIn_27 : decode cX5_numberIn 27 = .ok (.isub, 1) := by decide +kernel
theorem dX5_numberIn_28 : decode cX5_numberIn 28 = .ok (.istore_n 3, 1) := by decide +kernel
theorem dX5_numberIn_29 : decode cX5_numberIn 29 = .ok (.iinc 4 1, 3) := by decide +kernel
theorem dX5_numberIn_32 : decode cX5_numberIn 32 = .ok (.goto (-27), 3) := by decide +kernel
theorem dX5_numberIn_35 : decode cX5_numberIn 35 = .ok (.iload_n 3, 1) := by decide +kernel
theorem dX5_numberIn_36 : decode cX5_numberIn 36 = .ok (.ireturn, 1) := by decide +kernel
set_option maxRecDepth 20000 in
theorem ggX6_init_X2_init : GoodIn wsX6_init wsX2_init := goodIn_r _ [21, 22, 2, 3, 23, 24, 25, 26, 27, 28, 29, 30, 31, 32, 33, 34, 35, 36, 37, 38, 39, 40, 41, 42, 43, 44, 45, 46, 47, 48, 49, 50, 64, 65, 66, 67, 68, 69, 70, 71, 72, 73, 74, 75, 76, 77, 88, 89] (by decide +kernel) (by decide +kernel)
set_option maxRecDepth 20000 in
theorem gX6_init_X2_init : GoodIn wsX6_init (wsX2_init) := ggX6_init_X2_init
set_option maxRecDepth 20000 in
theorem ggX6_init_X0_init : GoodIn wsX6_init wsX0_init := goodIn_r _ [53, 54, 2, 3, 55, 56, 5, 6, 57, 20, 21, 22, 23, 24, 25, 26, 27, 28, 29, 30, 31, 32, 33, 34, 35, 36, 37, 38, 39, 40, 41, 42, 43, 44, 45, 46, 47, 48, 49, 50, 84, 85, 86, 64, 65, 66, 67, 68, 69, 70, 71, 72, 73, 74, 75, 76, 77, 88, 89] (by decide +kernel) (by decide +kernel)
set_option maxRecDepth 20000 in
theorem gX6_init_X0_init : GoodIn wsX6_init (wsX0_init) := ggX6_init_X0_init
set_option maxRecDepth 20000 in
theorem ggX6_init_X5_init : GoodIn wsX6_init wsX5_init := goodIn_r _ [59, 60, 2, 3, 61, 33, 34, 62, 63, 38, 39, 40, 41, 42, 43, 44, 23, 45, 46, 88, 89, 87] (by decide +kernel) (by decide +kernel)
set_option maxRecDepth 20000 in
theorem gX6_init_X5_init_n31 : GoodIn wsX6_init (wsX5_init) := ggX6_init_X5_init
theorem dX6_init_0 : decode cX6_init 0 = .ok (.aload_n 0, 1) := by decide +kernel
theorem dX6_init_1 : decode cX6_init 1 = .ok (.invokespecial 1, 3) := by decide +kernel
theorem dX6_init_4 : decode cX6_init 4 = .ok (.aload_n 0, 1) := by decide +kernel
theorem dX6_init_5 : decode cX6_init 5 = .ok (.new 7, 3) := by decide +kernel
theorem dX6_init_8 : decode cX6_init 8 = .ok (.dup, 1) := by decide +kernel
theorem dX6_init_9 : decode cX6_init 9 = .ok (.invokespecial 9, 3) := by decide +kernel
theorem dX6_init_12 : decode cX6_init 12 = .ok (.putfield 10, 3) := by decide +kernel
theorem dX6_init_15 : decode cX6_init 15 = .ok (.aload_n 0, 1) := by decide +kernel
theorem dX6_init_16 : decode cX6_init 16 = .ok (.new 7, 3) := by decide +kernel
theorem dX6_init_19 : decode cX6_init 19 = .ok (.dup, 1) := by decide +kernel
theorem dX6_init_20 : decode cX6_init 20 = .ok (.invokespecial 9, 3) := by decide +kernel
theorem dX6_init_23 : decode cX6_init 23 = .ok (.putfield 16, 3) := by decide +kernel
theorem dX6_init_26 : decode cX6_init 26 = .ok (.aload_n 0, 1) := by decide +kernel
theorem dX6_init_27 : decode cX6_init 27 = .ok (.new 7, 3) := by decide +kernel
theorem dX6_init_30 : decode cX6_init 30 = .ok (.dup, 1) := by decide +kernel
theorem dX6_init_31 : decode cX6_init 31 = .ok (.invokespecial 9, 3) := by decide +kernel
theorem dX6_init_34 : decode cX6_init 34 = .ok (.putfield 19, 3) := by decide +kernel
theorem dX6_init_37 : decode cX6_init 37 = .ok (.aload_n 0, 1) := by decide +kernel
theorem dX6_init_38 : decode cX6_init 38 = .ok (.new 22, 3) := by decide +kernel
theorem dX6_init_41 : decode cX6_init 41 = .ok (.dup, 1) := by decide +kernel
theorem dX6_init_42 : decode cX6_init 42 = .ok (.invokespecial 24, 3) := by decide +kernel
theorem dX6_init_45 : decode cX6_init 45 = .ok (.putfield 25, 3) := by decide +kernel
theorem dX6_init_48 : decode cX6_init 48 = .ok (.aload_n 0, 1) := by decide +kernel
theorem dX6_init_49 : decode cX6_init 49 = .ok (.new 29, 3) := by decide +kernel
theorem dX6_init_52 : decode cX6_init 52 = .ok (.dup, 1) := by decide +kernel
theorem dX6_init_53 : decode cX6_init 53 = .ok (.invokespecial 31, 3) := by decide +kernel
theorem dX6_init_56 : decode cX6_init 56 = .ok (.putfield 32, 3) := by decide +kernel
theorem dX6_init_59 : decode cX6_init 59 = .ok (.aload_n 0, 1) := by decide +kernel
theorem dX6_init_60 : decode cX6_init 60 = .ok (.iconst 0, 1) := by decide +kernel
theorem dX6_init_61 : decode cX6_init 61 = .ok (.putfield 36, 3) := by decide +kernel
theorem dX6_init_64 : decode cX6_init 64 = .ok (.return_, 1) := by decide +kernel
set_option maxRecDepth 20000 in
theorem ggX6_guest_X6_isFamily : GoodIn wsX6_guest wsX6_isFamily := goodIn_r _ [10] (by decide +kernel) (by decide +kernel)
set_option maxRecDepth 20000 in
theorem gX6_guest_X6_isFamily : GoodIn wsX6_guest (va_wsS RX6 40 yX6_isFamily wsX6_isFamily) := goodIn_app (goodIn_of _ (by decide +kernel)) ggX6_guest_X6_isFamily
set_option maxRecDepth 20000 in
theorem ggX6_guest_X0_save : GoodIn wsX6_guest wsX0_save := goodIn_r _ [15, 16, 17, 18, 19, 20, 14, 21, 22, 23, 24, 25, 26, 27, 28, 29, 30, 31, 32, 33, 34, 35, 36, 37, 38, 39, 40, 41, 42, 43, 44, 45, 46, 47, 48, 49, 50, 51, 52, 53, 54, 55, 56, 57, 85, 86, 87, 71, 72, 73, 74, 75, 76, 77, 78, 79, 80, 81, 82, 83, 84, 88, 89] (by decide +kernel) (by decide +kernel)
set_option maxRecDepth 20000 in
theorem gX6_guest_X0_save : GoodIn wsX6_guest (wsV RX6 60 RX0 yX0_save wsX0_save) := goodIn_app (goodIn_of _ (by decide +kernel)) ggX6_guest_X0_save
set_option maxRecDepth 20000 in
theorem ggX6_guest_X2_addGuest : GoodIn wsX6_guest wsX2_addGuest := goodIn_r _ [61, 38, 28, 29, 30, 31, 32, 62, 63, 44, 64, 71, 72, 73, 74, 75, 76, 77, 78, 79, 80, 81, 82, 83, 84] (by decide +kernel) (by decide +kernel)
set_option maxRecDepth 20000 in
theorem gX6_guest_X2_addGuest : GoodIn wsX6_guest (wsV RX6 64 RX2 yX2_addGuest wsX2_addGuest) := goodIn_app (goodIn_of _ (by decide +kernel)) ggX6_guest_X2_addGuest
theorem dX6_guest_0 : decode cX6_guest 0 = .ok (.iload_n 1, 1) := by decide +kernel
theorem dX6_guest_1 : decode cX6_guest 1 = .ok (.invokestatic 40, 3) := by decide +kernel
theorem dX6_guest_4 : decode cX6_guest 4 = .ok (.ifCond .eq 13, 3) := by decide +kernel
theorem dX6_guest_7 : decode cX6_guest 7 = .ok (.iload_n 2, 1) := by decide +kernel
theorem dX6_guest_8 : decode cX6_guest 8 = .ok (.iconst 1, 1) := by decide +kernel
theorem dX6_guest_9 : decode cX6_guest 9 = .ok (.if_icmp .lt 8, 3) := by decide +kernel
theorem dX6_guest_12 : decode cX6_guest 12 = .ok (.iload_n 2, 1) := by decide +kernel
theorem dX6_guest_13 : decode cX6_guest 13 = .ok (.iconst 3, 1) := by decide +kernel
theorem dX6_guest_14 : decode cX6_guest 14 = .ok (.if_icmp .le 13, 3) := by decide +kernel
theorem dX6_guest_17 : decode cX6_guest 17 = .ok (.new 44, 3) := by decide +kernel
theorem dX6_guest_20 : decode cX6_guest 20 = .ok (.dup, 1) := by decide +kernel
theorem dX6_guest_21 : decode cX6_guest 21 = .ok (.ldc 46, 2) := by decide +kernel
theorem dX6_guest_23 : decode cX6_guest 23 = .ok (.invokespecial 48, 3) := by decide +kernel
theorem dX6_guest_26 : decode cX6_guest 26 = .ok (.athrow, 1) := by decide +kernel
theorem dX6_guest_27 : decode cX6_guest 27 = .ok (.aload_n 0, 1) := by decide +kernel
theorem dX6_guest_28 : decode cX6_guest 28 = .ok (.getfield 10, 3) := by decide +kernel
theorem dX6_guest_31 : decode cX6_guest 31 = .ok (.getfield 51, 3) := by decide +kernel
theorem dX6_guest_34 : decode cX6_guest 34 = .ok (.bipush 16, 2) := by decide +kernel
theorem dX6_guest_36 : decode cX6_guest 36 = .ok (.if_icmp .lt 13, 3) := by decide +kernel
theorem dX6_guest_39 : decode cX6_guest 39 = .ok (.new 55, 3) := by decide +kernel
theorem dX6_guest_42 : decode cX6_guest 42 = .ok (.dup, 1) := by decide +kernel
theorem dX6_guest_43 : decode cX6_guest 43 = .ok (.ldc 57, 2) := by decide +kernel
theorem dX6_guest_45 : decode cX6_guest 45 = .ok (.invokespecial 59, 3) := by decide +kernel
theorem dX6_guest_48 : decode cX6_guest 48 = .ok (.athrow, 1) := by decide +kernel
theorem dX6_guest_49 : decode cX6_guest 49 = .ok (.aload_n 0, 1) := by decide +kernel
theorem dX6_guest_50 : decode cX6_guest 50 = .ok (.getfield 25, 3) := by decide +kernel
theorem dX6_guest_53 : decode cX6_guest 53 = .ok (.aload_n 0, 1) := by decide +kernel
theorem dX6_guest_54 : decode cX6_guest 54 = .ok (.getfield 10, 3) := by decide +kernel
theorem dX6_guest_57 : decode cX6_guest 57 = .ok (.invokevirtual 60, 3) := by decide +kernel
theorem dX6_guest_60 : decode cX6_guest 60 = .ok (.aload_n 0, 1) := by decide +kernel
theorem dX6_guest_61 : decode cX6_guest 61 = .ok (.getfield 10, 3) := by decide +kernel
theorem dX6_guest_64 : decode cX6_guest 64 = .ok (.iload_n 1, 1) := by decide +kernel
theorem dX6_guest_65 : decode cX6_guest 65 = .ok (.iload_n 2, 1) := by decide +kernel
theorem dX6_guest_66 : decode cX6_guest 66 = .ok (.invokevirtual 64, 3) := by decide +kernel
theorem dX6_guest_69 : decode cX6_guest 69 = .ok (.ireturn, 1) := by decide +kernel
set_option maxRecDepth 20000 in
theorem ggX6_wish_X6_needGuest : GoodIn wsX6_wish wsX6_needGuest := goodIn_ca (goodIn_r _ [9, 10, 11, 4, 12, 13, 14, 15, 16, 17, 69, 70, 71, 72, 73, 74, 75, 76, 77, 78, 79, 80, 81, 82, 83, 84, 85, 86, 87, 88] (by decide +kernel) (by decide +kernel)) (goodIn_sub (fun _ h => List.mem_cons_of_mem _ (List.mem_append_right _ h)) (by decide +kernel))
set_option maxRecDepth 20000 in
theorem gX6_wish_X6_needGuest : GoodIn wsX6_wish (wsV RX6 68 RX6 yX6_needGuest wsX6_needGuest) := goodIn_app (goodIn_of _ (by decide +kernel)) ggX6_wish_X6_needGuest
set_option maxRecDepth 20000 in
theorem ggX6_wish_X0_save : GoodIn wsX6_wish wsX0_save := goodIn_r _ [22, 23, 24, 25, 26, 27, 21, 28, 29, 30, 31, 32, 15, 33, 34, 35, 36, 37, 38, 39, 40, 41, 42, 43, 17, 44, 45, 46, 47, 48, 49, 50, 51, 52, 53, 54, 55, 56, 57, 58, 59, 60, 61, 62, 89, 90, 91, 75, 76, 77, 78, 79, 80, 81, 82, 83, 84, 85, 86, 87, 88, 92, 93] (by decide +kernel) (by decide +kernel)
set_option maxRecDepth 20000 in
theorem gX6_wish_X0_save : GoodIn wsX6_wish (wsV RX6 60 RX0 yX0_save wsX0_save) := goodIn_app (goodIn_of _ (by decide +kernel)) ggX6_wish_X0_save
set_option maxRecDepth 20000 in
theorem ggX6_wish_X3_at : GoodIn wsX6_wish wsX3_at := goodIn_r _ [65] (by decide +kernel) (by decide +kernel)
set_option maxRecDepth 20000 in
theorem gX6_wish_X3_at : GoodIn wsX6_wish (va_wsS RX6 78 yX3_at wsX3_at) := goodIn_app (goodIn_of _ (by decide +kernel)) ggX6_wish_X3_at
set_option maxRecDepth 20000 in
theorem ggX6_wish_X3_put : GoodIn wsX6_wish wsX3_put := goodIn_r _ [68] (by decide +kernel) (by decide +kernel)
set_option maxRecDepth 20000 in
theorem gX6_wish_X3_put : GoodIn wsX6_wish (va_wsS RX6 84 yX3_put wsX3_put) := goodIn_app (goodIn_of _ (by decide +kernel)) ggX6_wish_X3_put
theorem dX6_wish_0 : decode cX6_wish 0 = .ok (.aload_n 0, 1) := by decide +kernel
theorem dX6_wish_1 : decode cX6_wish 1 = .ok (.iload_n 1, 1) := by decide +kernel
theorem dX6_wish_2 : decode cX6_wish 2 = .ok (.invokevirtual 68, 3) := by decide +kernel
theorem dX6_wish_5 : decode cX6_wish 5 = .ok (.iload_n 2, 1) := by decide +kernel
theorem dX6_wish_6 : decode cX6_wish 6 = .ok (.iconst (-1), 1) := by decide +kernel
theorem dX6_wish_7 : decode cX6_wish 7 = .ok (.if_icmp .eq 8, 3) := by decide +kernel
theorem dX6_wish_10 : decode cX6_wish 10 = .ok (.aload_n 0, 1) := by decide +kernel
theorem dX6_wish_11 : decode cX6_wish 11 = .ok (.iload_n 2, 1) := by decide +kernel
theorem dX6_wish_12 : decode cX6_wish 12 = .ok (.invokevirtual 68, 3) := by decide +kernel
theorem dX6_wish_15 : decode cX6_wish 15 = .ok (.iload_n 2, 1) := by decide +kernel
theorem dX6_wish_16 : decode cX6_wish 16 = .ok (.iload_n 1, 1) := by decide +kernel
theorem dX6_wish_17 : decode cX6_wish 17 = .ok (.if_icmp .ne 13, 3) := by decide +kernel
theorem dX6_wish_20 : decode cX6_wish 20 = .ok (.new 44, 3) := by decide +kernel
theorem dX6_wish_23 : decode cX6_wish 23 = .ok (.dup, 1) := by decide +kernel
theorem dX6_wish_24 : decode cX6_wish 24 = .ok (.ldc 72, 2) := by decide +kernel
theorem dX6_wish_26 : decode cX6_wish 26 = .ok (.invokespecial 48, 3) := by decide +kernel
theorem dX6_wish_29 : decode cX6_wish 29 = .ok (.athrow, 1) := by decide +kernel
theorem dX6_wish_30 : decode cX6_wish 30 = .ok (.aload_n 0, 1) := by decide +kernel
theorem dX6_wish_31 : decode cX6_wish 31 = .ok (.getfield 25, 3) := by decide +kernel
theorem dX6_wish_34 : decode cX6_wish 34 = .ok (.aload_n 0, 1) := by decide +kernel
theorem dX6_wish_35 : decode cX6_wish 35 = .ok (.getfield 10, 3) := by decide +kernel
theorem dX6_wish_38 : decode cX6_wish 38 = .ok (.invokevirtual 60, 3) := by decide +kernel
theorem dX6_wish_41 : decode cX6_wish 41 = .ok (.aload_n 0, 1) := by decide +kernel
theorem dX6_wish_42 : decode cX6_wish 42 = .ok (.getfield 10, 3) := by decide +kernel
theorem dX6_wish_45 : decode cX6_wish 45 = .ok (.getfield 74, 3) := by decide +kernel
theorem dX6_wish_48 : decode cX6_wish 48 = .ok (.iload_n 1, 1) := by decide +kernel
theorem dX6_wish_49 : decode cX6_wish 49 = .ok (.invokestatic 78, 3) := by decide +kernel
theorem dX6_wish_52 : decode cX6_wish 52 = .ok (.istore_n 3, 1) := by decide +kernel
theorem dX6_wish_53 : decode cX6_wish 53 = .ok (.aload_n 0, 1) := by decide +kernel
theorem dX6_wish_54 : decode cX6_wish 54 = .ok (.getfield 10, 3) := by decide +kernel
theorem dX6_wish_57 : decode cX6_wish 57 = .ok (.getfield 74, 3) := by decide +kernel
theorem dX6_wish_60 : decode cX6_wish 60 = .ok (.iload_n 1, 1) := by decide +kernel
theorem dX6_wish_61 : decode cX6_wish 61 = .ok (.iload_n 2, 1) := by decide +kernel
theorem dX6_wish_62 : decode cX6_wish 62 = .ok (.invokestatic 84, 3) := by decide +kernel
theorem dX6_wish_65 : decode cX6_wish 65 = .ok (.iload_n 3, 1) := by decide +kernel
theorem dX6_wish_66 : decode cX6_wish 66 = .ok (.ireturn, 1) := by decide +kernel
set_option maxRecDepth 20000 in
theorem ggX6_table_X0_save : GoodIn wsX6_table wsX0_save := goodIn_r _ [11, 12, 13, 14, 15, 16, 10, 17, 18, 19, 20, 21, 22, 23, 24, 25, 26, 27, 28, 29, 30, 31, 32, 33, 34, 35, 36, 37, 38, 39, 40, 41, 42, 43, 44, 45, 46, 47, 48, 49, 50, 51, 52, 53, 81, 82, 83, 67, 68, 69, 70, 71, 72, 73, 74, 75, 76, 77, 78, 79, 80, 84, 85] (by decide +kernel) (by decide +kernel)
set_option maxRecDepth 20000 in
theorem gX6_table_X0_save : GoodIn wsX6_table (wsV RX6 60 RX0 yX0_save wsX0_save) := goodIn_app (goodIn_of _ (by decide +kernel)) ggX6_table_X0_save
set_option maxRecDepth 20000 in
theorem ggX6_table_X2_addTable : GoodIn wsX6_table wsX2_addTable := goodIn_r _ [57, 35, 29, 30, 58, 59, 40, 60, 67, 68, 69, 70, 71, 72, 73, 74, 75, 76, 77, 78, 79, 80] (by decide +kernel) (by decide +kernel)
set_option maxRecDepth 20000 in
theorem gX6_table_X2_addTable : GoodIn wsX6_table (wsV RX6 95 RX2 yX2_addTable wsX2_addTable) := goodIn_app (goodIn_of _ (by decide +kernel)) ggX6_table_X2_addTable
theorem dX6_table_0 : decode cX6_table 0 = .ok (.iload_n 1, 1) := by decide +kernel
theorem dX6_table_1 : decode cX6_table 1 = .ok (.iconst 3, 1) := by decide +kernel
theorem dX6_table_2 : decode cX6_table 2 = .ok (.if_icmp .lt 9, 3) := by decide +kernel
theorem dX6_table_5 : decode cX6_table 5 = .ok (.iload_n 1, 1) := by decide +kernel
theorem dX6_table_6 : decode cX6_table 6 = .ok (.bipush 8, 2) := by decide +kernel
theorem dX6_table_8 : decode cX6_table 8 = .ok (.if_icmp .le 13, 3) := by decide +kernel
theorem dX6_table_11 : decode cX6_table 11 = .ok (.new 44, 3) := by decide +kernel
theorem dX6_table_14 : decode cX6_table 14 = .ok (.dup, 1) := by decide +kernel
theorem dX6_table_15 : decode cX6_table 15 = .ok (.ldc 88, 2) := by decide +kernel
theorem dX6_table_17 : decode cX6_table 17 = .ok (.invokespecial 48, 3) := by decide +kernel
theorem dX6_table_20 : decode cX6_table 20 = .ok (.athrow, 1) := by decide +kernel
theorem dX6_table_21 : decode cX6_table 21 = .ok (.aload_n 0, 1) := by decide +kernel
theorem dX6_table_22 : decode cX6_table 22 = .ok (.getfield 10, 3) := by decide +kernel
theorem dX6_table_25 : decode cX6_table 25 = .ok (.getfield 90, 3) := by decide +kernel
theorem dX6_table_28 : decode cX6_table 28 = .ok (.iconst 4, 1) := by decide +kernel
theorem dX6_table_29 : decode cX6_table 29 = .ok (.if_icmp .lt 13, 3) := by decide +kernel
theorem dX6_table_32 : decode cX6_table 32 = .ok (.new 55, 3) := by decide +kernel
theorem dX6_table_35 : decode cX6_table 35 = .ok (.dup, 1) := by decide +kernel
theorem dX6_table_36 : decode cX6_table 36 = .ok (.ldc 93, 2) := by decide +kernel
theorem dX6_table_38 : decode cX6_table 38 = .ok (.invokespecial 59, 3) := by decide +kernel
theorem dX6_table_41 : decode cX6_table 41 = .ok (.athrow, 1) := by decide +kernel
theorem dX6_table_42 : decode cX6_table 42 = .ok (.aload_n 0, 1) := by decide +kernel
theorem dX6_table_43 : decode cX6_table 43 = .ok (.getfield 25, 3) := by decide +kernel
theorem dX6_table_46 : decode cX6_table 46 = .ok (.aload_n 0, 1) := by decide +kernel
theorem dX6_table_47 : decode cX6_table 47 = .ok (.getfield 10, 3) := by decide +kernel
theorem dX6_table_50 : decode cX6_table 50 = .ok (.invokevirtual 60, 3) := by decide +kernel
theorem dX6_table_53 : decode cX6_table 53 = .ok (.aload_n 0, 1) := by decide +kernel
theorem dX6_table_54 : decode cX6_table 54 = .ok (.getfield 10, 3) := by decide +kernel
theorem dX6_table_57 : decode cX6_table 57 = .ok (.iload_n 1, 1) := by decide +kernel
theorem dX6_table_58 : decode cX6_table 58 = .ok (.invokevirtual 95, 3) := by decide +kernel
theorem dX6_table_61 : decode cX6_table 61 = .ok (.ireturn, 1) := by decide +kernel
set_option maxRecDepth 20000 in
theorem ggX6_feud_X6_needTwoFamilies : GoodIn wsX6_feud wsX6_needTwoFamilies := goodIn_ca (goodIn_r _ [8, 9, 10, 11, 12, 7, 13] (by decide +kernel) (by decide +kernel)) (goodIn_sub (fun _ h => List.mem_cons_of_mem _ (List.mem_append_right _ h)) (by decide +kernel))
set_option maxRecDepth 20000 in
theorem gX6_feud_X6_needTwoFamilies : GoodIn wsX6_feud (va_wsS RX6 99 yX6_needTwoFamilies wsX6_needTwoFamilies) := goodIn_app (goodIn_of _ (by decide +kernel)) ggX6_feud_X6_needTwoFamilies
set_option maxRecDepth 20000 in
theorem ggX6_feud_X2_hasFeud : GoodIn wsX6_feud wsX2_hasFeud := goodIn_r _ [18, 19, 20, 21, 17, 22, 23, 24, 25, 26, 27, 28, 29, 30, 31, 32, 33, 34, 35, 36, 37, 38, 39, 40, 134, 135, 136, 137, 138, 139, 140, 141, 142, 143, 144, 145, 146, 147, 148, 149] (by decide +kernel) (by decide +kernel)
set_option maxRecDepth 20000 in
theorem gX6_feud_X2_hasFeud : GoodIn wsX6_feud (wsV RX6 103 RX2 yX2_hasFeud wsX2_hasFeud) := goodIn_app (goodIn_of _ (by decide +kernel)) ggX6_feud_X2_hasFeud
set_option maxRecDepth 20000 in
theorem ggX6_feud_X1_isFull : GoodIn wsX6_feud wsX1_isFull := goodIn_r _ [44, 35, 40, 148, 149] (by decide +kernel) (by decide +kernel)
set_option maxRecDepth 20000 in
theorem gX6_feud_X1_isFull : GoodIn wsX6_feud (wsV RX6 111 RX1 yX1_isFull wsX1_isFull) := goodIn_app (goodIn_of _ (by decide +kernel)) ggX6_feud_X1_isFull
set_option maxRecDepth 20000 in
theorem ggX6_feud_X0_save : GoodIn wsX6_feud wsX0_save := goodIn_r _ [49, 50, 51, 52, 53, 54, 48, 55, 56, 57, 58, 59, 17, 60, 61, 62, 63, 64, 65, 66, 67, 68, 19, 69, 70, 71, 72, 73, 74, 75, 76, 77, 78, 79, 80, 33, 81, 40, 35, 82, 24, 25, 26, 83, 150, 151, 152, 134, 135, 136, 137, 138, 139, 140, 141, 142, 143, 144, 145, 146, 147, 148, 149] (by decide +kernel) (by decide +kernel)
set_option maxRecDepth 20000 in
theorem gX6_feud_X0_save : GoodIn wsX6_feud (wsV RX6 60 RX0 yX0_save wsX0_save) := goodIn_app (goodIn_of _ (by decide +kernel)) ggX6_feud_X0_save
set_option maxRecDepth 20000 in
theorem ggX6_feud_X2_beginFeud : GoodIn wsX6_feud wsX2_beginFeud := goodIn_r _ [87, 19, 71, 20, 21, 17, 22, 23, 24, 25, 26, 27, 28, 29, 88, 89, 90, 33, 91, 40, 35, 92, 42, 43, 44, 93, 94, 76, 95, 96, 97, 98, 99, 100, 101, 102, 103, 61, 104, 105, 106, 107, 66, 108, 109, 110, 111, 67, 112, 113, 114, 115, 116, 117, 118, 119, 120, 121, 122, 64, 65, 69, 73, 123, 124, 125, 126, 127, 36, 37, 38, 39, 134, 135, 136, 137, 138, 139, 140, 141, 142, 143, 144, 145, 146, 147, 148, 149] (by decide +kernel) (by decide +kernel)
set_option maxRecDepth 20000 in
theorem gX6_feud_X2_beginFeud : GoodIn wsX6_feud (wsV RX6 119 RX2 yX2_beginFeud wsX2_beginFeud) := goodIn_app (goodIn_of _ (by decide +kernel)) ggX6_feud_X2_beginFeud
theorem dX6_feud_0 : decode cX6_feud 0 = .ok (.iload_n 1, 1) := by decide +kernel
theorem dX6_feud_1 : decode cX6_feud 1 = .ok (.iload_n 2, 1) := by decide +kernel
theorem dX6_feud_2 : decode cX6_feud 2 = .ok (.invokestatic 99, 3) := by decide +kernel
theorem dX6_feud_5 : decode cX6_feud 5 = .ok (.aload_n 0, 1) := by decide +kernel
theorem dX6_feud_6 : decode cX6_feud 6 = .ok (.getfield 10, 3) := by decide +kernel
theorem dX6_feud_9 : decode cX6_feud 9 = .ok (.iload_n 1, 1) := by decide +kernel
theorem dX6_feud_10 : decode cX6_feud 10 = .ok (.iload_n 2, 1) := by decide +kernel
theorem dX6_feud_11 : decode cX6_feud 11 = .ok (.invokevirtual 103, 3) := by decide +kernel
theorem dX6_feud_14 : decode cX6_feud 14 = .ok (.ifCond .ne 16, 3) := by decide +kernel
theorem dX6_feud_17 : decode cX6_feud 17 = .ok (.aload_n 0, 1) := by decide +kernel
theorem dX6_feud_18 : decode cX6_feud 18 = .ok (.getfield 10, 3) := by decide +kernel
theorem dX6_feud_21 : decode cX6_feud 21 = .ok (.getfield 107, 3) := by decide +kernel
theorem dX6_feud_24 : decode cX6_feud 24 = .ok (.invokevirtual 111, 3) := by decide +kernel
theorem dX6_feud_27 : decode cX6_feud 27 = .ok (.ifCond .eq 13, 3) := by decide +kernel
theorem dX6_feud_30 : decode cX6_feud 30 = .ok (.new 55, 3) := by decide +kernel
theorem dX6_feud_33 : decode cX6_feud 33 = .ok (.dup, 1) := by decide +kernel
theorem dX6_feud_34 : decode cX6_feud 34 = .ok (.ldc 117, 2) := by decide +kernel
theorem dX6_feud_36 : decode cX6_feud 36 = .ok (.invokespecial 59, 3) := by decide +kernel
theorem dX6_feud_39 : decode cX6_feud 39 = .ok (.athrow, 1) := by decide +kernel
theorem dX6_feud_40 : decode cX6_feud 40 = .ok (.aload_n 0, 1) := by decide +kernel
theorem dX6_feud_41 : decode cX6_feud 41 = .ok (.getfield 25, 3) := by decide +kernel
theorem dX6_feud_44 : decode cX6_feud 44 = .ok (.aload_n 0, 1) := by decide +kernel
theorem dX6_feud_45 : decode cX6_feud 45 = .ok (.getfield 10, 3) := by decide +kernel
theorem dX6_feud_48 : decode cX6_feud 48 = .ok (.invokevirtual 60, 3) := by decide +kernel
theorem dX6_feud_51 : decode cX6_feud 51 = .ok (.aload_n 0, 1) := by decide +kernel
theorem dX6_feud_52 : decode cX6_feud 52 = .ok (.getfield 10, 3) := by decide +kernel
theorem dX6_feud_55 : decode cX6_feud 55 = .ok (.iload_n 1, 1) := by decide +kernel
theorem dX6_feud_56 : decode cX6_feud 56 = .ok (.iload_n 2, 1) := by decide +kernel
theorem dX6_feud_57 : decode cX6_feud 57 = .ok (.invokevirtual 119, 3) := by decide +kernel
theorem dX6_feud_60 : decode cX6_feud 60 = .ok (.ireturn, 1) := by decide +kernel
set_option maxRecDepth 20000 in
theorem ggX6_peace_X6_needTwoFamilies : GoodIn wsX6_peace wsX6_needTwoFamilies := goodIn_ca (goodIn_r _ [8, 9, 10, 11, 12, 7, 13] (by decide +kernel) (by decide +kernel)) (goodIn_sub (fun _ h => List.mem_cons_of_mem _ (List.mem_append_right _ h)) (by decide +kernel))
set_option maxRecDepth 20000 in
theorem gX6_peace_X6_needTwoFamilies : GoodIn wsX6_peace (va_wsS RX6 99 yX6_needTwoFamilies wsX6_needTwoFamilies) := goodIn_app (goodIn_of _ (by decide +kernel)) ggX6_peace_X6_needTwoFamilies
set_option maxRecDepth 20000 in
theorem ggX6_peace_X2_hasFeud : GoodIn wsX6_peace wsX2_hasFeud := goodIn_r _ [18, 19, 20, 21, 17, 22, 23, 24, 25, 26, 27, 28, 29, 30, 31, 32, 33, 34, 35, 36, 37, 38, 39, 40, 98, 99, 100, 101, 102, 103, 104, 105, 106, 107, 108, 109, 110, 111, 112, 113] (by decide +kernel) (by decide +kernel)
set_option maxRecDepth 20000 in
theorem gX6_peace_X2_hasFeud : GoodIn wsX6_peace (wsV RX6 103 RX2 yX2_hasFeud wsX2_hasFeud) := goodIn_app (goodIn_of _ (by decide +kernel)) ggX6_peace_X2_hasFeud
set_option maxRecDepth 20000 in
theorem ggX6_peace_X0_save : GoodIn wsX6_peace wsX0_save := goodIn_r _ [45, 46, 47, 48, 49, 50, 44, 51, 52, 53, 54, 55, 17, 56, 57, 58, 59, 60, 61, 62, 63, 64, 19, 65, 66, 67, 68, 69, 70, 71, 72, 73, 74, 75, 76, 33, 77, 40, 35, 78, 24, 25, 26, 79, 114, 115, 116, 98, 99, 100, 101, 102, 103, 104, 105, 106, 107, 108, 109, 110, 111, 112, 113] (by decide +kernel) (by decide +kernel)
set_option maxRecDepth 20000 in
theorem gX6_peace_X0_save : GoodIn wsX6_peace (wsV RX6 60 RX0 yX0_save wsX0_save) := goodIn_app (goodIn_of _ (by decide +kernel)) ggX6_peace_X0_save
set_option maxRecDepth 20000 in
theorem ggX6_peace_X2_feudCode : GoodIn wsX6_peace wsX2_feudCode := goodIn_r _ [22, 23, 24, 25, 26, 27, 28, 29] (by decide +kernel) (by decide +kernel)
set_option maxRecDepth 20000 in
theorem gX6_peace_X2_feudCode : GoodIn wsX6_peace (va_wsS RX6 124 yX2_feudCode wsX2_feudCode) := goodIn_app (goodIn_of _ (by decide +kernel)) ggX6_peace_X2_feudCode
set_option maxRecDepth 20000 in
theorem ggX6_peace_X1_dropItem : GoodIn wsX6_peace wsX1_dropItem := goodIn_r _ [84, 35, 40, 36, 37, 38, 33, 39, 85, 86, 72, 87, 112, 113] (by decide +kernel) (by decide +kernel)
set_option maxRecDepth 20000 in
theorem gX6_peace_X1_dropItem : GoodIn wsX6_peace (wsV RX6 127 RX1 yX1_dropItem wsX1_dropItem) := goodIn_app (goodIn_of _ (by decide +kernel)) ggX6_peace_X1_dropItem
set_option maxRecDepth 20000 in
theorem ggX6_peace_X1_length : GoodIn wsX6_peace wsX1_length := goodIn_r _ [91, 35, 112, 113] (by decide +kernel) (by decide +kernel)
set_option maxRecDepth 20000 in
theorem gX6_peace_X1_length : GoodIn wsX6_peace (wsV RX6 130 RX1 yX1_length wsX1_length) := goodIn_app (goodIn_of _ (by decide +kernel)) ggX6_peace_X1_length
theorem dX6_peace_0 : decode cX6_peace 0 = .ok (.iload_n 1, 1) := by decide +kernel
theorem dX6_peace_1 : decode cX6_peace 1 = .ok (.iload_n 2, 1) := by decide +kernel
theorem dX6_peace_2 : decode cX6_peace 2 = .ok (.invokestatic 99, 3) := by decide +kernel
theorem dX6_peace_5 : decode cX6_peace 5 = .ok (.aload_n 0, 1) := by decide +kernel
theorem dX6_peace_6 : decode cX6_peace 6 = .ok (.getfield 10, 3) := by decide +kernel
theorem dX6_peace_9 : decode cX6_peace 9 = .ok (.iload_n 1, 1) := by decide +kernel
theorem dX6_peace_10 : decode cX6_peace 10 = .ok (.iload_n 2, 1) := by decide +kernel
theorem dX6_peace_11 : decode cX6_peace 11 = .ok (.invokevirtual 103, 3) := by decide +kernel
theorem dX6_peace_14 : decode cX6_peace 14 = .ok (.ifCond .ne 13, 3) := by decide +kernel
theorem dX6_peace_17 : decode cX6_peace 17 = .ok (.new 55, 3) := by decide +kernel
theorem dX6_peace_20 : decode cX6_peace 20 = .ok (.dup, 1) := by decide +kernel
theorem dX6_peace_21 : decode cX6_peace 21 = .ok (.ldc 122, 2) := by decide +kernel
theorem dX6_peace_23 : decode cX6_peace 23 = .ok (.invokespecial 59, 3) := by decide +kernel
theorem dX6_peace_26 : decode cX6_peace 26 = .ok (.athrow, 1) := by decide +kernel
theorem dX6_peace_27 : decode cX6_peace 27 = .ok (.aload_n 0, 1) := by decide +kernel
theorem dX6_peace_28 : decode cX6_peace 28 = .ok (.getfield 25, 3) := by decide +kernel
theorem dX6_peace_31 : decode cX6_peace 31 = .ok (.aload_n 0, 1) := by decide +kernel
theorem dX6_peace_32 : decode cX6_peace 32 = .ok (.getfield 10, 3) := by decide +kernel
theorem dX6_peace_35 : decode cX6_peace 35 = .ok (.invokevirtual 60, 3) := by decide +kernel
theorem dX6_peace_38 : decode cX6_peace 38 = .ok (.aload_n 0, 1) := by decide +kernel
theorem dX6_peace_39 : decode cX6_peace 39 = .ok (.getfield 10, 3) := by decide +kernel
theorem dX6_peace_42 : decode cX6_peace 42 = .ok (.getfield 107, 3) := by decide +kernel
theorem dX6_peace_45 : decode cX6_peace 45 = .ok (.iload_n 1, 1) := by decide +kernel
theorem dX6_peace_46 : decode cX6_peace 46 = .ok (.iload_n 2, 1) := by decide +kernel
theorem dX6_peace_47 : decode cX6_peace 47 = .ok (.invokestatic 124, 3) := by decide +kernel
theorem dX6_peace_50 : decode cX6_peace 50 = .ok (.invokevirtual 127, 3) := by decide +kernel
theorem dX6_peace_53 : decode cX6_peace 53 = .ok (.aload_n 0, 1) := by decide +kernel
theorem dX6_peace_54 : decode cX6_peace 54 = .ok (.getfield 10, 3) := by decide +kernel
theorem dX6_peace_57 : decode cX6_peace 57 = .ok (.getfield 107, 3) := by decide +kernel
theorem dX6_peace_60 : decode cX6_peace 60 = .ok (.invokevirtual 130, 3) := by decide +kernel
theorem dX6_peace_63 : decode cX6_peace 63 = .ok (.ireturn, 1) := by decide +kernel
set_option maxRecDepth 20000 in
theorem ggX6_set_X3_at : GoodIn wsX6_set wsX3_at := goodIn_r _ [12] (by decide +kernel) (by decide +kernel)
set_option maxRecDepth 20000 in
theorem gX6_set_X3_at : GoodIn wsX6_set (va_wsS RX6 78 yX3_at wsX3_at) := goodIn_app (goodIn_of _ (by decide +kernel)) ggX6_set_X3_at
set_option maxRecDepth 20000 in
theorem ggX6_set_X0_save : GoodIn wsX6_set wsX0_save := goodIn_r _ [17, 18, 19, 20, 21, 22, 16, 23, 24, 25, 26, 27, 28, 29, 30, 31, 32, 33, 34, 35, 36, 37, 38, 39, 40, 41, 42, 43, 44, 45, 11, 46, 47, 48, 49, 50, 51, 52, 53, 54, 55, 56, 57, 58, 82, 83, 84, 68, 69, 70, 71, 72, 73, 74, 75, 76, 77, 78, 79, 80, 81, 85, 86] (by decide +kernel) (by decide +kernel)
set_option maxRecDepth 20000 in
theorem gX6_set_X0_save : GoodIn wsX6_set (wsV RX6 60 RX0 yX0_save wsX0_save) := goodIn_app (goodIn_of _ (by decide +kernel)) ggX6_set_X0_save
set_option maxRecDepth 20000 in
theorem ggX6_set_X3_put : GoodIn wsX6_set wsX3_put := goodIn_r _ [61] (by decide +kernel) (by decide +kernel)
set_option maxRecDepth 20000 in
theorem gX6_set_X3_put : GoodIn wsX6_set (va_wsS RX6 84 yX3_put wsX3_put) := goodIn_app (goodIn_of _ (by decide +kernel)) ggX6_set_X3_put
theorem dX6_set_0 : decode cX6_set 0 = .ok (.iload_n 1, 1) := by decide +kernel
theorem dX6_set_1 : decode cX6_set 1 = .ok (.ifCond .lt 8, 3) := by decide +kernel
theorem dX6_set_4 : decode cX6_set 4 = .ok (.iload_n 1, 1) := by decide +kernel
theorem dX6_set_5 : decode cX6_set 5 = .ok (.iconst 4, 1) := by decide +kernel
theorem dX6_set_6 : decode cX6_set 6 = .ok (.if_icmp .lt 13, 3) := by decide +kernel
theorem dX6_set_9 : decode cX6_set 9 = .ok (.new 134, 3) := by decide +kernel
theorem dX6_set_12 : decode cX6_set 12 = .ok (.dup, 1) := by decide +kernel
theorem dX6_set_13 : decode cX6_set 13 = .ok (.ldc 136, 2) := by decide +kernel
theorem dX6_set_15 : decode cX6_set 15 = .ok (.invokespecial 138, 3) := by decide +kernel
theorem dX6_set_18 : decode cX6_set 18 = .ok (.athrow, 1) := by decide +kernel
theorem dX6_set_19 : decode cX6_set 19 = .ok (.iload_n 2, 1) := by decide +kernel
theorem dX6_set_20 : decode cX6_set 20 = .ok (.getstatic 139, 3) := by decide +kernel
theorem dX6_set_23 : decode cX6_set 23 = .ok (.iload_n 1, 1) := by decide +kernel
theorem dX6_set_24 : decode cX6_set 24 = .ok (.invokestatic 78, 3) := by decide +kernel
theorem dX6_set_27 : decode cX6_set 27 = .ok (.if_icmp .lt 14, 3) := by decide +kernel
theorem dX6_set_30 : decode cX6_set 30 = .ok (.iload_n 2, 1) := by decide +kernel
theorem dX6_set_31 : decode cX6_set 31 = .ok (.getstatic 142, 3) := by decide +kernel
theorem dX6_set_34 : decode cX6_set 34 = .ok (.iload_n 1, 1) := by decide +kernel
theorem dX6_set_35 : decode cX6_set 35 = .ok (.invokestatic 78, 3) := by decide +kernel
theorem dX6_set_38 : decode cX6_set 38 = .ok (.if_icmp .le 13, 3) := by decide +kernel
theorem dX6_set_41 : decode cX6_set 41 = .ok (.new 44, 3) := by decide +kernel
theorem dX6_set_44 : decode cX6_set 44 = .ok (.dup, 1) := by decide +kernel
theorem dX6_set_45 : decode cX6_set 45 = .ok (.ldc 145, 2) := by decide +kernel
theorem dX6_set_47 : decode cX6_set 47 = .ok (.invokespecial 48, 3) := by decide +kernel
theorem dX6_set_50 : decode cX6_set 50 = .ok (.athrow, 1) := by decide +kernel
theorem dX6_set_51 : decode cX6_set 51 = .ok (.aload_n 0, 1) := by decide +kernel
theorem dX6_set_52 : decode cX6_set 52 = .ok (.getfield 25, 3) := by decide +kernel
theorem dX6_set_55 : decode cX6_set 55 = .ok (.aload_n 0, 1) := by decide +kernel
theorem dX6_set_56 : decode cX6_set 56 = .ok (.getfield 10, 3) := by decide +kernel
theorem dX6_set_59 : decode cX6_set 59 = .ok (.invokevirtual 60, 3) := by decide +kernel
theorem dX6_set_62 : decode cX6_set 62 = .ok (.aload_n 0, 1) := by decide +kernel
theorem dX6_set_63 : decode cX6_set 63 = .ok (.getfield 10, 3) := by decide +kernel
theorem dX6_set_66 : decode cX6_set 66 = .ok (.getfield 147, 3) := by decide +kernel
theorem dX6_set_69 : decode cX6_set 69 = .ok (.iload_n 1, 1) := by decide +kernel
theorem dX6_set_70 : decode cX6_set 70 = .ok (.invokestatic 78, 3) := by decide +kernel
theorem dX6_set_73 : decode cX6_set 73 = .ok (.istore_n 3, 1) := by decide +kernel
theorem dX6_set_74 : decode cX6_set 74 = .ok (.aload_n 0, 1) := by decide +kernel
theorem dX6_set_75 : decode cX6_set 75 = .ok (.getfield 10, 3) := by decide +kernel
theorem dX6_set_78 : decode cX6_set 78 = .ok (.getfield 147, 3) := by decide +kernel
theorem dX6_set_81 : decode cX6_set 81 = .ok (.iload_n 1, 1) := by decide +kernel
theorem dX6_set_82 : decode cX6_set 82 = .ok (.iload_n 2, 1) := by decide +kernel
theorem dX6_set_83 : decode cX6_set 83 = .ok (.invokestatic 84, 3) := by decide +kernel
theorem dX6_set_86 : decode cX6_set 86 = .ok (.iload_n 3, 1) := by decide +kernel
theorem dX6_set_87 : decode cX6_set 87 = .ok (.ireturn, 1) := by decide +kernel
set_option maxRecDepth 20000 in
theorem ggX6_sit_X6_needGuestAndSeat : GoodIn wsX6_sit wsX6_needGuestAndSeat := goodIn_ca (goodIn_r _ [9, 10, 11, 12, 8, 13, 14, 15, 3, 16, 17, 18, 19, 20, 21, 22, 23, 24, 25, 26, 27, 28, 29, 30, 31, 32, 33, 34, 35, 36, 37, 38, 39, 173, 174, 175, 176, 177, 178, 179, 180, 181, 182, 183, 184, 185, 186, 187, 188, 189, 190, 191, 192] (by decide +kernel) (by decide +kernel)) (goodIn_sub (fun _ h => List.mem_cons_of_mem _ (List.mem_append_right _ h)) (by decide +kernel))
set_option maxRecDepth 20000 in
theorem gX6_sit_X6_needGuestAndSeat : GoodIn wsX6_sit (wsV RX6 150 RX6 yX6_needGuestAndSeat wsX6_needGuestAndSeat) := goodIn_app (goodIn_of _ (by decide +kernel)) ggX6_sit_X6_needGuestAndSeat
set_option maxRecDepth 20000 in
theorem ggX6_sit_X2_reasonAgainst : GoodIn wsX6_sit wsX2_reasonAgainst := goodIn_r _ [43, 44, 45, 46, 47, 48, 49, 50, 19, 51, 52, 53, 54, 55, 56, 57, 58, 59, 60, 61, 62, 63, 64, 65, 66, 67, 68, 69, 70, 71, 72, 73, 74, 75, 76, 77, 78, 79, 35, 36, 37, 38, 39, 80, 81, 82, 83, 179, 180, 181, 182, 183, 184, 185, 186, 187, 188, 189, 190, 191, 192, 193, 194] (by decide +kernel) (by decide +kernel)
set_option maxRecDepth 20000 in
theorem gX6_sit_X2_reasonAgainst : GoodIn wsX6_sit (wsV RX6 154 RX2 yX2_reasonAgainst wsX2_reasonAgainst) := goodIn_app (goodIn_of _ (by decide +kernel)) ggX6_sit_X2_reasonAgainst
set_option maxRecDepth 20000 in
theorem ggX6_sit_X0_save : GoodIn wsX6_sit wsX0_save := goodIn_r _ [88, 89, 90, 91, 92, 93, 87, 94, 95, 96, 97, 98, 19, 99, 45, 44, 100, 46, 101, 39, 52, 47, 64, 102, 21, 34, 103, 104, 105, 106, 58, 107, 108, 109, 110, 68, 111, 75, 70, 112, 113, 114, 115, 116, 195, 196, 197, 179, 180, 181, 182, 183, 184, 185, 186, 187, 188, 189, 190, 191, 192, 193, 194] (by decide +kernel) (by decide +kernel)
set_option maxRecDepth 20000 in
theorem gX6_sit_X0_save : GoodIn wsX6_sit (wsV RX6 60 RX0 yX0_save wsX0_save) := goodIn_app (goodIn_of _ (by decide +kernel)) ggX6_sit_X0_save
set_option maxRecDepth 20000 in
theorem ggX6_sit_X2_takeSeat : GoodIn wsX6_sit wsX2_takeSeat := goodIn_r _ [120, 46, 101, 52, 102, 103, 121, 122, 123, 19, 124, 56, 57, 58, 59, 125, 126, 127, 128, 104, 129, 130, 131, 132, 133, 134, 68, 135, 70, 75, 136, 72, 73, 74, 137, 138, 139, 140, 141, 142, 143, 144, 145, 179, 180, 181, 182, 183, 184, 185, 186, 187, 188, 189, 190, 191, 192, 193, 194] (by decide +kernel) (by decide +kernel)
set_option maxRecDepth 20000 in
theorem gX6_sit_X2_takeSeat : GoodIn wsX6_sit (wsV RX6 160 RX2 yX2_takeSeat wsX2_takeSeat) := goodIn_app (goodIn_of _ (by decide +kernel)) ggX6_sit_X2_takeSeat
set_option maxRecDepth 20000 in
theorem ggX6_sit_X4_byGuests : GoodIn wsX6_sit wsX4_byGuests := goodIn_r _ [149, 150, 151, 148, 152, 153, 122, 123, 19, 124, 46, 56, 57, 58, 59, 154, 155, 156, 157, 158, 54, 55, 159, 160, 161, 162, 163, 164, 165, 166, 114, 167, 168, 17, 18, 20, 21, 169, 36, 37, 38, 39, 170, 171, 172, 179, 180, 181, 182, 183, 184, 185, 186, 187, 188, 189, 190, 191, 192] (by decide +kernel) (by decide +kernel)
set_option maxRecDepth 20000 in
theorem gX6_sit_X4_byGuests : GoodIn wsX6_sit (va_wsS RX6 163 yX4_byGuests wsX4_byGuests) := goodIn_app (goodIn_of _ (by decide +kernel)) ggX6_sit_X4_byGuests
theorem dX6_sit_0 : decode cX6_sit 0 = .ok (.aload_n 0, 1) := by decide +kernel
theorem dX6_sit_1 : decode cX6_sit 1 = .ok (.iload_n 1, 1) := by decide +kernel
theorem dX6_sit_2 : decode cX6_sit 2 = .ok (.iload_n 2, 1) := by decide +kernel
theorem dX6_sit_3 : decode cX6_sit 3 = .ok (.iload_n 3, 1) := by decide +kernel
theorem dX6_sit_4 : decode cX6_sit 4 = .ok (.invokevirtual 150, 3) := by decide +kernel
theorem dX6_sit_7 : decode cX6_sit 7 = .ok (.aload_n 0, 1) := by decide +kernel
theorem dX6_sit_8 : decode cX6_sit 8 = .ok (.getfield 10, 3) := by decide +kernel
theorem dX6_sit_11 : decode cX6_sit 11 = .ok (.iload_n 1, 1) := by decide +kernel
theorem dX6_sit_12 : decode cX6_sit 12 = .ok (.iload_n 2, 1) := by decide +kernel
theorem dX6_sit_13 : decode cX6_sit 13 = .ok (.iload_n 3, 1) := by decide +kernel
theorem dX6_sit_14 : decode cX6_sit 14 = .ok (.invokevirtual 154, 3) := by decide +kernel
theorem dX6_sit_17 : decode cX6_sit 17 = .ok (.ifCond .eq 13, 3) := by decide +kernel
theorem dX6_sit_20 : decode cX6_sit 20 = .ok (.new 55, 3) := by decide +kernel
theorem dX6_sit_23 : decode cX6_sit 23 = .ok (.dup, 1) := by decide +kernel
theorem dX6_sit_24 : decode cX6_sit 24 = .ok (.ldc 158, 2) := by decide +kernel
theorem dX6_sit_26 : decode cX6_sit 26 = .ok (.invokespecial 59, 3) := by decide +kernel
theorem dX6_sit_29 : decode cX6_sit 29 = .ok (.athrow, 1) := by decide +kernel
theorem dX6_sit_30 : decode cX6_sit 30 = .ok (.aload_n 0, 1) := by decide +kernel
theorem dX6_sit_31 : decode cX6_sit 31 = .ok (.getfield 25, 3) := by decide +kernel
theorem dX6_sit_34 : decode cX6_sit 34 = .ok (.aload_n 0, 1) := by decide +kernel
theorem dX6_sit_35 : decode cX6_sit 35 = .ok (.getfield 10, 3) := by decide +kernel
theorem dX6_sit_38 : decode cX6_sit 38 = .ok (.invokevirtual 60, 3) := by decide +kernel
theorem dX6_sit_41 : decode cX6_sit 41 = .ok (.aload_n 0, 1) := by decide +kernel
theorem dX6_sit_42 : decode cX6_sit 42 = .ok (.getfield 10, 3) := by decide +kernel
theorem dX6_sit_45 : decode cX6_sit 45 = .ok (.iload_n 1, 1) := by decide +kernel
theorem dX6_sit_46 : decode cX6_sit 46 = .ok (.iload_n 2, 1) := by decide +kernel
theorem dX6_sit_47 : decode cX6_sit 47 = .ok (.iload_n 3, 1) := by decide +kernel
theorem dX6_sit_48 : decode cX6_sit 48 = .ok (.invokevirtual 160, 3) := by decide +kernel
theorem dX6_sit_51 : decode cX6_sit 51 = .ok (.aload_n 0, 1) := by decide +kernel
theorem dX6_sit_52 : decode cX6_sit 52 = .ok (.getfield 10, 3) := by decide +kernel
theorem dX6_sit_55 : decode cX6_sit 55 = .ok (.invokestatic 163, 3) := by decide +kernel
theorem dX6_sit_58 : decode cX6_sit 58 = .ok (.ireturn, 1) := by decide +kernel
set_option maxRecDepth 20000 in
theorem ggX6_rise_X6_needGuest : GoodIn wsX6_rise wsX6_needGuest := goodIn_ca (goodIn_r _ [9, 10, 11, 3, 12, 13, 14, 15, 16, 17, 118, 119, 120, 121, 122, 123, 124, 125, 126, 127, 128, 129, 130, 131, 132, 133, 134, 135, 136, 137] (by decide +kernel) (by decide +kernel)) (goodIn_sub (fun _ h => List.mem_cons_of_mem _ (List.mem_append_right _ h)) (by decide +kernel))
set_option maxRecDepth 20000 in
theorem gX6_rise_X6_needGuest : GoodIn wsX6_rise (wsV RX6 68 RX6 yX6_needGuest wsX6_needGuest) := goodIn_app (goodIn_of _ (by decide +kernel)) ggX6_rise_X6_needGuest
set_option maxRecDepth 20000 in
theorem ggX6_rise_X2_isSitting : GoodIn wsX6_rise wsX2_isSitting := goodIn_r _ [21, 22, 23, 24, 25, 26, 124, 125, 126, 127, 128, 129, 130, 131, 132, 133, 134, 135, 136, 137] (by decide +kernel) (by decide +kernel)
set_option maxRecDepth 20000 in
theorem gX6_rise_X2_isSitting : GoodIn wsX6_rise (wsV RX6 169 RX2 yX2_isSitting wsX2_isSitting) := goodIn_app (goodIn_of _ (by decide +kernel)) ggX6_rise_X2_isSitting
set_option maxRecDepth 20000 in
theorem ggX6_rise_X0_save : GoodIn wsX6_rise wsX0_save := goodIn_r _ [31, 32, 33, 34, 35, 36, 30, 37, 38, 39, 40, 41, 15, 42, 43, 44, 45, 22, 46, 47, 48, 49, 50, 51, 17, 52, 53, 54, 55, 56, 25, 57, 58, 59, 60, 61, 62, 63, 64, 65, 66, 67, 68, 69, 138, 139, 140, 124, 125, 126, 127, 128, 129, 130, 131, 132, 133, 134, 135, 136, 137, 141, 142] (by decide +kernel) (by decide +kernel)
set_option maxRecDepth 20000 in
theorem gX6_rise_X0_save : GoodIn wsX6_rise (wsV RX6 60 RX0 yX0_save wsX0_save) := goodIn_app (goodIn_of _ (by decide +kernel)) ggX6_rise_X0_save
set_option maxRecDepth 20000 in
theorem ggX6_rise_X2_standUp : GoodIn wsX6_rise wsX2_standUp := goodIn_r _ [73, 22, 46, 48, 51, 54, 23, 24, 25, 26, 74, 75, 76, 77, 78, 79, 61, 80, 64, 63, 81, 82, 83, 84, 85, 124, 125, 126, 127, 128, 129, 130, 131, 132, 133, 134, 135, 136, 137, 141, 142] (by decide +kernel) (by decide +kernel)
set_option maxRecDepth 20000 in
theorem gX6_rise_X2_standUp : GoodIn wsX6_rise (wsV RX6 174 RX2 yX2_standUp wsX2_standUp) := goodIn_app (goodIn_of _ (by decide +kernel)) ggX6_rise_X2_standUp
set_option maxRecDepth 20000 in
theorem ggX6_rise_X4_byGuests : GoodIn wsX6_rise wsX4_byGuests := goodIn_r _ [89, 90, 91, 88, 92, 93, 19, 20, 15, 21, 22, 23, 24, 25, 26, 94, 95, 96, 97, 98, 99, 100, 101, 102, 103, 104, 105, 106, 107, 108, 67, 109, 110, 13, 14, 16, 17, 111, 112, 113, 114, 47, 115, 116, 117, 124, 125, 126, 127, 128, 129, 130, 131, 132, 133, 134, 135, 136, 137] (by decide +kernel) (by decide +kernel)
set_option maxRecDepth 20000 in
theorem gX6_rise_X4_byGuests : GoodIn wsX6_rise (va_wsS RX6 163 yX4_byGuests wsX4_byGuests) := goodIn_app (goodIn_of _ (by decide +kernel)) ggX6_rise_X4_byGuests
theorem dX6_rise_0 : decode cX6_rise 0 = .ok (.aload_n 0, 1) := by decide +kernel
theorem dX6_rise_1 : decode cX6_rise 1 = .ok (.iload_n 1, 1) := by decide +kernel
theorem dX6_rise_2 : decode cX6_rise 2 = .ok (.invokevirtual 68, 3) := by decide +kernel
theorem dX6_rise_5 : decode cX6_rise 5 = .ok (.aload_n 0, 1) := by decide +kernel
theorem dX6_rise_6 : decode cX6_rise 6 = .ok (.getfield 10, 3) := by decide +kernel
theorem dX6_rise_9 : decode cX6_rise 9 = .ok (.iload_n 1, 1) := by decide +kernel
theorem dX6_rise_10 : decode cX6_rise 10 = .ok (.invokevirtual 169, 3) := by decide +kernel
theorem dX6_rise_13 : decode cX6_rise 13 = .ok (.ifCond .ne 13, 3) := by decide +kernel
theorem dX6_rise_16 : decode cX6_rise 16 = .ok (.new 55, 3) := by decide +kernel
theorem dX6_rise_19 : decode cX6_rise 19 = .ok (.dup, 1) := by decide +kernel
theorem dX6_rise_20 : decode cX6_rise 20 = .ok (.ldc 172, 2) := by decide +kernel
theorem dX6_rise_22 : decode cX6_rise 22 = .ok (.invokespecial 59, 3) := by decide +kernel
theorem dX6_rise_25 : decode cX6_rise 25 = .ok (.athrow, 1) := by decide +kernel
theorem dX6_rise_26 : decode cX6_rise 26 = .ok (.aload_n 0, 1) := by decide +kernel
theorem dX6_rise_27 : decode cX6_rise 27 = .ok (.getfield 25, 3) := by decide +kernel
theorem dX6_rise_30 : decode cX6_rise 30 = .ok (.aload_n 0, 1) := by decide +kernel
theorem dX6_rise_31 : decode cX6_rise 31 = .ok (.getfield 10, 3) := by decide +kernel
theorem dX6_rise_34 : decode cX6_rise 34 = .ok (.invokevirtual 60, 3) := by decide +kernel
theorem dX6_rise_37 : decode cX6_rise 37 = .ok (.aload_n 0, 1) := by decide +kernel
theorem dX6_rise_38 : decode cX6_rise 38 = .ok (.getfield 10, 3) := by decide +kernel
theorem dX6_rise_41 : decode cX6_rise 41 = .ok (.iload_n 1, 1) := by decide +kernel
theorem dX6_rise_42 : decode cX6_rise 42 = .ok (.invokevirtual 174, 3) := by decide +kernel
theorem dX6_rise_45 : decode cX6_rise 45 = .ok (.aload_n 0, 1) := by decide +kernel
theorem dX6_rise_46 : decode cX6_rise 46 = .ok (.getfield 10, 3) := by decide +kernel
theorem dX6_rise_49 : decode cX6_rise 49 = .ok (.invokestatic 163, 3) := by decide +kernel
theorem dX6_rise_52 : decode cX6_rise 52 = .ok (.ireturn, 1) := by decide +kernel
set_option maxRecDepth 20000 in
theorem ggX6_swap_X6_needGuest : GoodIn wsX6_swap wsX6_needGuest := goodIn_ca (goodIn_r _ [12, 13, 14, 6, 15, 16, 17, 18, 19, 20, 178, 179, 180, 181, 182, 183, 184, 185, 186, 187, 188, 189, 190, 191, 192, 193, 194, 195, 196, 197] (by decide +kernel) (by decide +kernel)) (goodIn_sub (fun _ h => List.mem_cons_of_mem _ (List.mem_append_right _ h)) (by decide +kernel))
set_option maxRecDepth 20000 in
theorem gX6_swap_X6_needGuest : GoodIn wsX6_swap (wsV RX6 68 RX6 yX6_needGuest wsX6_needGuest) := goodIn_app (goodIn_of _ (by decide +kernel)) ggX6_swap_X6_needGuest
set_option maxRecDepth 20000 in
theorem ggX6_swap_X2_copyFrom : GoodIn wsX6_swap wsX2_copyFrom := goodIn_r _ [24, 25, 26, 27, 28, 29, 30, 31, 32, 33, 34, 20, 35, 36, 37, 38, 39, 40, 41, 42, 43, 44, 45, 46, 47, 48, 49, 50, 51, 52, 53, 184, 185, 186, 187, 188, 189, 190, 191, 192, 193, 194, 195, 196, 197, 198, 199] (by decide +kernel) (by decide +kernel)
set_option maxRecDepth 20000 in
theorem gX6_swap_X2_copyFrom : GoodIn wsX6_swap (wsV RX6 179 RX2 yX2_copyFrom wsX2_copyFrom) := goodIn_app (goodIn_of _ (by decide +kernel)) ggX6_swap_X2_copyFrom
set_option maxRecDepth 20000 in
theorem ggX6_swap_X2_exchange : GoodIn wsX6_swap wsX2_exchange := goodIn_r _ [57, 28, 29, 58, 59, 60, 18, 61, 62, 63, 40, 64, 65, 66, 67, 68, 31, 34, 37, 69, 70, 71, 72, 73, 74, 45, 75, 48, 47, 76, 77, 78, 79, 80, 81, 82, 83, 84, 85, 16, 17, 19, 20, 86, 87, 88, 89, 90, 91, 92, 93, 35, 94, 95, 96, 97, 30, 98, 99, 100, 101, 26, 25, 32, 102, 103, 104, 105, 106, 107, 108, 109, 110, 111, 112, 33, 113, 114, 115, 116, 117, 118, 119, 120, 121, 122, 123, 124, 125, 126, 127, 128, 129, 36, 130, 131, 132, 133, 134, 135, 136, 137, 184, 185, 186, 187, 188, 189, 190, 191, 192, 193, 194, 195, 196, 197, 198, 199] (by decide +kernel) (by decide +kernel)
set_option maxRecDepth 20000 in
theorem gX6_swap_X2_exchange : GoodIn wsX6_swap (wsV RX6 182 RX2 yX2_exchange wsX2_exchange) := goodIn_app (goodIn_of _ (by decide +kernel)) ggX6_swap_X2_exchange
set_option maxRecDepth 20000 in
theorem ggX6_swap_X0_save : GoodIn wsX6_swap wsX0_save := goodIn_r _ [142, 143, 144, 145, 146, 147, 141, 148, 149, 150, 22, 23, 18, 24, 25, 26, 27, 28, 29, 30, 31, 32, 33, 34, 20, 35, 36, 37, 38, 39, 40, 41, 42, 43, 44, 45, 46, 47, 48, 49, 50, 51, 52, 53, 200, 201, 202, 184, 185, 186, 187, 188, 189, 190, 191, 192, 193, 194, 195, 196, 197, 198, 199] (by decide +kernel) (by decide +kernel)
set_option maxRecDepth 20000 in
theorem gX6_swap_X0_save : GoodIn wsX6_swap (wsV RX6 60 RX0 yX0_save wsX0_save) := goodIn_app (goodIn_of _ (by decide +kernel)) ggX6_swap_X0_save
set_option maxRecDepth 20000 in
theorem ggX6_swap_X4_byGuests : GoodIn wsX6_swap wsX4_byGuests := goodIn_r _ [154, 155, 156, 153, 157, 158, 59, 60, 18, 61, 28, 62, 63, 40, 64, 159, 160, 161, 162, 163, 107, 108, 164, 165, 166, 167, 168, 169, 170, 171, 51, 172, 173, 16, 17, 19, 20, 174, 95, 96, 97, 30, 175, 176, 177, 184, 185, 186, 187, 188, 189, 190, 191, 192, 193, 194, 195, 196, 197] (by decide +kernel) (by decide +kernel)
set_option maxRecDepth 20000 in
theorem gX6_swap_X4_byGuests : GoodIn wsX6_swap (va_wsS RX6 163 yX4_byGuests wsX4_byGuests) := goodIn_app (goodIn_of _ (by decide +kernel)) ggX6_swap_X4_byGuests
theorem dX6_swap_0 : decode cX6_swap 0 = .ok (.aload_n 0, 1) := by decide +kernel
theorem dX6_swap_1 : decode cX6_swap 1 = .ok (.iload_n 1, 1) := by decide +kernel
theorem dX6_swap_2 : decode cX6_swap 2 = .ok (.invokevirtual 68, 3) := by decide +kernel
theorem dX6_swap_5 : decode cX6_swap 5 = .ok (.aload_n 0, 1) := by decide +kernel
theorem dX6_swap_6 : decode cX6_swap 6 = .ok (.iload_n 2, 1) := by decide +kernel
theorem dX6_swap_7 : decode cX6_swap 7 = .ok (.invokevirtual 68, 3) := by decide +kernel
theorem dX6_swap_10 : decode cX6_swap 10 = .ok (.iload_n 1, 1) := by decide +kernel
theorem dX6_swap_11 : decode cX6_swap 11 = .ok (.iload_n 2, 1) := by decide +kernel
theorem dX6_swap_12 : decode cX6_swap 12 = .ok (.if_icmp .ne 13, 3) := by decide +kernel
theorem dX6_swap_15 : decode cX6_swap 15 = .ok (.new 44, 3) := by decide +kernel
theorem dX6_swap_18 : decode cX6_swap 18 = .ok (.dup, 1) := by decide +kernel
theorem dX6_swap_19 : decode cX6_swap 19 = .ok (.ldc 177, 2) := by decide +kernel
theorem dX6_swap_21 : decode cX6_swap 21 = .ok (.invokespecial 48, 3) := by decide +kernel
theorem dX6_swap_24 : decode cX6_swap 24 = .ok (.athrow, 1) := by decide +kernel
theorem dX6_swap_25 : decode cX6_swap 25 = .ok (.aload_n 0, 1) := by decide +kernel
theorem dX6_swap_26 : decode cX6_swap 26 = .ok (.getfield 16, 3) := by decide +kernel
theorem dX6_swap_29 : decode cX6_swap 29 = .ok (.aload_n 0, 1) := by decide +kernel
theorem dX6_swap_30 : decode cX6_swap 30 = .ok (.getfield 10, 3) := by decide +kernel
theorem dX6_swap_33 : decode cX6_swap 33 = .ok (.invokevirtual 179, 3) := by decide +kernel
theorem dX6_swap_36 : decode cX6_swap 36 = .ok (.aload_n 0, 1) := by decide +kernel
theorem dX6_swap_37 : decode cX6_swap 37 = .ok (.getfield 16, 3) := by decide +kernel
theorem dX6_swap_40 : decode cX6_swap 40 = .ok (.iload_n 1, 1) := by decide +kernel
theorem dX6_swap_41 : decode cX6_swap 41 = .ok (.iload_n 2, 1) := by decide +kernel
theorem dX6_swap_42 : decode cX6_swap 42 = .ok (.invokevirtual 182, 3) := by decide +kernel
theorem dX6_swap_45 : decode cX6_swap 45 = .ok (.ifCond .ne 13, 3) := by decide +kernel
theorem dX6_swap_48 : decode cX6_swap 48 = .ok (.new 55, 3) := by decide +kernel
theorem dX6_swap_51 : decode cX6_swap 51 = .ok (.dup, 1) := by decide +kernel
theorem dX6_swap_52 : decode cX6_swap 52 = .ok (.ldc 185, 2) := by decide +kernel
theorem dX6_swap_54 : decode cX6_swap 54 = .ok (.invokespecial 59, 3) := by decide +kernel
theorem dX6_swap_57 : decode cX6_swap 57 = .ok (.athrow, 1) := by decide +kernel
theorem dX6_swap_58 : decode cX6_swap 58 = .ok (.aload_n 0, 1) := by decide +kernel
theorem dX6_swap_59 : decode cX6_swap 59 = .ok (.getfield 25, 3) := by decide +kernel
theorem dX6_swap_62 : decode cX6_swap 62 = .ok (.aload_n 0, 1) := by decide +kernel
theorem dX6_swap_63 : decode cX6_swap 63 = .ok (.getfield 10, 3) := by decide +kernel
theorem dX6_swap_66 : decode cX6_swap 66 = .ok (.invokevirtual 60, 3) := by decide +kernel
theorem dX6_swap_69 : decode cX6_swap 69 = .ok (.aload_n 0, 1) := by decide +kernel
theorem dX6_swap_70 : decode cX6_swap 70 = .ok (.getfield 10, 3) := by decide +kernel
theorem dX6_swap_73 : decode cX6_swap 73 = .ok (.aload_n 0, 1) := by decide +kernel
theorem dX6_swap_74 : decode cX6_swap 74 = .ok (.getfield 16, 3) := by decide +kernel
theorem dX6_swap_77 : decode cX6_swap 77 = .ok (.invokevirtual 179, 3) := by decide +kernel
theorem dX6_swap_80 : decode cX6_swap 80 = .ok (.aload_n 0, 1) := by decide +kernel
theorem dX6_swap_81 : decode cX6_swap 81 = .ok (.getfield 10, 3) := by decide +kernel
theorem dX6_swap_84 : decode cX6_swap 84 = .ok (.invokestatic 163, 3) := by decide +kernel
theorem dX6_swap_87 : decode cX6_swap 87 = .ok (.ireturn, 1) := by decide +kernel
set_option maxRecDepth 20000 in
theorem ggX6_seatAll_X0_save : GoodIn wsX6_seatAll wsX0_save := goodIn_r _ [7, 8, 9, 10, 11, 12, 6, 13, 14, 15, 16, 17, 18, 19, 20, 21, 22, 23, 24, 25, 26, 27, 28, 29, 30, 31, 32, 33, 34, 35, 36, 37, 38, 39, 40, 41, 42, 43, 44, 45, 46, 47, 48, 49, 154, 155, 156, 157, 158, 159, 160, 161, 162, 163, 164, 165, 166, 167, 168, 169, 170, 171, 172] (by decide +kernel) (by decide +kernel)
set_option maxRecDepth 20000 in
theorem gX6_seatAll_X0_save : GoodIn wsX6_seatAll (wsV RX6 60 RX0 yX0_save wsX0_save) := goodIn_app (goodIn_of _ (by decide +kernel)) ggX6_seatAll_X0_save
set_option maxRecDepth 20000 in
theorem ggX6_seatAll_X2_seatStanding : GoodIn wsX6_seatAll wsX2_seatStanding := goodIn_r _ [53, 30, 29, 54, 55, 56, 18, 57, 23, 58, 59, 36, 60, 61, 62, 63, 64, 31, 65, 66, 67, 68, 25, 69, 70, 71, 72, 21, 20, 27, 73, 74, 75, 76, 26, 77, 78, 79, 80, 81, 82, 83, 28, 84, 85, 86, 41, 87, 44, 88, 89, 90, 91, 43, 92, 93, 94, 95, 96, 97, 98, 99, 100, 101, 102, 103, 104, 105, 106, 107, 108, 109, 110, 111, 112, 113, 47, 114, 115, 116, 117, 118, 119, 120, 121, 122, 123, 124, 125, 126, 24, 32, 127, 128, 129, 130, 33, 131, 132, 133, 134, 135, 136, 137, 138, 139, 140, 141, 142, 143, 144, 145, 146, 147, 157, 158, 159, 160, 161, 162, 163, 164, 165, 166, 167, 168, 169, 170, 171, 172] (by decide +kernel) (by decide +kernel)
set_option maxRecDepth 20000 in
theorem gX6_seatAll_X2_seatStanding : GoodIn wsX6_seatAll (wsV RX6 187 RX2 yX2_seatStanding wsX2_seatStanding) := goodIn_app (goodIn_of _ (by decide +kernel)) ggX6_seatAll_X2_seatStanding
theorem dX6_seatAll_0 : decode cX6_seatAll 0 = .ok (.aload_n 0, 1) := by decide +kernel
theorem dX6_seatAll_1 : decode cX6_seatAll 1 = .ok (.getfield 25, 3) := by decide +kernel
theorem dX6_seatAll_4 : decode cX6_seatAll 4 = .ok (.aload_n 0, 1) := by decide +kernel
theorem dX6_seatAll_5 : decode cX6_seatAll 5 = .ok (.getfield 10, 3) := by decide +kernel
theorem dX6_seatAll_8 : decode cX6_seatAll 8 = .ok (.invokevirtual 60, 3) := by decide +kernel
theorem dX6_seatAll_11 : decode cX6_seatAll 11 = .ok (.aload_n 0, 1) := by decide +kernel
theorem dX6_seatAll_12 : decode cX6_seatAll 12 = .ok (.getfield 10, 3) := by decide +kernel
theorem dX6_seatAll_15 : decode cX6_seatAll 15 = .ok (.invokevirtual 187, 3) := by decide +kernel
theorem dX6_seatAll_18 : decode cX6_seatAll 18 = .ok (.ireturn, 1) := by decide +kernel
set_option maxRecDepth 20000 in
theorem ggX6_append_X1_isFull : GoodIn wsX6_append wsX1_isFull := goodIn_r _ [10, 11, 12, 33, 34] (by decide +kernel) (by decide +kernel)
set_option maxRecDepth 20000 in
theorem gX6_append_X1_isFull : GoodIn wsX6_append (wsV RX6 111 RX1 yX1_isFull wsX1_isFull) := goodIn_app (goodIn_of _ (by decide +kernel)) ggX6_append_X1_isFull
set_option maxRecDepth 20000 in
theorem ggX6_append_X1_addLast : GoodIn wsX6_append wsX1_addLast := goodIn_r _ [16, 12, 11, 17, 7, 8, 9, 10, 18, 19, 20, 21, 33, 34] (by decide +kernel) (by decide +kernel)
set_option maxRecDepth 20000 in
theorem gX6_append_X1_addLast : GoodIn wsX6_append (wsV RX6 197 RX1 yX1_addLast wsX1_addLast) := goodIn_app (goodIn_of _ (by decide +kernel)) ggX6_append_X1_addLast
set_option maxRecDepth 20000 in
theorem ggX6_append_X1_length : GoodIn wsX6_append wsX1_length := goodIn_r _ [25, 11, 33, 34] (by decide +kernel) (by decide +kernel)
set_option maxRecDepth 20000 in
theorem gX6_append_X1_length : GoodIn wsX6_append (wsV RX6 130 RX1 yX1_length wsX1_length) := goodIn_app (goodIn_of _ (by decide +kernel)) ggX6_append_X1_length
theorem dX6_append_0 : decode cX6_append 0 = .ok (.iload_n 1, 1) := by decide +kernel
theorem dX6_append_1 : decode cX6_append 1 = .ok (.bipush 33, 2) := by decide +kernel
theorem dX6_append_3 : decode cX6_append 3 = .ok (.if_icmp .lt 9, 3) := by decide +kernel
theorem dX6_append_6 : decode cX6_append 6 = .ok (.iload_n 1, 1) := by decide +kernel
theorem dX6_append_7 : decode cX6_append 7 = .ok (.bipush 126, 2) := by decide +kernel
theorem dX6_append_9 : decode cX6_append 9 = .ok (.if_icmp .le 13, 3) := by decide +kernel
theorem dX6_append_12 : decode cX6_append 12 = .ok (.new 44, 3) := by decide +kernel
theorem dX6_append_15 : decode cX6_append 15 = .ok (.dup, 1) := by decide +kernel
theorem dX6_append_16 : decode cX6_append 16 = .ok (.ldc 190, 2) := by decide +kernel
theorem dX6_append_18 : decode cX6_append 18 = .ok (.invokespecial 48, 3) := by decide +kernel
theorem dX6_append_21 : decode cX6_append 21 = .ok (.athrow, 1) := by decide +kernel
theorem dX6_append_22 : decode cX6_append 22 = .ok (.aload_n 0, 1) := by decide +kernel
theorem dX6_append_23 : decode cX6_append 23 = .ok (.getfield 32, 3) := by decide +kernel
theorem dX6_append_26 : decode cX6_append 26 = .ok (.getfield 192, 3) := by decide +kernel
theorem dX6_append_29 : decode cX6_append 29 = .ok (.invokevirtual 111, 3) := by decide +kernel
theorem dX6_append_32 : decode cX6_append 32 = .ok (.ifCond .eq 13, 3) := by decide +kernel
theorem dX6_append_35 : decode cX6_append 35 = .ok (.new 55, 3) := by decide +kernel
theorem dX6_append_38 : decode cX6_append 38 = .ok (.dup, 1) := by decide +kernel
theorem dX6_append_39 : decode cX6_append 39 = .ok (.ldc 195, 2) := by decide +kernel
theorem dX6_append_41 : decode cX6_append 41 = .ok (.invokespecial 59, 3) := by decide +kernel
theorem dX6_append_44 : decode cX6_append 44 = .ok (.athrow, 1) := by decide +kernel
theorem dX6_append_45 : decode cX6_append 45 = .ok (.aload_n 0, 1) := by decide +kernel
theorem dX6_append_46 : decode cX6_append 46 = .ok (.getfield 32, 3) := by decide +kernel
theorem dX6_append_49 : decode cX6_append 49 = .ok (.getfield 192, 3) := by decide +kernel
theorem dX6_append_52 : decode cX6_append 52 = .ok (.iload_n 1, 1) := by decide +kernel
theorem dX6_append_53 : decode cX6_append 53 = .ok (.invokevirtual 197, 3) := by decide +kernel
theorem dX6_append_56 : decode cX6_append 56 = .ok (.aload_n 0, 1) := by decide +kernel
theorem dX6_append_57 : decode cX6_append 57 = .ok (.getfield 32, 3) := by decide +kernel
theorem dX6_append_60 : decode cX6_append 60 = .ok (.getfield 192, 3) := by decide +kernel
theorem dX6_append_63 : decode cX6_append 63 = .ok (.invokevirtual 130, 3) := by decide +kernel
theorem dX6_append_66 : decode cX6_append 66 = .ok (.ireturn, 1) := by decide +kernel
set_option maxRecDepth 20000 in
theorem ggX6_clearBuffer_X1_length : GoodIn wsX6_clearBuffer wsX1_length := goodIn_r _ [6, 7, 19, 20] (by decide +kernel) (by decide +kernel)
set_option maxRecDepth 20000 in
theorem gX6_clearBuffer_X1_length : GoodIn wsX6_clearBuffer (wsV RX6 130 RX1 yX1_length wsX1_length) := goodIn_app (goodIn_of _ (by decide +kernel)) ggX6_clearBuffer_X1_length
set_option maxRecDepth 20000 in
theorem ggX6_clearBuffer_X1_dropAll : GoodIn wsX6_clearBuffer wsX1_dropAll := goodIn_r _ [11, 7, 19, 20] (by decide +kernel) (by decide +kernel)
set_option maxRecDepth 20000 in
theorem gX6_clearBuffer_X1_dropAll : GoodIn wsX6_clearBuffer (wsV RX6 200 RX1 yX1_dropAll wsX1_dropAll) := goodIn_app (goodIn_of _ (by decide +kernel)) ggX6_clearBuffer_X1_dropAll
theorem dX6_clearBuffer_0 : decode cX6_clearBuffer 0 = .ok (.aload_n 0, 1) := by decide +kernel
theorem dX6_clearBuffer_1 : decode cX6_clearBuffer 1 = .ok (.getfield 32, 3) := by decide +kernel
theorem dX6_clearBuffer_4 : decode cX6_clearBuffer 4 = .ok (.getfield 192, 3) := by decide +kernel
theorem dX6_clearBuffer_7 : decode cX6_clearBuffer 7 = .ok (.invokevirtual 130, 3) := by decide +kernel
theorem dX6_clearBuffer_10 : decode cX6_clearBuffer 10 = .ok (.istore_n 1, 1) := by decide +kernel
theorem dX6_clearBuffer_11 : decode cX6_clearBuffer 11 = .ok (.aload_n 0, 1) := by decide +kernel
theorem dX6_clearBuffer_12 : decode cX6_clearBuffer 12 = .ok (.getfield 32, 3) := by decide +kernel
theorem dX6_clearBuffer_15 : decode cX6_clearBuffer 15 = .ok (.getfield 192, 3) := by decide +kernel
theorem dX6_clearBuffer_18 : decode cX6_clearBuffer 18 = .ok (.invokevirtual 200, 3) := by decide +kernel
theorem dX6_clearBuffer_21 : decode cX6_clearBuffer 21 = .ok (.iload_n 1, 1) := by decide +kernel
theorem dX6_clearBuffer_22 : decode cX6_clearBuffer 22 = .ok (.ireturn, 1) := by decide +kernel
set_option maxRecDepth 20000 in
theorem ggX6_firstError_X5_firstBroken : GoodIn wsX6_firstError wsX5_firstBroken := goodIn_r _ [6, 7, 8, 9, 10, 11, 12, 13, 14, 15, 16, 17, 18, 19, 20, 5, 21, 22, 23, 24, 25, 26, 27, 28, 29, 30, 37, 38, 39] (by decide +kernel) (by decide +kernel)
set_option maxRecDepth 20000 in
theorem gX6_firstError_X5_firstBroken : GoodIn wsX6_firstError (wsV RX6 203 RX5 yX5_firstBroken wsX5_firstBroken) := goodIn_app (goodIn_of _ (by decide +kernel)) ggX6_firstError_X5_firstBroken
theorem dX6_firstError_0 : decode cX6_firstError 0 = .ok (.aload_n 0, 1) := by decide +kernel
theorem dX6_firstError_1 : decode cX6_firstError 1 = .ok (.getfield 32, 3) := by decide +kernel
theorem dX6_firstError_4 : decode cX6_firstError 4 = .ok (.invokevirtual 203, 3) := by decide +kernel
theorem dX6_firstError_7 : decode cX6_firstError 7 = .ok (.ireturn, 1) := by decide +kernel
set_option maxRecDepth 20000 in
theorem ggX6_seats_X5_isComplete : GoodIn wsX6_seats wsX5_isComplete := goodIn_r _ [10, 11, 12, 13, 14, 15, 16, 17, 18, 19, 20, 21, 22, 23, 24, 9, 25, 26, 27, 28, 29, 30, 31, 32, 33, 34, 185, 186, 187] (by decide +kernel) (by decide +kernel)
set_option maxRecDepth 20000 in
theorem gX6_seats_X5_isComplete : GoodIn wsX6_seats (wsV RX6 206 RX5 yX5_isComplete wsX5_isComplete) := goodIn_app (goodIn_of _ (by decide +kernel)) ggX6_seats_X5_isComplete
set_option maxRecDepth 20000 in
theorem ggX6_seats_X0_save : GoodIn wsX6_seats wsX0_save := goodIn_r _ [39, 40, 41, 42, 43, 44, 38, 45, 46, 47, 48, 49, 50, 51, 52, 53, 54, 55, 56, 57, 58, 59, 60, 61, 62, 63, 64, 65, 66, 67, 68, 69, 70, 71, 72, 15, 73, 22, 17, 74, 75, 76, 77, 78, 188, 189, 190, 191, 192, 193, 194, 195, 196, 197, 198, 199, 200, 201, 202, 203, 204, 186, 187] (by decide +kernel) (by decide +kernel)
set_option maxRecDepth 20000 in
theorem gX6_seats_X0_save : GoodIn wsX6_seats (wsV RX6 60 RX0 yX0_save wsX0_save) := goodIn_app (goodIn_of _ (by decide +kernel)) ggX6_seats_X0_save
set_option maxRecDepth 20000 in
theorem ggX6_seats_X5_doParts : GoodIn wsX6_seats wsX5_doParts := goodIn_r _ [82, 11, 12, 13, 14, 15, 16, 17, 18, 19, 20, 21, 22, 83, 84, 85, 9, 86, 87, 88, 89, 90, 91, 92, 93, 50, 94, 62, 95, 96, 97, 98, 55, 99, 100, 68, 101, 102, 103, 104, 105, 56, 58, 61, 65, 106, 107, 108, 109, 110, 111, 112, 113, 114, 115, 116, 117, 118, 119, 120, 121, 122, 123, 124, 125, 126, 127, 128, 129, 130, 131, 63, 132, 133, 134, 135, 57, 136, 137, 138, 139, 53, 52, 59, 140, 141, 142, 143, 144, 145, 146, 147, 148, 149, 150, 60, 151, 152, 153, 154, 155, 156, 157, 158, 159, 160, 161, 162, 163, 164, 64, 165, 166, 167, 168, 169, 170, 171, 172, 173, 174, 185, 186, 187, 191, 192, 193, 194, 195, 196, 197, 198, 199, 200, 201, 202, 203, 204] (by decide +kernel) (by decide +kernel)
set_option maxRecDepth 20000 in
theorem gX6_seats_X5_doParts : GoodIn wsX6_seats (wsV RX6 211 RX5 yX5_doParts wsX5_doParts) := goodIn_app (goodIn_of _ (by decide +kernel)) ggX6_seats_X5_doParts
set_option maxRecDepth 20000 in
theorem ggX6_seats_X1_dropAll : GoodIn wsX6_seats wsX1_dropAll := goodIn_r _ [178, 17, 186, 187] (by decide +kernel) (by decide +kernel)
set_option maxRecDepth 20000 in
theorem gX6_seats_X1_dropAll : GoodIn wsX6_seats (wsV RX6 200 RX1 yX1_dropAll wsX1_dropAll) := goodIn_app (goodIn_of _ (by decide +kernel)) ggX6_seats_X1_dropAll
theorem dX6_seats_0 : decode cX6_seats 0 = .ok (.aload_n 0, 1) := by decide +kernel
theorem dX6_seats_1 : decode cX6_seats 1 = .ok (.getfield 32, 3) := by decide +kernel
theorem dX6_seats_4 : decode cX6_seats 4 = .ok (.invokevirtual 206, 3) := by decide +kernel
theorem dX6_seats_7 : decode cX6_seats 7 = .ok (.ifCond .ne 13, 3) := by decide +kernel
theorem dX6_seats_10 : decode cX6_seats 10 = .ok (.new 44, 3) := by decide +kernel
theorem dX6_seats_13 : decode cX6_seats 13 = .ok (.dup, 1) := by decide +kernel
theorem dX6_seats_14 : decode cX6_seats 14 = .ok (.ldc 209, 2) := by decide +kernel
theorem dX6_seats_16 : decode cX6_seats 16 = .ok (.invokespecial 48, 3) := by decide +kernel
theorem dX6_seats_19 : decode cX6_seats 19 = .ok (.athrow, 1) := by decide +kernel
theorem dX6_seats_20 : decode cX6_seats 20 = .ok (.aload_n 0, 1) := by decide +kernel
theorem dX6_seats_21 : decode cX6_seats 21 = .ok (.getfield 25, 3) := by decide +kernel
theorem dX6_seats_24 : decode cX6_seats 24 = .ok (.aload_n 0, 1) := by decide +kernel
theorem dX6_seats_25 : decode cX6_seats 25 = .ok (.getfield 10, 3) := by decide +kernel
theorem dX6_seats_28 : decode cX6_seats 28 = .ok (.invokevirtual 60, 3) := by decide +kernel
theorem dX6_seats_31 : decode cX6_seats 31 = .ok (.aload_n 0, 1) := by decide +kernel
theorem dX6_seats_32 : decode cX6_seats 32 = .ok (.getfield 32, 3) := by decide +kernel
theorem dX6_seats_35 : decode cX6_seats 35 = .ok (.aload_n 0, 1) := by decide +kernel
theorem dX6_seats_36 : decode cX6_seats 36 = .ok (.getfield 10, 3) := by decide +kernel
theorem dX6_seats_39 : decode cX6_seats 39 = .ok (.invokevirtual 211, 3) := by decide +kernel
theorem dX6_seats_42 : decode cX6_seats 42 = .ok (.istore_n 1, 1) := by decide +kernel
theorem dX6_seats_43 : decode cX6_seats 43 = .ok (.aload_n 0, 1) := by decide +kernel
theorem dX6_seats_44 : decode cX6_seats 44 = .ok (.getfield 32, 3) := by decide +kernel
theorem dX6_seats_47 : decode cX6_seats 47 = .ok (.getfield 192, 3) := by decide +kernel
theorem dX6_seats_50 : decode cX6_seats 50 = .ok (.invokevirtual 200, 3) := by decide +kernel
theorem dX6_seats_53 : decode cX6_seats 53 = .ok (.iload_n 1, 1) := by decide +kernel
theorem dX6_seats_54 : decode cX6_seats 54 = .ok (.ireturn, 1) := by decide +kernel
set_option maxRecDepth 20000 in
theorem ggX6_told_X6_needTable : GoodIn wsX6_told wsX6_needTable := goodIn_ca (goodIn_r _ [8, 9, 10, 3, 11, 12, 13, 14, 15, 16, 39, 40, 41, 42, 43, 44, 45, 46, 47, 48, 49, 50, 51, 52, 53, 54, 55, 56, 57, 58] (by decide +kernel) (by decide +kernel)) (goodIn_sub (fun _ h => List.mem_cons_of_mem _ (List.mem_append_right _ h)) (by decide +kernel))
set_option maxRecDepth 20000 in
theorem gX6_told_X6_needTable : GoodIn wsX6_told (wsV RX6 214 RX6 yX6_needTable wsX6_needTable) := goodIn_app (goodIn_of _ (by decide +kernel)) ggX6_told_X6_needTable
set_option maxRecDepth 20000 in
theorem ggX6_told_X2_letterOfTable : GoodIn wsX6_told wsX2_letterOfTable := goodIn_r _ [20, 21, 22, 23, 24, 14, 25, 26, 27, 28, 29, 30, 31, 32, 33, 34, 35, 36, 37, 38, 45, 46, 47, 48, 49, 50, 51, 52, 53, 54, 55, 56, 57, 58] (by decide +kernel) (by decide +kernel)
set_option maxRecDepth 20000 in
theorem gX6_told_X2_letterOfTable : GoodIn wsX6_told (wsV RX6 219 RX2 yX2_letterOfTable wsX2_letterOfTable) := goodIn_app (goodIn_of _ (by decide +kernel)) ggX6_told_X2_letterOfTable
theorem dX6_told_0 : decode cX6_told 0 = .ok (.aload_n 0, 1) := by decide +kernel
theorem dX6_told_1 : decode cX6_told 1 = .ok (.iload_n 1, 1) := by decide +kernel
theorem dX6_told_2 : decode cX6_told 2 = .ok (.invokevirtual 214, 3) := by decide +kernel
theorem dX6_told_5 : decode cX6_told 5 = .ok (.iload_n 2, 1) := by decide +kernel
theorem dX6_told_6 : decode cX6_told 6 = .ok (.ifCond .ge 13, 3) := by decide +kernel
theorem dX6_told_9 : decode cX6_told 9 = .ok (.new 44, 3) := by decide +kernel
theorem dX6_told_12 : decode cX6_told 12 = .ok (.dup, 1) := by decide +kernel
theorem dX6_told_13 : decode cX6_told 13 = .ok (.ldc 217, 2) := by decide +kernel
theorem dX6_told_15 : decode cX6_told 15 = .ok (.invokespecial 48, 3) := by decide +kernel
theorem dX6_told_18 : decode cX6_told 18 = .ok (.athrow, 1) := by decide +kernel
theorem dX6_told_19 : decode cX6_told 19 = .ok (.aload_n 0, 1) := by decide +kernel
theorem dX6_told_20 : decode cX6_told 20 = .ok (.getfield 10, 3) := by decide +kernel
theorem dX6_told_23 : decode cX6_told 23 = .ok (.iload_n 1, 1) := by decide +kernel
theorem dX6_told_24 : decode cX6_told 24 = .ok (.iload_n 2, 1) := by decide +kernel
theorem dX6_told_25 : decode cX6_told 25 = .ok (.invokevirtual 219, 3) := by decide +kernel
theorem dX6_told_28 : decode cX6_told 28 = .ok (.ireturn, 1) := by decide +kernel
set_option maxRecDepth 20000 in
theorem ggX6_undo_X0_length : GoodIn wsX6_undo wsX0_length := goodIn_r _ [9, 10, 62, 63, 64] (by decide +kernel) (by decide +kernel)
set_option maxRecDepth 20000 in
theorem gX6_undo_X0_length : GoodIn wsX6_undo (wsV RX6 222 RX0 yX0_length wsX0_length) := goodIn_app (goodIn_of _ (by decide +kernel)) ggX6_undo_X0_length
set_option maxRecDepth 20000 in
theorem ggX6_undo_X0_takeLatest : GoodIn wsX6_undo wsX0_takeLatest := goodIn_r _ [14, 10, 15, 16, 17, 18, 8, 19, 20, 21, 22, 23, 24, 25, 26, 27, 28, 29, 30, 31, 32, 33, 34, 35, 36, 37, 38, 39, 40, 41, 42, 43, 44, 45, 46, 47, 48, 49, 50, 51, 52, 53, 54, 55, 62, 63, 64, 65, 66, 67, 68, 69, 70, 71, 72, 73, 74, 75, 76, 77, 78, 79, 80] (by decide +kernel) (by decide +kernel)
set_option maxRecDepth 20000 in
theorem gX6_undo_X0_takeLatest : GoodIn wsX6_undo (wsV RX6 225 RX0 yX0_takeLatest wsX0_takeLatest) := goodIn_app (goodIn_of _ (by decide +kernel)) ggX6_undo_X0_takeLatest
theorem dX6_undo_0 : decode cX6_undo 0 = .ok (.aload_n 0, 1) := by decide +kernel
theorem dX6_undo_1 : decode cX6_undo 1 = .ok (.getfield 25, 3) := by decide +kernel
theorem dX6_undo_4 : decode cX6_undo 4 = .ok (.invokevirtual 222, 3) := by decide +kernel
theorem dX6_undo_7 : decode cX6_undo 7 = .ok (.ifCond .ne 13, 3) := by decide +kernel
theorem dX6_undo_10 : decode cX6_undo 10 = .ok (.new 55, 3) := by decide +kernel
theorem dX6_undo_13 : decode cX6_undo 13 = .ok (.dup, 1) := by decide +kernel
theorem dX6_undo_14 : decode cX6_undo 14 = .ok (.ldc 223, 2) := by decide +kernel
theorem dX6_undo_16 : decode cX6_undo 16 = .ok (.invokespecial 59, 3) := by decide +kernel
theorem dX6_undo_19 : decode cX6_undo 19 = .ok (.athrow, 1) := by decide +kernel
theorem dX6_undo_20 : decode cX6_undo 20 = .ok (.aload_n 0, 1) := by decide +kernel
theorem dX6_undo_21 : decode cX6_undo 21 = .ok (.getfield 25, 3) := by decide +kernel
theorem dX6_undo_24 : decode cX6_undo 24 = .ok (.aload_n 0, 1) := by decide +kernel
theorem dX6_undo_25 : decode cX6_undo 25 = .ok (.getfield 10, 3) := by decide +kernel
theorem dX6_undo_28 : decode cX6_undo 28 = .ok (.invokevirtual 225, 3) := by decide +kernel
theorem dX6_undo_31 : decode cX6_undo 31 = .ok (.aload_n 0, 1) := by decide +kernel
theorem dX6_undo_32 : decode cX6_undo 32 = .ok (.getfield 25, 3) := by decide +kernel
theorem dX6_undo_35 : decode cX6_undo 35 = .ok (.invokevirtual 222, 3) := by decide +kernel
theorem dX6_undo_38 : decode cX6_undo 38 = .ok (.ireturn, 1) := by decide +kernel
set_option maxRecDepth 20000 in
theorem ggX6_keep_X2_copyFrom : GoodIn wsX6_keep wsX2_copyFrom := goodIn_r _ [8, 9, 10, 11, 12, 13, 14, 15, 16, 17, 18, 19, 20, 21, 22, 23, 24, 25, 26, 27, 28, 29, 30, 31, 32, 33, 34, 35, 36, 37, 38, 49, 50, 51, 52, 53, 54, 55, 56, 57, 58, 59, 60, 61, 62, 63, 64] (by decide +kernel) (by decide +kernel)
set_option maxRecDepth 20000 in
theorem gX6_keep_X2_copyFrom : GoodIn wsX6_keep (wsV RX6 179 RX2 yX2_copyFrom wsX2_copyFrom) := goodIn_app (goodIn_of _ (by decide +kernel)) ggX6_keep_X2_copyFrom
set_option maxRecDepth 20000 in
theorem ggX6_keep_X1_length : GoodIn wsX6_keep wsX1_length := goodIn_r _ [42, 33, 63, 64] (by decide +kernel) (by decide +kernel)
set_option maxRecDepth 20000 in
theorem gX6_keep_X1_length : GoodIn wsX6_keep (wsV RX6 130 RX1 yX1_length wsX1_length) := goodIn_app (goodIn_of _ (by decide +kernel)) ggX6_keep_X1_length
theorem dX6_keep_0 : decode cX6_keep 0 = .ok (.aload_n 0, 1) := by decide +kernel
theorem dX6_keep_1 : decode cX6_keep 1 = .ok (.getfield 19, 3) := by decide +kernel
theorem dX6_keep_4 : decode cX6_keep 4 = .ok (.aload_n 0, 1) := by decide +kernel
theorem dX6_keep_5 : decode cX6_keep 5 = .ok (.getfield 10, 3) := by decide +kernel
theorem dX6_keep_8 : decode cX6_keep 8 = .ok (.invokevirtual 179, 3) := by decide +kernel
theorem dX6_keep_11 : decode cX6_keep 11 = .ok (.aload_n 0, 1) := by decide +kernel
theorem dX6_keep_12 : decode cX6_keep 12 = .ok (.iconst 1, 1) := by decide +kernel
theorem dX6_keep_13 : decode cX6_keep 13 = .ok (.putfield 36, 3) := by decide +kernel
theorem dX6_keep_16 : decode cX6_keep 16 = .ok (.aload_n 0, 1) := by decide +kernel
theorem dX6_keep_17 : decode cX6_keep 17 = .ok (.getfield 10, 3) := by decide +kernel
theorem dX6_keep_20 : decode cX6_keep 20 = .ok (.getfield 228, 3) := by decide +kernel
theorem dX6_keep_23 : decode cX6_keep 23 = .ok (.invokevirtual 130, 3) := by decide +kernel
theorem dX6_keep_26 : decode cX6_keep 26 = .ok (.ireturn, 1) := by decide +kernel
set_option maxRecDepth 20000 in
theorem ggX6_restore_X0_save : GoodIn wsX6_restore wsX0_save := goodIn_r _ [11, 12, 13, 14, 15, 16, 10, 17, 18, 19, 20, 21, 22, 23, 24, 25, 26, 27, 28, 29, 30, 31, 32, 33, 34, 35, 36, 37, 38, 39, 40, 41, 42, 43, 44, 45, 46, 47, 48, 49, 50, 51, 52, 53, 79, 80, 81, 65, 66, 67, 68, 69, 70, 71, 72, 73, 74, 75, 76, 77, 78, 82, 83] (by decide +kernel) (by decide +kernel)
set_option maxRecDepth 20000 in
theorem gX6_restore_X0_save : GoodIn wsX6_restore (wsV RX6 60 RX0 yX0_save wsX0_save) := goodIn_app (goodIn_of _ (by decide +kernel)) ggX6_restore_X0_save
set_option maxRecDepth 20000 in
theorem ggX6_restore_X2_copyFrom : GoodIn wsX6_restore wsX2_copyFrom := goodIn_r _ [23, 24, 25, 26, 27, 28, 29, 30, 31, 32, 33, 34, 35, 36, 37, 38, 39, 40, 41, 42, 43, 44, 45, 46, 47, 48, 49, 50, 51, 52, 53, 65, 66, 67, 68, 69, 70, 71, 72, 73, 74, 75, 76, 77, 78, 82, 83] (by decide +kernel) (by decide +kernel)
set_option maxRecDepth 20000 in
theorem gX6_restore_X2_copyFrom : GoodIn wsX6_restore (wsV RX6 179 RX2 yX2_copyFrom wsX2_copyFrom) := goodIn_app (goodIn_of _ (by decide +kernel)) ggX6_restore_X2_copyFrom
set_option maxRecDepth 20000 in
theorem ggX6_restore_X1_length : GoodIn wsX6_restore wsX1_length := goodIn_r _ [58, 48, 82, 83] (by decide +kernel) (by decide +kernel)
set_option maxRecDepth 20000 in
theorem gX6_restore_X1_length : GoodIn wsX6_restore (wsV RX6 130 RX1 yX1_length wsX1_length) := goodIn_app (goodIn_of _ (by decide +kernel)) ggX6_restore_X1_length
theorem dX6_restore_0 : decode cX6_restore 0 = .ok (.aload_n 0, 1) := by decide +kernel
theorem dX6_restore_1 : decode cX6_restore 1 = .ok (.getfield 36, 3) := by decide +kernel
theorem dX6_restore_4 : decode cX6_restore 4 = .ok (.ifCond .ne 13, 3) := by decide +kernel
theorem dX6_restore_7 : decode cX6_restore 7 = .ok (.new 55, 3) := by decide +kernel
theorem dX6_restore_10 : decode cX6_restore 10 = .ok (.dup, 1) := by decide +kernel
theorem dX6_restore_11 : decode cX6_restore 11 = .ok (.ldc 231, 2) := by decide +kernel
theorem dX6_restore_13 : decode cX6_restore 13 = .ok (.invokespecial 59, 3) := by decide +kernel
theorem dX6_restore_16 : decode cX6_restore 16 = .ok (.athrow, 1) := by decide +kernel
theorem dX6_restore_17 : decode cX6_restore 17 = .ok (.aload_n 0, 1) := by decide +kernel
theorem dX6_restore_18 : decode cX6_restore 18 = .ok (.getfield 25, 3) := by decide +kernel
theorem dX6_restore_21 : decode cX6_restore 21 = .ok (.aload_n 0, 1) := by decide +kernel
theorem dX6_restore_22 : decode cX6_restore 22 = .ok (.getfield 10, 3) := by decide +kernel
theorem dX6_restore_25 : decode cX6_restore 25 = .ok (.invokevirtual 60, 3) := by decide +kernel
theorem dX6_restore_28 : decode cX6_restore 28 = .ok (.aload_n 0, 1) := by decide +kernel
theorem dX6_restore_29 : decode cX6_restore 29 = .ok (.getfield 10, 3) := by decide +kernel
theorem dX6_restore_32 : decode cX6_restore 32 = .ok (.aload_n 0, 1) := by decide +kernel
theorem dX6_restore_33 : decode cX6_restore 33 = .ok (.getfield 19, 3) := by decide +kernel
theorem dX6_restore_36 : decode cX6_restore 36 = .ok (.invokevirtual 179, 3) := by decide +kernel
theorem dX6_restore_39 : decode cX6_restore 39 = .ok (.aload_n 0, 1) := by decide +kernel
theorem dX6_restore_40 : decode cX6_restore 40 = .ok (.getfield 10, 3) := by decide +kernel
theorem dX6_restore_43 : decode cX6_restore 43 = .ok (.getfield 228, 3) := by decide +kernel
theorem dX6_restore_46 : decode cX6_restore 46 = .ok (.invokevirtual 130, 3) := by decide +kernel
theorem dX6_restore_49 : decode cX6_restore 49 = .ok (.ireturn, 1) := by decide +kernel
set_option maxRecDepth 20000 in
theorem ggX6_guestOf_X6_needGuest : GoodIn wsX6_guestOf wsX6_needGuest := goodIn_ca (goodIn_r _ [7, 8, 9, 10, 11, 12, 13, 14, 15, 16, 62, 63, 64, 65, 66, 67, 68, 69, 70, 71, 72, 73, 74, 75, 76, 77, 78, 79, 80, 81] (by decide +kernel) (by decide +kernel)) (goodIn_sub (fun _ h => List.mem_cons_of_mem _ (List.mem_append_right _ h)) (by decide +kernel))
set_option maxRecDepth 20000 in
theorem gX6_guestOf_X6_needGuest : GoodIn wsX6_guestOf (wsV RX6 68 RX6 yX6_needGuest wsX6_needGuest) := goodIn_app (goodIn_of _ (by decide +kernel)) ggX6_guestOf_X6_needGuest
set_option maxRecDepth 20000 in
theorem ggX6_guestOf_X6_guestNumber : GoodIn wsX6_guestOf wsX6_guestNumber := goodIn_r _ [20, 10, 21, 22, 23, 24, 25, 26, 27, 28, 29, 30, 31, 14, 32, 33, 34, 35, 36, 37, 38, 39, 40, 41, 42, 43, 12, 13, 15, 16, 44, 45, 46, 47, 48, 49, 50, 51, 52, 53, 54, 55, 56, 57, 58, 59, 60, 61, 62, 63, 64, 65, 66, 67, 68, 69, 70, 71, 72, 73, 74, 75, 76, 77, 78, 79, 80, 81] (by decide +kernel) (by decide +kernel)
set_option maxRecDepth 20000 in
theorem gX6_guestOf_X6_guestNumber : GoodIn wsX6_guestOf (wsV RX6 235 RX6 yX6_guestNumber wsX6_guestNumber) := goodIn_app (goodIn_of _ (by decide +kernel)) ggX6_guestOf_X6_guestNumber
theorem dX6_guestOf_0 : decode cX6_guestOf 0 = .ok (.aload_n 0, 1) := by decide +kernel
theorem dX6_guestOf_1 : decode cX6_guestOf 1 = .ok (.iload_n 1, 1) := by decide +kernel
theorem dX6_guestOf_2 : decode cX6_guestOf 2 = .ok (.invokevirtual 68, 3) := by decide +kernel
theorem dX6_guestOf_5 : decode cX6_guestOf 5 = .ok (.iload_n 2, 1) := by decide +kernel
theorem dX6_guestOf_6 : decode cX6_guestOf 6 = .ok (.ifCond .lt 9, 3) := by decide +kernel
theorem dX6_guestOf_9 : decode cX6_guestOf 9 = .ok (.iload_n 2, 1) := by decide +kernel
theorem dX6_guestOf_10 : decode cX6_guestOf 10 = .ok (.bipush 7, 2) := by decide +kernel
theorem dX6_guestOf_12 : decode cX6_guestOf 12 = .ok (.if_icmp .lt 13, 3) := by decide +kernel
theorem dX6_guestOf_15 : decode cX6_guestOf 15 = .ok (.new 44, 3) := by decide +kernel
theorem dX6_guestOf_18 : decode cX6_guestOf 18 = .ok (.dup, 1) := by decide +kernel
theorem dX6_guestOf_19 : decode cX6_guestOf 19 = .ok (.ldc 233, 2) := by decide +kernel
theorem dX6_guestOf_21 : decode cX6_guestOf 21 = .ok (.invokespecial 48, 3) := by decide +kernel
theorem dX6_guestOf_24 : decode cX6_guestOf 24 = .ok (.athrow, 1) := by decide +kernel
theorem dX6_guestOf_25 : decode cX6_guestOf 25 = .ok (.aload_n 0, 1) := by decide +kernel
theorem dX6_guestOf_26 : decode cX6_guestOf 26 = .ok (.iload_n 1, 1) := by decide +kernel
theorem dX6_guestOf_27 : decode cX6_guestOf 27 = .ok (.iload_n 2, 1) := by decide +kernel
theorem dX6_guestOf_28 : decode cX6_guestOf 28 = .ok (.invokevirtual 235, 3) := by decide +kernel
theorem dX6_guestOf_31 : decode cX6_guestOf 31 = .ok (.ireturn, 1) := by decide +kernel
set_option maxRecDepth 20000 in
theorem ggX6_tableOf_X6_needTable : GoodIn wsX6_tableOf wsX6_needTable := goodIn_ca (goodIn_r _ [7, 8, 9, 10, 11, 12, 13, 14, 15, 16, 78, 79, 80, 81, 82, 83, 84, 85, 86, 87, 88, 89, 90, 91, 92, 93, 94, 95, 96, 97] (by decide +kernel) (by decide +kernel)) (goodIn_sub (fun _ h => List.mem_cons_of_mem _ (List.mem_append_right _ h)) (by decide +kernel))
set_option maxRecDepth 20000 in
theorem gX6_tableOf_X6_needTable : GoodIn wsX6_tableOf (wsV RX6 214 RX6 yX6_needTable wsX6_needTable) := goodIn_app (goodIn_of _ (by decide +kernel)) ggX6_tableOf_X6_needTable
set_option maxRecDepth 20000 in
theorem ggX6_tableOf_X6_tableNumber : GoodIn wsX6_tableOf wsX6_tableNumber := goodIn_r _ [20, 10, 21, 22, 23, 14, 24, 25, 26, 27, 28, 29, 30, 31, 32, 33, 34, 35, 36, 37, 38, 39, 40, 41, 42, 43, 44, 45, 46, 47, 48, 49, 50, 51, 52, 53, 54, 55, 56, 57, 58, 59, 60, 61, 62, 63, 64, 65, 66, 67, 68, 69, 70, 71, 72, 73, 74, 75, 76, 77, 78, 79, 80, 81, 82, 83, 84, 85, 86, 87, 88, 89, 90, 91, 92, 93, 94, 95, 96, 97] (by decide +kernel) (by decide +kernel)
set_option maxRecDepth 20000 in
theorem gX6_tableOf_X6_tableNumber : GoodIn wsX6_tableOf (wsV RX6 240 RX6 yX6_tableNumber wsX6_tableNumber) := goodIn_app (goodIn_of _ (by decide +kernel)) ggX6_tableOf_X6_tableNumber
theorem dX6_tableOf_0 : decode cX6_tableOf 0 = .ok (.aload_n 0, 1) := by decide +kernel
theorem dX6_tableOf_1 : decode cX6_tableOf 1 = .ok (.iload_n 1, 1) := by decide +kernel
theorem dX6_tableOf_2 : decode cX6_tableOf 2 = .ok (.invokevirtual 214, 3) := by decide +kernel
theorem dX6_tableOf_5 : decode cX6_tableOf 5 = .ok (.iload_n 2, 1) := by decide +kernel
theorem dX6_tableOf_6 : decode cX6_tableOf 6 = .ok (.ifCond .lt 8, 3) := by decide +kernel
theorem dX6_tableOf_9 : decode cX6_tableOf 9 = .ok (.iload_n 2, 1) := by decide +kernel
theorem dX6_tableOf_10 : decode cX6_tableOf 10 = .ok (.iconst 5, 1) := by decide +kernel
theorem dX6_tableOf_11 : decode cX6_tableOf 11 = .ok (.if_icmp .lt 13, 3) := by decide +kernel
theorem dX6_tableOf_14 : decode cX6_tableOf 14 = .ok (.new 44, 3) := by decide +kernel
theorem dX6_tableOf_17 : decode cX6_tableOf 17 = .ok (.dup, 1) := by decide +kernel
theorem dX6_tableOf_18 : decode cX6_tableOf 18 = .ok (.ldc 238, 2) := by decide +kernel
theorem dX6_tableOf_20 : decode cX6_tableOf 20 = .ok (.invokespecial 48, 3) := by decide +kernel
theorem dX6_tableOf_23 : decode cX6_tableOf 23 = .ok (.athrow, 1) := by decide +kernel
theorem dX6_tableOf_24 : decode cX6_tableOf 24 = .ok (.aload_n 0, 1) := by decide +kernel
theorem dX6_tableOf_25 : decode cX6_tableOf 25 = .ok (.iload_n 1, 1) := by decide +kernel
theorem dX6_tableOf_26 : decode cX6_tableOf 26 = .ok (.iload_n 2, 1) := by decide +kernel
theorem dX6_tableOf_27 : decode cX6_tableOf 27 = .ok (.invokevirtual 240, 3) := by decide +kernel
theorem dX6_tableOf_30 : decode cX6_tableOf 30 = .ok (.ireturn, 1) := by decide +kernel
set_option maxRecDepth 20000 in
theorem ggX6_who_X6_needSeat : GoodIn wsX6_who wsX6_needSeat := goodIn_ca (goodIn_r _ [6, 7, 8, 1, 9, 10, 11, 12, 13, 14, 15, 16, 17, 18, 19, 20, 21, 22, 23, 29, 30, 31, 32, 33, 34, 35, 36, 37, 38, 39, 40, 41, 42, 43, 44, 45, 46, 47, 48] (by decide +kernel) (by decide +kernel)) (goodIn_sub (fun _ h => List.mem_cons_of_mem _ (List.mem_append_right _ h)) (by decide +kernel))
set_option maxRecDepth 20000 in
theorem gX6_who_X6_needSeat : GoodIn wsX6_who (wsV RX6 243 RX6 yX6_needSeat wsX6_needSeat) := goodIn_app (goodIn_of _ (by decide +kernel)) ggX6_who_X6_needSeat
set_option maxRecDepth 20000 in
theorem ggX6_who_X2_holderAt : GoodIn wsX6_who wsX2_holderAt := goodIn_r _ [27, 28, 35, 36, 37, 38, 39, 40, 41, 42, 43, 44, 45, 46, 47, 48] (by decide +kernel) (by decide +kernel)
set_option maxRecDepth 20000 in
theorem gX6_who_X2_holderAt : GoodIn wsX6_who (wsV RX6 246 RX2 yX2_holderAt wsX2_holderAt) := goodIn_app (goodIn_of _ (by decide +kernel)) ggX6_who_X2_holderAt
theorem dX6_who_0 : decode cX6_who 0 = .ok (.aload_n 0, 1) := by decide +kernel
theorem dX6_who_1 : decode cX6_who 1 = .ok (.iload_n 1, 1) := by decide +kernel
theorem dX6_who_2 : decode cX6_who 2 = .ok (.iload_n 2, 1) := by decide +kernel
theorem dX6_who_3 : decode cX6_who 3 = .ok (.invokevirtual 243, 3) := by decide +kernel
theorem dX6_who_6 : decode cX6_who 6 = .ok (.aload_n 0, 1) := by decide +kernel
theorem dX6_who_7 : decode cX6_who 7 = .ok (.getfield 10, 3) := by decide +kernel
theorem dX6_who_10 : decode cX6_who 10 = .ok (.iload_n 1, 1) := by decide +kernel
theorem dX6_who_11 : decode cX6_who 11 = .ok (.iload_n 2, 1) := by decide +kernel
theorem dX6_who_12 : decode cX6_who 12 = .ok (.invokevirtual 246, 3) := by decide +kernel
theorem dX6_who_15 : decode cX6_who 15 = .ok (.ireturn, 1) := by decide +kernel
set_option maxRecDepth 20000 in
theorem ggX6_seated_X6_needPlace : GoodIn wsX6_seated wsX6_needPlace := goodIn_ca (goodIn_r _ [5, 6, 7] (by decide +kernel) (by decide +kernel)) (goodIn_sub (fun _ h => List.mem_cons_of_mem _ (List.mem_append_right _ h)) (by decide +kernel))
set_option maxRecDepth 20000 in
theorem gX6_seated_X6_needPlace : GoodIn wsX6_seated (va_wsS RX6 249 yX6_needPlace wsX6_needPlace) := goodIn_app (goodIn_of _ (by decide +kernel)) ggX6_seated_X6_needPlace
set_option maxRecDepth 20000 in
theorem ggX6_seated_X1_itemAt : GoodIn wsX6_seated wsX1_itemAt := goodIn_r _ [12, 13, 14, 35, 36] (by decide +kernel) (by decide +kernel)
set_option maxRecDepth 20000 in
theorem gX6_seated_X1_itemAt : GoodIn wsX6_seated (wsV RX6 252 RX1 yX1_itemAt wsX1_itemAt) := goodIn_app (goodIn_of _ (by decide +kernel)) ggX6_seated_X1_itemAt
theorem dX6_seated_0 : decode cX6_seated 0 = .ok (.iload_n 1, 1) := by decide +kernel
theorem dX6_seated_1 : decode cX6_seated 1 = .ok (.invokestatic 249, 3) := by decide +kernel
theorem dX6_seated_4 : decode cX6_seated 4 = .ok (.aload_n 0, 1) := by decide +kernel
theorem dX6_seated_5 : decode cX6_seated 5 = .ok (.getfield 10, 3) := by decide +kernel
theorem dX6_seated_8 : decode cX6_seated 8 = .ok (.getfield 228, 3) := by decide +kernel
theorem dX6_seated_11 : decode cX6_seated 11 = .ok (.iload_n 1, 1) := by decide +kernel
theorem dX6_seated_12 : decode cX6_seated 12 = .ok (.invokevirtual 252, 3) := by decide +kernel
theorem dX6_seated_15 : decode cX6_seated 15 = .ok (.ireturn, 1) := by decide +kernel
set_option maxRecDepth 20000 in
theorem ggX6_feudAt_X6_needPlace : GoodIn wsX6_feudAt wsX6_needPlace := goodIn_ca (goodIn_r _ [5, 6, 7] (by decide +kernel) (by decide +kernel)) (goodIn_sub (fun _ h => List.mem_cons_of_mem _ (List.mem_append_right _ h)) (by decide +kernel))
set_option maxRecDepth 20000 in
theorem gX6_feudAt_X6_needPlace : GoodIn wsX6_feudAt (va_wsS RX6 249 yX6_needPlace wsX6_needPlace) := goodIn_app (goodIn_of _ (by decide +kernel)) ggX6_feudAt_X6_needPlace
set_option maxRecDepth 20000 in
theorem ggX6_feudAt_X1_itemAt : GoodIn wsX6_feudAt wsX1_itemAt := goodIn_r _ [12, 13, 14, 35, 36] (by decide +kernel) (by decide +kernel)
set_option maxRecDepth 20000 in
theorem gX6_feudAt_X1_itemAt : GoodIn wsX6_feudAt (wsV RX6 252 RX1 yX1_itemAt wsX1_itemAt) := goodIn_app (goodIn_of _ (by decide +kernel)) ggX6_feudAt_X1_itemAt
theorem dX6_feudAt_0 : decode cX6_feudAt 0 = .ok (.iload_n 1, 1) := by decide +kernel
theorem dX6_feudAt_1 : decode cX6_feudAt 1 = .ok (.invokestatic 249, 3) := by decide +kernel
theorem dX6_feudAt_4 : decode cX6_feudAt 4 = .ok (.aload_n 0, 1) := by decide +kernel
theorem dX6_feudAt_5 : decode cX6_feudAt 5 = .ok (.getfield 10, 3) := by decide +kernel
theorem dX6_feudAt_8 : decode cX6_feudAt 8 = .ok (.getfield 107, 3) := by decide +kernel
theorem dX6_feudAt_11 : decode cX6_feudAt 11 = .ok (.iload_n 1, 1) := by decide +kernel
theorem dX6_feudAt_12 : decode cX6_feudAt 12 = .ok (.invokevirtual 252, 3) := by decide +kernel
theorem dX6_feudAt_15 : decode cX6_feudAt 15 = .ok (.ireturn, 1) := by decide +kernel
set_option maxRecDepth 20000 in
theorem ggX6_count_X6_countNumber : GoodIn wsX6_count wsX6_countNumber := goodIn_r _ [7, 8, 9, 10, 11, 12, 13, 14, 15, 16, 17, 18, 19, 20, 21, 22, 23, 24, 25, 26, 27, 28, 29, 30, 31, 32, 33, 34, 35, 36, 37, 38, 39, 40, 41, 42, 43, 44, 45, 46, 47, 48, 49, 50, 51, 52, 53, 54, 55, 56, 57, 58, 59, 60, 61, 62, 63, 64, 65, 66, 67, 68, 69, 70, 71, 72, 73, 74, 75, 76, 77, 78, 79, 80, 81, 82, 83, 84, 85, 86, 87, 88, 89, 90, 91, 92, 93, 94, 95, 96, 97, 98, 99, 100, 101, 102, 103, 104, 105, 106, 107, 108] (by decide +kernel) (by decide +kernel)
set_option maxRecDepth 20000 in
theorem gX6_count_X6_countNumber : GoodIn wsX6_count (wsV RX6 257 RX6 yX6_countNumber wsX6_countNumber) := goodIn_app (goodIn_of _ (by decide +kernel)) ggX6_count_X6_countNumber
theorem dX6_count_0 : decode cX6_count 0 = .ok (.iload_n 1, 1) := by decide +kernel
theorem dX6_count_1 : decode cX6_count 1 = .ok (.ifCond .lt 9, 3) := by decide +kernel
theorem dX6_count_4 : decode cX6_count 4 = .ok (.iload_n 1, 1) := by decide +kernel
theorem dX6_count_5 : decode cX6_count 5 = .ok (.bipush 14, 2) := by decide +kernel
theorem dX6_count_7 : decode cX6_count 7 = .ok (.if_icmp .lt 13, 3) := by decide +kernel
theorem dX6_count_10 : decode cX6_count 10 = .ok (.new 44, 3) := by decide +kernel
theorem dX6_count_13 : decode cX6_count 13 = .ok (.dup, 1) := by decide +kernel
theorem dX6_count_14 : decode cX6_count 14 = .ok (.ldc 255, 2) := by decide +kernel
theorem dX6_count_16 : decode cX6_count 16 = .ok (.invokespecial 48, 3) := by decide +kernel
theorem dX6_count_19 : decode cX6_count 19 = .ok (.athrow, 1) := by decide +kernel
theorem dX6_count_20 : decode cX6_count 20 = .ok (.aload_n 0, 1) := by decide +kernel
theorem dX6_count_21 : decode cX6_count 21 = .ok (.iload_n 1, 1) := by decide +kernel
theorem dX6_count_22 : decode cX6_count 22 = .ok (.invokevirtual 257, 3) := by decide +kernel
theorem dX6_count_25 : decode cX6_count 25 = .ok (.ireturn, 1) := by decide +kernel
set_option maxRecDepth 20000 in
theorem ggX6_whyNot_X6_needGuestAndSeat : GoodIn wsX6_whyNot wsX6_needGuestAndSeat := goodIn_ca (goodIn_r _ [6, 7, 8, 9, 5, 10, 11, 12, 1, 13, 14, 15, 16, 17, 18, 19, 20, 21, 22, 23, 24, 25, 26, 27, 28, 29, 30, 31, 32, 33, 34, 35, 36, 81, 82, 83, 84, 85, 86, 87, 88, 89, 90, 91, 92, 93, 94, 95, 96, 97, 98, 99, 100] (by decide +kernel) (by decide +kernel)) (goodIn_sub (fun _ h => List.mem_cons_of_mem _ (List.mem_append_right _ h)) (by decide +kernel))
set_option maxRecDepth 20000 in
theorem gX6_whyNot_X6_needGuestAndSeat : GoodIn wsX6_whyNot (wsV RX6 150 RX6 yX6_needGuestAndSeat wsX6_needGuestAndSeat) := goodIn_app (goodIn_of _ (by decide +kernel)) ggX6_whyNot_X6_needGuestAndSeat
set_option maxRecDepth 20000 in
theorem ggX6_whyNot_X2_reasonAgainst : GoodIn wsX6_whyNot wsX2_reasonAgainst := goodIn_r _ [40, 41, 42, 43, 44, 45, 46, 47, 16, 48, 49, 50, 51, 52, 53, 54, 55, 56, 57, 58, 59, 60, 61, 62, 63, 64, 65, 66, 67, 68, 69, 70, 71, 72, 73, 74, 75, 76, 32, 33, 34, 35, 36, 77, 78, 79, 80, 87, 88, 89, 90, 91, 92, 93, 94, 95, 96, 97, 98, 99, 100, 101, 102] (by decide +kernel) (by decide +kernel)
set_option maxRecDepth 20000 in
theorem gX6_whyNot_X2_reasonAgainst : GoodIn wsX6_whyNot (wsV RX6 154 RX2 yX2_reasonAgainst wsX2_reasonAgainst) := goodIn_app (goodIn_of _ (by decide +kernel)) ggX6_whyNot_X2_reasonAgainst
theorem dX6_whyNot_0 : decode cX6_whyNot 0 = .ok (.aload_n 0, 1) := by decide +kernel
theorem dX6_whyNot_1 : decode cX6_whyNot 1 = .ok (.iload_n 1, 1) := by decide +kernel
theorem dX6_whyNot_2 : decode cX6_whyNot 2 = .ok (.iload_n 2, 1) := by decide +kernel
theorem dX6_whyNot_3 : decode cX6_whyNot 3 = .ok (.iload_n 3, 1) := by decide +kernel
theorem dX6_whyNot_4 : decode cX6_whyNot 4 = .ok (.invokevirtual 150, 3) := by decide +kernel
theorem dX6_whyNot_7 : decode cX6_whyNot 7 = .ok (.aload_n 0, 1) := by decide +kernel
theorem dX6_whyNot_8 : decode cX6_whyNot 8 = .ok (.getfield 10, 3) := by decide +kernel
theorem dX6_whyNot_11 : decode cX6_whyNot 11 = .ok (.iload_n 1, 1) := by decide +kernel
theorem dX6_whyNot_12 : decode cX6_whyNot 12 = .ok (.iload_n 2, 1) := by decide +kernel
theorem dX6_whyNot_13 : decode cX6_whyNot 13 = .ok (.iload_n 3, 1) := by decide +kernel
theorem dX6_whyNot_14 : decode cX6_whyNot 14 = .ok (.invokevirtual 154, 3) := by decide +kernel
theorem dX6_whyNot_17 : decode cX6_whyNot 17 = .ok (.ireturn, 1) := by decide +kernel
set_option maxRecDepth 20000 in
theorem ggX6_ifSat_X6_needGuestAndSeat : GoodIn wsX6_ifSat wsX6_needGuestAndSeat := goodIn_ca (goodIn_r _ [6, 7, 8, 9, 5, 10, 11, 12, 1, 13, 14, 15, 16, 17, 18, 19, 20, 21, 22, 23, 24, 25, 26, 27, 28, 29, 30, 31, 32, 33, 34, 35, 36, 118, 119, 120, 121, 122, 123, 124, 125, 126, 127, 128, 129, 130, 131, 132, 133, 134, 135, 136, 137] (by decide +kernel) (by decide +kernel)) (goodIn_sub (fun _ h => List.mem_cons_of_mem _ (List.mem_append_right _ h)) (by decide +kernel))
set_option maxRecDepth 20000 in
theorem gX6_ifSat_X6_needGuestAndSeat : GoodIn wsX6_ifSat (wsV RX6 150 RX6 yX6_needGuestAndSeat wsX6_needGuestAndSeat) := goodIn_app (goodIn_of _ (by decide +kernel)) ggX6_ifSat_X6_needGuestAndSeat
set_option maxRecDepth 20000 in
theorem ggX6_ifSat_X2_reasonAgainst : GoodIn wsX6_ifSat wsX2_reasonAgainst := goodIn_r _ [40, 41, 42, 43, 44, 45, 46, 47, 16, 48, 49, 50, 51, 52, 53, 54, 55, 56, 57, 58, 59, 60, 61, 62, 63, 64, 65, 66, 67, 68, 69, 70, 71, 72, 73, 74, 75, 76, 32, 33, 34, 35, 36, 77, 78, 79, 80, 124, 125, 126, 127, 128, 129, 130, 131, 132, 133, 134, 135, 136, 137, 138, 139] (by decide +kernel) (by decide +kernel)
set_option maxRecDepth 20000 in
theorem gX6_ifSat_X2_reasonAgainst : GoodIn wsX6_ifSat (wsV RX6 154 RX2 yX2_reasonAgainst wsX2_reasonAgainst) := goodIn_app (goodIn_of _ (by decide +kernel)) ggX6_ifSat_X2_reasonAgainst
set_option maxRecDepth 20000 in
theorem ggX6_ifSat_X4_afterMove : GoodIn wsX6_ifSat wsX4_afterMove := goodIn_r _ [84, 85, 86, 83, 87, 88, 89, 90, 91, 92, 93, 16, 94, 43, 53, 54, 55, 56, 95, 96, 97, 98, 99, 51, 52, 100, 101, 102, 103, 104, 105, 106, 107, 108, 109, 110, 14, 15, 17, 18, 111, 33, 34, 35, 36, 112, 113, 114, 115, 116, 117, 124, 125, 126, 127, 128, 129, 130, 131, 132, 133, 134, 135, 136, 137] (by decide +kernel) (by decide +kernel)
set_option maxRecDepth 20000 in
theorem gX6_ifSat_X4_afterMove : GoodIn wsX6_ifSat (va_wsS RX6 260 yX4_afterMove wsX4_afterMove) := goodIn_app (goodIn_of _ (by decide +kernel)) ggX6_ifSat_X4_afterMove
theorem dX6_ifSat_0 : decode cX6_ifSat 0 = .ok (.aload_n 0, 1) := by decide +kernel
theorem dX6_ifSat_1 : decode cX6_ifSat 1 = .ok (.iload_n 1, 1) := by decide +kernel
theorem dX6_ifSat_2 : decode cX6_ifSat 2 = .ok (.iload_n 2, 1) := by decide +kernel
theorem dX6_ifSat_3 : decode cX6_ifSat 3 = .ok (.iload_n 3, 1) := by decide +kernel
theorem dX6_ifSat_4 : decode cX6_ifSat 4 = .ok (.invokevirtual 150, 3) := by decide +kernel
theorem dX6_ifSat_7 : decode cX6_ifSat 7 = .ok (.aload_n 0, 1) := by decide +kernel
theorem dX6_ifSat_8 : decode cX6_ifSat 8 = .ok (.getfield 10, 3) := by decide +kernel
theorem dX6_ifSat_11 : decode cX6_ifSat 11 = .ok (.iload_n 1, 1) := by decide +kernel
theorem dX6_ifSat_12 : decode cX6_ifSat 12 = .ok (.iload_n 2, 1) := by decide +kernel
theorem dX6_ifSat_13 : decode cX6_ifSat 13 = .ok (.iload_n 3, 1) := by decide +kernel
theorem dX6_ifSat_14 : decode cX6_ifSat 14 = .ok (.invokevirtual 154, 3) := by decide +kernel
theorem dX6_ifSat_17 : decode cX6_ifSat 17 = .ok (.ifCond .eq 5, 3) := by decide +kernel
theorem dX6_ifSat_20 : decode cX6_ifSat 20 = .ok (.iconst (-1), 1) := by decide +kernel
theorem dX6_ifSat_21 : decode cX6_ifSat 21 = .ok (.ireturn, 1) := by decide +kernel
theorem dX6_ifSat_22 : decode cX6_ifSat 22 = .ok (.aload_n 0, 1) := by decide +kernel
theorem dX6_ifSat_23 : decode cX6_ifSat 23 = .ok (.getfield 10, 3) := by decide +kernel
theorem dX6_ifSat_26 : decode cX6_ifSat 26 = .ok (.iload_n 1, 1) := by decide +kernel
theorem dX6_ifSat_27 : decode cX6_ifSat 27 = .ok (.iload_n 2, 1) := by decide +kernel
theorem dX6_ifSat_28 : decode cX6_ifSat 28 = .ok (.iload_n 3, 1) := by decide +kernel
theorem dX6_ifSat_29 : decode cX6_ifSat 29 = .ok (.invokestatic 260, 3) := by decide +kernel
theorem dX6_ifSat_32 : decode cX6_ifSat 32 = .ok (.sipush 1000, 3) := by decide +kernel
theorem dX6_ifSat_35 : decode cX6_ifSat 35 = .ok (.iadd, 1) := by decide +kernel
theorem dX6_ifSat_36 : decode cX6_ifSat 36 = .ok (.ireturn, 1) := by decide +kernel
set_option maxRecDepth 20000 in
theorem ggX6_bestSeat_X6_needGuest : GoodIn wsX6_bestSeat wsX6_needGuest := goodIn_ca (goodIn_r _ [6, 7, 8, 1, 9, 10, 11, 12, 13, 14, 90, 91, 92, 93, 94, 95, 96, 97, 98, 99, 100, 101, 102, 103, 104, 105, 106, 107, 108, 109] (by decide +kernel) (by decide +kernel)) (goodIn_sub (fun _ h => List.mem_cons_of_mem _ (List.mem_append_right _ h)) (by decide +kernel))
set_option maxRecDepth 20000 in
theorem gX6_bestSeat_X6_needGuest : GoodIn wsX6_bestSeat (wsV RX6 68 RX6 yX6_needGuest wsX6_needGuest) := goodIn_app (goodIn_of _ (by decide +kernel)) ggX6_bestSeat_X6_needGuest
set_option maxRecDepth 20000 in
theorem ggX6_bestSeat_X2_bestPlace : GoodIn wsX6_bestSeat wsX2_bestPlace := goodIn_r _ [18, 19, 20, 21, 22, 12, 23, 24, 25, 26, 27, 28, 29, 30, 31, 32, 33, 34, 35, 36, 37, 38, 39, 40, 41, 42, 43, 44, 45, 46, 47, 48, 49, 50, 51, 52, 53, 54, 55, 56, 57, 58, 59, 60, 61, 62, 63, 64, 65, 66, 67, 68, 69, 70, 71, 72, 73, 74, 75, 76, 77, 78, 79, 80, 81, 82, 83, 84, 85, 10, 11, 13, 14, 86, 87, 88, 89, 96, 97, 98, 99, 100, 101, 102, 103, 104, 105, 106, 107, 108, 109, 110, 111] (by decide +kernel) (by decide +kernel)
set_option maxRecDepth 20000 in
theorem gX6_bestSeat_X2_bestPlace : GoodIn wsX6_bestSeat (wsV RX6 264 RX2 yX2_bestPlace wsX2_bestPlace) := goodIn_app (goodIn_of _ (by decide +kernel)) ggX6_bestSeat_X2_bestPlace
theorem dX6_bestSeat_0 : decode cX6_bestSeat 0 = .ok (.aload_n 0, 1) := by decide +kernel
theorem dX6_bestSeat_1 : decode cX6_bestSeat 1 = .ok (.iload_n 1, 1) := by decide +kernel
theorem dX6_bestSeat_2 : decode cX6_bestSeat 2 = .ok (.invokevirtual 68, 3) := by decide +kernel
theorem dX6_bestSeat_5 : decode cX6_bestSeat 5 = .ok (.aload_n 0, 1) := by decide +kernel
theorem dX6_bestSeat_6 : decode cX6_bestSeat 6 = .ok (.getfield 10, 3) := by decide +kernel
theorem dX6_bestSeat_9 : decode cX6_bestSeat 9 = .ok (.iload_n 1, 1) := by decide +kernel
theorem dX6_bestSeat_10 : decode cX6_bestSeat 10 = .ok (.invokevirtual 264, 3) := by decide +kernel
theorem dX6_bestSeat_13 : decode cX6_bestSeat 13 = .ok (.ireturn, 1) := by decide +kernel
set_option maxRecDepth 20000 in
theorem ggX6_ifFeud_X6_needTwoFamilies : GoodIn wsX6_ifFeud wsX6_needTwoFamilies := goodIn_ca (goodIn_r _ [5, 6, 7, 8, 9, 4, 10] (by decide +kernel) (by decide +kernel)) (goodIn_sub (fun _ h => List.mem_cons_of_mem _ (List.mem_append_right _ h)) (by decide +kernel))
set_option maxRecDepth 20000 in
theorem gX6_ifFeud_X6_needTwoFamilies : GoodIn wsX6_ifFeud (va_wsS RX6 99 yX6_needTwoFamilies wsX6_needTwoFamilies) := goodIn_app (goodIn_of _ (by decide +kernel)) ggX6_ifFeud_X6_needTwoFamilies
set_option maxRecDepth 20000 in
theorem ggX6_ifFeud_X2_risersOfFeud : GoodIn wsX6_ifFeud wsX2_risersOfFeud := goodIn_r _ [15, 16, 17, 18, 19, 14, 20, 21, 22, 23, 24, 25, 26, 27, 28, 29, 30, 31, 32, 33, 34, 35, 36, 37, 38, 39, 40, 41, 42, 43, 44, 45, 46, 47, 48, 49, 50, 51, 52, 53, 54, 55, 56, 57, 58, 59, 60, 61, 62, 63, 64, 65, 72, 73, 74, 75, 76, 77, 78, 79, 80, 81, 82, 83, 84, 85, 86, 87] (by decide +kernel) (by decide +kernel)
set_option maxRecDepth 20000 in
theorem gX6_ifFeud_X2_risersOfFeud : GoodIn wsX6_ifFeud (wsV RX6 267 RX2 yX2_risersOfFeud wsX2_risersOfFeud) := goodIn_app (goodIn_of _ (by decide +kernel)) ggX6_ifFeud_X2_risersOfFeud
theorem dX6_ifFeud_0 : decode cX6_ifFeud 0 = .ok (.iload_n 1, 1) := by decide +kernel
theorem dX6_ifFeud_1 : decode cX6_ifFeud 1 = .ok (.iload_n 2, 1) := by decide +kernel
theorem dX6_ifFeud_2 : decode cX6_ifFeud 2 = .ok (.invokestatic 99, 3) := by decide +kernel
theorem dX6_ifFeud_5 : decode cX6_ifFeud 5 = .ok (.aload_n 0, 1) := by decide +kernel
theorem dX6_ifFeud_6 : decode cX6_ifFeud 6 = .ok (.getfield 10, 3) := by decide +kernel
theorem dX6_ifFeud_9 : decode cX6_ifFeud 9 = .ok (.iload_n 1, 1) := by decide +kernel
theorem dX6_ifFeud_10 : decode cX6_ifFeud 10 = .ok (.iload_n 2, 1) := by decide +kernel
theorem dX6_ifFeud_11 : decode cX6_ifFeud 11 = .ok (.invokevirtual 267, 3) := by decide +kernel
theorem dX6_ifFeud_14 : decode cX6_ifFeud 14 = .ok (.ireturn, 1) := by decide +kernel
set_option maxRecDepth 20000 in
theorem ggX6_ifSeated_X6_seatedNumber : GoodIn wsX6_ifSeated wsX6_seatedNumber := goodIn_r _ [7, 8, 9, 10, 11, 12, 13, 14, 15, 16, 17, 18, 19, 20, 21, 22, 23, 24, 25, 26, 27, 28, 29, 30, 31, 32, 33, 34, 35, 36, 37, 38, 39, 40, 41, 42, 43, 44, 45, 46, 47, 48, 49, 50, 51, 52, 53, 54, 55, 56, 57, 58, 59, 60, 61, 62, 63, 64, 65, 66, 67, 68, 69, 70, 71, 72, 73, 74, 75, 76, 77, 78, 79, 80, 81, 82, 83, 84, 85, 86, 87, 88, 89, 90, 91, 92, 93, 94, 95, 96, 97, 98, 99, 100, 101, 102, 103, 104, 105, 106, 107, 108, 109, 110, 111, 112, 113, 114, 115, 116, 117, 118, 119, 120, 121, 122, 123, 124, 125, 126, 127, 128, 129, 130, 131, 132, 133, 134, 135, 136, 137, 138, 139, 140, 141, 142, 143, 144, 145, 146, 147, 148, 149, 150, 151, 152, 153, 154, 155, 156, 157, 158, 159, 160, 161, 162, 163, 164, 165, 166, 167, 168, 169, 170, 171, 172, 173, 174] (by decide +kernel) (by decide +kernel)
set_option maxRecDepth 20000 in
theorem gX6_ifSeated_X6_seatedNumber : GoodIn wsX6_ifSeated (wsV RX6 272 RX6 yX6_seatedNumber wsX6_seatedNumber) := goodIn_app (goodIn_of _ (by decide +kernel)) ggX6_ifSeated_X6_seatedNumber
theorem dX6_ifSeated_0 : decode cX6_ifSeated 0 = .ok (.iload_n 1, 1) := by decide +kernel
theorem dX6_ifSeated_1 : decode cX6_ifSeated 1 = .ok (.ifCond .lt 8, 3) := by decide +kernel
theorem dX6_ifSeated_4 : decode cX6_ifSeated 4 = .ok (.iload_n 1, 1) := by decide +kernel
theorem dX6_ifSeated_5 : decode cX6_ifSeated 5 = .ok (.iconst 2, 1) := by decide +kernel
theorem dX6_ifSeated_6 : decode cX6_ifSeated 6 = .ok (.if_icmp .lt 14, 3) := by decide +kernel
theorem dX6_ifSeated_9 : decode cX6_ifSeated 9 = .ok (.new 44, 3) := by decide +kernel
theorem dX6_ifSeated_12 : decode cX6_ifSeated 12 = .ok (.dup, 1) := by decide +kernel
theorem dX6_ifSeated_13 : decode cX6_ifSeated 13 = .ok (.ldc_w 270, 3) := by decide +kernel
theorem dX6_ifSeated_16 : decode cX6_ifSeated 16 = .ok (.invokespecial 48, 3) := by decide +kernel
theorem dX6_ifSeated_19 : decode cX6_ifSeated 19 = .ok (.athrow, 1) := by decide +kernel
theorem dX6_ifSeated_20 : decode cX6_ifSeated 20 = .ok (.aload_n 0, 1) := by decide +kernel
theorem dX6_ifSeated_21 : decode cX6_ifSeated 21 = .ok (.iload_n 1, 1) := by decide +kernel
theorem dX6_ifSeated_22 : decode cX6_ifSeated 22 = .ok (.invokevirtual 272, 3) := by decide +kernel
theorem dX6_ifSeated_25 : decode cX6_ifSeated 25 = .ok (.ireturn, 1) := by decide +kernel
set_option maxRecDepth 20000 in
theorem ggX6_met_X4_shareMet : GoodIn wsX6_met wsX4_shareMet := goodIn_r _ [5, 6, 7, 8, 9, 10, 11, 4, 12, 13, 14, 15, 16, 17, 18, 19, 20, 21, 22, 23, 24, 25, 26, 27, 28, 29, 30, 31, 32, 33, 34, 35, 36, 37, 38, 39, 46, 47, 48, 49, 50, 51, 52, 53, 54, 55, 56, 57, 58, 59] (by decide +kernel) (by decide +kernel)
set_option maxRecDepth 20000 in
theorem gX6_met_X4_shareMet : GoodIn wsX6_met (va_wsS RX6 275 yX4_shareMet wsX4_shareMet) := goodIn_app (goodIn_of _ (by decide +kernel)) ggX6_met_X4_shareMet
theorem dX6_met_0 : decode cX6_met 0 = .ok (.aload_n 0, 1) := by decide +kernel
theorem dX6_met_1 : decode cX6_met 1 = .ok (.getfield 10, 3) := by decide +kernel
theorem dX6_met_4 : decode cX6_met 4 = .ok (.invokestatic 275, 3) := by decide +kernel
theorem dX6_met_7 : decode cX6_met 7 = .ok (.dreturn, 1) := by decide +kernel
set_option maxRecDepth 20000 in
theorem ggX6_digest_X6_countNumber : GoodIn wsX6_digest wsX6_countNumber := goodIn_r _ [9, 3, 10, 11, 12, 13, 14, 15, 16, 17, 18, 19, 20, 21, 22, 23, 24, 25, 26, 27, 28, 29, 30, 31, 32, 33, 34, 35, 36, 37, 38, 39, 40, 41, 42, 43, 44, 45, 46, 47, 48, 49, 50, 51, 52, 53, 54, 55, 56, 57, 58, 59, 60, 61, 62, 63, 64, 65, 66, 67, 68, 69, 70, 71, 72, 73, 74, 75, 76, 77, 78, 79, 80, 81, 82, 83, 84, 253, 254, 255, 256, 257, 258, 259, 260, 261, 262, 263, 264, 265, 266, 267, 268, 269, 270, 271, 272, 274, 275, 276, 277, 278] (by decide +kernel) (by decide +kernel)
set_option maxRecDepth 20000 in
theorem gX6_digest_X6_countNumber : GoodIn wsX6_digest (wsV RX6 257 RX6 yX6_countNumber wsX6_countNumber) := goodIn_app (goodIn_of _ (by decide +kernel)) ggX6_digest_X6_countNumber
set_option maxRecDepth 20000 in
theorem ggX6_digest_X6_hashGuests : GoodIn wsX6_digest wsX6_hashGuests := goodIn_r _ [88, 3, 2, 89, 90, 91, 8, 92, 84, 31, 32, 33, 93, 42, 19, 43, 24, 25, 26, 27, 28, 29, 30, 34, 44, 45, 46, 47, 48, 49, 50, 51, 52, 53, 54, 55, 56, 57, 58, 59, 60, 94, 22, 23, 35, 36, 37, 38, 39, 40, 41, 61, 62, 63, 95, 96, 97, 98, 99, 100, 101, 102, 103, 104, 105, 106, 107, 108, 71, 72, 73, 74, 109, 110, 111, 112, 113, 114, 115, 12, 13, 14, 15, 16, 116, 117, 118, 119, 120, 121, 122, 123, 124, 125, 126, 127, 128, 129, 130, 131, 253, 254, 255, 256, 257, 258, 259, 260, 261, 262, 263, 264, 265, 266, 267, 268, 269, 270, 271, 272, 274, 275] (by decide +kernel) (by decide +kernel)
set_option maxRecDepth 20000 in
theorem gX6_digest_X6_hashGuests : GoodIn wsX6_digest (wsV RX6 283 RX6 yX6_hashGuests wsX6_hashGuests) := goodIn_app (goodIn_of _ (by decide +kernel)) ggX6_digest_X6_hashGuests
set_option maxRecDepth 20000 in
theorem ggX6_digest_X6_hashTables : GoodIn wsX6_digest wsX6_hashTables := goodIn_r _ [135, 3, 2, 136, 137, 138, 8, 139, 140, 57, 58, 27, 59, 60, 141, 142, 143, 144, 100, 108, 71, 72, 73, 74, 145, 122, 123, 124, 106, 30, 31, 32, 33, 146, 68, 19, 69, 56, 70, 35, 36, 37, 38, 39, 40, 34, 44, 45, 46, 47, 48, 49, 50, 51, 52, 53, 54, 55, 61, 62, 63, 147, 148, 149, 150, 109, 151, 152, 153, 154, 155, 156, 157, 158, 159, 253, 254, 255, 256, 257, 258, 259, 260, 261, 262, 263, 264, 265, 266, 267, 268, 269, 270, 271, 272] (by decide +kernel) (by decide +kernel)
set_option maxRecDepth 20000 in
theorem gX6_digest_X6_hashTables : GoodIn wsX6_digest (wsV RX6 287 RX6 yX6_hashTables wsX6_hashTables) := goodIn_app (goodIn_of _ (by decide +kernel)) ggX6_digest_X6_hashTables
set_option maxRecDepth 20000 in
theorem ggX6_digest_X6_hashLine : GoodIn wsX6_digest wsX6_hashLine := goodIn_r _ [162, 2, 11, 12, 13, 14, 15, 16, 163, 117, 118, 119, 120, 274, 275] (by decide +kernel) (by decide +kernel)
set_option maxRecDepth 20000 in
theorem gX6_digest_X6_hashLine : GoodIn wsX6_digest (va_wsS RX6 290 yX6_hashLine wsX6_hashLine) := goodIn_app (goodIn_of _ (by decide +kernel)) ggX6_digest_X6_hashLine
set_option maxRecDepth 20000 in
theorem ggX6_digest_X2_risersOfFeud : GoodIn wsX6_digest wsX2_risersOfFeud := goodIn_r _ [167, 99, 168, 169, 170, 27, 171, 114, 172, 173, 174, 175, 176, 49, 177, 178, 179, 180, 181, 182, 183, 14, 184, 16, 185, 117, 118, 119, 120, 186, 187, 188, 189, 125, 126, 127, 128, 106, 100, 57, 58, 59, 60, 108, 71, 72, 73, 74, 30, 31, 32, 33, 259, 260, 261, 262, 263, 264, 265, 266, 267, 268, 269, 270, 271, 272, 274, 275] (by decide +kernel) (by decide +kernel)
set_option maxRecDepth 20000 in
theorem gX6_digest_X2_risersOfFeud : GoodIn wsX6_digest (wsV RX6 267 RX2 yX2_risersOfFeud wsX2_risersOfFeud) := goodIn_app (goodIn_of _ (by decide +kernel)) ggX6_digest_X2_risersOfFeud
set_option maxRecDepth 20000 in
theorem ggX6_digest_X6_seatedNumber : GoodIn wsX6_digest wsX6_seatedNumber := goodIn_r _ [193, 194, 3, 195, 196, 197, 27, 198, 106, 105, 199, 29, 200, 60, 74, 107, 114, 201, 55, 99, 202, 203, 204, 205, 32, 206, 207, 208, 209, 14, 210, 120, 16, 211, 176, 49, 177, 212, 213, 214, 215, 216, 217, 25, 26, 28, 30, 31, 33, 218, 96, 97, 98, 100, 57, 58, 59, 101, 102, 103, 104, 108, 71, 72, 73, 109, 39, 40, 110, 111, 112, 113, 115, 12, 13, 15, 116, 117, 118, 119, 121, 122, 123, 124, 125, 126, 127, 128, 129, 130, 19, 131, 34, 35, 36, 37, 38, 44, 45, 46, 47, 48, 50, 51, 52, 53, 54, 56, 61, 62, 63, 219, 220, 221, 222, 223, 224, 225, 226, 227, 228, 229, 230, 231, 232, 233, 185, 234, 235, 236, 237, 238, 239, 240, 241, 242, 17, 18, 20, 21, 22, 23, 24, 41, 42, 43, 253, 254, 255, 256, 257, 258, 259, 260, 261, 262, 263, 264, 265, 266, 267, 268, 269, 270, 271, 272, 274, 275] (by decide +kernel) (by decide +kernel)
set_option maxRecDepth 20000 in
theorem gX6_digest_X6_seatedNumber : GoodIn wsX6_digest (wsV RX6 272 RX6 yX6_seatedNumber wsX6_seatedNumber) := goodIn_app (goodIn_of _ (by decide +kernel)) ggX6_digest_X6_seatedNumber
set_option maxRecDepth 20000 in
theorem ggX6_digest_X4_shareMet : GoodIn wsX6_digest wsX4_shareMet := goodIn_r _ [245, 34, 31, 32, 33, 246, 76, 19, 77, 41, 42, 43, 24, 25, 26, 27, 28, 29, 30, 44, 45, 46, 47, 48, 49, 50, 51, 52, 53, 54, 55, 56, 57, 58, 59, 60, 259, 260, 261, 262, 263, 264, 265, 266, 267, 268, 269, 270, 271, 272] (by decide +kernel) (by decide +kernel)
set_option maxRecDepth 20000 in
theorem gX6_digest_X4_shareMet : GoodIn wsX6_digest (va_wsS RX6 275 yX4_shareMet wsX4_shareMet) := goodIn_app (goodIn_of _ (by decide +kernel)) ggX6_digest_X4_shareMet
set_option maxRecDepth 20000 in
theorem ggX6_digest_X6_bitsOfShare : GoodIn wsX6_digest wsX6_bitsOfShare := goodIn_r _ [249, 250, 251, 252] (by decide +kernel) (by decide +kernel)
set_option maxRecDepth 20000 in
theorem gX6_digest_X6_bitsOfShare : GoodIn wsX6_digest (va_wsS RX6 294 yX6_bitsOfShare wsX6_bitsOfShare) := goodIn_app (goodIn_of _ (by decide +kernel)) ggX6_digest_X6_bitsOfShare
set_option maxRecDepth 20000 in
theorem ggX6_digest_X1_length : GoodIn wsX6_digest wsX1_length := goodIn_r _ [15, 16, 274, 275] (by decide +kernel) (by decide +kernel)
set_option maxRecDepth 20000 in
theorem gX6_digest_X1_length : GoodIn wsX6_digest (wsV RX6 130 RX1 yX1_length wsX1_length) := goodIn_app (goodIn_of _ (by decide +kernel)) ggX6_digest_X1_length
theorem dX6_digest_0 : decode cX6_digest 0 = .ok (.ldc2_w 279, 3) := by decide +kernel
theorem dX6_digest_3 : decode cX6_digest 3 = .ok (.lstore_n 1, 1) := by decide +kernel
theorem dX6_digest_4 : decode cX6_digest 4 = .ok (.iconst 0, 1) := by decide +kernel
theorem dX6_digest_5 : decode cX6_digest 5 = .ok (.istore_n 3, 1) := by decide +kernel
theorem dX6_digest_6 : decode cX6_digest 6 = .ok (.iload_n 3, 1) := by decide +kernel
theorem dX6_digest_7 : decode cX6_digest 7 = .ok (.bipush 14, 2) := by decide +kernel
theorem dX6_digest_9 : decode cX6_digest 9 = .ok (.if_icmp .ge 22, 3) := by decide +kernel
theorem dX6_digest_12 : decode cX6_digest 12 = .ok (.ldc2_w 281, 3) := by decide +kernel
theorem dX6_digest_15 : decode cX6_digest 15 = .ok (.lload_n 1, 1) := by decide +kernel
theorem dX6_digest_16 : decode cX6_digest 16 = .ok (.lmul, 1) := by decide +kernel
theorem dX6_digest_17 : decode cX6_digest 17 = .ok (.aload_n 0, 1) := by decide +kernel
theorem dX6_digest_18 : decode cX6_digest 18 = .ok (.iload_n 3, 1) := by decide +kernel
theorem dX6_digest_19 : decode cX6_digest 19 = .ok (.invokevirtual 257, 3) := by decide +kernel
theorem dX6_digest_22 : decode cX6_digest 22 = .ok (.i2l, 1) := by decide +kernel
theorem dX6_digest_23 : decode cX6_digest 23 = .ok (.ladd, 1) := by decide +kernel
theorem dX6_digest_24 : decode cX6_digest 24 = .ok (.lstore_n 1, 1) := by decide +kernel
theorem dX6_digest_25 : decode cX6_digest 25 = .ok (.iinc 3 1, 3) := by decide +kernel
theorem dX6_digest_28 : decode cX6_digest 28 = .ok (.goto (-22), 3) := by decide +kernel
theorem dX6_digest_31 : decode cX6_digest 31 = .ok (.aload_n 0, 1) := by decide +kernel
theorem dX6_digest_32 : decode cX6_digest 32 = .ok (.lload_n 1, 1) := by decide +kernel
theorem dX6_digest_33 : decode cX6_digest 33 = .ok (.invokevirtual 283, 3) := by decide +kernel
theorem dX6_digest_36 : decode cX6_digest 36 = .ok (.lstore_n 1, 1) := by decide +kernel
theorem dX6_digest_37 : decode cX6_digest 37 = .ok (.aload_n 0, 1) := by decide +kernel
theorem dX6_digest_38 : decode cX6_digest 38 = .ok (.lload_n 1, 1) := by decide +kernel
theorem dX6_digest_39 : decode cX6_digest 39 = .ok (.invokevirtual 287, 3) := by decide +kernel
theorem dX6_digest_42 : decode cX6_digest 42 = .ok (.lstore_n 1, 1) := by decide +kernel
theorem dX6_digest_43 : decode cX6_digest 43 = .ok (.lload_n 1, 1) := by decide +kernel
theorem dX6_digest_44 : decode cX6_digest 44 = .ok (.aload_n 0, 1) := by decide +kernel
theorem dX6_digest_45 : decode cX6_digest 45 = .ok (.getfield 10, 3) := by decide +kernel
theorem dX6_digest_48 : decode cX6_digest 48 = .ok (.getfield 228, 3) := by decide +kernel
theorem dX6_digest_51 : decode cX6_digest 51 = .ok (.invokestatic 290, 3) := by decide +kernel
theorem dX6_digest_54 : decode cX6_digest 54 = .ok (.lstore_n 1, 1) := by decide +kernel
theorem dX6_digest_55 : decode cX6_digest 55 = .ok (.lload_n 1, 1) := by decide +kernel
theorem dX6_digest_56 : decode cX6_digest 56 = .ok (.aload_n 0, 1) := by decide +kernel
theorem dX6_digest_57 : decode cX6_digest 57 = .ok (.getfield 10, 3) := by decide +kernel
theorem dX6_digest_60 : decode cX6_digest 60 = .ok (.getfield 107, 3) := by decide +kernel
theorem dX6_digest_63 : decode cX6_digest 63 = .ok (.invokestatic 290, 3) := by decide +kernel
theorem dX6_digest_66 : decode cX6_digest 66 = .ok (.lstore_n 1, 1) := by decide +kernel
theorem dX6_digest_67 : decode cX6_digest 67 = .ok (.ldc2_w 281, 3) := by decide +kernel
theorem dX6_digest_70 : decode cX6_digest 70 = .ok (.lload_n 1, 1) := by decide +kernel
theorem dX6_digest_71 : decode cX6_digest 71 = .ok (.lmul, 1) := by decide +kernel
theorem dX6_digest_72 : decode cX6_digest 72 = .ok (.aload_n 0, 1) := by decide +kernel
theorem dX6_digest_73 : decode cX6_digest 73 = .ok (.getfield 10, 3) := by decide +kernel
theorem dX6_digest_76 : decode cX6_digest 76 = .ok (.iconst 0, 1) := by decide +kernel
theorem dX6_digest_77 : decode cX6_digest 77 = .ok (.iconst 1, 1) := by decide +kernel
theorem dX6_digest_78 : decode cX6_digest 78 = .ok (.invokevirtual 267, 3) := by decide +kernel
theorem dX6_digest_81 : decode cX6_digest 81 = .ok (.i2l, 1) := by decide +kernel
theorem dX6_digest_82 : decode cX6_digest 82 = .ok (.ladd, 1) := by decide +kernel
theorem dX6_digest_83 : decode cX6_digest 83 = .ok (.lstore_n 1, 1) := by decide +kernel
theorem dX6_digest_84 : decode cX6_digest 84 = .ok (.ldc2_w 281, 3) := by decide +kernel
theorem dX6_digest_87 : decode cX6_digest 87 = .ok (.lload_n 1, 1) := by decide +kernel
theorem dX6_digest_88 : decode cX6_digest 88 = .ok (.lmul, 1) := by decide +kernel
theorem dX6_digest_89 : decode cX6_digest 89 = .ok (.aload_n 0, 1) := by decide +kernel
theorem dX6_digest_90 : decode cX6_digest 90 = .ok (.getfield 10, 3) := by decide +kernel
theorem dX6_digest_93 : decode cX6_digest 93 = .ok (.iconst 2, 1) := by decide +kernel
theorem dX6_digest_94 : decode cX6_digest 94 = .ok (.iconst 3, 1) := by decide +kernel
theorem dX6_digest_95 : decode cX6_digest 95 = .ok (.invokevirtual 267, 3) := by decide +kernel
theorem dX6_digest_98 : decode cX6_digest 98 = .ok (.i2l, 1) := by decide +kernel
theorem dX6_digest_99 : decode cX6_digest 99 = .ok (.ladd, 1) := by decide +kernel
theorem dX6_digest_100 : decode cX6_digest 100 = .ok (.lstore_n 1, 1) := by decide +kernel
theorem dX6_digest_101 : decode cX6_digest 101 = .ok (.iconst 0, 1) := by decide +kernel
theorem dX6_digest_102 : decode cX6_digest 102 = .ok (.istore_n 3, 1) := by decide +kernel
theorem dX6_digest_103 : decode cX6_digest 103 = .ok (.iload_n 3, 1) := by decide +kernel
theorem dX6_digest_104 : decode cX6_digest 104 = .ok (.iconst 2, 1) := by decide +kernel
theorem dX6_digest_105 : decode cX6_digest 105 = .ok (.if_icmp .ge 22, 3) := by decide +kernel
theorem dX6_digest_108 : decode cX6_digest 108 = .ok (.ldc2_w 281, 3) := by decide +kernel
theorem dX6_digest_111 : decode cX6_digest 111 = .ok (.lload_n 1, 1) := by decide +kernel
theorem dX6_digest_112 : decode cX6_digest 112 = .ok (.lmul, 1) := by decide +kernel
theorem dX6_digest_113 : decode cX6_digest 113 = .ok (.aload_n 0, 1) := by decide +kernel
theorem dX6_digest_114 : decode cX6_digest 114 = .ok (.iload_n 3, 1) := by decide +kernel
theorem dX6_digest_115 : decode cX6_digest 115 = .ok (.invokevirtual 272, 3) := by decide +kernel
theorem dX6_digest_118 : decode cX6_digest 118 = .ok (.i2l, 1) := by decide +kernel
theorem dX6_digest_119 : decode cX6_digest 119 = .ok (.ladd, 1) := by decide +kernel
theorem dX6_digest_120 : decode cX6_digest 120 = .ok (.lstore_n 1, 1) := by decide +kernel
theorem dX6_digest_121 : decode cX6_digest 121 = .ok (.iinc 3 1, 3) := by decide +kernel
theorem dX6_digest_124 : decode cX6_digest 124 = .ok (.goto (-21), 3) := by decide +kernel
theorem dX6_digest_127 : decode cX6_digest 127 = .ok (.ldc2_w 281, 3) := by decide +kernel
theorem dX6_digest_130 : decode cX6_digest 130 = .ok (.lload_n 1, 1) := by decide +kernel
theorem dX6_digest_131 : decode cX6_digest 131 = .ok (.lmul, 1) := by decide +kernel
theorem dX6_digest_132 : decode cX6_digest 132 = .ok (.aload_n 0, 1) := by decide +kernel
theorem dX6_digest_133 : decode cX6_digest 133 = .ok (.getfield 10, 3) := by decide +kernel
theorem dX6_digest_136 : decode cX6_digest 136 = .ok (.invokestatic 275, 3) := by decide +kernel
theorem dX6_digest_139 : decode cX6_digest 139 = .ok (.invokestatic 294, 3) := by decide +kernel
theorem dX6_digest_142 : decode cX6_digest 142 = .ok (.ladd, 1) := by decide +kernel
theorem dX6_digest_143 : decode cX6_digest 143 = .ok (.lstore_n 1, 1) := by decide +kernel
theorem dX6_digest_144 : decode cX6_digest 144 = .ok (.ldc2_w 281, 3) := by decide +kernel
theorem dX6_digest_147 : decode cX6_digest 147 = .ok (.lload_n 1, 1) := by decide +kernel
theorem dX6_digest_148 : decode cX6_digest 148 = .ok (.lmul, 1) := by decide +kernel
theorem dX6_digest_149 : decode cX6_digest 149 = .ok (.aload_n 0, 1) := by decide +kernel
theorem dX6_digest_150 : decode cX6_digest 150 = .ok (.getfield 32, 3) := by decide +kernel
theorem dX6_digest_153 : decode cX6_digest 153 = .ok (.getfield 192, 3) := by decide +kernel
theorem dX6_digest_156 : decode cX6_digest 156 = .ok (.invokevirtual 130, 3) := by decide +kernel
theorem dX6_digest_159 : decode cX6_digest 159 = .ok (.i2l, 1) := by decide +kernel
theorem dX6_digest_160 : decode cX6_digest 160 = .ok (.ladd, 1) := by decide +kernel
theorem dX6_digest_161 : decode cX6_digest 161 = .ok (.lstore_n 1, 1) := by decide +kernel
theorem dX6_digest_162 : decode cX6_digest 162 = .ok (.lload_n 1, 1) := by decide +kernel
theorem dX6_digest_163 : decode cX6_digest 163 = .ok (.aload_n 0, 1) := by decide +kernel
theorem dX6_digest_164 : decode cX6_digest 164 = .ok (.getfield 32, 3) := by decide +kernel
theorem dX6_digest_167 : decode cX6_digest 167 = .ok (.getfield 192, 3) := by decide +kernel
theorem dX6_digest_170 : decode cX6_digest 170 = .ok (.invokestatic 290, 3) := by decide +kernel
theorem dX6_digest_173 : decode cX6_digest 173 = .ok (.lreturn, 1) := by decide +kernel
theorem dX6_isFamily_0 : decode cX6_isFamily 0 = .ok (.iload_n 0, 1) := by decide +kernel
theorem dX6_isFamily_1 : decode cX6_isFamily 1 = .ok (.ifCond .lt 13, 3) := by decide +kernel
theorem dX6_isFamily_4 : decode cX6_isFamily 4 = .ok (.iload_n 0, 1) := by decide +kernel
theorem dX6_isFamily_5 : decode cX6_isFamily 5 = .ok (.bipush 6, 2) := by decide +kernel
theorem dX6_isFamily_7 : decode cX6_isFamily 7 = .ok (.if_icmp .ge 7, 3) := by decide +kernel
theorem dX6_isFamily_10 : decode cX6_isFamily 10 = .ok (.iconst 1, 1) := by decide +kernel
theorem dX6_isFamily_11 : decode cX6_isFamily 11 = .ok (.goto 4, 3) := by decide +kernel
theorem dX6_isFamily_14 : decode cX6_isFamily 14 = .ok (.iconst 0, 1) := by decide +kernel
theorem dX6_isFamily_15 : decode cX6_isFamily 15 = .ok (.ireturn, 1) := by decide +kernel
set_option maxRecDepth 20000 in
theorem ggX6_needTwoFamilies_X6_isFamily : GoodIn wsX6_needTwoFamilies wsX6_isFamily := goodIn_r _ [6] (by decide +kernel) (by decide +kernel)
set_option maxRecDepth 20000 in
theorem gX6_needTwoFamilies_X6_isFamily : GoodIn wsX6_needTwoFamilies (va_wsS RX6 40 yX6_isFamily wsX6_isFamily) := goodIn_app (goodIn_of _ (by decide +kernel)) ggX6_needTwoFamilies_X6_isFamily
theorem dX6_needTwoFamilies_0 : decode cX6_needTwoFamilies 0 = .ok (.iload_n 0, 1) := by decide +kernel
theorem dX6_needTwoFamilies_1 : decode cX6_needTwoFamilies 1 = .ok (.invokestatic 40, 3) := by decide +kernel
theorem dX6_needTwoFamilies_4 : decode cX6_needTwoFamilies 4 = .ok (.ifCond .eq 15, 3) := by decide +kernel
theorem dX6_needTwoFamilies_7 : decode cX6_needTwoFamilies 7 = .ok (.iload_n 1, 1) := by decide +kernel
theorem dX6_needTwoFamilies_8 : decode cX6_needTwoFamilies 8 = .ok (.invokestatic 40, 3) := by decide +kernel
theorem dX6_needTwoFamilies_11 : decode cX6_needTwoFamilies 11 = .ok (.ifCond .eq 8, 3) := by decide +kernel
theorem dX6_needTwoFamilies_14 : decode cX6_needTwoFamilies 14 = .ok (.iload_n 0, 1) := by decide +kernel
theorem dX6_needTwoFamilies_15 : decode cX6_needTwoFamilies 15 = .ok (.iload_n 1, 1) := by decide +kernel
theorem dX6_needTwoFamilies_16 : decode cX6_needTwoFamilies 16 = .ok (.if_icmp .ne 14, 3) := by decide +kernel
theorem dX6_needTwoFamilies_19 : decode cX6_needTwoFamilies 19 = .ok (.new 44, 3) := by decide +kernel
theorem dX6_needTwoFamilies_22 : decode cX6_needTwoFamilies 22 = .ok (.dup, 1) := by decide +kernel
theorem dX6_needTwoFamilies_23 : decode cX6_needTwoFamilies 23 = .ok (.ldc_w 298, 3) := by decide +kernel
theorem dX6_needTwoFamilies_26 : decode cX6_needTwoFamilies 26 = .ok (.invokespecial 48, 3) := by decide +kernel
theorem dX6_needTwoFamilies_29 : decode cX6_needTwoFamilies 29 = .ok (.athrow, 1) := by decide +kernel
theorem dX6_needTwoFamilies_30 : decode cX6_needTwoFamilies 30 = .ok (.return_, 1) := by decide +kernel
theorem dX6_needPlace_0 : decode cX6_needPlace 0 = .ok (.iload_n 0, 1) := by decide +kernel
theorem dX6_needPlace_1 : decode cX6_needPlace 1 = .ok (.ifCond .ge 14, 3) := by decide +kernel
theorem dX6_needPlace_4 : decode cX6_needPlace 4 = .ok (.new 44, 3) := by decide +kernel
theorem dX6_needPlace_7 : decode cX6_needPlace 7 = .ok (.dup, 1) := by decide +kernel
theorem dX6_needPlace_8 : decode cX6_needPlace 8 = .ok (.ldc_w 300, 3) := by decide +kernel
theorem dX6_needPlace_11 : decode cX6_needPlace 11 = .ok (.invokespecial 48, 3) := by decide +kernel
theorem dX6_needPlace_14 : decode cX6_needPlace 14 = .ok (.athrow, 1) := by decide +kernel
theorem dX6_needPlace_15 : decode cX6_needPlace 15 = .ok (.return_, 1) := by decide +kernel
set_option maxRecDepth 20000 in
theorem ggX6_needGuest_X2_isGuest : GoodIn wsX6_needGuest wsX2_isGuest := goodIn_r _ [8, 9, 16, 17, 18, 19, 20, 21, 22, 23, 24, 25, 26, 27, 28, 29] (by decide +kernel) (by decide +kernel)
set_option maxRecDepth 20000 in
theorem gX6_needGuest_X2_isGuest : GoodIn wsX6_needGuest (wsV RX6 302 RX2 yX2_isGuest wsX2_isGuest) := goodIn_app (goodIn_of _ (by decide +kernel)) ggX6_needGuest_X2_isGuest
theorem dX6_needGuest_0 : decode cX6_needGuest 0 = .ok (.aload_n 0, 1) := by decide +kernel
theorem dX6_needGuest_1 : decode cX6_needGuest 1 = .ok (.getfield 10, 3) := by decide +kernel
theorem dX6_needGuest_4 : decode cX6_needGuest 4 = .ok (.iload_n 1, 1) := by decide +kernel
theorem dX6_needGuest_5 : decode cX6_needGuest 5 = .ok (.invokevirtual 302, 3) := by decide +kernel
theorem dX6_needGuest_8 : decode cX6_needGuest 8 = .ok (.ifCond .ne 14, 3) := by decide +kernel
theorem dX6_needGuest_11 : decode cX6_needGuest 11 = .ok (.new 134, 3) := by decide +kernel
theorem dX6_needGuest_14 : decode cX6_needGuest 14 = .ok (.dup, 1) := by decide +kernel
theorem dX6_needGuest_15 : decode cX6_needGuest 15 = .ok (.ldc_w 305, 3) := by decide +kernel
theorem dX6_needGuest_18 : decode cX6_needGuest 18 = .ok (.invokespecial 138, 3) := by decide +kernel
theorem dX6_needGuest_21 : decode cX6_needGuest 21 = .ok (.athrow, 1) := by decide +kernel
theorem dX6_needGuest_22 : decode cX6_needGuest 22 = .ok (.return_, 1) := by decide +kernel
set_option maxRecDepth 20000 in
theorem ggX6_needTable_X2_isTable : GoodIn wsX6_needTable wsX2_isTable := goodIn_r _ [8, 9, 16, 17, 18, 19, 20, 21, 22, 23, 24, 25, 26, 27, 28, 29] (by decide +kernel) (by decide +kernel)
set_option maxRecDepth 20000 in
theorem gX6_needTable_X2_isTable : GoodIn wsX6_needTable (wsV RX6 307 RX2 yX2_isTable wsX2_isTable) := goodIn_app (goodIn_of _ (by decide +kernel)) ggX6_needTable_X2_isTable
theorem dX6_needTable_0 : decode cX6_needTable 0 = .ok (.aload_n 0, 1) := by decide +kernel
theorem dX6_needTable_1 : decode cX6_needTable 1 = .ok (.getfield 10, 3) := by decide +kernel
theorem dX6_needTable_4 : decode cX6_needTable 4 = .ok (.iload_n 1, 1) := by decide +kernel
theorem dX6_needTable_5 : decode cX6_needTable 5 = .ok (.invokevirtual 307, 3) := by decide +kernel
theorem dX6_needTable_8 : decode cX6_needTable 8 = .ok (.ifCond .ne 14, 3) := by decide +kernel
theorem dX6_needTable_11 : decode cX6_needTable 11 = .ok (.new 134, 3) := by decide +kernel
theorem dX6_needTable_14 : decode cX6_needTable 14 = .ok (.dup, 1) := by decide +kernel
theorem dX6_needTable_15 : decode cX6_needTable 15 = .ok (.ldc_w 310, 3) := by decide +kernel
theorem dX6_needTable_18 : decode cX6_needTable 18 = .ok (.invokespecial 138, 3) := by decide +kernel
theorem dX6_needTable_21 : decode cX6_needTable 21 = .ok (.athrow, 1) := by decide +kernel
theorem dX6_needTable_22 : decode cX6_needTable 22 = .ok (.return_, 1) := by decide +kernel
set_option maxRecDepth 20000 in
theorem ggX6_needSeat_X2_isSeat : GoodIn wsX6_needSeat wsX2_isSeat := goodIn_r _ [8, 9, 10, 11, 7, 12, 13, 14, 15, 16, 17, 18, 25, 26, 27, 28, 29, 30, 31, 32, 33, 34, 35, 36, 37, 38] (by decide +kernel) (by decide +kernel)
set_option maxRecDepth 20000 in
theorem gX6_needSeat_X2_isSeat : GoodIn wsX6_needSeat (wsV RX6 312 RX2 yX2_isSeat wsX2_isSeat) := goodIn_app (goodIn_of _ (by decide +kernel)) ggX6_needSeat_X2_isSeat
theorem dX6_needSeat_0 : decode cX6_needSeat 0 = .ok (.aload_n 0, 1) := by decide +kernel
theorem dX6_needSeat_1 : decode cX6_needSeat 1 = .ok (.getfield 10, 3) := by decide +kernel
theorem dX6_needSeat_4 : decode cX6_needSeat 4 = .ok (.iload_n 1, 1) := by decide +kernel
theorem dX6_needSeat_5 : decode cX6_needSeat 5 = .ok (.iload_n 2, 1) := by decide +kernel
theorem dX6_needSeat_6 : decode cX6_needSeat 6 = .ok (.invokevirtual 312, 3) := by decide +kernel
theorem dX6_needSeat_9 : decode cX6_needSeat 9 = .ok (.ifCond .ne 14, 3) := by decide +kernel
theorem dX6_needSeat_12 : decode cX6_needSeat 12 = .ok (.new 134, 3) := by decide +kernel
theorem dX6_needSeat_15 : decode cX6_needSeat 15 = .ok (.dup, 1) := by decide +kernel
theorem dX6_needSeat_16 : decode cX6_needSeat 16 = .ok (.ldc_w 315, 3) := by decide +kernel
theorem dX6_needSeat_19 : decode cX6_needSeat 19 = .ok (.invokespecial 138, 3) := by decide +kernel
theorem dX6_needSeat_22 : decode cX6_needSeat 22 = .ok (.athrow, 1) := by decide +kernel
theorem dX6_needSeat_23 : decode cX6_needSeat 23 = .ok (.return_, 1) := by decide +kernel
set_option maxRecDepth 20000 in
theorem ggX6_needGuestAndSeat_X6_needGuest : GoodIn wsX6_needGuestAndSeat wsX6_needGuest := goodIn_ca (goodIn_r _ [5, 6, 7, 8, 9, 10, 11, 12, 13, 14, 33, 34, 35, 36, 37, 38, 39, 40, 41, 42, 43, 44, 45, 46, 47, 48, 49, 50, 51, 52] (by decide +kernel) (by decide +kernel)) (goodIn_sub (fun _ h => List.mem_cons_of_mem _ (List.mem_append_right _ h)) (by decide +kernel))
set_option maxRecDepth 20000 in
theorem gX6_needGuestAndSeat_X6_needGuest : GoodIn wsX6_needGuestAndSeat (wsV RX6 68 RX6 yX6_needGuest wsX6_needGuest) := goodIn_app (goodIn_of _ (by decide +kernel)) ggX6_needGuestAndSeat_X6_needGuest
set_option maxRecDepth 20000 in
theorem ggX6_needGuestAndSeat_X6_needSeat : GoodIn wsX6_needGuestAndSeat wsX6_needSeat := goodIn_ca (goodIn_r _ [18, 6, 7, 8, 19, 20, 21, 12, 22, 23, 24, 25, 26, 27, 28, 29, 30, 31, 32, 33, 34, 35, 36, 37, 38, 39, 40, 41, 42, 43, 44, 45, 46, 47, 48, 49, 50, 51, 52] (by decide +kernel) (by decide +kernel)) (goodIn_sub (fun _ h => List.mem_cons_of_mem _ (List.mem_append_right _ h)) (by decide +kernel))
set_option maxRecDepth 20000 in
theorem gX6_needGuestAndSeat_X6_needSeat : GoodIn wsX6_needGuestAndSeat (wsV RX6 243 RX6 yX6_needSeat wsX6_needSeat) := goodIn_app (goodIn_of _ (by decide +kernel)) ggX6_needGuestAndSeat_X6_needSeat
theorem dX6_needGuestAndSeat_0 : decode cX6_needGuestAndSeat 0 = .ok (.aload_n 0, 1) := by decide +kernel
theorem dX6_needGuestAndSeat_1 : decode cX6_needGuestAndSeat 1 = .ok (.iload_n 1, 1) := by decide +kernel
theorem dX6_needGuestAndSeat_2 : decode cX6_needGuestAndSeat 2 = .ok (.invokevirtual 68, 3) := by decide +kernel
theorem dX6_needGuestAndSeat_5 : decode cX6_needGuestAndSeat 5 = .ok (.aload_n 0, 1) := by decide +kernel
theorem dX6_needGuestAndSeat_6 : decode cX6_needGuestAndSeat 6 = .ok (.iload_n 2, 1) := by decide +kernel
theorem dX6_needGuestAndSeat_7 : decode cX6_needGuestAndSeat 7 = .ok (.iload_n 3, 1) := by decide +kernel
theorem dX6_needGuestAndSeat_8 : decode cX6_needGuestAndSeat 8 = .ok (.invokevirtual 243, 3) := by decide +kernel
theorem dX6_needGuestAndSeat_11 : decode cX6_needGuestAndSeat 11 = .ok (.return_, 1) := by decide +kernel
set_option maxRecDepth 20000 in
theorem ggX6_guestNumber_X3_at : GoodIn wsX6_guestNumber wsX3_at := goodIn_r _ [5] (by decide +kernel) (by decide +kernel)
set_option maxRecDepth 20000 in
theorem gX6_guestNumber_X3_at : GoodIn wsX6_guestNumber (va_wsS RX6 78 yX3_at wsX3_at) := goodIn_app (goodIn_of _ (by decide +kernel)) ggX6_guestNumber_X3_at
set_option maxRecDepth 20000 in
theorem ggX6_guestNumber_X4_levelOfGuest : GoodIn wsX6_guestNumber wsX4_levelOfGuest := goodIn_r _ [9, 10, 11, 12, 13, 14, 15, 16, 3, 4, 5, 17, 18, 19, 8, 20, 21, 22, 23, 24, 25, 26, 27, 28, 29, 30, 31, 32, 33, 34, 54, 55, 56, 57, 58, 59, 60, 61, 62, 63, 64, 65, 66, 67] (by decide +kernel) (by decide +kernel)
set_option maxRecDepth 20000 in
theorem gX6_guestNumber_X4_levelOfGuest : GoodIn wsX6_guestNumber (va_wsS RX6 329 yX4_levelOfGuest wsX4_levelOfGuest) := goodIn_app (goodIn_of _ (by decide +kernel)) ggX6_guestNumber_X4_levelOfGuest
set_option maxRecDepth 20000 in
theorem ggX6_guestNumber_X4_ofGuest : GoodIn wsX6_guestNumber wsX4_ofGuest := goodIn_r _ [37, 10, 11, 12, 13, 14, 15, 16, 3, 4, 5, 17, 38, 39, 8, 40, 41, 42, 43, 44, 7, 9, 18, 19, 20, 21, 22, 23, 24, 25, 26, 27, 28, 29, 30, 31, 32, 33, 34, 45, 46, 47, 54, 55, 56, 57, 58, 59, 60, 61, 62, 63, 64, 65, 66, 67] (by decide +kernel) (by decide +kernel)
set_option maxRecDepth 20000 in
theorem gX6_guestNumber_X4_ofGuest : GoodIn wsX6_guestNumber (va_wsS RX6 333 yX4_ofGuest wsX4_ofGuest) := goodIn_app (goodIn_of _ (by decide +kernel)) ggX6_guestNumber_X4_ofGuest
theorem dX6_guestNumber_0 : decode cX6_guestNumber 0 = .ok (.iload_n 2, 1) := by decide +kernel
theorem dX6_guestNumber_1 : decode cX6_guestNumber 1 = .ok (.tableswitch 108 0 5 #[39, 51, 63, 75, 87, 99], 39) := by decide +kernel
theorem dX6_guestNumber_40 : decode cX6_guestNumber 40 = .ok (.aload_n 0, 1) := by decide +kernel
theorem dX6_guestNumber_41 : decode cX6_guestNumber 41 = .ok (.getfield 10, 3) := by decide +kernel
theorem dX6_guestNumber_44 : decode cX6_guestNumber 44 = .ok (.getfield 317, 3) := by decide +kernel
theorem dX6_guestNumber_47 : decode cX6_guestNumber 47 = .ok (.iload_n 1, 1) := by decide +kernel
theorem dX6_guestNumber_48 : decode cX6_guestNumber 48 = .ok (.invokestatic 78, 3) := by decide +kernel
theorem dX6_guestNumber_51 : decode cX6_guestNumber 51 = .ok (.ireturn, 1) := by decide +kernel
theorem dX6_guestNumber_52 : decode cX6_guestNumber 52 = .ok (.aload_n 0, 1) := by decide +kernel
theorem dX6_guestNumber_53 : decode cX6_guestNumber 53 = .ok (.getfield 10, 3) := by decide +kernel
theorem dX6_guestNumber_56 : decode cX6_guestNumber 56 = .ok (.getfield 320, 3) := by decide +kernel
theorem dX6_guestNumber_59 : decode cX6_guestNumber 59 = .ok (.iload_n 1, 1) := by decide +kernel
theorem dX6_guestNumber_60 : decode cX6_guestNumber 60 = .ok (.invokestatic 78, 3) := by decide +kernel
theorem dX6_guestNumber_63 : decode cX6_guestNumber 63 = .ok (.ireturn, 1) := by decide +kernel
theorem dX6_guestNumber_64 : decode cX6_guestNumber 64 = .ok (.aload_n 0, 1) := by decide +kernel
theorem dX6_guestNumber_65 : decode cX6_guestNumber 65 = .ok (.getfield 10, 3) := by decide +kernel
theorem dX6_guestNumber_68 : decode cX6_guestNumber 68 = .ok (.getfield 74, 3) := by decide +kernel
theorem dX6_guestNumber_71 : decode cX6_guestNumber 71 = .ok (.iload_n 1, 1) := by decide +kernel
theorem dX6_guestNumber_72 : decode cX6_guestNumber 72 = .ok (.invokestatic 78, 3) := by decide +kernel
theorem dX6_guestNumber_75 : decode cX6_guestNumber 75 = .ok (.ireturn, 1) := by decide +kernel
theorem dX6_guestNumber_76 : decode cX6_guestNumber 76 = .ok (.aload_n 0, 1) := by decide +kernel
theorem dX6_guestNumber_77 : decode cX6_guestNumber 77 = .ok (.getfield 10, 3) := by decide +kernel
theorem dX6_guestNumber_80 : decode cX6_guestNumber 80 = .ok (.getfield 323, 3) := by decide +kernel
theorem dX6_guestNumber_83 : decode cX6_guestNumber 83 = .ok (.iload_n 1, 1) := by decide +kernel
theorem dX6_guestNumber_84 : decode cX6_guestNumber 84 = .ok (.invokestatic 78, 3) := by decide +kernel
theorem dX6_guestNumber_87 : decode cX6_guestNumber 87 = .ok (.ireturn, 1) := by decide +kernel
theorem dX6_guestNumber_88 : decode cX6_guestNumber 88 = .ok (.aload_n 0, 1) := by decide +kernel
theorem dX6_guestNumber_89 : decode cX6_guestNumber 89 = .ok (.getfield 10, 3) := by decide +kernel
theorem dX6_guestNumber_92 : decode cX6_guestNumber 92 = .ok (.getfield 326, 3) := by decide +kernel
theorem dX6_guestNumber_95 : decode cX6_guestNumber 95 = .ok (.iload_n 1, 1) := by decide +kernel
theorem dX6_guestNumber_96 : decode cX6_guestNumber 96 = .ok (.invokestatic 78, 3) := by decide +kernel
theorem dX6_guestNumber_99 : decode cX6_guestNumber 99 = .ok (.ireturn, 1) := by decide +kernel
theorem dX6_guestNumber_100 : decode cX6_guestNumber 100 = .ok (.aload_n 0, 1) := by decide +kernel
theorem dX6_guestNumber_101 : decode cX6_guestNumber 101 = .ok (.getfield 10, 3) := by decide +kernel
theorem dX6_guestNumber_104 : decode cX6_guestNumber 104 = .ok (.iload_n 1, 1) := by decide +kernel
theorem dX6_guestNumber_105 : decode cX6_guestNumber 105 = .ok (.invokestatic 329, 3) := by decide +kernel
theorem dX6_guestNumber_108 : decode cX6_guestNumber 108 = .ok (.ireturn, 1) := by decide +kernel
theorem dX6_guestNumber_109 : decode cX6_guestNumber 109 = .ok (.aload_n 0, 1) := by decide +kernel
theorem dX6_guestNumber_110 : decode cX6_guestNumber 110 = .ok (.getfield 10, 3) := by decide +kernel
theorem dX6_guestNumber_113 : decode cX6_guestNumber 113 = .ok (.iload_n 1, 1) := by decide +kernel
theorem dX6_guestNumber_114 : decode cX6_guestNumber 114 = .ok (.invokestatic 333, 3) := by decide +kernel
theorem dX6_guestNumber_117 : decode cX6_guestNumber 117 = .ok (.ireturn, 1) := by decide +kernel
set_option maxRecDepth 20000 in
theorem ggX6_tableNumber_X2_seatsAt : GoodIn wsX6_tableNumber wsX2_seatsAt := goodIn_r _ [6, 7, 66, 67, 68, 69, 70, 71, 72, 73, 74, 75, 76, 77, 78, 79] (by decide +kernel) (by decide +kernel)
set_option maxRecDepth 20000 in
theorem gX6_tableNumber_X2_seatsAt : GoodIn wsX6_tableNumber (wsV RX6 336 RX2 yX2_seatsAt wsX2_seatsAt) := goodIn_app (goodIn_of _ (by decide +kernel)) ggX6_tableNumber_X2_seatsAt
set_option maxRecDepth 20000 in
theorem ggX6_tableNumber_X2_sittingAt : GoodIn wsX6_tableNumber wsX2_sittingAt := goodIn_r _ [11, 12, 3, 4, 5, 6, 7, 13, 14, 15, 16, 17, 66, 67, 68, 69, 70, 71, 72, 73, 74, 75, 76, 77, 78, 79] (by decide +kernel) (by decide +kernel)
set_option maxRecDepth 20000 in
theorem gX6_tableNumber_X2_sittingAt : GoodIn wsX6_tableNumber (wsV RX6 339 RX2 yX2_sittingAt wsX2_sittingAt) := goodIn_app (goodIn_of _ (by decide +kernel)) ggX6_tableNumber_X2_sittingAt
set_option maxRecDepth 20000 in
theorem ggX6_tableNumber_X2_familyMask : GoodIn wsX6_tableNumber wsX2_familyMask := goodIn_r _ [21, 22, 12, 3, 4, 5, 6, 7, 13, 14, 15, 16, 17, 23, 24, 25, 26, 66, 67, 68, 69, 70, 71, 72, 73, 74, 75, 76, 77, 78, 79] (by decide +kernel) (by decide +kernel)
set_option maxRecDepth 20000 in
theorem gX6_tableNumber_X2_familyMask : GoodIn wsX6_tableNumber (wsV RX6 342 RX2 yX2_familyMask wsX2_familyMask) := goodIn_app (goodIn_of _ (by decide +kernel)) ggX6_tableNumber_X2_familyMask
set_option maxRecDepth 20000 in
theorem ggX6_tableNumber_X4_ofTable : GoodIn wsX6_tableNumber wsX4_ofTable := goodIn_r _ [30, 31, 3, 4, 5, 6, 7, 32, 14, 15, 16, 17, 33, 34, 29, 35, 36, 37, 38, 39, 24, 25, 26, 40, 41, 42, 43, 44, 45, 46, 47, 48, 49, 50, 51, 52, 53, 54, 66, 67, 68, 69, 70, 71, 72, 73, 74, 75, 76, 77, 78, 79] (by decide +kernel) (by decide +kernel)
set_option maxRecDepth 20000 in
theorem gX6_tableNumber_X4_ofTable : GoodIn wsX6_tableNumber (va_wsS RX6 345 yX4_ofTable wsX4_ofTable) := goodIn_app (goodIn_of _ (by decide +kernel)) ggX6_tableNumber_X4_ofTable
set_option maxRecDepth 20000 in
theorem ggX6_tableNumber_X2_easySeatsFree : GoodIn wsX6_tableNumber wsX2_easySeatsFree := goodIn_r _ [58, 12, 3, 4, 5, 6, 7, 13, 14, 15, 16, 17, 59, 37, 38, 66, 67, 68, 69, 70, 71, 72, 73, 74, 75, 76, 77, 78, 79] (by decide +kernel) (by decide +kernel)
set_option maxRecDepth 20000 in
theorem gX6_tableNumber_X2_easySeatsFree : GoodIn wsX6_tableNumber (wsV RX6 348 RX2 yX2_easySeatsFree wsX2_easySeatsFree) := goodIn_app (goodIn_of _ (by decide +kernel)) ggX6_tableNumber_X2_easySeatsFree
theorem dX6_tableNumber_0 : decode cX6_tableNumber 0 = .ok (.iload_n 2, 1) := by decide +kernel
theorem dX6_tableNumber_1 : decode cX6_tableNumber 1 = .ok (.tableswitch 67 0 3 #[31, 40, 49, 58], 31) := by decide +kernel
theorem dX6_tableNumber_32 : decode cX6_tableNumber 32 = .ok (.aload_n 0, 1) := by decide +kernel
theorem dX6_tableNumber_33 : decode cX6_tableNumber 33 = .ok (.getfield 10, 3) := by decide +kernel
theorem dX6_tableNumber_36 : decode cX6_tableNumber 36 = .ok (.iload_n 1, 1) := by decide +kernel
theorem dX6_tableNumber_37 : decode cX6_tableNumber 37 = .ok (.invokevirtual 336, 3) := by decide +kernel
theorem dX6_tableNumber_40 : decode cX6_tableNumber 40 = .ok (.ireturn, 1) := by decide +kernel
theorem dX6_tableNumber_41 : decode cX6_tableNumber 41 = .ok (.aload_n 0, 1) := by decide +kernel
theorem dX6_tableNumber_42 : decode cX6_tableNumber 42 = .ok (.getfield 10, 3) := by decide +kernel
theorem dX6_tableNumber_45 : decode cX6_tableNumber 45 = .ok (.iload_n 1, 1) := by decide +kernel
theorem dX6_tableNumber_46 : decode cX6_tableNumber 46 = .ok (.invokevirtual 339, 3) := by decide +kernel
theorem dX6_tableNumber_49 : decode cX6_tableNumber 49 = .ok (.ireturn, 1) := by decide +kernel
theorem dX6_tableNumber_50 : decode cX6_tableNumber 50 = .ok (.aload_n 0, 1) := by decide +kernel
theorem dX6_tableNumber_51 : decode cX6_tableNumber 51 = .ok (.getfield 10, 3) := by decide +kernel
theorem dX6_tableNumber_54 : decode cX6_tableNumber 54 = .ok (.iload_n 1, 1) := by decide +kernel
theorem dX6_tableNumber_55 : decode cX6_tableNumber 55 = .ok (.invokevirtual 342, 3) := by decide +kernel
theorem dX6_tableNumber_58 : decode cX6_tableNumber 58 = .ok (.ireturn, 1) := by decide +kernel
theorem dX6_tableNumber_59 : decode cX6_tableNumber 59 = .ok (.aload_n 0, 1) := by decide +kernel
theorem dX6_tableNumber_60 : decode cX6_tableNumber 60 = .ok (.getfield 10, 3) := by decide +kernel
theorem dX6_tableNumber_63 : decode cX6_tableNumber 63 = .ok (.iload_n 1, 1) := by decide +kernel
theorem dX6_tableNumber_64 : decode cX6_tableNumber 64 = .ok (.invokestatic 345, 3) := by decide +kernel
theorem dX6_tableNumber_67 : decode cX6_tableNumber 67 = .ok (.ireturn, 1) := by decide +kernel
theorem dX6_tableNumber_68 : decode cX6_tableNumber 68 = .ok (.aload_n 0, 1) := by decide +kernel
theorem dX6_tableNumber_69 : decode cX6_tableNumber 69 = .ok (.getfield 10, 3) := by decide +kernel
theorem dX6_tableNumber_72 : decode cX6_tableNumber 72 = .ok (.iload_n 1, 1) := by decide +kernel
theorem dX6_tableNumber_73 : decode cX6_tableNumber 73 = .ok (.invokevirtual 348, 3) := by decide +kernel
theorem dX6_tableNumber_76 : decode cX6_tableNumber 76 = .ok (.ireturn, 1) := by decide +kernel
set_option maxRecDepth 20000 in
theorem ggX6_countNumber_X1_length : GoodIn wsX6_countNumber wsX1_length := goodIn_r _ [7, 8, 97, 98] (by decide +kernel) (by decide +kernel)
set_option maxRecDepth 20000 in
theorem gX6_countNumber_X1_length : GoodIn wsX6_countNumber (wsV RX6 130 RX1 yX1_length wsX1_length) := goodIn_app (goodIn_of _ (by decide +kernel)) ggX6_countNumber_X1_length
set_option maxRecDepth 20000 in
theorem ggX6_countNumber_X4_byGuests : GoodIn wsX6_countNumber wsX4_byGuests := goodIn_r _ [12, 13, 14, 11, 15, 16, 17, 18, 19, 20, 21, 22, 23, 24, 25, 26, 27, 28, 29, 30, 31, 32, 33, 34, 35, 36, 37, 38, 39, 40, 41, 42, 43, 44, 45, 46, 47, 48, 49, 50, 51, 52, 53, 54, 55, 83, 84, 85, 86, 87, 88, 89, 90, 91, 92, 93, 94, 95, 96] (by decide +kernel) (by decide +kernel)
set_option maxRecDepth 20000 in
theorem gX6_countNumber_X4_byGuests : GoodIn wsX6_countNumber (va_wsS RX6 163 yX4_byGuests wsX4_byGuests) := goodIn_app (goodIn_of _ (by decide +kernel)) ggX6_countNumber_X4_byGuests
set_option maxRecDepth 20000 in
theorem ggX6_countNumber_X4_byTables : GoodIn wsX6_countNumber wsX4_byTables := goodIn_r _ [58, 59, 60, 11, 61, 48, 49, 50, 19, 51, 52, 62, 63, 64, 65, 66, 27, 28, 29, 30, 31, 32, 26, 23, 24, 25, 36, 37, 38, 39, 40, 41, 42, 43, 44, 45, 46, 47, 53, 54, 55, 83, 84, 85, 86, 87, 88, 89, 90, 91, 92, 93, 94, 95, 96] (by decide +kernel) (by decide +kernel)
set_option maxRecDepth 20000 in
theorem gX6_countNumber_X4_byTables : GoodIn wsX6_countNumber (va_wsS RX6 351 yX4_byTables wsX4_byTables) := goodIn_app (goodIn_of _ (by decide +kernel)) ggX6_countNumber_X4_byTables
set_option maxRecDepth 20000 in
theorem ggX6_countNumber_X4_wishesMet : GoodIn wsX6_countNumber wsX4_wishesMet := goodIn_r _ [69, 33, 34, 11, 35, 16, 17, 18, 19, 20, 21, 22, 23, 24, 25, 26, 36, 37, 38, 39, 40, 41, 42, 43, 44, 45, 46, 47, 48, 49, 50, 51, 52, 83, 84, 85, 86, 87, 88, 89, 90, 91, 92, 93, 94, 95, 96] (by decide +kernel) (by decide +kernel)
set_option maxRecDepth 20000 in
theorem gX6_countNumber_X4_wishesMet : GoodIn wsX6_countNumber (va_wsS RX6 354 yX4_wishesMet wsX4_wishesMet) := goodIn_app (goodIn_of _ (by decide +kernel)) ggX6_countNumber_X4_wishesMet
set_option maxRecDepth 20000 in
theorem ggX6_countNumber_X0_length : GoodIn wsX6_countNumber wsX0_length := goodIn_r _ [74, 75, 99, 100, 101] (by decide +kernel) (by decide +kernel)
set_option maxRecDepth 20000 in
theorem gX6_countNumber_X0_length : GoodIn wsX6_countNumber (wsV RX6 222 RX0 yX0_length wsX0_length) := goodIn_app (goodIn_of _ (by decide +kernel)) ggX6_countNumber_X0_length
set_option maxRecDepth 20000 in
theorem ggX6_countNumber_X3_at : GoodIn wsX6_countNumber wsX3_at := goodIn_r _ [25] (by decide +kernel) (by decide +kernel)
set_option maxRecDepth 20000 in
theorem gX6_countNumber_X3_at : GoodIn wsX6_countNumber (va_wsS RX6 78 yX3_at wsX3_at) := goodIn_app (goodIn_of _ (by decide +kernel)) ggX6_countNumber_X3_at
theorem dX6_countNumber_0 : decode cX6_countNumber 0 = .ok (.iload_n 1, 1) := by decide +kernel
theorem dX6_countNumber_1 : decode cX6_countNumber 1 = .ok (.tableswitch 157 0 13 #[71, 79, 87, 98, 109, 117, 125, 133, 141, 157, 157, 157, 157, 149], 71) := by decide +kernel
theorem dX6_countNumber_72 : decode cX6_countNumber 72 = .ok (.aload_n 0, 1) := by decide +kernel
theorem dX6_countNumber_73 : decode cX6_countNumber 73 = .ok (.getfield 10, 3) := by decide +kernel
theorem dX6_countNumber_76 : decode cX6_countNumber 76 = .ok (.getfield 51, 3) := by decide +kernel
theorem dX6_countNumber_79 : decode cX6_countNumber 79 = .ok (.ireturn, 1) := by decide +kernel
theorem dX6_countNumber_80 : decode cX6_countNumber 80 = .ok (.aload_n 0, 1) := by decide +kernel
theorem dX6_countNumber_81 : decode cX6_countNumber 81 = .ok (.getfield 10, 3) := by decide +kernel
theorem dX6_countNumber_84 : decode cX6_countNumber 84 = .ok (.getfield 90, 3) := by decide +kernel
theorem dX6_countNumber_87 : decode cX6_countNumber 87 = .ok (.ireturn, 1) := by decide +kernel
theorem dX6_countNumber_88 : decode cX6_countNumber 88 = .ok (.aload_n 0, 1) := by decide +kernel
theorem dX6_countNumber_89 : decode cX6_countNumber 89 = .ok (.getfield 10, 3) := by decide +kernel
theorem dX6_countNumber_92 : decode cX6_countNumber 92 = .ok (.getfield 107, 3) := by decide +kernel
theorem dX6_countNumber_95 : decode cX6_countNumber 95 = .ok (.invokevirtual 130, 3) := by decide +kernel
theorem dX6_countNumber_98 : decode cX6_countNumber 98 = .ok (.ireturn, 1) := by decide +kernel
theorem dX6_countNumber_99 : decode cX6_countNumber 99 = .ok (.aload_n 0, 1) := by decide +kernel
theorem dX6_countNumber_100 : decode cX6_countNumber 100 = .ok (.getfield 10, 3) := by decide +kernel
theorem dX6_countNumber_103 : decode cX6_countNumber 103 = .ok (.getfield 228, 3) := by decide +kernel
theorem dX6_countNumber_106 : decode cX6_countNumber 106 = .ok (.invokevirtual 130, 3) := by decide +kernel
theorem dX6_countNumber_109 : decode cX6_countNumber 109 = .ok (.ireturn, 1) := by decide +kernel
theorem dX6_countNumber_110 : decode cX6_countNumber 110 = .ok (.aload_n 0, 1) := by decide +kernel
theorem dX6_countNumber_111 : decode cX6_countNumber 111 = .ok (.getfield 10, 3) := by decide +kernel
theorem dX6_countNumber_114 : decode cX6_countNumber 114 = .ok (.invokestatic 163, 3) := by decide +kernel
theorem dX6_countNumber_117 : decode cX6_countNumber 117 = .ok (.ireturn, 1) := by decide +kernel
theorem dX6_countNumber_118 : decode cX6_countNumber 118 = .ok (.aload_n 0, 1) := by decide +kernel
theorem dX6_countNumber_119 : decode cX6_countNumber 119 = .ok (.getfield 10, 3) := by decide +kernel
theorem dX6_countNumber_122 : decode cX6_countNumber 122 = .ok (.invokestatic 351, 3) := by decide +kernel
theorem dX6_countNumber_125 : decode cX6_countNumber 125 = .ok (.ireturn, 1) := by decide +kernel
theorem dX6_countNumber_126 : decode cX6_countNumber 126 = .ok (.aload_n 0, 1) := by decide +kernel
theorem dX6_countNumber_127 : decode cX6_countNumber 127 = .ok (.getfield 10, 3) := by decide +kernel
theorem dX6_countNumber_130 : decode cX6_countNumber 130 = .ok (.invokestatic 354, 3) := by decide +kernel
theorem dX6_countNumber_133 : decode cX6_countNumber 133 = .ok (.ireturn, 1) := by decide +kernel
theorem dX6_countNumber_134 : decode cX6_countNumber 134 = .ok (.aload_n 0, 1) := by decide +kernel
theorem dX6_countNumber_135 : decode cX6_countNumber 135 = .ok (.getfield 10, 3) := by decide +kernel
theorem dX6_countNumber_138 : decode cX6_countNumber 138 = .ok (.getfield 357, 3) := by decide +kernel
theorem dX6_countNumber_141 : decode cX6_countNumber 141 = .ok (.ireturn, 1) := by decide +kernel
theorem dX6_countNumber_142 : decode cX6_countNumber 142 = .ok (.aload_n 0, 1) := by decide +kernel
theorem dX6_countNumber_143 : decode cX6_countNumber 143 = .ok (.getfield 10, 3) := by decide +kernel
theorem dX6_countNumber_146 : decode cX6_countNumber 146 = .ok (.getfield 360, 3) := by decide +kernel
theorem dX6_countNumber_149 : decode cX6_countNumber 149 = .ok (.ireturn, 1) := by decide +kernel
theorem dX6_countNumber_150 : decode cX6_countNumber 150 = .ok (.aload_n 0, 1) := by decide +kernel
theorem dX6_countNumber_151 : decode cX6_countNumber 151 = .ok (.getfield 25, 3) := by decide +kernel
theorem dX6_countNumber_154 : decode cX6_countNumber 154 = .ok (.invokevirtual 222, 3) := by decide +kernel
theorem dX6_countNumber_157 : decode cX6_countNumber 157 = .ok (.ireturn, 1) := by decide +kernel
theorem dX6_countNumber_158 : decode cX6_countNumber 158 = .ok (.aload_n 0, 1) := by decide +kernel
theorem dX6_countNumber_159 : decode cX6_countNumber 159 = .ok (.getfield 10, 3) := by decide +kernel
theorem dX6_countNumber_162 : decode cX6_countNumber 162 = .ok (.getfield 147, 3) := by decide +kernel
theorem dX6_countNumber_165 : decode cX6_countNumber 165 = .ok (.iload_n 1, 1) := by decide +kernel
theorem dX6_countNumber_166 : decode cX6_countNumber 166 = .ok (.bipush 9, 2) := by decide +kernel
theorem dX6_countNumber_168 : decode cX6_countNumber 168 = .ok (.isub, 1) := by decide +kernel
theorem dX6_countNumber_169 : decode cX6_countNumber 169 = .ok (.invokestatic 78, 3) := by decide +kernel
theorem dX6_countNumber_172 : decode cX6_countNumber 172 = .ok (.ireturn, 1) := by decide +kernel
set_option maxRecDepth 20000 in
theorem ggX6_seatedNumber_X2_copyFrom : GoodIn wsX6_seatedNumber wsX2_copyFrom := goodIn_r _ [7, 8, 9, 10, 11, 12, 13, 14, 15, 16, 17, 18, 19, 20, 21, 22, 23, 24, 25, 26, 27, 28, 29, 30, 31, 32, 33, 34, 35, 36, 37, 152, 153, 154, 155, 156, 157, 158, 159, 160, 161, 162, 163, 164, 165, 166, 167] (by decide +kernel) (by decide +kernel)
set_option maxRecDepth 20000 in
theorem gX6_seatedNumber_X2_copyFrom : GoodIn wsX6_seatedNumber (wsV RX6 179 RX2 yX2_copyFrom wsX2_copyFrom) := goodIn_app (goodIn_of _ (by decide +kernel)) ggX6_seatedNumber_X2_copyFrom
set_option maxRecDepth 20000 in
theorem ggX6_seatedNumber_X2_seatStanding : GoodIn wsX6_seatedNumber wsX2_seatStanding := goodIn_r _ [41, 18, 17, 42, 43, 44, 6, 45, 11, 46, 47, 24, 48, 49, 50, 51, 52, 19, 53, 54, 55, 56, 13, 57, 58, 59, 60, 9, 8, 15, 61, 62, 63, 64, 14, 65, 66, 67, 68, 69, 70, 71, 16, 72, 73, 74, 29, 75, 32, 76, 77, 78, 79, 31, 80, 81, 82, 83, 84, 85, 86, 87, 88, 89, 90, 91, 92, 93, 94, 95, 96, 97, 98, 99, 100, 101, 35, 102, 103, 104, 105, 106, 107, 108, 109, 110, 111, 112, 113, 114, 12, 20, 115, 116, 117, 118, 21, 119, 120, 121, 122, 123, 124, 125, 126, 127, 128, 129, 130, 131, 132, 133, 134, 135, 152, 153, 154, 155, 156, 157, 158, 159, 160, 161, 162, 163, 164, 165, 166, 167] (by decide +kernel) (by decide +kernel)
set_option maxRecDepth 20000 in
theorem gX6_seatedNumber_X2_seatStanding : GoodIn wsX6_seatedNumber (wsV RX6 187 RX2 yX2_seatStanding wsX2_seatStanding) := goodIn_app (goodIn_of _ (by decide +kernel)) ggX6_seatedNumber_X2_seatStanding
set_option maxRecDepth 20000 in
theorem ggX6_seatedNumber_X4_byGuests : GoodIn wsX6_seatedNumber wsX4_byGuests := goodIn_r _ [138, 139, 140, 90, 141, 142, 43, 44, 6, 45, 11, 46, 47, 24, 48, 92, 93, 94, 95, 96, 66, 67, 143, 144, 145, 97, 98, 99, 100, 101, 35, 102, 103, 104, 105, 106, 18, 107, 54, 55, 56, 13, 108, 109, 110, 152, 153, 154, 155, 156, 157, 158, 159, 160, 161, 162, 163, 164, 165] (by decide +kernel) (by decide +kernel)
set_option maxRecDepth 20000 in
theorem gX6_seatedNumber_X4_byGuests : GoodIn wsX6_seatedNumber (va_wsS RX6 163 yX4_byGuests wsX4_byGuests) := goodIn_app (goodIn_of _ (by decide +kernel)) ggX6_seatedNumber_X4_byGuests
theorem dX6_seatedNumber_0 : decode cX6_seatedNumber 0 = .ok (.aload_n 0, 1) := by decide +kernel
theorem dX6_seatedNumber_1 : decode cX6_seatedNumber 1 = .ok (.getfield 16, 3) := by decide +kernel
theorem dX6_seatedNumber_4 : decode cX6_seatedNumber 4 = .ok (.aload_n 0, 1) := by decide +kernel
theorem dX6_seatedNumber_5 : decode cX6_seatedNumber 5 = .ok (.getfield 10, 3) := by decide +kernel
theorem dX6_seatedNumber_8 : decode cX6_seatedNumber 8 = .ok (.invokevirtual 179, 3) := by decide +kernel
theorem dX6_seatedNumber_11 : decode cX6_seatedNumber 11 = .ok (.aload_n 0, 1) := by decide +kernel
theorem dX6_seatedNumber_12 : decode cX6_seatedNumber 12 = .ok (.getfield 16, 3) := by decide +kernel
theorem dX6_seatedNumber_15 : decode cX6_seatedNumber 15 = .ok (.invokevirtual 187, 3) := by decide +kernel
theorem dX6_seatedNumber_18 : decode cX6_seatedNumber 18 = .ok (.istore_n 2, 1) := by decide +kernel
theorem dX6_seatedNumber_19 : decode cX6_seatedNumber 19 = .ok (.iload_n 1, 1) := by decide +kernel
theorem dX6_seatedNumber_20 : decode cX6_seatedNumber 20 = .ok (.ifCond .ne 7, 3) := by decide +kernel
theorem dX6_seatedNumber_23 : decode cX6_seatedNumber 23 = .ok (.iload_n 2, 1) := by decide +kernel
theorem dX6_seatedNumber_24 : decode cX6_seatedNumber 24 = .ok (.goto 14, 3) := by decide +kernel
theorem dX6_seatedNumber_27 : decode cX6_seatedNumber 27 = .ok (.aload_n 0, 1) := by decide +kernel
theorem dX6_seatedNumber_28 : decode cX6_seatedNumber 28 = .ok (.getfield 16, 3) := by decide +kernel
theorem dX6_seatedNumber_31 : decode cX6_seatedNumber 31 = .ok (.invokestatic 163, 3) := by decide +kernel
theorem dX6_seatedNumber_34 : decode cX6_seatedNumber 34 = .ok (.sipush 1000, 3) := by decide +kernel
theorem dX6_seatedNumber_37 : decode cX6_seatedNumber 37 = .ok (.iadd, 1) := by decide +kernel
theorem dX6_seatedNumber_38 : decode cX6_seatedNumber 38 = .ok (.ireturn, 1) := by decide +kernel
set_option maxRecDepth 20000 in
theorem ggX6_hashGuests_X6_guestNumber : GoodIn wsX6_hashGuests wsX6_guestNumber := goodIn_r _ [7, 1, 8, 9, 10, 11, 12, 13, 14, 15, 16, 17, 18, 19, 20, 21, 22, 23, 24, 25, 26, 27, 28, 29, 30, 31, 32, 33, 34, 35, 36, 37, 38, 39, 40, 41, 42, 43, 44, 45, 46, 47, 48, 49, 50, 51, 52, 53, 100, 101, 102, 103, 104, 105, 106, 107, 108, 109, 110, 111, 112, 113, 114, 115, 116, 117, 118, 119] (by decide +kernel) (by decide +kernel)
set_option maxRecDepth 20000 in
theorem gX6_hashGuests_X6_guestNumber : GoodIn wsX6_hashGuests (wsV RX6 235 RX6 yX6_guestNumber wsX6_guestNumber) := goodIn_app (goodIn_of _ (by decide +kernel)) ggX6_hashGuests_X6_guestNumber
set_option maxRecDepth 20000 in
theorem ggX6_hashGuests_X2_bestPlace : GoodIn wsX6_hashGuests wsX2_bestPlace := goodIn_r _ [57, 58, 59, 37, 38, 19, 39, 40, 60, 61, 62, 63, 64, 65, 21, 66, 67, 68, 69, 70, 71, 72, 48, 49, 22, 9, 10, 11, 73, 74, 75, 76, 77, 78, 79, 80, 81, 82, 83, 84, 85, 86, 87, 88, 89, 90, 91, 92, 93, 94, 95, 96, 97, 98, 14, 99, 23, 44, 45, 46, 47, 24, 25, 26, 27, 28, 29, 30, 31, 32, 33, 34, 35, 36, 51, 52, 53, 106, 107, 108, 109, 110, 111, 112, 113, 114, 115, 116, 117, 118, 119, 120, 121] (by decide +kernel) (by decide +kernel)
set_option maxRecDepth 20000 in
theorem gX6_hashGuests_X2_bestPlace : GoodIn wsX6_hashGuests (wsV RX6 264 RX2 yX2_bestPlace wsX2_bestPlace) := goodIn_app (goodIn_of _ (by decide +kernel)) ggX6_hashGuests_X2_bestPlace
theorem dX6_hashGuests_0 : decode cX6_hashGuests 0 = .ok (.lload_n 1, 1) := by decide +kernel
theorem dX6_hashGuests_1 : decode cX6_hashGuests 1 = .ok (.lstore_n 3, 1) := by decide +kernel
theorem dX6_hashGuests_2 : decode cX6_hashGuests 2 = .ok (.iconst 0, 1) := by decide +kernel
theorem dX6_hashGuests_3 : decode cX6_hashGuests 3 = .ok (.istore 5, 2) := by decide +kernel
theorem dX6_hashGuests_5 : decode cX6_hashGuests 5 = .ok (.iload 5, 2) := by decide +kernel
theorem dX6_hashGuests_7 : decode cX6_hashGuests 7 = .ok (.aload_n 0, 1) := by decide +kernel
theorem dX6_hashGuests_8 : decode cX6_hashGuests 8 = .ok (.getfield 10, 3) := by decide +kernel
theorem dX6_hashGuests_11 : decode cX6_hashGuests 11 = .ok (.getfield 51, 3) := by decide +kernel
theorem dX6_hashGuests_14 : decode cX6_hashGuests 14 = .ok (.if_icmp .ge 58, 3) := by decide +kernel
theorem dX6_hashGuests_17 : decode cX6_hashGuests 17 = .ok (.iconst 0, 1) := by decide +kernel
theorem dX6_hashGuests_18 : decode cX6_hashGuests 18 = .ok (.istore 6, 2) := by decide +kernel
theorem dX6_hashGuests_20 : decode cX6_hashGuests 20 = .ok (.iload 6, 2) := by decide +kernel
theorem dX6_hashGuests_22 : decode cX6_hashGuests 22 = .ok (.bipush 7, 2) := by decide +kernel
theorem dX6_hashGuests_24 : decode cX6_hashGuests 24 = .ok (.if_icmp .ge 25, 3) := by decide +kernel
theorem dX6_hashGuests_27 : decode cX6_hashGuests 27 = .ok (.ldc2_w 281, 3) := by decide +kernel
theorem dX6_hashGuests_30 : decode cX6_hashGuests 30 = .ok (.lload_n 3, 1) := by decide +kernel
theorem dX6_hashGuests_31 : decode cX6_hashGuests 31 = .ok (.lmul, 1) := by decide +kernel
theorem dX6_hashGuests_32 : decode cX6_hashGuests 32 = .ok (.aload_n 0, 1) := by decide +kernel
theorem dX6_hashGuests_33 : decode cX6_hashGuests 33 = .ok (.iload 5, 2) := by decide +kernel
theorem dX6_hashGuests_35 : decode cX6_hashGuests 35 = .ok (.iload 6, 2) := by decide +kernel
theorem dX6_hashGuests_37 : decode cX6_hashGuests 37 = .ok (.invokevirtual 235, 3) := by decide +kernel
theorem dX6_hashGuests_40 : decode cX6_hashGuests 40 = .ok (.i2l, 1) := by decide +kernel
theorem dX6_hashGuests_41 : decode cX6_hashGuests 41 = .ok (.ladd, 1) := by decide +kernel
theorem dX6_hashGuests_42 : decode cX6_hashGuests 42 = .ok (.lstore_n 3, 1) := by decide +kernel
theorem dX6_hashGuests_43 : decode cX6_hashGuests 43 = .ok (.iinc 6 1, 3) := by decide +kernel
theorem dX6_hashGuests_46 : decode cX6_hashGuests 46 = .ok (.goto (-26), 3) := by decide +kernel
theorem dX6_hashGuests_49 : decode cX6_hashGuests 49 = .ok (.ldc2_w 281, 3) := by decide +kernel
theorem dX6_hashGuests_52 : decode cX6_hashGuests 52 = .ok (.lload_n 3, 1) := by decide +kernel
theorem dX6_hashGuests_53 : decode cX6_hashGuests 53 = .ok (.lmul, 1) := by decide +kernel
theorem dX6_hashGuests_54 : decode cX6_hashGuests 54 = .ok (.aload_n 0, 1) := by decide +kernel
theorem dX6_hashGuests_55 : decode cX6_hashGuests 55 = .ok (.getfield 10, 3) := by decide +kernel
theorem dX6_hashGuests_58 : decode cX6_hashGuests 58 = .ok (.iload 5, 2) := by decide +kernel
theorem dX6_hashGuests_60 : decode cX6_hashGuests 60 = .ok (.invokevirtual 264, 3) := by decide +kernel
theorem dX6_hashGuests_63 : decode cX6_hashGuests 63 = .ok (.i2l, 1) := by decide +kernel
theorem dX6_hashGuests_64 : decode cX6_hashGuests 64 = .ok (.ladd, 1) := by decide +kernel
theorem dX6_hashGuests_65 : decode cX6_hashGuests 65 = .ok (.lstore_n 3, 1) := by decide +kernel
theorem dX6_hashGuests_66 : decode cX6_hashGuests 66 = .ok (.iinc 5 1, 3) := by decide +kernel
theorem dX6_hashGuests_69 : decode cX6_hashGuests 69 = .ok (.goto (-64), 3) := by decide +kernel
theorem dX6_hashGuests_72 : decode cX6_hashGuests 72 = .ok (.lload_n 3, 1) := by decide +kernel
theorem dX6_hashGuests_73 : decode cX6_hashGuests 73 = .ok (.lreturn, 1) := by decide +kernel
set_option maxRecDepth 20000 in
theorem ggX6_hashTables_X6_tableNumber : GoodIn wsX6_hashTables wsX6_tableNumber := goodIn_r _ [7, 1, 8, 9, 10, 11, 12, 13, 14, 15, 16, 17, 18, 19, 20, 21, 22, 23, 24, 25, 26, 27, 28, 29, 30, 31, 32, 33, 34, 35, 36, 37, 38, 39, 40, 41, 42, 43, 44, 45, 46, 47, 48, 49, 50, 51, 52, 53, 54, 55, 56, 57, 58, 59, 60, 61, 62, 63, 64, 65, 75, 76, 77, 78, 79, 80, 81, 82, 83, 84, 85, 86, 87, 88, 89, 90, 91, 92, 93, 94] (by decide +kernel) (by decide +kernel)
set_option maxRecDepth 20000 in
theorem gX6_hashTables_X6_tableNumber : GoodIn wsX6_hashTables (wsV RX6 240 RX6 yX6_tableNumber wsX6_tableNumber) := goodIn_app (goodIn_of _ (by decide +kernel)) ggX6_hashTables_X6_tableNumber
set_option maxRecDepth 20000 in
theorem ggX6_hashTables_X2_seatsAt : GoodIn wsX6_hashTables wsX2_seatsAt := goodIn_r _ [12, 13, 81, 82, 83, 84, 85, 86, 87, 88, 89, 90, 91, 92, 93, 94] (by decide +kernel) (by decide +kernel)
set_option maxRecDepth 20000 in
theorem gX6_hashTables_X2_seatsAt : GoodIn wsX6_hashTables (wsV RX6 336 RX2 yX2_seatsAt wsX2_seatsAt) := goodIn_app (goodIn_of _ (by decide +kernel)) ggX6_hashTables_X2_seatsAt
set_option maxRecDepth 20000 in
theorem ggX6_hashTables_X2_holderAt : GoodIn wsX6_hashTables wsX2_holderAt := goodIn_r _ [22, 23, 81, 82, 83, 84, 85, 86, 87, 88, 89, 90, 91, 92, 93, 94] (by decide +kernel) (by decide +kernel)
set_option maxRecDepth 20000 in
theorem gX6_hashTables_X2_holderAt : GoodIn wsX6_hashTables (wsV RX6 246 RX2 yX2_holderAt wsX2_holderAt) := goodIn_app (goodIn_of _ (by decide +kernel)) ggX6_hashTables_X2_holderAt
set_option maxRecDepth 20000 in
theorem ggX6_hashTables_X2_lettersOfTable : GoodIn wsX6_hashTables wsX2_lettersOfTable := goodIn_r _ [70, 18, 9, 10, 11, 12, 13, 65, 43, 44, 81, 82, 83, 84, 85, 86, 87, 88, 89, 90, 91, 92, 93, 94] (by decide +kernel) (by decide +kernel)
set_option maxRecDepth 20000 in
theorem gX6_hashTables_X2_lettersOfTable : GoodIn wsX6_hashTables (wsV RX6 363 RX2 yX2_lettersOfTable wsX2_lettersOfTable) := goodIn_app (goodIn_of _ (by decide +kernel)) ggX6_hashTables_X2_lettersOfTable
set_option maxRecDepth 20000 in
theorem ggX6_hashTables_X2_letterOfTable : GoodIn wsX6_hashTables wsX2_letterOfTable := goodIn_r _ [74, 28, 18, 9, 10, 11, 12, 13, 19, 20, 21, 22, 23, 29, 30, 31, 32, 65, 43, 44, 81, 82, 83, 84, 85, 86, 87, 88, 89, 90, 91, 92, 93, 94] (by decide +kernel) (by decide +kernel)
set_option maxRecDepth 20000 in
theorem gX6_hashTables_X2_letterOfTable : GoodIn wsX6_hashTables (wsV RX6 219 RX2 yX2_letterOfTable wsX2_letterOfTable) := goodIn_app (goodIn_of _ (by decide +kernel)) ggX6_hashTables_X2_letterOfTable
theorem dX6_hashTables_0 : decode cX6_hashTables 0 = .ok (.lload_n 1, 1) := by decide +kernel
theorem dX6_hashTables_1 : decode cX6_hashTables 1 = .ok (.lstore_n 3, 1) := by decide +kernel
theorem dX6_hashTables_2 : decode cX6_hashTables 2 = .ok (.iconst 0, 1) := by decide +kernel
theorem dX6_hashTables_3 : decode cX6_hashTables 3 = .ok (.istore 5, 2) := by decide +kernel
theorem dX6_hashTables_5 : decode cX6_hashTables 5 = .ok (.iload 5, 2) := by decide +kernel
theorem dX6_hashTables_7 : decode cX6_hashTables 7 = .ok (.aload_n 0, 1) := by decide +kernel
theorem dX6_hashTables_8 : decode cX6_hashTables 8 = .ok (.getfield 10, 3) := by decide +kernel
theorem dX6_hashTables_11 : decode cX6_hashTables 11 = .ok (.getfield 90, 3) := by decide +kernel
theorem dX6_hashTables_14 : decode cX6_hashTables 14 = .ok (.if_icmp .ge 128, 3) := by decide +kernel
theorem dX6_hashTables_17 : decode cX6_hashTables 17 = .ok (.iconst 0, 1) := by decide +kernel
theorem dX6_hashTables_18 : decode cX6_hashTables 18 = .ok (.istore 6, 2) := by decide +kernel
theorem dX6_hashTables_20 : decode cX6_hashTables 20 = .ok (.iload 6, 2) := by decide +kernel
theorem dX6_hashTables_22 : decode cX6_hashTables 22 = .ok (.iconst 5, 1) := by decide +kernel
theorem dX6_hashTables_23 : decode cX6_hashTables 23 = .ok (.if_icmp .ge 25, 3) := by decide +kernel
theorem dX6_hashTables_26 : decode cX6_hashTables 26 = .ok (.ldc2_w 281, 3) := by decide +kernel
theorem dX6_hashTables_29 : decode cX6_hashTables 29 = .ok (.lload_n 3, 1) := by decide +kernel
theorem dX6_hashTables_30 : decode cX6_hashTables 30 = .ok (.lmul, 1) := by decide +kernel
theorem dX6_hashTables_31 : decode cX6_hashTables 31 = .ok (.aload_n 0, 1) := by decide +kernel
theorem dX6_hashTables_32 : decode cX6_hashTables 32 = .ok (.iload 5, 2) := by decide +kernel
theorem dX6_hashTables_34 : decode cX6_hashTables 34 = .ok (.iload 6, 2) := by decide +kernel
theorem dX6_hashTables_36 : decode cX6_hashTables 36 = .ok (.invokevirtual 240, 3) := by decide +kernel
theorem dX6_hashTables_39 : decode cX6_hashTables 39 = .ok (.i2l, 1) := by decide +kernel
theorem dX6_hashTables_40 : decode cX6_hashTables 40 = .ok (.ladd, 1) := by decide +kernel
theorem dX6_hashTables_41 : decode cX6_hashTables 41 = .ok (.lstore_n 3, 1) := by decide +kernel
theorem dX6_hashTables_42 : decode cX6_hashTables 42 = .ok (.iinc 6 1, 3) := by decide +kernel
theorem dX6_hashTables_45 : decode cX6_hashTables 45 = .ok (.goto (-25), 3) := by decide +kernel
theorem dX6_hashTables_48 : decode cX6_hashTables 48 = .ok (.iconst 0, 1) := by decide +kernel
theorem dX6_hashTables_49 : decode cX6_hashTables 49 = .ok (.istore 6, 2) := by decide +kernel
theorem dX6_hashTables_51 : decode cX6_hashTables 51 = .ok (.iload 6, 2) := by decide +kernel
theorem dX6_hashTables_53 : decode cX6_hashTables 53 = .ok (.aload_n 0, 1) := by decide +kernel
theorem dX6_hashTables_54 : decode cX6_hashTables 54 = .ok (.getfield 10, 3) := by decide +kernel
theorem dX6_hashTables_57 : decode cX6_hashTables 57 = .ok (.iload 5, 2) := by decide +kernel
theorem dX6_hashTables_59 : decode cX6_hashTables 59 = .ok (.invokevirtual 336, 3) := by decide +kernel
theorem dX6_hashTables_62 : decode cX6_hashTables 62 = .ok (.if_icmp .ge 28, 3) := by decide +kernel
theorem dX6_hashTables_65 : decode cX6_hashTables 65 = .ok (.ldc2_w 281, 3) := by decide +kernel
theorem dX6_hashTables_68 : decode cX6_hashTables 68 = .ok (.lload_n 3, 1) := by decide +kernel
theorem dX6_hashTables_69 : decode cX6_hashTables 69 = .ok (.lmul, 1) := by decide +kernel
theorem dX6_hashTables_70 : decode cX6_hashTables 70 = .ok (.aload_n 0, 1) := by decide +kernel
theorem dX6_hashTables_71 : decode cX6_hashTables 71 = .ok (.getfield 10, 3) := by decide +kernel
theorem dX6_hashTables_74 : decode cX6_hashTables 74 = .ok (.iload 5, 2) := by decide +kernel
theorem dX6_hashTables_76 : decode cX6_hashTables 76 = .ok (.iload 6, 2) := by decide +kernel
theorem dX6_hashTables_78 : decode cX6_hashTables 78 = .ok (.invokevirtual 246, 3) := by decide +kernel
theorem dX6_hashTables_81 : decode cX6_hashTables 81 = .ok (.i2l, 1) := by decide +kernel
theorem dX6_hashTables_82 : decode cX6_hashTables 82 = .ok (.ladd, 1) := by decide +kernel
theorem dX6_hashTables_83 : decode cX6_hashTables 83 = .ok (.lstore_n 3, 1) := by decide +kernel
theorem dX6_hashTables_84 : decode cX6_hashTables 84 = .ok (.iinc 6 1, 3) := by decide +kernel
theorem dX6_hashTables_87 : decode cX6_hashTables 87 = .ok (.goto (-36), 3) := by decide +kernel
theorem dX6_hashTables_90 : decode cX6_hashTables 90 = .ok (.aload_n 0, 1) := by decide +kernel
theorem dX6_hashTables_91 : decode cX6_hashTables 91 = .ok (.getfield 10, 3) := by decide +kernel
theorem dX6_hashTables_94 : decode cX6_hashTables 94 = .ok (.iload 5, 2) := by decide +kernel
theorem dX6_hashTables_96 : decode cX6_hashTables 96 = .ok (.invokevirtual 363, 3) := by decide +kernel
theorem dX6_hashTables_99 : decode cX6_hashTables 99 = .ok (.istore 6, 2) := by decide +kernel
theorem dX6_hashTables_101 : decode cX6_hashTables 101 = .ok (.iconst 0, 1) := by decide +kernel
theorem dX6_hashTables_102 : decode cX6_hashTables 102 = .ok (.istore 7, 2) := by decide +kernel
theorem dX6_hashTables_104 : decode cX6_hashTables 104 = .ok (.iload 7, 2) := by decide +kernel
theorem dX6_hashTables_106 : decode cX6_hashTables 106 = .ok (.iload 6, 2) := by decide +kernel
theorem dX6_hashTables_108 : decode cX6_hashTables 108 = .ok (.if_icmp .ge 28, 3) := by decide +kernel
theorem dX6_hashTables_111 : decode cX6_hashTables 111 = .ok (.ldc2_w 281, 3) := by decide +kernel
theorem dX6_hashTables_114 : decode cX6_hashTables 114 = .ok (.lload_n 3, 1) := by decide +kernel
theorem dX6_hashTables_115 : decode cX6_hashTables 115 = .ok (.lmul, 1) := by decide +kernel
theorem dX6_hashTables_116 : decode cX6_hashTables 116 = .ok (.aload_n 0, 1) := by decide +kernel
theorem dX6_hashTables_117 : decode cX6_hashTables 117 = .ok (.getfield 10, 3) := by decide +kernel
theorem dX6_hashTables_120 : decode cX6_hashTables 120 = .ok (.iload 5, 2) := by decide +kernel
theorem dX6_hashTables_122 : decode cX6_hashTables 122 = .ok (.iload 7, 2) := by decide +kernel
theorem dX6_hashTables_124 : decode cX6_hashTables 124 = .ok (.invokevirtual 219, 3) := by decide +kernel
theorem dX6_hashTables_127 : decode cX6_hashTables 127 = .ok (.i2l, 1) := by decide +kernel
theorem dX6_hashTables_128 : decode cX6_hashTables 128 = .ok (.ladd, 1) := by decide +kernel
theorem dX6_hashTables_129 : decode cX6_hashTables 129 = .ok (.lstore_n 3, 1) := by decide +kernel
theorem dX6_hashTables_130 : decode cX6_hashTables 130 = .ok (.iinc 7 1, 3) := by decide +kernel
theorem dX6_hashTables_133 : decode cX6_hashTables 133 = .ok (.goto (-29), 3) := by decide +kernel
theorem dX6_hashTables_136 : decode cX6_hashTables 136 = .ok (.iinc 5 1, 3) := by decide +kernel
theorem dX6_hashTables_139 : decode cX6_hashTables 139 = .ok (.goto (-134), 3) := by decide +kernel
theorem dX6_hashTables_142 : decode cX6_hashTables 142 = .ok (.lload_n 3, 1) := by decide +kernel
theorem dX6_hashTables_143 : decode cX6_hashTables 143 = .ok (.lreturn, 1) := by decide +kernel
set_option maxRecDepth 20000 in
theorem ggX6_hashLine_X1_length : GoodIn wsX6_hashLine wsX1_length := goodIn_r _ [6, 7, 13, 14] (by decide +kernel) (by decide +kernel)
set_option maxRecDepth 20000 in
theorem gX6_hashLine_X1_length : GoodIn wsX6_hashLine (wsV RX6 130 RX1 yX1_length wsX1_length) := goodIn_app (goodIn_of _ (by decide +kernel)) ggX6_hashLine_X1_length
set_option maxRecDepth 20000 in
theorem ggX6_hashLine_X1_itemAt : GoodIn wsX6_hashLine wsX1_itemAt := goodIn_r _ [11, 7, 12, 13, 14] (by decide +kernel) (by decide +kernel)
set_option maxRecDepth 20000 in
theorem gX6_hashLine_X1_itemAt : GoodIn wsX6_hashLine (wsV RX6 252 RX1 yX1_itemAt wsX1_itemAt) := goodIn_app (goodIn_of _ (by decide +kernel)) ggX6_hashLine_X1_itemAt
theorem dX6_hashLine_0 : decode cX6_hashLine 0 = .ok (.lload_n 0, 1) := by decide +kernel
theorem dX6_hashLine_1 : decode cX6_hashLine 1 = .ok (.lstore_n 3, 1) := by decide +kernel
theorem dX6_hashLine_2 : decode cX6_hashLine 2 = .ok (.iconst 0, 1) := by decide +kernel
theorem dX6_hashLine_3 : decode cX6_hashLine 3 = .ok (.istore 5, 2) := by decide +kernel
theorem dX6_hashLine_5 : decode cX6_hashLine 5 = .ok (.iload 5, 2) := by decide +kernel
theorem dX6_hashLine_7 : decode cX6_hashLine 7 = .ok (.aload_n 2, 1) := by decide +kernel
theorem dX6_hashLine_8 : decode cX6_hashLine 8 = .ok (.invokevirtual 130, 3) := by decide +kernel
theorem dX6_hashLine_11 : decode cX6_hashLine 11 = .ok (.if_icmp .ge 23, 3) := by decide +kernel
theorem dX6_hashLine_14 : decode cX6_hashLine 14 = .ok (.ldc2_w 281, 3) := by decide +kernel
theorem dX6_hashLine_17 : decode cX6_hashLine 17 = .ok (.lload_n 3, 1) := by decide +kernel
theorem dX6_hashLine_18 : decode cX6_hashLine 18 = .ok (.lmul, 1) := by decide +kernel
theorem dX6_hashLine_19 : decode cX6_hashLine 19 = .ok (.aload_n 2, 1) := by decide +kernel
theorem dX6_hashLine_20 : decode cX6_hashLine 20 = .ok (.iload 5, 2) := by decide +kernel
theorem dX6_hashLine_22 : decode cX6_hashLine 22 = .ok (.invokevirtual 252, 3) := by decide +kernel
theorem dX6_hashLine_25 : decode cX6_hashLine 25 = .ok (.i2l, 1) := by decide +kernel
theorem dX6_hashLine_26 : decode cX6_hashLine 26 = .ok (.ladd, 1) := by decide +kernel
theorem dX6_hashLine_27 : decode cX6_hashLine 27 = .ok (.lstore_n 3, 1) := by decide +kernel
theorem dX6_hashLine_28 : decode cX6_hashLine 28 = .ok (.iinc 5 1, 3) := by decide +kernel
theorem dX6_hashLine_31 : decode cX6_hashLine 31 = .ok (.goto (-26), 3) := by decide +kernel
theorem dX6_hashLine_34 : decode cX6_hashLine 34 = .ok (.lload_n 3, 1) := by decide +kernel
theorem dX6_hashLine_35 : decode cX6_hashLine 35 = .ok (.lreturn, 1) := by decide +kernel
theorem dX6_bitsOfShare_0 : decode cX6_bitsOfShare 0 = .ok (.dload_n 0, 1) := by decide +kernel
theorem dX6_bitsOfShare_1 : decode cX6_bitsOfShare 1 = .ok (.dconst 0, 1) := by decide +kernel
theorem dX6_bitsOfShare_2 : decode cX6_bitsOfShare 2 = .ok (.dcmp .g, 1) := by decide +kernel
theorem dX6_bitsOfShare_3 : decode cX6_bitsOfShare 3 = .ok (.ifCond .gt 5, 3) := by decide +kernel
theorem dX6_bitsOfShare_6 : decode cX6_bitsOfShare 6 = .ok (.lconst 0, 1) := by decide +kernel
theorem dX6_bitsOfShare_7 : decode cX6_bitsOfShare 7 = .ok (.lreturn, 1) := by decide +kernel
theorem dX6_bitsOfShare_8 : decode cX6_bitsOfShare 8 = .ok (.dload_n 0, 1) := by decide +kernel
theorem dX6_bitsOfShare_9 : decode cX6_bitsOfShare 9 = .ok (.dstore_n 2, 1) := by decide +kernel
theorem dX6_bitsOfShare_10 : decode cX6_bitsOfShare 10 = .ok (.ldc2_w 366, 3) := by decide +kernel
theorem dX6_bitsOfShare_13 : decode cX6_bitsOfShare 13 = .ok (.lstore 4, 2) := by decide +kernel
theorem dX6_bitsOfShare_15 : decode cX6_bitsOfShare 15 = .ok (.iconst 0, 1) := by decide +kernel
theorem dX6_bitsOfShare_16 : decode cX6_bitsOfShare 16 = .ok (.istore 6, 2) := by decide +kernel
theorem dX6_bitsOfShare_18 : decode cX6_bitsOfShare 18 = .ok (.iload 6, 2) := by decide +kernel
theorem dX6_bitsOfShare_20 : decode cX6_bitsOfShare 20 = .ok (.bipush 64, 2) := by decide +kernel
theorem dX6_bitsOfShare_22 : decode cX6_bitsOfShare 22 = .ok (.if_icmp .ge 27, 3) := by decide +kernel
theorem dX6_bitsOfShare_25 : decode cX6_bitsOfShare 25 = .ok (.dload_n 2, 1) := by decide +kernel
theorem dX6_bitsOfShare_26 : decode cX6_bitsOfShare 26 = .ok (.dconst 1, 1) := by decide +kernel
theorem dX6_bitsOfShare_27 : decode cX6_bitsOfShare 27 = .ok (.dcmp .g, 1) := by decide +kernel
theorem dX6_bitsOfShare_28 : decode cX6_bitsOfShare 28 = .ok (.ifCond .ge 21, 3) := by decide +kernel
theorem dX6_bitsOfShare_31 : decode cX6_bitsOfShare 31 = .ok (.dload_n 2, 1) := by decide +kernel
theorem dX6_bitsOfShare_32 : decode cX6_bitsOfShare 32 = .ok (.ldc2_w 368, 3) := by decide +kernel
theorem dX6_bitsOfShare_35 : decode cX6_bitsOfShare 35 = .ok (.dmul, 1) := by decide +kernel
theorem dX6_bitsOfShare_36 : decode cX6_bitsOfShare 36 = .ok (.dstore_n 2, 1) := by decide +kernel
theorem dX6_bitsOfShare_37 : decode cX6_bitsOfShare 37 = .ok (.lload 4, 2) := by decide +kernel
theorem dX6_bitsOfShare_39 : decode cX6_bitsOfShare 39 = .ok (.lconst 1, 1) := by decide +kernel
theorem dX6_bitsOfShare_40 : decode cX6_bitsOfShare 40 = .ok (.lsub, 1) := by decide +kernel
theorem dX6_bitsOfShare_41 : decode cX6_bitsOfShare 41 = .ok (.lstore 4, 2) := by decide +kernel
theorem dX6_bitsOfShare_43 : decode cX6_bitsOfShare 43 = .ok (.iinc 6 1, 3) := by decide +kernel
theorem dX6_bitsOfShare_46 : decode cX6_bitsOfShare 46 = .ok (.goto (-28), 3) := by decide +kernel
theorem dX6_bitsOfShare_49 : decode cX6_bitsOfShare 49 = .ok (.dload_n 2, 1) := by decide +kernel
theorem dX6_bitsOfShare_50 : decode cX6_bitsOfShare 50 = .ok (.dconst 1, 1) := by decide +kernel
theorem dX6_bitsOfShare_51 : decode cX6_bitsOfShare 51 = .ok (.dsub, 1) := by decide +kernel
theorem dX6_bitsOfShare_52 : decode cX6_bitsOfShare 52 = .ok (.ldc2_w 370, 3) := by decide +kernel
theorem dX6_bitsOfShare_55 : decode cX6_bitsOfShare 55 = .ok (.dmul, 1) := by decide +kernel
theorem dX6_bitsOfShare_56 : decode cX6_bitsOfShare 56 = .ok (.dstore 6, 2) := by decide +kernel
theorem dX6_bitsOfShare_58 : decode cX6_bitsOfShare 58 = .ok (.lload 4, 2) := by decide +kernel
theorem dX6_bitsOfShare_60 : decode cX6_bitsOfShare 60 = .ok (.bipush 52, 2) := by decide +kernel
theorem dX6_bitsOfShare_62 : decode cX6_bitsOfShare 62 = .ok (.lshl, 1) := by decide +kernel
theorem dX6_bitsOfShare_63 : decode cX6_bitsOfShare 63 = .ok (.dload 6, 2) := by decide +kernel
theorem dX6_bitsOfShare_65 : decode cX6_bitsOfShare 65 = .ok (.d2l, 1) := by decide +kernel
theorem dX6_bitsOfShare_66 : decode cX6_bitsOfShare 66 = .ok (.ladd, 1) := by decide +kernel
theorem dX6_bitsOfShare_67 : decode cX6_bitsOfShare 67 = .ok (.lreturn, 1) := by decide +kernel
theorem dX7_init_0 : decode cX7_init 0 = .ok (.aload_n 0, 1) := by decide +kernel
theorem dX7_init_1 : decode cX7_init 1 = .ok (.invokespecial 1, 3) := by decide +kernel
theorem dX7_init_4 : decode cX7_init 4 = .ok (.aload_n 0, 1) := by decide +kernel
theorem dX7_init_5 : decode cX7_init 5 = .ok (.sipush 1062, 3) := by decide +kernel
theorem dX7_init_8 : decode cX7_init 8 = .ok (.newarray .int, 2) := by decide +kernel
theorem dX7_init_10 : decode cX7_init 10 = .ok (.putfield 7, 3) := by decide +kernel
theorem dX7_init_13 : decode cX7_init 13 = .ok (.aload_n 0, 1) := by decide +kernel
theorem dX7_init_14 : decode cX7_init 14 = .ok (.bipush 60, 2) := by decide +kernel
theorem dX7_init_16 : decode cX7_init 16 = .ok (.newarray .int, 2) := by decide +kernel
theorem dX7_init_18 : decode cX7_init 18 = .ok (.putfield 13, 3) := by decide +kernel
theorem dX7_init_21 : decode cX7_init 21 = .ok (.aload_n 0, 1) := by decide +kernel
theorem dX7_init_22 : decode cX7_init 22 = .ok (.getfield 7, 3) := by decide +kernel
theorem dX7_init_25 : decode cX7_init 25 = .ok (.bipush 6, 2) := by decide +kernel
theorem dX7_init_27 : decode cX7_init 27 = .ok (.iconst 3, 1) := by decide +kernel
theorem dX7_init_28 : decode cX7_init 28 = .ok (.iastore, 1) := by decide +kernel
theorem dX7_init_29 : decode cX7_init 29 = .ok (.aload_n 0, 1) := by decide +kernel
theorem dX7_init_30 : decode cX7_init 30 = .ok (.getfield 7, 3) := by decide +kernel
theorem dX7_init_33 : decode cX7_init 33 = .ok (.bipush 7, 2) := by decide +kernel
theorem dX7_init_35 : decode cX7_init 35 = .ok (.iconst 5, 1) := by decide +kernel
theorem dX7_init_36 : decode cX7_init 36 = .ok (.iastore, 1) := by decide +kernel
theorem dX7_init_37 : decode cX7_init 37 = .ok (.aload_n 0, 1) := by decide +kernel
theorem dX7_init_38 : decode cX7_init 38 = .ok (.getfield 7, 3) := by decide +kernel
theorem dX7_init_41 : decode cX7_init 41 = .ok (.bipush 8, 2) := by decide +kernel
theorem dX7_init_43 : decode cX7_init 43 = .ok (.iconst 3, 1) := by decide +kernel
theorem dX7_init_44 : decode cX7_init 44 = .ok (.iastore, 1) := by decide +kernel
theorem dX7_init_45 : decode cX7_init 45 = .ok (.aload_n 0, 1) := by decide +kernel
theorem dX7_init_46 : decode cX7_init 46 = .ok (.getfield 7, 3) := by decide +kernel
theorem dX7_init_49 : decode cX7_init 49 = .ok (.bipush 9, 2) := by decide +kernel
theorem dX7_init_51 : decode cX7_init 51 = .ok (.iconst 2, 1) := by decide +kernel
theorem dX7_init_52 : decode cX7_init 52 = .ok (.iastore, 1) := by decide +kernel
theorem dX7_init_53 : decode cX7_init 53 = .ok (.return_, 1) := by decide +kernel
theorem dX7_thrown_0 : decode cX7_thrown 0 = .ok (.aload_n 0, 1) := by decide +kernel
theorem dX7_thrown_1 : decode cX7_thrown 1 = .ok (.getfield 16, 3) := by decide +kernel
theorem dX7_thrown_4 : decode cX7_thrown 4 = .ok (.ireturn, 1) := by decide +kernel
theorem dX7_in_0 : decode cX7_in 0 = .ok (.iload_n 0, 1) := by decide +kernel
theorem dX7_in_1 : decode cX7_in 1 = .ok (.iload_n 1, 1) := by decide +kernel
theorem dX7_in_2 : decode cX7_in 2 = .ok (.if_icmp .lt 12, 3) := by decide +kernel
theorem dX7_in_5 : decode cX7_in 5 = .ok (.iload_n 0, 1) := by decide +kernel
theorem dX7_in_6 : decode cX7_in 6 = .ok (.iload_n 2, 1) := by decide +kernel
theorem dX7_in_7 : decode cX7_in 7 = .ok (.if_icmp .gt 7, 3) := by decide +kernel
theorem dX7_in_10 : decode cX7_in 10 = .ok (.iconst 1, 1) := by decide +kernel
theorem dX7_in_11 : decode cX7_in 11 = .ok (.goto 4, 3) := by decide +kernel
theorem dX7_in_14 : decode cX7_in 14 = .ok (.iconst 0, 1) := by decide +kernel
theorem dX7_in_15 : decode cX7_in 15 = .ok (.ireturn, 1) := by decide +kernel
theorem dX7_holds_0 : decode cX7_holds 0 = .ok (.aload_n 0, 1) := by decide +kernel
theorem dX7_holds_1 : decode cX7_holds 1 = .ok (.iload_n 1, 1) := by decide +kernel
theorem dX7_holds_2 : decode cX7_holds 2 = .ok (.putfield 16, 3) := by decide +kernel
theorem dX7_holds_5 : decode cX7_holds 5 = .ok (.iload_n 1, 1) := by decide +kernel
theorem dX7_holds_6 : decode cX7_holds 6 = .ok (.ifCond .ne 7, 3) := by decide +kernel
theorem dX7_holds_9 : decode cX7_holds 9 = .ok (.iconst 1, 1) := by decide +kernel
theorem dX7_holds_10 : decode cX7_holds 10 = .ok (.goto 4, 3) := by decide +kernel
theorem dX7_holds_13 : decode cX7_holds 13 = .ok (.iconst 0, 1) := by decide +kernel
theorem dX7_holds_14 : decode cX7_holds 14 = .ok (.ireturn, 1) := by decide +kernel
set_option maxRecDepth 20000 in
theorem ggX7_isFamily_X7_in : GoodIn wsX7_isFamily wsX7_in := goodIn_r _ [4] (by decide +kernel) (by decide +kernel)
set_option maxRecDepth 20000 in
theorem gX7_isFamily_X7_in : GoodIn wsX7_isFamily (va_wsS RX7 20 yX7_in wsX7_in) := goodIn_app (goodIn_of _ (by decide +kernel)) ggX7_isFamily_X7_in
theorem dX7_isFamily_0 : decode cX7_isFamily 0 = .ok (.iload_n 0, 1) := by decide +kernel
theorem dX7_isFamily_1 : decode cX7_isFamily 1 = .ok (.iconst 0, 1) := by decide +kernel
theorem dX7_isFamily_2 : decode cX7_isFamily 2 = .ok (.iconst 5, 1) := by decide +kernel
theorem dX7_isFamily_3 : decode cX7_isFamily 3 = .ok (.invokestatic 20, 3) := by decide +kernel
theorem dX7_isFamily_6 : decode cX7_isFamily 6 = .ok (.ireturn, 1) := by decide +kernel
set_option maxRecDepth 20000 in
theorem ggX7_arePair_X7_isFamily : GoodIn wsX7_arePair wsX7_isFamily := goodIn_r _ [4, 5, 6, 3, 7] (by decide +kernel) (by decide +kernel)
set_option maxRecDepth 20000 in
theorem gX7_arePair_X7_isFamily : GoodIn wsX7_arePair (va_wsS RX7 24 yX7_isFamily wsX7_isFamily) := goodIn_app (goodIn_of _ (by decide +kernel)) ggX7_arePair_X7_isFamily
theorem dX7_arePair_0 : decode cX7_arePair 0 = .ok (.iload_n 0, 1) := by decide +kernel
theorem dX7_arePair_1 : decode cX7_arePair 1 = .ok (.invokestatic 24, 3) := by decide +kernel
theorem dX7_arePair_4 : decode cX7_arePair 4 = .ok (.ifCond .eq 19, 3) := by decide +kernel
theorem dX7_arePair_7 : decode cX7_arePair 7 = .ok (.iload_n 1, 1) := by decide +kernel
theorem dX7_arePair_8 : decode cX7_arePair 8 = .ok (.invokestatic 24, 3) := by decide +kernel
theorem dX7_arePair_11 : decode cX7_arePair 11 = .ok (.ifCond .eq 12, 3) := by decide +kernel
theorem dX7_arePair_14 : decode cX7_arePair 14 = .ok (.iload_n 0, 1) := by decide +kernel
theorem dX7_arePair_15 : decode cX7_arePair 15 = .ok (.iload_n 1, 1) := by decide +kernel
theorem dX7_arePair_16 : decode cX7_arePair 16 = .ok (.if_icmp .eq 7, 3) := by decide +kernel
theorem dX7_arePair_19 : decode cX7_arePair 19 = .ok (.iconst 1, 1) := by decide +kernel
theorem dX7_arePair_20 : decode cX7_arePair 20 = .ok (.goto 4, 3) := by decide +kernel
theorem dX7_arePair_23 : decode cX7_arePair 23 = .ok (.iconst 0, 1) := by decide +kernel
theorem dX7_arePair_24 : decode cX7_arePair 24 = .ok (.ireturn, 1) := by decide +kernel
set_option maxRecDepth 20000 in
theorem ggX7_isGuest_X7_in : GoodIn wsX7_isGuest wsX7_in := goodIn_r _ [5] (by decide +kernel) (by decide +kernel)
set_option maxRecDepth 20000 in
theorem gX7_isGuest_X7_in : GoodIn wsX7_isGuest (va_wsS RX7 20 yX7_in wsX7_in) := goodIn_app (goodIn_of _ (by decide +kernel)) ggX7_isGuest_X7_in
theorem dX7_isGuest_0 : decode cX7_isGuest 0 = .ok (.iload_n 1, 1) := by decide +kernel
theorem dX7_isGuest_1 : decode cX7_isGuest 1 = .ok (.iconst 0, 1) := by decide +kernel
theorem dX7_isGuest_2 : decode cX7_isGuest 2 = .ok (.aload_n 0, 1) := by decide +kernel
theorem dX7_isGuest_3 : decode cX7_isGuest 3 = .ok (.getfield 7, 3) := by decide +kernel
theorem dX7_isGuest_6 : decode cX7_isGuest 6 = .ok (.iconst 0, 1) := by decide +kernel
theorem dX7_isGuest_7 : decode cX7_isGuest 7 = .ok (.iaload, 1) := by decide +kernel
theorem dX7_isGuest_8 : decode cX7_isGuest 8 = .ok (.iconst 1, 1) := by decide +kernel
theorem dX7_isGuest_9 : decode cX7_isGuest 9 = .ok (.isub, 1) := by decide +kernel
theorem dX7_isGuest_10 : decode cX7_isGuest 10 = .ok (.invokestatic 20, 3) := by decide +kernel
theorem dX7_isGuest_13 : decode cX7_isGuest 13 = .ok (.ireturn, 1) := by decide +kernel
set_option maxRecDepth 20000 in
theorem ggX7_isTable_X7_in : GoodIn wsX7_isTable wsX7_in := goodIn_r _ [5] (by decide +kernel) (by decide +kernel)
set_option maxRecDepth 20000 in
theorem gX7_isTable_X7_in : GoodIn wsX7_isTable (va_wsS RX7 20 yX7_in wsX7_in) := goodIn_app (goodIn_of _ (by decide +kernel)) ggX7_isTable_X7_in
theorem dX7_isTable_0 : decode cX7_isTable 0 = .ok (.iload_n 1, 1) := by decide +kernel
theorem dX7_isTable_1 : decode cX7_isTable 1 = .ok (.iconst 0, 1) := by decide +kernel
theorem dX7_isTable_2 : decode cX7_isTable 2 = .ok (.aload_n 0, 1) := by decide +kernel
theorem dX7_isTable_3 : decode cX7_isTable 3 = .ok (.getfield 7, 3) := by decide +kernel
theorem dX7_isTable_6 : decode cX7_isTable 6 = .ok (.iconst 1, 1) := by decide +kernel
theorem dX7_isTable_7 : decode cX7_isTable 7 = .ok (.iaload, 1) := by decide +kernel
theorem dX7_isTable_8 : decode cX7_isTable 8 = .ok (.iconst 1, 1) := by decide +kernel
theorem dX7_isTable_9 : decode cX7_isTable 9 = .ok (.isub, 1) := by decide +kernel
theorem dX7_isTable_10 : decode cX7_isTable 10 = .ok (.invokestatic 20, 3) := by decide +kernel
theorem dX7_isTable_13 : decode cX7_isTable 13 = .ok (.ireturn, 1) := by decide +kernel
set_option maxRecDepth 20000 in
theorem ggX7_isSeat_X7_isTable : GoodIn wsX7_isSeat wsX7_isTable := goodIn_r _ [6, 1, 7, 8, 5, 9, 10, 11, 12, 13, 14, 15, 16, 17, 18, 19, 20, 21] (by decide +kernel) (by decide +kernel)
set_option maxRecDepth 20000 in
theorem gX7_isSeat_X7_isTable : GoodIn wsX7_isSeat (wsV RX7 28 RX7 yX7_isTable wsX7_isTable) := goodIn_app (goodIn_of _ (by decide +kernel)) ggX7_isSeat_X7_isTable
set_option maxRecDepth 20000 in
theorem ggX7_isSeat_X7_in : GoodIn wsX7_isSeat wsX7_in := goodIn_r _ [9] (by decide +kernel) (by decide +kernel)
set_option maxRecDepth 20000 in
theorem gX7_isSeat_X7_in : GoodIn wsX7_isSeat (va_wsS RX7 20 yX7_in wsX7_in) := goodIn_app (goodIn_of _ (by decide +kernel)) ggX7_isSeat_X7_in
theorem dX7_isSeat_0 : decode cX7_isSeat 0 = .ok (.aload_n 0, 1) := by decide +kernel
theorem dX7_isSeat_1 : decode cX7_isSeat 1 = .ok (.iload_n 1, 1) := by decide +kernel
theorem dX7_isSeat_2 : decode cX7_isSeat 2 = .ok (.invokevirtual 28, 3) := by decide +kernel
theorem dX7_isSeat_5 : decode cX7_isSeat 5 = .ok (.ifCond .eq 26, 3) := by decide +kernel
theorem dX7_isSeat_8 : decode cX7_isSeat 8 = .ok (.iload_n 2, 1) := by decide +kernel
theorem dX7_isSeat_9 : decode cX7_isSeat 9 = .ok (.iconst 0, 1) := by decide +kernel
theorem dX7_isSeat_10 : decode cX7_isSeat 10 = .ok (.aload_n 0, 1) := by decide +kernel
theorem dX7_isSeat_11 : decode cX7_isSeat 11 = .ok (.getfield 7, 3) := by decide +kernel
theorem dX7_isSeat_14 : decode cX7_isSeat 14 = .ok (.bipush 18, 2) := by decide +kernel
theorem dX7_isSeat_16 : decode cX7_isSeat 16 = .ok (.iload_n 1, 1) := by decide +kernel
theorem dX7_isSeat_17 : decode cX7_isSeat 17 = .ok (.iadd, 1) := by decide +kernel
theorem dX7_isSeat_18 : decode cX7_isSeat 18 = .ok (.iaload, 1) := by decide +kernel
theorem dX7_isSeat_19 : decode cX7_isSeat 19 = .ok (.iconst 1, 1) := by decide +kernel
theorem dX7_isSeat_20 : decode cX7_isSeat 20 = .ok (.isub, 1) := by decide +kernel
theorem dX7_isSeat_21 : decode cX7_isSeat 21 = .ok (.invokestatic 20, 3) := by decide +kernel
theorem dX7_isSeat_24 : decode cX7_isSeat 24 = .ok (.ifCond .eq 7, 3) := by decide +kernel
theorem dX7_isSeat_27 : decode cX7_isSeat 27 = .ok (.iconst 1, 1) := by decide +kernel
theorem dX7_isSeat_28 : decode cX7_isSeat 28 = .ok (.goto 4, 3) := by decide +kernel
theorem dX7_isSeat_31 : decode cX7_isSeat 31 = .ok (.iconst 0, 1) := by decide +kernel
theorem dX7_isSeat_32 : decode cX7_isSeat 32 = .ok (.ireturn, 1) := by decide +kernel
theorem dX7_isAtLeg_0 : decode cX7_isAtLeg 0 = .ok (.iload_n 0, 1) := by decide +kernel
theorem dX7_isAtLeg_1 : decode cX7_isAtLeg 1 = .ok (.iconst 3, 1) := by decide +kernel
theorem dX7_isAtLeg_2 : decode cX7_isAtLeg 2 = .ok (.irem, 1) := by decide +kernel
theorem dX7_isAtLeg_3 : decode cX7_isAtLeg 3 = .ok (.ifCond .ne 7, 3) := by decide +kernel
theorem dX7_isAtLeg_6 : decode cX7_isAtLeg 6 = .ok (.iconst 1, 1) := by decide +kernel
theorem dX7_isAtLeg_7 : decode cX7_isAtLeg 7 = .ok (.goto 4, 3) := by decide +kernel
theorem dX7_isAtLeg_10 : decode cX7_isAtLeg 10 = .ok (.iconst 0, 1) := by decide +kernel
theorem dX7_isAtLeg_11 : decode cX7_isAtLeg 11 = .ok (.ireturn, 1) := by decide +kernel
theorem dX7_of_0 : decode cX7_of 0 = .ok (.aload_n 0, 1) := by decide +kernel
theorem dX7_of_1 : decode cX7_of 1 = .ok (.getfield 7, 3) := by decide +kernel
theorem dX7_of_4 : decode cX7_of 4 = .ok (.iload_n 1, 1) := by decide +kernel
theorem dX7_of_5 : decode cX7_of 5 = .ok (.bipush 38, 2) := by decide +kernel
theorem dX7_of_7 : decode cX7_of 7 = .ok (.iadd, 1) := by decide +kernel
theorem dX7_of_8 : decode cX7_of 8 = .ok (.iconst 5, 1) := by decide +kernel
theorem dX7_of_9 : decode cX7_of 9 = .ok (.iload_n 2, 1) := by decide +kernel
theorem dX7_of_10 : decode cX7_of 10 = .ok (.imul, 1) := by decide +kernel
theorem dX7_of_11 : decode cX7_of 11 = .ok (.iadd, 1) := by decide +kernel
theorem dX7_of_12 : decode cX7_of 12 = .ok (.iload_n 3, 1) := by decide +kernel
theorem dX7_of_13 : decode cX7_of 13 = .ok (.iadd, 1) := by decide +kernel
theorem dX7_of_14 : decode cX7_of 14 = .ok (.iaload, 1) := by decide +kernel
theorem dX7_of_15 : decode cX7_of 15 = .ok (.ireturn, 1) := by decide +kernel
theorem dX7_lay_0 : decode cX7_lay 0 = .ok (.aload_n 0, 1) := by decide +kernel
theorem dX7_lay_1 : decode cX7_lay 1 = .ok (.getfield 7, 3) := by decide +kernel
theorem dX7_lay_4 : decode cX7_lay 4 = .ok (.iload_n 1, 1) := by decide +kernel
theorem dX7_lay_5 : decode cX7_lay 5 = .ok (.bipush 38, 2) := by decide +kernel
theorem dX7_lay_7 : decode cX7_lay 7 = .ok (.iadd, 1) := by decide +kernel
theorem dX7_lay_8 : decode cX7_lay 8 = .ok (.iconst 5, 1) := by decide +kernel
theorem dX7_lay_9 : decode cX7_lay 9 = .ok (.iload_n 2, 1) := by decide +kernel
theorem dX7_lay_10 : decode cX7_lay 10 = .ok (.imul, 1) := by decide +kernel
theorem dX7_lay_11 : decode cX7_lay 11 = .ok (.iadd, 1) := by decide +kernel
theorem dX7_lay_12 : decode cX7_lay 12 = .ok (.iload_n 3, 1) := by decide +kernel
theorem dX7_lay_13 : decode cX7_lay 13 = .ok (.iadd, 1) := by decide +kernel
theorem dX7_lay_14 : decode cX7_lay 14 = .ok (.iload 4, 2) := by decide +kernel
theorem dX7_lay_16 : decode cX7_lay 16 = .ok (.iastore, 1) := by decide +kernel
theorem dX7_lay_17 : decode cX7_lay 17 = .ok (.return_, 1) := by decide +kernel
set_option maxRecDepth 20000 in
theorem ggX7_whoSits_X7_of : GoodIn wsX7_whoSits wsX7_of := goodIn_r _ [6, 1, 7, 8, 9, 10, 11, 12, 13, 14, 15, 16, 17, 18] (by decide +kernel) (by decide +kernel)
set_option maxRecDepth 20000 in
theorem gX7_whoSits_X7_of : GoodIn wsX7_whoSits (wsV RX7 31 RX7 yX7_of wsX7_of) := goodIn_app (goodIn_of _ (by decide +kernel)) ggX7_whoSits_X7_of
theorem dX7_whoSits_0 : decode cX7_whoSits 0 = .ok (.iconst 0, 1) := by decide +kernel
theorem dX7_whoSits_1 : decode cX7_whoSits 1 = .ok (.istore 4, 2) := by decide +kernel
theorem dX7_whoSits_3 : decode cX7_whoSits 3 = .ok (.iload 4, 2) := by decide +kernel
theorem dX7_whoSits_5 : decode cX7_whoSits 5 = .ok (.aload_n 0, 1) := by decide +kernel
theorem dX7_whoSits_6 : decode cX7_whoSits 6 = .ok (.getfield 7, 3) := by decide +kernel
theorem dX7_whoSits_9 : decode cX7_whoSits 9 = .ok (.iload_n 1, 1) := by decide +kernel
theorem dX7_whoSits_10 : decode cX7_whoSits 10 = .ok (.iconst 0, 1) := by decide +kernel
theorem dX7_whoSits_11 : decode cX7_whoSits 11 = .ok (.iadd, 1) := by decide +kernel
theorem dX7_whoSits_12 : decode cX7_whoSits 12 = .ok (.iaload, 1) := by decide +kernel
theorem dX7_whoSits_13 : decode cX7_whoSits 13 = .ok (.if_icmp .ge 36, 3) := by decide +kernel
theorem dX7_whoSits_16 : decode cX7_whoSits 16 = .ok (.aload_n 0, 1) := by decide +kernel
theorem dX7_whoSits_17 : decode cX7_whoSits 17 = .ok (.iload_n 1, 1) := by decide +kernel
theorem dX7_whoSits_18 : decode cX7_whoSits 18 = .ok (.iload 4, 2) := by decide +kernel
theorem dX7_whoSits_20 : decode cX7_whoSits 20 = .ok (.iconst 3, 1) := by decide +kernel
theorem dX7_whoSits_21 : decode cX7_whoSits 21 = .ok (.invokevirtual 31, 3) := by decide +kernel
theorem dX7_whoSits_24 : decode cX7_whoSits 24 = .ok (.iload_n 2, 1) := by decide +kernel
theorem dX7_whoSits_25 : decode cX7_whoSits 25 = .ok (.if_icmp .ne 18, 3) := by decide +kernel
theorem dX7_whoSits_28 : decode cX7_whoSits 28 = .ok (.aload_n 0, 1) := by decide +kernel
theorem dX7_whoSits_29 : decode cX7_whoSits 29 = .ok (.iload_n 1, 1) := by decide +kernel
theorem dX7_whoSits_30 : decode cX7_whoSits 30 = .ok (.iload 4, 2) := by decide +kernel
theorem dX7_whoSits_32 : decode cX7_whoSits 32 = .ok (.iconst 4, 1) := by decide +kernel
theorem dX7_whoSits_33 : decode cX7_whoSits 33 = .ok (.invokevirtual 31, 3) := by decide +kernel
theorem dX7_whoSits_36 : decode cX7_whoSits 36 = .ok (.iload_n 3, 1) := by decide +kernel
theorem dX7_whoSits_37 : decode cX7_whoSits 37 = .ok (.if_icmp .ne 6, 3) := by decide +kernel
theorem dX7_whoSits_40 : decode cX7_whoSits 40 = .ok (.iload 4, 2) := by decide +kernel
theorem dX7_whoSits_42 : decode cX7_whoSits 42 = .ok (.ireturn, 1) := by decide +kernel
theorem dX7_whoSits_43 : decode cX7_whoSits 43 = .ok (.iinc 4 1, 3) := by decide +kernel
theorem dX7_whoSits_46 : decode cX7_whoSits 46 = .ok (.goto (-43), 3) := by decide +kernel
theorem dX7_whoSits_49 : decode cX7_whoSits 49 = .ok (.iconst (-1), 1) := by decide +kernel
theorem dX7_whoSits_50 : decode cX7_whoSits 50 = .ok (.ireturn, 1) := by decide +kernel
theorem dX7_feudOf_0 : decode cX7_feudOf 0 = .ok (.iload_n 0, 1) := by decide +kernel
theorem dX7_feudOf_1 : decode cX7_feudOf 1 = .ok (.iload_n 1, 1) := by decide +kernel
theorem dX7_feudOf_2 : decode cX7_feudOf 2 = .ok (.if_icmp .ge 12, 3) := by decide +kernel
theorem dX7_feudOf_5 : decode cX7_feudOf 5 = .ok (.bipush 6, 2) := by decide +kernel
theorem dX7_feudOf_7 : decode cX7_feudOf 7 = .ok (.iload_n 0, 1) := by decide +kernel
theorem dX7_feudOf_8 : decode cX7_feudOf 8 = .ok (.imul, 1) := by decide +kernel
theorem dX7_feudOf_9 : decode cX7_feudOf 9 = .ok (.iload_n 1, 1) := by decide +kernel
theorem dX7_feudOf_10 : decode cX7_feudOf 10 = .ok (.iadd, 1) := by decide +kernel
theorem dX7_feudOf_11 : decode cX7_feudOf 11 = .ok (.goto 9, 3) := by decide +kernel
theorem dX7_feudOf_14 : decode cX7_feudOf 14 = .ok (.bipush 6, 2) := by decide +kernel
theorem dX7_feudOf_16 : decode cX7_feudOf 16 = .ok (.iload_n 1, 1) := by decide +kernel
theorem dX7_feudOf_17 : decode cX7_feudOf 17 = .ok (.imul, 1) := by decide +kernel
theorem dX7_feudOf_18 : decode cX7_feudOf 18 = .ok (.iload_n 0, 1) := by decide +kernel
theorem dX7_feudOf_19 : decode cX7_feudOf 19 = .ok (.iadd, 1) := by decide +kernel
theorem dX7_feudOf_20 : decode cX7_feudOf 20 = .ok (.ireturn, 1) := by decide +kernel
theorem dX7_feudPlace_0 : decode cX7_feudPlace 0 = .ok (.iconst 0, 1) := by decide +kernel
theorem dX7_feudPlace_1 : decode cX7_feudPlace 1 = .ok (.istore_n 3, 1) := by decide +kernel
theorem dX7_feudPlace_2 : decode cX7_feudPlace 2 = .ok (.iload_n 3, 1) := by decide +kernel
theorem dX7_feudPlace_3 : decode cX7_feudPlace 3 = .ok (.aload_n 0, 1) := by decide +kernel
theorem dX7_feudPlace_4 : decode cX7_feudPlace 4 = .ok (.getfield 7, 3) := by decide +kernel
theorem dX7_feudPlace_7 : decode cX7_feudPlace 7 = .ok (.iload_n 1, 1) := by decide +kernel
theorem dX7_feudPlace_8 : decode cX7_feudPlace 8 = .ok (.iconst 2, 1) := by decide +kernel
theorem dX7_feudPlace_9 : decode cX7_feudPlace 9 = .ok (.iadd, 1) := by decide +kernel
theorem dX7_feudPlace_10 : decode cX7_feudPlace 10 = .ok (.iaload, 1) := by decide +kernel
theorem dX7_feudPlace_11 : decode cX7_feudPlace 11 = .ok (.if_icmp .ge 26, 3) := by decide +kernel
theorem dX7_feudPlace_14 : decode cX7_feudPlace 14 = .ok (.aload_n 0, 1) := by decide +kernel
theorem dX7_feudPlace_15 : decode cX7_feudPlace 15 = .ok (.getfield 7, 3) := by decide +kernel
theorem dX7_feudPlace_18 : decode cX7_feudPlace 18 = .ok (.iload_n 1, 1) := by decide +kernel
theorem dX7_feudPlace_19 : decode cX7_feudPlace 19 = .ok (.bipush 10, 2) := by decide +kernel
theorem dX7_feudPlace_21 : decode cX7_feudPlace 21 = .ok (.iadd, 1) := by decide +kernel
theorem dX7_feudPlace_22 : decode cX7_feudPlace 22 = .ok (.iload_n 3, 1) := by decide +kernel
theorem dX7_feudPlace_23 : decode cX7_feudPlace 23 = .ok (.iadd, 1) := by decide +kernel
theorem dX7_feudPlace_24 : decode cX7_feudPlace 24 = .ok (.iaload, 1) := by decide +kernel
theorem dX7_feudPlace_25 : decode cX7_feudPlace 25 = .ok (.iload_n 2, 1) := by decide +kernel
theorem dX7_feudPlace_26 : decode cX7_feudPlace 26 = .ok (.if_icmp .ne 5, 3) := by decide +kernel
theorem dX7_feudPlace_29 : decode cX7_feudPlace 29 = .ok (.iload_n 3, 1) := by decide +kernel
theorem dX7_feudPlace_30 : decode cX7_feudPlace 30 = .ok (.ireturn, 1) := by decide +kernel
theorem dX7_feudPlace_31 : decode cX7_feudPlace 31 = .ok (.iinc 3 1, 3) := by decide +kernel
theorem dX7_feudPlace_34 : decode cX7_feudPlace 34 = .ok (.goto (-32), 3) := by decide +kernel
theorem dX7_feudPlace_37 : decode cX7_feudPlace 37 = .ok (.iconst (-1), 1) := by decide +kernel
theorem dX7_feudPlace_38 : decode cX7_feudPlace 38 = .ok (.ireturn, 1) := by decide +kernel
set_option maxRecDepth 20000 in
theorem ggX7_reason_X7_whoSits : GoodIn wsX7_reason wsX7_whoSits := goodIn_r _ [6, 1, 7, 8, 9, 5, 10, 21, 22, 23, 24, 25, 26, 27, 28, 29, 30, 31, 32] (by decide +kernel) (by decide +kernel)
set_option maxRecDepth 20000 in
theorem gX7_reason_X7_whoSits : GoodIn wsX7_reason (wsV RX7 35 RX7 yX7_whoSits wsX7_whoSits) := goodIn_app (goodIn_of _ (by decide +kernel)) ggX7_reason_X7_whoSits
set_option maxRecDepth 20000 in
theorem ggX7_reason_X7_isAtLeg : GoodIn wsX7_reason wsX7_isAtLeg := goodIn_r _ [13] (by decide +kernel) (by decide +kernel)
set_option maxRecDepth 20000 in
theorem gX7_reason_X7_isAtLeg : GoodIn wsX7_reason (va_wsS RX7 38 yX7_isAtLeg wsX7_isAtLeg) := goodIn_app (goodIn_of _ (by decide +kernel)) ggX7_reason_X7_isAtLeg
set_option maxRecDepth 20000 in
theorem ggX7_reason_X7_of : GoodIn wsX7_reason wsX7_of := goodIn_r _ [10, 1, 21, 22, 23, 24, 25, 26, 27, 28, 29, 30, 31, 32] (by decide +kernel) (by decide +kernel)
set_option maxRecDepth 20000 in
theorem gX7_reason_X7_of : GoodIn wsX7_reason (wsV RX7 31 RX7 yX7_of wsX7_of) := goodIn_app (goodIn_of _ (by decide +kernel)) ggX7_reason_X7_of
set_option maxRecDepth 20000 in
theorem ggX7_reason_X7_feudOf : GoodIn wsX7_reason wsX7_feudOf := goodIn_r _ [16] (by decide +kernel) (by decide +kernel)
set_option maxRecDepth 20000 in
theorem gX7_reason_X7_feudOf : GoodIn wsX7_reason (va_wsS RX7 41 yX7_feudOf wsX7_feudOf) := goodIn_app (goodIn_of _ (by decide +kernel)) ggX7_reason_X7_feudOf
set_option maxRecDepth 20000 in
theorem ggX7_reason_X7_feudPlace : GoodIn wsX7_reason wsX7_feudPlace := goodIn_r _ [20, 1, 21, 22, 23, 24, 25, 26, 27, 28, 29, 30, 31, 32] (by decide +kernel) (by decide +kernel)
set_option maxRecDepth 20000 in
theorem gX7_reason_X7_feudPlace : GoodIn wsX7_reason (wsV RX7 45 RX7 yX7_feudPlace wsX7_feudPlace) := goodIn_app (goodIn_of _ (by decide +kernel)) ggX7_reason_X7_feudPlace
theorem dX7_reason_0 : decode cX7_reason 0 = .ok (.aload_n 0, 1) := by decide +kernel
theorem dX7_reason_1 : decode cX7_reason 1 = .ok (.iload_n 1, 1) := by decide +kernel
theorem dX7_reason_2 : decode cX7_reason 2 = .ok (.iload_n 3, 1) := by decide +kernel
theorem dX7_reason_3 : decode cX7_reason 3 = .ok (.iload 4, 2) := by decide +kernel
theorem dX7_reason_5 : decode cX7_reason 5 = .ok (.invokevirtual 35, 3) := by decide +kernel
theorem dX7_reason_8 : decode cX7_reason 8 = .ok (.istore 5, 2) := by decide +kernel
theorem dX7_reason_10 : decode cX7_reason 10 = .ok (.iload 5, 2) := by decide +kernel
theorem dX7_reason_12 : decode cX7_reason 12 = .ok (.iconst (-1), 1) := by decide +kernel
theorem dX7_reason_13 : decode cX7_reason 13 = .ok (.if_icmp .eq 15, 3) := by decide +kernel
theorem dX7_reason_16 : decode cX7_reason 16 = .ok (.iload 5, 2) := by decide +kernel
theorem dX7_reason_18 : decode cX7_reason 18 = .ok (.iload_n 2, 1) := by decide +kernel
theorem dX7_reason_19 : decode cX7_reason 19 = .ok (.if_icmp .ne 7, 3) := by decide +kernel
theorem dX7_reason_22 : decode cX7_reason 22 = .ok (.iconst 1, 1) := by decide +kernel
theorem dX7_reason_23 : decode cX7_reason 23 = .ok (.goto 4, 3) := by decide +kernel
theorem dX7_reason_26 : decode cX7_reason 26 = .ok (.iconst 2, 1) := by decide +kernel
theorem dX7_reason_27 : decode cX7_reason 27 = .ok (.ireturn, 1) := by decide +kernel
theorem dX7_reason_28 : decode cX7_reason 28 = .ok (.iload 4, 2) := by decide +kernel
theorem dX7_reason_30 : decode cX7_reason 30 = .ok (.invokestatic 38, 3) := by decide +kernel
theorem dX7_reason_33 : decode cX7_reason 33 = .ok (.ifCond .eq 16, 3) := by decide +kernel
theorem dX7_reason_36 : decode cX7_reason 36 = .ok (.aload_n 0, 1) := by decide +kernel
theorem dX7_reason_37 : decode cX7_reason 37 = .ok (.iload_n 1, 1) := by decide +kernel
theorem dX7_reason_38 : decode cX7_reason 38 = .ok (.iload_n 2, 1) := by decide +kernel
theorem dX7_reason_39 : decode cX7_reason 39 = .ok (.iconst 1, 1) := by decide +kernel
theorem dX7_reason_40 : decode cX7_reason 40 = .ok (.invokevirtual 31, 3) := by decide +kernel
theorem dX7_reason_43 : decode cX7_reason 43 = .ok (.iconst 3, 1) := by decide +kernel
theorem dX7_reason_44 : decode cX7_reason 44 = .ok (.if_icmp .ne 5, 3) := by decide +kernel
theorem dX7_reason_47 : decode cX7_reason 47 = .ok (.iconst 3, 1) := by decide +kernel
theorem dX7_reason_48 : decode cX7_reason 48 = .ok (.ireturn, 1) := by decide +kernel
theorem dX7_reason_49 : decode cX7_reason 49 = .ok (.iconst 0, 1) := by decide +kernel
theorem dX7_reason_50 : decode cX7_reason 50 = .ok (.istore 6, 2) := by decide +kernel
theorem dX7_reason_52 : decode cX7_reason 52 = .ok (.iconst 0, 1) := by decide +kernel
theorem dX7_reason_53 : decode cX7_reason 53 = .ok (.istore 7, 2) := by decide +kernel
theorem dX7_reason_55 : decode cX7_reason 55 = .ok (.iconst 0, 1) := by decide +kernel
theorem dX7_reason_56 : decode cX7_reason 56 = .ok (.istore 8, 2) := by decide +kernel
theorem dX7_reason_58 : decode cX7_reason 58 = .ok (.iload 8, 2) := by decide +kernel
theorem dX7_reason_60 : decode cX7_reason 60 = .ok (.aload_n 0, 1) := by decide +kernel
theorem dX7_reason_61 : decode cX7_reason 61 = .ok (.getfield 7, 3) := by decide +kernel
theorem dX7_reason_64 : decode cX7_reason 64 = .ok (.iload_n 1, 1) := by decide +kernel
theorem dX7_reason_65 : decode cX7_reason 65 = .ok (.iconst 0, 1) := by decide +kernel
theorem dX7_reason_66 : decode cX7_reason 66 = .ok (.iadd, 1) := by decide +kernel
theorem dX7_reason_67 : decode cX7_reason 67 = .ok (.iaload, 1) := by decide +kernel
theorem dX7_reason_68 : decode cX7_reason 68 = .ok (.if_icmp .ge 94, 3) := by decide +kernel
theorem dX7_reason_71 : decode cX7_reason 71 = .ok (.iload 8, 2) := by decide +kernel
theorem dX7_reason_73 : decode cX7_reason 73 = .ok (.iload_n 2, 1) := by decide +kernel
theorem dX7_reason_74 : decode cX7_reason 74 = .ok (.if_icmp .eq 82, 3) := by decide +kernel
theorem dX7_reason_77 : decode cX7_reason 77 = .ok (.aload_n 0, 1) := by decide +kernel
theorem dX7_reason_78 : decode cX7_reason 78 = .ok (.iload_n 1, 1) := by decide +kernel
theorem dX7_reason_79 : decode cX7_reason 79 = .ok (.iload 8, 2) := by decide +kernel
theorem dX7_reason_81 : decode cX7_reason 81 = .ok (.iconst 3, 1) := by decide +kernel
theorem dX7_reason_82 : decode cX7_reason 82 = .ok (.invokevirtual 31, 3) := by decide +kernel
theorem dX7_reason_85 : decode cX7_reason 85 = .ok (.iload_n 3, 1) := by decide +kernel
theorem dX7_reason_86 : decode cX7_reason 86 = .ok (.if_icmp .ne 70, 3) := by decide +kernel
theorem dX7_reason_89 : decode cX7_reason 89 = .ok (.iload 6, 2) := by decide +kernel
theorem dX7_reason_91 : decode cX7_reason 91 = .ok (.ifCond .ne 30, 3) := by decide +kernel
theorem dX7_reason_94 : decode cX7_reason 94 = .ok (.aload_n 0, 1) := by decide +kernel
theorem dX7_reason_95 : decode cX7_reason 95 = .ok (.iload_n 1, 1) := by decide +kernel
theorem dX7_reason_96 : decode cX7_reason 96 = .ok (.aload_n 0, 1) := by decide +kernel
theorem dX7_reason_97 : decode cX7_reason 97 = .ok (.iload_n 1, 1) := by decide +kernel
theorem dX7_reason_98 : decode cX7_reason 98 = .ok (.iload_n 2, 1) := by decide +kernel
theorem dX7_reason_99 : decode cX7_reason 99 = .ok (.iconst 0, 1) := by decide +kernel
theorem dX7_reason_100 : decode cX7_reason 100 = .ok (.invokevirtual 31, 3) := by decide +kernel
theorem dX7_reason_103 : decode cX7_reason 103 = .ok (.aload_n 0, 1) := by decide +kernel
theorem dX7_reason_104 : decode cX7_reason 104 = .ok (.iload_n 1, 1) := by decide +kernel
theorem dX7_reason_105 : decode cX7_reason 105 = .ok (.iload 8, 2) := by decide +kernel
theorem dX7_reason_107 : decode cX7_reason 107 = .ok (.iconst 0, 1) := by decide +kernel
theorem dX7_reason_108 : decode cX7_reason 108 = .ok (.invokevirtual 31, 3) := by decide +kernel
theorem dX7_reason_111 : decode cX7_reason 111 = .ok (.invokestatic 41, 3) := by decide +kernel
theorem dX7_reason_114 : decode cX7_reason 114 = .ok (.invokevirtual 45, 3) := by decide +kernel
theorem dX7_reason_117 : decode cX7_reason 117 = .ok (.iconst (-1), 1) := by decide +kernel
theorem dX7_reason_118 : decode cX7_reason 118 = .ok (.if_icmp .eq 7, 3) := by decide +kernel
theorem dX7_reason_121 : decode cX7_reason 121 = .ok (.iconst 1, 1) := by decide +kernel
theorem dX7_reason_122 : decode cX7_reason 122 = .ok (.goto 4, 3) := by decide +kernel
theorem dX7_reason_125 : decode cX7_reason 125 = .ok (.iconst 0, 1) := by decide +kernel
theorem dX7_reason_126 : decode cX7_reason 126 = .ok (.istore 6, 2) := by decide +kernel
theorem dX7_reason_128 : decode cX7_reason 128 = .ok (.iload 7, 2) := by decide +kernel
theorem dX7_reason_130 : decode cX7_reason 130 = .ok (.aload_n 0, 1) := by decide +kernel
theorem dX7_reason_131 : decode cX7_reason 131 = .ok (.iload_n 1, 1) := by decide +kernel
theorem dX7_reason_132 : decode cX7_reason 132 = .ok (.iload 8, 2) := by decide +kernel
theorem dX7_reason_134 : decode cX7_reason 134 = .ok (.iconst 0, 1) := by decide +kernel
theorem dX7_reason_135 : decode cX7_reason 135 = .ok (.invokevirtual 31, 3) := by decide +kernel
theorem dX7_reason_138 : decode cX7_reason 138 = .ok (.aload_n 0, 1) := by decide +kernel
theorem dX7_reason_139 : decode cX7_reason 139 = .ok (.iload_n 1, 1) := by decide +kernel
theorem dX7_reason_140 : decode cX7_reason 140 = .ok (.iload_n 2, 1) := by decide +kernel
theorem dX7_reason_141 : decode cX7_reason 141 = .ok (.iconst 0, 1) := by decide +kernel
theorem dX7_reason_142 : decode cX7_reason 142 = .ok (.invokevirtual 31, 3) := by decide +kernel
theorem dX7_reason_145 : decode cX7_reason 145 = .ok (.if_icmp .ne 7, 3) := by decide +kernel
theorem dX7_reason_148 : decode cX7_reason 148 = .ok (.iconst 1, 1) := by decide +kernel
theorem dX7_reason_149 : decode cX7_reason 149 = .ok (.goto 4, 3) := by decide +kernel
theorem dX7_reason_152 : decode cX7_reason 152 = .ok (.iconst 0, 1) := by decide +kernel
theorem dX7_reason_153 : decode cX7_reason 153 = .ok (.iadd, 1) := by decide +kernel
theorem dX7_reason_154 : decode cX7_reason 154 = .ok (.istore 7, 2) := by decide +kernel
theorem dX7_reason_156 : decode cX7_reason 156 = .ok (.iinc 8 1, 3) := by decide +kernel
theorem dX7_reason_159 : decode cX7_reason 159 = .ok (.goto (-101), 3) := by decide +kernel
theorem dX7_reason_162 : decode cX7_reason 162 = .ok (.iload 6, 2) := by decide +kernel
theorem dX7_reason_164 : decode cX7_reason 164 = .ok (.ifCond .eq 7, 3) := by decide +kernel
theorem dX7_reason_167 : decode cX7_reason 167 = .ok (.iconst 4, 1) := by decide +kernel
theorem dX7_reason_168 : decode cX7_reason 168 = .ok (.goto 22, 3) := by decide +kernel
theorem dX7_reason_171 : decode cX7_reason 171 = .ok (.iload 7, 2) := by decide +kernel
theorem dX7_reason_173 : decode cX7_reason 173 = .ok (.aload_n 0, 1) := by decide +kernel
theorem dX7_reason_174 : decode cX7_reason 174 = .ok (.getfield 7, 3) := by decide +kernel
theorem dX7_reason_177 : decode cX7_reason 177 = .ok (.iload_n 1, 1) := by decide +kernel
theorem dX7_reason_178 : decode cX7_reason 178 = .ok (.bipush 6, 2) := by decide +kernel
theorem dX7_reason_180 : decode cX7_reason 180 = .ok (.iadd, 1) := by decide +kernel
theorem dX7_reason_181 : decode cX7_reason 181 = .ok (.iaload, 1) := by decide +kernel
theorem dX7_reason_182 : decode cX7_reason 182 = .ok (.if_icmp .lt 7, 3) := by decide +kernel
theorem dX7_reason_185 : decode cX7_reason 185 = .ok (.iconst 5, 1) := by decide +kernel
theorem dX7_reason_186 : decode cX7_reason 186 = .ok (.goto 4, 3) := by decide +kernel
theorem dX7_reason_189 : decode cX7_reason 189 = .ok (.iconst 0, 1) := by decide +kernel
theorem dX7_reason_190 : decode cX7_reason 190 = .ok (.ireturn, 1) := by decide +kernel
set_option maxRecDepth 20000 in
theorem ggX7_metBy_X7_of : GoodIn wsX7_metBy wsX7_of := goodIn_r _ [6, 1, 7, 8, 9, 10, 11, 12, 13, 14, 15, 16, 17, 18] (by decide +kernel) (by decide +kernel)
set_option maxRecDepth 20000 in
theorem gX7_metBy_X7_of : GoodIn wsX7_metBy (wsV RX7 31 RX7 yX7_of wsX7_of) := goodIn_app (goodIn_of _ (by decide +kernel)) ggX7_metBy_X7_of
theorem dX7_metBy_0 : decode cX7_metBy 0 = .ok (.aload_n 0, 1) := by decide +kernel
theorem dX7_metBy_1 : decode cX7_metBy 1 = .ok (.iload_n 1, 1) := by decide +kernel
theorem dX7_metBy_2 : decode cX7_metBy 2 = .ok (.iload_n 2, 1) := by decide +kernel
theorem dX7_metBy_3 : decode cX7_metBy 3 = .ok (.iconst 2, 1) := by decide +kernel
theorem dX7_metBy_4 : decode cX7_metBy 4 = .ok (.invokevirtual 31, 3) := by decide +kernel
theorem dX7_metBy_7 : decode cX7_metBy 7 = .ok (.istore_n 3, 1) := by decide +kernel
theorem dX7_metBy_8 : decode cX7_metBy 8 = .ok (.iload_n 3, 1) := by decide +kernel
theorem dX7_metBy_9 : decode cX7_metBy 9 = .ok (.iconst (-1), 1) := by decide +kernel
theorem dX7_metBy_10 : decode cX7_metBy 10 = .ok (.if_icmp .eq 31, 3) := by decide +kernel
theorem dX7_metBy_13 : decode cX7_metBy 13 = .ok (.aload_n 0, 1) := by decide +kernel
theorem dX7_metBy_14 : decode cX7_metBy 14 = .ok (.iload_n 1, 1) := by decide +kernel
theorem dX7_metBy_15 : decode cX7_metBy 15 = .ok (.iload_n 2, 1) := by decide +kernel
theorem dX7_metBy_16 : decode cX7_metBy 16 = .ok (.iconst 3, 1) := by decide +kernel
theorem dX7_metBy_17 : decode cX7_metBy 17 = .ok (.invokevirtual 31, 3) := by decide +kernel
theorem dX7_metBy_20 : decode cX7_metBy 20 = .ok (.iconst (-1), 1) := by decide +kernel
theorem dX7_metBy_21 : decode cX7_metBy 21 = .ok (.if_icmp .eq 20, 3) := by decide +kernel
theorem dX7_metBy_24 : decode cX7_metBy 24 = .ok (.aload_n 0, 1) := by decide +kernel
theorem dX7_metBy_25 : decode cX7_metBy 25 = .ok (.iload_n 1, 1) := by decide +kernel
theorem dX7_metBy_26 : decode cX7_metBy 26 = .ok (.iload_n 3, 1) := by decide +kernel
theorem dX7_metBy_27 : decode cX7_metBy 27 = .ok (.iconst 3, 1) := by decide +kernel
theorem dX7_metBy_28 : decode cX7_metBy 28 = .ok (.invokevirtual 31, 3) := by decide +kernel
theorem dX7_metBy_31 : decode cX7_metBy 31 = .ok (.aload_n 0, 1) := by decide +kernel
theorem dX7_metBy_32 : decode cX7_metBy 32 = .ok (.iload_n 1, 1) := by decide +kernel
theorem dX7_metBy_33 : decode cX7_metBy 33 = .ok (.iload_n 2, 1) := by decide +kernel
theorem dX7_metBy_34 : decode cX7_metBy 34 = .ok (.iconst 3, 1) := by decide +kernel
theorem dX7_metBy_35 : decode cX7_metBy 35 = .ok (.invokevirtual 31, 3) := by decide +kernel
theorem dX7_metBy_38 : decode cX7_metBy 38 = .ok (.if_icmp .eq 5, 3) := by decide +kernel
theorem dX7_metBy_41 : decode cX7_metBy 41 = .ok (.iconst 0, 1) := by decide +kernel
theorem dX7_metBy_42 : decode cX7_metBy 42 = .ok (.ireturn, 1) := by decide +kernel
theorem dX7_metBy_43 : decode cX7_metBy 43 = .ok (.aload_n 0, 1) := by decide +kernel
theorem dX7_metBy_44 : decode cX7_metBy 44 = .ok (.iload_n 1, 1) := by decide +kernel
theorem dX7_metBy_45 : decode cX7_metBy 45 = .ok (.iload_n 2, 1) := by decide +kernel
theorem dX7_metBy_46 : decode cX7_metBy 46 = .ok (.iconst 4, 1) := by decide +kernel
theorem dX7_metBy_47 : decode cX7_metBy 47 = .ok (.invokevirtual 31, 3) := by decide +kernel
theorem dX7_metBy_50 : decode cX7_metBy 50 = .ok (.aload_n 0, 1) := by decide +kernel
theorem dX7_metBy_51 : decode cX7_metBy 51 = .ok (.iload_n 1, 1) := by decide +kernel
theorem dX7_metBy_52 : decode cX7_metBy 52 = .ok (.iload_n 3, 1) := by decide +kernel
theorem dX7_metBy_53 : decode cX7_metBy 53 = .ok (.iconst 4, 1) := by decide +kernel
theorem dX7_metBy_54 : decode cX7_metBy 54 = .ok (.invokevirtual 31, 3) := by decide +kernel
theorem dX7_metBy_57 : decode cX7_metBy 57 = .ok (.isub, 1) := by decide +kernel
theorem dX7_metBy_58 : decode cX7_metBy 58 = .ok (.istore 4, 2) := by decide +kernel
theorem dX7_metBy_60 : decode cX7_metBy 60 = .ok (.aload_n 0, 1) := by decide +kernel
theorem dX7_metBy_61 : decode cX7_metBy 61 = .ok (.getfield 7, 3) := by decide +kernel
theorem dX7_metBy_64 : decode cX7_metBy 64 = .ok (.iload_n 1, 1) := by decide +kernel
theorem dX7_metBy_65 : decode cX7_metBy 65 = .ok (.bipush 18, 2) := by decide +kernel
theorem dX7_metBy_67 : decode cX7_metBy 67 = .ok (.iadd, 1) := by decide +kernel
theorem dX7_metBy_68 : decode cX7_metBy 68 = .ok (.aload_n 0, 1) := by decide +kernel
theorem dX7_metBy_69 : decode cX7_metBy 69 = .ok (.iload_n 1, 1) := by decide +kernel
theorem dX7_metBy_70 : decode cX7_metBy 70 = .ok (.iload_n 2, 1) := by decide +kernel
theorem dX7_metBy_71 : decode cX7_metBy 71 = .ok (.iconst 3, 1) := by decide +kernel
theorem dX7_metBy_72 : decode cX7_metBy 72 = .ok (.invokevirtual 31, 3) := by decide +kernel
theorem dX7_metBy_75 : decode cX7_metBy 75 = .ok (.iadd, 1) := by decide +kernel
theorem dX7_metBy_76 : decode cX7_metBy 76 = .ok (.iaload, 1) := by decide +kernel
theorem dX7_metBy_77 : decode cX7_metBy 77 = .ok (.iconst 1, 1) := by decide +kernel
theorem dX7_metBy_78 : decode cX7_metBy 78 = .ok (.isub, 1) := by decide +kernel
theorem dX7_metBy_79 : decode cX7_metBy 79 = .ok (.istore 5, 2) := by decide +kernel
theorem dX7_metBy_81 : decode cX7_metBy 81 = .ok (.iload 4, 2) := by decide +kernel
theorem dX7_metBy_83 : decode cX7_metBy 83 = .ok (.iconst 1, 1) := by decide +kernel
theorem dX7_metBy_84 : decode cX7_metBy 84 = .ok (.if_icmp .eq 24, 3) := by decide +kernel
theorem dX7_metBy_87 : decode cX7_metBy 87 = .ok (.iload 4, 2) := by decide +kernel
theorem dX7_metBy_89 : decode cX7_metBy 89 = .ok (.iconst (-1), 1) := by decide +kernel
theorem dX7_metBy_90 : decode cX7_metBy 90 = .ok (.if_icmp .eq 18, 3) := by decide +kernel
theorem dX7_metBy_93 : decode cX7_metBy 93 = .ok (.iload 4, 2) := by decide +kernel
theorem dX7_metBy_95 : decode cX7_metBy 95 = .ok (.iload 5, 2) := by decide +kernel
theorem dX7_metBy_97 : decode cX7_metBy 97 = .ok (.if_icmp .eq 11, 3) := by decide +kernel
theorem dX7_metBy_100 : decode cX7_metBy 100 = .ok (.iload 4, 2) := by decide +kernel
theorem dX7_metBy_102 : decode cX7_metBy 102 = .ok (.iload 5, 2) := by decide +kernel
theorem dX7_metBy_104 : decode cX7_metBy 104 = .ok (.ineg, 1) := by decide +kernel
theorem dX7_metBy_105 : decode cX7_metBy 105 = .ok (.if_icmp .ne 7, 3) := by decide +kernel
theorem dX7_metBy_108 : decode cX7_metBy 108 = .ok (.iconst 2, 1) := by decide +kernel
theorem dX7_metBy_109 : decode cX7_metBy 109 = .ok (.goto 4, 3) := by decide +kernel
theorem dX7_metBy_112 : decode cX7_metBy 112 = .ok (.iconst 1, 1) := by decide +kernel
theorem dX7_metBy_113 : decode cX7_metBy 113 = .ok (.ireturn, 1) := by decide +kernel
set_option maxRecDepth 20000 in
theorem ggX7_pointsOf_X7_of : GoodIn wsX7_pointsOf wsX7_of := goodIn_r _ [6, 1, 14, 15, 16, 17, 18, 19, 20, 21, 22, 23, 24, 25] (by decide +kernel) (by decide +kernel)
set_option maxRecDepth 20000 in
theorem gX7_pointsOf_X7_of : GoodIn wsX7_pointsOf (wsV RX7 31 RX7 yX7_of wsX7_of) := goodIn_app (goodIn_of _ (by decide +kernel)) ggX7_pointsOf_X7_of
set_option maxRecDepth 20000 in
theorem ggX7_pointsOf_X7_metBy : GoodIn wsX7_pointsOf wsX7_metBy := goodIn_r _ [10, 1, 2, 3, 4, 5, 6, 14, 15, 16, 17, 18, 19, 20, 21, 22, 23, 24, 25] (by decide +kernel) (by decide +kernel)
set_option maxRecDepth 20000 in
theorem gX7_pointsOf_X7_metBy : GoodIn wsX7_pointsOf (wsV RX7 48 RX7 yX7_metBy wsX7_metBy) := goodIn_app (goodIn_of _ (by decide +kernel)) ggX7_pointsOf_X7_metBy
set_option maxRecDepth 20000 in
theorem ggX7_pointsOf_X7_isAtLeg : GoodIn wsX7_pointsOf wsX7_isAtLeg := goodIn_r _ [13] (by decide +kernel) (by decide +kernel)
set_option maxRecDepth 20000 in
theorem gX7_pointsOf_X7_isAtLeg : GoodIn wsX7_pointsOf (va_wsS RX7 38 yX7_isAtLeg wsX7_isAtLeg) := goodIn_app (goodIn_of _ (by decide +kernel)) ggX7_pointsOf_X7_isAtLeg
theorem dX7_pointsOf_0 : decode cX7_pointsOf 0 = .ok (.aload_n 0, 1) := by decide +kernel
theorem dX7_pointsOf_1 : decode cX7_pointsOf 1 = .ok (.iload_n 1, 1) := by decide +kernel
theorem dX7_pointsOf_2 : decode cX7_pointsOf 2 = .ok (.iload_n 2, 1) := by decide +kernel
theorem dX7_pointsOf_3 : decode cX7_pointsOf 3 = .ok (.iconst 3, 1) := by decide +kernel
theorem dX7_pointsOf_4 : decode cX7_pointsOf 4 = .ok (.invokevirtual 31, 3) := by decide +kernel
theorem dX7_pointsOf_7 : decode cX7_pointsOf 7 = .ok (.iconst (-1), 1) := by decide +kernel
theorem dX7_pointsOf_8 : decode cX7_pointsOf 8 = .ok (.if_icmp .ne 5, 3) := by decide +kernel
theorem dX7_pointsOf_11 : decode cX7_pointsOf 11 = .ok (.iconst 0, 1) := by decide +kernel
theorem dX7_pointsOf_12 : decode cX7_pointsOf 12 = .ok (.ireturn, 1) := by decide +kernel
theorem dX7_pointsOf_13 : decode cX7_pointsOf 13 = .ok (.aload_n 0, 1) := by decide +kernel
theorem dX7_pointsOf_14 : decode cX7_pointsOf 14 = .ok (.iload_n 1, 1) := by decide +kernel
theorem dX7_pointsOf_15 : decode cX7_pointsOf 15 = .ok (.iload_n 2, 1) := by decide +kernel
theorem dX7_pointsOf_16 : decode cX7_pointsOf 16 = .ok (.invokevirtual 48, 3) := by decide +kernel
theorem dX7_pointsOf_19 : decode cX7_pointsOf 19 = .ok (.istore_n 3, 1) := by decide +kernel
theorem dX7_pointsOf_20 : decode cX7_pointsOf 20 = .ok (.aload_n 0, 1) := by decide +kernel
theorem dX7_pointsOf_21 : decode cX7_pointsOf 21 = .ok (.iload_n 1, 1) := by decide +kernel
theorem dX7_pointsOf_22 : decode cX7_pointsOf 22 = .ok (.iload_n 2, 1) := by decide +kernel
theorem dX7_pointsOf_23 : decode cX7_pointsOf 23 = .ok (.iconst 4, 1) := by decide +kernel
theorem dX7_pointsOf_24 : decode cX7_pointsOf 24 = .ok (.invokevirtual 31, 3) := by decide +kernel
theorem dX7_pointsOf_27 : decode cX7_pointsOf 27 = .ok (.invokestatic 38, 3) := by decide +kernel
theorem dX7_pointsOf_30 : decode cX7_pointsOf 30 = .ok (.ifCond .eq 28, 3) := by decide +kernel
theorem dX7_pointsOf_33 : decode cX7_pointsOf 33 = .ok (.aload_n 0, 1) := by decide +kernel
theorem dX7_pointsOf_34 : decode cX7_pointsOf 34 = .ok (.iload_n 1, 1) := by decide +kernel
theorem dX7_pointsOf_35 : decode cX7_pointsOf 35 = .ok (.iload_n 2, 1) := by decide +kernel
theorem dX7_pointsOf_36 : decode cX7_pointsOf 36 = .ok (.iconst 1, 1) := by decide +kernel
theorem dX7_pointsOf_37 : decode cX7_pointsOf 37 = .ok (.invokevirtual 31, 3) := by decide +kernel
theorem dX7_pointsOf_40 : decode cX7_pointsOf 40 = .ok (.iconst 2, 1) := by decide +kernel
theorem dX7_pointsOf_41 : decode cX7_pointsOf 41 = .ok (.if_icmp .ne 17, 3) := by decide +kernel
theorem dX7_pointsOf_44 : decode cX7_pointsOf 44 = .ok (.aload_n 0, 1) := by decide +kernel
theorem dX7_pointsOf_45 : decode cX7_pointsOf 45 = .ok (.getfield 7, 3) := by decide +kernel
theorem dX7_pointsOf_48 : decode cX7_pointsOf 48 = .ok (.iload_n 1, 1) := by decide +kernel
theorem dX7_pointsOf_49 : decode cX7_pointsOf 49 = .ok (.bipush 6, 2) := by decide +kernel
theorem dX7_pointsOf_51 : decode cX7_pointsOf 51 = .ok (.iadd, 1) := by decide +kernel
theorem dX7_pointsOf_52 : decode cX7_pointsOf 52 = .ok (.iconst 3, 1) := by decide +kernel
theorem dX7_pointsOf_53 : decode cX7_pointsOf 53 = .ok (.iadd, 1) := by decide +kernel
theorem dX7_pointsOf_54 : decode cX7_pointsOf 54 = .ok (.iaload, 1) := by decide +kernel
theorem dX7_pointsOf_55 : decode cX7_pointsOf 55 = .ok (.goto 4, 3) := by decide +kernel
theorem dX7_pointsOf_58 : decode cX7_pointsOf 58 = .ok (.iconst 0, 1) := by decide +kernel
theorem dX7_pointsOf_59 : decode cX7_pointsOf 59 = .ok (.istore 4, 2) := by decide +kernel
theorem dX7_pointsOf_61 : decode cX7_pointsOf 61 = .ok (.iconst 1, 1) := by decide +kernel
theorem dX7_pointsOf_62 : decode cX7_pointsOf 62 = .ok (.iload 4, 2) := by decide +kernel
theorem dX7_pointsOf_64 : decode cX7_pointsOf 64 = .ok (.isub, 1) := by decide +kernel
theorem dX7_pointsOf_65 : decode cX7_pointsOf 65 = .ok (.iload_n 3, 1) := by decide +kernel
theorem dX7_pointsOf_66 : decode cX7_pointsOf 66 = .ok (.ifCond .le 17, 3) := by decide +kernel
theorem dX7_pointsOf_69 : decode cX7_pointsOf 69 = .ok (.aload_n 0, 1) := by decide +kernel
theorem dX7_pointsOf_70 : decode cX7_pointsOf 70 = .ok (.getfield 7, 3) := by decide +kernel
theorem dX7_pointsOf_73 : decode cX7_pointsOf 73 = .ok (.iload_n 1, 1) := by decide +kernel
theorem dX7_pointsOf_74 : decode cX7_pointsOf 74 = .ok (.bipush 6, 2) := by decide +kernel
theorem dX7_pointsOf_76 : decode cX7_pointsOf 76 = .ok (.iadd, 1) := by decide +kernel
theorem dX7_pointsOf_77 : decode cX7_pointsOf 77 = .ok (.iconst 1, 1) := by decide +kernel
theorem dX7_pointsOf_78 : decode cX7_pointsOf 78 = .ok (.iadd, 1) := by decide +kernel
theorem dX7_pointsOf_79 : decode cX7_pointsOf 79 = .ok (.iaload, 1) := by decide +kernel
theorem dX7_pointsOf_80 : decode cX7_pointsOf 80 = .ok (.goto 4, 3) := by decide +kernel
theorem dX7_pointsOf_83 : decode cX7_pointsOf 83 = .ok (.iconst 0, 1) := by decide +kernel
theorem dX7_pointsOf_84 : decode cX7_pointsOf 84 = .ok (.iadd, 1) := by decide +kernel
theorem dX7_pointsOf_85 : decode cX7_pointsOf 85 = .ok (.iload_n 3, 1) := by decide +kernel
theorem dX7_pointsOf_86 : decode cX7_pointsOf 86 = .ok (.iconst 1, 1) := by decide +kernel
theorem dX7_pointsOf_87 : decode cX7_pointsOf 87 = .ok (.if_icmp .le 17, 3) := by decide +kernel
theorem dX7_pointsOf_90 : decode cX7_pointsOf 90 = .ok (.aload_n 0, 1) := by decide +kernel
theorem dX7_pointsOf_91 : decode cX7_pointsOf 91 = .ok (.getfield 7, 3) := by decide +kernel
theorem dX7_pointsOf_94 : decode cX7_pointsOf 94 = .ok (.iload_n 1, 1) := by decide +kernel
theorem dX7_pointsOf_95 : decode cX7_pointsOf 95 = .ok (.bipush 6, 2) := by decide +kernel
theorem dX7_pointsOf_97 : decode cX7_pointsOf 97 = .ok (.iadd, 1) := by decide +kernel
theorem dX7_pointsOf_98 : decode cX7_pointsOf 98 = .ok (.iconst 2, 1) := by decide +kernel
theorem dX7_pointsOf_99 : decode cX7_pointsOf 99 = .ok (.iadd, 1) := by decide +kernel
theorem dX7_pointsOf_100 : decode cX7_pointsOf 100 = .ok (.iaload, 1) := by decide +kernel
theorem dX7_pointsOf_101 : decode cX7_pointsOf 101 = .ok (.goto 4, 3) := by decide +kernel
theorem dX7_pointsOf_104 : decode cX7_pointsOf 104 = .ok (.iconst 0, 1) := by decide +kernel
theorem dX7_pointsOf_105 : decode cX7_pointsOf 105 = .ok (.iadd, 1) := by decide +kernel
theorem dX7_pointsOf_106 : decode cX7_pointsOf 106 = .ok (.ireturn, 1) := by decide +kernel
set_option maxRecDepth 20000 in
theorem ggX7_points_X7_of : GoodIn wsX7_points wsX7_of := goodIn_r _ [6, 1, 18, 19, 20, 21, 22, 23, 24, 25, 26, 27, 28, 29] (by decide +kernel) (by decide +kernel)
set_option maxRecDepth 20000 in
theorem gX7_points_X7_of : GoodIn wsX7_points (wsV RX7 31 RX7 yX7_of wsX7_of) := goodIn_app (goodIn_of _ (by decide +kernel)) ggX7_points_X7_of
set_option maxRecDepth 20000 in
theorem ggX7_points_X7_pointsOf : GoodIn wsX7_points wsX7_pointsOf := goodIn_r _ [10, 1, 2, 3, 4, 5, 6, 11, 12, 13, 14, 15, 16, 17, 18, 19, 20, 21, 22, 23, 24, 25, 26, 27, 28, 29] (by decide +kernel) (by decide +kernel)
set_option maxRecDepth 20000 in
theorem gX7_points_X7_pointsOf : GoodIn wsX7_points (wsV RX7 51 RX7 yX7_pointsOf wsX7_pointsOf) := goodIn_app (goodIn_of _ (by decide +kernel)) ggX7_points_X7_pointsOf
theorem dX7_points_0 : decode cX7_points 0 = .ok (.iconst 0, 1) := by decide +kernel
theorem dX7_points_1 : decode cX7_points 1 = .ok (.istore_n 3, 1) := by decide +kernel
theorem dX7_points_2 : decode cX7_points 2 = .ok (.iconst 0, 1) := by decide +kernel
theorem dX7_points_3 : decode cX7_points 3 = .ok (.istore 4, 2) := by decide +kernel
theorem dX7_points_5 : decode cX7_points 5 = .ok (.iload 4, 2) := by decide +kernel
theorem dX7_points_7 : decode cX7_points 7 = .ok (.aload_n 0, 1) := by decide +kernel
theorem dX7_points_8 : decode cX7_points 8 = .ok (.getfield 7, 3) := by decide +kernel
theorem dX7_points_11 : decode cX7_points 11 = .ok (.iload_n 1, 1) := by decide +kernel
theorem dX7_points_12 : decode cX7_points 12 = .ok (.iconst 0, 1) := by decide +kernel
theorem dX7_points_13 : decode cX7_points 13 = .ok (.iadd, 1) := by decide +kernel
theorem dX7_points_14 : decode cX7_points 14 = .ok (.iaload, 1) := by decide +kernel
theorem dX7_points_15 : decode cX7_points 15 = .ok (.if_icmp .ge 40, 3) := by decide +kernel
theorem dX7_points_18 : decode cX7_points 18 = .ok (.iload_n 3, 1) := by decide +kernel
theorem dX7_points_19 : decode cX7_points 19 = .ok (.iload_n 2, 1) := by decide +kernel
theorem dX7_points_20 : decode cX7_points 20 = .ok (.iconst (-1), 1) := by decide +kernel
theorem dX7_points_21 : decode cX7_points 21 = .ok (.if_icmp .eq 15, 3) := by decide +kernel
theorem dX7_points_24 : decode cX7_points 24 = .ok (.aload_n 0, 1) := by decide +kernel
theorem dX7_points_25 : decode cX7_points 25 = .ok (.iload_n 1, 1) := by decide +kernel
theorem dX7_points_26 : decode cX7_points 26 = .ok (.iload 4, 2) := by decide +kernel
theorem dX7_points_28 : decode cX7_points 28 = .ok (.iconst 3, 1) := by decide +kernel
theorem dX7_points_29 : decode cX7_points 29 = .ok (.invokevirtual 31, 3) := by decide +kernel
theorem dX7_points_32 : decode cX7_points 32 = .ok (.iload_n 2, 1) := by decide +kernel
theorem dX7_points_33 : decode cX7_points 33 = .ok (.if_icmp .ne 13, 3) := by decide +kernel
theorem dX7_points_36 : decode cX7_points 36 = .ok (.aload_n 0, 1) := by decide +kernel
theorem dX7_points_37 : decode cX7_points 37 = .ok (.iload_n 1, 1) := by decide +kernel
theorem dX7_points_38 : decode cX7_points 38 = .ok (.iload 4, 2) := by decide +kernel
theorem dX7_points_40 : decode cX7_points 40 = .ok (.invokevirtual 51, 3) := by decide +kernel
theorem dX7_points_43 : decode cX7_points 43 = .ok (.goto 4, 3) := by decide +kernel
theorem dX7_points_46 : decode cX7_points 46 = .ok (.iconst 0, 1) := by decide +kernel
