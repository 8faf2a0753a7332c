theorem dX7_wishes_6 : decode cX7_wishes 6 = .ok (.getfield 7, 3) := by decide +kernel
theorem dX7_wishes_9 : decode cX7_wishes 9 = .ok (.iconst 0, 1) := by decide +kernel
theorem dX7_wishes_10 : decode cX7_wishes 10 = .ok (.iaload, 1) := by decide +kernel
theorem dX7_wishes_11 : decode cX7_wishes 11 = .ok (.if_icmp .ge 61, 3) := by decide +kernel
theorem dX7_wishes_14 : decode cX7_wishes 14 = .ok (.iload_n 1, 1) := by decide +kernel
theorem dX7_wishes_15 : decode cX7_wishes 15 = .ok (.ifCond .eq 20, 3) := by decide +kernel
theorem dX7_wishes_18 : decode cX7_wishes 18 = .ok (.aload_n 0, 1) := by decide +kernel
theorem dX7_wishes_19 : decode cX7_wishes 19 = .ok (.iconst 0, 1) := by decide +kernel
theorem dX7_wishes_20 : decode cX7_wishes 20 = .ok (.iload_n 3, 1) := by decide +kernel
theorem dX7_wishes_21 : decode cX7_wishes 21 = .ok (.invokevirtual 48, 3) := by decide +kernel
theorem dX7_wishes_24 : decode cX7_wishes 24 = .ok (.ifCond .le 7, 3) := by decide +kernel
theorem dX7_wishes_27 : decode cX7_wishes 27 = .ok (.iconst 1, 1) := by decide +kernel
theorem dX7_wishes_28 : decode cX7_wishes 28 = .ok (.goto 23, 3) := by decide +kernel
theorem dX7_wishes_31 : decode cX7_wishes 31 = .ok (.iconst 0, 1) := by decide +kernel
theorem dX7_wishes_32 : decode cX7_wishes 32 = .ok (.goto 19, 3) := by decide +kernel
theorem dX7_wishes_35 : decode cX7_wishes 35 = .ok (.aload_n 0, 1) := by decide +kernel
theorem dX7_wishes_36 : decode cX7_wishes 36 = .ok (.iconst 0, 1) := by decide +kernel
theorem dX7_wishes_37 : decode cX7_wishes 37 = .ok (.iload_n 3, 1) := by decide +kernel
theorem dX7_wishes_38 : decode cX7_wishes 38 = .ok (.iconst 2, 1) := by decide +kernel
theorem dX7_wishes_39 : decode cX7_wishes 39 = .ok (.invokevirtual 31, 3) := by decide +kernel
theorem dX7_wishes_42 : decode cX7_wishes 42 = .ok (.iconst (-1), 1) := by decide +kernel
theorem dX7_wishes_43 : decode cX7_wishes 43 = .ok (.if_icmp .eq 7, 3) := by decide +kernel
theorem dX7_wishes_46 : decode cX7_wishes 46 = .ok (.iconst 1, 1) := by decide +kernel
theorem dX7_wishes_47 : decode cX7_wishes 47 = .ok (.goto 4, 3) := by decide +kernel
theorem dX7_wishes_50 : decode cX7_wishes 50 = .ok (.iconst 0, 1) := by decide +kernel
theorem dX7_wishes_51 : decode cX7_wishes 51 = .ok (.istore 4, 2) := by decide +kernel
theorem dX7_wishes_53 : decode cX7_wishes 53 = .ok (.iload_n 2, 1) := by decide +kernel
theorem dX7_wishes_54 : decode cX7_wishes 54 = .ok (.iload 4, 2) := by decide +kernel
theorem dX7_wishes_56 : decode cX7_wishes 56 = .ok (.ifCond .eq 7, 3) := by decide +kernel
theorem dX7_wishes_59 : decode cX7_wishes 59 = .ok (.iconst 1, 1) := by decide +kernel
theorem dX7_wishes_60 : decode cX7_wishes 60 = .ok (.goto 4, 3) := by decide +kernel
theorem dX7_wishes_63 : decode cX7_wishes 63 = .ok (.iconst 0, 1) := by decide +kernel
theorem dX7_wishes_64 : decode cX7_wishes 64 = .ok (.iadd, 1) := by decide +kernel
theorem dX7_wishes_65 : decode cX7_wishes 65 = .ok (.istore_n 2, 1) := by decide +kernel
theorem dX7_wishes_66 : decode cX7_wishes 66 = .ok (.iinc 3 1, 3) := by decide +kernel
theorem dX7_wishes_69 : decode cX7_wishes 69 = .ok (.goto (-65), 3) := by decide +kernel
theorem dX7_wishes_72 : decode cX7_wishes 72 = .ok (.iload_n 2, 1) := by decide +kernel
theorem dX7_wishes_73 : decode cX7_wishes 73 = .ok (.ireturn, 1) := by decide +kernel
set_option maxRecDepth 20000 in
theorem ggX7_counted_X7_points : GoodIn wsX7_counted wsX7_points := goodIn_r _ [7, 1, 8, 9, 10, 6, 11, 12, 13, 14, 15, 16, 17, 18, 19, 20, 21, 22, 27, 28, 29, 30, 31, 32, 33, 34, 35, 36, 37, 38] (by decide +kernel) (by decide +kernel)
set_option maxRecDepth 20000 in
theorem gX7_counted_X7_points : GoodIn wsX7_counted (wsV RX7 58 RX7 yX7_points wsX7_points) := goodIn_app (goodIn_of _ (by decide +kernel)) ggX7_counted_X7_points
set_option maxRecDepth 20000 in
theorem ggX7_counted_X7_wishes : GoodIn wsX7_counted wsX7_wishes := goodIn_r _ [26, 1, 16, 17, 18, 6, 19, 8, 9, 10, 11, 27, 28, 29, 30, 31, 32, 33, 34, 35, 36, 37, 38] (by decide +kernel) (by decide +kernel)
set_option maxRecDepth 20000 in
theorem gX7_counted_X7_wishes : GoodIn wsX7_counted (wsV RX7 170 RX7 yX7_wishes wsX7_wishes) := goodIn_app (goodIn_of _ (by decide +kernel)) ggX7_counted_X7_wishes
theorem dX7_counted_0 : decode cX7_counted 0 = .ok (.iload_n 1, 1) := by decide +kernel
theorem dX7_counted_1 : decode cX7_counted 1 = .ok (.tableswitch 85 4 13 #[55, 55, 62, 68, 68, 85, 85, 85, 85, 80], 55) := by decide +kernel
theorem dX7_counted_56 : decode cX7_counted 56 = .ok (.aload_n 0, 1) := by decide +kernel
theorem dX7_counted_57 : decode cX7_counted 57 = .ok (.iconst 0, 1) := by decide +kernel
theorem dX7_counted_58 : decode cX7_counted 58 = .ok (.iconst (-1), 1) := by decide +kernel
theorem dX7_counted_59 : decode cX7_counted 59 = .ok (.invokevirtual 58, 3) := by decide +kernel
theorem dX7_counted_62 : decode cX7_counted 62 = .ok (.ireturn, 1) := by decide +kernel
theorem dX7_counted_63 : decode cX7_counted 63 = .ok (.aload_n 0, 1) := by decide +kernel
theorem dX7_counted_64 : decode cX7_counted 64 = .ok (.iconst 1, 1) := by decide +kernel
theorem dX7_counted_65 : decode cX7_counted 65 = .ok (.invokevirtual 170, 3) := by decide +kernel
theorem dX7_counted_68 : decode cX7_counted 68 = .ok (.ireturn, 1) := by decide +kernel
theorem dX7_counted_69 : decode cX7_counted 69 = .ok (.aload_n 0, 1) := by decide +kernel
theorem dX7_counted_70 : decode cX7_counted 70 = .ok (.getfield 7, 3) := by decide +kernel
theorem dX7_counted_73 : decode cX7_counted 73 = .ok (.iconst 4, 1) := by decide +kernel
theorem dX7_counted_74 : decode cX7_counted 74 = .ok (.iload_n 1, 1) := by decide +kernel
theorem dX7_counted_75 : decode cX7_counted 75 = .ok (.iadd, 1) := by decide +kernel
theorem dX7_counted_76 : decode cX7_counted 76 = .ok (.bipush 7, 2) := by decide +kernel
theorem dX7_counted_78 : decode cX7_counted 78 = .ok (.isub, 1) := by decide +kernel
theorem dX7_counted_79 : decode cX7_counted 79 = .ok (.iaload, 1) := by decide +kernel
theorem dX7_counted_80 : decode cX7_counted 80 = .ok (.ireturn, 1) := by decide +kernel
theorem dX7_counted_81 : decode cX7_counted 81 = .ok (.aload_n 0, 1) := by decide +kernel
theorem dX7_counted_82 : decode cX7_counted 82 = .ok (.getfield 84, 3) := by decide +kernel
theorem dX7_counted_85 : decode cX7_counted 85 = .ok (.ireturn, 1) := by decide +kernel
theorem dX7_counted_86 : decode cX7_counted 86 = .ok (.iload_n 1, 1) := by decide +kernel
theorem dX7_counted_87 : decode cX7_counted 87 = .ok (.iconst 4, 1) := by decide +kernel
theorem dX7_counted_88 : decode cX7_counted 88 = .ok (.if_icmp .ge 12, 3) := by decide +kernel
theorem dX7_counted_91 : decode cX7_counted 91 = .ok (.aload_n 0, 1) := by decide +kernel
theorem dX7_counted_92 : decode cX7_counted 92 = .ok (.getfield 7, 3) := by decide +kernel
theorem dX7_counted_95 : decode cX7_counted 95 = .ok (.iload_n 1, 1) := by decide +kernel
theorem dX7_counted_96 : decode cX7_counted 96 = .ok (.iaload, 1) := by decide +kernel
theorem dX7_counted_97 : decode cX7_counted 97 = .ok (.goto 15, 3) := by decide +kernel
theorem dX7_counted_100 : decode cX7_counted 100 = .ok (.aload_n 0, 1) := by decide +kernel
theorem dX7_counted_101 : decode cX7_counted 101 = .ok (.getfield 7, 3) := by decide +kernel
theorem dX7_counted_104 : decode cX7_counted 104 = .ok (.bipush 6, 2) := by decide +kernel
theorem dX7_counted_106 : decode cX7_counted 106 = .ok (.iload_n 1, 1) := by decide +kernel
theorem dX7_counted_107 : decode cX7_counted 107 = .ok (.iadd, 1) := by decide +kernel
theorem dX7_counted_108 : decode cX7_counted 108 = .ok (.bipush 9, 2) := by decide +kernel
theorem dX7_counted_110 : decode cX7_counted 110 = .ok (.isub, 1) := by decide +kernel
theorem dX7_counted_111 : decode cX7_counted 111 = .ok (.iaload, 1) := by decide +kernel
theorem dX7_counted_112 : decode cX7_counted 112 = .ok (.ireturn, 1) := by decide +kernel
set_option maxRecDepth 20000 in
theorem ggX7_count_X7_in : GoodIn wsX7_count wsX7_in := goodIn_r _ [4] (by decide +kernel) (by decide +kernel)
set_option maxRecDepth 20000 in
theorem gX7_count_X7_in : GoodIn wsX7_count (va_wsS RX7 20 yX7_in wsX7_in) := goodIn_app (goodIn_of _ (by decide +kernel)) ggX7_count_X7_in
set_option maxRecDepth 20000 in
theorem ggX7_count_X7_holds : GoodIn wsX7_count wsX7_holds := goodIn_r _ [8, 9, 39, 40, 41, 42, 43, 44, 45, 46, 47, 48, 49, 50] (by decide +kernel) (by decide +kernel)
set_option maxRecDepth 20000 in
theorem gX7_count_X7_holds : GoodIn wsX7_count (wsV RX7 90 RX7 yX7_holds wsX7_holds) := goodIn_app (goodIn_of _ (by decide +kernel)) ggX7_count_X7_holds
set_option maxRecDepth 20000 in
theorem ggX7_count_X7_counted : GoodIn wsX7_count wsX7_counted := goodIn_r _ [13, 14, 15, 16, 17, 18, 3, 19, 20, 21, 22, 23, 24, 25, 26, 27, 28, 29, 30, 31, 32, 33, 34, 35, 36, 37, 38, 39, 40, 41, 42, 43, 44, 45, 46, 47, 48, 49, 50] (by decide +kernel) (by decide +kernel)
set_option maxRecDepth 20000 in
theorem gX7_count_X7_counted : GoodIn wsX7_count (wsV RX7 174 RX7 yX7_counted wsX7_counted) := goodIn_app (goodIn_of _ (by decide +kernel)) ggX7_count_X7_counted
theorem dX7_count_0 : decode cX7_count 0 = .ok (.aload_n 0, 1) := by decide +kernel
theorem dX7_count_1 : decode cX7_count 1 = .ok (.iload_n 1, 1) := by decide +kernel
theorem dX7_count_2 : decode cX7_count 2 = .ok (.iconst 0, 1) := by decide +kernel
theorem dX7_count_3 : decode cX7_count 3 = .ok (.bipush 13, 2) := by decide +kernel
theorem dX7_count_5 : decode cX7_count 5 = .ok (.invokestatic 20, 3) := by decide +kernel
theorem dX7_count_8 : decode cX7_count 8 = .ok (.ifCond .eq 7, 3) := by decide +kernel
theorem dX7_count_11 : decode cX7_count 11 = .ok (.iconst 0, 1) := by decide +kernel
theorem dX7_count_12 : decode cX7_count 12 = .ok (.goto 4, 3) := by decide +kernel
theorem dX7_count_15 : decode cX7_count 15 = .ok (.iconst 1, 1) := by decide +kernel
theorem dX7_count_16 : decode cX7_count 16 = .ok (.invokevirtual 90, 3) := by decide +kernel
theorem dX7_count_19 : decode cX7_count 19 = .ok (.ifCond .eq 11, 3) := by decide +kernel
theorem dX7_count_22 : decode cX7_count 22 = .ok (.aload_n 0, 1) := by decide +kernel
theorem dX7_count_23 : decode cX7_count 23 = .ok (.iload_n 1, 1) := by decide +kernel
theorem dX7_count_24 : decode cX7_count 24 = .ok (.invokevirtual 174, 3) := by decide +kernel
theorem dX7_count_27 : decode cX7_count 27 = .ok (.goto 4, 3) := by decide +kernel
theorem dX7_count_30 : decode cX7_count 30 = .ok (.iconst 0, 1) := by decide +kernel
theorem dX7_count_31 : decode cX7_count 31 = .ok (.ireturn, 1) := by decide +kernel
set_option maxRecDepth 20000 in
theorem ggX7_whyNot_X7_isGuest : GoodIn wsX7_whyNot wsX7_isGuest := goodIn_r _ [5, 6, 7, 8, 4, 9, 45, 46, 47, 48, 49, 50, 51, 52, 53, 54, 55, 56] (by decide +kernel) (by decide +kernel)
set_option maxRecDepth 20000 in
theorem gX7_whyNot_X7_isGuest : GoodIn wsX7_whyNot (wsV RX7 96 RX7 yX7_isGuest wsX7_isGuest) := goodIn_app (goodIn_of _ (by decide +kernel)) ggX7_whyNot_X7_isGuest
set_option maxRecDepth 20000 in
theorem ggX7_whyNot_X7_isSeat : GoodIn wsX7_whyNot wsX7_isSeat := goodIn_r _ [13, 6, 14, 15, 16, 4, 17, 7, 8, 9, 45, 46, 47, 48, 49, 50, 51, 52, 53, 54, 55, 56] (by decide +kernel) (by decide +kernel)
set_option maxRecDepth 20000 in
theorem gX7_whyNot_X7_isSeat : GoodIn wsX7_whyNot (wsV RX7 107 RX7 yX7_isSeat wsX7_isSeat) := goodIn_app (goodIn_of _ (by decide +kernel)) ggX7_whyNot_X7_isSeat
set_option maxRecDepth 20000 in
theorem ggX7_whyNot_X7_holds : GoodIn wsX7_whyNot wsX7_holds := goodIn_r _ [21, 22, 45, 46, 47, 48, 49, 50, 51, 52, 53, 54, 55, 56] (by decide +kernel) (by decide +kernel)
set_option maxRecDepth 20000 in
theorem gX7_whyNot_X7_holds : GoodIn wsX7_whyNot (wsV RX7 90 RX7 yX7_holds wsX7_holds) := goodIn_app (goodIn_of _ (by decide +kernel)) ggX7_whyNot_X7_holds
set_option maxRecDepth 20000 in
theorem ggX7_whyNot_X7_reason : GoodIn wsX7_whyNot wsX7_reason := goodIn_r _ [26, 6, 27, 28, 29, 4, 30, 31, 32, 33, 34, 35, 36, 37, 38, 39, 40, 41, 42, 43, 44, 45, 46, 47, 48, 49, 50, 51, 52, 53, 54, 55, 56] (by decide +kernel) (by decide +kernel)
set_option maxRecDepth 20000 in
theorem gX7_whyNot_X7_reason : GoodIn wsX7_whyNot (wsV RX7 61 RX7 yX7_reason wsX7_reason) := goodIn_app (goodIn_of _ (by decide +kernel)) ggX7_whyNot_X7_reason
theorem dX7_whyNot_0 : decode cX7_whyNot 0 = .ok (.aload_n 0, 1) := by decide +kernel
theorem dX7_whyNot_1 : decode cX7_whyNot 1 = .ok (.aload_n 0, 1) := by decide +kernel
theorem dX7_whyNot_2 : decode cX7_whyNot 2 = .ok (.iload_n 1, 1) := by decide +kernel
theorem dX7_whyNot_3 : decode cX7_whyNot 3 = .ok (.invokevirtual 96, 3) := by decide +kernel
theorem dX7_whyNot_6 : decode cX7_whyNot 6 = .ok (.ifCond .eq 16, 3) := by decide +kernel
theorem dX7_whyNot_9 : decode cX7_whyNot 9 = .ok (.aload_n 0, 1) := by decide +kernel
theorem dX7_whyNot_10 : decode cX7_whyNot 10 = .ok (.iload_n 2, 1) := by decide +kernel
theorem dX7_whyNot_11 : decode cX7_whyNot 11 = .ok (.iload_n 3, 1) := by decide +kernel
theorem dX7_whyNot_12 : decode cX7_whyNot 12 = .ok (.invokevirtual 107, 3) := by decide +kernel
theorem dX7_whyNot_15 : decode cX7_whyNot 15 = .ok (.ifCond .eq 7, 3) := by decide +kernel
theorem dX7_whyNot_18 : decode cX7_whyNot 18 = .ok (.iconst 0, 1) := by decide +kernel
theorem dX7_whyNot_19 : decode cX7_whyNot 19 = .ok (.goto 4, 3) := by decide +kernel
theorem dX7_whyNot_22 : decode cX7_whyNot 22 = .ok (.iconst 1, 1) := by decide +kernel
theorem dX7_whyNot_23 : decode cX7_whyNot 23 = .ok (.invokevirtual 90, 3) := by decide +kernel
theorem dX7_whyNot_26 : decode cX7_whyNot 26 = .ok (.ifCond .eq 14, 3) := by decide +kernel
theorem dX7_whyNot_29 : decode cX7_whyNot 29 = .ok (.aload_n 0, 1) := by decide +kernel
theorem dX7_whyNot_30 : decode cX7_whyNot 30 = .ok (.iconst 0, 1) := by decide +kernel
theorem dX7_whyNot_31 : decode cX7_whyNot 31 = .ok (.iload_n 1, 1) := by decide +kernel
theorem dX7_whyNot_32 : decode cX7_whyNot 32 = .ok (.iload_n 2, 1) := by decide +kernel
theorem dX7_whyNot_33 : decode cX7_whyNot 33 = .ok (.iload_n 3, 1) := by decide +kernel
theorem dX7_whyNot_34 : decode cX7_whyNot 34 = .ok (.invokevirtual 61, 3) := by decide +kernel
theorem dX7_whyNot_37 : decode cX7_whyNot 37 = .ok (.goto 4, 3) := by decide +kernel
theorem dX7_whyNot_40 : decode cX7_whyNot 40 = .ok (.iconst 0, 1) := by decide +kernel
theorem dX7_whyNot_41 : decode cX7_whyNot 41 = .ok (.ireturn, 1) := by decide +kernel
set_option maxRecDepth 20000 in
theorem ggX7_ifSat_X7_isGuest : GoodIn wsX7_ifSat wsX7_isGuest := goodIn_r _ [5, 6, 7, 8, 4, 9, 65, 66, 67, 68, 69, 70, 71, 72, 73, 74, 75, 76] (by decide +kernel) (by decide +kernel)
set_option maxRecDepth 20000 in
theorem gX7_ifSat_X7_isGuest : GoodIn wsX7_ifSat (wsV RX7 96 RX7 yX7_isGuest wsX7_isGuest) := goodIn_app (goodIn_of _ (by decide +kernel)) ggX7_ifSat_X7_isGuest
set_option maxRecDepth 20000 in
theorem ggX7_ifSat_X7_isSeat : GoodIn wsX7_ifSat wsX7_isSeat := goodIn_r _ [13, 6, 14, 15, 16, 4, 17, 7, 8, 9, 65, 66, 67, 68, 69, 70, 71, 72, 73, 74, 75, 76] (by decide +kernel) (by decide +kernel)
set_option maxRecDepth 20000 in
theorem gX7_ifSat_X7_isSeat : GoodIn wsX7_ifSat (wsV RX7 107 RX7 yX7_isSeat wsX7_isSeat) := goodIn_app (goodIn_of _ (by decide +kernel)) ggX7_ifSat_X7_isSeat
set_option maxRecDepth 20000 in
theorem ggX7_ifSat_X7_holds : GoodIn wsX7_ifSat wsX7_holds := goodIn_r _ [21, 22, 65, 66, 67, 68, 69, 70, 71, 72, 73, 74, 75, 76] (by decide +kernel) (by decide +kernel)
set_option maxRecDepth 20000 in
theorem gX7_ifSat_X7_holds : GoodIn wsX7_ifSat (wsV RX7 90 RX7 yX7_holds wsX7_holds) := goodIn_app (goodIn_of _ (by decide +kernel)) ggX7_ifSat_X7_holds
set_option maxRecDepth 20000 in
theorem ggX7_ifSat_X7_reason : GoodIn wsX7_ifSat wsX7_reason := goodIn_r _ [26, 6, 27, 28, 29, 4, 30, 31, 32, 33, 34, 35, 36, 37, 38, 39, 40, 41, 42, 43, 44, 65, 66, 67, 68, 69, 70, 71, 72, 73, 74, 75, 76] (by decide +kernel) (by decide +kernel)
set_option maxRecDepth 20000 in
theorem gX7_ifSat_X7_reason : GoodIn wsX7_ifSat (wsV RX7 61 RX7 yX7_reason wsX7_reason) := goodIn_app (goodIn_of _ (by decide +kernel)) ggX7_ifSat_X7_reason
set_option maxRecDepth 20000 in
theorem ggX7_ifSat_X7_pointsIf : GoodIn wsX7_ifSat wsX7_pointsIf := goodIn_r _ [48, 31, 32, 33, 4, 34, 6, 49, 50, 51, 52, 53, 54, 55, 56, 57, 58, 59, 60, 61, 62, 63, 64, 35, 36, 37, 65, 66, 67, 68, 69, 70, 71, 72, 73, 74, 75, 76] (by decide +kernel) (by decide +kernel)
set_option maxRecDepth 20000 in
theorem gX7_ifSat_X7_pointsIf : GoodIn wsX7_ifSat (wsV RX7 65 RX7 yX7_pointsIf wsX7_pointsIf) := goodIn_app (goodIn_of _ (by decide +kernel)) ggX7_ifSat_X7_pointsIf
theorem dX7_ifSat_0 : decode cX7_ifSat 0 = .ok (.aload_n 0, 1) := by decide +kernel
theorem dX7_ifSat_1 : decode cX7_ifSat 1 = .ok (.aload_n 0, 1) := by decide +kernel
theorem dX7_ifSat_2 : decode cX7_ifSat 2 = .ok (.iload_n 1, 1) := by decide +kernel
theorem dX7_ifSat_3 : decode cX7_ifSat 3 = .ok (.invokevirtual 96, 3) := by decide +kernel
theorem dX7_ifSat_6 : decode cX7_ifSat 6 = .ok (.ifCond .eq 16, 3) := by decide +kernel
theorem dX7_ifSat_9 : decode cX7_ifSat 9 = .ok (.aload_n 0, 1) := by decide +kernel
theorem dX7_ifSat_10 : decode cX7_ifSat 10 = .ok (.iload_n 2, 1) := by decide +kernel
theorem dX7_ifSat_11 : decode cX7_ifSat 11 = .ok (.iload_n 3, 1) := by decide +kernel
theorem dX7_ifSat_12 : decode cX7_ifSat 12 = .ok (.invokevirtual 107, 3) := by decide +kernel
theorem dX7_ifSat_15 : decode cX7_ifSat 15 = .ok (.ifCond .eq 7, 3) := by decide +kernel
theorem dX7_ifSat_18 : decode cX7_ifSat 18 = .ok (.iconst 0, 1) := by decide +kernel
theorem dX7_ifSat_19 : decode cX7_ifSat 19 = .ok (.goto 4, 3) := by decide +kernel
theorem dX7_ifSat_22 : decode cX7_ifSat 22 = .ok (.iconst 1, 1) := by decide +kernel
theorem dX7_ifSat_23 : decode cX7_ifSat 23 = .ok (.invokevirtual 90, 3) := by decide +kernel
theorem dX7_ifSat_26 : decode cX7_ifSat 26 = .ok (.ifCond .ne 5, 3) := by decide +kernel
theorem dX7_ifSat_29 : decode cX7_ifSat 29 = .ok (.iconst 0, 1) := by decide +kernel
theorem dX7_ifSat_30 : decode cX7_ifSat 30 = .ok (.ireturn, 1) := by decide +kernel
theorem dX7_ifSat_31 : decode cX7_ifSat 31 = .ok (.aload_n 0, 1) := by decide +kernel
theorem dX7_ifSat_32 : decode cX7_ifSat 32 = .ok (.iconst 0, 1) := by decide +kernel
theorem dX7_ifSat_33 : decode cX7_ifSat 33 = .ok (.iload_n 1, 1) := by decide +kernel
theorem dX7_ifSat_34 : decode cX7_ifSat 34 = .ok (.iload_n 2, 1) := by decide +kernel
theorem dX7_ifSat_35 : decode cX7_ifSat 35 = .ok (.iload_n 3, 1) := by decide +kernel
theorem dX7_ifSat_36 : decode cX7_ifSat 36 = .ok (.invokevirtual 61, 3) := by decide +kernel
theorem dX7_ifSat_39 : decode cX7_ifSat 39 = .ok (.ifCond .le 7, 3) := by decide +kernel
theorem dX7_ifSat_42 : decode cX7_ifSat 42 = .ok (.iconst (-1), 1) := by decide +kernel
theorem dX7_ifSat_43 : decode cX7_ifSat 43 = .ok (.goto 15, 3) := by decide +kernel
theorem dX7_ifSat_46 : decode cX7_ifSat 46 = .ok (.aload_n 0, 1) := by decide +kernel
theorem dX7_ifSat_47 : decode cX7_ifSat 47 = .ok (.iconst 0, 1) := by decide +kernel
theorem dX7_ifSat_48 : decode cX7_ifSat 48 = .ok (.iload_n 1, 1) := by decide +kernel
theorem dX7_ifSat_49 : decode cX7_ifSat 49 = .ok (.iload_n 2, 1) := by decide +kernel
theorem dX7_ifSat_50 : decode cX7_ifSat 50 = .ok (.iload_n 3, 1) := by decide +kernel
theorem dX7_ifSat_51 : decode cX7_ifSat 51 = .ok (.invokevirtual 65, 3) := by decide +kernel
theorem dX7_ifSat_54 : decode cX7_ifSat 54 = .ok (.sipush 1000, 3) := by decide +kernel
theorem dX7_ifSat_57 : decode cX7_ifSat 57 = .ok (.iadd, 1) := by decide +kernel
theorem dX7_ifSat_58 : decode cX7_ifSat 58 = .ok (.ireturn, 1) := by decide +kernel
set_option maxRecDepth 20000 in
theorem ggX7_bestSeat_X7_isGuest : GoodIn wsX7_bestSeat wsX7_isGuest := goodIn_r _ [5, 6, 7, 8, 4, 9, 61, 62, 63, 64, 65, 66, 67, 68, 69, 70, 71, 72] (by decide +kernel) (by decide +kernel)
set_option maxRecDepth 20000 in
theorem gX7_bestSeat_X7_isGuest : GoodIn wsX7_bestSeat (wsV RX7 96 RX7 yX7_isGuest wsX7_isGuest) := goodIn_app (goodIn_of _ (by decide +kernel)) ggX7_bestSeat_X7_isGuest
set_option maxRecDepth 20000 in
theorem ggX7_bestSeat_X7_holds : GoodIn wsX7_bestSeat wsX7_holds := goodIn_r _ [13, 14, 61, 62, 63, 64, 65, 66, 67, 68, 69, 70, 71, 72] (by decide +kernel) (by decide +kernel)
set_option maxRecDepth 20000 in
theorem gX7_bestSeat_X7_holds : GoodIn wsX7_bestSeat (wsV RX7 90 RX7 yX7_holds wsX7_holds) := goodIn_app (goodIn_of _ (by decide +kernel)) ggX7_bestSeat_X7_holds
set_option maxRecDepth 20000 in
theorem ggX7_bestSeat_X7_best : GoodIn wsX7_bestSeat wsX7_best := goodIn_r _ [18, 6, 19, 20, 21, 4, 22, 23, 24, 25, 26, 27, 28, 29, 30, 31, 32, 33, 34, 35, 36, 37, 38, 39, 40, 41, 42, 43, 44, 45, 46, 47, 48, 49, 50, 51, 52, 53, 54, 55, 56, 57, 58, 59, 60, 61, 62, 63, 64, 65, 66, 67, 68, 69, 70, 71, 72] (by decide +kernel) (by decide +kernel)
set_option maxRecDepth 20000 in
theorem gX7_bestSeat_X7_best : GoodIn wsX7_bestSeat (wsV RX7 72 RX7 yX7_best wsX7_best) := goodIn_app (goodIn_of _ (by decide +kernel)) ggX7_bestSeat_X7_best
theorem dX7_bestSeat_0 : decode cX7_bestSeat 0 = .ok (.aload_n 0, 1) := by decide +kernel
theorem dX7_bestSeat_1 : decode cX7_bestSeat 1 = .ok (.aload_n 0, 1) := by decide +kernel
theorem dX7_bestSeat_2 : decode cX7_bestSeat 2 = .ok (.iload_n 1, 1) := by decide +kernel
theorem dX7_bestSeat_3 : decode cX7_bestSeat 3 = .ok (.invokevirtual 96, 3) := by decide +kernel
theorem dX7_bestSeat_6 : decode cX7_bestSeat 6 = .ok (.ifCond .eq 7, 3) := by decide +kernel
theorem dX7_bestSeat_9 : decode cX7_bestSeat 9 = .ok (.iconst 0, 1) := by decide +kernel
theorem dX7_bestSeat_10 : decode cX7_bestSeat 10 = .ok (.goto 4, 3) := by decide +kernel
theorem dX7_bestSeat_13 : decode cX7_bestSeat 13 = .ok (.iconst 1, 1) := by decide +kernel
theorem dX7_bestSeat_14 : decode cX7_bestSeat 14 = .ok (.invokevirtual 90, 3) := by decide +kernel
theorem dX7_bestSeat_17 : decode cX7_bestSeat 17 = .ok (.ifCond .eq 12, 3) := by decide +kernel
theorem dX7_bestSeat_20 : decode cX7_bestSeat 20 = .ok (.aload_n 0, 1) := by decide +kernel
theorem dX7_bestSeat_21 : decode cX7_bestSeat 21 = .ok (.iconst 0, 1) := by decide +kernel
theorem dX7_bestSeat_22 : decode cX7_bestSeat 22 = .ok (.iload_n 1, 1) := by decide +kernel
theorem dX7_bestSeat_23 : decode cX7_bestSeat 23 = .ok (.invokevirtual 72, 3) := by decide +kernel
theorem dX7_bestSeat_26 : decode cX7_bestSeat 26 = .ok (.goto 4, 3) := by decide +kernel
theorem dX7_bestSeat_29 : decode cX7_bestSeat 29 = .ok (.iconst 0, 1) := by decide +kernel
theorem dX7_bestSeat_30 : decode cX7_bestSeat 30 = .ok (.ireturn, 1) := by decide +kernel
set_option maxRecDepth 20000 in
theorem ggX7_standing_X7_feudOf : GoodIn wsX7_standing wsX7_feudOf := goodIn_r _ [4] (by decide +kernel) (by decide +kernel)
set_option maxRecDepth 20000 in
theorem gX7_standing_X7_feudOf : GoodIn wsX7_standing (va_wsS RX7 41 yX7_feudOf wsX7_feudOf) := goodIn_app (goodIn_of _ (by decide +kernel)) ggX7_standing_X7_feudOf
set_option maxRecDepth 20000 in
theorem ggX7_standing_X7_feudPlace : GoodIn wsX7_standing wsX7_feudPlace := goodIn_r _ [8, 9, 26, 27, 28, 29, 30, 31, 32, 33, 34, 35, 36, 37] (by decide +kernel) (by decide +kernel)
set_option maxRecDepth 20000 in
theorem gX7_standing_X7_feudPlace : GoodIn wsX7_standing (wsV RX7 45 RX7 yX7_feudPlace wsX7_feudPlace) := goodIn_app (goodIn_of _ (by decide +kernel)) ggX7_standing_X7_feudPlace
set_option maxRecDepth 20000 in
theorem ggX7_standing_X7_leavers : GoodIn wsX7_standing wsX7_leavers := goodIn_r _ [13, 9, 14, 15, 16, 3, 17, 18, 19, 20, 21, 22, 23, 24, 25, 26, 27, 28, 29, 30, 31, 32, 33, 34, 35, 36, 37] (by decide +kernel) (by decide +kernel)
set_option maxRecDepth 20000 in
theorem gX7_standing_X7_leavers : GoodIn wsX7_standing (wsV RX7 177 RX7 yX7_leavers wsX7_leavers) := goodIn_app (goodIn_of _ (by decide +kernel)) ggX7_standing_X7_leavers
theorem dX7_standing_0 : decode cX7_standing 0 = .ok (.aload_n 0, 1) := by decide +kernel
theorem dX7_standing_1 : decode cX7_standing 1 = .ok (.iconst 0, 1) := by decide +kernel
theorem dX7_standing_2 : decode cX7_standing 2 = .ok (.iload_n 1, 1) := by decide +kernel
theorem dX7_standing_3 : decode cX7_standing 3 = .ok (.iload_n 2, 1) := by decide +kernel
theorem dX7_standing_4 : decode cX7_standing 4 = .ok (.invokestatic 41, 3) := by decide +kernel
theorem dX7_standing_7 : decode cX7_standing 7 = .ok (.invokevirtual 45, 3) := by decide +kernel
theorem dX7_standing_10 : decode cX7_standing 10 = .ok (.iconst (-1), 1) := by decide +kernel
theorem dX7_standing_11 : decode cX7_standing 11 = .ok (.if_icmp .eq 7, 3) := by decide +kernel
theorem dX7_standing_14 : decode cX7_standing 14 = .ok (.iconst 0, 1) := by decide +kernel
theorem dX7_standing_15 : decode cX7_standing 15 = .ok (.goto 9, 3) := by decide +kernel
theorem dX7_standing_18 : decode cX7_standing 18 = .ok (.aload_n 0, 1) := by decide +kernel
theorem dX7_standing_19 : decode cX7_standing 19 = .ok (.iload_n 1, 1) := by decide +kernel
theorem dX7_standing_20 : decode cX7_standing 20 = .ok (.iload_n 2, 1) := by decide +kernel
theorem dX7_standing_21 : decode cX7_standing 21 = .ok (.invokevirtual 177, 3) := by decide +kernel
theorem dX7_standing_24 : decode cX7_standing 24 = .ok (.ireturn, 1) := by decide +kernel
set_option maxRecDepth 20000 in
theorem ggX7_ifFeud_X7_arePair : GoodIn wsX7_ifFeud wsX7_arePair := goodIn_r _ [4, 5, 6, 3, 7, 8, 9, 10] (by decide +kernel) (by decide +kernel)
set_option maxRecDepth 20000 in
theorem gX7_ifFeud_X7_arePair : GoodIn wsX7_ifFeud (va_wsS RX7 99 yX7_arePair wsX7_arePair) := goodIn_app (goodIn_of _ (by decide +kernel)) ggX7_ifFeud_X7_arePair
set_option maxRecDepth 20000 in
theorem ggX7_ifFeud_X7_holds : GoodIn wsX7_ifFeud wsX7_holds := goodIn_r _ [14, 15, 44, 45, 46, 47, 48, 49, 50, 51, 52, 53, 54, 55] (by decide +kernel) (by decide +kernel)
set_option maxRecDepth 20000 in
theorem gX7_ifFeud_X7_holds : GoodIn wsX7_ifFeud (wsV RX7 90 RX7 yX7_holds wsX7_holds) := goodIn_app (goodIn_of _ (by decide +kernel)) ggX7_ifFeud_X7_holds
set_option maxRecDepth 20000 in
theorem ggX7_ifFeud_X7_standing : GoodIn wsX7_ifFeud wsX7_standing := goodIn_r _ [19, 20, 21, 3, 22, 23, 24, 25, 26, 27, 28, 29, 30, 31, 32, 33, 34, 35, 36, 37, 38, 39, 40, 41, 42, 43, 44, 45, 46, 47, 48, 49, 50, 51, 52, 53, 54, 55] (by decide +kernel) (by decide +kernel)
set_option maxRecDepth 20000 in
theorem gX7_ifFeud_X7_standing : GoodIn wsX7_ifFeud (wsV RX7 180 RX7 yX7_standing wsX7_standing) := goodIn_app (goodIn_of _ (by decide +kernel)) ggX7_ifFeud_X7_standing
theorem dX7_ifFeud_0 : decode cX7_ifFeud 0 = .ok (.aload_n 0, 1) := by decide +kernel
theorem dX7_ifFeud_1 : decode cX7_ifFeud 1 = .ok (.iload_n 1, 1) := by decide +kernel
theorem dX7_ifFeud_2 : decode cX7_ifFeud 2 = .ok (.iload_n 2, 1) := by decide +kernel
theorem dX7_ifFeud_3 : decode cX7_ifFeud 3 = .ok (.invokestatic 99, 3) := by decide +kernel
theorem dX7_ifFeud_6 : decode cX7_ifFeud 6 = .ok (.ifCond .eq 7, 3) := by decide +kernel
theorem dX7_ifFeud_9 : decode cX7_ifFeud 9 = .ok (.iconst 0, 1) := by decide +kernel
theorem dX7_ifFeud_10 : decode cX7_ifFeud 10 = .ok (.goto 4, 3) := by decide +kernel
theorem dX7_ifFeud_13 : decode cX7_ifFeud 13 = .ok (.iconst 1, 1) := by decide +kernel
theorem dX7_ifFeud_14 : decode cX7_ifFeud 14 = .ok (.invokevirtual 90, 3) := by decide +kernel
theorem dX7_ifFeud_17 : decode cX7_ifFeud 17 = .ok (.ifCond .eq 12, 3) := by decide +kernel
theorem dX7_ifFeud_20 : decode cX7_ifFeud 20 = .ok (.aload_n 0, 1) := by decide +kernel
theorem dX7_ifFeud_21 : decode cX7_ifFeud 21 = .ok (.iload_n 1, 1) := by decide +kernel
theorem dX7_ifFeud_22 : decode cX7_ifFeud 22 = .ok (.iload_n 2, 1) := by decide +kernel
theorem dX7_ifFeud_23 : decode cX7_ifFeud 23 = .ok (.invokevirtual 180, 3) := by decide +kernel
theorem dX7_ifFeud_26 : decode cX7_ifFeud 26 = .ok (.goto 4, 3) := by decide +kernel
theorem dX7_ifFeud_29 : decode cX7_ifFeud 29 = .ok (.iconst 0, 1) := by decide +kernel
theorem dX7_ifFeud_30 : decode cX7_ifFeud 30 = .ok (.ireturn, 1) := by decide +kernel
set_option maxRecDepth 20000 in
theorem ggX7_seatedIf_X7_copies : GoodIn wsX7_seatedIf wsX7_copies := goodIn_r _ [5, 6, 65, 66, 67, 68, 69, 70, 71, 72, 73, 74, 75, 76] (by decide +kernel) (by decide +kernel)
set_option maxRecDepth 20000 in
theorem gX7_seatedIf_X7_copies : GoodIn wsX7_seatedIf (wsV RX7 87 RX7 yX7_copies wsX7_copies) := goodIn_app (goodIn_of _ (by decide +kernel)) ggX7_seatedIf_X7_copies
set_option maxRecDepth 20000 in
theorem ggX7_seatedIf_X7_seatsAll : GoodIn wsX7_seatedIf wsX7_seatsAll := goodIn_r _ [10, 6, 11, 12, 13, 4, 14, 15, 16, 17, 18, 19, 20, 21, 22, 23, 24, 25, 26, 27, 28, 29, 30, 31, 32, 33, 34, 35, 36, 37, 38, 39, 40, 41, 42, 43, 44, 45, 46, 47, 48, 49, 50, 51, 52, 53, 54, 55, 56, 57, 58, 59, 60, 61, 62, 63, 64, 65, 66, 67, 68, 69, 70, 71, 72, 73, 74, 75, 76] (by decide +kernel) (by decide +kernel)
set_option maxRecDepth 20000 in
theorem gX7_seatedIf_X7_seatsAll : GoodIn wsX7_seatedIf (wsV RX7 113 RX7 yX7_seatsAll wsX7_seatsAll) := goodIn_app (goodIn_of _ (by decide +kernel)) ggX7_seatedIf_X7_seatsAll
set_option maxRecDepth 20000 in
theorem ggX7_seatedIf_X7_points : GoodIn wsX7_seatedIf wsX7_points := goodIn_r _ [48, 6, 11, 12, 13, 4, 14, 49, 50, 51, 52, 53, 54, 55, 56, 27, 28, 29, 65, 66, 67, 68, 69, 70, 71, 72, 73, 74, 75, 76] (by decide +kernel) (by decide +kernel)
set_option maxRecDepth 20000 in
theorem gX7_seatedIf_X7_points : GoodIn wsX7_seatedIf (wsV RX7 58 RX7 yX7_points wsX7_points) := goodIn_app (goodIn_of _ (by decide +kernel)) ggX7_seatedIf_X7_points
theorem dX7_seatedIf_0 : decode cX7_seatedIf 0 = .ok (.aload_n 0, 1) := by decide +kernel
theorem dX7_seatedIf_1 : decode cX7_seatedIf 1 = .ok (.iconst 0, 1) := by decide +kernel
theorem dX7_seatedIf_2 : decode cX7_seatedIf 2 = .ok (.bipush 8, 2) := by decide +kernel
theorem dX7_seatedIf_4 : decode cX7_seatedIf 4 = .ok (.invokevirtual 87, 3) := by decide +kernel
theorem dX7_seatedIf_7 : decode cX7_seatedIf 7 = .ok (.aload_n 0, 1) := by decide +kernel
theorem dX7_seatedIf_8 : decode cX7_seatedIf 8 = .ok (.sipush 944, 3) := by decide +kernel
theorem dX7_seatedIf_11 : decode cX7_seatedIf 11 = .ok (.invokevirtual 113, 3) := by decide +kernel
theorem dX7_seatedIf_14 : decode cX7_seatedIf 14 = .ok (.istore_n 2, 1) := by decide +kernel
theorem dX7_seatedIf_15 : decode cX7_seatedIf 15 = .ok (.iload_n 1, 1) := by decide +kernel
theorem dX7_seatedIf_16 : decode cX7_seatedIf 16 = .ok (.ifCond .ne 7, 3) := by decide +kernel
theorem dX7_seatedIf_19 : decode cX7_seatedIf 19 = .ok (.iload_n 2, 1) := by decide +kernel
theorem dX7_seatedIf_20 : decode cX7_seatedIf 20 = .ok (.goto 15, 3) := by decide +kernel
theorem dX7_seatedIf_23 : decode cX7_seatedIf 23 = .ok (.aload_n 0, 1) := by decide +kernel
theorem dX7_seatedIf_24 : decode cX7_seatedIf 24 = .ok (.sipush 944, 3) := by decide +kernel
theorem dX7_seatedIf_27 : decode cX7_seatedIf 27 = .ok (.iconst (-1), 1) := by decide +kernel
theorem dX7_seatedIf_28 : decode cX7_seatedIf 28 = .ok (.invokevirtual 58, 3) := by decide +kernel
theorem dX7_seatedIf_31 : decode cX7_seatedIf 31 = .ok (.sipush 1000, 3) := by decide +kernel
theorem dX7_seatedIf_34 : decode cX7_seatedIf 34 = .ok (.iadd, 1) := by decide +kernel
theorem dX7_seatedIf_35 : decode cX7_seatedIf 35 = .ok (.ireturn, 1) := by decide +kernel
set_option maxRecDepth 20000 in
theorem ggX7_ifSeated_X7_in : GoodIn wsX7_ifSeated wsX7_in := goodIn_r _ [4] (by decide +kernel) (by decide +kernel)
set_option maxRecDepth 20000 in
theorem gX7_ifSeated_X7_in : GoodIn wsX7_ifSeated (va_wsS RX7 20 yX7_in wsX7_in) := goodIn_app (goodIn_of _ (by decide +kernel)) ggX7_ifSeated_X7_in
set_option maxRecDepth 20000 in
theorem ggX7_ifSeated_X7_holds : GoodIn wsX7_ifSeated wsX7_holds := goodIn_r _ [8, 9, 77, 78, 79, 80, 81, 82, 83, 84, 85, 86, 87, 88] (by decide +kernel) (by decide +kernel)
set_option maxRecDepth 20000 in
theorem gX7_ifSeated_X7_holds : GoodIn wsX7_ifSeated (wsV RX7 90 RX7 yX7_holds wsX7_holds) := goodIn_app (goodIn_of _ (by decide +kernel)) ggX7_ifSeated_X7_holds
set_option maxRecDepth 20000 in
theorem ggX7_ifSeated_X7_seatedIf : GoodIn wsX7_ifSeated wsX7_seatedIf := goodIn_r _ [13, 14, 15, 16, 3, 17, 18, 19, 20, 21, 22, 23, 24, 25, 26, 27, 28, 29, 30, 31, 32, 33, 34, 35, 36, 37, 38, 39, 40, 41, 42, 43, 44, 45, 46, 47, 48, 49, 50, 51, 52, 53, 54, 55, 56, 57, 58, 59, 60, 61, 62, 63, 64, 65, 66, 67, 68, 69, 70, 71, 72, 73, 74, 75, 76, 77, 78, 79, 80, 81, 82, 83, 84, 85, 86, 87, 88] (by decide +kernel) (by decide +kernel)
set_option maxRecDepth 20000 in
theorem gX7_ifSeated_X7_seatedIf : GoodIn wsX7_ifSeated (wsV RX7 183 RX7 yX7_seatedIf wsX7_seatedIf) := goodIn_app (goodIn_of _ (by decide +kernel)) ggX7_ifSeated_X7_seatedIf
theorem dX7_ifSeated_0 : decode cX7_ifSeated 0 = .ok (.aload_n 0, 1) := by decide +kernel
theorem dX7_ifSeated_1 : decode cX7_ifSeated 1 = .ok (.iload_n 1, 1) := by decide +kernel
theorem dX7_ifSeated_2 : decode cX7_ifSeated 2 = .ok (.iconst 0, 1) := by decide +kernel
theorem dX7_ifSeated_3 : decode cX7_ifSeated 3 = .ok (.iconst 1, 1) := by decide +kernel
theorem dX7_ifSeated_4 : decode cX7_ifSeated 4 = .ok (.invokestatic 20, 3) := by decide +kernel
theorem dX7_ifSeated_7 : decode cX7_ifSeated 7 = .ok (.ifCond .eq 7, 3) := by decide +kernel
theorem dX7_ifSeated_10 : decode cX7_ifSeated 10 = .ok (.iconst 0, 1) := by decide +kernel
theorem dX7_ifSeated_11 : decode cX7_ifSeated 11 = .ok (.goto 4, 3) := by decide +kernel
theorem dX7_ifSeated_14 : decode cX7_ifSeated 14 = .ok (.iconst 1, 1) := by decide +kernel
theorem dX7_ifSeated_15 : decode cX7_ifSeated 15 = .ok (.invokevirtual 90, 3) := by decide +kernel
theorem dX7_ifSeated_18 : decode cX7_ifSeated 18 = .ok (.ifCond .eq 11, 3) := by decide +kernel
theorem dX7_ifSeated_21 : decode cX7_ifSeated 21 = .ok (.aload_n 0, 1) := by decide +kernel
theorem dX7_ifSeated_22 : decode cX7_ifSeated 22 = .ok (.iload_n 1, 1) := by decide +kernel
theorem dX7_ifSeated_23 : decode cX7_ifSeated 23 = .ok (.invokevirtual 183, 3) := by decide +kernel
theorem dX7_ifSeated_26 : decode cX7_ifSeated 26 = .ok (.goto 4, 3) := by decide +kernel
theorem dX7_ifSeated_29 : decode cX7_ifSeated 29 = .ok (.iconst 0, 1) := by decide +kernel
theorem dX7_ifSeated_30 : decode cX7_ifSeated 30 = .ok (.ireturn, 1) := by decide +kernel
set_option maxRecDepth 20000 in
theorem ggX7_share_X7_wishes : GoodIn wsX7_share wsX7_wishes := goodIn_r _ [5, 6, 7, 8, 9, 4, 10, 11, 12, 13, 14, 15, 16, 17, 18, 19, 20, 21, 22, 23, 24, 25, 26] (by decide +kernel) (by decide +kernel)
set_option maxRecDepth 20000 in
theorem gX7_share_X7_wishes : GoodIn wsX7_share (wsV RX7 170 RX7 yX7_wishes wsX7_wishes) := goodIn_app (goodIn_of _ (by decide +kernel)) ggX7_share_X7_wishes
theorem dX7_share_0 : decode cX7_share 0 = .ok (.aload_n 0, 1) := by decide +kernel
theorem dX7_share_1 : decode cX7_share 1 = .ok (.iconst 0, 1) := by decide +kernel
theorem dX7_share_2 : decode cX7_share 2 = .ok (.invokevirtual 170, 3) := by decide +kernel
theorem dX7_share_5 : decode cX7_share 5 = .ok (.istore_n 1, 1) := by decide +kernel
theorem dX7_share_6 : decode cX7_share 6 = .ok (.iload_n 1, 1) := by decide +kernel
theorem dX7_share_7 : decode cX7_share 7 = .ok (.ifCond .ne 7, 3) := by decide +kernel
theorem dX7_share_10 : decode cX7_share 10 = .ok (.dconst 1, 1) := by decide +kernel
theorem dX7_share_11 : decode cX7_share 11 = .ok (.goto 12, 3) := by decide +kernel
theorem dX7_share_14 : decode cX7_share 14 = .ok (.aload_n 0, 1) := by decide +kernel
theorem dX7_share_15 : decode cX7_share 15 = .ok (.iconst 1, 1) := by decide +kernel
theorem dX7_share_16 : decode cX7_share 16 = .ok (.invokevirtual 170, 3) := by decide +kernel
theorem dX7_share_19 : decode cX7_share 19 = .ok (.i2d, 1) := by decide +kernel
theorem dX7_share_20 : decode cX7_share 20 = .ok (.iload_n 1, 1) := by decide +kernel
theorem dX7_share_21 : decode cX7_share 21 = .ok (.i2d, 1) := by decide +kernel
theorem dX7_share_22 : decode cX7_share 22 = .ok (.ddiv, 1) := by decide +kernel
theorem dX7_share_23 : decode cX7_share 23 = .ok (.dreturn, 1) := by decide +kernel
set_option maxRecDepth 20000 in
theorem ggX7_met_X7_share : GoodIn wsX7_met wsX7_share := goodIn_r _ [6, 7, 8, 9, 5, 10, 11, 12, 13, 14, 15, 16, 17, 18, 19, 20, 21, 22, 23, 24, 25, 26, 27, 28, 29, 30, 31] (by decide +kernel) (by decide +kernel)
set_option maxRecDepth 20000 in
theorem gX7_met_X7_share : GoodIn wsX7_met (wsV RX7 186 RX7 yX7_share wsX7_share) := goodIn_app (goodIn_of _ (by decide +kernel)) ggX7_met_X7_share
theorem dX7_met_0 : decode cX7_met 0 = .ok (.aload_n 0, 1) := by decide +kernel
theorem dX7_met_1 : decode cX7_met 1 = .ok (.iconst 0, 1) := by decide +kernel
theorem dX7_met_2 : decode cX7_met 2 = .ok (.putfield 16, 3) := by decide +kernel
theorem dX7_met_5 : decode cX7_met 5 = .ok (.aload_n 0, 1) := by decide +kernel
theorem dX7_met_6 : decode cX7_met 6 = .ok (.invokevirtual 186, 3) := by decide +kernel
theorem dX7_met_9 : decode cX7_met 9 = .ok (.dreturn, 1) := by decide +kernel
theorem dX7_mix_0 : decode cX7_mix 0 = .ok (.aload_n 0, 1) := by decide +kernel
theorem dX7_mix_1 : decode cX7_mix 1 = .ok (.ldc2_w 190, 3) := by decide +kernel
theorem dX7_mix_4 : decode cX7_mix 4 = .ok (.aload_n 0, 1) := by decide +kernel
theorem dX7_mix_5 : decode cX7_mix 5 = .ok (.getfield 192, 3) := by decide +kernel
theorem dX7_mix_8 : decode cX7_mix 8 = .ok (.lmul, 1) := by decide +kernel
theorem dX7_mix_9 : decode cX7_mix 9 = .ok (.lload_n 1, 1) := by decide +kernel
theorem dX7_mix_10 : decode cX7_mix 10 = .ok (.ladd, 1) := by decide +kernel
theorem dX7_mix_11 : decode cX7_mix 11 = .ok (.putfield 192, 3) := by decide +kernel
theorem dX7_mix_14 : decode cX7_mix 14 = .ok (.return_, 1) := by decide +kernel
theorem dX7_bits_0 : decode cX7_bits 0 = .ok (.dload_n 0, 1) := by decide +kernel
theorem dX7_bits_1 : decode cX7_bits 1 = .ok (.dconst 0, 1) := by decide +kernel
theorem dX7_bits_2 : decode cX7_bits 2 = .ok (.dcmp .l, 1) := by decide +kernel
theorem dX7_bits_3 : decode cX7_bits 3 = .ok (.ifCond .ne 5, 3) := by decide +kernel
theorem dX7_bits_6 : decode cX7_bits 6 = .ok (.lconst 0, 1) := by decide +kernel
theorem dX7_bits_7 : decode cX7_bits 7 = .ok (.lreturn, 1) := by decide +kernel
theorem dX7_bits_8 : decode cX7_bits 8 = .ok (.dload_n 0, 1) := by decide +kernel
theorem dX7_bits_9 : decode cX7_bits 9 = .ok (.dstore_n 2, 1) := by decide +kernel
theorem dX7_bits_10 : decode cX7_bits 10 = .ok (.ldc2_w 196, 3) := by decide +kernel
theorem dX7_bits_13 : decode cX7_bits 13 = .ok (.lstore 4, 2) := by decide +kernel
theorem dX7_bits_15 : decode cX7_bits 15 = .ok (.dload_n 2, 1) := by decide +kernel
theorem dX7_bits_16 : decode cX7_bits 16 = .ok (.dconst 1, 1) := by decide +kernel
theorem dX7_bits_17 : decode cX7_bits 17 = .ok (.dcmp .g, 1) := by decide +kernel
theorem dX7_bits_18 : decode cX7_bits 18 = .ok (.ifCond .ge 18, 3) := by decide +kernel
theorem dX7_bits_21 : decode cX7_bits 21 = .ok (.dload_n 2, 1) := by decide +kernel
theorem dX7_bits_22 : decode cX7_bits 22 = .ok (.ldc2_w 198, 3) := by decide +kernel
theorem dX7_bits_25 : decode cX7_bits 25 = .ok (.dmul, 1) := by decide +kernel
theorem dX7_bits_26 : decode cX7_bits 26 = .ok (.dstore_n 2, 1) := by decide +kernel
theorem dX7_bits_27 : decode cX7_bits 27 = .ok (.lload 4, 2) := by decide +kernel
theorem dX7_bits_29 : decode cX7_bits 29 = .ok (.lconst 1, 1) := by decide +kernel
theorem dX7_bits_30 : decode cX7_bits 30 = .ok (.lsub, 1) := by decide +kernel
theorem dX7_bits_31 : decode cX7_bits 31 = .ok (.lstore 4, 2) := by decide +kernel
theorem dX7_bits_33 : decode cX7_bits 33 = .ok (.goto (-18), 3) := by decide +kernel
theorem dX7_bits_36 : decode cX7_bits 36 = .ok (.lload 4, 2) := by decide +kernel
theorem dX7_bits_38 : decode cX7_bits 38 = .ok (.ldc2_w 200, 3) := by decide +kernel
theorem dX7_bits_41 : decode cX7_bits 41 = .ok (.lmul, 1) := by decide +kernel
theorem dX7_bits_42 : decode cX7_bits 42 = .ok (.dload_n 2, 1) := by decide +kernel
theorem dX7_bits_43 : decode cX7_bits 43 = .ok (.dconst 1, 1) := by decide +kernel
theorem dX7_bits_44 : decode cX7_bits 44 = .ok (.dsub, 1) := by decide +kernel
theorem dX7_bits_45 : decode cX7_bits 45 = .ok (.ldc2_w 202, 3) := by decide +kernel
theorem dX7_bits_48 : decode cX7_bits 48 = .ok (.dmul, 1) := by decide +kernel
theorem dX7_bits_49 : decode cX7_bits 49 = .ok (.d2l, 1) := by decide +kernel
theorem dX7_bits_50 : decode cX7_bits 50 = .ok (.ladd, 1) := by decide +kernel
theorem dX7_bits_51 : decode cX7_bits 51 = .ok (.lreturn, 1) := by decide +kernel
set_option maxRecDepth 20000 in
theorem ggX7_mixTable_X7_ofTable : GoodIn wsX7_mixTable wsX7_ofTable := goodIn_r _ [6, 1, 7, 8, 9, 5, 10, 11, 12, 13, 14, 15, 16, 17, 18, 19, 20, 21, 22, 23, 24, 25, 26, 27, 28, 29, 40, 41, 42, 43, 44, 45, 46, 47, 48, 49, 50, 51] (by decide +kernel) (by decide +kernel)
set_option maxRecDepth 20000 in
theorem gX7_mixTable_X7_ofTable : GoodIn wsX7_mixTable (wsV RX7 167 RX7 yX7_ofTable wsX7_ofTable) := goodIn_app (goodIn_of _ (by decide +kernel)) ggX7_mixTable_X7_ofTable
set_option maxRecDepth 20000 in
theorem ggX7_mixTable_X7_mix : GoodIn wsX7_mixTable wsX7_mix := goodIn_r _ [33, 34, 35, 40, 41, 42, 43, 44, 45, 46, 47, 48, 49, 50, 51] (by decide +kernel) (by decide +kernel)
set_option maxRecDepth 20000 in
theorem gX7_mixTable_X7_mix : GoodIn wsX7_mixTable (wsV RX7 204 RX7 yX7_mix wsX7_mix) := goodIn_app (goodIn_of _ (by decide +kernel)) ggX7_mixTable_X7_mix
set_option maxRecDepth 20000 in
theorem ggX7_mixTable_X7_whoSits : GoodIn wsX7_mixTable wsX7_whoSits := goodIn_r _ [10, 1, 11, 12, 13, 5, 14, 40, 41, 42, 43, 44, 45, 46, 47, 48, 49, 50, 51] (by decide +kernel) (by decide +kernel)
set_option maxRecDepth 20000 in
theorem gX7_mixTable_X7_whoSits : GoodIn wsX7_mixTable (wsV RX7 35 RX7 yX7_whoSits wsX7_whoSits) := goodIn_app (goodIn_of _ (by decide +kernel)) ggX7_mixTable_X7_whoSits
set_option maxRecDepth 20000 in
theorem ggX7_mixTable_X7_character : GoodIn wsX7_mixTable wsX7_character := goodIn_r _ [39, 1, 7, 8, 9, 5, 10, 11, 12, 13, 14, 15, 16, 17, 40, 41, 42, 43, 44, 45, 46, 47, 48, 49, 50, 51] (by decide +kernel) (by decide +kernel)
set_option maxRecDepth 20000 in
theorem gX7_mixTable_X7_character : GoodIn wsX7_mixTable (wsV RX7 158 RX7 yX7_character wsX7_character) := goodIn_app (goodIn_of _ (by decide +kernel)) ggX7_mixTable_X7_character
theorem dX7_mixTable_0 : decode cX7_mixTable 0 = .ok (.iconst 0, 1) := by decide +kernel
theorem dX7_mixTable_1 : decode cX7_mixTable 1 = .ok (.istore_n 2, 1) := by decide +kernel
theorem dX7_mixTable_2 : decode cX7_mixTable 2 = .ok (.iload_n 2, 1) := by decide +kernel
theorem dX7_mixTable_3 : decode cX7_mixTable 3 = .ok (.iconst 5, 1) := by decide +kernel
theorem dX7_mixTable_4 : decode cX7_mixTable 4 = .ok (.if_icmp .ge 20, 3) := by decide +kernel
theorem dX7_mixTable_7 : decode cX7_mixTable 7 = .ok (.aload_n 0, 1) := by decide +kernel
theorem dX7_mixTable_8 : decode cX7_mixTable 8 = .ok (.aload_n 0, 1) := by decide +kernel
theorem dX7_mixTable_9 : decode cX7_mixTable 9 = .ok (.iload_n 1, 1) := by decide +kernel
theorem dX7_mixTable_10 : decode cX7_mixTable 10 = .ok (.iload_n 2, 1) := by decide +kernel
theorem dX7_mixTable_11 : decode cX7_mixTable 11 = .ok (.invokevirtual 167, 3) := by decide +kernel
theorem dX7_mixTable_14 : decode cX7_mixTable 14 = .ok (.i2l, 1) := by decide +kernel
theorem dX7_mixTable_15 : decode cX7_mixTable 15 = .ok (.invokevirtual 204, 3) := by decide +kernel
theorem dX7_mixTable_18 : decode cX7_mixTable 18 = .ok (.iinc 2 1, 3) := by decide +kernel
theorem dX7_mixTable_21 : decode cX7_mixTable 21 = .ok (.goto (-19), 3) := by decide +kernel
theorem dX7_mixTable_24 : decode cX7_mixTable 24 = .ok (.iconst 0, 1) := by decide +kernel
theorem dX7_mixTable_25 : decode cX7_mixTable 25 = .ok (.istore_n 2, 1) := by decide +kernel
theorem dX7_mixTable_26 : decode cX7_mixTable 26 = .ok (.iload_n 2, 1) := by decide +kernel
theorem dX7_mixTable_27 : decode cX7_mixTable 27 = .ok (.aload_n 0, 1) := by decide +kernel
theorem dX7_mixTable_28 : decode cX7_mixTable 28 = .ok (.getfield 7, 3) := by decide +kernel
theorem dX7_mixTable_31 : decode cX7_mixTable 31 = .ok (.bipush 18, 2) := by decide +kernel
theorem dX7_mixTable_33 : decode cX7_mixTable 33 = .ok (.iload_n 1, 1) := by decide +kernel
theorem dX7_mixTable_34 : decode cX7_mixTable 34 = .ok (.iadd, 1) := by decide +kernel
theorem dX7_mixTable_35 : decode cX7_mixTable 35 = .ok (.iaload, 1) := by decide +kernel
theorem dX7_mixTable_36 : decode cX7_mixTable 36 = .ok (.if_icmp .ge 21, 3) := by decide +kernel
theorem dX7_mixTable_39 : decode cX7_mixTable 39 = .ok (.aload_n 0, 1) := by decide +kernel
theorem dX7_mixTable_40 : decode cX7_mixTable 40 = .ok (.aload_n 0, 1) := by decide +kernel
theorem dX7_mixTable_41 : decode cX7_mixTable 41 = .ok (.iconst 0, 1) := by decide +kernel
theorem dX7_mixTable_42 : decode cX7_mixTable 42 = .ok (.iload_n 1, 1) := by decide +kernel
theorem dX7_mixTable_43 : decode cX7_mixTable 43 = .ok (.iload_n 2, 1) := by decide +kernel
theorem dX7_mixTable_44 : decode cX7_mixTable 44 = .ok (.invokevirtual 35, 3) := by decide +kernel
theorem dX7_mixTable_47 : decode cX7_mixTable 47 = .ok (.i2l, 1) := by decide +kernel
theorem dX7_mixTable_48 : decode cX7_mixTable 48 = .ok (.invokevirtual 204, 3) := by decide +kernel
theorem dX7_mixTable_51 : decode cX7_mixTable 51 = .ok (.iinc 2 1, 3) := by decide +kernel
theorem dX7_mixTable_54 : decode cX7_mixTable 54 = .ok (.goto (-28), 3) := by decide +kernel
theorem dX7_mixTable_57 : decode cX7_mixTable 57 = .ok (.iconst 0, 1) := by decide +kernel
theorem dX7_mixTable_58 : decode cX7_mixTable 58 = .ok (.istore_n 2, 1) := by decide +kernel
theorem dX7_mixTable_59 : decode cX7_mixTable 59 = .ok (.aload_n 0, 1) := by decide +kernel
theorem dX7_mixTable_60 : decode cX7_mixTable 60 = .ok (.iload_n 1, 1) := by decide +kernel
theorem dX7_mixTable_61 : decode cX7_mixTable 61 = .ok (.iload_n 2, 1) := by decide +kernel
theorem dX7_mixTable_62 : decode cX7_mixTable 62 = .ok (.invokevirtual 158, 3) := by decide +kernel
theorem dX7_mixTable_65 : decode cX7_mixTable 65 = .ok (.iconst (-1), 1) := by decide +kernel
theorem dX7_mixTable_66 : decode cX7_mixTable 66 = .ok (.if_icmp .eq 20, 3) := by decide +kernel
theorem dX7_mixTable_69 : decode cX7_mixTable 69 = .ok (.aload_n 0, 1) := by decide +kernel
theorem dX7_mixTable_70 : decode cX7_mixTable 70 = .ok (.aload_n 0, 1) := by decide +kernel
theorem dX7_mixTable_71 : decode cX7_mixTable 71 = .ok (.iload_n 1, 1) := by decide +kernel
theorem dX7_mixTable_72 : decode cX7_mixTable 72 = .ok (.iload_n 2, 1) := by decide +kernel
theorem dX7_mixTable_73 : decode cX7_mixTable 73 = .ok (.invokevirtual 158, 3) := by decide +kernel
theorem dX7_mixTable_76 : decode cX7_mixTable 76 = .ok (.i2l, 1) := by decide +kernel
theorem dX7_mixTable_77 : decode cX7_mixTable 77 = .ok (.invokevirtual 204, 3) := by decide +kernel
theorem dX7_mixTable_80 : decode cX7_mixTable 80 = .ok (.iinc 2 1, 3) := by decide +kernel
theorem dX7_mixTable_83 : decode cX7_mixTable 83 = .ok (.goto (-24), 3) := by decide +kernel
theorem dX7_mixTable_86 : decode cX7_mixTable 86 = .ok (.return_, 1) := by decide +kernel
set_option maxRecDepth 20000 in
theorem ggX7_digest_X7_counted : GoodIn wsX7_digest wsX7_counted := goodIn_r _ [11, 4, 12, 13, 14, 15, 10, 16, 17, 18, 19, 20, 21, 22, 23, 24, 25, 26, 27, 28, 29, 30, 31, 32, 33, 34, 35, 131, 132, 133, 134, 135, 136, 137, 138, 139, 140, 141, 142] (by decide +kernel) (by decide +kernel)
set_option maxRecDepth 20000 in
theorem gX7_digest_X7_counted : GoodIn wsX7_digest (wsV RX7 174 RX7 yX7_counted wsX7_counted) := goodIn_app (goodIn_of _ (by decide +kernel)) ggX7_digest_X7_counted
set_option maxRecDepth 20000 in
theorem ggX7_digest_X7_mix : GoodIn wsX7_digest wsX7_mix := goodIn_r _ [39, 40, 3, 131, 132, 133, 134, 135, 136, 137, 138, 139, 140, 141, 142] (by decide +kernel) (by decide +kernel)
set_option maxRecDepth 20000 in
theorem gX7_digest_X7_mix : GoodIn wsX7_digest (wsV RX7 204 RX7 yX7_mix wsX7_mix) := goodIn_app (goodIn_of _ (by decide +kernel)) ggX7_digest_X7_mix
set_option maxRecDepth 20000 in
theorem ggX7_digest_X7_ofGuest : GoodIn wsX7_digest wsX7_ofGuest := goodIn_r _ [44, 17, 18, 19, 10, 20, 4, 25, 26, 27, 28, 21, 22, 23, 24, 29, 30, 31, 131, 132, 133, 134, 135, 136, 137, 138, 139, 140, 141, 142] (by decide +kernel) (by decide +kernel)
set_option maxRecDepth 20000 in
theorem gX7_digest_X7_ofGuest : GoodIn wsX7_digest (wsV RX7 164 RX7 yX7_ofGuest wsX7_ofGuest) := goodIn_app (goodIn_of _ (by decide +kernel)) ggX7_digest_X7_ofGuest
set_option maxRecDepth 20000 in
theorem ggX7_digest_X7_best : GoodIn wsX7_digest wsX7_best := goodIn_r _ [48, 4, 49, 50, 51, 10, 52, 53, 54, 55, 56, 17, 18, 19, 20, 29, 30, 31, 57, 58, 59, 60, 61, 62, 63, 64, 65, 66, 67, 68, 69, 70, 71, 13, 14, 15, 16, 21, 22, 23, 24, 25, 26, 27, 28, 131, 132, 133, 134, 135, 136, 137, 138, 139, 140, 141, 142] (by decide +kernel) (by decide +kernel)
set_option maxRecDepth 20000 in
theorem gX7_digest_X7_best : GoodIn wsX7_digest (wsV RX7 72 RX7 yX7_best wsX7_best) := goodIn_app (goodIn_of _ (by decide +kernel)) ggX7_digest_X7_best
set_option maxRecDepth 20000 in
theorem ggX7_digest_X7_mixTable : GoodIn wsX7_digest wsX7_mixTable := goodIn_r _ [75, 4, 76, 77, 78, 10, 79, 53, 54, 55, 56, 17, 18, 19, 20, 29, 30, 31, 13, 14, 15, 16, 21, 22, 23, 24, 25, 26, 27, 28, 36, 37, 38, 39, 40, 3, 80, 81, 82, 83, 131, 132, 133, 134, 135, 136, 137, 138, 139, 140, 141, 142] (by decide +kernel) (by decide +kernel)
set_option maxRecDepth 20000 in
theorem gX7_digest_X7_mixTable : GoodIn wsX7_digest (wsV RX7 210 RX7 yX7_mixTable wsX7_mixTable) := goodIn_app (goodIn_of _ (by decide +kernel)) ggX7_digest_X7_mixTable
set_option maxRecDepth 20000 in
theorem ggX7_digest_X7_standing : GoodIn wsX7_digest wsX7_standing := goodIn_r _ [87, 57, 58, 10, 59, 60, 61, 62, 63, 4, 88, 89, 90, 91, 92, 93, 94, 95, 96, 97, 98, 99, 17, 18, 19, 20, 131, 132, 133, 134, 135, 136, 137, 138, 139, 140, 141, 142] (by decide +kernel) (by decide +kernel)
set_option maxRecDepth 20000 in
theorem gX7_digest_X7_standing : GoodIn wsX7_digest (wsV RX7 180 RX7 yX7_standing wsX7_standing) := goodIn_app (goodIn_of _ (by decide +kernel)) ggX7_digest_X7_standing
set_option maxRecDepth 20000 in
theorem ggX7_digest_X7_seatedIf : GoodIn wsX7_digest wsX7_seatedIf := goodIn_r _ [103, 104, 105, 106, 10, 107, 4, 108, 109, 110, 111, 17, 18, 19, 20, 45, 46, 47, 48, 49, 50, 51, 52, 53, 54, 55, 56, 29, 30, 31, 57, 58, 59, 60, 61, 62, 63, 64, 65, 66, 67, 68, 69, 70, 71, 13, 14, 15, 16, 21, 22, 23, 24, 25, 26, 27, 28, 112, 113, 114, 115, 116, 117, 118, 119, 131, 132, 133, 134, 135, 136, 137, 138, 139, 140, 141, 142] (by decide +kernel) (by decide +kernel)
set_option maxRecDepth 20000 in
theorem gX7_digest_X7_seatedIf : GoodIn wsX7_digest (wsV RX7 183 RX7 yX7_seatedIf wsX7_seatedIf) := goodIn_app (goodIn_of _ (by decide +kernel)) ggX7_digest_X7_seatedIf
set_option maxRecDepth 20000 in
theorem ggX7_digest_X7_share : GoodIn wsX7_digest wsX7_share := goodIn_r _ [123, 32, 33, 34, 10, 35, 4, 25, 26, 27, 28, 17, 18, 19, 20, 131, 132, 133, 134, 135, 136, 137, 138, 139, 140, 141, 142] (by decide +kernel) (by decide +kernel)
set_option maxRecDepth 20000 in
theorem gX7_digest_X7_share : GoodIn wsX7_digest (wsV RX7 186 RX7 yX7_share wsX7_share) := goodIn_app (goodIn_of _ (by decide +kernel)) ggX7_digest_X7_share
set_option maxRecDepth 20000 in
theorem ggX7_digest_X7_bits : GoodIn wsX7_digest wsX7_bits := goodIn_r _ [126, 127, 128, 129, 130] (by decide +kernel) (by decide +kernel)
set_option maxRecDepth 20000 in
theorem gX7_digest_X7_bits : GoodIn wsX7_digest (va_wsS RX7 214 yX7_bits wsX7_bits) := goodIn_app (goodIn_of _ (by decide +kernel)) ggX7_digest_X7_bits
theorem dX7_digest_0 : decode cX7_digest 0 = .ok (.aload_n 0, 1) := by decide +kernel
theorem dX7_digest_1 : decode cX7_digest 1 = .ok (.iconst 0, 1) := by decide +kernel
theorem dX7_digest_2 : decode cX7_digest 2 = .ok (.putfield 16, 3) := by decide +kernel
theorem dX7_digest_5 : decode cX7_digest 5 = .ok (.aload_n 0, 1) := by decide +kernel
theorem dX7_digest_6 : decode cX7_digest 6 = .ok (.ldc2_w 208, 3) := by decide +kernel
theorem dX7_digest_9 : decode cX7_digest 9 = .ok (.putfield 192, 3) := by decide +kernel
theorem dX7_digest_12 : decode cX7_digest 12 = .ok (.iconst 0, 1) := by decide +kernel
theorem dX7_digest_13 : decode cX7_digest 13 = .ok (.istore_n 1, 1) := by decide +kernel
theorem dX7_digest_14 : decode cX7_digest 14 = .ok (.iload_n 1, 1) := by decide +kernel
theorem dX7_digest_15 : decode cX7_digest 15 = .ok (.bipush 14, 2) := by decide +kernel
theorem dX7_digest_17 : decode cX7_digest 17 = .ok (.if_icmp .ge 19, 3) := by decide +kernel
theorem dX7_digest_20 : decode cX7_digest 20 = .ok (.aload_n 0, 1) := by decide +kernel
theorem dX7_digest_21 : decode cX7_digest 21 = .ok (.aload_n 0, 1) := by decide +kernel
theorem dX7_digest_22 : decode cX7_digest 22 = .ok (.iload_n 1, 1) := by decide +kernel
theorem dX7_digest_23 : decode cX7_digest 23 = .ok (.invokevirtual 174, 3) := by decide +kernel
theorem dX7_digest_26 : decode cX7_digest 26 = .ok (.i2l, 1) := by decide +kernel
theorem dX7_digest_27 : decode cX7_digest 27 = .ok (.invokevirtual 204, 3) := by decide +kernel
theorem dX7_digest_30 : decode cX7_digest 30 = .ok (.iinc 1 1, 3) := by decide +kernel
theorem dX7_digest_33 : decode cX7_digest 33 = .ok (.goto (-19), 3) := by decide +kernel
theorem dX7_digest_36 : decode cX7_digest 36 = .ok (.iconst 0, 1) := by decide +kernel
theorem dX7_digest_37 : decode cX7_digest 37 = .ok (.istore_n 1, 1) := by decide +kernel
theorem dX7_digest_38 : decode cX7_digest 38 = .ok (.iload_n 1, 1) := by decide +kernel
theorem dX7_digest_39 : decode cX7_digest 39 = .ok (.aload_n 0, 1) := by decide +kernel
theorem dX7_digest_40 : decode cX7_digest 40 = .ok (.getfield 7, 3) := by decide +kernel
theorem dX7_digest_43 : decode cX7_digest 43 = .ok (.iconst 0, 1) := by decide +kernel
theorem dX7_digest_44 : decode cX7_digest 44 = .ok (.iaload, 1) := by decide +kernel
theorem dX7_digest_45 : decode cX7_digest 45 = .ok (.if_icmp .ge 45, 3) := by decide +kernel
theorem dX7_digest_48 : decode cX7_digest 48 = .ok (.iconst 0, 1) := by decide +kernel
theorem dX7_digest_49 : decode cX7_digest 49 = .ok (.istore_n 2, 1) := by decide +kernel
theorem dX7_digest_50 : decode cX7_digest 50 = .ok (.iload_n 2, 1) := by decide +kernel
theorem dX7_digest_51 : decode cX7_digest 51 = .ok (.bipush 7, 2) := by decide +kernel
theorem dX7_digest_53 : decode cX7_digest 53 = .ok (.if_icmp .ge 20, 3) := by decide +kernel
theorem dX7_digest_56 : decode cX7_digest 56 = .ok (.aload_n 0, 1) := by decide +kernel
theorem dX7_digest_57 : decode cX7_digest 57 = .ok (.aload_n 0, 1) := by decide +kernel
theorem dX7_digest_58 : decode cX7_digest 58 = .ok (.iload_n 1, 1) := by decide +kernel
theorem dX7_digest_59 : decode cX7_digest 59 = .ok (.iload_n 2, 1) := by decide +kernel
theorem dX7_digest_60 : decode cX7_digest 60 = .ok (.invokevirtual 164, 3) := by decide +kernel
theorem dX7_digest_63 : decode cX7_digest 63 = .ok (.i2l, 1) := by decide +kernel
theorem dX7_digest_64 : decode cX7_digest 64 = .ok (.invokevirtual 204, 3) := by decide +kernel
theorem dX7_digest_67 : decode cX7_digest 67 = .ok (.iinc 2 1, 3) := by decide +kernel
theorem dX7_digest_70 : decode cX7_digest 70 = .ok (.goto (-20), 3) := by decide +kernel
theorem dX7_digest_73 : decode cX7_digest 73 = .ok (.aload_n 0, 1) := by decide +kernel
theorem dX7_digest_74 : decode cX7_digest 74 = .ok (.aload_n 0, 1) := by decide +kernel
theorem dX7_digest_75 : decode cX7_digest 75 = .ok (.iconst 0, 1) := by decide +kernel
theorem dX7_digest_76 : decode cX7_digest 76 = .ok (.iload_n 1, 1) := by decide +kernel
theorem dX7_digest_77 : decode cX7_digest 77 = .ok (.invokevirtual 72, 3) := by decide +kernel
theorem dX7_digest_80 : decode cX7_digest 80 = .ok (.i2l, 1) := by decide +kernel
theorem dX7_digest_81 : decode cX7_digest 81 = .ok (.invokevirtual 204, 3) := by decide +kernel
theorem dX7_digest_84 : decode cX7_digest 84 = .ok (.iinc 1 1, 3) := by decide +kernel
theorem dX7_digest_87 : decode cX7_digest 87 = .ok (.goto (-49), 3) := by decide +kernel
theorem dX7_digest_90 : decode cX7_digest 90 = .ok (.iconst 0, 1) := by decide +kernel
theorem dX7_digest_91 : decode cX7_digest 91 = .ok (.istore_n 1, 1) := by decide +kernel
theorem dX7_digest_92 : decode cX7_digest 92 = .ok (.iload_n 1, 1) := by decide +kernel
theorem dX7_digest_93 : decode cX7_digest 93 = .ok (.aload_n 0, 1) := by decide +kernel
theorem dX7_digest_94 : decode cX7_digest 94 = .ok (.getfield 7, 3) := by decide +kernel
theorem dX7_digest_97 : decode cX7_digest 97 = .ok (.iconst 1, 1) := by decide +kernel
theorem dX7_digest_98 : decode cX7_digest 98 = .ok (.iaload, 1) := by decide +kernel
theorem dX7_digest_99 : decode cX7_digest 99 = .ok (.if_icmp .ge 14, 3) := by decide +kernel
theorem dX7_digest_102 : decode cX7_digest 102 = .ok (.aload_n 0, 1) := by decide +kernel
theorem dX7_digest_103 : decode cX7_digest 103 = .ok (.iload_n 1, 1) := by decide +kernel
theorem dX7_digest_104 : decode cX7_digest 104 = .ok (.invokevirtual 210, 3) := by decide +kernel
theorem dX7_digest_107 : decode cX7_digest 107 = .ok (.iinc 1 1, 3) := by decide +kernel
theorem dX7_digest_110 : decode cX7_digest 110 = .ok (.goto (-18), 3) := by decide +kernel
theorem dX7_digest_113 : decode cX7_digest 113 = .ok (.iconst 0, 1) := by decide +kernel
theorem dX7_digest_114 : decode cX7_digest 114 = .ok (.istore_n 1, 1) := by decide +kernel
theorem dX7_digest_115 : decode cX7_digest 115 = .ok (.iload_n 1, 1) := by decide +kernel
theorem dX7_digest_116 : decode cX7_digest 116 = .ok (.aload_n 0, 1) := by decide +kernel
theorem dX7_digest_117 : decode cX7_digest 117 = .ok (.getfield 7, 3) := by decide +kernel
theorem dX7_digest_120 : decode cX7_digest 120 = .ok (.iconst 3, 1) := by decide +kernel
theorem dX7_digest_121 : decode cX7_digest 121 = .ok (.iaload, 1) := by decide +kernel
theorem dX7_digest_122 : decode cX7_digest 122 = .ok (.if_icmp .ge 23, 3) := by decide +kernel
theorem dX7_digest_125 : decode cX7_digest 125 = .ok (.aload_n 0, 1) := by decide +kernel
theorem dX7_digest_126 : decode cX7_digest 126 = .ok (.aload_n 0, 1) := by decide +kernel
theorem dX7_digest_127 : decode cX7_digest 127 = .ok (.getfield 7, 3) := by decide +kernel
theorem dX7_digest_130 : decode cX7_digest 130 = .ok (.bipush 22, 2) := by decide +kernel
theorem dX7_digest_132 : decode cX7_digest 132 = .ok (.iload_n 1, 1) := by decide +kernel
theorem dX7_digest_133 : decode cX7_digest 133 = .ok (.iadd, 1) := by decide +kernel
theorem dX7_digest_134 : decode cX7_digest 134 = .ok (.iaload, 1) := by decide +kernel
theorem dX7_digest_135 : decode cX7_digest 135 = .ok (.i2l, 1) := by decide +kernel
theorem dX7_digest_136 : decode cX7_digest 136 = .ok (.invokevirtual 204, 3) := by decide +kernel
theorem dX7_digest_139 : decode cX7_digest 139 = .ok (.iinc 1 1, 3) := by decide +kernel
theorem dX7_digest_142 : decode cX7_digest 142 = .ok (.goto (-27), 3) := by decide +kernel
theorem dX7_digest_145 : decode cX7_digest 145 = .ok (.iconst 0, 1) := by decide +kernel
theorem dX7_digest_146 : decode cX7_digest 146 = .ok (.istore_n 1, 1) := by decide +kernel
theorem dX7_digest_147 : decode cX7_digest 147 = .ok (.iload_n 1, 1) := by decide +kernel
theorem dX7_digest_148 : decode cX7_digest 148 = .ok (.aload_n 0, 1) := by decide +kernel
theorem dX7_digest_149 : decode cX7_digest 149 = .ok (.getfield 7, 3) := by decide +kernel
theorem dX7_digest_152 : decode cX7_digest 152 = .ok (.iconst 2, 1) := by decide +kernel
theorem dX7_digest_153 : decode cX7_digest 153 = .ok (.iaload, 1) := by decide +kernel
theorem dX7_digest_154 : decode cX7_digest 154 = .ok (.if_icmp .ge 23, 3) := by decide +kernel
theorem dX7_digest_157 : decode cX7_digest 157 = .ok (.aload_n 0, 1) := by decide +kernel
theorem dX7_digest_158 : decode cX7_digest 158 = .ok (.aload_n 0, 1) := by decide +kernel
theorem dX7_digest_159 : decode cX7_digest 159 = .ok (.getfield 7, 3) := by decide +kernel
theorem dX7_digest_162 : decode cX7_digest 162 = .ok (.bipush 10, 2) := by decide +kernel
theorem dX7_digest_164 : decode cX7_digest 164 = .ok (.iload_n 1, 1) := by decide +kernel
theorem dX7_digest_165 : decode cX7_digest 165 = .ok (.iadd, 1) := by decide +kernel
theorem dX7_digest_166 : decode cX7_digest 166 = .ok (.iaload, 1) := by decide +kernel
theorem dX7_digest_167 : decode cX7_digest 167 = .ok (.i2l, 1) := by decide +kernel
theorem dX7_digest_168 : decode cX7_digest 168 = .ok (.invokevirtual 204, 3) := by decide +kernel
theorem dX7_digest_171 : decode cX7_digest 171 = .ok (.iinc 1 1, 3) := by decide +kernel
theorem dX7_digest_174 : decode cX7_digest 174 = .ok (.goto (-27), 3) := by decide +kernel
theorem dX7_digest_177 : decode cX7_digest 177 = .ok (.aload_n 0, 1) := by decide +kernel
theorem dX7_digest_178 : decode cX7_digest 178 = .ok (.aload_n 0, 1) := by decide +kernel
theorem dX7_digest_179 : decode cX7_digest 179 = .ok (.iconst 0, 1) := by decide +kernel
theorem dX7_digest_180 : decode cX7_digest 180 = .ok (.iconst 1, 1) := by decide +kernel
theorem dX7_digest_181 : decode cX7_digest 181 = .ok (.invokevirtual 180, 3) := by decide +kernel
theorem dX7_digest_184 : decode cX7_digest 184 = .ok (.i2l, 1) := by decide +kernel
theorem dX7_digest_185 : decode cX7_digest 185 = .ok (.invokevirtual 204, 3) := by decide +kernel
theorem dX7_digest_188 : decode cX7_digest 188 = .ok (.aload_n 0, 1) := by decide +kernel
theorem dX7_digest_189 : decode cX7_digest 189 = .ok (.aload_n 0, 1) := by decide +kernel
theorem dX7_digest_190 : decode cX7_digest 190 = .ok (.iconst 2, 1) := by decide +kernel
theorem dX7_digest_191 : decode cX7_digest 191 = .ok (.iconst 3, 1) := by decide +kernel
theorem dX7_digest_192 : decode cX7_digest 192 = .ok (.invokevirtual 180, 3) := by decide +kernel
theorem dX7_digest_195 : decode cX7_digest 195 = .ok (.i2l, 1) := by decide +kernel
theorem dX7_digest_196 : decode cX7_digest 196 = .ok (.invokevirtual 204, 3) := by decide +kernel
theorem dX7_digest_199 : decode cX7_digest 199 = .ok (.aload_n 0, 1) := by decide +kernel
theorem dX7_digest_200 : decode cX7_digest 200 = .ok (.aload_n 0, 1) := by decide +kernel
theorem dX7_digest_201 : decode cX7_digest 201 = .ok (.iconst 0, 1) := by decide +kernel
theorem dX7_digest_202 : decode cX7_digest 202 = .ok (.invokevirtual 183, 3) := by decide +kernel
theorem dX7_digest_205 : decode cX7_digest 205 = .ok (.i2l, 1) := by decide +kernel
theorem dX7_digest_206 : decode cX7_digest 206 = .ok (.invokevirtual 204, 3) := by decide +kernel
theorem dX7_digest_209 : decode cX7_digest 209 = .ok (.aload_n 0, 1) := by decide +kernel
theorem dX7_digest_210 : decode cX7_digest 210 = .ok (.aload_n 0, 1) := by decide +kernel
theorem dX7_digest_211 : decode cX7_digest 211 = .ok (.iconst 1, 1) := by decide +kernel
theorem dX7_digest_212 : decode cX7_digest 212 = .ok (.invokevirtual 183, 3) := by decide +kernel
theorem dX7_digest_215 : decode cX7_digest 215 = .ok (.i2l, 1) := by decide +kernel
theorem dX7_digest_216 : decode cX7_digest 216 = .ok (.invokevirtual 204, 3) := by decide +kernel
theorem dX7_digest_219 : decode cX7_digest 219 = .ok (.aload_n 0, 1) := by decide +kernel
theorem dX7_digest_220 : decode cX7_digest 220 = .ok (.aload_n 0, 1) := by decide +kernel
theorem dX7_digest_221 : decode cX7_digest 221 = .ok (.invokevirtual 186, 3) := by decide +kernel
theorem dX7_digest_224 : decode cX7_digest 224 = .ok (.invokestatic 214, 3) := by decide +kernel
theorem dX7_digest_227 : decode cX7_digest 227 = .ok (.invokevirtual 204, 3) := by decide +kernel
theorem dX7_digest_230 : decode cX7_digest 230 = .ok (.aload_n 0, 1) := by decide +kernel
theorem dX7_digest_231 : decode cX7_digest 231 = .ok (.aload_n 0, 1) := by decide +kernel
theorem dX7_digest_232 : decode cX7_digest 232 = .ok (.getfield 116, 3) := by decide +kernel
theorem dX7_digest_235 : decode cX7_digest 235 = .ok (.i2l, 1) := by decide +kernel
theorem dX7_digest_236 : decode cX7_digest 236 = .ok (.invokevirtual 204, 3) := by decide +kernel
theorem dX7_digest_239 : decode cX7_digest 239 = .ok (.iconst 0, 1) := by decide +kernel
theorem dX7_digest_240 : decode cX7_digest 240 = .ok (.istore_n 1, 1) := by decide +kernel
theorem dX7_digest_241 : decode cX7_digest 241 = .ok (.iload_n 1, 1) := by decide +kernel
theorem dX7_digest_242 : decode cX7_digest 242 = .ok (.aload_n 0, 1) := by decide +kernel
theorem dX7_digest_243 : decode cX7_digest 243 = .ok (.getfield 116, 3) := by decide +kernel
theorem dX7_digest_246 : decode cX7_digest 246 = .ok (.if_icmp .ge 20, 3) := by decide +kernel
theorem dX7_digest_249 : decode cX7_digest 249 = .ok (.aload_n 0, 1) := by decide +kernel
theorem dX7_digest_250 : decode cX7_digest 250 = .ok (.aload_n 0, 1) := by decide +kernel
theorem dX7_digest_251 : decode cX7_digest 251 = .ok (.getfield 13, 3) := by decide +kernel
theorem dX7_digest_254 : decode cX7_digest 254 = .ok (.iload_n 1, 1) := by decide +kernel
theorem dX7_digest_255 : decode cX7_digest 255 = .ok (.iaload, 1) := by decide +kernel
theorem dX7_digest_256 : decode cX7_digest 256 = .ok (.i2l, 1) := by decide +kernel
theorem dX7_digest_257 : decode cX7_digest 257 = .ok (.invokevirtual 204, 3) := by decide +kernel
theorem dX7_digest_260 : decode cX7_digest 260 = .ok (.iinc 1 1, 3) := by decide +kernel
theorem dX7_digest_263 : decode cX7_digest 263 = .ok (.goto (-22), 3) := by decide +kernel
theorem dX7_digest_266 : decode cX7_digest 266 = .ok (.aload_n 0, 1) := by decide +kernel
theorem dX7_digest_267 : decode cX7_digest 267 = .ok (.getfield 192, 3) := by decide +kernel
theorem dX7_digest_270 : decode cX7_digest 270 = .ok (.lreturn, 1) := by decide +kernel
theorem dJ9_abs_0f7a4_0 : decode cJ9_abs_0f7a4 0 = .ok (.iload_n 0, 1) := by decide +kernel
theorem dJ9_abs_0f7a4_1 : decode cJ9_abs_0f7a4 1 = .ok (.ifCond .ge 8, 3) := by decide +kernel
theorem dJ9_abs_0f7a4_4 : decode cJ9_abs_0f7a4 4 = .ok (.iload_n 0, 1) := by decide +kernel
theorem dJ9_abs_0f7a4_5 : decode cJ9_abs_0f7a4 5 = .ok (.ineg, 1) := by decide +kernel
theorem dJ9_abs_0f7a4_6 : decode cJ9_abs_0f7a4 6 = .ok (.goto 4, 3) := by decide +kernel
theorem dJ9_abs_0f7a4_9 : decode cJ9_abs_0f7a4 9 = .ok (.iload_n 0, 1) := by decide +kernel
theorem dJ9_abs_0f7a4_10 : decode cJ9_abs_0f7a4 10 = .ok (.ireturn, 1) := by decide +kernel
theorem dJ9_max_7cf53_0 : decode cJ9_max_7cf53 0 = .ok (.iload_n 0, 1) := by decide +kernel
theorem dJ9_max_7cf53_1 : decode cJ9_max_7cf53 1 = .ok (.iload_n 1, 1) := by decide +kernel
theorem dJ9_max_7cf53_2 : decode cJ9_max_7cf53 2 = .ok (.if_icmp .lt 7, 3) := by decide +kernel
theorem dJ9_max_7cf53_5 : decode cJ9_max_7cf53 5 = .ok (.iload_n 0, 1) := by decide +kernel
theorem dJ9_max_7cf53_6 : decode cJ9_max_7cf53 6 = .ok (.goto 4, 3) := by decide +kernel
theorem dJ9_max_7cf53_9 : decode cJ9_max_7cf53 9 = .ok (.iload_n 1, 1) := by decide +kernel
theorem dJ9_max_7cf53_10 : decode cJ9_max_7cf53 10 = .ok (.ireturn, 1) := by decide +kernel
theorem dJ9_min_7cf53_0 : decode cJ9_min_7cf53 0 = .ok (.iload_n 0, 1) := by decide +kernel
theorem dJ9_min_7cf53_1 : decode cJ9_min_7cf53 1 = .ok (.iload_n 1, 1) := by decide +kernel
theorem dJ9_min_7cf53_2 : decode cJ9_min_7cf53 2 = .ok (.if_icmp .gt 7, 3) := by decide +kernel
theorem dJ9_min_7cf53_5 : decode cJ9_min_7cf53 5 = .ok (.iload_n 0, 1) := by decide +kernel
theorem dJ9_min_7cf53_6 : decode cJ9_min_7cf53 6 = .ok (.goto 4, 3) := by decide +kernel
theorem dJ9_min_7cf53_9 : decode cJ9_min_7cf53 9 = .ok (.iload_n 1, 1) := by decide +kernel
theorem dJ9_min_7cf53_10 : decode cJ9_min_7cf53 10 = .ok (.ireturn, 1) := by decide +kernel
set_option maxRecDepth 20000 in
theorem ggL_guest_X6_guest : GoodIn wsL_guest wsX6_guest := goodIn_ca (goodIn_ca (goodIn_r _ [7, 8, 9, 10, 11, 12, 13, 14, 15, 6, 16, 17, 18, 19, 20, 21, 22, 23, 24, 25, 26, 27, 28, 29, 30, 31, 32, 33, 34, 35, 36, 37, 38, 39, 40, 41, 42, 43, 44, 45, 46, 47, 48, 49, 50, 51, 52, 53, 54, 55, 56, 57, 58, 59, 60, 61, 62, 63, 64, 65, 66, 67, 68, 69, 70, 71, 72, 73, 74, 75, 76, 77, 78, 79, 80, 81, 82, 83, 84, 85, 86, 87, 88, 89, 90, 91, 92, 93, 94, 95] (by decide +kernel) (by decide +kernel)) (goodIn_sub (fun _ h => List.mem_cons_of_mem _ (List.mem_append_left _ (List.mem_append_right _ h))) (by decide +kernel))) (goodIn_sub (fun _ h => List.mem_cons_of_mem _ (List.mem_append_right _ h)) (by decide +kernel))
set_option maxRecDepth 20000 in
theorem gL_guest_X6_guest : GoodIn wsL_guest (wsV RL 7 RX6 yX6_guest wsX6_guest) := goodIn_app (goodIn_of _ (by decide +kernel)) ggL_guest_X6_guest
theorem dL_guest_0 : decode cL_guest 0 = .ok (.aload_n 3, 1) := by decide +kernel
theorem dL_guest_1 : decode cL_guest 1 = .ok (.iconst 0, 1) := by decide +kernel
theorem dL_guest_2 : decode cL_guest 2 = .ok (.aload_n 0, 1) := by decide +kernel
theorem dL_guest_3 : decode cL_guest 3 = .ok (.iload_n 1, 1) := by decide +kernel
theorem dL_guest_4 : decode cL_guest 4 = .ok (.iload_n 2, 1) := by decide +kernel
theorem dL_guest_5 : decode cL_guest 5 = .ok (.invokevirtual 7, 3) := by decide +kernel
theorem dL_guest_8 : decode cL_guest 8 = .ok (.i2l, 1) := by decide +kernel
theorem dL_guest_9 : decode cL_guest 9 = .ok (.lastore, 1) := by decide +kernel
theorem dL_guest_10 : decode cL_guest 10 = .ok (.goto 11, 3) := by decide +kernel
theorem dL_guest_13 : decode cL_guest 13 = .ok (.astore 4, 2) := by decide +kernel
theorem dL_guest_15 : decode cL_guest 15 = .ok (.iconst 1, 1) := by decide +kernel
theorem dL_guest_16 : decode cL_guest 16 = .ok (.ireturn, 1) := by decide +kernel
theorem dL_guest_17 : decode cL_guest 17 = .ok (.astore 4, 2) := by decide +kernel
theorem dL_guest_19 : decode cL_guest 19 = .ok (.iconst 2, 1) := by decide +kernel
theorem dL_guest_20 : decode cL_guest 20 = .ok (.ireturn, 1) := by decide +kernel
theorem dL_guest_21 : decode cL_guest 21 = .ok (.iconst 0, 1) := by decide +kernel
theorem dL_guest_22 : decode cL_guest 22 = .ok (.ireturn, 1) := by decide +kernel
set_option maxRecDepth 20000 in
theorem ggL_wish_X6_wish : GoodIn wsL_wish wsX6_wish := goodIn_ca (goodIn_ca (goodIn_r _ [7, 8, 9, 10, 11, 12, 13, 14, 6, 15, 16, 17, 18, 19, 20, 21, 22, 23, 24, 25, 26, 27, 28, 29, 30, 31, 32, 33, 34, 35, 36, 37, 38, 39, 40, 41, 42, 43, 44, 45, 46, 47, 48, 49, 50, 51, 52, 53, 54, 55, 56, 57, 58, 59, 60, 61, 62, 63, 64, 65, 66, 67, 68, 69, 70, 71, 72, 73, 74, 75, 76, 77, 78, 79, 80, 81, 82, 83, 84, 85, 86, 87, 88, 89, 90, 91, 92, 93, 94, 95, 96, 97, 98, 99] (by decide +kernel) (by decide +kernel)) (goodIn_sub (fun _ h => List.mem_cons_of_mem _ (List.mem_append_left _ (List.mem_append_right _ h))) (by decide +kernel))) (goodIn_sub (fun _ h => List.mem_cons_of_mem _ (List.mem_append_right _ h)) (by decide +kernel))
set_option maxRecDepth 20000 in
theorem gL_wish_X6_wish : GoodIn wsL_wish (wsV RL 17 RX6 yX6_wish wsX6_wish) := goodIn_app (goodIn_of _ (by decide +kernel)) ggL_wish_X6_wish
theorem dL_wish_0 : decode cL_wish 0 = .ok (.aload_n 3, 1) := by decide +kernel
theorem dL_wish_1 : decode cL_wish 1 = .ok (.iconst 0, 1) := by decide +kernel
theorem dL_wish_2 : decode cL_wish 2 = .ok (.aload_n 0, 1) := by decide +kernel
theorem dL_wish_3 : decode cL_wish 3 = .ok (.iload_n 1, 1) := by decide +kernel
theorem dL_wish_4 : decode cL_wish 4 = .ok (.iload_n 2, 1) := by decide +kernel
theorem dL_wish_5 : decode cL_wish 5 = .ok (.invokevirtual 17, 3) := by decide +kernel
theorem dL_wish_8 : decode cL_wish 8 = .ok (.i2l, 1) := by decide +kernel
theorem dL_wish_9 : decode cL_wish 9 = .ok (.lastore, 1) := by decide +kernel
theorem dL_wish_10 : decode cL_wish 10 = .ok (.goto 11, 3) := by decide +kernel
theorem dL_wish_13 : decode cL_wish 13 = .ok (.astore 4, 2) := by decide +kernel
theorem dL_wish_15 : decode cL_wish 15 = .ok (.iconst 1, 1) := by decide +kernel
theorem dL_wish_16 : decode cL_wish 16 = .ok (.ireturn, 1) := by decide +kernel
theorem dL_wish_17 : decode cL_wish 17 = .ok (.astore 4, 2) := by decide +kernel
theorem dL_wish_19 : decode cL_wish 19 = .ok (.iconst 2, 1) := by decide +kernel
theorem dL_wish_20 : decode cL_wish 20 = .ok (.ireturn, 1) := by decide +kernel
theorem dL_wish_21 : decode cL_wish 21 = .ok (.iconst 0, 1) := by decide +kernel
theorem dL_wish_22 : decode cL_wish 22 = .ok (.ireturn, 1) := by decide +kernel
set_option maxRecDepth 20000 in
theorem ggL_table_X6_table : GoodIn wsL_table wsX6_table := goodIn_ca (goodIn_ca (goodIn_r _ [7, 8, 9, 10, 11, 12, 13, 14, 15, 16, 17, 18, 19, 20, 21, 22, 23, 24, 25, 26, 27, 28, 29, 30, 31, 32, 33, 34, 35, 36, 37, 38, 39, 40, 41, 42, 43, 44, 45, 46, 47, 48, 49, 50, 51, 52, 53, 54, 55, 56, 57, 58, 59, 60, 61, 62, 63, 64, 65, 66, 67, 68, 69, 70, 71, 72, 73, 74, 75, 76, 77, 78, 79, 80, 81, 82, 83, 84, 85, 86, 87, 88, 89, 90, 91, 92] (by decide +kernel) (by decide +kernel)) (goodIn_sub (fun _ h => List.mem_cons_of_mem _ (List.mem_append_left _ (List.mem_append_right _ h))) (by decide +kernel))) (goodIn_sub (fun _ h => List.mem_cons_of_mem _ (List.mem_append_right _ h)) (by decide +kernel))
set_option maxRecDepth 20000 in
theorem gL_table_X6_table : GoodIn wsL_table (wsV RL 22 RX6 yX6_table wsX6_table) := goodIn_app (goodIn_of _ (by decide +kernel)) ggL_table_X6_table
theorem dL_table_0 : decode cL_table 0 = .ok (.aload_n 2, 1) := by decide +kernel
theorem dL_table_1 : decode cL_table 1 = .ok (.iconst 0, 1) := by decide +kernel
theorem dL_table_2 : decode cL_table 2 = .ok (.aload_n 0, 1) := by decide +kernel
theorem dL_table_3 : decode cL_table 3 = .ok (.iload_n 1, 1) := by decide +kernel
theorem dL_table_4 : decode cL_table 4 = .ok (.invokevirtual 22, 3) := by decide +kernel
theorem dL_table_7 : decode cL_table 7 = .ok (.i2l, 1) := by decide +kernel
theorem dL_table_8 : decode cL_table 8 = .ok (.lastore, 1) := by decide +kernel
theorem dL_table_9 : decode cL_table 9 = .ok (.goto 9, 3) := by decide +kernel
theorem dL_table_12 : decode cL_table 12 = .ok (.astore_n 3, 1) := by decide +kernel
theorem dL_table_13 : decode cL_table 13 = .ok (.iconst 1, 1) := by decide +kernel
theorem dL_table_14 : decode cL_table 14 = .ok (.ireturn, 1) := by decide +kernel
theorem dL_table_15 : decode cL_table 15 = .ok (.astore_n 3, 1) := by decide +kernel
theorem dL_table_16 : decode cL_table 16 = .ok (.iconst 2, 1) := by decide +kernel
theorem dL_table_17 : decode cL_table 17 = .ok (.ireturn, 1) := by decide +kernel
theorem dL_table_18 : decode cL_table 18 = .ok (.iconst 0, 1) := by decide +kernel
theorem dL_table_19 : decode cL_table 19 = .ok (.ireturn, 1) := by decide +kernel
set_option maxRecDepth 20000 in
theorem ggL_feud_X6_feud : GoodIn wsL_feud wsX6_feud := goodIn_ca (goodIn_ca (goodIn_r _ [7, 8, 9, 10, 11, 12, 13, 6, 14, 15, 16, 17, 18, 19, 20, 21, 22, 23, 24, 25, 26, 27, 28, 29, 30, 31, 32, 33, 34, 35, 36, 37, 38, 39, 40, 41, 42, 43, 44, 45, 46, 47, 48, 49, 50, 51, 52, 53, 54, 55, 56, 57, 58, 59, 60, 61, 62, 63, 64, 65, 66, 67, 68, 69, 70, 71, 72, 73, 74, 75, 76, 77, 78, 79, 80, 81, 82, 83, 84, 85, 86, 87, 88, 89, 90, 91, 92, 93, 94, 95, 96, 97, 98, 99, 100, 101, 102, 103, 104, 105, 106, 107, 108, 109, 110, 111, 112, 113, 114, 115, 116, 117, 118, 119, 120, 121, 122, 123, 124, 125, 126, 127, 128, 129, 130, 131, 132, 133, 134, 135, 136, 137, 138, 139, 140, 141, 142, 143, 144, 145, 146, 147, 148, 149, 150, 151, 152, 153, 154, 155, 156, 157, 158] (by decide +kernel) (by decide +kernel)) (goodIn_sub (fun _ h => List.mem_cons_of_mem _ (List.mem_append_left _ (List.mem_append_right _ h))) (by decide +kernel))) (goodIn_sub (fun _ h => List.mem_cons_of_mem _ (List.mem_append_right _ h)) (by decide +kernel))
set_option maxRecDepth 20000 in
theorem gL_feud_X6_feud : GoodIn wsL_feud (wsV RL 26 RX6 yX6_feud wsX6_feud) := goodIn_app (goodIn_of _ (by decide +kernel)) ggL_feud_X6_feud
theorem dL_feud_0 : decode cL_feud 0 = .ok (.aload_n 3, 1) := by decide +kernel
theorem dL_feud_1 : decode cL_feud 1 = .ok (.iconst 0, 1) := by decide +kernel
theorem dL_feud_2 : decode cL_feud 2 = .ok (.aload_n 0, 1) := by decide +kernel
theorem dL_feud_3 : decode cL_feud 3 = .ok (.iload_n 1, 1) := by decide +kernel
theorem dL_feud_4 : decode cL_feud 4 = .ok (.iload_n 2, 1) := by decide +kernel
theorem dL_feud_5 : decode cL_feud 5 = .ok (.invokevirtual 26, 3) := by decide +kernel
theorem dL_feud_8 : decode cL_feud 8 = .ok (.i2l, 1) := by decide +kernel
theorem dL_feud_9 : decode cL_feud 9 = .ok (.lastore, 1) := by decide +kernel
theorem dL_feud_10 : decode cL_feud 10 = .ok (.goto 11, 3) := by decide +kernel
theorem dL_feud_13 : decode cL_feud 13 = .ok (.astore 4, 2) := by decide +kernel
theorem dL_feud_15 : decode cL_feud 15 = .ok (.iconst 1, 1) := by decide +kernel
theorem dL_feud_16 : decode cL_feud 16 = .ok (.ireturn, 1) := by decide +kernel
theorem dL_feud_17 : decode cL_feud 17 = .ok (.astore 4, 2) := by decide +kernel
theorem dL_feud_19 : decode cL_feud 19 = .ok (.iconst 2, 1) := by decide +kernel
theorem dL_feud_20 : decode cL_feud 20 = .ok (.ireturn, 1) := by decide +kernel
theorem dL_feud_21 : decode cL_feud 21 = .ok (.iconst 0, 1) := by decide +kernel
theorem dL_feud_22 : decode cL_feud 22 = .ok (.ireturn, 1) := by decide +kernel
set_option maxRecDepth 20000 in
theorem ggL_peace_X6_peace : GoodIn wsL_peace wsX6_peace := goodIn_ca (goodIn_ca (goodIn_r _ [7, 8, 9, 10, 11, 12, 13, 6, 14, 15, 16, 17, 18, 19, 20, 21, 22, 23, 24, 25, 26, 27, 28, 29, 30, 31, 32, 33, 34, 35, 36, 37, 38, 39, 40, 41, 42, 43, 44, 45, 46, 47, 48, 49, 50, 51, 52, 53, 54, 55, 56, 57, 58, 59, 60, 61, 62, 63, 64, 65, 66, 67, 68, 69, 70, 71, 72, 73, 74, 75, 76, 77, 78, 79, 80, 81, 82, 83, 84, 85, 86, 87, 88, 89, 90, 91, 92, 93, 94, 95, 96, 97, 98, 99, 100, 101, 102, 103, 104, 105, 106, 107, 108, 109, 110, 111, 112, 113, 114, 115, 116, 117, 118, 119, 120, 121, 122] (by decide +kernel) (by decide +kernel)) (goodIn_sub (fun _ h => List.mem_cons_of_mem _ (List.mem_append_left _ (List.mem_append_right _ h))) (by decide +kernel))) (goodIn_sub (fun _ h => List.mem_cons_of_mem _ (List.mem_append_right _ h)) (by decide +kernel))
set_option maxRecDepth 20000 in
theorem gL_peace_X6_peace : GoodIn wsL_peace (wsV RL 29 RX6 yX6_peace wsX6_peace) := goodIn_app (goodIn_of _ (by decide +kernel)) ggL_peace_X6_peace
theorem dL_peace_0 : decode cL_peace 0 = .ok (.aload_n 3, 1) := by decide +kernel
theorem dL_peace_1 : decode cL_peace 1 = .ok (.iconst 0, 1) := by decide +kernel
theorem dL_peace_2 : decode cL_peace 2 = .ok (.aload_n 0, 1) := by decide +kernel
theorem dL_peace_3 : decode cL_peace 3 = .ok (.iload_n 1, 1) := by decide +kernel
theorem dL_peace_4 : decode cL_peace 4 = .ok (.iload_n 2, 1) := by decide +kernel
theorem dL_peace_5 : decode cL_peace 5 = .ok (.invokevirtual 29, 3) := by decide +kernel
theorem dL_peace_8 : decode cL_peace 8 = .ok (.i2l, 1) := by decide +kernel
theorem dL_peace_9 : decode cL_peace 9 = .ok (.lastore, 1) := by decide +kernel
theorem dL_peace_10 : decode cL_peace 10 = .ok (.goto 11, 3) := by decide +kernel
theorem dL_peace_13 : decode cL_peace 13 = .ok (.astore 4, 2) := by decide +kernel
theorem dL_peace_15 : decode cL_peace 15 = .ok (.iconst 1, 1) := by decide +kernel
theorem dL_peace_16 : decode cL_peace 16 = .ok (.ireturn, 1) := by decide +kernel
theorem dL_peace_17 : decode cL_peace 17 = .ok (.astore 4, 2) := by decide +kernel
theorem dL_peace_19 : decode cL_peace 19 = .ok (.iconst 2, 1) := by decide +kernel
theorem dL_peace_20 : decode cL_peace 20 = .ok (.ireturn, 1) := by decide +kernel
theorem dL_peace_21 : decode cL_peace 21 = .ok (.iconst 0, 1) := by decide +kernel
theorem dL_peace_22 : decode cL_peace 22 = .ok (.ireturn, 1) := by decide +kernel
set_option maxRecDepth 20000 in
theorem ggL_set_X6_set : GoodIn wsL_set wsX6_set := goodIn_ca (goodIn_ca (goodIn_r _ [7, 8, 9, 10, 11, 12, 13, 14, 15, 16, 17, 18, 19, 20, 21, 22, 23, 24, 25, 26, 27, 28, 29, 30, 31, 32, 33, 34, 35, 36, 37, 38, 39, 40, 41, 42, 43, 44, 45, 46, 47, 48, 49, 50, 51, 52, 53, 54, 55, 56, 57, 58, 59, 60, 61, 62, 63, 64, 65, 66, 67, 68, 69, 70, 71, 72, 73, 74, 75, 76, 77, 78, 79, 80, 81, 82, 83, 84, 85, 86, 87, 88, 89, 90, 91, 92, 93] (by decide +kernel) (by decide +kernel)) (goodIn_sub (fun _ h => List.mem_cons_of_mem _ (List.mem_append_left _ (List.mem_append_right _ h))) (by decide +kernel))) (goodIn_sub (fun _ h => List.mem_cons_of_mem _ (List.mem_append_right _ h)) (by decide +kernel))
set_option maxRecDepth 20000 in
theorem gL_set_X6_set : GoodIn wsL_set (wsV RL 32 RX6 yX6_set wsX6_set) := goodIn_app (goodIn_of _ (by decide +kernel)) ggL_set_X6_set
theorem dL_set_0 : decode cL_set 0 = .ok (.aload_n 3, 1) := by decide +kernel
theorem dL_set_1 : decode cL_set 1 = .ok (.iconst 0, 1) := by decide +kernel
theorem dL_set_2 : decode cL_set 2 = .ok (.aload_n 0, 1) := by decide +kernel
theorem dL_set_3 : decode cL_set 3 = .ok (.iload_n 1, 1) := by decide +kernel
theorem dL_set_4 : decode cL_set 4 = .ok (.iload_n 2, 1) := by decide +kernel
theorem dL_set_5 : decode cL_set 5 = .ok (.invokevirtual 32, 3) := by decide +kernel
theorem dL_set_8 : decode cL_set 8 = .ok (.i2l, 1) := by decide +kernel
theorem dL_set_9 : decode cL_set 9 = .ok (.lastore, 1) := by decide +kernel
theorem dL_set_10 : decode cL_set 10 = .ok (.goto 11, 3) := by decide +kernel
theorem dL_set_13 : decode cL_set 13 = .ok (.astore 4, 2) := by decide +kernel
theorem dL_set_15 : decode cL_set 15 = .ok (.iconst 1, 1) := by decide +kernel
theorem dL_set_16 : decode cL_set 16 = .ok (.ireturn, 1) := by decide +kernel
theorem dL_set_17 : decode cL_set 17 = .ok (.astore 4, 2) := by decide +kernel
theorem dL_set_19 : decode cL_set 19 = .ok (.iconst 2, 1) := by decide +kernel
theorem dL_set_20 : decode cL_set 20 = .ok (.ireturn, 1) := by decide +kernel
theorem dL_set_21 : decode cL_set 21 = .ok (.iconst 0, 1) := by decide +kernel
theorem dL_set_22 : decode cL_set 22 = .ok (.ireturn, 1) := by decide +kernel
set_option maxRecDepth 20000 in
theorem ggL_sit_X6_sit : GoodIn wsL_sit wsX6_sit := goodIn_ca (goodIn_ca (goodIn_r _ [7, 8, 9, 10, 11, 12, 13, 14, 6, 15, 16, 17, 18, 19, 20, 21, 22, 23, 24, 25, 26, 27, 28, 29, 30, 31, 32, 33, 34, 35, 36, 37, 38, 39, 40, 41, 42, 43, 44, 45, 46, 47, 48, 49, 50, 51, 52, 53, 54, 55, 56, 57, 58, 59, 60, 61, 62, 63, 64, 65, 66, 67, 68, 69, 70, 71, 72, 73, 74, 75, 76, 77, 78, 79, 80, 81, 82, 83, 84, 85, 86, 87, 88, 89, 90, 91, 92, 93, 94, 95, 96, 97, 98, 99, 100, 101, 102, 103, 104, 105, 106, 107, 108, 109, 110, 111, 112, 113, 114, 115, 116, 117, 118, 119, 120, 121, 122, 123, 124, 125, 126, 127, 128, 129, 130, 131, 132, 133, 134, 135, 136, 137, 138, 139, 140, 141, 142, 143, 144, 145, 146, 147, 148, 149, 150, 151, 152, 153, 154, 155, 156, 157, 158, 159, 160, 161, 162, 163, 164, 165, 166, 167, 168, 169, 170, 171, 172, 173, 174, 175, 176, 177, 178, 179, 180, 181, 182, 183, 184, 185, 186, 187, 188, 189, 190, 191, 192, 193, 194, 195, 196, 197, 198, 199, 200, 201, 202, 203] (by decide +kernel) (by decide +kernel)) (goodIn_sub (fun _ h => List.mem_cons_of_mem _ (List.mem_append_left _ (List.mem_append_right _ h))) (by decide +kernel))) (goodIn_sub (fun _ h => List.mem_cons_of_mem _ (List.mem_append_right _ h)) (by decide +kernel))
set_option maxRecDepth 20000 in
theorem gL_sit_X6_sit : GoodIn wsL_sit (wsV RL 35 RX6 yX6_sit wsX6_sit) := goodIn_app (goodIn_of _ (by decide +kernel)) ggL_sit_X6_sit
theorem dL_sit_0 : decode cL_sit 0 = .ok (.aload 4, 2) := by decide +kernel
theorem dL_sit_2 : decode cL_sit 2 = .ok (.iconst 0, 1) := by decide +kernel
theorem dL_sit_3 : decode cL_sit 3 = .ok (.aload_n 0, 1) := by decide +kernel
theorem dL_sit_4 : decode cL_sit 4 = .ok (.iload_n 1, 1) := by decide +kernel
theorem dL_sit_5 : decode cL_sit 5 = .ok (.iload_n 2, 1) := by decide +kernel
theorem dL_sit_6 : decode cL_sit 6 = .ok (.iload_n 3, 1) := by decide +kernel
theorem dL_sit_7 : decode cL_sit 7 = .ok (.invokevirtual 35, 3) := by decide +kernel
theorem dL_sit_10 : decode cL_sit 10 = .ok (.i2l, 1) := by decide +kernel
theorem dL_sit_11 : decode cL_sit 11 = .ok (.lastore, 1) := by decide +kernel
theorem dL_sit_12 : decode cL_sit 12 = .ok (.goto 11, 3) := by decide +kernel
theorem dL_sit_15 : decode cL_sit 15 = .ok (.astore 5, 2) := by decide +kernel
theorem dL_sit_17 : decode cL_sit 17 = .ok (.iconst 1, 1) := by decide +kernel
theorem dL_sit_18 : decode cL_sit 18 = .ok (.ireturn, 1) := by decide +kernel
theorem dL_sit_19 : decode cL_sit 19 = .ok (.astore 5, 2) := by decide +kernel
theorem dL_sit_21 : decode cL_sit 21 = .ok (.iconst 2, 1) := by decide +kernel
theorem dL_sit_22 : decode cL_sit 22 = .ok (.ireturn, 1) := by decide +kernel
theorem dL_sit_23 : decode cL_sit 23 = .ok (.iconst 0, 1) := by decide +kernel
theorem dL_sit_24 : decode cL_sit 24 = .ok (.ireturn, 1) := by decide +kernel
set_option maxRecDepth 20000 in
theorem ggL_rise_X6_rise : GoodIn wsL_rise wsX6_rise := goodIn_ca (goodIn_ca (goodIn_r _ [7, 8, 9, 10, 11, 12, 13, 14, 6, 15, 16, 17, 18, 19, 20, 21, 22, 23, 24, 25, 26, 27, 28, 29, 30, 31, 32, 33, 34, 35, 36, 37, 38, 39, 40, 41, 42, 43, 44, 45, 46, 47, 48, 49, 50, 51, 52, 53, 54, 55, 56, 57, 58, 59, 60, 61, 62, 63, 64, 65, 66, 67, 68, 69, 70, 71, 72, 73, 74, 75, 76, 77, 78, 79, 80, 81, 82, 83, 84, 85, 86, 87, 88, 89, 90, 91, 92, 93, 94, 95, 96, 97, 98, 99, 100, 101, 102, 103, 104, 105, 106, 107, 108, 109, 110, 111, 112, 113, 114, 115, 116, 117, 118, 119, 120, 121, 122, 123, 124, 125, 126, 127, 128, 129, 130, 131, 132, 133, 134, 135, 136, 137, 138, 139, 140, 141, 142, 143, 144, 145, 146, 147, 148] (by decide +kernel) (by decide +kernel)) (goodIn_sub (fun _ h => List.mem_cons_of_mem _ (List.mem_append_left _ (List.mem_append_right _ h))) (by decide +kernel))) (goodIn_sub (fun _ h => List.mem_cons_of_mem _ (List.mem_append_right _ h)) (by decide +kernel))
set_option maxRecDepth 20000 in
theorem gL_rise_X6_rise : GoodIn wsL_rise (wsV RL 39 RX6 yX6_rise wsX6_rise) := goodIn_app (goodIn_of _ (by decide +kernel)) ggL_rise_X6_rise
theorem dL_rise_0 : decode cL_rise 0 = .ok (.aload_n 2, 1) := by decide +kernel
theorem dL_rise_1 : decode cL_rise 1 = .ok (.iconst 0, 1) := by decide +kernel
theorem dL_rise_2 : decode cL_rise 2 = .ok (.aload_n 0, 1) := by decide +kernel
theorem dL_rise_3 : decode cL_rise 3 = .ok (.iload_n 1, 1) := by decide +kernel
theorem dL_rise_4 : decode cL_rise 4 = .ok (.invokevirtual 39, 3) := by decide +kernel
theorem dL_rise_7 : decode cL_rise 7 = .ok (.i2l, 1) := by decide +kernel
theorem dL_rise_8 : decode cL_rise 8 = .ok (.lastore, 1) := by decide +kernel
theorem dL_rise_9 : decode cL_rise 9 = .ok (.goto 9, 3) := by decide +kernel
theorem dL_rise_12 : decode cL_rise 12 = .ok (.astore_n 3, 1) := by decide +kernel
theorem dL_rise_13 : decode cL_rise 13 = .ok (.iconst 1, 1) := by decide +kernel
theorem dL_rise_14 : decode cL_rise 14 = .ok (.ireturn, 1) := by decide +kernel
theorem dL_rise_15 : decode cL_rise 15 = .ok (.astore_n 3, 1) := by decide +kernel
theorem dL_rise_16 : decode cL_rise 16 = .ok (.iconst 2, 1) := by decide +kernel
theorem dL_rise_17 : decode cL_rise 17 = .ok (.ireturn, 1) := by decide +kernel
theorem dL_rise_18 : decode cL_rise 18 = .ok (.iconst 0, 1) := by decide +kernel
theorem dL_rise_19 : decode cL_rise 19 = .ok (.ireturn, 1) := by decide +kernel
set_option maxRecDepth 20000 in
theorem ggL_swap_X6_swap : GoodIn wsL_swap wsX6_swap := goodIn_ca (goodIn_ca (goodIn_ca (goodIn_r _ [8, 9, 10, 11, 12, 13, 14, 15, 16, 17, 18, 7, 19, 20, 21, 22, 23, 24, 25, 26, 27, 28, 29, 30, 31, 32, 33, 34, 35, 36, 37, 38, 39, 40, 41, 42, 43, 44, 45, 46, 47, 48, 49, 50, 51, 52, 53, 54, 55, 56, 57, 58, 59, 60, 61, 62, 63, 64, 65, 66, 67, 68, 69, 70, 71, 72, 73, 74, 75, 76, 77, 78, 79, 80, 81, 82, 83, 84, 85, 86, 87, 88, 89, 90, 91, 92, 93, 94, 95, 96, 97, 98, 99, 100, 101, 102, 103, 104, 105, 106, 107, 108, 109, 110, 111, 112, 113, 114, 115, 116, 117, 118, 119, 120, 121, 122, 123, 124, 125, 126, 127, 128, 129, 130, 131, 132, 133, 134, 135, 136, 137, 138, 139, 140, 141, 142, 143, 144, 145, 146, 147, 148, 149, 150, 151, 152, 153, 154, 155, 156, 157, 158, 159, 160, 161, 162, 163, 164, 165, 166, 167, 168, 169, 170, 171, 172, 173, 174, 175, 176, 177, 178, 179, 180, 181, 182, 183, 184, 185, 186, 187, 188, 189, 190, 191, 192, 193, 194, 195, 196, 197, 198, 199, 200, 201, 202, 203, 204, 205, 206, 207, 208, 209] (by decide +kernel) (by decide +kernel)) (goodIn_sub (fun _ h => List.mem_cons_of_mem _ (List.mem_append_left _ (List.mem_append_left _ (List.mem_append_right _ h)))) (by decide +kernel))) (goodIn_sub (fun _ h => List.mem_cons_of_mem _ (List.mem_append_left _ (List.mem_append_right _ h))) (by decide +kernel))) (goodIn_sub (fun _ h => List.mem_cons_of_mem _ (List.mem_append_right _ h)) (by decide +kernel))
set_option maxRecDepth 20000 in
theorem gL_swap_X6_swap : GoodIn wsL_swap (wsV RL 42 RX6 yX6_swap wsX6_swap) := goodIn_app (goodIn_of _ (by decide +kernel)) ggL_swap_X6_swap
theorem dL_swap_0 : decode cL_swap 0 = .ok (.aload_n 3, 1) := by decide +kernel
theorem dL_swap_1 : decode cL_swap 1 = .ok (.iconst 0, 1) := by decide +kernel
theorem dL_swap_2 : decode cL_swap 2 = .ok (.aload_n 0, 1) := by decide +kernel
theorem dL_swap_3 : decode cL_swap 3 = .ok (.iload_n 1, 1) := by decide +kernel
theorem dL_swap_4 : decode cL_swap 4 = .ok (.iload_n 2, 1) := by decide +kernel
theorem dL_swap_5 : decode cL_swap 5 = .ok (.invokevirtual 42, 3) := by decide +kernel
theorem dL_swap_8 : decode cL_swap 8 = .ok (.i2l, 1) := by decide +kernel
theorem dL_swap_9 : decode cL_swap 9 = .ok (.lastore, 1) := by decide +kernel
theorem dL_swap_10 : decode cL_swap 10 = .ok (.goto 15, 3) := by decide +kernel
theorem dL_swap_13 : decode cL_swap 13 = .ok (.astore 4, 2) := by decide +kernel
theorem dL_swap_15 : decode cL_swap 15 = .ok (.iconst 1, 1) := by decide +kernel
theorem dL_swap_16 : decode cL_swap 16 = .ok (.ireturn, 1) := by decide +kernel
theorem dL_swap_17 : decode cL_swap 17 = .ok (.astore 4, 2) := by decide +kernel
theorem dL_swap_19 : decode cL_swap 19 = .ok (.iconst 2, 1) := by decide +kernel
theorem dL_swap_20 : decode cL_swap 20 = .ok (.ireturn, 1) := by decide +kernel
theorem dL_swap_21 : decode cL_swap 21 = .ok (.astore 4, 2) := by decide +kernel
theorem dL_swap_23 : decode cL_swap 23 = .ok (.iconst 3, 1) := by decide +kernel
theorem dL_swap_24 : decode cL_swap 24 = .ok (.ireturn, 1) := by decide +kernel
theorem dL_swap_25 : decode cL_swap 25 = .ok (.iconst 0, 1) := by decide +kernel
theorem dL_swap_26 : decode cL_swap 26 = .ok (.ireturn, 1) := by decide +kernel
set_option maxRecDepth 20000 in
theorem ggL_append_X6_append : GoodIn wsL_append wsX6_append := goodIn_ca (goodIn_ca (goodIn_r _ [7, 8, 9, 10, 11, 12, 13, 14, 15, 16, 17, 18, 19, 20, 21, 22, 23, 24, 25, 26, 27, 28, 29, 30, 31, 32, 33, 34, 35, 36, 37, 38, 39, 40, 41] (by decide +kernel) (by decide +kernel)) (goodIn_sub (fun _ h => List.mem_cons_of_mem _ (List.mem_append_left _ (List.mem_append_right _ h))) (by decide +kernel))) (goodIn_sub (fun _ h => List.mem_cons_of_mem _ (List.mem_append_right _ h)) (by decide +kernel))
set_option maxRecDepth 20000 in
theorem gL_append_X6_append : GoodIn wsL_append (wsV RL 45 RX6 yX6_append wsX6_append) := goodIn_app (goodIn_of _ (by decide +kernel)) ggL_append_X6_append
theorem dL_append_0 : decode cL_append 0 = .ok (.aload_n 2, 1) := by decide +kernel
theorem dL_append_1 : decode cL_append 1 = .ok (.iconst 0, 1) := by decide +kernel
theorem dL_append_2 : decode cL_append 2 = .ok (.aload_n 0, 1) := by decide +kernel
theorem dL_append_3 : decode cL_append 3 = .ok (.iload_n 1, 1) := by decide +kernel
theorem dL_append_4 : decode cL_append 4 = .ok (.invokevirtual 45, 3) := by decide +kernel
theorem dL_append_7 : decode cL_append 7 = .ok (.i2l, 1) := by decide +kernel
theorem dL_append_8 : decode cL_append 8 = .ok (.lastore, 1) := by decide +kernel
theorem dL_append_9 : decode cL_append 9 = .ok (.goto 9, 3) := by decide +kernel
theorem dL_append_12 : decode cL_append 12 = .ok (.astore_n 3, 1) := by decide +kernel
theorem dL_append_13 : decode cL_append 13 = .ok (.iconst 1, 1) := by decide +kernel
theorem dL_append_14 : decode cL_append 14 = .ok (.ireturn, 1) := by decide +kernel
theorem dL_append_15 : decode cL_append 15 = .ok (.astore_n 3, 1) := by decide +kernel
theorem dL_append_16 : decode cL_append 16 = .ok (.iconst 2, 1) := by decide +kernel
theorem dL_append_17 : decode cL_append 17 = .ok (.ireturn, 1) := by decide +kernel
theorem dL_append_18 : decode cL_append 18 = .ok (.iconst 0, 1) := by decide +kernel
theorem dL_append_19 : decode cL_append 19 = .ok (.ireturn, 1) := by decide +kernel
set_option maxRecDepth 20000 in
theorem ggL_seats_X6_seats : GoodIn wsL_seats wsX6_seats := goodIn_ca (goodIn_r _ [6, 7, 8, 9, 10, 11, 12, 13, 14, 15, 16, 17, 18, 19, 20, 21, 22, 23, 24, 25, 26, 27, 28, 29, 30, 31, 32, 33, 34, 35, 36, 37, 38, 39, 40, 41, 42, 43, 44, 45, 46, 47, 48, 49, 50, 51, 52, 53, 54, 55, 56, 57, 58, 59, 60, 61, 62, 63, 64, 65, 66, 67, 68, 69, 70, 71, 72, 73, 74, 75, 76, 77, 78, 79, 80, 81, 82, 83, 84, 85, 86, 87, 88, 89, 90, 91, 92, 93, 94, 95, 96, 97, 98, 99, 100, 101, 102, 103, 104, 105, 106, 107, 108, 109, 110, 111, 112, 113, 114, 115, 116, 117, 118, 119, 120, 121, 122, 123, 124, 125, 126, 127, 128, 129, 130, 131, 132, 133, 134, 135, 136, 137, 138, 139, 140, 141, 142, 143, 144, 145, 146, 147, 148, 149, 150, 151, 152, 153, 154, 155, 156, 157, 158, 159, 160, 161, 162, 163, 164, 165, 166, 167, 168, 169, 170, 171, 172, 173, 174, 175, 176, 177, 178, 179, 180, 181, 182, 183, 184, 185, 186, 187, 188, 189, 190, 191, 192, 193, 194, 195, 196, 197, 198, 199, 200, 201, 202, 203, 204, 205, 206, 207, 208, 209, 210] (by decide +kernel) (by decide +kernel)) (goodIn_sub (fun _ h => List.mem_cons_of_mem _ (List.mem_append_right _ h)) (by decide +kernel))
set_option maxRecDepth 20000 in
theorem gL_seats_X6_seats : GoodIn wsL_seats (wsV RL 48 RX6 yX6_seats wsX6_seats) := goodIn_app (goodIn_of _ (by decide +kernel)) ggL_seats_X6_seats
theorem dL_seats_0 : decode cL_seats 0 = .ok (.aload_n 1, 1) := by decide +kernel
theorem dL_seats_1 : decode cL_seats 1 = .ok (.iconst 0, 1) := by decide +kernel
theorem dL_seats_2 : decode cL_seats 2 = .ok (.aload_n 0, 1) := by decide +kernel
theorem dL_seats_3 : decode cL_seats 3 = .ok (.invokevirtual 48, 3) := by decide +kernel
theorem dL_seats_6 : decode cL_seats 6 = .ok (.i2l, 1) := by decide +kernel
theorem dL_seats_7 : decode cL_seats 7 = .ok (.lastore, 1) := by decide +kernel
theorem dL_seats_8 : decode cL_seats 8 = .ok (.goto 6, 3) := by decide +kernel
theorem dL_seats_11 : decode cL_seats 11 = .ok (.astore_n 2, 1) := by decide +kernel
theorem dL_seats_12 : decode cL_seats 12 = .ok (.iconst 1, 1) := by decide +kernel
theorem dL_seats_13 : decode cL_seats 13 = .ok (.ireturn, 1) := by decide +kernel
theorem dL_seats_14 : decode cL_seats 14 = .ok (.iconst 0, 1) := by decide +kernel
theorem dL_seats_15 : decode cL_seats 15 = .ok (.ireturn, 1) := by decide +kernel
set_option maxRecDepth 20000 in
theorem ggL_told_X6_told : GoodIn wsL_told wsX6_told := goodIn_ca (goodIn_ca (goodIn_r _ [7, 8, 9, 10, 11, 12, 13, 6, 14, 15, 16, 17, 18, 19, 20, 21, 22, 23, 24, 25, 26, 27, 28, 29, 30, 31, 32, 33, 34, 35, 36, 37, 38, 39, 40, 41, 42, 43, 44, 45, 46, 47, 48, 49, 50, 51, 52, 53, 54, 55, 56, 57, 58, 59, 60, 61, 62, 63, 64] (by decide +kernel) (by decide +kernel)) (goodIn_sub (fun _ h => List.mem_cons_of_mem _ (List.mem_append_left _ (List.mem_append_right _ h))) (by decide +kernel))) (goodIn_sub (fun _ h => List.mem_cons_of_mem _ (List.mem_append_right _ h)) (by decide +kernel))
set_option maxRecDepth 20000 in
theorem gL_told_X6_told : GoodIn wsL_told (wsV RL 52 RX6 yX6_told wsX6_told) := goodIn_app (goodIn_of _ (by decide +kernel)) ggL_told_X6_told
theorem dL_told_0 : decode cL_told 0 = .ok (.aload_n 3, 1) := by decide +kernel
theorem dL_told_1 : decode cL_told 1 = .ok (.iconst 0, 1) := by decide +kernel
theorem dL_told_2 : decode cL_told 2 = .ok (.aload_n 0, 1) := by decide +kernel
theorem dL_told_3 : decode cL_told 3 = .ok (.iload_n 1, 1) := by decide +kernel
theorem dL_told_4 : decode cL_told 4 = .ok (.iload_n 2, 1) := by decide +kernel
theorem dL_told_5 : decode cL_told 5 = .ok (.invokevirtual 52, 3) := by decide +kernel
theorem dL_told_8 : decode cL_told 8 = .ok (.i2l, 1) := by decide +kernel
theorem dL_told_9 : decode cL_told 9 = .ok (.lastore, 1) := by decide +kernel
theorem dL_told_10 : decode cL_told 10 = .ok (.goto 11, 3) := by decide +kernel
theorem dL_told_13 : decode cL_told 13 = .ok (.astore 4, 2) := by decide +kernel
theorem dL_told_15 : decode cL_told 15 = .ok (.iconst 1, 1) := by decide +kernel
theorem dL_told_16 : decode cL_told 16 = .ok (.ireturn, 1) := by decide +kernel
theorem dL_told_17 : decode cL_told 17 = .ok (.astore 4, 2) := by decide +kernel
theorem dL_told_19 : decode cL_told 19 = .ok (.iconst 2, 1) := by decide +kernel
theorem dL_told_20 : decode cL_told 20 = .ok (.ireturn, 1) := by decide +kernel
theorem dL_told_21 : decode cL_told 21 = .ok (.iconst 0, 1) := by decide +kernel
theorem dL_told_22 : decode cL_told 22 = .ok (.ireturn, 1) := by decide +kernel
set_option maxRecDepth 20000 in
theorem ggL_undo_X6_undo : GoodIn wsL_undo wsX6_undo := goodIn_ca (goodIn_r _ [6, 7, 8, 9, 10, 11, 12, 13, 14, 15, 16, 17, 18, 19, 20, 21, 22, 23, 24, 25, 26, 27, 28, 29, 30, 31, 32, 33, 34, 35, 36, 37, 38, 39, 40, 41, 42, 43, 44, 45, 46, 47, 48, 49, 50, 51, 52, 53, 54, 55, 56, 57, 58, 59, 60, 61, 62, 63, 64, 65, 66, 67, 68, 69, 70, 71, 72, 73, 74, 75, 76, 77, 78, 79, 80, 81, 82, 83, 84, 85, 86] (by decide +kernel) (by decide +kernel)) (goodIn_sub (fun _ h => List.mem_cons_of_mem _ (List.mem_append_right _ h)) (by decide +kernel))
set_option maxRecDepth 20000 in
theorem gL_undo_X6_undo : GoodIn wsL_undo (wsV RL 55 RX6 yX6_undo wsX6_undo) := goodIn_app (goodIn_of _ (by decide +kernel)) ggL_undo_X6_undo
theorem dL_undo_0 : decode cL_undo 0 = .ok (.aload_n 1, 1) := by decide +kernel
theorem dL_undo_1 : decode cL_undo 1 = .ok (.iconst 0, 1) := by decide +kernel
theorem dL_undo_2 : decode cL_undo 2 = .ok (.aload_n 0, 1) := by decide +kernel
theorem dL_undo_3 : decode cL_undo 3 = .ok (.invokevirtual 55, 3) := by decide +kernel
theorem dL_undo_6 : decode cL_undo 6 = .ok (.i2l, 1) := by decide +kernel
theorem dL_undo_7 : decode cL_undo 7 = .ok (.lastore, 1) := by decide +kernel
theorem dL_undo_8 : decode cL_undo 8 = .ok (.goto 6, 3) := by decide +kernel
theorem dL_undo_11 : decode cL_undo 11 = .ok (.astore_n 2, 1) := by decide +kernel
theorem dL_undo_12 : decode cL_undo 12 = .ok (.iconst 1, 1) := by decide +kernel
theorem dL_undo_13 : decode cL_undo 13 = .ok (.ireturn, 1) := by decide +kernel
theorem dL_undo_14 : decode cL_undo 14 = .ok (.iconst 0, 1) := by decide +kernel
theorem dL_undo_15 : decode cL_undo 15 = .ok (.ireturn, 1) := by decide +kernel
set_option maxRecDepth 20000 in
theorem ggL_restore_X6_restore : GoodIn wsL_restore wsX6_restore := goodIn_ca (goodIn_r _ [6, 7, 8, 9, 10, 11, 12, 13, 14, 15, 16, 17, 18, 19, 20, 21, 22, 23, 24, 25, 26, 27, 28, 29, 30, 31, 32, 33, 34, 35, 36, 37, 38, 39, 40, 41, 42, 43, 44, 45, 46, 47, 48, 49, 50, 51, 52, 53, 54, 55, 56, 57, 58, 59, 60, 61, 62, 63, 64, 65, 66, 67, 68, 69, 70, 71, 72, 73, 74, 75, 76, 77, 78, 79, 80, 81, 82, 83, 84, 85, 86, 87, 88, 89] (by decide +kernel) (by decide +kernel)) (goodIn_sub (fun _ h => List.mem_cons_of_mem _ (List.mem_append_right _ h)) (by decide +kernel))
set_option maxRecDepth 20000 in
theorem gL_restore_X6_restore : GoodIn wsL_restore (wsV RL 58 RX6 yX6_restore wsX6_restore) := goodIn_app (goodIn_of _ (by decide +kernel)) ggL_restore_X6_restore
theorem dL_restore_0 : decode cL_restore 0 = .ok (.aload_n 1, 1) := by decide +kernel
theorem dL_restore_1 : decode cL_restore 1 = .ok (.iconst 0, 1) := by decide +kernel
theorem dL_restore_2 : decode cL_restore 2 = .ok (.aload_n 0, 1) := by decide +kernel
theorem dL_restore_3 : decode cL_restore 3 = .ok (.invokevirtual 58, 3) := by decide +kernel
theorem dL_restore_6 : decode cL_restore 6 = .ok (.i2l, 1) := by decide +kernel
theorem dL_restore_7 : decode cL_restore 7 = .ok (.lastore, 1) := by decide +kernel
theorem dL_restore_8 : decode cL_restore 8 = .ok (.goto 6, 3) := by decide +kernel
theorem dL_restore_11 : decode cL_restore 11 = .ok (.astore_n 2, 1) := by decide +kernel
theorem dL_restore_12 : decode cL_restore 12 = .ok (.iconst 1, 1) := by decide +kernel
theorem dL_restore_13 : decode cL_restore 13 = .ok (.ireturn, 1) := by decide +kernel
theorem dL_restore_14 : decode cL_restore 14 = .ok (.iconst 0, 1) := by decide +kernel
theorem dL_restore_15 : decode cL_restore 15 = .ok (.ireturn, 1) := by decide +kernel
set_option maxRecDepth 20000 in
theorem ggL_guestOf_X6_guestOf : GoodIn wsL_guestOf wsX6_guestOf := goodIn_ca (goodIn_ca (goodIn_r _ [7, 8, 9, 10, 11, 12, 6, 13, 14, 15, 16, 17, 18, 19, 20, 21, 22, 23, 24, 25, 26, 27, 28, 29, 30, 31, 32, 33, 34, 35, 36, 37, 38, 39, 40, 41, 42, 43, 44, 45, 46, 47, 48, 49, 50, 51, 52, 53, 54, 55, 56, 57, 58, 59, 60, 61, 62, 63, 64, 65, 66, 67, 68, 69, 70, 71, 72, 73, 74, 75, 76, 77, 78, 79, 80, 81, 82, 83, 84, 85, 86, 87] (by decide +kernel) (by decide +kernel)) (goodIn_sub (fun _ h => List.mem_cons_of_mem _ (List.mem_append_left _ (List.mem_append_right _ h))) (by decide +kernel))) (goodIn_sub (fun _ h => List.mem_cons_of_mem _ (List.mem_append_right _ h)) (by decide +kernel))
set_option maxRecDepth 20000 in
theorem gL_guestOf_X6_guestOf : GoodIn wsL_guestOf (wsV RL 61 RX6 yX6_guestOf wsX6_guestOf) := goodIn_app (goodIn_of _ (by decide +kernel)) ggL_guestOf_X6_guestOf
theorem dL_guestOf_0 : decode cL_guestOf 0 = .ok (.aload_n 3, 1) := by decide +kernel
theorem dL_guestOf_1 : decode cL_guestOf 1 = .ok (.iconst 0, 1) := by decide +kernel
theorem dL_guestOf_2 : decode cL_guestOf 2 = .ok (.aload_n 0, 1) := by decide +kernel
theorem dL_guestOf_3 : decode cL_guestOf 3 = .ok (.iload_n 1, 1) := by decide +kernel
theorem dL_guestOf_4 : decode cL_guestOf 4 = .ok (.iload_n 2, 1) := by decide +kernel
theorem dL_guestOf_5 : decode cL_guestOf 5 = .ok (.invokevirtual 61, 3) := by decide +kernel
theorem dL_guestOf_8 : decode cL_guestOf 8 = .ok (.i2l, 1) := by decide +kernel
theorem dL_guestOf_9 : decode cL_guestOf 9 = .ok (.lastore, 1) := by decide +kernel
theorem dL_guestOf_10 : decode cL_guestOf 10 = .ok (.goto 11, 3) := by decide +kernel
theorem dL_guestOf_13 : decode cL_guestOf 13 = .ok (.astore 4, 2) := by decide +kernel
theorem dL_guestOf_15 : decode cL_guestOf 15 = .ok (.iconst 1, 1) := by decide +kernel
theorem dL_guestOf_16 : decode cL_guestOf 16 = .ok (.ireturn, 1) := by decide +kernel
theorem dL_guestOf_17 : decode cL_guestOf 17 = .ok (.astore 4, 2) := by decide +kernel
theorem dL_guestOf_19 : decode cL_guestOf 19 = .ok (.iconst 2, 1) := by decide +kernel
theorem dL_guestOf_20 : decode cL_guestOf 20 = .ok (.ireturn, 1) := by decide +kernel
theorem dL_guestOf_21 : decode cL_guestOf 21 = .ok (.iconst 0, 1) := by decide +kernel
theorem dL_guestOf_22 : decode cL_guestOf 22 = .ok (.ireturn, 1) := by decide +kernel
set_option maxRecDepth 20000 in
theorem ggL_tableOf_X6_tableOf : GoodIn wsL_tableOf wsX6_tableOf := goodIn_ca (goodIn_ca (goodIn_r _ [7, 8, 9, 10, 11, 12, 6, 13, 14, 15, 16, 17, 18, 19, 20, 21, 22, 23, 24, 25, 26, 27, 28, 29, 30, 31, 32, 33, 34, 35, 36, 37, 38, 39, 40, 41, 42, 43, 44, 45, 46, 47, 48, 49, 50, 51, 52, 53, 54, 55, 56, 57, 58, 59, 60, 61, 62, 63, 64, 65, 66, 67, 68, 69, 70, 71, 72, 73, 74, 75, 76, 77, 78, 79, 80, 81, 82, 83, 84, 85, 86, 87, 88, 89, 90, 91, 92, 93, 94, 95, 96, 97, 98, 99, 100, 101, 102, 103] (by decide +kernel) (by decide +kernel)) (goodIn_sub (fun _ h => List.mem_cons_of_mem _ (List.mem_append_left _ (List.mem_append_right _ h))) (by decide +kernel))) (goodIn_sub (fun _ h => List.mem_cons_of_mem _ (List.mem_append_right _ h)) (by decide +kernel))
set_option maxRecDepth 20000 in
theorem gL_tableOf_X6_tableOf : GoodIn wsL_tableOf (wsV RL 64 RX6 yX6_tableOf wsX6_tableOf) := goodIn_app (goodIn_of _ (by decide +kernel)) ggL_tableOf_X6_tableOf
theorem dL_tableOf_0 : decode cL_tableOf 0 = .ok (.aload_n 3, 1) := by decide +kernel
theorem dL_tableOf_1 : decode cL_tableOf 1 = .ok (.iconst 0, 1) := by decide +kernel
theorem dL_tableOf_2 : decode cL_tableOf 2 = .ok (.aload_n 0, 1) := by decide +kernel
theorem dL_tableOf_3 : decode cL_tableOf 3 = .ok (.iload_n 1, 1) := by decide +kernel
theorem dL_tableOf_4 : decode cL_tableOf 4 = .ok (.iload_n 2, 1) := by decide +kernel
theorem dL_tableOf_5 : decode cL_tableOf 5 = .ok (.invokevirtual 64, 3) := by decide +kernel
theorem dL_tableOf_8 : decode cL_tableOf 8 = .ok (.i2l, 1) := by decide +kernel
theorem dL_tableOf_9 : decode cL_tableOf 9 = .ok (.lastore, 1) := by decide +kernel
theorem dL_tableOf_10 : decode cL_tableOf 10 = .ok (.goto 11, 3) := by decide +kernel
theorem dL_tableOf_13 : decode cL_tableOf 13 = .ok (.astore 4, 2) := by decide +kernel
theorem dL_tableOf_15 : decode cL_tableOf 15 = .ok (.iconst 1, 1) := by decide +kernel
theorem dL_tableOf_16 : decode cL_tableOf 16 = .ok (.ireturn, 1) := by decide +kernel
theorem dL_tableOf_17 : decode cL_tableOf 17 = .ok (.astore 4, 2) := by decide +kernel
theorem dL_tableOf_19 : decode cL_tableOf 19 = .ok (.iconst 2, 1) := by decide +kernel
theorem dL_tableOf_20 : decode cL_tableOf 20 = .ok (.ireturn, 1) := by decide +kernel
theorem dL_tableOf_21 : decode cL_tableOf 21 = .ok (.iconst 0, 1) := by decide +kernel
theorem dL_tableOf_22 : decode cL_tableOf 22 = .ok (.ireturn, 1) := by decide +kernel
set_option maxRecDepth 20000 in
theorem ggL_who_X6_who : GoodIn wsL_who wsX6_who := goodIn_ca (goodIn_r _ [6, 7, 8, 9, 10, 5, 11, 12, 13, 14, 15, 16, 17, 18, 19, 20, 21, 22, 23, 24, 25, 26, 27, 28, 29, 30, 31, 32, 33, 34, 35, 36, 37, 38, 39, 40, 41, 42, 43, 44, 45, 46, 47, 48, 49, 50, 51, 52, 53] (by decide +kernel) (by decide +kernel)) (goodIn_sub (fun _ h => List.mem_cons_of_mem _ (List.mem_append_right _ h)) (by decide +kernel))
set_option maxRecDepth 20000 in
theorem gL_who_X6_who : GoodIn wsL_who (wsV RL 67 RX6 yX6_who wsX6_who) := goodIn_app (goodIn_of _ (by decide +kernel)) ggL_who_X6_who
theorem dL_who_0 : decode cL_who 0 = .ok (.aload_n 3, 1) := by decide +kernel
theorem dL_who_1 : decode cL_who 1 = .ok (.iconst 0, 1) := by decide +kernel
theorem dL_who_2 : decode cL_who 2 = .ok (.aload_n 0, 1) := by decide +kernel
theorem dL_who_3 : decode cL_who 3 = .ok (.iload_n 1, 1) := by decide +kernel
theorem dL_who_4 : decode cL_who 4 = .ok (.iload_n 2, 1) := by decide +kernel
theorem dL_who_5 : decode cL_who 5 = .ok (.invokevirtual 67, 3) := by decide +kernel
theorem dL_who_8 : decode cL_who 8 = .ok (.i2l, 1) := by decide +kernel
theorem dL_who_9 : decode cL_who 9 = .ok (.lastore, 1) := by decide +kernel
theorem dL_who_10 : decode cL_who 10 = .ok (.goto 7, 3) := by decide +kernel
theorem dL_who_13 : decode cL_who 13 = .ok (.astore 4, 2) := by decide +kernel
theorem dL_who_15 : decode cL_who 15 = .ok (.iconst 1, 1) := by decide +kernel
theorem dL_who_16 : decode cL_who 16 = .ok (.ireturn, 1) := by decide +kernel
theorem dL_who_17 : decode cL_who 17 = .ok (.iconst 0, 1) := by decide +kernel
theorem dL_who_18 : decode cL_who 18 = .ok (.ireturn, 1) := by decide +kernel
set_option maxRecDepth 20000 in
theorem ggL_seated_X6_seated : GoodIn wsL_seated wsX6_seated := goodIn_ca (goodIn_r _ [6, 7, 8, 9, 5, 10, 11, 12, 13, 14, 15, 16, 17, 18, 19, 20, 21, 22, 23, 24, 25, 26, 27, 28, 29, 30, 31, 32, 33, 34, 35, 36, 37, 38, 39, 40, 41] (by decide +kernel) (by decide +kernel)) (goodIn_sub (fun _ h => List.mem_cons_of_mem _ (List.mem_append_right _ h)) (by decide +kernel))
set_option maxRecDepth 20000 in
theorem gL_seated_X6_seated : GoodIn wsL_seated (wsV RL 70 RX6 yX6_seated wsX6_seated) := goodIn_app (goodIn_of _ (by decide +kernel)) ggL_seated_X6_seated
theorem dL_seated_0 : decode cL_seated 0 = .ok (.aload_n 2, 1) := by decide +kernel
theorem dL_seated_1 : decode cL_seated 1 = .ok (.iconst 0, 1) := by decide +kernel
theorem dL_seated_2 : decode cL_seated 2 = .ok (.aload_n 0, 1) := by decide +kernel
theorem dL_seated_3 : decode cL_seated 3 = .ok (.iload_n 1, 1) := by decide +kernel
theorem dL_seated_4 : decode cL_seated 4 = .ok (.invokevirtual 70, 3) := by decide +kernel
theorem dL_seated_7 : decode cL_seated 7 = .ok (.i2l, 1) := by decide +kernel
theorem dL_seated_8 : decode cL_seated 8 = .ok (.lastore, 1) := by decide +kernel
theorem dL_seated_9 : decode cL_seated 9 = .ok (.goto 6, 3) := by decide +kernel
theorem dL_seated_12 : decode cL_seated 12 = .ok (.astore_n 3, 1) := by decide +kernel
theorem dL_seated_13 : decode cL_seated 13 = .ok (.iconst 1, 1) := by decide +kernel
theorem dL_seated_14 : decode cL_seated 14 = .ok (.ireturn, 1) := by decide +kernel
theorem dL_seated_15 : decode cL_seated 15 = .ok (.iconst 0, 1) := by decide +kernel
theorem dL_seated_16 : decode cL_seated 16 = .ok (.ireturn, 1) := by decide +kernel
set_option maxRecDepth 20000 in
theorem ggL_feudAt_X6_feudAt : GoodIn wsL_feudAt wsX6_feudAt := goodIn_ca (goodIn_r _ [6, 7, 8, 9, 5, 10, 11, 12, 13, 14, 15, 16, 17, 18, 19, 20, 21, 22, 23, 24, 25, 26, 27, 28, 29, 30, 31, 32, 33, 34, 35, 36, 37, 38, 39, 40, 41] (by decide +kernel) (by decide +kernel)) (goodIn_sub (fun _ h => List.mem_cons_of_mem _ (List.mem_append_right _ h)) (by decide +kernel))
set_option maxRecDepth 20000 in
theorem gL_feudAt_X6_feudAt : GoodIn wsL_feudAt (wsV RL 73 RX6 yX6_feudAt wsX6_feudAt) := goodIn_app (goodIn_of _ (by decide +kernel)) ggL_feudAt_X6_feudAt
theorem dL_feudAt_0 : decode cL_feudAt 0 = .ok (.aload_n 2, 1) := by decide +kernel
theorem dL_feudAt_1 : decode cL_feudAt 1 = .ok (.iconst 0, 1) := by decide +kernel
theorem dL_feudAt_2 : decode cL_feudAt 2 = .ok (.aload_n 0, 1) := by decide +kernel
theorem dL_feudAt_3 : decode cL_feudAt 3 = .ok (.iload_n 1, 1) := by decide +kernel
theorem dL_feudAt_4 : decode cL_feudAt 4 = .ok (.invokevirtual 73, 3) := by decide +kernel
theorem dL_feudAt_7 : decode cL_feudAt 7 = .ok (.i2l, 1) := by decide +kernel
theorem dL_feudAt_8 : decode cL_feudAt 8 = .ok (.lastore, 1) := by decide +kernel
theorem dL_feudAt_9 : decode cL_feudAt 9 = .ok (.goto 6, 3) := by decide +kernel
theorem dL_feudAt_12 : decode cL_feudAt 12 = .ok (.astore_n 3, 1) := by decide +kernel
theorem dL_feudAt_13 : decode cL_feudAt 13 = .ok (.iconst 1, 1) := by decide +kernel
theorem dL_feudAt_14 : decode cL_feudAt 14 = .ok (.ireturn, 1) := by decide +kernel
theorem dL_feudAt_15 : decode cL_feudAt 15 = .ok (.iconst 0, 1) := by decide +kernel
theorem dL_feudAt_16 : decode cL_feudAt 16 = .ok (.ireturn, 1) := by decide +kernel
set_option maxRecDepth 20000 in
theorem ggL_count_X6_count : GoodIn wsL_count wsX6_count := goodIn_ca (goodIn_r _ [6, 7, 8, 9, 10, 11, 5, 12, 13, 14, 15, 16, 17, 18, 19, 20, 21, 22, 23, 24, 25, 26, 27, 28, 29, 30, 31, 32, 33, 34, 35, 36, 37, 38, 39, 40, 41, 42, 43, 44, 45, 46, 47, 48, 49, 50, 51, 52, 53, 54, 55, 56, 57, 58, 59, 60, 61, 62, 63, 64, 65, 66, 67, 68, 69, 70, 71, 72, 73, 74, 75, 76, 77, 78, 79, 80, 81, 82, 83, 84, 85, 86, 87, 88, 89, 90, 91, 92, 93, 94, 95, 96, 97, 98, 99, 100, 101, 102, 103, 104, 105, 106, 107, 108, 109, 110, 111, 112, 113] (by decide +kernel) (by decide +kernel)) (goodIn_sub (fun _ h => List.mem_cons_of_mem _ (List.mem_append_right _ h)) (by decide +kernel))
set_option maxRecDepth 20000 in
theorem gL_count_X6_count : GoodIn wsL_count (wsV RL 76 RX6 yX6_count wsX6_count) := goodIn_app (goodIn_of _ (by decide +kernel)) ggL_count_X6_count
theorem dL_count_0 : decode cL_count 0 = .ok (.aload_n 2, 1) := by decide +kernel
theorem dL_count_1 : decode cL_count 1 = .ok (.iconst 0, 1) := by decide +kernel
theorem dL_count_2 : decode cL_count 2 = .ok (.aload_n 0, 1) := by decide +kernel
theorem dL_count_3 : decode cL_count 3 = .ok (.iload_n 1, 1) := by decide +kernel
theorem dL_count_4 : decode cL_count 4 = .ok (.invokevirtual 76, 3) := by decide +kernel
theorem dL_count_7 : decode cL_count 7 = .ok (.i2l, 1) := by decide +kernel
theorem dL_count_8 : decode cL_count 8 = .ok (.lastore, 1) := by decide +kernel
theorem dL_count_9 : decode cL_count 9 = .ok (.goto 6, 3) := by decide +kernel
theorem dL_count_12 : decode cL_count 12 = .ok (.astore_n 3, 1) := by decide +kernel
theorem dL_count_13 : decode cL_count 13 = .ok (.iconst 1, 1) := by decide +kernel
theorem dL_count_14 : decode cL_count 14 = .ok (.ireturn, 1) := by decide +kernel
theorem dL_count_15 : decode cL_count 15 = .ok (.iconst 0, 1) := by decide +kernel
theorem dL_count_16 : decode cL_count 16 = .ok (.ireturn, 1) := by decide +kernel
set_option maxRecDepth 20000 in
theorem ggL_whyNot_X6_whyNot : GoodIn wsL_whyNot wsX6_whyNot := goodIn_ca (goodIn_r _ [6, 7, 8, 9, 10, 5, 11, 12, 13, 14, 15, 16, 17, 18, 19, 20, 21, 22, 23, 24, 25, 26, 27, 28, 29, 30, 31, 32, 33, 34, 35, 36, 37, 38, 39, 40, 41, 42, 43, 44, 45, 46, 47, 48, 49, 50, 51, 52, 53, 54, 55, 56, 57, 58, 59, 60, 61, 62, 63, 64, 65, 66, 67, 68, 69, 70, 71, 72, 73, 74, 75, 76, 77, 78, 79, 80, 81, 82, 83, 84, 85, 86, 87, 88, 89, 90, 91, 92, 93, 94, 95, 96, 97, 98, 99, 100, 101, 102, 103, 104, 105, 106, 107] (by decide +kernel) (by decide +kernel)) (goodIn_sub (fun _ h => List.mem_cons_of_mem _ (List.mem_append_right _ h)) (by decide +kernel))
set_option maxRecDepth 20000 in
theorem gL_whyNot_X6_whyNot : GoodIn wsL_whyNot (wsV RL 79 RX6 yX6_whyNot wsX6_whyNot) := goodIn_app (goodIn_of _ (by decide +kernel)) ggL_whyNot_X6_whyNot
theorem dL_whyNot_0 : decode cL_whyNot 0 = .ok (.aload 4, 2) := by decide +kernel
theorem dL_whyNot_2 : decode cL_whyNot 2 = .ok (.iconst 0, 1) := by decide +kernel
theorem dL_whyNot_3 : decode cL_whyNot 3 = .ok (.aload_n 0, 1) := by decide +kernel
theorem dL_whyNot_4 : decode cL_whyNot 4 = .ok (.iload_n 1, 1) := by decide +kernel
theorem dL_whyNot_5 : decode cL_whyNot 5 = .ok (.iload_n 2, 1) := by decide +kernel
theorem dL_whyNot_6 : decode cL_whyNot 6 = .ok (.iload_n 3, 1) := by decide +kernel
theorem dL_whyNot_7 : decode cL_whyNot 7 = .ok (.invokevirtual 79, 3) := by decide +kernel
theorem dL_whyNot_10 : decode cL_whyNot 10 = .ok (.i2l, 1) := by decide +kernel
theorem dL_whyNot_11 : decode cL_whyNot 11 = .ok (.lastore, 1) := by decide +kernel
theorem dL_whyNot_12 : decode cL_whyNot 12 = .ok (.goto 7, 3) := by decide +kernel
theorem dL_whyNot_15 : decode cL_whyNot 15 = .ok (.astore 5, 2) := by decide +kernel
theorem dL_whyNot_17 : decode cL_whyNot 17 = .ok (.iconst 1, 1) := by decide +kernel
theorem dL_whyNot_18 : decode cL_whyNot 18 = .ok (.ireturn, 1) := by decide +kernel
theorem dL_whyNot_19 : decode cL_whyNot 19 = .ok (.iconst 0, 1) := by decide +kernel
theorem dL_whyNot_20 : decode cL_whyNot 20 = .ok (.ireturn, 1) := by decide +kernel
set_option maxRecDepth 20000 in
theorem ggL_ifSat_X6_ifSat : GoodIn wsL_ifSat wsX6_ifSat := goodIn_ca (goodIn_r _ [6, 7, 8, 9, 10, 5, 11, 12, 13, 14, 15, 16, 17, 18, 19, 20, 21, 22, 23, 24, 25, 26, 27, 28, 29, 30, 31, 32, 33, 34, 35, 36, 37, 38, 39, 40, 41, 42, 43, 44, 45, 46, 47, 48, 49, 50, 51, 52, 53, 54, 55, 56, 57, 58, 59, 60, 61, 62, 63, 64, 65, 66, 67, 68, 69, 70, 71, 72, 73, 74, 75, 76, 77, 78, 79, 80, 81, 82, 83, 84, 85, 86, 87, 88, 89, 90, 91, 92, 93, 94, 95, 96, 97, 98, 99, 100, 101, 102, 103, 104, 105, 106, 107, 108, 109, 110, 111, 112, 113, 114, 115, 116, 117, 118, 119, 120, 121, 122, 123, 124, 125, 126, 127, 128, 129, 130, 131, 132, 133, 134, 135, 136, 137, 138, 139, 140, 141, 142, 143, 144] (by decide +kernel) (by decide +kernel)) (goodIn_sub (fun _ h => List.mem_cons_of_mem _ (List.mem_append_right _ h)) (by decide +kernel))
set_option maxRecDepth 20000 in
theorem gL_ifSat_X6_ifSat : GoodIn wsL_ifSat (wsV RL 82 RX6 yX6_ifSat wsX6_ifSat) := goodIn_app (goodIn_of _ (by decide +kernel)) ggL_ifSat_X6_ifSat
theorem dL_ifSat_0 : decode cL_ifSat 0 = .ok (.aload 4, 2) := by decide +kernel
theorem dL_ifSat_2 : decode cL_ifSat 2 = .ok (.iconst 0, 1) := by decide +kernel
theorem dL_ifSat_3 : decode cL_ifSat 3 = .ok (.aload_n 0, 1) := by decide +kernel
theorem dL_ifSat_4 : decode cL_ifSat 4 = .ok (.iload_n 1, 1) := by decide +kernel
theorem dL_ifSat_5 : decode cL_ifSat 5 = .ok (.iload_n 2, 1) := by decide +kernel
theorem dL_ifSat_6 : decode cL_ifSat 6 = .ok (.iload_n 3, 1) := by decide +kernel
theorem dL_ifSat_7 : decode cL_ifSat 7 = .ok (.invokevirtual 82, 3) := by decide +kernel
theorem dL_ifSat_10 : decode cL_ifSat 10 = .ok (.i2l, 1) := by decide +kernel
theorem dL_ifSat_11 : decode cL_ifSat 11 = .ok (.lastore, 1) := by decide +kernel
theorem dL_ifSat_12 : decode cL_ifSat 12 = .ok (.goto 7, 3) := by decide +kernel
theorem dL_ifSat_15 : decode cL_ifSat 15 = .ok (.astore 5, 2) := by decide +kernel
theorem dL_ifSat_17 : decode cL_ifSat 17 = .ok (.iconst 1, 1) := by decide +kernel
theorem dL_ifSat_18 : decode cL_ifSat 18 = .ok (.ireturn, 1) := by decide +kernel
theorem dL_ifSat_19 : decode cL_ifSat 19 = .ok (.iconst 0, 1) := by decide +kernel
theorem dL_ifSat_20 : decode cL_ifSat 20 = .ok (.ireturn, 1) := by decide +kernel
set_option maxRecDepth 20000 in
theorem ggL_bestSeat_X6_bestSeat : GoodIn wsL_bestSeat wsX6_bestSeat := goodIn_ca (goodIn_r _ [6, 7, 8, 9, 10, 5, 11, 12, 13, 14, 15, 16, 17, 18, 19, 20, 21, 22, 23, 24, 25, 26, 27, 28, 29, 30, 31, 32, 33, 34, 35, 36, 37, 38, 39, 40, 41, 42, 43, 44, 45, 46, 47, 48, 49, 50, 51, 52, 53, 54, 55, 56, 57, 58, 59, 60, 61, 62, 63, 64, 65, 66, 67, 68, 69, 70, 71, 72, 73, 74, 75, 76, 77, 78, 79, 80, 81, 82, 83, 84, 85, 86, 87, 88, 89, 90, 91, 92, 93, 94, 95, 96, 97, 98, 99, 100, 101, 102, 103, 104, 105, 106, 107, 108, 109, 110, 111, 112, 113, 114, 115, 116] (by decide +kernel) (by decide +kernel)) (goodIn_sub (fun _ h => List.mem_cons_of_mem _ (List.mem_append_right _ h)) (by decide +kernel))
set_option maxRecDepth 20000 in
theorem gL_bestSeat_X6_bestSeat : GoodIn wsL_bestSeat (wsV RL 85 RX6 yX6_bestSeat wsX6_bestSeat) := goodIn_app (goodIn_of _ (by decide +kernel)) ggL_bestSeat_X6_bestSeat
theorem dL_bestSeat_0 : decode cL_bestSeat 0 = .ok (.aload_n 2, 1) := by decide +kernel
theorem dL_bestSeat_1 : decode cL_bestSeat 1 = .ok (.iconst 0, 1) := by decide +kernel
theorem dL_bestSeat_2 : decode cL_bestSeat 2 = .ok (.aload_n 0, 1) := by decide +kernel
theorem dL_bestSeat_3 : decode cL_bestSeat 3 = .ok (.iload_n 1, 1) := by decide +kernel
theorem dL_bestSeat_4 : decode cL_bestSeat 4 = .ok (.invokevirtual 85, 3) := by decide +kernel
theorem dL_bestSeat_7 : decode cL_bestSeat 7 = .ok (.i2l, 1) := by decide +kernel
theorem dL_bestSeat_8 : decode cL_bestSeat 8 = .ok (.lastore, 1) := by decide +kernel
theorem dL_bestSeat_9 : decode cL_bestSeat 9 = .ok (.goto 6, 3) := by decide +kernel
theorem dL_bestSeat_12 : decode cL_bestSeat 12 = .ok (.astore_n 3, 1) := by decide +kernel
theorem dL_bestSeat_13 : decode cL_bestSeat 13 = .ok (.iconst 1, 1) := by decide +kernel
theorem dL_bestSeat_14 : decode cL_bestSeat 14 = .ok (.ireturn, 1) := by decide +kernel
theorem dL_bestSeat_15 : decode cL_bestSeat 15 = .ok (.iconst 0, 1) := by decide +kernel
theorem dL_bestSeat_16 : decode cL_bestSeat 16 = .ok (.ireturn, 1) := by decide +kernel
set_option maxRecDepth 20000 in
theorem ggL_ifFeud_X6_ifFeud : GoodIn wsL_ifFeud wsX6_ifFeud := goodIn_ca (goodIn_r _ [6, 7, 8, 9, 5, 10, 11, 12, 13, 14, 15, 16, 17, 18, 19, 20, 21, 22, 23, 24, 25, 26, 27, 28, 29, 30, 31, 32, 33, 34, 35, 36, 37, 38, 39, 40, 41, 42, 43, 44, 45, 46, 47, 48, 49, 50, 51, 52, 53, 54, 55, 56, 57, 58, 59, 60, 61, 62, 63, 64, 65, 66, 67, 68, 69, 70, 71, 72, 73, 74, 75, 76, 77, 78, 79, 80, 81, 82, 83, 84, 85, 86, 87, 88, 89, 90, 91, 92] (by decide +kernel) (by decide +kernel)) (goodIn_sub (fun _ h => List.mem_cons_of_mem _ (List.mem_append_right _ h)) (by decide +kernel))
set_option maxRecDepth 20000 in
theorem gL_ifFeud_X6_ifFeud : GoodIn wsL_ifFeud (wsV RL 88 RX6 yX6_ifFeud wsX6_ifFeud) := goodIn_app (goodIn_of _ (by decide +kernel)) ggL_ifFeud_X6_ifFeud
theorem dL_ifFeud_0 : decode cL_ifFeud 0 = .ok (.aload_n 3, 1) := by decide +kernel
theorem dL_ifFeud_1 : decode cL_ifFeud 1 = .ok (.iconst 0, 1) := by decide +kernel
theorem dL_ifFeud_2 : decode cL_ifFeud 2 = .ok (.aload_n 0, 1) := by decide +kernel
theorem dL_ifFeud_3 : decode cL_ifFeud 3 = .ok (.iload_n 1, 1) := by decide +kernel
theorem dL_ifFeud_4 : decode cL_ifFeud 4 = .ok (.iload_n 2, 1) := by decide +kernel
theorem dL_ifFeud_5 : decode cL_ifFeud 5 = .ok (.invokevirtual 88, 3) := by decide +kernel
theorem dL_ifFeud_8 : decode cL_ifFeud 8 = .ok (.i2l, 1) := by decide +kernel
theorem dL_ifFeud_9 : decode cL_ifFeud 9 = .ok (.lastore, 1) := by decide +kernel
theorem dL_ifFeud_10 : decode cL_ifFeud 10 = .ok (.goto 7, 3) := by decide +kernel
theorem dL_ifFeud_13 : decode cL_ifFeud 13 = .ok (.astore 4, 2) := by decide +kernel
theorem dL_ifFeud_15 : decode cL_ifFeud 15 = .ok (.iconst 1, 1) := by decide +kernel
theorem dL_ifFeud_16 : decode cL_ifFeud 16 = .ok (.ireturn, 1) := by decide +kernel
theorem dL_ifFeud_17 : decode cL_ifFeud 17 = .ok (.iconst 0, 1) := by decide +kernel
theorem dL_ifFeud_18 : decode cL_ifFeud 18 = .ok (.ireturn, 1) := by decide +kernel
set_option maxRecDepth 20000 in
theorem ggL_ifSeated_X6_ifSeated : GoodIn wsL_ifSeated wsX6_ifSeated := goodIn_ca (goodIn_r _ [6, 7, 8, 9, 10, 11, 5, 12, 13, 14, 15, 16, 17, 18, 19, 20, 21, 22, 23, 24, 25, 26, 27, 28, 29, 30, 31, 32, 33, 34, 35, 36, 37, 38, 39, 40, 41, 42, 43, 44, 45, 46, 47, 48, 49, 50, 51, 52, 53, 54, 55, 56, 57, 58, 59, 60, 61, 62, 63, 64, 65, 66, 67, 68, 69, 70, 71, 72, 73, 74, 75, 76, 77, 78, 79, 80, 81, 82, 83, 84, 85, 86, 87, 88, 89, 90, 91, 92, 93, 94, 95, 96, 97, 98, 99, 100, 101, 102, 103, 104, 105, 106, 107, 108, 109, 110, 111, 112, 113, 114, 115, 116, 117, 118, 119, 120, 121, 122, 123, 124, 125, 126, 127, 128, 129, 130, 131, 132, 133, 134, 135, 136, 137, 138, 139, 140, 141, 142, 143, 144, 145, 146, 147, 148, 149, 150, 151, 152, 153, 154, 155, 156, 157, 158, 159, 160, 161, 162, 163, 164, 165, 166, 167, 168, 169, 170, 171, 172, 173, 174, 175, 176, 177, 178, 179] (by decide +kernel) (by decide +kernel)) (goodIn_sub (fun _ h => List.mem_cons_of_mem _ (List.mem_append_right _ h)) (by decide +kernel))
set_option maxRecDepth 20000 in
theorem gL_ifSeated_X6_ifSeated : GoodIn wsL_ifSeated (wsV RL 91 RX6 yX6_ifSeated wsX6_ifSeated) := goodIn_app (goodIn_of _ (by decide +kernel)) ggL_ifSeated_X6_ifSeated
theorem dL_ifSeated_0 : decode cL_ifSeated 0 = .ok (.aload_n 2, 1) := by decide +kernel
theorem dL_ifSeated_1 : decode cL_ifSeated 1 = .ok (.iconst 0, 1) := by decide +kernel
theorem dL_ifSeated_2 : decode cL_ifSeated 2 = .ok (.aload_n 0, 1) := by decide +kernel
theorem dL_ifSeated_3 : decode cL_ifSeated 3 = .ok (.iload_n 1, 1) := by decide +kernel
theorem dL_ifSeated_4 : decode cL_ifSeated 4 = .ok (.invokevirtual 91, 3) := by decide +kernel
theorem dL_ifSeated_7 : decode cL_ifSeated 7 = .ok (.i2l, 1) := by decide +kernel
theorem dL_ifSeated_8 : decode cL_ifSeated 8 = .ok (.lastore, 1) := by decide +kernel
theorem dL_ifSeated_9 : decode cL_ifSeated 9 = .ok (.goto 6, 3) := by decide +kernel
theorem dL_ifSeated_12 : decode cL_ifSeated 12 = .ok (.astore_n 3, 1) := by decide +kernel
theorem dL_ifSeated_13 : decode cL_ifSeated 13 = .ok (.iconst 1, 1) := by decide +kernel
theorem dL_ifSeated_14 : decode cL_ifSeated 14 = .ok (.ireturn, 1) := by decide +kernel
theorem dL_ifSeated_15 : decode cL_ifSeated 15 = .ok (.iconst 0, 1) := by decide +kernel
theorem dL_ifSeated_16 : decode cL_ifSeated 16 = .ok (.ireturn, 1) := by decide +kernel
set_option maxRecDepth 20000 in
theorem ggL_law_X6_init : GoodIn wsL_law wsX6_init := goodIn_r _ [9, 10, 11, 12, 13, 14, 15, 16, 17, 18, 19, 20, 21, 22, 23, 24, 25, 26, 27, 28, 29, 30, 31, 32, 33, 34, 35, 36, 37, 38, 39, 40, 41, 42, 43, 44, 45, 46, 47, 48, 49, 50, 51, 52, 53, 54, 55, 56, 57, 58, 59, 60, 61, 62, 63, 64, 65, 66, 67, 68, 69, 70, 71, 72, 995, 996, 997, 998, 999, 1000, 1001, 1002, 1003, 1004, 1005, 1006, 1007, 1008, 977, 978, 979, 980, 981, 982, 1009, 1010, 1011, 1012, 1013, 1014] (by decide +kernel) (by decide +kernel)
set_option maxRecDepth 20000 in
theorem gL_law_X6_init : GoodIn wsL_law (wsX6_init) := ggL_law_X6_init
set_option maxRecDepth 20000 in
theorem ggL_law_X7_init : GoodIn wsL_law wsX7_init := goodIn_r _ [75, 76, 11, 12, 32, 77, 78, 983, 984, 985, 986, 987, 988, 989, 990, 991, 992, 993, 994] (by decide +kernel) (by decide +kernel)
set_option maxRecDepth 20000 in
theorem gL_law_X7_init : GoodIn wsL_law (wsX7_init) := ggL_law_X7_init
set_option maxRecDepth 20000 in
theorem ggL_law_L_guest : GoodIn wsL_law wsL_guest := goodIn_ca (goodIn_ca (goodIn_r _ [82, 83, 84, 85, 86, 87, 2, 88, 89, 90, 91, 92, 16, 22, 93, 94, 95, 96, 97, 98, 21, 99, 100, 101, 102, 103, 104, 105, 65, 106, 107, 108, 15, 109, 33, 34, 35, 36, 37, 38, 39, 40, 44, 45, 110, 111, 112, 113, 56, 57, 58, 59, 114, 115, 116, 43, 117, 54, 55, 118, 119, 52, 120, 121, 122, 123, 124, 125, 126, 127, 128, 977, 978, 979, 980, 981, 982, 995, 996, 997, 998, 999, 1000, 1001, 1002, 1003, 1004, 1005, 1006, 1007, 1008, 1009, 1010, 1011, 1013, 1014] (by decide +kernel) (by decide +kernel)) (goodIn_sub (fun _ h => List.mem_append_left _ (List.mem_append_left _ (List.mem_append_right _ h))) (by decide +kernel))) (goodIn_sub (fun _ h => List.mem_append_left _ (List.mem_append_right _ h)) (by decide +kernel))
set_option maxRecDepth 20000 in
theorem gL_law_L_guest : GoodIn wsL_law (va_wsS RL 98 yL_guest wsL_guest) := goodIn_app (goodIn_of _ (by decide +kernel)) ggL_law_L_guest
set_option maxRecDepth 20000 in
theorem ggL_law_X7_guest : GoodIn wsL_law wsX7_guest := goodIn_r _ [132, 77, 133, 134, 5, 135, 136, 137, 138, 139, 140, 141, 142, 143, 144, 145, 146, 147, 148, 149, 150, 151, 152, 153, 154, 155, 156, 983, 984, 985, 986, 987, 988, 989, 990, 991, 992, 993, 994] (by decide +kernel) (by decide +kernel)
set_option maxRecDepth 20000 in
theorem gL_law_X7_guest : GoodIn wsL_law (wsV RL 103 RX7 yX7_guest wsX7_guest) := goodIn_app (goodIn_of _ (by decide +kernel)) ggL_law_X7_guest
set_option maxRecDepth 20000 in
theorem ggL_law_X7_thrown : GoodIn wsL_law wsX7_thrown := goodIn_r _ [160, 143, 983, 984, 985, 986, 987, 988, 989, 990, 991, 992, 993, 994] (by decide +kernel) (by decide +kernel)
set_option maxRecDepth 20000 in
theorem gL_law_X7_thrown : GoodIn wsL_law (wsV RL 104 RX7 yX7_thrown wsX7_thrown) := goodIn_app (goodIn_of _ (by decide +kernel)) ggL_law_X7_thrown
set_option maxRecDepth 20000 in
theorem ggL_law_L_wish : GoodIn wsL_law wsL_wish := goodIn_ca (goodIn_ca (goodIn_r _ [163, 164, 83, 165, 166, 167, 2, 168, 89, 90, 22, 16, 169, 170, 171, 172, 173, 174, 175, 176, 177, 15, 178, 110, 96, 97, 98, 21, 99, 100, 101, 102, 103, 104, 105, 65, 106, 107, 108, 109, 33, 34, 35, 36, 37, 38, 39, 40, 44, 45, 111, 112, 113, 56, 57, 58, 59, 114, 115, 116, 43, 117, 54, 55, 118, 119, 52, 120, 121, 179, 180, 181, 182, 127, 128, 977, 978, 979, 980, 981, 982, 995, 996, 997, 998, 999, 1000, 1001, 1002, 1003, 1004, 1005, 1006, 1007, 1008, 1009, 1010, 1011, 1013, 1014] (by decide +kernel) (by decide +kernel)) (goodIn_sub (fun _ h => List.mem_append_left _ (List.mem_append_left _ (List.mem_append_right _ h))) (by decide +kernel))) (goodIn_sub (fun _ h => List.mem_append_right _ h) (by decide +kernel))
set_option maxRecDepth 20000 in
theorem gL_law_L_wish : GoodIn wsL_law (va_wsS RL 107 yL_wish wsL_wish) := goodIn_app (goodIn_of _ (by decide +kernel)) ggL_law_L_wish
set_option maxRecDepth 20000 in
theorem ggL_law_X7_wish : GoodIn wsL_law wsX7_wish := goodIn_r _ [186, 187, 188, 189, 5, 190, 77, 136, 137, 138, 139, 140, 141, 142, 143, 144, 145, 146, 147, 148, 149, 150, 151, 152, 191, 192, 193, 194, 153, 154, 155, 156, 983, 984, 985, 986, 987, 988, 989, 990, 991, 992, 993, 994] (by decide +kernel) (by decide +kernel)
set_option maxRecDepth 20000 in
theorem gL_law_X7_wish : GoodIn wsL_law (wsV RL 109 RX7 yX7_wish wsX7_wish) := goodIn_app (goodIn_of _ (by decide +kernel)) ggL_law_X7_wish
set_option maxRecDepth 20000 in
theorem ggL_law_L_table : GoodIn wsL_law wsL_table := goodIn_ca (goodIn_ca (goodIn_r _ [197, 83, 84, 198, 199, 200, 2, 201, 89, 90, 91, 92, 16, 22, 96, 97, 98, 21, 99, 100, 101, 102, 103, 104, 105, 65, 106, 107, 108, 15, 109, 33, 34, 35, 36, 37, 38, 39, 40, 44, 45, 110, 111, 112, 113, 56, 57, 58, 59, 114, 115, 116, 43, 117, 54, 55, 118, 119, 52, 120, 121, 202, 203, 204, 205, 126, 127, 128, 977, 978, 979, 980, 981, 982, 995, 996, 997, 998, 999, 1000, 1001, 1002, 1003, 1004, 1005, 1006, 1007, 1008, 1009, 1010, 1011, 1013, 1014] (by decide +kernel) (by decide +kernel)) (goodIn_sub (fun _ h => List.mem_append_left _ (List.mem_append_left _ (List.mem_append_right _ h))) (by decide +kernel))) (goodIn_sub (fun _ h => List.mem_append_left _ (List.mem_append_right _ h)) (by decide +kernel))
set_option maxRecDepth 20000 in
theorem gL_law_L_table : GoodIn wsL_law (va_wsS RL 110 yL_table wsL_table) := goodIn_app (goodIn_of _ (by decide +kernel)) ggL_law_L_table
set_option maxRecDepth 20000 in
theorem ggL_law_X7_table : GoodIn wsL_law wsX7_table := goodIn_r _ [209, 77, 136, 137, 5, 138, 139, 140, 141, 142, 143, 144, 145, 146, 147, 148, 149, 150, 151, 152, 983, 984, 985, 986, 987, 988, 989, 990, 991, 992, 993, 994] (by decide +kernel) (by decide +kernel)
set_option maxRecDepth 20000 in
theorem gL_law_X7_table : GoodIn wsL_law (wsV RL 113 RX7 yX7_table wsX7_table) := goodIn_app (goodIn_of _ (by decide +kernel)) ggL_law_X7_table
set_option maxRecDepth 20000 in
theorem ggL_law_L_feud : GoodIn wsL_law wsL_feud := goodIn_ca (goodIn_ca (goodIn_r _ [212, 83, 84, 213, 214, 215, 2, 216, 91, 92, 16, 22, 217, 218, 219, 89, 90, 93, 94, 95, 220, 221, 222, 15, 223, 44, 224, 225, 226, 227, 119, 52, 120, 228, 51, 53, 229, 230, 231, 43, 232, 55, 233, 234, 235, 236, 54, 237, 238, 239, 240, 96, 97, 98, 21, 99, 100, 101, 102, 103, 104, 105, 65, 106, 107, 108, 109, 33, 34, 35, 36, 37, 38, 39, 40, 45, 110, 111, 112, 113, 56, 57, 58, 59, 114, 115, 116, 117, 118, 121, 241, 242, 243, 244, 245, 246, 247, 248, 249, 250, 127, 128, 251, 252, 253, 254, 255, 256, 257, 258, 259, 260, 261, 262, 263, 264, 265, 266, 267, 180, 181, 268, 269, 270, 271, 272, 273, 274, 275, 126, 276, 277, 278, 279, 977, 978, 979, 980, 981, 982, 995, 996, 997, 998, 999, 1000, 1001, 1002, 1003, 1004, 1005, 1006, 1007, 1008, 1013, 1014, 1009, 1010, 1011] (by decide +kernel) (by decide +kernel)) (goodIn_sub (fun _ h => List.mem_append_left _ (List.mem_append_right _ h)) (by decide +kernel))) (goodIn_sub (fun _ h => List.mem_append_left _ (List.mem_append_left _ (List.mem_append_right _ h))) (by decide +kernel))
set_option maxRecDepth 20000 in
theorem gL_law_L_feud : GoodIn wsL_law (va_wsS RL 114 yL_feud wsL_feud) := goodIn_app (goodIn_of _ (by decide +kernel)) ggL_law_L_feud
set_option maxRecDepth 20000 in
theorem ggL_law_X7_feud : GoodIn wsL_law wsX7_feud := goodIn_r _ [283, 77, 284, 285, 5, 286, 133, 134, 135, 136, 137, 138, 287, 288, 289, 290, 291, 292, 293, 139, 140, 141, 142, 143, 144, 145, 146, 147, 148, 149, 150, 151, 152, 294, 295, 296, 297, 298, 299, 300, 301, 191, 192, 193, 194, 302, 303, 304, 305, 153, 154, 155, 156, 983, 984, 985, 986, 987, 988, 989, 990, 991, 992, 993, 994] (by decide +kernel) (by decide +kernel)
set_option maxRecDepth 20000 in
theorem gL_law_X7_feud : GoodIn wsL_law (wsV RL 116 RX7 yX7_feud wsX7_feud) := goodIn_app (goodIn_of _ (by decide +kernel)) ggL_law_X7_feud
set_option maxRecDepth 20000 in
theorem ggL_law_L_peace : GoodIn wsL_law wsL_peace := goodIn_ca (goodIn_ca (goodIn_r _ [308, 83, 84, 309, 310, 311, 2, 312, 91, 92, 16, 22, 217, 218, 219, 89, 90, 93, 94, 95, 220, 221, 222, 15, 223, 44, 224, 225, 226, 227, 119, 52, 120, 228, 51, 53, 229, 230, 231, 43, 232, 55, 233, 234, 235, 236, 54, 96, 97, 98, 21, 99, 100, 101, 102, 103, 104, 105, 65, 106, 107, 108, 109, 33, 34, 35, 36, 37, 38, 39, 40, 45, 110, 111, 112, 113, 56, 57, 58, 59, 114, 115, 116, 117, 118, 121, 313, 314, 277, 278, 279, 250, 127, 128, 315, 316, 317, 318, 977, 978, 979, 980, 981, 982, 995, 996, 997, 998, 999, 1000, 1001, 1002, 1003, 1004, 1005, 1006, 1007, 1008, 1013, 1014, 1009, 1010, 1011] (by decide +kernel) (by decide +kernel)) (goodIn_sub (fun _ h => List.mem_append_left _ (List.mem_append_right _ h)) (by decide +kernel))) (goodIn_sub (fun _ h => List.mem_append_left _ (List.mem_append_left _ (List.mem_append_right _ h))) (by decide +kernel))
set_option maxRecDepth 20000 in
theorem gL_law_L_peace : GoodIn wsL_law (va_wsS RL 117 yL_peace wsL_peace) := goodIn_app (goodIn_of _ (by decide +kernel)) ggL_law_L_peace
set_option maxRecDepth 20000 in
theorem ggL_law_X7_peace : GoodIn wsL_law wsX7_peace := goodIn_r _ [322, 77, 284, 285, 5, 286, 133, 134, 135, 136, 137, 138, 287, 288, 289, 290, 291, 292, 293, 139, 140, 141, 142, 143, 144, 145, 146, 147, 148, 149, 150, 151, 152, 983, 984, 985, 986, 987, 988, 989, 990, 991, 992, 993, 994] (by decide +kernel) (by decide +kernel)
set_option maxRecDepth 20000 in
theorem gL_law_X7_peace : GoodIn wsL_law (wsV RL 119 RX7 yX7_peace wsX7_peace) := goodIn_app (goodIn_of _ (by decide +kernel)) ggL_law_X7_peace
set_option maxRecDepth 20000 in
theorem ggL_law_L_set : GoodIn wsL_law wsL_set := goodIn_ca (goodIn_ca (goodIn_r _ [325, 164, 83, 326, 327, 328, 2, 329, 173, 174, 89, 90, 330, 331, 22, 16, 179, 180, 58, 181, 96, 97, 98, 21, 99, 100, 101, 102, 103, 104, 105, 65, 106, 107, 108, 15, 109, 33, 34, 35, 36, 37, 38, 39, 40, 44, 45, 110, 111, 112, 113, 56, 57, 59, 114, 115, 116, 43, 117, 54, 55, 118, 119, 52, 120, 121, 182, 127, 128, 977, 978, 979, 980, 981, 982, 995, 996, 997, 998, 999, 1000, 1001, 1002, 1003, 1004, 1005, 1006, 1007, 1008, 1009, 1010, 1011, 1013, 1014] (by decide +kernel) (by decide +kernel)) (goodIn_sub (fun _ h => List.mem_append_right _ h) (by decide +kernel))) (goodIn_sub (fun _ h => List.mem_append_left _ (List.mem_append_left _ (List.mem_append_right _ h))) (by decide +kernel))
set_option maxRecDepth 20000 in
theorem gL_law_L_set : GoodIn wsL_law (va_wsS RL 120 yL_set wsL_set) := goodIn_app (goodIn_of _ (by decide +kernel)) ggL_law_L_set
set_option maxRecDepth 20000 in
theorem ggL_law_X7_set : GoodIn wsL_law wsX7_set := goodIn_r _ [335, 77, 136, 137, 5, 138, 336, 337, 338, 139, 140, 141, 142, 143, 144, 145, 146, 147, 148, 149, 150, 151, 152, 983, 984, 985, 986, 987, 988, 989, 990, 991, 992, 993, 994] (by decide +kernel) (by decide +kernel)
set_option maxRecDepth 20000 in
theorem gL_law_X7_set : GoodIn wsL_law (wsV RL 122 RX7 yX7_set wsX7_set) := goodIn_app (goodIn_of _ (by decide +kernel)) ggL_law_X7_set
set_option maxRecDepth 20000 in
theorem ggL_law_L_sit : GoodIn wsL_law wsL_sit := goodIn_ca (goodIn_ca (goodIn_r _ [341, 164, 84, 342, 343, 344, 2, 345, 91, 92, 16, 22, 346, 347, 348, 349, 169, 170, 171, 172, 173, 174, 175, 176, 177, 15, 178, 110, 350, 351, 352, 353, 354, 355, 356, 357, 358, 359, 360, 361, 111, 259, 260, 261, 262, 38, 362, 363, 364, 365, 34, 33, 36, 40, 263, 264, 265, 266, 39, 366, 367, 368, 267, 180, 58, 181, 369, 370, 371, 372, 44, 373, 316, 317, 43, 318, 55, 374, 234, 235, 236, 54, 375, 376, 377, 378, 255, 256, 257, 258, 96, 97, 98, 21, 99, 100, 101, 102, 103, 104, 105, 65, 106, 107, 108, 109, 35, 37, 45, 112, 113, 56, 57, 59, 114, 115, 116, 117, 118, 119, 52, 120, 121, 379, 380, 381, 382, 383, 384, 385, 386, 272, 273, 274, 275, 126, 127, 128, 276, 277, 278, 279, 233, 250, 245, 246, 247, 248, 249, 238, 239, 240, 387, 388, 389, 390, 391, 392, 393, 394, 395, 396, 397, 398, 399, 400, 401, 402, 403, 404, 405, 406, 407, 408, 409, 410, 411, 412, 413, 977, 978, 979, 980, 981, 982, 995, 996, 997, 998, 999, 1000, 1001, 1002, 1003, 1004, 1005, 1006, 1007, 1008, 1013, 1014, 1009, 1010, 1011] (by decide +kernel) (by decide +kernel)) (goodIn_sub (fun _ h => List.mem_append_left _ (List.mem_append_right _ h)) (by decide +kernel))) (goodIn_sub (fun _ h => List.mem_append_right _ h) (by decide +kernel))
set_option maxRecDepth 20000 in
theorem gL_law_L_sit : GoodIn wsL_law (va_wsS RL 123 yL_sit wsL_sit) := goodIn_app (goodIn_of _ (by decide +kernel)) ggL_law_L_sit
set_option maxRecDepth 20000 in
theorem ggL_law_X7_sit : GoodIn wsL_law wsX7_sit := goodIn_r _ [417, 187, 188, 189, 5, 190, 77, 136, 137, 138, 418, 419, 420, 421, 422, 423, 424, 425, 426, 427, 428, 429, 430, 431, 432, 433, 191, 192, 193, 194, 434, 435, 436, 287, 288, 289, 290, 291, 292, 293, 139, 140, 141, 142, 143, 144, 145, 146, 147, 148, 149, 150, 151, 152, 437, 438, 439, 440, 302, 303, 304, 305, 153, 154, 155, 156, 441, 442, 443, 444, 445, 446, 447, 448, 449, 450, 451, 452, 983, 984, 985, 986, 987, 988, 989, 990, 991, 992, 993, 994] (by decide +kernel) (by decide +kernel)
set_option maxRecDepth 20000 in
theorem gL_law_X7_sit : GoodIn wsL_law (wsV RL 126 RX7 yX7_sit wsX7_sit) := goodIn_app (goodIn_of _ (by decide +kernel)) ggL_law_X7_sit
set_option maxRecDepth 20000 in
theorem ggL_law_L_rise : GoodIn wsL_law wsL_rise := goodIn_ca (goodIn_ca (goodIn_r _ [455, 164, 84, 456, 457, 458, 2, 459, 91, 92, 16, 22, 169, 170, 171, 172, 173, 174, 175, 176, 177, 15, 178, 110, 460, 384, 385, 386, 36, 267, 180, 58, 181, 96, 97, 98, 21, 99, 100, 101, 102, 103, 104, 105, 65, 106, 107, 108, 109, 33, 34, 35, 37, 38, 39, 40, 44, 45, 111, 112, 113, 56, 57, 59, 114, 115, 116, 43, 117, 54, 55, 118, 119, 52, 120, 121, 461, 273, 274, 275, 126, 127, 128, 276, 277, 278, 279, 233, 234, 235, 236, 250, 387, 388, 389, 390, 391, 392, 393, 394, 395, 396, 397, 398, 399, 367, 368, 400, 401, 402, 403, 404, 405, 406, 407, 408, 409, 410, 260, 261, 262, 411, 412, 413, 977, 978, 979, 980, 981, 982, 995, 996, 997, 998, 999, 1000, 1001, 1002, 1003, 1004, 1005, 1006, 1007, 1008, 1009, 1010, 1011, 1013, 1014] (by decide +kernel) (by decide +kernel)) (goodIn_sub (fun _ h => List.mem_append_left _ (List.mem_append_right _ h)) (by decide +kernel))) (goodIn_sub (fun _ h => List.mem_append_right _ h) (by decide +kernel))
set_option maxRecDepth 20000 in
theorem gL_law_L_rise : GoodIn wsL_law (va_wsS RL 127 yL_rise wsL_rise) := goodIn_app (goodIn_of _ (by decide +kernel)) ggL_law_L_rise
set_option maxRecDepth 20000 in
theorem ggL_law_X7_rise : GoodIn wsL_law wsX7_rise := goodIn_r _ [465, 187, 188, 189, 5, 190, 77, 136, 137, 138, 191, 192, 193, 194, 139, 140, 141, 142, 143, 144, 145, 146, 147, 148, 149, 150, 151, 152, 302, 303, 304, 305, 153, 154, 155, 156, 441, 442, 443, 444, 445, 446, 447, 448, 449, 450, 451, 452, 434, 435, 436, 983, 984, 985, 986, 987, 988, 989, 990, 991, 992, 993, 994] (by decide +kernel) (by decide +kernel)
set_option maxRecDepth 20000 in
theorem gL_law_X7_rise : GoodIn wsL_law (wsV RL 129 RX7 yX7_rise wsX7_rise) := goodIn_app (goodIn_of _ (by decide +kernel)) ggL_law_X7_rise
set_option maxRecDepth 20000 in
theorem ggL_law_L_swap : GoodIn wsL_law wsL_swap := goodIn_ca (goodIn_ca (goodIn_ca (goodIn_r _ [468, 164, 83, 84, 469, 470, 471, 2, 472, 89, 90, 91, 92, 17, 16, 22, 169, 170, 171, 172, 173, 174, 175, 176, 177, 15, 178, 110, 473, 107, 108, 109, 33, 34, 35, 36, 37, 38, 39, 40, 44, 45, 111, 112, 113, 56, 57, 58, 59, 114, 115, 116, 43, 117, 54, 55, 118, 119, 52, 120, 121, 474, 475, 476, 477, 383, 384, 385, 386, 267, 180, 181, 272, 273, 274, 275, 126, 127, 128, 276, 277, 278, 279, 233, 234, 235, 236, 250, 478, 479, 480, 481, 482, 483, 355, 356, 357, 358, 359, 360, 361, 259, 260, 261, 262, 484, 363, 364, 365, 263, 264, 265, 266, 366, 367, 368, 369, 370, 371, 372, 373, 316, 317, 318, 374, 375, 376, 377, 378, 255, 256, 257, 258, 485, 380, 381, 382, 245, 246, 247, 248, 249, 238, 239, 240, 96, 97, 98, 21, 99, 100, 101, 102, 103, 104, 105, 65, 106, 387, 388, 389, 390, 391, 392, 393, 394, 395, 396, 397, 398, 399, 400, 401, 402, 403, 404, 405, 406, 407, 408, 409, 410, 411, 412, 413, 977, 978, 979, 980, 981, 982, 995, 996, 997, 998, 999, 1000, 1001, 1002, 1003, 1004, 1005, 1006, 1007, 1008, 1013, 1014, 1009, 1010, 1011] (by decide +kernel) (by decide +kernel)) (goodIn_sub (fun _ h => List.mem_append_left _ (List.mem_append_left _ (List.mem_append_right _ h))) (by decide +kernel))) (goodIn_sub (fun _ h => List.mem_append_left _ (List.mem_append_right _ h)) (by decide +kernel))) (goodIn_sub (fun _ h => List.mem_append_right _ h) (by decide +kernel))
set_option maxRecDepth 20000 in
theorem gL_law_L_swap : GoodIn wsL_law (va_wsS RL 130 yL_swap wsL_swap) := goodIn_app (goodIn_of _ (by decide +kernel)) ggL_law_L_swap
set_option maxRecDepth 20000 in
theorem ggL_law_X7_swap : GoodIn wsL_law wsX7_swap := goodIn_r _ [489, 187, 188, 189, 5, 190, 77, 136, 137, 138, 191, 192, 193, 194, 490, 491, 492, 493, 149, 150, 151, 152, 302, 303, 304, 305, 153, 154, 155, 156, 426, 427, 428, 429, 430, 431, 432, 433, 434, 435, 436, 287, 288, 289, 290, 291, 292, 293, 437, 438, 439, 440, 139, 140, 141, 142, 143, 144, 145, 146, 147, 148, 441, 442, 443, 444, 445, 446, 447, 448, 449, 450, 451, 452, 983, 984, 985, 986, 987, 988, 989, 990, 991, 992, 993, 994] (by decide +kernel) (by decide +kernel)
set_option maxRecDepth 20000 in
theorem gL_law_X7_swap : GoodIn wsL_law (wsV RL 132 RX7 yX7_swap wsX7_swap) := goodIn_app (goodIn_of _ (by decide +kernel)) ggL_law_X7_swap
set_option maxRecDepth 20000 in
theorem ggL_law_X6_seatAll : GoodIn wsL_law wsX6_seatAll := goodIn_r _ [497, 22, 16, 96, 97, 98, 21, 99, 100, 101, 102, 103, 104, 105, 65, 106, 107, 108, 15, 109, 33, 34, 35, 36, 37, 38, 39, 40, 44, 45, 110, 111, 112, 113, 56, 57, 58, 59, 114, 115, 116, 43, 117, 54, 55, 118, 119, 52, 120, 121, 498, 499, 500, 501, 383, 384, 385, 386, 267, 180, 181, 502, 503, 504, 505, 259, 260, 261, 262, 484, 363, 364, 365, 263, 264, 265, 266, 366, 367, 368, 369, 370, 371, 372, 373, 316, 317, 318, 374, 234, 235, 236, 375, 376, 377, 378, 255, 256, 257, 258, 506, 507, 389, 508, 395, 396, 397, 398, 399, 403, 404, 405, 406, 407, 408, 409, 176, 177, 178, 410, 411, 412, 413, 485, 380, 381, 382, 272, 273, 274, 275, 126, 127, 128, 276, 277, 278, 279, 233, 250, 245, 246, 247, 248, 249, 238, 239, 240, 977, 978, 979, 980, 981, 982, 1009, 1010, 1011, 995, 996, 997, 998, 999, 1000, 1001, 1002, 1003, 1004, 1005, 1006, 1007, 1008, 1013, 1014] (by decide +kernel) (by decide +kernel)
set_option maxRecDepth 20000 in
theorem gL_law_X6_seatAll : GoodIn wsL_law (wsV RL 133 RX6 yX6_seatAll wsX6_seatAll) := goodIn_app (goodIn_of _ (by decide +kernel)) ggL_law_X6_seatAll
set_option maxRecDepth 20000 in
theorem ggL_law_X7_seatAll : GoodIn wsL_law wsX7_seatAll := goodIn_r _ [512, 143, 144, 145, 146, 5, 147, 148, 149, 150, 151, 152, 77, 513, 514, 515, 516, 191, 192, 193, 194, 517, 518, 519, 520, 426, 427, 428, 429, 430, 431, 432, 433, 434, 435, 436, 287, 288, 289, 290, 291, 292, 293, 521, 522, 523, 524, 153, 154, 155, 156, 441, 442, 443, 444, 445, 446, 447, 448, 449, 450, 451, 452, 437, 438, 439, 440, 302, 303, 304, 305, 983, 984, 985, 986, 987, 988, 989, 990, 991, 992, 993, 994] (by decide +kernel) (by decide +kernel)
set_option maxRecDepth 20000 in
theorem gL_law_X7_seatAll : GoodIn wsL_law (wsV RL 136 RX7 yX7_seatAll wsX7_seatAll) := goodIn_app (goodIn_of _ (by decide +kernel)) ggL_law_X7_seatAll
set_option maxRecDepth 20000 in
theorem ggL_law_L_append : GoodIn wsL_law wsL_append := goodIn_ca (goodIn_ca (goodIn_r _ [527, 83, 84, 528, 529, 530, 2, 531, 89, 90, 91, 92, 26, 237, 238, 239, 43, 240, 55, 54, 532, 246, 247, 248, 249, 250, 127, 58, 128, 315, 316, 317, 318, 977, 978, 979, 980, 981, 982, 1012, 1013, 1014] (by decide +kernel) (by decide +kernel)) (goodIn_sub (fun _ h => List.mem_append_left _ (List.mem_append_left _ (List.mem_append_right _ h))) (by decide +kernel))) (goodIn_sub (fun _ h => List.mem_append_left _ (List.mem_append_right _ h)) (by decide +kernel))
set_option maxRecDepth 20000 in
theorem gL_law_L_append : GoodIn wsL_law (va_wsS RL 137 yL_append wsL_append) := goodIn_app (goodIn_of _ (by decide +kernel)) ggL_law_L_append
set_option maxRecDepth 20000 in
theorem ggL_law_X7_append : GoodIn wsL_law wsX7_append := goodIn_r _ [536, 537, 78, 136, 137, 5, 138, 139, 140, 141, 142, 143, 983, 984, 985, 986, 987, 988, 989, 990, 991, 992, 993, 994] (by decide +kernel) (by decide +kernel)
set_option maxRecDepth 20000 in
theorem gL_law_X7_append : GoodIn wsL_law (wsV RL 139 RX7 yX7_append wsX7_append) := goodIn_app (goodIn_of _ (by decide +kernel)) ggL_law_X7_append
set_option maxRecDepth 20000 in
theorem ggL_law_X6_clearBuffer : GoodIn wsL_law wsX6_clearBuffer := goodIn_r _ [541, 26, 315, 316, 317, 43, 318, 55, 542, 543, 544, 545, 977, 978, 979, 980, 981, 982, 1012, 1013, 1014] (by decide +kernel) (by decide +kernel)
set_option maxRecDepth 20000 in
theorem gL_law_X6_clearBuffer : GoodIn wsL_law (wsV RL 140 RX6 yX6_clearBuffer wsX6_clearBuffer) := goodIn_app (goodIn_of _ (by decide +kernel)) ggL_law_X6_clearBuffer
set_option maxRecDepth 20000 in
theorem ggL_law_X7_clearBuffer : GoodIn wsL_law wsX7_clearBuffer := goodIn_r _ [549, 143, 537, 983, 984, 985, 986, 987, 988, 989, 990, 991, 992, 993, 994] (by decide +kernel) (by decide +kernel)
set_option maxRecDepth 20000 in
theorem gL_law_X7_clearBuffer : GoodIn wsL_law (wsV RL 143 RX7 yX7_clearBuffer wsX7_clearBuffer) := goodIn_app (goodIn_of _ (by decide +kernel)) ggL_law_X7_clearBuffer
set_option maxRecDepth 20000 in
theorem ggL_law_X6_firstError : GoodIn wsL_law wsX6_firstError := goodIn_r _ [553, 26, 554, 555, 556, 25, 557, 71, 558, 316, 317, 43, 318, 55, 559, 234, 235, 236, 54, 560, 561, 562, 563, 564, 565, 566, 567, 568, 569, 570, 571, 977, 978, 979, 980, 981, 982, 1012, 1013, 1014] (by decide +kernel) (by decide +kernel)
set_option maxRecDepth 20000 in
theorem gL_law_X6_firstError : GoodIn wsL_law (wsV RL 144 RX6 yX6_firstError wsX6_firstError) := goodIn_app (goodIn_of _ (by decide +kernel)) ggL_law_X6_firstError
set_option maxRecDepth 20000 in
theorem ggL_law_X7_firstError : GoodIn wsL_law wsX7_firstError := goodIn_r _ [575, 143, 576, 577, 578, 579, 5, 580, 537, 581, 582, 583, 584, 585, 586, 587, 588, 589, 590, 591, 592, 593, 594, 595, 596, 78, 597, 598, 599, 600, 601, 602, 603, 604, 136, 137, 138, 983, 984, 985, 986, 987, 988, 989, 990, 991, 992, 993, 994] (by decide +kernel) (by decide +kernel)
set_option maxRecDepth 20000 in
theorem gL_law_X7_firstError : GoodIn wsL_law (wsV RL 147 RX7 yX7_firstError wsX7_firstError) := goodIn_app (goodIn_of _ (by decide +kernel)) ggL_law_X7_firstError
set_option maxRecDepth 20000 in
theorem ggL_law_L_seats : GoodIn wsL_law wsL_seats := goodIn_ca (goodIn_r _ [607, 83, 608, 609, 610, 2, 611, 89, 90, 26, 22, 16, 612, 613, 614, 25, 615, 71, 558, 316, 317, 43, 318, 55, 559, 234, 235, 236, 54, 560, 561, 562, 563, 564, 565, 566, 567, 568, 569, 570, 571, 96, 97, 98, 21, 99, 100, 101, 102, 103, 104, 105, 65, 106, 107, 108, 15, 109, 33, 34, 35, 36, 37, 38, 39, 40, 44, 45, 110, 111, 112, 113, 56, 57, 58, 59, 114, 115, 116, 117, 118, 119, 52, 120, 121, 616, 617, 618, 619, 620, 621, 622, 623, 624, 625, 626, 627, 628, 176, 177, 178, 629, 384, 385, 386, 267, 180, 181, 630, 273, 274, 275, 126, 127, 128, 276, 277, 278, 279, 233, 250, 631, 632, 633, 634, 635, 479, 480, 481, 482, 483, 355, 356, 357, 358, 359, 360, 361, 259, 260, 261, 262, 484, 363, 364, 365, 263, 264, 265, 266, 366, 367, 368, 369, 370, 371, 372, 373, 374, 375, 376, 377, 378, 255, 256, 257, 258, 636, 380, 381, 382, 383, 272, 245, 246, 247, 248, 249, 238, 239, 240, 542, 543, 544, 545, 977, 978, 979, 980, 981, 982, 1012, 1013, 1014, 1009, 1010, 1011, 995, 996, 997, 998, 999, 1000, 1001, 1002, 1003, 1004, 1005, 1006, 1007, 1008] (by decide +kernel) (by decide +kernel)) (goodIn_sub (fun _ h => List.mem_append_left _ (List.mem_append_left _ (List.mem_append_right _ h))) (by decide +kernel))
set_option maxRecDepth 20000 in
theorem gL_law_L_seats : GoodIn wsL_law (va_wsS RL 148 yL_seats wsL_seats) := goodIn_app (goodIn_of _ (by decide +kernel)) ggL_law_L_seats
set_option maxRecDepth 20000 in
theorem ggL_law_X7_seats : GoodIn wsL_law wsX7_seats := goodIn_r _ [640, 576, 537, 577, 578, 579, 5, 580, 581, 582, 583, 584, 585, 586, 587, 588, 589, 590, 591, 592, 593, 594, 595, 596, 78, 597, 598, 599, 600, 601, 602, 603, 604, 136, 137, 138, 139, 140, 141, 142, 143, 144, 145, 146, 147, 148, 149, 150, 151, 152, 77, 641, 642, 643, 644, 187, 188, 189, 190, 191, 192, 193, 194, 302, 303, 304, 305, 153, 154, 155, 156, 418, 419, 420, 421, 422, 423, 424, 425, 426, 427, 428, 429, 430, 431, 432, 433, 434, 435, 436, 287, 288, 289, 290, 291, 292, 293, 437, 438, 439, 440, 983, 984, 985, 986, 987, 988, 989, 990, 991, 992, 993, 994] (by decide +kernel) (by decide +kernel)
set_option maxRecDepth 20000 in
theorem gL_law_X7_seats : GoodIn wsL_law (wsV RL 151 RX7 yX7_seats wsX7_seats) := goodIn_app (goodIn_of _ (by decide +kernel)) ggL_law_X7_seats
set_option maxRecDepth 20000 in
theorem ggL_law_L_told : GoodIn wsL_law wsL_told := goodIn_ca (goodIn_ca (goodIn_r _ [647, 164, 83, 648, 649, 650, 2, 651, 89, 90, 16, 652, 653, 654, 655, 173, 174, 656, 359, 360, 15, 361, 111, 657, 658, 659, 660, 33, 259, 260, 261, 262, 38, 263, 264, 265, 266, 39, 267, 180, 58, 181, 366, 367, 368, 977, 978, 979, 980, 981, 982, 995, 996, 997, 998, 999, 1000, 1001, 1002, 1003, 1004, 1005, 1006, 1007, 1008] (by decide +kernel) (by decide +kernel)) (goodIn_sub (fun _ h => List.mem_append_left _ (List.mem_append_left _ (List.mem_append_right _ h))) (by decide +kernel))) (goodIn_sub (fun _ h => List.mem_append_right _ h) (by decide +kernel))
set_option maxRecDepth 20000 in
theorem gL_law_L_told : GoodIn wsL_law (va_wsS RL 152 yL_told wsL_told) := goodIn_app (goodIn_of _ (by decide +kernel)) ggL_law_L_told
set_option maxRecDepth 20000 in
theorem ggL_law_X7_told : GoodIn wsL_law wsX7_told := goodIn_r _ [664, 422, 423, 424, 5, 425, 77, 136, 137, 138, 139, 140, 141, 142, 143, 665, 666, 667, 668, 430, 431, 432, 433, 191, 192, 193, 194, 434, 435, 436, 983, 984, 985, 986, 987, 988, 989, 990, 991, 992, 993, 994] (by decide +kernel) (by decide +kernel)
set_option maxRecDepth 20000 in
theorem gL_law_X7_told : GoodIn wsL_law (wsV RL 154 RX7 yX7_told wsX7_told) := goodIn_app (goodIn_of _ (by decide +kernel)) ggL_law_X7_told
set_option maxRecDepth 20000 in
theorem ggL_law_L_undo : GoodIn wsL_law wsL_undo := goodIn_ca (goodIn_r _ [671, 84, 672, 673, 674, 2, 675, 91, 92, 22, 16, 676, 677, 678, 21, 679, 101, 680, 681, 682, 683, 100, 102, 103, 104, 105, 65, 106, 107, 108, 15, 109, 33, 34, 35, 36, 37, 38, 39, 40, 44, 45, 110, 111, 112, 113, 56, 57, 58, 59, 114, 115, 116, 43, 117, 54, 55, 118, 119, 52, 120, 121, 977, 978, 979, 980, 981, 982, 1009, 1010, 1011, 995, 996, 997, 998, 999, 1000, 1001, 1002, 1003, 1004, 1005, 1006, 1007, 1008, 1013, 1014] (by decide +kernel) (by decide +kernel)) (goodIn_sub (fun _ h => List.mem_append_left _ (List.mem_append_right _ h)) (by decide +kernel))
set_option maxRecDepth 20000 in
theorem gL_law_L_undo : GoodIn wsL_law (va_wsS RL 155 yL_undo wsL_undo) := goodIn_app (goodIn_of _ (by decide +kernel)) ggL_law_L_undo
set_option maxRecDepth 20000 in
theorem ggL_law_X7_undo : GoodIn wsL_law wsX7_undo := goodIn_r _ [687, 148, 139, 140, 141, 5, 142, 143, 149, 150, 151, 152, 77, 983, 984, 985, 986, 987, 988, 989, 990, 991, 992, 993, 994] (by decide +kernel) (by decide +kernel)
set_option maxRecDepth 20000 in
theorem gL_law_X7_undo : GoodIn wsL_law (wsV RL 157 RX7 yX7_undo wsX7_undo) := goodIn_app (goodIn_of _ (by decide +kernel)) ggL_law_X7_undo
set_option maxRecDepth 20000 in
theorem ggL_law_X6_keep : GoodIn wsL_law wsX6_keep := goodIn_r _ [691, 18, 16, 27, 473, 107, 108, 15, 109, 33, 34, 35, 36, 37, 38, 39, 40, 44, 45, 110, 111, 112, 113, 56, 57, 58, 59, 114, 115, 116, 43, 117, 54, 55, 118, 119, 52, 120, 121, 315, 316, 317, 318, 977, 978, 979, 980, 981, 982, 995, 996, 997, 998, 999, 1000, 1001, 1002, 1003, 1004, 1005, 1006, 1007, 1008, 1013, 1014] (by decide +kernel) (by decide +kernel)
set_option maxRecDepth 20000 in
theorem gL_law_X6_keep : GoodIn wsL_law (wsV RL 158 RX6 yX6_keep wsX6_keep) := goodIn_app (goodIn_of _ (by decide +kernel)) ggL_law_X6_keep
set_option maxRecDepth 20000 in
theorem ggL_law_X7_keep : GoodIn wsL_law wsX7_keep := goodIn_r _ [695, 143, 696, 77, 149, 150, 151, 5, 152, 983, 984, 985, 986, 987, 988, 989, 990, 991, 992, 993, 994] (by decide +kernel) (by decide +kernel)
set_option maxRecDepth 20000 in
theorem gL_law_X7_keep : GoodIn wsL_law (wsV RL 161 RX7 yX7_keep wsX7_keep) := goodIn_app (goodIn_of _ (by decide +kernel)) ggL_law_X7_keep
set_option maxRecDepth 20000 in
theorem ggL_law_L_restore : GoodIn wsL_law wsL_restore := goodIn_ca (goodIn_r _ [699, 84, 700, 701, 702, 2, 703, 91, 92, 27, 22, 16, 18, 96, 97, 98, 21, 99, 100, 101, 102, 103, 104, 105, 65, 106, 107, 108, 15, 109, 33, 34, 35, 36, 37, 38, 39, 40, 44, 45, 110, 111, 112, 113, 56, 57, 58, 59, 114, 115, 116, 43, 117, 54, 55, 118, 119, 52, 120, 121, 473, 315, 316, 317, 318, 977, 978, 979, 980, 981, 982, 995, 996, 997, 998, 999, 1000, 1001, 1002, 1003, 1004, 1005, 1006, 1007, 1008, 1009, 1010, 1011, 1013, 1014] (by decide +kernel) (by decide +kernel)) (goodIn_sub (fun _ h => List.mem_append_left _ (List.mem_append_right _ h)) (by decide +kernel))
set_option maxRecDepth 20000 in
theorem gL_law_L_restore : GoodIn wsL_law (va_wsS RL 162 yL_restore wsL_restore) := goodIn_app (goodIn_of _ (by decide +kernel)) ggL_law_L_restore
set_option maxRecDepth 20000 in
theorem ggL_law_X7_restore : GoodIn wsL_law wsX7_restore := goodIn_r _ [707, 696, 77, 139, 140, 141, 5, 142, 143, 144, 145, 146, 147, 148, 149, 150, 151, 152, 983, 984, 985, 986, 987, 988, 989, 990, 991, 992, 993, 994] (by decide +kernel) (by decide +kernel)
set_option maxRecDepth 20000 in
theorem gL_law_X7_restore : GoodIn wsL_law (wsV RL 164 RX7 yX7_restore wsX7_restore) := goodIn_app (goodIn_of _ (by decide +kernel)) ggL_law_X7_restore
set_option maxRecDepth 20000 in
theorem ggL_law_L_guestOf : GoodIn wsL_law wsL_guestOf := goodIn_ca (goodIn_ca (goodIn_r _ [710, 164, 83, 711, 712, 713, 2, 714, 89, 90, 169, 170, 171, 172, 173, 174, 16, 175, 176, 177, 15, 178, 110, 715, 716, 717, 718, 179, 180, 58, 181, 719, 401, 389, 402, 394, 384, 385, 386, 36, 267, 395, 403, 404, 405, 406, 407, 52, 408, 409, 410, 260, 261, 262, 38, 720, 392, 393, 396, 397, 398, 399, 367, 368, 400, 411, 412, 413, 977, 978, 979, 980, 981, 982, 995, 996, 997, 998, 999, 1000, 1001, 1002, 1003, 1004, 1005, 1006, 1007, 1008] (by decide +kernel) (by decide +kernel)) (goodIn_sub (fun _ h => List.mem_append_left _ (List.mem_append_left _ (List.mem_append_right _ h))) (by decide +kernel))) (goodIn_sub (fun _ h => List.mem_append_right _ h) (by decide +kernel))
set_option maxRecDepth 20000 in
theorem gL_law_L_guestOf : GoodIn wsL_law (va_wsS RL 165 yL_guestOf wsL_guestOf) := goodIn_app (goodIn_of _ (by decide +kernel)) ggL_law_L_guestOf
set_option maxRecDepth 20000 in
theorem ggL_law_X7_guestOf : GoodIn wsL_law wsX7_guestOf := goodIn_r _ [724, 187, 188, 189, 5, 190, 77, 136, 137, 138, 139, 140, 141, 142, 143, 725, 726, 727, 728, 191, 192, 193, 194, 449, 450, 451, 452, 445, 446, 447, 448, 434, 435, 436, 983, 984, 985, 986, 987, 988, 989, 990, 991, 992, 993, 994] (by decide +kernel) (by decide +kernel)
set_option maxRecDepth 20000 in
theorem gL_law_X7_guestOf : GoodIn wsL_law (wsV RL 167 RX7 yX7_guestOf wsX7_guestOf) := goodIn_app (goodIn_of _ (by decide +kernel)) ggL_law_X7_guestOf
set_option maxRecDepth 20000 in
theorem ggL_law_L_tableOf : GoodIn wsL_law wsL_tableOf := goodIn_ca (goodIn_ca (goodIn_r _ [731, 164, 83, 732, 733, 734, 2, 735, 89, 90, 652, 653, 654, 655, 173, 174, 16, 656, 359, 360, 15, 361, 111, 736, 737, 738, 739, 740, 260, 261, 262, 38, 741, 742, 743, 744, 259, 263, 264, 265, 266, 39, 745, 376, 377, 378, 33, 267, 180, 58, 181, 746, 747, 389, 748, 410, 749, 396, 397, 398, 399, 367, 368, 395, 403, 404, 405, 406, 407, 52, 408, 409, 176, 177, 178, 110, 411, 412, 413, 750, 751, 752, 753, 366, 977, 978, 979, 980, 981, 982, 995, 996, 997, 998, 999, 1000, 1001, 1002, 1003, 1004, 1005, 1006, 1007, 1008] (by decide +kernel) (by decide +kernel)) (goodIn_sub (fun _ h => List.mem_append_left _ (List.mem_append_left _ (List.mem_append_right _ h))) (by decide +kernel))) (goodIn_sub (fun _ h => List.mem_append_right _ h) (by decide +kernel))
set_option maxRecDepth 20000 in
theorem gL_law_L_tableOf : GoodIn wsL_law (va_wsS RL 168 yL_tableOf wsL_tableOf) := goodIn_app (goodIn_of _ (by decide +kernel)) ggL_law_L_tableOf
set_option maxRecDepth 20000 in
theorem ggL_law_X7_tableOf : GoodIn wsL_law wsX7_tableOf := goodIn_r _ [757, 422, 423, 424, 5, 425, 77, 136, 137, 138, 139, 140, 141, 142, 143, 758, 759, 760, 761, 430, 431, 432, 433, 191, 192, 193, 194, 434, 435, 436, 441, 442, 443, 444, 445, 446, 447, 448, 449, 450, 451, 452, 983, 984, 985, 986, 987, 988, 989, 990, 991, 992, 993, 994] (by decide +kernel) (by decide +kernel)
set_option maxRecDepth 20000 in
theorem gL_law_X7_tableOf : GoodIn wsL_law (wsV RL 170 RX7 yX7_tableOf wsX7_tableOf) := goodIn_app (goodIn_of _ (by decide +kernel)) ggL_law_X7_tableOf
set_option maxRecDepth 20000 in
theorem ggL_law_L_who : GoodIn wsL_law wsL_who := goodIn_ca (goodIn_r _ [764, 164, 765, 766, 767, 2, 768, 16, 350, 351, 352, 353, 173, 174, 354, 355, 356, 15, 357, 358, 359, 360, 361, 111, 259, 260, 261, 262, 38, 769, 264, 265, 266, 39, 977, 978, 979, 980, 981, 982, 995, 996, 997, 998, 999, 1000, 1001, 1002, 1003, 1004, 1005, 1006, 1007, 1008] (by decide +kernel) (by decide +kernel)) (goodIn_sub (fun _ h => List.mem_append_right _ h) (by decide +kernel))
set_option maxRecDepth 20000 in
theorem gL_law_L_who : GoodIn wsL_law (va_wsS RL 171 yL_who wsL_who) := goodIn_app (goodIn_of _ (by decide +kernel)) ggL_law_L_who
set_option maxRecDepth 20000 in
theorem ggL_law_X7_who : GoodIn wsL_law wsX7_who := goodIn_r _ [773, 418, 419, 420, 5, 421, 77, 422, 423, 424, 425, 136, 137, 138, 139, 140, 141, 142, 143, 430, 431, 432, 433, 191, 192, 193, 194, 983, 984, 985, 986, 987, 988, 989, 990, 991, 992, 993, 994] (by decide +kernel) (by decide +kernel)
set_option maxRecDepth 20000 in
theorem gL_law_X7_who : GoodIn wsL_law (wsV RL 173 RX7 yX7_who wsX7_who) := goodIn_app (goodIn_of _ (by decide +kernel)) ggL_law_X7_who
set_option maxRecDepth 20000 in
theorem ggL_law_L_seated : GoodIn wsL_law wsL_seated := goodIn_ca (goodIn_r _ [776, 83, 777, 778, 779, 2, 780, 16, 781, 782, 783, 89, 90, 784, 234, 235, 43, 236, 55, 54, 977, 978, 979, 980, 981, 982, 995, 996, 997, 998, 999, 1000, 1001, 1002, 1003, 1004, 1005, 1006, 1007, 1008, 1013, 1014] (by decide +kernel) (by decide +kernel)) (goodIn_sub (fun _ h => List.mem_append_left _ (List.mem_append_left _ (List.mem_append_right _ h))) (by decide +kernel))
set_option maxRecDepth 20000 in
theorem gL_law_L_seated : GoodIn wsL_law (va_wsS RL 174 yL_seated wsL_seated) := goodIn_app (goodIn_of _ (by decide +kernel)) ggL_law_L_seated
set_option maxRecDepth 20000 in
theorem ggL_law_X7_seated : GoodIn wsL_law wsX7_seated := goodIn_r _ [788, 77, 139, 140, 141, 5, 142, 143, 983, 984, 985, 986, 987, 988, 989, 990, 991, 992, 993, 994] (by decide +kernel) (by decide +kernel)
set_option maxRecDepth 20000 in
theorem gL_law_X7_seated : GoodIn wsL_law (wsV RL 176 RX7 yX7_seated wsX7_seated) := goodIn_app (goodIn_of _ (by decide +kernel)) ggL_law_X7_seated
set_option maxRecDepth 20000 in
theorem ggL_law_L_feudAt : GoodIn wsL_law wsL_feudAt := goodIn_ca (goodIn_r _ [791, 83, 792, 793, 794, 2, 795, 16, 781, 782, 783, 89, 90, 784, 234, 235, 43, 236, 55, 54, 977, 978, 979, 980, 981, 982, 995, 996, 997, 998, 999, 1000, 1001, 1002, 1003, 1004, 1005, 1006, 1007, 1008, 1013, 1014] (by decide +kernel) (by decide +kernel)) (goodIn_sub (fun _ h => List.mem_append_left _ (List.mem_append_left _ (List.mem_append_right _ h))) (by decide +kernel))
set_option maxRecDepth 20000 in
theorem gL_law_L_feudAt : GoodIn wsL_law (va_wsS RL 177 yL_feudAt wsL_feudAt) := goodIn_app (goodIn_of _ (by decide +kernel)) ggL_law_L_feudAt
set_option maxRecDepth 20000 in
theorem ggL_law_X7_feudAt : GoodIn wsL_law wsX7_feudAt := goodIn_r _ [799, 77, 139, 140, 141, 5, 142, 143, 983, 984, 985, 986, 987, 988, 989, 990, 991, 992, 993, 994] (by decide +kernel) (by decide +kernel)
set_option maxRecDepth 20000 in
theorem gL_law_X7_feudAt : GoodIn wsL_law (wsV RL 179 RX7 yX7_feudAt wsX7_feudAt) := goodIn_app (goodIn_of _ (by decide +kernel)) ggL_law_X7_feudAt
set_option maxRecDepth 20000 in
theorem ggL_law_L_count : GoodIn wsL_law wsL_count := goodIn_ca (goodIn_r _ [802, 83, 803, 804, 805, 2, 806, 89, 90, 807, 808, 809, 810, 16, 22, 315, 316, 317, 43, 318, 55, 387, 388, 389, 390, 391, 392, 393, 394, 384, 385, 15, 386, 36, 267, 180, 58, 181, 395, 396, 397, 398, 399, 367, 368, 400, 401, 402, 403, 404, 405, 406, 407, 52, 408, 409, 176, 177, 178, 110, 410, 260, 261, 262, 38, 411, 412, 413, 811, 812, 813, 814, 747, 748, 749, 264, 265, 266, 39, 815, 816, 817, 676, 677, 678, 21, 679, 101, 179, 977, 978, 979, 980, 981, 982, 995, 996, 997, 998, 999, 1000, 1001, 1002, 1003, 1004, 1005, 1006, 1007, 1008, 1013, 1014, 1009, 1010, 1011] (by decide +kernel) (by decide +kernel)) (goodIn_sub (fun _ h => List.mem_append_left _ (List.mem_append_left _ (List.mem_append_right _ h))) (by decide +kernel))
set_option maxRecDepth 20000 in
theorem gL_law_L_count : GoodIn wsL_law (va_wsS RL 180 yL_count wsL_count) := goodIn_app (goodIn_of _ (by decide +kernel)) ggL_law_L_count
set_option maxRecDepth 20000 in
theorem ggL_law_X7_count : GoodIn wsL_law wsX7_count := goodIn_r _ [821, 136, 137, 5, 138, 139, 140, 141, 142, 143, 822, 823, 824, 825, 77, 148, 441, 442, 443, 444, 191, 192, 193, 194, 445, 446, 447, 448, 449, 450, 451, 452, 434, 435, 436, 826, 827, 828, 829, 983, 984, 985, 986, 987, 988, 989, 990, 991, 992, 993, 994] (by decide +kernel) (by decide +kernel)
set_option maxRecDepth 20000 in
theorem gL_law_X7_count : GoodIn wsL_law (wsV RL 182 RX7 yX7_count wsX7_count) := goodIn_app (goodIn_of _ (by decide +kernel)) ggL_law_X7_count
set_option maxRecDepth 20000 in
theorem ggL_law_L_whyNot : GoodIn wsL_law wsL_whyNot := goodIn_ca (goodIn_r _ [832, 164, 833, 834, 835, 2, 836, 16, 346, 347, 348, 349, 169, 170, 171, 172, 173, 174, 175, 176, 177, 15, 178, 110, 350, 351, 352, 353, 354, 355, 356, 357, 358, 359, 360, 361, 111, 259, 260, 261, 262, 38, 362, 363, 364, 365, 34, 33, 36, 40, 263, 264, 265, 266, 39, 366, 367, 368, 267, 180, 58, 181, 369, 370, 371, 372, 44, 373, 316, 317, 43, 318, 55, 374, 234, 235, 236, 54, 375, 376, 377, 378, 255, 256, 257, 258, 977, 978, 979, 980, 981, 982, 995, 996, 997, 998, 999, 1000, 1001, 1002, 1003, 1004, 1005, 1006, 1007, 1008, 1013, 1014] (by decide +kernel) (by decide +kernel)) (goodIn_sub (fun _ h => List.mem_append_right _ h) (by decide +kernel))
set_option maxRecDepth 20000 in
theorem gL_law_L_whyNot : GoodIn wsL_law (va_wsS RL 183 yL_whyNot wsL_whyNot) := goodIn_app (goodIn_of _ (by decide +kernel)) ggL_law_L_whyNot
set_option maxRecDepth 20000 in
theorem ggL_law_X7_whyNot : GoodIn wsL_law wsX7_whyNot := goodIn_r _ [840, 187, 188, 189, 5, 190, 77, 136, 137, 138, 418, 419, 420, 421, 422, 423, 424, 425, 139, 140, 141, 142, 143, 426, 427, 428, 429, 430, 431, 432, 433, 191, 192, 193, 194, 434, 435, 436, 287, 288, 289, 290, 291, 292, 293, 983, 984, 985, 986, 987, 988, 989, 990, 991, 992, 993, 994] (by decide +kernel) (by decide +kernel)
set_option maxRecDepth 20000 in
theorem gL_law_X7_whyNot : GoodIn wsL_law (wsV RL 185 RX7 yX7_whyNot wsX7_whyNot) := goodIn_app (goodIn_of _ (by decide +kernel)) ggL_law_X7_whyNot
set_option maxRecDepth 20000 in
theorem ggL_law_L_ifSat : GoodIn wsL_law wsL_ifSat := goodIn_ca (goodIn_r _ [843, 164, 844, 845, 846, 2, 847, 16, 346, 347, 348, 349, 169, 170, 171, 172, 173, 174, 175, 176, 177, 15, 178, 110, 350, 351, 352, 353, 354, 355, 356, 357, 358, 359, 360, 361, 111, 259, 260, 261, 262, 38, 362, 363, 364, 365, 34, 33, 36, 40, 263, 264, 265, 266, 39, 366, 367, 368, 267, 180, 58, 181, 369, 370, 371, 372, 44, 373, 316, 317, 43, 318, 55, 374, 234, 235, 236, 54, 375, 376, 377, 378, 255, 256, 257, 258, 848, 849, 389, 850, 851, 388, 390, 391, 392, 393, 394, 384, 385, 386, 395, 396, 397, 398, 399, 400, 401, 402, 403, 404, 405, 406, 407, 52, 408, 409, 410, 411, 412, 413, 852, 507, 508, 977, 978, 979, 980, 981, 982, 995, 996, 997, 998, 999, 1000, 1001, 1002, 1003, 1004, 1005, 1006, 1007, 1008, 1013, 1014] (by decide +kernel) (by decide +kernel)) (goodIn_sub (fun _ h => List.mem_append_right _ h) (by decide +kernel))
set_option maxRecDepth 20000 in
theorem gL_law_L_ifSat : GoodIn wsL_law (va_wsS RL 186 yL_ifSat wsL_ifSat) := goodIn_app (goodIn_of _ (by decide +kernel)) ggL_law_L_ifSat
set_option maxRecDepth 20000 in
theorem ggL_law_X7_ifSat : GoodIn wsL_law wsX7_ifSat := goodIn_r _ [856, 187, 188, 189, 5, 190, 77, 136, 137, 138, 418, 419, 420, 421, 422, 423, 424, 425, 139, 140, 141, 142, 143, 426, 427, 428, 429, 430, 431, 432, 433, 191, 192, 193, 194, 434, 435, 436, 287, 288, 289, 290, 291, 292, 293, 521, 522, 523, 524, 153, 154, 155, 156, 441, 442, 443, 444, 445, 446, 447, 448, 449, 450, 451, 452, 983, 984, 985, 986, 987, 988, 989, 990, 991, 992, 993, 994] (by decide +kernel) (by decide +kernel)
set_option maxRecDepth 20000 in
theorem gL_law_X7_ifSat : GoodIn wsL_law (wsV RL 188 RX7 yX7_ifSat wsX7_ifSat) := goodIn_app (goodIn_of _ (by decide +kernel)) ggL_law_X7_ifSat
set_option maxRecDepth 20000 in
theorem ggL_law_L_bestSeat : GoodIn wsL_law wsL_bestSeat := goodIn_ca (goodIn_r _ [859, 164, 860, 861, 862, 2, 863, 16, 169, 170, 171, 172, 173, 174, 175, 176, 177, 15, 178, 110, 864, 503, 504, 505, 111, 259, 260, 261, 262, 38, 484, 363, 364, 365, 34, 33, 36, 40, 263, 264, 265, 266, 39, 366, 367, 368, 267, 180, 58, 181, 369, 370, 371, 372, 44, 373, 316, 317, 43, 318, 55, 374, 234, 235, 236, 54, 375, 376, 377, 378, 255, 256, 257, 258, 506, 507, 389, 508, 395, 396, 397, 398, 399, 403, 404, 405, 406, 407, 52, 408, 409, 410, 411, 412, 413, 977, 978, 979, 980, 981, 982, 995, 996, 997, 998, 999, 1000, 1001, 1002, 1003, 1004, 1005, 1006, 1007, 1008, 1013, 1014] (by decide +kernel) (by decide +kernel)) (goodIn_sub (fun _ h => List.mem_append_right _ h) (by decide +kernel))
set_option maxRecDepth 20000 in
theorem gL_law_L_bestSeat : GoodIn wsL_law (va_wsS RL 189 yL_bestSeat wsL_bestSeat) := goodIn_app (goodIn_of _ (by decide +kernel)) ggL_law_L_bestSeat
set_option maxRecDepth 20000 in
theorem ggL_law_X7_bestSeat : GoodIn wsL_law wsX7_bestSeat := goodIn_r _ [868, 187, 188, 189, 5, 190, 77, 136, 137, 138, 139, 140, 141, 142, 143, 517, 518, 519, 520, 426, 427, 428, 429, 430, 431, 432, 433, 191, 192, 193, 194, 434, 435, 436, 287, 288, 289, 290, 291, 292, 293, 521, 522, 523, 524, 153, 154, 155, 156, 441, 442, 443, 444, 445, 446, 447, 448, 449, 450, 451, 452, 983, 984, 985, 986, 987, 988, 989, 990, 991, 992, 993, 994] (by decide +kernel) (by decide +kernel)
set_option maxRecDepth 20000 in
theorem gL_law_X7_bestSeat : GoodIn wsL_law (wsV RL 191 RX7 yX7_bestSeat wsX7_bestSeat) := goodIn_app (goodIn_of _ (by decide +kernel)) ggL_law_X7_bestSeat
set_option maxRecDepth 20000 in
theorem ggL_law_L_ifFeud : GoodIn wsL_law wsL_ifFeud := goodIn_ca (goodIn_r _ [871, 83, 872, 873, 874, 2, 875, 16, 217, 218, 219, 89, 90, 93, 94, 95, 876, 877, 878, 15, 879, 111, 880, 221, 222, 223, 44, 224, 225, 226, 227, 119, 52, 120, 228, 51, 53, 229, 230, 231, 43, 232, 55, 233, 234, 235, 236, 54, 251, 252, 253, 254, 255, 256, 257, 258, 33, 259, 260, 261, 262, 38, 263, 264, 265, 266, 39, 267, 180, 58, 181, 977, 978, 979, 980, 981, 982, 995, 996, 997, 998, 999, 1000, 1001, 1002, 1003, 1004, 1005, 1006, 1007, 1008, 1013, 1014] (by decide +kernel) (by decide +kernel)) (goodIn_sub (fun _ h => List.mem_append_left _ (List.mem_append_left _ (List.mem_append_right _ h))) (by decide +kernel))
set_option maxRecDepth 20000 in
theorem gL_law_L_ifFeud : GoodIn wsL_law (va_wsS RL 192 yL_ifFeud wsL_ifFeud) := goodIn_app (goodIn_of _ (by decide +kernel)) ggL_law_L_ifFeud
set_option maxRecDepth 20000 in
theorem ggL_law_X7_ifFeud : GoodIn wsL_law wsX7_ifFeud := goodIn_r _ [884, 284, 285, 5, 286, 133, 134, 135, 136, 137, 138, 139, 140, 141, 142, 143, 885, 886, 887, 888, 287, 288, 289, 290, 291, 292, 293, 77, 889, 890, 891, 892, 294, 295, 296, 297, 298, 299, 300, 301, 191, 192, 193, 194, 983, 984, 985, 986, 987, 988, 989, 990, 991, 992, 993, 994] (by decide +kernel) (by decide +kernel)
set_option maxRecDepth 20000 in
theorem gL_law_X7_ifFeud : GoodIn wsL_law (wsV RL 194 RX7 yX7_ifFeud wsX7_ifFeud) := goodIn_app (goodIn_of _ (by decide +kernel)) ggL_law_X7_ifFeud
set_option maxRecDepth 20000 in
theorem ggL_law_L_ifSeated : GoodIn wsL_law wsL_ifSeated := goodIn_ca (goodIn_r _ [895, 83, 896, 897, 898, 2, 899, 89, 90, 900, 901, 902, 903, 17, 16, 473, 107, 108, 15, 109, 33, 34, 35, 36, 37, 38, 39, 40, 44, 45, 110, 111, 112, 113, 56, 57, 58, 59, 114, 115, 116, 43, 117, 54, 55, 118, 119, 52, 120, 121, 498, 499, 500, 501, 383, 384, 385, 386, 267, 180, 181, 502, 503, 504, 505, 259, 260, 261, 262, 484, 363, 364, 365, 263, 264, 265, 266, 366, 367, 368, 369, 370, 371, 372, 373, 316, 317, 318, 374, 234, 235, 236, 375, 376, 377, 378, 255, 256, 257, 258, 506, 507, 389, 508, 395, 396, 397, 398, 399, 403, 404, 405, 406, 407, 408, 409, 176, 177, 178, 410, 411, 412, 413, 485, 380, 381, 382, 272, 273, 274, 275, 126, 127, 128, 276, 277, 278, 279, 233, 250, 245, 246, 247, 248, 249, 238, 239, 240, 387, 388, 390, 391, 392, 393, 394, 400, 401, 402, 977, 978, 979, 980, 981, 982, 995, 996, 997, 998, 999, 1000, 1001, 1002, 1003, 1004, 1005, 1006, 1007, 1008, 1013, 1014] (by decide +kernel) (by decide +kernel)) (goodIn_sub (fun _ h => List.mem_append_left _ (List.mem_append_left _ (List.mem_append_right _ h))) (by decide +kernel))
set_option maxRecDepth 20000 in
theorem gL_law_L_ifSeated : GoodIn wsL_law (va_wsS RL 195 yL_ifSeated wsL_ifSeated) := goodIn_app (goodIn_of _ (by decide +kernel)) ggL_law_L_ifSeated
set_option maxRecDepth 20000 in
theorem ggL_law_X7_ifSeated : GoodIn wsL_law wsX7_ifSeated := goodIn_r _ [907, 136, 137, 5, 138, 139, 140, 141, 142, 143, 908, 909, 910, 911, 149, 150, 151, 152, 77, 513, 514, 515, 516, 191, 192, 193, 194, 517, 518, 519, 520, 426, 427, 428, 429, 430, 431, 432, 433, 434, 435, 436, 287, 288, 289, 290, 291, 292, 293, 521, 522, 523, 524, 153, 154, 155, 156, 441, 442, 443, 444, 445, 446, 447, 448, 449, 450, 451, 452, 437, 438, 439, 440, 302, 303, 304, 305, 983, 984, 985, 986, 987, 988, 989, 990, 991, 992, 993, 994] (by decide +kernel) (by decide +kernel)
set_option maxRecDepth 20000 in
theorem gL_law_X7_ifSeated : GoodIn wsL_law (wsV RL 197 RX7 yX7_ifSeated wsX7_ifSeated) := goodIn_app (goodIn_of _ (by decide +kernel)) ggL_law_X7_ifSeated
set_option maxRecDepth 20000 in
theorem ggL_law_X6_met : GoodIn wsL_law wsX6_met := goodIn_r _ [915, 16, 916, 917, 389, 918, 395, 180, 58, 181, 919, 816, 817, 400, 401, 402, 394, 384, 385, 15, 386, 36, 267, 403, 404, 405, 406, 407, 52, 408, 409, 176, 177, 178, 110, 410, 260, 261, 262, 38, 977, 978, 979, 980, 981, 982, 995, 996, 997, 998, 999, 1000, 1001, 1002, 1003, 1004, 1005, 1006, 1007, 1008] (by decide +kernel) (by decide +kernel)
set_option maxRecDepth 20000 in
theorem gL_law_X6_met : GoodIn wsL_law (wsV RL 198 RX6 yX6_met wsX6_met) := goodIn_app (goodIn_of _ (by decide +kernel)) ggL_law_X6_met
set_option maxRecDepth 20000 in
theorem ggL_law_X7_met : GoodIn wsL_law wsX7_met := goodIn_r _ [923, 143, 924, 925, 926, 5, 927, 826, 827, 828, 829, 77, 449, 450, 451, 452, 191, 192, 193, 194, 983, 984, 985, 986, 987, 988, 989, 990, 991, 992, 993, 994] (by decide +kernel) (by decide +kernel)
set_option maxRecDepth 20000 in
theorem gL_law_X7_met : GoodIn wsL_law (wsV RL 202 RX7 yX7_met wsX7_met) := goodIn_app (goodIn_of _ (by decide +kernel)) ggL_law_X7_met
set_option maxRecDepth 20000 in
theorem ggL_law_X6_digest : GoodIn wsL_law wsX6_digest := goodIn_r _ [931, 932, 933, 16, 26, 807, 808, 809, 2, 810, 22, 315, 316, 317, 43, 318, 55, 387, 388, 389, 390, 391, 392, 393, 394, 384, 385, 15, 386, 36, 267, 180, 58, 181, 395, 396, 397, 398, 399, 367, 368, 400, 401, 402, 403, 404, 405, 406, 407, 52, 408, 409, 176, 177, 178, 110, 410, 260, 261, 262, 38, 411, 412, 413, 811, 812, 813, 814, 747, 748, 749, 264, 265, 266, 39, 815, 816, 817, 676, 677, 678, 21, 679, 101, 179, 934, 935, 936, 937, 715, 716, 717, 718, 719, 720, 864, 503, 504, 505, 111, 259, 484, 363, 364, 365, 34, 33, 40, 263, 366, 369, 370, 371, 372, 44, 373, 374, 234, 235, 236, 54, 375, 376, 377, 378, 255, 256, 257, 258, 506, 507, 508, 938, 939, 940, 941, 736, 737, 738, 739, 740, 741, 742, 743, 744, 745, 746, 750, 751, 752, 753, 769, 942, 943, 944, 945, 657, 658, 659, 660, 946, 947, 948, 784, 876, 877, 878, 879, 880, 221, 222, 223, 224, 225, 226, 227, 119, 120, 228, 51, 53, 229, 230, 231, 232, 233, 251, 252, 253, 254, 900, 901, 902, 903, 17, 473, 107, 108, 109, 35, 37, 45, 112, 113, 56, 57, 59, 114, 115, 116, 117, 118, 121, 498, 499, 500, 501, 383, 502, 485, 380, 381, 382, 272, 273, 274, 275, 126, 127, 128, 276, 277, 278, 279, 250, 245, 246, 247, 248, 249, 238, 239, 240, 916, 917, 918, 919, 949, 950, 951, 952, 953, 954, 977, 978, 979, 980, 981, 982, 995, 996, 997, 998, 999, 1000, 1001, 1002, 1003, 1004, 1005, 1006, 1007, 1008, 1012, 1013, 1014, 1009, 1010, 1011] (by decide +kernel) (by decide +kernel)
set_option maxRecDepth 20000 in
theorem gL_law_X6_digest : GoodIn wsL_law (wsV RL 203 RX6 yX6_digest wsX6_digest) := goodIn_app (goodIn_of _ (by decide +kernel)) ggL_law_X6_digest
set_option maxRecDepth 20000 in
theorem ggL_law_X7_digest : GoodIn wsL_law wsX7_digest := goodIn_r _ [958, 143, 959, 960, 77, 537, 78, 822, 823, 824, 5, 825, 148, 441, 442, 443, 444, 191, 192, 193, 194, 445, 446, 447, 448, 449, 450, 451, 452, 434, 435, 436, 826, 827, 828, 829, 961, 962, 963, 964, 965, 725, 726, 727, 728, 517, 518, 519, 520, 426, 427, 428, 429, 430, 431, 432, 433, 287, 288, 289, 290, 291, 292, 293, 521, 522, 523, 524, 153, 154, 155, 156, 966, 967, 968, 969, 758, 759, 760, 761, 665, 666, 667, 668, 885, 886, 887, 888, 889, 890, 891, 892, 294, 295, 296, 297, 298, 299, 300, 301, 908, 909, 910, 911, 149, 150, 151, 152, 513, 514, 515, 516, 437, 438, 439, 440, 302, 303, 304, 305, 924, 925, 926, 927, 970, 971, 972, 973, 974, 975, 976, 983, 984, 985, 986, 987, 988, 989, 990, 991, 992, 993, 994] (by decide +kernel) (by decide +kernel)
set_option maxRecDepth 20000 in
theorem gL_law_X7_digest : GoodIn wsL_law (wsV RL 207 RX7 yX7_digest wsX7_digest) := goodIn_app (goodIn_of _ (by decide +kernel)) ggL_law_X7_digest
theorem dL_law_0 : decode cL_law 0 = .ok (.new 8, 3) := by decide +kernel
theorem dL_law_3 : decode cL_law 3 = .ok (.dup, 1) := by decide +kernel
theorem dL_law_4 : decode cL_law 4 = .ok (.invokespecial 94, 3) := by decide +kernel
theorem dL_law_7 : decode cL_law 7 = .ok (.astore_n 1, 1) := by decide +kernel
theorem dL_law_8 : decode cL_law 8 = .ok (.new 95, 3) := by decide +kernel
theorem dL_law_11 : decode cL_law 11 = .ok (.dup, 1) := by decide +kernel
theorem dL_law_12 : decode cL_law 12 = .ok (.invokespecial 97, 3) := by decide +kernel
theorem dL_law_15 : decode cL_law 15 = .ok (.astore_n 2, 1) := by decide +kernel
theorem dL_law_16 : decode cL_law 16 = .ok (.iconst 1, 1) := by decide +kernel
theorem dL_law_17 : decode cL_law 17 = .ok (.newarray .long, 2) := by decide +kernel
theorem dL_law_19 : decode cL_law 19 = .ok (.astore_n 3, 1) := by decide +kernel
theorem dL_law_20 : decode cL_law 20 = .ok (.iconst 0, 1) := by decide +kernel
theorem dL_law_21 : decode cL_law 21 = .ok (.istore 4, 2) := by decide +kernel
theorem dL_law_23 : decode cL_law 23 = .ok (.iload 4, 2) := by decide +kernel
theorem dL_law_25 : decode cL_law 25 = .ok (.aload_n 0, 1) := by decide +kernel
theorem dL_law_26 : decode cL_law 26 = .ok (.arraylength, 1) := by decide +kernel
theorem dL_law_27 : decode cL_law 27 = .ok (.iconst 4, 1) := by decide +kernel
theorem dL_law_28 : decode cL_law 28 = .ok (.isub, 1) := by decide +kernel
theorem dL_law_29 : decode cL_law 29 = .ok (.if_icmp .gt 1828, 3) := by decide +kernel
theorem dL_law_32 : decode cL_law 32 = .ok (.aload_n 0, 1) := by decide +kernel
theorem dL_law_33 : decode cL_law 33 = .ok (.iload 4, 2) := by decide +kernel
theorem dL_law_35 : decode cL_law 35 = .ok (.iaload, 1) := by decide +kernel
theorem dL_law_36 : decode cL_law 36 = .ok (.bipush 31, 2) := by decide +kernel
theorem dL_law_38 : decode cL_law 38 = .ok (.iand, 1) := by decide +kernel
theorem dL_law_39 : decode cL_law 39 = .ok (.tableswitch 1812 0 30 #[137, 205, 273, 329, 397, 465, 533, 613, 669, 737, 750, 806, 819, 832, 876, 944, 988, 1001, 1045, 1113, 1181, 1249, 1305, 1361, 1417, 1497, 1577, 1633, 1701, 1757, 1798], 137) := by decide +kernel
theorem dL_law_176 : decode cL_law 176 = .ok (.aload_n 1, 1) := by decide +kernel
theorem dL_law_177 : decode cL_law 177 = .ok (.aload_n 0, 1) := by decide +kernel
theorem dL_law_178 : decode cL_law 178 = .ok (.iload 4, 2) := by decide +kernel
theorem dL_law_180 : decode cL_law 180 = .ok (.iconst 1, 1) := by decide +kernel
theorem dL_law_181 : decode cL_law 181 = .ok (.iadd, 1) := by decide +kernel
theorem dL_law_182 : decode cL_law 182 = .ok (.iaload, 1) := by decide +kernel
theorem dL_law_183 : decode cL_law 183 = .ok (.aload_n 0, 1) := by decide +kernel
theorem dL_law_184 : decode cL_law 184 = .ok (.iload 4, 2) := by decide +kernel
theorem dL_law_186 : decode cL_law 186 = .ok (.iconst 2, 1) := by decide +kernel
theorem dL_law_187 : decode cL_law 187 = .ok (.iadd, 1) := by decide +kernel
theorem dL_law_188 : decode cL_law 188 = .ok (.iaload, 1) := by decide +kernel
theorem dL_law_189 : decode cL_law 189 = .ok (.aload_n 3, 1) := by decide +kernel
theorem dL_law_190 : decode cL_law 190 = .ok (.invokestatic 98, 3) := by decide +kernel
theorem dL_law_193 : decode cL_law 193 = .ok (.istore 5, 2) := by decide +kernel
theorem dL_law_195 : decode cL_law 195 = .ok (.aload_n 2, 1) := by decide +kernel
theorem dL_law_196 : decode cL_law 196 = .ok (.aload_n 0, 1) := by decide +kernel
theorem dL_law_197 : decode cL_law 197 = .ok (.iload 4, 2) := by decide +kernel
theorem dL_law_199 : decode cL_law 199 = .ok (.iconst 1, 1) := by decide +kernel
theorem dL_law_200 : decode cL_law 200 = .ok (.iadd, 1) := by decide +kernel
theorem dL_law_201 : decode cL_law 201 = .ok (.iaload, 1) := by decide +kernel
theorem dL_law_202 : decode cL_law 202 = .ok (.aload_n 0, 1) := by decide +kernel
theorem dL_law_203 : decode cL_law 203 = .ok (.iload 4, 2) := by decide +kernel
theorem dL_law_205 : decode cL_law 205 = .ok (.iconst 2, 1) := by decide +kernel
theorem dL_law_206 : decode cL_law 206 = .ok (.iadd, 1) := by decide +kernel
theorem dL_law_207 : decode cL_law 207 = .ok (.iaload, 1) := by decide +kernel
theorem dL_law_208 : decode cL_law 208 = .ok (.invokevirtual 103, 3) := by decide +kernel
theorem dL_law_211 : decode cL_law 211 = .ok (.istore 6, 2) := by decide +kernel
theorem dL_law_213 : decode cL_law 213 = .ok (.aload_n 2, 1) := by decide +kernel
theorem dL_law_214 : decode cL_law 214 = .ok (.invokevirtual 104, 3) := by decide +kernel
theorem dL_law_217 : decode cL_law 217 = .ok (.iload 5, 2) := by decide +kernel
theorem dL_law_219 : decode cL_law 219 = .ok (.if_icmp .eq 5, 3) := by decide +kernel
theorem dL_law_222 : decode cL_law 222 = .ok (.iconst 0, 1) := by decide +kernel
theorem dL_law_223 : decode cL_law 223 = .ok (.ireturn, 1) := by decide +kernel
theorem dL_law_224 : decode cL_law 224 = .ok (.iload 5, 2) := by decide +kernel
theorem dL_law_226 : decode cL_law 226 = .ok (.ifCond .ne 15, 3) := by decide +kernel
theorem dL_law_229 : decode cL_law 229 = .ok (.aload_n 3, 1) := by decide +kernel
theorem dL_law_230 : decode cL_law 230 = .ok (.iconst 0, 1) := by decide +kernel
theorem dL_law_231 : decode cL_law 231 = .ok (.laload, 1) := by decide +kernel
theorem dL_law_232 : decode cL_law 232 = .ok (.iload 6, 2) := by decide +kernel
theorem dL_law_234 : decode cL_law 234 = .ok (.i2l, 1) := by decide +kernel
theorem dL_law_235 : decode cL_law 235 = .ok (.lcmp, 1) := by decide +kernel
theorem dL_law_236 : decode cL_law 236 = .ok (.ifCond .eq 5, 3) := by decide +kernel
theorem dL_law_239 : decode cL_law 239 = .ok (.iconst 0, 1) := by decide +kernel
theorem dL_law_240 : decode cL_law 240 = .ok (.ireturn, 1) := by decide +kernel
theorem dL_law_241 : decode cL_law 241 = .ok (.goto 1610, 3) := by decide +kernel
theorem dL_law_244 : decode cL_law 244 = .ok (.aload_n 1, 1) := by decide +kernel
theorem dL_law_245 : decode cL_law 245 = .ok (.aload_n 0, 1) := by decide +kernel
theorem dL_law_246 : decode cL_law 246 = .ok (.iload 4, 2) := by decide +kernel
theorem dL_law_248 : decode cL_law 248 = .ok (.iconst 1, 1) := by decide +kernel
theorem dL_law_249 : decode cL_law 249 = .ok (.iadd, 1) := by decide +kernel
theorem dL_law_250 : decode cL_law 250 = .ok (.iaload, 1) := by decide +kernel
theorem dL_law_251 : decode cL_law 251 = .ok (.aload_n 0, 1) := by decide +kernel
theorem dL_law_252 : decode cL_law 252 = .ok (.iload 4, 2) := by decide +kernel
theorem dL_law_254 : decode cL_law 254 = .ok (.iconst 2, 1) := by decide +kernel
theorem dL_law_255 : decode cL_law 255 = .ok (.iadd, 1) := by decide +kernel
theorem dL_law_256 : decode cL_law 256 = .ok (.iaload, 1) := by decide +kernel
theorem dL_law_257 : decode cL_law 257 = .ok (.aload_n 3, 1) := by decide +kernel
theorem dL_law_258 : decode cL_law 258 = .ok (.invokestatic 107, 3) := by decide +kernel
theorem dL_law_261 : decode cL_law 261 = .ok (.istore 5, 2) := by decide +kernel
theorem dL_law_263 : decode cL_law 263 = .ok (.aload_n 2, 1) := by decide +kernel
theorem dL_law_264 : decode cL_law 264 = .ok (.aload_n 0, 1) := by decide +kernel
theorem dL_law_265 : decode cL_law 265 = .ok (.iload 4, 2) := by decide +kernel
theorem dL_law_267 : decode cL_law 267 = .ok (.iconst 1, 1) := by decide +kernel
theorem dL_law_268 : decode cL_law 268 = .ok (.iadd, 1) := by decide +kernel
theorem dL_law_269 : decode cL_law 269 = .ok (.iaload, 1) := by decide +kernel
theorem dL_law_270 : decode cL_law 270 = .ok (.aload_n 0, 1) := by decide +kernel
theorem dL_law_271 : decode cL_law 271 = .ok (.iload 4, 2) := by decide +kernel
theorem dL_law_273 : decode cL_law 273 = .ok (.iconst 2, 1) := by decide +kernel
theorem dL_law_274 : decode cL_law 274 = .ok (.iadd, 1) := by decide +kernel
theorem dL_law_275 : decode cL_law 275 = .ok (.iaload, 1) := by decide +kernel
theorem dL_law_276 : decode cL_law 276 = .ok (.invokevirtual 109, 3) := by decide +kernel
theorem dL_law_279 : decode cL_law 279 = .ok (.istore 6, 2) := by decide +kernel
theorem dL_law_281 : decode cL_law 281 = .ok (.aload_n 2, 1) := by decide +kernel
theorem dL_law_282 : decode cL_law 282 = .ok (.invokevirtual 104, 3) := by decide +kernel
theorem dL_law_285 : decode cL_law 285 = .ok (.iload 5, 2) := by decide +kernel
theorem dL_law_287 : decode cL_law 287 = .ok (.if_icmp .eq 5, 3) := by decide +kernel
theorem dL_law_290 : decode cL_law 290 = .ok (.iconst 0, 1) := by decide +kernel
theorem dL_law_291 : decode cL_law 291 = .ok (.ireturn, 1) := by decide +kernel
theorem dL_law_292 : decode cL_law 292 = .ok (.iload 5, 2) := by decide +kernel
theorem dL_law_294 : decode cL_law 294 = .ok (.ifCond .ne 15, 3) := by decide +kernel
theorem dL_law_297 : decode cL_law 297 = .ok (.aload_n 3, 1) := by decide +kernel
theorem dL_law_298 : decode cL_law 298 = .ok (.iconst 0, 1) := by decide +kernel
theorem dL_law_299 : decode cL_law 299 = .ok (.laload, 1) := by decide +kernel
theorem dL_law_300 : decode cL_law 300 = .ok (.iload 6, 2) := by decide +kernel
theorem dL_law_302 : decode cL_law 302 = .ok (.i2l, 1) := by decide +kernel
theorem dL_law_303 : decode cL_law 303 = .ok (.lcmp, 1) := by decide +kernel
theorem dL_law_304 : decode cL_law 304 = .ok (.ifCond .eq 5, 3) := by decide +kernel
theorem dL_law_307 : decode cL_law 307 = .ok (.iconst 0, 1) := by decide +kernel
theorem dL_law_308 : decode cL_law 308 = .ok (.ireturn, 1) := by decide +kernel
theorem dL_law_309 : decode cL_law 309 = .ok (.goto 1542, 3) := by decide +kernel
theorem dL_law_312 : decode cL_law 312 = .ok (.aload_n 1, 1) := by decide +kernel
theorem dL_law_313 : decode cL_law 313 = .ok (.aload_n 0, 1) := by decide +kernel
theorem dL_law_314 : decode cL_law 314 = .ok (.iload 4, 2) := by decide +kernel
theorem dL_law_316 : decode cL_law 316 = .ok (.iconst 1, 1) := by decide +kernel
theorem dL_law_317 : decode cL_law 317 = .ok (.iadd, 1) := by decide +kernel
theorem dL_law_318 : decode cL_law 318 = .ok (.iaload, 1) := by decide +kernel
theorem dL_law_319 : decode cL_law 319 = .ok (.aload_n 3, 1) := by decide +kernel
theorem dL_law_320 : decode cL_law 320 = .ok (.invokestatic 110, 3) := by decide +kernel
theorem dL_law_323 : decode cL_law 323 = .ok (.istore 5, 2) := by decide +kernel
theorem dL_law_325 : decode cL_law 325 = .ok (.aload_n 2, 1) := by decide +kernel
theorem dL_law_326 : decode cL_law 326 = .ok (.aload_n 0, 1) := by decide +kernel
theorem dL_law_327 : decode cL_law 327 = .ok (.iload 4, 2) := by decide +kernel
theorem dL_law_329 : decode cL_law 329 = .ok (.iconst 1, 1) := by decide +kernel
theorem dL_law_330 : decode cL_law 330 = .ok (.iadd, 1) := by decide +kernel
theorem dL_law_331 : decode cL_law 331 = .ok (.iaload, 1) := by decide +kernel
theorem dL_law_332 : decode cL_law 332 = .ok (.invokevirtual 113, 3) := by decide +kernel
theorem dL_law_335 : decode cL_law 335 = .ok (.istore 6, 2) := by decide +kernel
theorem dL_law_337 : decode cL_law 337 = .ok (.aload_n 2, 1) := by decide +kernel
theorem dL_law_338 : decode cL_law 338 = .ok (.invokevirtual 104, 3) := by decide +kernel
theorem dL_law_341 : decode cL_law 341 = .ok (.iload 5, 2) := by decide +kernel
theorem dL_law_343 : decode cL_law 343 = .ok (.if_icmp .eq 5, 3) := by decide +kernel
theorem dL_law_346 : decode cL_law 346 = .ok (.iconst 0, 1) := by decide +kernel
theorem dL_law_347 : decode cL_law 347 = .ok (.ireturn, 1) := by decide +kernel
theorem dL_law_348 : decode cL_law 348 = .ok (.iload 5, 2) := by decide +kernel
theorem dL_law_350 : decode cL_law 350 = .ok (.ifCond .ne 15, 3) := by decide +kernel
theorem dL_law_353 : decode cL_law 353 = .ok (.aload_n 3, 1) := by decide +kernel
theorem dL_law_354 : decode cL_law 354 = .ok (.iconst 0, 1) := by decide +kernel
theorem dL_law_355 : decode cL_law 355 = .ok (.laload, 1) := by decide +kernel
theorem dL_law_356 : decode cL_law 356 = .ok (.iload 6, 2) := by decide +kernel
theorem dL_law_358 : decode cL_law 358 = .ok (.i2l, 1) := by decide +kernel
theorem dL_law_359 : decode cL_law 359 = .ok (.lcmp, 1) := by decide +kernel
theorem dL_law_360 : decode cL_law 360 = .ok (.ifCond .eq 5, 3) := by decide +kernel
theorem dL_law_363 : decode cL_law 363 = .ok (.iconst 0, 1) := by decide +kernel
theorem dL_law_364 : decode cL_law 364 = .ok (.ireturn, 1) := by decide +kernel
theorem dL_law_365 : decode cL_law 365 = .ok (.goto 1486, 3) := by decide +kernel
theorem dL_law_368 : decode cL_law 368 = .ok (.aload_n 1, 1) := by decide +kernel
theorem dL_law_369 : decode cL_law 369 = .ok (.aload_n 0, 1) := by decide +kernel
theorem dL_law_370 : decode cL_law 370 = .ok (.iload 4, 2) := by decide +kernel
theorem dL_law_372 : decode cL_law 372 = .ok (.iconst 1, 1) := by decide +kernel
theorem dL_law_373 : decode cL_law 373 = .ok (.iadd, 1) := by decide +kernel
theorem dL_law_374 : decode cL_law 374 = .ok (.iaload, 1) := by decide +kernel
theorem dL_law_375 : decode cL_law 375 = .ok (.aload_n 0, 1) := by decide +kernel
theorem dL_law_376 : decode cL_law 376 = .ok (.iload 4, 2) := by decide +kernel
theorem dL_law_378 : decode cL_law 378 = .ok (.iconst 2, 1) := by decide +kernel
theorem dL_law_379 : decode cL_law 379 = .ok (.iadd, 1) := by decide +kernel
theorem dL_law_380 : decode cL_law 380 = .ok (.iaload, 1) := by decide +kernel
theorem dL_law_381 : decode cL_law 381 = .ok (.aload_n 3, 1) := by decide +kernel
theorem dL_law_382 : decode cL_law 382 = .ok (.invokestatic 114, 3) := by decide +kernel
theorem dL_law_385 : decode cL_law 385 = .ok (.istore 5, 2) := by decide +kernel
theorem dL_law_387 : decode cL_law 387 = .ok (.aload_n 2, 1) := by decide +kernel
theorem dL_law_388 : decode cL_law 388 = .ok (.aload_n 0, 1) := by decide +kernel
theorem dL_law_389 : decode cL_law 389 = .ok (.iload 4, 2) := by decide +kernel
theorem dL_law_391 : decode cL_law 391 = .ok (.iconst 1, 1) := by decide +kernel
theorem dL_law_392 : decode cL_law 392 = .ok (.iadd, 1) := by decide +kernel
theorem dL_law_393 : decode cL_law 393 = .ok (.iaload, 1) := by decide +kernel
theorem dL_law_394 : decode cL_law 394 = .ok (.aload_n 0, 1) := by decide +kernel
theorem dL_law_395 : decode cL_law 395 = .ok (.iload 4, 2) := by decide +kernel
theorem dL_law_397 : decode cL_law 397 = .ok (.iconst 2, 1) := by decide +kernel
theorem dL_law_398 : decode cL_law 398 = .ok (.iadd, 1) := by decide +kernel
theorem dL_law_399 : decode cL_law 399 = .ok (.iaload, 1) := by decide +kernel
theorem dL_law_400 : decode cL_law 400 = .ok (.invokevirtual 116, 3) := by decide +kernel
theorem dL_law_403 : decode cL_law 403 = .ok (.istore 6, 2) := by decide +kernel
theorem dL_law_405 : decode cL_law 405 = .ok (.aload_n 2, 1) := by decide +kernel
theorem dL_law_406 : decode cL_law 406 = .ok (.invokevirtual 104, 3) := by decide +kernel
theorem dL_law_409 : decode cL_law 409 = .ok (.iload 5, 2) := by decide +kernel
theorem dL_law_411 : decode cL_law 411 = .ok (.if_icmp .eq 5, 3) := by decide +kernel
theorem dL_law_414 : decode cL_law 414 = .ok (.iconst 0, 1) := by decide +kernel
theorem dL_law_415 : decode cL_law 415 = .ok (.ireturn, 1) := by decide +kernel
theorem dL_law_416 : decode cL_law 416 = .ok (.iload 5, 2) := by decide +kernel
theorem dL_law_418 : decode cL_law 418 = .ok (.ifCond .ne 15, 3) := by decide +kernel
theorem dL_law_421 : decode cL_law 421 = .ok (.aload_n 3, 1) := by decide +kernel
theorem dL_law_422 : decode cL_law 422 = .ok (.iconst 0, 1) := by decide +kernel
theorem dL_law_423 : decode cL_law 423 = .ok (.laload, 1) := by decide +kernel
theorem dL_law_424 : decode cL_law 424 = .ok (.iload 6, 2) := by decide +kernel
theorem dL_law_426 : decode cL_law 426 = .ok (.i2l, 1) := by decide +kernel
theorem dL_law_427 : decode cL_law 427 = .ok (.lcmp, 1) := by decide +kernel
theorem dL_law_428 : decode cL_law 428 = .ok (.ifCond .eq 5, 3) := by decide +kernel
theorem dL_law_431 : decode cL_law 431 = .ok (.iconst 0, 1) := by decide +kernel
theorem dL_law_432 : decode cL_law 432 = .ok (.ireturn, 1) := by decide +kernel
theorem dL_law_433 : decode cL_law 433 = .ok (.goto 1418, 3) := by decide +kernel
theorem dL_law_436 : decode cL_law 436 = .ok (.aload_n 1, 1) := by decide +kernel
theorem dL_law_437 : decode cL_law 437 = .ok (.aload_n 0, 1) := by decide +kernel
theorem dL_law_438 : decode cL_law 438 = .ok (.iload 4, 2) := by decide +kernel
theorem dL_law_440 : decode cL_law 440 = .ok (.iconst 1, 1) := by decide +kernel
theorem dL_law_441 : decode cL_law 441 = .ok (.iadd, 1) := by decide +kernel
theorem dL_law_442 : decode cL_law 442 = .ok (.iaload, 1) := by decide +kernel
theorem dL_law_443 : decode cL_law 443 = .ok (.aload_n 0, 1) := by decide +kernel
theorem dL_law_444 : decode cL_law 444 = .ok (.iload 4, 2) := by decide +kernel
theorem dL_law_446 : decode cL_law 446 = .ok (.iconst 2, 1) := by decide +kernel
theorem dL_law_447 : decode cL_law 447 = .ok (.iadd, 1) := by decide +kernel
theorem dL_law_448 : decode cL_law 448 = .ok (.iaload, 1) := by decide +kernel
theorem dL_law_449 : decode cL_law 449 = .ok (.aload_n 3, 1) := by decide +kernel
theorem dL_law_450 : decode cL_law 450 = .ok (.invokestatic 117, 3) := by decide +kernel
theorem dL_law_453 : decode cL_law 453 = .ok (.istore 5, 2) := by decide +kernel
theorem dL_law_455 : decode cL_law 455 = .ok (.aload_n 2, 1) := by decide +kernel
theorem dL_law_456 : decode cL_law 456 = .ok (.aload_n 0, 1) := by decide +kernel
theorem dL_law_457 : decode cL_law 457 = .ok (.iload 4, 2) := by decide +kernel
theorem dL_law_459 : decode cL_law 459 = .ok (.iconst 1, 1) := by decide +kernel
theorem dL_law_460 : decode cL_law 460 = .ok (.iadd, 1) := by decide +kernel
theorem dL_law_461 : decode cL_law 461 = .ok (.iaload, 1) := by decide +kernel
theorem dL_law_462 : decode cL_law 462 = .ok (.aload_n 0, 1) := by decide +kernel
theorem dL_law_463 : decode cL_law 463 = .ok (.iload 4, 2) := by decide +kernel
theorem dL_law_465 : decode cL_law 465 = .ok (.iconst 2, 1) := by decide +kernel
theorem dL_law_466 : decode cL_law 466 = .ok (.iadd, 1) := by decide +kernel
theorem dL_law_467 : decode cL_law 467 = .ok (.iaload, 1) := by decide +kernel
theorem dL_law_468 : decode cL_law 468 = .ok (.invokevirtual 119, 3) := by decide +kernel
theorem dL_law_471 : decode cL_law 471 = .ok (.istore 6, 2) := by decide +kernel
theorem dL_law_473 : decode cL_law 473 = .ok (.aload_n 2, 1) := by decide +kernel
theorem dL_law_474 : decode cL_law 474 = .ok (.invokevirtual 104, 3) := by decide +kernel
theorem dL_law_477 : decode cL_law 477 = .ok (.iload 5, 2) := by decide +kernel
theorem dL_law_479 : decode cL_law 479 = .ok (.if_icmp .eq 5, 3) := by decide +kernel
theorem dL_law_482 : decode cL_law 482 = .ok (.iconst 0, 1) := by decide +kernel
theorem dL_law_483 : decode cL_law 483 = .ok (.ireturn, 1) := by decide +kernel
theorem dL_law_484 : decode cL_law 484 = .ok (.iload 5, 2) := by decide +kernel
theorem dL_law_486 : decode cL_law 486 = .ok (.ifCond .ne 15, 3) := by decide +kernel
theorem dL_law_489 : decode cL_law 489 = .ok (.aload_n 3, 1) := by decide +kernel
theorem dL_law_490 : decode cL_law 490 = .ok (.iconst 0, 1) := by decide +kernel
theorem dL_law_491 : decode cL_law 491 = .ok (.laload, 1) := by decide +kernel
theorem dL_law_492 : decode cL_law 492 = .ok (.iload 6, 2) := by decide +kernel
theorem dL_law_494 : decode cL_law 494 = .ok (.i2l, 1) := by decide +kernel
theorem dL_law_495 : decode cL_law 495 = .ok (.lcmp, 1) := by decide +kernel
theorem dL_law_496 : decode cL_law 496 = .ok (.ifCond .eq 5, 3) := by decide +kernel
theorem dL_law_499 : decode cL_law 499 = .ok (.iconst 0, 1) := by decide +kernel
theorem dL_law_500 : decode cL_law 500 = .ok (.ireturn, 1) := by decide +kernel
theorem dL_law_501 : decode cL_law 501 = .ok (.goto 1350, 3) := by decide +kernel
theorem dL_law_504 : decode cL_law 504 = .ok (.aload_n 1, 1) := by decide +kernel
theorem dL_law_505 : decode cL_law 505 = .ok (.aload_n 0, 1) := by decide +kernel
theorem dL_law_506 : decode cL_law 506 = .ok (.iload 4, 2) := by decide +kernel
theorem dL_law_508 : decode cL_law 508 = .ok (.iconst 1, 1) := by decide +kernel
theorem dL_law_509 : decode cL_law 509 = .ok (.iadd, 1) := by decide +kernel
theorem dL_law_510 : decode cL_law 510 = .ok (.iaload, 1) := by decide +kernel
theorem dL_law_511 : decode cL_law 511 = .ok (.aload_n 0, 1) := by decide +kernel
theorem dL_law_512 : decode cL_law 512 = .ok (.iload 4, 2) := by decide +kernel
theorem dL_law_514 : decode cL_law 514 = .ok (.iconst 2, 1) := by decide +kernel
theorem dL_law_515 : decode cL_law 515 = .ok (.iadd, 1) := by decide +kernel
theorem dL_law_516 : decode cL_law 516 = .ok (.iaload, 1) := by decide +kernel
theorem dL_law_517 : decode cL_law 517 = .ok (.aload_n 3, 1) := by decide +kernel
theorem dL_law_518 : decode cL_law 518 = .ok (.invokestatic 120, 3) := by decide +kernel
theorem dL_law_521 : decode cL_law 521 = .ok (.istore 5, 2) := by decide +kernel
theorem dL_law_523 : decode cL_law 523 = .ok (.aload_n 2, 1) := by decide +kernel
theorem dL_law_524 : decode cL_law 524 = .ok (.aload_n 0, 1) := by decide +kernel
theorem dL_law_525 : decode cL_law 525 = .ok (.iload 4, 2) := by decide +kernel
theorem dL_law_527 : decode cL_law 527 = .ok (.iconst 1, 1) := by decide +kernel
theorem dL_law_528 : decode cL_law 528 = .ok (.iadd, 1) := by decide +kernel
theorem dL_law_529 : decode cL_law 529 = .ok (.iaload, 1) := by decide +kernel
theorem dL_law_530 : decode cL_law 530 = .ok (.aload_n 0, 1) := by decide +kernel
theorem dL_law_531 : decode cL_law 531 = .ok (.iload 4, 2) := by decide +kernel
theorem dL_law_533 : decode cL_law 533 = .ok (.iconst 2, 1) := by decide +kernel
theorem dL_law_534 : decode cL_law 534 = .ok (.iadd, 1) := by decide +kernel
theorem dL_law_535 : decode cL_law 535 = .ok (.iaload, 1) := by decide +kernel
theorem dL_law_536 : decode cL_law 536 = .ok (.invokevirtual 122, 3) := by decide +kernel
theorem dL_law_539 : decode cL_law 539 = .ok (.istore 6, 2) := by decide +kernel
theorem dL_law_541 : decode cL_law 541 = .ok (.aload_n 2, 1) := by decide +kernel
theorem dL_law_542 : decode cL_law 542 = .ok (.invokevirtual 104, 3) := by decide +kernel
theorem dL_law_545 : decode cL_law 545 = .ok (.iload 5, 2) := by decide +kernel
theorem dL_law_547 : decode cL_law 547 = .ok (.if_icmp .eq 5, 3) := by decide +kernel
theorem dL_law_550 : decode cL_law 550 = .ok (.iconst 0, 1) := by decide +kernel
theorem dL_law_551 : decode cL_law 551 = .ok (.ireturn, 1) := by decide +kernel
theorem dL_law_552 : decode cL_law 552 = .ok (.iload 5, 2) := by decide +kernel
theorem dL_law_554 : decode cL_law 554 = .ok (.ifCond .ne 15, 3) := by decide +kernel
theorem dL_law_557 : decode cL_law 557 = .ok (.aload_n 3, 1) := by decide +kernel
theorem dL_law_558 : decode cL_law 558 = .ok (.iconst 0, 1) := by decide +kernel
theorem dL_law_559 : decode cL_law 559 = .ok (.laload, 1) := by decide +kernel
theorem dL_law_560 : decode cL_law 560 = .ok (.iload 6, 2) := by decide +kernel
theorem dL_law_562 : decode cL_law 562 = .ok (.i2l, 1) := by decide +kernel
theorem dL_law_563 : decode cL_law 563 = .ok (.lcmp, 1) := by decide +kernel
theorem dL_law_564 : decode cL_law 564 = .ok (.ifCond .eq 5, 3) := by decide +kernel
theorem dL_law_567 : decode cL_law 567 = .ok (.iconst 0, 1) := by decide +kernel
theorem dL_law_568 : decode cL_law 568 = .ok (.ireturn, 1) := by decide +kernel
theorem dL_law_569 : decode cL_law 569 = .ok (.goto 1282, 3) := by decide +kernel
theorem dL_law_572 : decode cL_law 572 = .ok (.aload_n 1, 1) := by decide +kernel
theorem dL_law_573 : decode cL_law 573 = .ok (.aload_n 0, 1) := by decide +kernel
theorem dL_law_574 : decode cL_law 574 = .ok (.iload 4, 2) := by decide +kernel
theorem dL_law_576 : decode cL_law 576 = .ok (.iconst 1, 1) := by decide +kernel
theorem dL_law_577 : decode cL_law 577 = .ok (.iadd, 1) := by decide +kernel
theorem dL_law_578 : decode cL_law 578 = .ok (.iaload, 1) := by decide +kernel
theorem dL_law_579 : decode cL_law 579 = .ok (.aload_n 0, 1) := by decide +kernel
theorem dL_law_580 : decode cL_law 580 = .ok (.iload 4, 2) := by decide +kernel
theorem dL_law_582 : decode cL_law 582 = .ok (.iconst 2, 1) := by decide +kernel
theorem dL_law_583 : decode cL_law 583 = .ok (.iadd, 1) := by decide +kernel
theorem dL_law_584 : decode cL_law 584 = .ok (.iaload, 1) := by decide +kernel
theorem dL_law_585 : decode cL_law 585 = .ok (.aload_n 0, 1) := by decide +kernel
theorem dL_law_586 : decode cL_law 586 = .ok (.iload 4, 2) := by decide +kernel
theorem dL_law_588 : decode cL_law 588 = .ok (.iconst 3, 1) := by decide +kernel
theorem dL_law_589 : decode cL_law 589 = .ok (.iadd, 1) := by decide +kernel
theorem dL_law_590 : decode cL_law 590 = .ok (.iaload, 1) := by decide +kernel
theorem dL_law_591 : decode cL_law 591 = .ok (.aload_n 3, 1) := by decide +kernel
theorem dL_law_592 : decode cL_law 592 = .ok (.invokestatic 123, 3) := by decide +kernel
theorem dL_law_595 : decode cL_law 595 = .ok (.istore 5, 2) := by decide +kernel
theorem dL_law_597 : decode cL_law 597 = .ok (.aload_n 2, 1) := by decide +kernel
theorem dL_law_598 : decode cL_law 598 = .ok (.aload_n 0, 1) := by decide +kernel
theorem dL_law_599 : decode cL_law 599 = .ok (.iload 4, 2) := by decide +kernel
theorem dL_law_601 : decode cL_law 601 = .ok (.iconst 1, 1) := by decide +kernel
theorem dL_law_602 : decode cL_law 602 = .ok (.iadd, 1) := by decide +kernel
theorem dL_law_603 : decode cL_law 603 = .ok (.iaload, 1) := by decide +kernel
theorem dL_law_604 : decode cL_law 604 = .ok (.aload_n 0, 1) := by decide +kernel
theorem dL_law_605 : decode cL_law 605 = .ok (.iload 4, 2) := by decide +kernel
theorem dL_law_607 : decode cL_law 607 = .ok (.iconst 2, 1) := by decide +kernel
theorem dL_law_608 : decode cL_law 608 = .ok (.iadd, 1) := by decide +kernel
theorem dL_law_609 : decode cL_law 609 = .ok (.iaload, 1) := by decide +kernel
theorem dL_law_610 : decode cL_law 610 = .ok (.aload_n 0, 1) := by decide +kernel
theorem dL_law_611 : decode cL_law 611 = .ok (.iload 4, 2) := by decide +kernel
theorem dL_law_613 : decode cL_law 613 = .ok (.iconst 3, 1) := by decide +kernel
theorem dL_law_614 : decode cL_law 614 = .ok (.iadd, 1) := by decide +kernel
theorem dL_law_615 : decode cL_law 615 = .ok (.iaload, 1) := by decide +kernel
theorem dL_law_616 : decode cL_law 616 = .ok (.invokevirtual 126, 3) := by decide +kernel
theorem dL_law_619 : decode cL_law 619 = .ok (.istore 6, 2) := by decide +kernel
theorem dL_law_621 : decode cL_law 621 = .ok (.aload_n 2, 1) := by decide +kernel
theorem dL_law_622 : decode cL_law 622 = .ok (.invokevirtual 104, 3) := by decide +kernel
theorem dL_law_625 : decode cL_law 625 = .ok (.iload 5, 2) := by decide +kernel
theorem dL_law_627 : decode cL_law 627 = .ok (.if_icmp .eq 5, 3) := by decide +kernel
theorem dL_law_630 : decode cL_law 630 = .ok (.iconst 0, 1) := by decide +kernel
theorem dL_law_631 : decode cL_law 631 = .ok (.ireturn, 1) := by decide +kernel
theorem dL_law_632 : decode cL_law 632 = .ok (.iload 5, 2) := by decide +kernel
theorem dL_law_634 : decode cL_law 634 = .ok (.ifCond .ne 15, 3) := by decide +kernel
theorem dL_law_637 : decode cL_law 637 = .ok (.aload_n 3, 1) := by decide +kernel
theorem dL_law_638 : decode cL_law 638 = .ok (.iconst 0, 1) := by decide +kernel
theorem dL_law_639 : decode cL_law 639 = .ok (.laload, 1) := by decide +kernel
theorem dL_law_640 : decode cL_law 640 = .ok (.iload 6, 2) := by decide +kernel
theorem dL_law_642 : decode cL_law 642 = .ok (.i2l, 1) := by decide +kernel
theorem dL_law_643 : decode cL_law 643 = .ok (.lcmp, 1) := by decide +kernel
theorem dL_law_644 : decode cL_law 644 = .ok (.ifCond .eq 5, 3) := by decide +kernel
theorem dL_law_647 : decode cL_law 647 = .ok (.iconst 0, 1) := by decide +kernel
theorem dL_law_648 : decode cL_law 648 = .ok (.ireturn, 1) := by decide +kernel
theorem dL_law_649 : decode cL_law 649 = .ok (.goto 1202, 3) := by decide +kernel
theorem dL_law_652 : decode cL_law 652 = .ok (.aload_n 1, 1) := by decide +kernel
theorem dL_law_653 : decode cL_law 653 = .ok (.aload_n 0, 1) := by decide +kernel
theorem dL_law_654 : decode cL_law 654 = .ok (.iload 4, 2) := by decide +kernel
theorem dL_law_656 : decode cL_law 656 = .ok (.iconst 1, 1) := by decide +kernel
theorem dL_law_657 : decode cL_law 657 = .ok (.iadd, 1) := by decide +kernel
theorem dL_law_658 : decode cL_law 658 = .ok (.iaload, 1) := by decide +kernel
theorem dL_law_659 : decode cL_law 659 = .ok (.aload_n 3, 1) := by decide +kernel
theorem dL_law_660 : decode cL_law 660 = .ok (.invokestatic 127, 3) := by decide +kernel
theorem dL_law_663 : decode cL_law 663 = .ok (.istore 5, 2) := by decide +kernel
theorem dL_law_665 : decode cL_law 665 = .ok (.aload_n 2, 1) := by decide +kernel
theorem dL_law_666 : decode cL_law 666 = .ok (.aload_n 0, 1) := by decide +kernel
theorem dL_law_667 : decode cL_law 667 = .ok (.iload 4, 2) := by decide +kernel
theorem dL_law_669 : decode cL_law 669 = .ok (.iconst 1, 1) := by decide +kernel
theorem dL_law_670 : decode cL_law 670 = .ok (.iadd, 1) := by decide +kernel
theorem dL_law_671 : decode cL_law 671 = .ok (.iaload, 1) := by decide +kernel
theorem dL_law_672 : decode cL_law 672 = .ok (.invokevirtual 129, 3) := by decide +kernel
theorem dL_law_675 : decode cL_law 675 = .ok (.istore 6, 2) := by decide +kernel
theorem dL_law_677 : decode cL_law 677 = .ok (.aload_n 2, 1) := by decide +kernel
theorem dL_law_678 : decode cL_law 678 = .ok (.invokevirtual 104, 3) := by decide +kernel
theorem dL_law_681 : decode cL_law 681 = .ok (.iload 5, 2) := by decide +kernel
theorem dL_law_683 : decode cL_law 683 = .ok (.if_icmp .eq 5, 3) := by decide +kernel
theorem dL_law_686 : decode cL_law 686 = .ok (.iconst 0, 1) := by decide +kernel
theorem dL_law_687 : decode cL_law 687 = .ok (.ireturn, 1) := by decide +kernel
theorem dL_law_688 : decode cL_law 688 = .ok (.iload 5, 2) := by decide +kernel
theorem dL_law_690 : decode cL_law 690 = .ok (.ifCond .ne 15, 3) := by decide +kernel
theorem dL_law_693 : decode cL_law 693 = .ok (.aload_n 3, 1) := by decide +kernel
theorem dL_law_694 : decode cL_law 694 = .ok (.iconst 0, 1) := by decide +kernel
theorem dL_law_695 : decode cL_law 695 = .ok (.laload, 1) := by decide +kernel
theorem dL_law_696 : decode cL_law 696 = .ok (.iload 6, 2) := by decide +kernel
theorem dL_law_698 : decode cL_law 698 = .ok (.i2l, 1) := by decide +kernel
theorem dL_law_699 : decode cL_law 699 = .ok (.lcmp, 1) := by decide +kernel
theorem dL_law_700 : decode cL_law 700 = .ok (.ifCond .eq 5, 3) := by decide +kernel
theorem dL_law_703 : decode cL_law 703 = .ok (.iconst 0, 1) := by decide +kernel
theorem dL_law_704 : decode cL_law 704 = .ok (.ireturn, 1) := by decide +kernel
theorem dL_law_705 : decode cL_law 705 = .ok (.goto 1146, 3) := by decide +kernel
theorem dL_law_708 : decode cL_law 708 = .ok (.aload_n 1, 1) := by decide +kernel
theorem dL_law_709 : decode cL_law 709 = .ok (.aload_n 0, 1) := by decide +kernel
theorem dL_law_710 : decode cL_law 710 = .ok (.iload 4, 2) := by decide +kernel
theorem dL_law_712 : decode cL_law 712 = .ok (.iconst 1, 1) := by decide +kernel
theorem dL_law_713 : decode cL_law 713 = .ok (.iadd, 1) := by decide +kernel
theorem dL_law_714 : decode cL_law 714 = .ok (.iaload, 1) := by decide +kernel
theorem dL_law_715 : decode cL_law 715 = .ok (.aload_n 0, 1) := by decide +kernel
theorem dL_law_716 : decode cL_law 716 = .ok (.iload 4, 2) := by decide +kernel
theorem dL_law_718 : decode cL_law 718 = .ok (.iconst 2, 1) := by decide +kernel
theorem dL_law_719 : decode cL_law 719 = .ok (.iadd, 1) := by decide +kernel
theorem dL_law_720 : decode cL_law 720 = .ok (.iaload, 1) := by decide +kernel
theorem dL_law_721 : decode cL_law 721 = .ok (.aload_n 3, 1) := by decide +kernel
theorem dL_law_722 : decode cL_law 722 = .ok (.invokestatic 130, 3) := by decide +kernel
theorem dL_law_725 : decode cL_law 725 = .ok (.istore 5, 2) := by decide +kernel
theorem dL_law_727 : decode cL_law 727 = .ok (.aload_n 2, 1) := by decide +kernel
theorem dL_law_728 : decode cL_law 728 = .ok (.aload_n 0, 1) := by decide +kernel
theorem dL_law_729 : decode cL_law 729 = .ok (.iload 4, 2) := by decide +kernel
theorem dL_law_731 : decode cL_law 731 = .ok (.iconst 1, 1) := by decide +kernel
theorem dL_law_732 : decode cL_law 732 = .ok (.iadd, 1) := by decide +kernel
theorem dL_law_733 : decode cL_law 733 = .ok (.iaload, 1) := by decide +kernel
theorem dL_law_734 : decode cL_law 734 = .ok (.aload_n 0, 1) := by decide +kernel
theorem dL_law_735 : decode cL_law 735 = .ok (.iload 4, 2) := by decide +kernel
theorem dL_law_737 : decode cL_law 737 = .ok (.iconst 2, 1) := by decide +kernel
theorem dL_law_738 : decode cL_law 738 = .ok (.iadd, 1) := by decide +kernel
theorem dL_law_739 : decode cL_law 739 = .ok (.iaload, 1) := by decide +kernel
theorem dL_law_740 : decode cL_law 740 = .ok (.invokevirtual 132, 3) := by decide +kernel
theorem dL_law_743 : decode cL_law 743 = .ok (.istore 6, 2) := by decide +kernel
theorem dL_law_745 : decode cL_law 745 = .ok (.aload_n 2, 1) := by decide +kernel
theorem dL_law_746 : decode cL_law 746 = .ok (.invokevirtual 104, 3) := by decide +kernel
theorem dL_law_749 : decode cL_law 749 = .ok (.iload 5, 2) := by decide +kernel
theorem dL_law_751 : decode cL_law 751 = .ok (.if_icmp .eq 5, 3) := by decide +kernel
theorem dL_law_754 : decode cL_law 754 = .ok (.iconst 0, 1) := by decide +kernel
theorem dL_law_755 : decode cL_law 755 = .ok (.ireturn, 1) := by decide +kernel
theorem dL_law_756 : decode cL_law 756 = .ok (.iload 5, 2) := by decide +kernel
theorem dL_law_758 : decode cL_law 758 = .ok (.ifCond .ne 15, 3) := by decide +kernel
theorem dL_law_761 : decode cL_law 761 = .ok (.aload_n 3, 1) := by decide +kernel
theorem dL_law_762 : decode cL_law 762 = .ok (.iconst 0, 1) := by decide +kernel
theorem dL_law_763 : decode cL_law 763 = .ok (.laload, 1) := by decide +kernel
theorem dL_law_764 : decode cL_law 764 = .ok (.iload 6, 2) := by decide +kernel
theorem dL_law_766 : decode cL_law 766 = .ok (.i2l, 1) := by decide +kernel
theorem dL_law_767 : decode cL_law 767 = .ok (.lcmp, 1) := by decide +kernel
theorem dL_law_768 : decode cL_law 768 = .ok (.ifCond .eq 5, 3) := by decide +kernel
theorem dL_law_771 : decode cL_law 771 = .ok (.iconst 0, 1) := by decide +kernel
theorem dL_law_772 : decode cL_law 772 = .ok (.ireturn, 1) := by decide +kernel
theorem dL_law_773 : decode cL_law 773 = .ok (.goto 1078, 3) := by decide +kernel
theorem dL_law_776 : decode cL_law 776 = .ok (.aload_n 1, 1) := by decide +kernel
theorem dL_law_777 : decode cL_law 777 = .ok (.invokevirtual 133, 3) := by decide +kernel
theorem dL_law_780 : decode cL_law 780 = .ok (.aload_n 2, 1) := by decide +kernel
theorem dL_law_781 : decode cL_law 781 = .ok (.invokevirtual 136, 3) := by decide +kernel
theorem dL_law_784 : decode cL_law 784 = .ok (.if_icmp .eq 1067, 3) := by decide +kernel
theorem dL_law_787 : decode cL_law 787 = .ok (.iconst 0, 1) := by decide +kernel
theorem dL_law_788 : decode cL_law 788 = .ok (.ireturn, 1) := by decide +kernel
theorem dL_law_789 : decode cL_law 789 = .ok (.aload_n 1, 1) := by decide +kernel
theorem dL_law_790 : decode cL_law 790 = .ok (.aload_n 0, 1) := by decide +kernel
theorem dL_law_791 : decode cL_law 791 = .ok (.iload 4, 2) := by decide +kernel
theorem dL_law_793 : decode cL_law 793 = .ok (.iconst 1, 1) := by decide +kernel
theorem dL_law_794 : decode cL_law 794 = .ok (.iadd, 1) := by decide +kernel
theorem dL_law_795 : decode cL_law 795 = .ok (.iaload, 1) := by decide +kernel
theorem dL_law_796 : decode cL_law 796 = .ok (.aload_n 3, 1) := by decide +kernel
theorem dL_law_797 : decode cL_law 797 = .ok (.invokestatic 137, 3) := by decide +kernel
theorem dL_law_800 : decode cL_law 800 = .ok (.istore 5, 2) := by decide +kernel
theorem dL_law_802 : decode cL_law 802 = .ok (.aload_n 2, 1) := by decide +kernel
theorem dL_law_803 : decode cL_law 803 = .ok (.aload_n 0, 1) := by decide +kernel
theorem dL_law_804 : decode cL_law 804 = .ok (.iload 4, 2) := by decide +kernel
theorem dL_law_806 : decode cL_law 806 = .ok (.iconst 1, 1) := by decide +kernel
theorem dL_law_807 : decode cL_law 807 = .ok (.iadd, 1) := by decide +kernel
theorem dL_law_808 : decode cL_law 808 = .ok (.iaload, 1) := by decide +kernel
theorem dL_law_809 : decode cL_law 809 = .ok (.invokevirtual 139, 3) := by decide +kernel
theorem dL_law_812 : decode cL_law 812 = .ok (.istore 6, 2) := by decide +kernel
theorem dL_law_814 : decode cL_law 814 = .ok (.aload_n 2, 1) := by decide +kernel
theorem dL_law_815 : decode cL_law 815 = .ok (.invokevirtual 104, 3) := by decide +kernel
theorem dL_law_818 : decode cL_law 818 = .ok (.iload 5, 2) := by decide +kernel
theorem dL_law_820 : decode cL_law 820 = .ok (.if_icmp .eq 5, 3) := by decide +kernel
theorem dL_law_823 : decode cL_law 823 = .ok (.iconst 0, 1) := by decide +kernel
theorem dL_law_824 : decode cL_law 824 = .ok (.ireturn, 1) := by decide +kernel
theorem dL_law_825 : decode cL_law 825 = .ok (.iload 5, 2) := by decide +kernel
theorem dL_law_827 : decode cL_law 827 = .ok (.ifCond .ne 15, 3) := by decide +kernel
theorem dL_law_830 : decode cL_law 830 = .ok (.aload_n 3, 1) := by decide +kernel
theorem dL_law_831 : decode cL_law 831 = .ok (.iconst 0, 1) := by decide +kernel
theorem dL_law_832 : decode cL_law 832 = .ok (.laload, 1) := by decide +kernel
theorem dL_law_833 : decode cL_law 833 = .ok (.iload 6, 2) := by decide +kernel
theorem dL_law_835 : decode cL_law 835 = .ok (.i2l, 1) := by decide +kernel
theorem dL_law_836 : decode cL_law 836 = .ok (.lcmp, 1) := by decide +kernel
theorem dL_law_837 : decode cL_law 837 = .ok (.ifCond .eq 5, 3) := by decide +kernel
theorem dL_law_840 : decode cL_law 840 = .ok (.iconst 0, 1) := by decide +kernel
theorem dL_law_841 : decode cL_law 841 = .ok (.ireturn, 1) := by decide +kernel
theorem dL_law_842 : decode cL_law 842 = .ok (.goto 1009, 3) := by decide +kernel
theorem dL_law_845 : decode cL_law 845 = .ok (.aload_n 1, 1) := by decide +kernel
theorem dL_law_846 : decode cL_law 846 = .ok (.invokevirtual 140, 3) := by decide +kernel
theorem dL_law_849 : decode cL_law 849 = .ok (.aload_n 2, 1) := by decide +kernel
theorem dL_law_850 : decode cL_law 850 = .ok (.invokevirtual 143, 3) := by decide +kernel
theorem dL_law_853 : decode cL_law 853 = .ok (.if_icmp .eq 998, 3) := by decide +kernel
theorem dL_law_856 : decode cL_law 856 = .ok (.iconst 0, 1) := by decide +kernel
theorem dL_law_857 : decode cL_law 857 = .ok (.ireturn, 1) := by decide +kernel
theorem dL_law_858 : decode cL_law 858 = .ok (.aload_n 1, 1) := by decide +kernel
theorem dL_law_859 : decode cL_law 859 = .ok (.invokevirtual 144, 3) := by decide +kernel
theorem dL_law_862 : decode cL_law 862 = .ok (.aload_n 2, 1) := by decide +kernel
theorem dL_law_863 : decode cL_law 863 = .ok (.invokevirtual 147, 3) := by decide +kernel
theorem dL_law_866 : decode cL_law 866 = .ok (.if_icmp .eq 985, 3) := by decide +kernel
theorem dL_law_869 : decode cL_law 869 = .ok (.iconst 0, 1) := by decide +kernel
theorem dL_law_870 : decode cL_law 870 = .ok (.ireturn, 1) := by decide +kernel
theorem dL_law_871 : decode cL_law 871 = .ok (.aload_n 1, 1) := by decide +kernel
theorem dL_law_872 : decode cL_law 872 = .ok (.aload_n 3, 1) := by decide +kernel
theorem dL_law_873 : decode cL_law 873 = .ok (.invokestatic 148, 3) := by decide +kernel
theorem dL_law_876 : decode cL_law 876 = .ok (.istore 5, 2) := by decide +kernel
theorem dL_law_878 : decode cL_law 878 = .ok (.aload_n 2, 1) := by decide +kernel
theorem dL_law_879 : decode cL_law 879 = .ok (.invokevirtual 151, 3) := by decide +kernel
theorem dL_law_882 : decode cL_law 882 = .ok (.istore 6, 2) := by decide +kernel
theorem dL_law_884 : decode cL_law 884 = .ok (.aload_n 2, 1) := by decide +kernel
theorem dL_law_885 : decode cL_law 885 = .ok (.invokevirtual 104, 3) := by decide +kernel
theorem dL_law_888 : decode cL_law 888 = .ok (.iload 5, 2) := by decide +kernel
theorem dL_law_890 : decode cL_law 890 = .ok (.if_icmp .eq 5, 3) := by decide +kernel
theorem dL_law_893 : decode cL_law 893 = .ok (.iconst 0, 1) := by decide +kernel
theorem dL_law_894 : decode cL_law 894 = .ok (.ireturn, 1) := by decide +kernel
theorem dL_law_895 : decode cL_law 895 = .ok (.iload 5, 2) := by decide +kernel
theorem dL_law_897 : decode cL_law 897 = .ok (.ifCond .ne 15, 3) := by decide +kernel
theorem dL_law_900 : decode cL_law 900 = .ok (.aload_n 3, 1) := by decide +kernel
theorem dL_law_901 : decode cL_law 901 = .ok (.iconst 0, 1) := by decide +kernel
theorem dL_law_902 : decode cL_law 902 = .ok (.laload, 1) := by decide +kernel
theorem dL_law_903 : decode cL_law 903 = .ok (.iload 6, 2) := by decide +kernel
theorem dL_law_905 : decode cL_law 905 = .ok (.i2l, 1) := by decide +kernel
theorem dL_law_906 : decode cL_law 906 = .ok (.lcmp, 1) := by decide +kernel
theorem dL_law_907 : decode cL_law 907 = .ok (.ifCond .eq 5, 3) := by decide +kernel
theorem dL_law_910 : decode cL_law 910 = .ok (.iconst 0, 1) := by decide +kernel
theorem dL_law_911 : decode cL_law 911 = .ok (.ireturn, 1) := by decide +kernel
theorem dL_law_912 : decode cL_law 912 = .ok (.goto 939, 3) := by decide +kernel
theorem dL_law_915 : decode cL_law 915 = .ok (.aload_n 1, 1) := by decide +kernel
theorem dL_law_916 : decode cL_law 916 = .ok (.aload_n 0, 1) := by decide +kernel
theorem dL_law_917 : decode cL_law 917 = .ok (.iload 4, 2) := by decide +kernel
theorem dL_law_919 : decode cL_law 919 = .ok (.iconst 1, 1) := by decide +kernel
theorem dL_law_920 : decode cL_law 920 = .ok (.iadd, 1) := by decide +kernel
theorem dL_law_921 : decode cL_law 921 = .ok (.iaload, 1) := by decide +kernel
theorem dL_law_922 : decode cL_law 922 = .ok (.aload_n 0, 1) := by decide +kernel
theorem dL_law_923 : decode cL_law 923 = .ok (.iload 4, 2) := by decide +kernel
theorem dL_law_925 : decode cL_law 925 = .ok (.iconst 2, 1) := by decide +kernel
theorem dL_law_926 : decode cL_law 926 = .ok (.iadd, 1) := by decide +kernel
theorem dL_law_927 : decode cL_law 927 = .ok (.iaload, 1) := by decide +kernel
theorem dL_law_928 : decode cL_law 928 = .ok (.aload_n 3, 1) := by decide +kernel
theorem dL_law_929 : decode cL_law 929 = .ok (.invokestatic 152, 3) := by decide +kernel
theorem dL_law_932 : decode cL_law 932 = .ok (.istore 5, 2) := by decide +kernel
theorem dL_law_934 : decode cL_law 934 = .ok (.aload_n 2, 1) := by decide +kernel
theorem dL_law_935 : decode cL_law 935 = .ok (.aload_n 0, 1) := by decide +kernel
theorem dL_law_936 : decode cL_law 936 = .ok (.iload 4, 2) := by decide +kernel
theorem dL_law_938 : decode cL_law 938 = .ok (.iconst 1, 1) := by decide +kernel
theorem dL_law_939 : decode cL_law 939 = .ok (.iadd, 1) := by decide +kernel
theorem dL_law_940 : decode cL_law 940 = .ok (.iaload, 1) := by decide +kernel
theorem dL_law_941 : decode cL_law 941 = .ok (.aload_n 0, 1) := by decide +kernel
theorem dL_law_942 : decode cL_law 942 = .ok (.iload 4, 2) := by decide +kernel
theorem dL_law_944 : decode cL_law 944 = .ok (.iconst 2, 1) := by decide +kernel
theorem dL_law_945 : decode cL_law 945 = .ok (.iadd, 1) := by decide +kernel
theorem dL_law_946 : decode cL_law 946 = .ok (.iaload, 1) := by decide +kernel
theorem dL_law_947 : decode cL_law 947 = .ok (.invokevirtual 154, 3) := by decide +kernel
theorem dL_law_950 : decode cL_law 950 = .ok (.istore 6, 2) := by decide +kernel
theorem dL_law_952 : decode cL_law 952 = .ok (.aload_n 2, 1) := by decide +kernel
theorem dL_law_953 : decode cL_law 953 = .ok (.invokevirtual 104, 3) := by decide +kernel
theorem dL_law_956 : decode cL_law 956 = .ok (.iload 5, 2) := by decide +kernel
theorem dL_law_958 : decode cL_law 958 = .ok (.if_icmp .eq 5, 3) := by decide +kernel
theorem dL_law_961 : decode cL_law 961 = .ok (.iconst 0, 1) := by decide +kernel
theorem dL_law_962 : decode cL_law 962 = .ok (.ireturn, 1) := by decide +kernel
theorem dL_law_963 : decode cL_law 963 = .ok (.iload 5, 2) := by decide +kernel
theorem dL_law_965 : decode cL_law 965 = .ok (.ifCond .ne 15, 3) := by decide +kernel
theorem dL_law_968 : decode cL_law 968 = .ok (.aload_n 3, 1) := by decide +kernel
theorem dL_law_969 : decode cL_law 969 = .ok (.iconst 0, 1) := by decide +kernel
theorem dL_law_970 : decode cL_law 970 = .ok (.laload, 1) := by decide +kernel
theorem dL_law_971 : decode cL_law 971 = .ok (.iload 6, 2) := by decide +kernel
theorem dL_law_973 : decode cL_law 973 = .ok (.i2l, 1) := by decide +kernel
theorem dL_law_974 : decode cL_law 974 = .ok (.lcmp, 1) := by decide +kernel
theorem dL_law_975 : decode cL_law 975 = .ok (.ifCond .eq 5, 3) := by decide +kernel
theorem dL_law_978 : decode cL_law 978 = .ok (.iconst 0, 1) := by decide +kernel
theorem dL_law_979 : decode cL_law 979 = .ok (.ireturn, 1) := by decide +kernel
theorem dL_law_980 : decode cL_law 980 = .ok (.goto 871, 3) := by decide +kernel
theorem dL_law_983 : decode cL_law 983 = .ok (.aload_n 1, 1) := by decide +kernel
theorem dL_law_984 : decode cL_law 984 = .ok (.aload_n 3, 1) := by decide +kernel
theorem dL_law_985 : decode cL_law 985 = .ok (.invokestatic 155, 3) := by decide +kernel
theorem dL_law_988 : decode cL_law 988 = .ok (.istore 5, 2) := by decide +kernel
theorem dL_law_990 : decode cL_law 990 = .ok (.aload_n 2, 1) := by decide +kernel
theorem dL_law_991 : decode cL_law 991 = .ok (.invokevirtual 157, 3) := by decide +kernel
theorem dL_law_994 : decode cL_law 994 = .ok (.istore 6, 2) := by decide +kernel
theorem dL_law_996 : decode cL_law 996 = .ok (.aload_n 2, 1) := by decide +kernel
theorem dL_law_997 : decode cL_law 997 = .ok (.invokevirtual 104, 3) := by decide +kernel
theorem dL_law_1000 : decode cL_law 1000 = .ok (.iload 5, 2) := by decide +kernel
theorem dL_law_1002 : decode cL_law 1002 = .ok (.if_icmp .eq 5, 3) := by decide +kernel
theorem dL_law_1005 : decode cL_law 1005 = .ok (.iconst 0, 1) := by decide +kernel
theorem dL_law_1006 : decode cL_law 1006 = .ok (.ireturn, 1) := by decide +kernel
theorem dL_law_1007 : decode cL_law 1007 = .ok (.iload 5, 2) := by decide +kernel
theorem dL_law_1009 : decode cL_law 1009 = .ok (.ifCond .ne 15, 3) := by decide +kernel
theorem dL_law_1012 : decode cL_law 1012 = .ok (.aload_n 3, 1) := by decide +kernel
theorem dL_law_1013 : decode cL_law 1013 = .ok (.iconst 0, 1) := by decide +kernel
theorem dL_law_1014 : decode cL_law 1014 = .ok (.laload, 1) := by decide +kernel
theorem dL_law_1015 : decode cL_law 1015 = .ok (.iload 6, 2) := by decide +kernel
theorem dL_law_1017 : decode cL_law 1017 = .ok (.i2l, 1) := by decide +kernel
theorem dL_law_1018 : decode cL_law 1018 = .ok (.lcmp, 1) := by decide +kernel
theorem dL_law_1019 : decode cL_law 1019 = .ok (.ifCond .eq 5, 3) := by decide +kernel
theorem dL_law_1022 : decode cL_law 1022 = .ok (.iconst 0, 1) := by decide +kernel
theorem dL_law_1023 : decode cL_law 1023 = .ok (.ireturn, 1) := by decide +kernel
theorem dL_law_1024 : decode cL_law 1024 = .ok (.goto 827, 3) := by decide +kernel
theorem dL_law_1027 : decode cL_law 1027 = .ok (.aload_n 1, 1) := by decide +kernel
theorem dL_law_1028 : decode cL_law 1028 = .ok (.invokevirtual 158, 3) := by decide +kernel
theorem dL_law_1031 : decode cL_law 1031 = .ok (.aload_n 2, 1) := by decide +kernel
theorem dL_law_1032 : decode cL_law 1032 = .ok (.invokevirtual 161, 3) := by decide +kernel
theorem dL_law_1035 : decode cL_law 1035 = .ok (.if_icmp .eq 816, 3) := by decide +kernel
theorem dL_law_1038 : decode cL_law 1038 = .ok (.iconst 0, 1) := by decide +kernel
theorem dL_law_1039 : decode cL_law 1039 = .ok (.ireturn, 1) := by decide +kernel
theorem dL_law_1040 : decode cL_law 1040 = .ok (.aload_n 1, 1) := by decide +kernel
theorem dL_law_1041 : decode cL_law 1041 = .ok (.aload_n 3, 1) := by decide +kernel
theorem dL_law_1042 : decode cL_law 1042 = .ok (.invokestatic 162, 3) := by decide +kernel
theorem dL_law_1045 : decode cL_law 1045 = .ok (.istore 5, 2) := by decide +kernel
theorem dL_law_1047 : decode cL_law 1047 = .ok (.aload_n 2, 1) := by decide +kernel
theorem dL_law_1048 : decode cL_law 1048 = .ok (.invokevirtual 164, 3) := by decide +kernel
theorem dL_law_1051 : decode cL_law 1051 = .ok (.istore 6, 2) := by decide +kernel
theorem dL_law_1053 : decode cL_law 1053 = .ok (.aload_n 2, 1) := by decide +kernel
theorem dL_law_1054 : decode cL_law 1054 = .ok (.invokevirtual 104, 3) := by decide +kernel
theorem dL_law_1057 : decode cL_law 1057 = .ok (.iload 5, 2) := by decide +kernel
theorem dL_law_1059 : decode cL_law 1059 = .ok (.if_icmp .eq 5, 3) := by decide +kernel
theorem dL_law_1062 : decode cL_law 1062 = .ok (.iconst 0, 1) := by decide +kernel
theorem dL_law_1063 : decode cL_law 1063 = .ok (.ireturn, 1) := by decide +kernel
theorem dL_law_1064 : decode cL_law 1064 = .ok (.iload 5, 2) := by decide +kernel
theorem dL_law_1066 : decode cL_law 1066 = .ok (.ifCond .ne 15, 3) := by decide +kernel
theorem dL_law_1069 : decode cL_law 1069 = .ok (.aload_n 3, 1) := by decide +kernel
theorem dL_law_1070 : decode cL_law 1070 = .ok (.iconst 0, 1) := by decide +kernel
theorem dL_law_1071 : decode cL_law 1071 = .ok (.laload, 1) := by decide +kernel
theorem dL_law_1072 : decode cL_law 1072 = .ok (.iload 6, 2) := by decide +kernel
theorem dL_law_1074 : decode cL_law 1074 = .ok (.i2l, 1) := by decide +kernel
theorem dL_law_1075 : decode cL_law 1075 = .ok (.lcmp, 1) := by decide +kernel
theorem dL_law_1076 : decode cL_law 1076 = .ok (.ifCond .eq 5, 3) := by decide +kernel
theorem dL_law_1079 : decode cL_law 1079 = .ok (.iconst 0, 1) := by decide +kernel
theorem dL_law_1080 : decode cL_law 1080 = .ok (.ireturn, 1) := by decide +kernel
theorem dL_law_1081 : decode cL_law 1081 = .ok (.goto 770, 3) := by decide +kernel
theorem dL_law_1084 : decode cL_law 1084 = .ok (.aload_n 1, 1) := by decide +kernel
theorem dL_law_1085 : decode cL_law 1085 = .ok (.aload_n 0, 1) := by decide +kernel
theorem dL_law_1086 : decode cL_law 1086 = .ok (.iload 4, 2) := by decide +kernel
theorem dL_law_1088 : decode cL_law 1088 = .ok (.iconst 1, 1) := by decide +kernel
theorem dL_law_1089 : decode cL_law 1089 = .ok (.iadd, 1) := by decide +kernel
theorem dL_law_1090 : decode cL_law 1090 = .ok (.iaload, 1) := by decide +kernel
theorem dL_law_1091 : decode cL_law 1091 = .ok (.aload_n 0, 1) := by decide +kernel
theorem dL_law_1092 : decode cL_law 1092 = .ok (.iload 4, 2) := by decide +kernel
theorem dL_law_1094 : decode cL_law 1094 = .ok (.iconst 2, 1) := by decide +kernel
theorem dL_law_1095 : decode cL_law 1095 = .ok (.iadd, 1) := by decide +kernel
theorem dL_law_1096 : decode cL_law 1096 = .ok (.iaload, 1) := by decide +kernel
theorem dL_law_1097 : decode cL_law 1097 = .ok (.aload_n 3, 1) := by decide +kernel
theorem dL_law_1098 : decode cL_law 1098 = .ok (.invokestatic 165, 3) := by decide +kernel
theorem dL_law_1101 : decode cL_law 1101 = .ok (.istore 5, 2) := by decide +kernel
theorem dL_law_1103 : decode cL_law 1103 = .ok (.aload_n 2, 1) := by decide +kernel
theorem dL_law_1104 : decode cL_law 1104 = .ok (.aload_n 0, 1) := by decide +kernel
theorem dL_law_1105 : decode cL_law 1105 = .ok (.iload 4, 2) := by decide +kernel
theorem dL_law_1107 : decode cL_law 1107 = .ok (.iconst 1, 1) := by decide +kernel
theorem dL_law_1108 : decode cL_law 1108 = .ok (.iadd, 1) := by decide +kernel
theorem dL_law_1109 : decode cL_law 1109 = .ok (.iaload, 1) := by decide +kernel
theorem dL_law_1110 : decode cL_law 1110 = .ok (.aload_n 0, 1) := by decide +kernel
theorem dL_law_1111 : decode cL_law 1111 = .ok (.iload 4, 2) := by decide +kernel
theorem dL_law_1113 : decode cL_law 1113 = .ok (.iconst 2, 1) := by decide +kernel
theorem dL_law_1114 : decode cL_law 1114 = .ok (.iadd, 1) := by decide +kernel
theorem dL_law_1115 : decode cL_law 1115 = .ok (.iaload, 1) := by decide +kernel
theorem dL_law_1116 : decode cL_law 1116 = .ok (.invokevirtual 167, 3) := by decide +kernel
theorem dL_law_1119 : decode cL_law 1119 = .ok (.istore 6, 2) := by decide +kernel
theorem dL_law_1121 : decode cL_law 1121 = .ok (.aload_n 2, 1) := by decide +kernel
theorem dL_law_1122 : decode cL_law 1122 = .ok (.invokevirtual 104, 3) := by decide +kernel
theorem dL_law_1125 : decode cL_law 1125 = .ok (.iload 5, 2) := by decide +kernel
theorem dL_law_1127 : decode cL_law 1127 = .ok (.if_icmp .eq 5, 3) := by decide +kernel
theorem dL_law_1130 : decode cL_law 1130 = .ok (.iconst 0, 1) := by decide +kernel
theorem dL_law_1131 : decode cL_law 1131 = .ok (.ireturn, 1) := by decide +kernel
theorem dL_law_1132 : decode cL_law 1132 = .ok (.iload 5, 2) := by decide +kernel
theorem dL_law_1134 : decode cL_law 1134 = .ok (.ifCond .ne 15, 3) := by decide +kernel
theorem dL_law_1137 : decode cL_law 1137 = .ok (.aload_n 3, 1) := by decide +kernel
theorem dL_law_1138 : decode cL_law 1138 = .ok (.iconst 0, 1) := by decide +kernel
theorem dL_law_1139 : decode cL_law 1139 = .ok (.laload, 1) := by decide +kernel
theorem dL_law_1140 : decode cL_law 1140 = .ok (.iload 6, 2) := by decide +kernel
theorem dL_law_1142 : decode cL_law 1142 = .ok (.i2l, 1) := by decide +kernel
theorem dL_law_1143 : decode cL_law 1143 = .ok (.lcmp, 1) := by decide +kernel
theorem dL_law_1144 : decode cL_law 1144 = .ok (.ifCond .eq 5, 3) := by decide +kernel
theorem dL_law_1147 : decode cL_law 1147 = .ok (.iconst 0, 1) := by decide +kernel
theorem dL_law_1148 : decode cL_law 1148 = .ok (.ireturn, 1) := by decide +kernel
theorem dL_law_1149 : decode cL_law 1149 = .ok (.goto 702, 3) := by decide +kernel
theorem dL_law_1152 : decode cL_law 1152 = .ok (.aload_n 1, 1) := by decide +kernel
theorem dL_law_1153 : decode cL_law 1153 = .ok (.aload_n 0, 1) := by decide +kernel
theorem dL_law_1154 : decode cL_law 1154 = .ok (.iload 4, 2) := by decide +kernel
theorem dL_law_1156 : decode cL_law 1156 = .ok (.iconst 1, 1) := by decide +kernel
theorem dL_law_1157 : decode cL_law 1157 = .ok (.iadd, 1) := by decide +kernel
theorem dL_law_1158 : decode cL_law 1158 = .ok (.iaload, 1) := by decide +kernel
theorem dL_law_1159 : decode cL_law 1159 = .ok (.aload_n 0, 1) := by decide +kernel
theorem dL_law_1160 : decode cL_law 1160 = .ok (.iload 4, 2) := by decide +kernel
theorem dL_law_1162 : decode cL_law 1162 = .ok (.iconst 2, 1) := by decide +kernel
theorem dL_law_1163 : decode cL_law 1163 = .ok (.iadd, 1) := by decide +kernel
theorem dL_law_1164 : decode cL_law 1164 = .ok (.iaload, 1) := by decide +kernel
theorem dL_law_1165 : decode cL_law 1165 = .ok (.aload_n 3, 1) := by decide +kernel
theorem dL_law_1166 : decode cL_law 1166 = .ok (.invokestatic 168, 3) := by decide +kernel
theorem dL_law_1169 : decode cL_law 1169 = .ok (.istore 5, 2) := by decide +kernel
theorem dL_law_1171 : decode cL_law 1171 = .ok (.aload_n 2, 1) := by decide +kernel
theorem dL_law_1172 : decode cL_law 1172 = .ok (.aload_n 0, 1) := by decide +kernel
theorem dL_law_1173 : decode cL_law 1173 = .ok (.iload 4, 2) := by decide +kernel
theorem dL_law_1175 : decode cL_law 1175 = .ok (.iconst 1, 1) := by decide +kernel
theorem dL_law_1176 : decode cL_law 1176 = .ok (.iadd, 1) := by decide +kernel
theorem dL_law_1177 : decode cL_law 1177 = .ok (.iaload, 1) := by decide +kernel
theorem dL_law_1178 : decode cL_law 1178 = .ok (.aload_n 0, 1) := by decide +kernel
theorem dL_law_1179 : decode cL_law 1179 = .ok (.iload 4, 2) := by decide +kernel
theorem dL_law_1181 : decode cL_law 1181 = .ok (.iconst 2, 1) := by decide +kernel
theorem dL_law_1182 : decode cL_law 1182 = .ok (.iadd, 1) := by decide +kernel
theorem dL_law_1183 : decode cL_law 1183 = .ok (.iaload, 1) := by decide +kernel
theorem dL_law_1184 : decode cL_law 1184 = .ok (.invokevirtual 170, 3) := by decide +kernel
theorem dL_law_1187 : decode cL_law 1187 = .ok (.istore 6, 2) := by decide +kernel
theorem dL_law_1189 : decode cL_law 1189 = .ok (.aload_n 2, 1) := by decide +kernel
theorem dL_law_1190 : decode cL_law 1190 = .ok (.invokevirtual 104, 3) := by decide +kernel
theorem dL_law_1193 : decode cL_law 1193 = .ok (.iload 5, 2) := by decide +kernel
theorem dL_law_1195 : decode cL_law 1195 = .ok (.if_icmp .eq 5, 3) := by decide +kernel
theorem dL_law_1198 : decode cL_law 1198 = .ok (.iconst 0, 1) := by decide +kernel
theorem dL_law_1199 : decode cL_law 1199 = .ok (.ireturn, 1) := by decide +kernel
theorem dL_law_1200 : decode cL_law 1200 = .ok (.iload 5, 2) := by decide +kernel
theorem dL_law_1202 : decode cL_law 1202 = .ok (.ifCond .ne 15, 3) := by decide +kernel
theorem dL_law_1205 : decode cL_law 1205 = .ok (.aload_n 3, 1) := by decide +kernel
theorem dL_law_1206 : decode cL_law 1206 = .ok (.iconst 0, 1) := by decide +kernel
theorem dL_law_1207 : decode cL_law 1207 = .ok (.laload, 1) := by decide +kernel
theorem dL_law_1208 : decode cL_law 1208 = .ok (.iload 6, 2) := by decide +kernel
theorem dL_law_1210 : decode cL_law 1210 = .ok (.i2l, 1) := by decide +kernel
theorem dL_law_1211 : decode cL_law 1211 = .ok (.lcmp, 1) := by decide +kernel
theorem dL_law_1212 : decode cL_law 1212 = .ok (.ifCond .eq 5, 3) := by decide +kernel
theorem dL_law_1215 : decode cL_law 1215 = .ok (.iconst 0, 1) := by decide +kernel
theorem dL_law_1216 : decode cL_law 1216 = .ok (.ireturn, 1) := by decide +kernel
theorem dL_law_1217 : decode cL_law 1217 = .ok (.goto 634, 3) := by decide +kernel
theorem dL_law_1220 : decode cL_law 1220 = .ok (.aload_n 1, 1) := by decide +kernel
theorem dL_law_1221 : decode cL_law 1221 = .ok (.aload_n 0, 1) := by decide +kernel
theorem dL_law_1222 : decode cL_law 1222 = .ok (.iload 4, 2) := by decide +kernel
theorem dL_law_1224 : decode cL_law 1224 = .ok (.iconst 1, 1) := by decide +kernel
theorem dL_law_1225 : decode cL_law 1225 = .ok (.iadd, 1) := by decide +kernel
theorem dL_law_1226 : decode cL_law 1226 = .ok (.iaload, 1) := by decide +kernel
theorem dL_law_1227 : decode cL_law 1227 = .ok (.aload_n 0, 1) := by decide +kernel
theorem dL_law_1228 : decode cL_law 1228 = .ok (.iload 4, 2) := by decide +kernel
theorem dL_law_1230 : decode cL_law 1230 = .ok (.iconst 2, 1) := by decide +kernel
theorem dL_law_1231 : decode cL_law 1231 = .ok (.iadd, 1) := by decide +kernel
theorem dL_law_1232 : decode cL_law 1232 = .ok (.iaload, 1) := by decide +kernel
theorem dL_law_1233 : decode cL_law 1233 = .ok (.aload_n 3, 1) := by decide +kernel
theorem dL_law_1234 : decode cL_law 1234 = .ok (.invokestatic 171, 3) := by decide +kernel
theorem dL_law_1237 : decode cL_law 1237 = .ok (.istore 5, 2) := by decide +kernel
theorem dL_law_1239 : decode cL_law 1239 = .ok (.aload_n 2, 1) := by decide +kernel
theorem dL_law_1240 : decode cL_law 1240 = .ok (.aload_n 0, 1) := by decide +kernel
theorem dL_law_1241 : decode cL_law 1241 = .ok (.iload 4, 2) := by decide +kernel
theorem dL_law_1243 : decode cL_law 1243 = .ok (.iconst 1, 1) := by decide +kernel
theorem dL_law_1244 : decode cL_law 1244 = .ok (.iadd, 1) := by decide +kernel
theorem dL_law_1245 : decode cL_law 1245 = .ok (.iaload, 1) := by decide +kernel
theorem dL_law_1246 : decode cL_law 1246 = .ok (.aload_n 0, 1) := by decide +kernel
theorem dL_law_1247 : decode cL_law 1247 = .ok (.iload 4, 2) := by decide +kernel
theorem dL_law_1249 : decode cL_law 1249 = .ok (.iconst 2, 1) := by decide +kernel
theorem dL_law_1250 : decode cL_law 1250 = .ok (.iadd, 1) := by decide +kernel
theorem dL_law_1251 : decode cL_law 1251 = .ok (.iaload, 1) := by decide +kernel
theorem dL_law_1252 : decode cL_law 1252 = .ok (.invokevirtual 173, 3) := by decide +kernel
theorem dL_law_1255 : decode cL_law 1255 = .ok (.istore 6, 2) := by decide +kernel
theorem dL_law_1257 : decode cL_law 1257 = .ok (.aload_n 2, 1) := by decide +kernel
theorem dL_law_1258 : decode cL_law 1258 = .ok (.invokevirtual 104, 3) := by decide +kernel
theorem dL_law_1261 : decode cL_law 1261 = .ok (.iload 5, 2) := by decide +kernel
theorem dL_law_1263 : decode cL_law 1263 = .ok (.if_icmp .eq 5, 3) := by decide +kernel
theorem dL_law_1266 : decode cL_law 1266 = .ok (.iconst 0, 1) := by decide +kernel
theorem dL_law_1267 : decode cL_law 1267 = .ok (.ireturn, 1) := by decide +kernel
theorem dL_law_1268 : decode cL_law 1268 = .ok (.iload 5, 2) := by decide +kernel
theorem dL_law_1270 : decode cL_law 1270 = .ok (.ifCond .ne 15, 3) := by decide +kernel
theorem dL_law_1273 : decode cL_law 1273 = .ok (.aload_n 3, 1) := by decide +kernel
theorem dL_law_1274 : decode cL_law 1274 = .ok (.iconst 0, 1) := by decide +kernel
theorem dL_law_1275 : decode cL_law 1275 = .ok (.laload, 1) := by decide +kernel
theorem dL_law_1276 : decode cL_law 1276 = .ok (.iload 6, 2) := by decide +kernel
theorem dL_law_1278 : decode cL_law 1278 = .ok (.i2l, 1) := by decide +kernel
theorem dL_law_1279 : decode cL_law 1279 = .ok (.lcmp, 1) := by decide +kernel
theorem dL_law_1280 : decode cL_law 1280 = .ok (.ifCond .eq 5, 3) := by decide +kernel
theorem dL_law_1283 : decode cL_law 1283 = .ok (.iconst 0, 1) := by decide +kernel
theorem dL_law_1284 : decode cL_law 1284 = .ok (.ireturn, 1) := by decide +kernel
theorem dL_law_1285 : decode cL_law 1285 = .ok (.goto 566, 3) := by decide +kernel
theorem dL_law_1288 : decode cL_law 1288 = .ok (.aload_n 1, 1) := by decide +kernel
theorem dL_law_1289 : decode cL_law 1289 = .ok (.aload_n 0, 1) := by decide +kernel
theorem dL_law_1290 : decode cL_law 1290 = .ok (.iload 4, 2) := by decide +kernel
theorem dL_law_1292 : decode cL_law 1292 = .ok (.iconst 1, 1) := by decide +kernel
theorem dL_law_1293 : decode cL_law 1293 = .ok (.iadd, 1) := by decide +kernel
theorem dL_law_1294 : decode cL_law 1294 = .ok (.iaload, 1) := by decide +kernel
theorem dL_law_1295 : decode cL_law 1295 = .ok (.aload_n 3, 1) := by decide +kernel
theorem dL_law_1296 : decode cL_law 1296 = .ok (.invokestatic 174, 3) := by decide +kernel
theorem dL_law_1299 : decode cL_law 1299 = .ok (.istore 5, 2) := by decide +kernel
theorem dL_law_1301 : decode cL_law 1301 = .ok (.aload_n 2, 1) := by decide +kernel
theorem dL_law_1302 : decode cL_law 1302 = .ok (.aload_n 0, 1) := by decide +kernel
theorem dL_law_1303 : decode cL_law 1303 = .ok (.iload 4, 2) := by decide +kernel
theorem dL_law_1305 : decode cL_law 1305 = .ok (.iconst 1, 1) := by decide +kernel
theorem dL_law_1306 : decode cL_law 1306 = .ok (.iadd, 1) := by decide +kernel
theorem dL_law_1307 : decode cL_law 1307 = .ok (.iaload, 1) := by decide +kernel
theorem dL_law_1308 : decode cL_law 1308 = .ok (.invokevirtual 176, 3) := by decide +kernel
theorem dL_law_1311 : decode cL_law 1311 = .ok (.istore 6, 2) := by decide +kernel
theorem dL_law_1313 : decode cL_law 1313 = .ok (.aload_n 2, 1) := by decide +kernel
theorem dL_law_1314 : decode cL_law 1314 = .ok (.invokevirtual 104, 3) := by decide +kernel
theorem dL_law_1317 : decode cL_law 1317 = .ok (.iload 5, 2) := by decide +kernel
theorem dL_law_1319 : decode cL_law 1319 = .ok (.if_icmp .eq 5, 3) := by decide +kernel
theorem dL_law_1322 : decode cL_law 1322 = .ok (.iconst 0, 1) := by decide +kernel
theorem dL_law_1323 : decode cL_law 1323 = .ok (.ireturn, 1) := by decide +kernel
theorem dL_law_1324 : decode cL_law 1324 = .ok (.iload 5, 2) := by decide +kernel
theorem dL_law_1326 : decode cL_law 1326 = .ok (.ifCond .ne 15, 3) := by decide +kernel
theorem dL_law_1329 : decode cL_law 1329 = .ok (.aload_n 3, 1) := by decide +kernel
theorem dL_law_1330 : decode cL_law 1330 = .ok (.iconst 0, 1) := by decide +kernel
theorem dL_law_1331 : decode cL_law 1331 = .ok (.laload, 1) := by decide +kernel
theorem dL_law_1332 : decode cL_law 1332 = .ok (.iload 6, 2) := by decide +kernel
theorem dL_law_1334 : decode cL_law 1334 = .ok (.i2l, 1) := by decide +kernel
theorem dL_law_1335 : decode cL_law 1335 = .ok (.lcmp, 1) := by decide +kernel
theorem dL_law_1336 : decode cL_law 1336 = .ok (.ifCond .eq 5, 3) := by decide +kernel
theorem dL_law_1339 : decode cL_law 1339 = .ok (.iconst 0, 1) := by decide +kernel
theorem dL_law_1340 : decode cL_law 1340 = .ok (.ireturn, 1) := by decide +kernel
theorem dL_law_1341 : decode cL_law 1341 = .ok (.goto 510, 3) := by decide +kernel
theorem dL_law_1344 : decode cL_law 1344 = .ok (.aload_n 1, 1) := by decide +kernel
theorem dL_law_1345 : decode cL_law 1345 = .ok (.aload_n 0, 1) := by decide +kernel
theorem dL_law_1346 : decode cL_law 1346 = .ok (.iload 4, 2) := by decide +kernel
theorem dL_law_1348 : decode cL_law 1348 = .ok (.iconst 1, 1) := by decide +kernel
theorem dL_law_1349 : decode cL_law 1349 = .ok (.iadd, 1) := by decide +kernel
theorem dL_law_1350 : decode cL_law 1350 = .ok (.iaload, 1) := by decide +kernel
theorem dL_law_1351 : decode cL_law 1351 = .ok (.aload_n 3, 1) := by decide +kernel
theorem dL_law_1352 : decode cL_law 1352 = .ok (.invokestatic 177, 3) := by decide +kernel
theorem dL_law_1355 : decode cL_law 1355 = .ok (.istore 5, 2) := by decide +kernel
theorem dL_law_1357 : decode cL_law 1357 = .ok (.aload_n 2, 1) := by decide +kernel
theorem dL_law_1358 : decode cL_law 1358 = .ok (.aload_n 0, 1) := by decide +kernel
theorem dL_law_1359 : decode cL_law 1359 = .ok (.iload 4, 2) := by decide +kernel
theorem dL_law_1361 : decode cL_law 1361 = .ok (.iconst 1, 1) := by decide +kernel
theorem dL_law_1362 : decode cL_law 1362 = .ok (.iadd, 1) := by decide +kernel
theorem dL_law_1363 : decode cL_law 1363 = .ok (.iaload, 1) := by decide +kernel
theorem dL_law_1364 : decode cL_law 1364 = .ok (.invokevirtual 179, 3) := by decide +kernel
theorem dL_law_1367 : decode cL_law 1367 = .ok (.istore 6, 2) := by decide +kernel
theorem dL_law_1369 : decode cL_law 1369 = .ok (.aload_n 2, 1) := by decide +kernel
theorem dL_law_1370 : decode cL_law 1370 = .ok (.invokevirtual 104, 3) := by decide +kernel
theorem dL_law_1373 : decode cL_law 1373 = .ok (.iload 5, 2) := by decide +kernel
theorem dL_law_1375 : decode cL_law 1375 = .ok (.if_icmp .eq 5, 3) := by decide +kernel
theorem dL_law_1378 : decode cL_law 1378 = .ok (.iconst 0, 1) := by decide +kernel
theorem dL_law_1379 : decode cL_law 1379 = .ok (.ireturn, 1) := by decide +kernel
theorem dL_law_1380 : decode cL_law 1380 = .ok (.iload 5, 2) := by decide +kernel
theorem dL_law_1382 : decode cL_law 1382 = .ok (.ifCond .ne 15, 3) := by decide +kernel
theorem dL_law_1385 : decode cL_law 1385 = .ok (.aload_n 3, 1) := by decide +kernel
theorem dL_law_1386 : decode cL_law 1386 = .ok (.iconst 0, 1) := by decide +kernel
theorem dL_law_1387 : decode cL_law 1387 = .ok (.laload, 1) := by decide +kernel
theorem dL_law_1388 : decode cL_law 1388 = .ok (.iload 6, 2) := by decide +kernel
theorem dL_law_1390 : decode cL_law 1390 = .ok (.i2l, 1) := by decide +kernel
theorem dL_law_1391 : decode cL_law 1391 = .ok (.lcmp, 1) := by decide +kernel
theorem dL_law_1392 : decode cL_law 1392 = .ok (.ifCond .eq 5, 3) := by decide +kernel
theorem dL_law_1395 : decode cL_law 1395 = .ok (.iconst 0, 1) := by decide +kernel
theorem dL_law_1396 : decode cL_law 1396 = .ok (.ireturn, 1) := by decide +kernel
theorem dL_law_1397 : decode cL_law 1397 = .ok (.goto 454, 3) := by decide +kernel
theorem dL_law_1400 : decode cL_law 1400 = .ok (.aload_n 1, 1) := by decide +kernel
theorem dL_law_1401 : decode cL_law 1401 = .ok (.aload_n 0, 1) := by decide +kernel
theorem dL_law_1402 : decode cL_law 1402 = .ok (.iload 4, 2) := by decide +kernel
theorem dL_law_1404 : decode cL_law 1404 = .ok (.iconst 1, 1) := by decide +kernel
theorem dL_law_1405 : decode cL_law 1405 = .ok (.iadd, 1) := by decide +kernel
theorem dL_law_1406 : decode cL_law 1406 = .ok (.iaload, 1) := by decide +kernel
theorem dL_law_1407 : decode cL_law 1407 = .ok (.aload_n 3, 1) := by decide +kernel
theorem dL_law_1408 : decode cL_law 1408 = .ok (.invokestatic 180, 3) := by decide +kernel
theorem dL_law_1411 : decode cL_law 1411 = .ok (.istore 5, 2) := by decide +kernel
theorem dL_law_1413 : decode cL_law 1413 = .ok (.aload_n 2, 1) := by decide +kernel
theorem dL_law_1414 : decode cL_law 1414 = .ok (.aload_n 0, 1) := by decide +kernel
theorem dL_law_1415 : decode cL_law 1415 = .ok (.iload 4, 2) := by decide +kernel
theorem dL_law_1417 : decode cL_law 1417 = .ok (.iconst 1, 1) := by decide +kernel
theorem dL_law_1418 : decode cL_law 1418 = .ok (.iadd, 1) := by decide +kernel
theorem dL_law_1419 : decode cL_law 1419 = .ok (.iaload, 1) := by decide +kernel
theorem dL_law_1420 : decode cL_law 1420 = .ok (.invokevirtual 182, 3) := by decide +kernel
theorem dL_law_1423 : decode cL_law 1423 = .ok (.istore 6, 2) := by decide +kernel
theorem dL_law_1425 : decode cL_law 1425 = .ok (.aload_n 2, 1) := by decide +kernel
theorem dL_law_1426 : decode cL_law 1426 = .ok (.invokevirtual 104, 3) := by decide +kernel
theorem dL_law_1429 : decode cL_law 1429 = .ok (.iload 5, 2) := by decide +kernel
theorem dL_law_1431 : decode cL_law 1431 = .ok (.if_icmp .eq 5, 3) := by decide +kernel
theorem dL_law_1434 : decode cL_law 1434 = .ok (.iconst 0, 1) := by decide +kernel
theorem dL_law_1435 : decode cL_law 1435 = .ok (.ireturn, 1) := by decide +kernel
theorem dL_law_1436 : decode cL_law 1436 = .ok (.iload 5, 2) := by decide +kernel
theorem dL_law_1438 : decode cL_law 1438 = .ok (.ifCond .ne 15, 3) := by decide +kernel
theorem dL_law_1441 : decode cL_law 1441 = .ok (.aload_n 3, 1) := by decide +kernel
theorem dL_law_1442 : decode cL_law 1442 = .ok (.iconst 0, 1) := by decide +kernel
theorem dL_law_1443 : decode cL_law 1443 = .ok (.laload, 1) := by decide +kernel
theorem dL_law_1444 : decode cL_law 1444 = .ok (.iload 6, 2) := by decide +kernel
theorem dL_law_1446 : decode cL_law 1446 = .ok (.i2l, 1) := by decide +kernel
theorem dL_law_1447 : decode cL_law 1447 = .ok (.lcmp, 1) := by decide +kernel
theorem dL_law_1448 : decode cL_law 1448 = .ok (.ifCond .eq 5, 3) := by decide +kernel
theorem dL_law_1451 : decode cL_law 1451 = .ok (.iconst 0, 1) := by decide +kernel
theorem dL_law_1452 : decode cL_law 1452 = .ok (.ireturn, 1) := by decide +kernel
theorem dL_law_1453 : decode cL_law 1453 = .ok (.goto 398, 3) := by decide +kernel
theorem dL_law_1456 : decode cL_law 1456 = .ok (.aload_n 1, 1) := by decide +kernel
theorem dL_law_1457 : decode cL_law 1457 = .ok (.aload_n 0, 1) := by decide +kernel
theorem dL_law_1458 : decode cL_law 1458 = .ok (.iload 4, 2) := by decide +kernel
theorem dL_law_1460 : decode cL_law 1460 = .ok (.iconst 1, 1) := by decide +kernel
theorem dL_law_1461 : decode cL_law 1461 = .ok (.iadd, 1) := by decide +kernel
theorem dL_law_1462 : decode cL_law 1462 = .ok (.iaload, 1) := by decide +kernel
theorem dL_law_1463 : decode cL_law 1463 = .ok (.aload_n 0, 1) := by decide +kernel
theorem dL_law_1464 : decode cL_law 1464 = .ok (.iload 4, 2) := by decide +kernel
theorem dL_law_1466 : decode cL_law 1466 = .ok (.iconst 2, 1) := by decide +kernel
