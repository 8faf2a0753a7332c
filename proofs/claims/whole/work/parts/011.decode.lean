theorem dX7_init_0 : decode cX7_init 0 = .ok (.aload_n 0, 1) := by decide +kernel
theorem dX7_init_1 : decode cX7_init 1 = .ok (.invokespecial 1, 3) := by decide +kernel
theorem dX7_init_4 : decode cX7_init 4 = .ok (.aload_n 0, 1) := by decide +kernel
theorem dX7_init_5 : decode cX7_init 5 = .ok (.sipush 1062, 3) := by decide +kernel
theorem dX7_init_8 : decode cX7_init 8 = .ok (.newarray .int, 2) := by decide +kernel
theorem dX7_init_10 : decode cX7_init 10 = .ok (.putfield 7, 3) := by decide +kernel
theorem dX7_init_13 : decode cX7_init 13 = .ok (.aload_n 0, 1) := by decide +kernel
theorem dX7_init_14 : decode cX7_init 14 = .ok (.bipush 60, 2) := by decide +kernel
theorem dX7_init_16 : decode cX7_init 16 = .ok (.newarray .int, 2) := by decide +kernel
theorem dX7_init_18 : decode cX7_init 18 = .ok (.putfield 13, 3) := by decide +kernel
theorem dX7_init_21 : decode cX7_init 21 = .ok (.aload_n 0, 1) := by decide +kernel
theorem dX7_init_22 : decode cX7_init 22 = .ok (.getfield 7, 3) := by decide +kernel
theorem dX7_init_25 : decode cX7_init 25 = .ok (.bipush 6, 2) := by decide +kernel
theorem dX7_init_27 : decode cX7_init 27 = .ok (.iconst 3, 1) := by decide +kernel
theorem dX7_init_28 : decode cX7_init 28 = .ok (.iastore, 1) := by decide +kernel
theorem dX7_init_29 : decode cX7_init 29 = .ok (.aload_n 0, 1) := by decide +kernel
theorem dX7_init_30 : decode cX7_init 30 = .ok (.getfield 7, 3) := by decide +kernel
theorem dX7_init_33 : decode cX7_init 33 = .ok (.bipush 7, 2) := by decide +kernel
theorem dX7_init_35 : decode cX7_init 35 = .ok (.iconst 5, 1) := by decide +kernel
theorem dX7_init_36 : decode cX7_init 36 = .ok (.iastore, 1) := by decide +kernel
theorem dX7_init_37 : decode cX7_init 37 = .ok (.aload_n 0, 1) := by decide +kernel
theorem dX7_init_38 : decode cX7_init 38 = .ok (.getfield 7, 3) := by decide +kernel
theorem dX7_init_41 : decode cX7_init 41 = .ok (.bipush 8, 2) := by decide +kernel
theorem dX7_init_43 : decode cX7_init 43 = .ok (.iconst 3, 1) := by decide +kernel
theorem dX7_init_44 : decode cX7_init 44 = .ok (.iastore, 1) := by decide +kernel
theorem dX7_init_45 : decode cX7_init 45 = .ok (.aload_n 0, 1) := by decide +kernel
theorem dX7_init_46 : decode cX7_init 46 = .ok (.getfield 7, 3) := by decide +kernel
theorem dX7_init_49 : decode cX7_init 49 = .ok (.bipush 9, 2) := by decide +kernel
theorem dX7_init_51 : decode cX7_init 51 = .ok (.iconst 2, 1) := by decide +kernel
theorem dX7_init_52 : decode cX7_init 52 = .ok (.iastore, 1) := by decide +kernel
theorem dX7_init_53 : decode cX7_init 53 = .ok (.return_, 1) := by decide +kernel
theorem dX7_thrown_0 : decode cX7_thrown 0 = .ok (.aload_n 0, 1) := by decide +kernel
theorem dX7_thrown_1 : decode cX7_thrown 1 = .ok (.getfield 16, 3) := by decide +kernel
theorem dX7_thrown_4 : decode cX7_thrown 4 = .ok (.ireturn, 1) := by decide +kernel
theorem dX7_in_0 : decode cX7_in 0 = .ok (.iload_n 0, 1) := by decide +kernel
theorem dX7_in_1 : decode cX7_in 1 = .ok (.iload_n 1, 1) := by decide +kernel
theorem dX7_in_2 : decode cX7_in 2 = .ok (.if_icmp .lt 12, 3) := by decide +kernel
theorem dX7_in_5 : decode cX7_in 5 = .ok (.iload_n 0, 1) := by decide +kernel
theorem dX7_in_6 : decode cX7_in 6 = .ok (.iload_n 2, 1) := by decide +kernel
theorem dX7_in_7 : decode cX7_in 7 = .ok (.if_icmp .gt 7, 3) := by decide +kernel
theorem dX7_in_10 : decode cX7_in 10 = .ok (.iconst 1, 1) := by decide +kernel
theorem dX7_in_11 : decode cX7_in 11 = .ok (.goto 4, 3) := by decide +kernel
theorem dX7_in_14 : decode cX7_in 14 = .ok (.iconst 0, 1) := by decide +kernel
theorem dX7_in_15 : decode cX7_in 15 = .ok (.ireturn, 1) := by decide +kernel
theorem dX7_holds_0 : decode cX7_holds 0 = .ok (.aload_n 0, 1) := by decide +kernel
theorem dX7_holds_1 : decode cX7_holds 1 = .ok (.iload_n 1, 1) := by decide +kernel
theorem dX7_holds_2 : decode cX7_holds 2 = .ok (.putfield 16, 3) := by decide +kernel
theorem dX7_holds_5 : decode cX7_holds 5 = .ok (.iload_n 1, 1) := by decide +kernel
theorem dX7_holds_6 : decode cX7_holds 6 = .ok (.ifCond .ne 7, 3) := by decide +kernel
theorem dX7_holds_9 : decode cX7_holds 9 = .ok (.iconst 1, 1) := by decide +kernel
theorem dX7_holds_10 : decode cX7_holds 10 = .ok (.goto 4, 3) := by decide +kernel
theorem dX7_holds_13 : decode cX7_holds 13 = .ok (.iconst 0, 1) := by decide +kernel
theorem dX7_holds_14 : decode cX7_holds 14 = .ok (.ireturn, 1) := by decide +kernel
theorem dX7_isFamily_0 : decode cX7_isFamily 0 = .ok (.iload_n 0, 1) := by decide +kernel
theorem dX7_isFamily_1 : decode cX7_isFamily 1 = .ok (.iconst 0, 1) := by decide +kernel
theorem dX7_isFamily_2 : decode cX7_isFamily 2 = .ok (.iconst 5, 1) := by decide +kernel
theorem dX7_isFamily_3 : decode cX7_isFamily 3 = .ok (.invokestatic 20, 3) := by decide +kernel
theorem dX7_isFamily_6 : decode cX7_isFamily 6 = .ok (.ireturn, 1) := by decide +kernel
theorem dX7_arePair_0 : decode cX7_arePair 0 = .ok (.iload_n 0, 1) := by decide +kernel
theorem dX7_arePair_1 : decode cX7_arePair 1 = .ok (.invokestatic 24, 3) := by decide +kernel
theorem dX7_arePair_4 : decode cX7_arePair 4 = .ok (.ifCond .eq 19, 3) := by decide +kernel
theorem dX7_arePair_7 : decode cX7_arePair 7 = .ok (.iload_n 1, 1) := by decide +kernel
theorem dX7_arePair_8 : decode cX7_arePair 8 = .ok (.invokestatic 24, 3) := by decide +kernel
theorem dX7_arePair_11 : decode cX7_arePair 11 = .ok (.ifCond .eq 12, 3) := by decide +kernel
theorem dX7_arePair_14 : decode cX7_arePair 14 = .ok (.iload_n 0, 1) := by decide +kernel
theorem dX7_arePair_15 : decode cX7_arePair 15 = .ok (.iload_n 1, 1) := by decide +kernel
theorem dX7_arePair_16 : decode cX7_arePair 16 = .ok (.if_icmp .eq 7, 3) := by decide +kernel
theorem dX7_arePair_19 : decode cX7_arePair 19 = .ok (.iconst 1, 1) := by decide +kernel
theorem dX7_arePair_20 : decode cX7_arePair 20 = .ok (.goto 4, 3) := by decide +kernel
theorem dX7_arePair_23 : decode cX7_arePair 23 = .ok (.iconst 0, 1) := by decide +kernel
theorem dX7_arePair_24 : decode cX7_arePair 24 = .ok (.ireturn, 1) := by decide +kernel
theorem dX7_isGuest_0 : decode cX7_isGuest 0 = .ok (.iload_n 1, 1) := by decide +kernel
theorem dX7_isGuest_1 : decode cX7_isGuest 1 = .ok (.iconst 0, 1) := by decide +kernel
theorem dX7_isGuest_2 : decode cX7_isGuest 2 = .ok (.aload_n 0, 1) := by decide +kernel
theorem dX7_isGuest_3 : decode cX7_isGuest 3 = .ok (.getfield 7, 3) := by decide +kernel
theorem dX7_isGuest_6 : decode cX7_isGuest 6 = .ok (.iconst 0, 1) := by decide +kernel
theorem dX7_isGuest_7 : decode cX7_isGuest 7 = .ok (.iaload, 1) := by decide +kernel
theorem dX7_isGuest_8 : decode cX7_isGuest 8 = .ok (.iconst 1, 1) := by decide +kernel
theorem dX7_isGuest_9 : decode cX7_isGuest 9 = .ok (.isub, 1) := by decide +kernel
theorem dX7_isGuest_10 : decode cX7_isGuest 10 = .ok (.invokestatic 20, 3) := by decide +kernel
theorem dX7_isGuest_13 : decode cX7_isGuest 13 = .ok (.ireturn, 1) := by decide +kernel
theorem dX7_isTable_0 : decode cX7_isTable 0 = .ok (.iload_n 1, 1) := by decide +kernel
theorem dX7_isTable_1 : decode cX7_isTable 1 = .ok (.iconst 0, 1) := by decide +kernel
theorem dX7_isTable_2 : decode cX7_isTable 2 = .ok (.aload_n 0, 1) := by decide +kernel
theorem dX7_isTable_3 : decode cX7_isTable 3 = .ok (.getfield 7, 3) := by decide +kernel
theorem dX7_isTable_6 : decode cX7_isTable 6 = .ok (.iconst 1, 1) := by decide +kernel
theorem dX7_isTable_7 : decode cX7_isTable 7 = .ok (.iaload, 1) := by decide +kernel
theorem dX7_isTable_8 : decode cX7_isTable 8 = .ok (.iconst 1, 1) := by decide +kernel
theorem dX7_isTable_9 : decode cX7_isTable 9 = .ok (.isub, 1) := by decide +kernel
theorem dX7_isTable_10 : decode cX7_isTable 10 = .ok (.invokestatic 20, 3) := by decide +kernel
theorem dX7_isTable_13 : decode cX7_isTable 13 = .ok (.ireturn, 1) := by decide +kernel
theorem dX7_isSeat_0 : decode cX7_isSeat 0 = .ok (.aload_n 0, 1) := by decide +kernel
theorem dX7_isSeat_1 : decode cX7_isSeat 1 = .ok (.iload_n 1, 1) := by decide +kernel
theorem dX7_isSeat_2 : decode cX7_isSeat 2 = .ok (.invokevirtual 28, 3) := by decide +kernel
theorem dX7_isSeat_5 : decode cX7_isSeat 5 = .ok (.ifCond .eq 26, 3) := by decide +kernel
theorem dX7_isSeat_8 : decode cX7_isSeat 8 = .ok (.iload_n 2, 1) := by decide +kernel
theorem dX7_isSeat_9 : decode cX7_isSeat 9 = .ok (.iconst 0, 1) := by decide +kernel
theorem dX7_isSeat_10 : decode cX7_isSeat 10 = .ok (.aload_n 0, 1) := by decide +kernel
theorem dX7_isSeat_11 : decode cX7_isSeat 11 = .ok (.getfield 7, 3) := by decide +kernel
theorem dX7_isSeat_14 : decode cX7_isSeat 14 = .ok (.bipush 18, 2) := by decide +kernel
theorem dX7_isSeat_16 : decode cX7_isSeat 16 = .ok (.iload_n 1, 1) := by decide +kernel
theorem dX7_isSeat_17 : decode cX7_isSeat 17 = .ok (.iadd, 1) := by decide +kernel
theorem dX7_isSeat_18 : decode cX7_isSeat 18 = .ok (.iaload, 1) := by decide +kernel
theorem dX7_isSeat_19 : decode cX7_isSeat 19 = .ok (.iconst 1, 1) := by decide +kernel
theorem dX7_isSeat_20 : decode cX7_isSeat 20 = .ok (.isub, 1) := by decide +kernel
theorem dX7_isSeat_21 : decode cX7_isSeat 21 = .ok (.invokestatic 20, 3) := by decide +kernel
theorem dX7_isSeat_24 : decode cX7_isSeat 24 = .ok (.ifCond .eq 7, 3) := by decide +kernel
theorem dX7_isSeat_27 : decode cX7_isSeat 27 = .ok (.iconst 1, 1) := by decide +kernel
theorem dX7_isSeat_28 : decode cX7_isSeat 28 = .ok (.goto 4, 3) := by decide +kernel
theorem dX7_isSeat_31 : decode cX7_isSeat 31 = .ok (.iconst 0, 1) := by decide +kernel
theorem dX7_isSeat_32 : decode cX7_isSeat 32 = .ok (.ireturn, 1) := by decide +kernel
theorem dX7_isAtLeg_0 : decode cX7_isAtLeg 0 = .ok (.iload_n 0, 1) := by decide +kernel
theorem dX7_isAtLeg_1 : decode cX7_isAtLeg 1 = .ok (.iconst 3, 1) := by decide +kernel
theorem dX7_isAtLeg_2 : decode cX7_isAtLeg 2 = .ok (.irem, 1) := by decide +kernel
theorem dX7_isAtLeg_3 : decode cX7_isAtLeg 3 = .ok (.ifCond .ne 7, 3) := by decide +kernel
theorem dX7_isAtLeg_6 : decode cX7_isAtLeg 6 = .ok (.iconst 1, 1) := by decide +kernel
theorem dX7_isAtLeg_7 : decode cX7_isAtLeg 7 = .ok (.goto 4, 3) := by decide +kernel
theorem dX7_isAtLeg_10 : decode cX7_isAtLeg 10 = .ok (.iconst 0, 1) := by decide +kernel
theorem dX7_isAtLeg_11 : decode cX7_isAtLeg 11 = .ok (.ireturn, 1) := by decide +kernel
theorem dX7_of_0 : decode cX7_of 0 = .ok (.aload_n 0, 1) := by decide +kernel
theorem dX7_of_1 : decode cX7_of 1 = .ok (.getfield 7, 3) := by decide +kernel
theorem dX7_of_4 : decode cX7_of 4 = .ok (.iload_n 1, 1) := by decide +kernel
theorem dX7_of_5 : decode cX7_of 5 = .ok (.bipush 38, 2) := by decide +kernel
theorem dX7_of_7 : decode cX7_of 7 = .ok (.iadd, 1) := by decide +kernel
theorem dX7_of_8 : decode cX7_of 8 = .ok (.iconst 5, 1) := by decide +kernel
theorem dX7_of_9 : decode cX7_of 9 = .ok (.iload_n 2, 1) := by decide +kernel
theorem dX7_of_10 : decode cX7_of 10 = .ok (.imul, 1) := by decide +kernel
theorem dX7_of_11 : decode cX7_of 11 = .ok (.iadd, 1) := by decide +kernel
theorem dX7_of_12 : decode cX7_of 12 = .ok (.iload_n 3, 1) := by decide +kernel
theorem dX7_of_13 : decode cX7_of 13 = .ok (.iadd, 1) := by decide +kernel
theorem dX7_of_14 : decode cX7_of 14 = .ok (.iaload, 1) := by decide +kernel
theorem dX7_of_15 : decode cX7_of 15 = .ok (.ireturn, 1) := by decide +kernel
theorem dX7_lay_0 : decode cX7_lay 0 = .ok (.aload_n 0, 1) := by decide +kernel
theorem dX7_lay_1 : decode cX7_lay 1 = .ok (.getfield 7, 3) := by decide +kernel
theorem dX7_lay_4 : decode cX7_lay 4 = .ok (.iload_n 1, 1) := by decide +kernel
theorem dX7_lay_5 : decode cX7_lay 5 = .ok (.bipush 38, 2) := by decide +kernel
theorem dX7_lay_7 : decode cX7_lay 7 = .ok (.iadd, 1) := by decide +kernel
theorem dX7_lay_8 : decode cX7_lay 8 = .ok (.iconst 5, 1) := by decide +kernel
theorem dX7_lay_9 : decode cX7_lay 9 = .ok (.iload_n 2, 1) := by decide +kernel
theorem dX7_lay_10 : decode cX7_lay 10 = .ok (.imul, 1) := by decide +kernel
theorem dX7_lay_11 : decode cX7_lay 11 = .ok (.iadd, 1) := by decide +kernel
theorem dX7_lay_12 : decode cX7_lay 12 = .ok (.iload_n 3, 1) := by decide +kernel
theorem dX7_lay_13 : decode cX7_lay 13 = .ok (.iadd, 1) := by decide +kernel
theorem dX7_lay_14 : decode cX7_lay 14 = .ok (.iload 4, 2) := by decide +kernel
theorem dX7_lay_16 : decode cX7_lay 16 = .ok (.iastore, 1) := by decide +kernel
theorem dX7_lay_17 : decode cX7_lay 17 = .ok (.return_, 1) := by decide +kernel
theorem dX7_whoSits_0 : decode cX7_whoSits 0 = .ok (.iconst 0, 1) := by decide +kernel
theorem dX7_whoSits_1 : decode cX7_whoSits 1 = .ok (.istore 4, 2) := by decide +kernel
theorem dX7_whoSits_3 : decode cX7_whoSits 3 = .ok (.iload 4, 2) := by decide +kernel
theorem dX7_whoSits_5 : decode cX7_whoSits 5 = .ok (.aload_n 0, 1) := by decide +kernel
theorem dX7_whoSits_6 : decode cX7_whoSits 6 = .ok (.getfield 7, 3) := by decide +kernel
theorem dX7_whoSits_9 : decode cX7_whoSits 9 = .ok (.iload_n 1, 1) := by decide +kernel
theorem dX7_whoSits_10 : decode cX7_whoSits 10 = .ok (.iconst 0, 1) := by decide +kernel
theorem dX7_whoSits_11 : decode cX7_whoSits 11 = .ok (.iadd, 1) := by decide +kernel
theorem dX7_whoSits_12 : decode cX7_whoSits 12 = .ok (.iaload, 1) := by decide +kernel
theorem dX7_whoSits_13 : decode cX7_whoSits 13 = .ok (.if_icmp .ge 36, 3) := by decide +kernel
theorem dX7_whoSits_16 : decode cX7_whoSits 16 = .ok (.aload_n 0, 1) := by decide +kernel
theorem dX7_whoSits_17 : decode cX7_whoSits 17 = .ok (.iload_n 1, 1) := by decide +kernel
theorem dX7_whoSits_18 : decode cX7_whoSits 18 = .ok (.iload 4, 2) := by decide +kernel
theorem dX7_whoSits_20 : decode cX7_whoSits 20 = .ok (.iconst 3, 1) := by decide +kernel
theorem dX7_whoSits_21 : decode cX7_whoSits 21 = .ok (.invokevirtual 31, 3) := by decide +kernel
theorem dX7_whoSits_24 : decode cX7_whoSits 24 = .ok (.iload_n 2, 1) := by decide +kernel
theorem dX7_whoSits_25 : decode cX7_whoSits 25 = .ok (.if_icmp .ne 18, 3) := by decide +kernel
theorem dX7_whoSits_28 : decode cX7_whoSits 28 = .ok (.aload_n 0, 1) := by decide +kernel
theorem dX7_whoSits_29 : decode cX7_whoSits 29 = .ok (.iload_n 1, 1) := by decide +kernel
theorem dX7_whoSits_30 : decode cX7_whoSits 30 = .ok (.iload 4, 2) := by decide +kernel
theorem dX7_whoSits_32 : decode cX7_whoSits 32 = .ok (.iconst 4, 1) := by decide +kernel
theorem dX7_whoSits_33 : decode cX7_whoSits 33 = .ok (.invokevirtual 31, 3) := by decide +kernel
theorem dX7_whoSits_36 : decode cX7_whoSits 36 = .ok (.iload_n 3, 1) := by decide +kernel
theorem dX7_whoSits_37 : decode cX7_whoSits 37 = .ok (.if_icmp .ne 6, 3) := by decide +kernel
theorem dX7_whoSits_40 : decode cX7_whoSits 40 = .ok (.iload 4, 2) := by decide +kernel
theorem dX7_whoSits_42 : decode cX7_whoSits 42 = .ok (.ireturn, 1) := by decide +kernel
theorem dX7_whoSits_43 : decode cX7_whoSits 43 = .ok (.iinc 4 1, 3) := by decide +kernel
theorem dX7_whoSits_46 : decode cX7_whoSits 46 = .ok (.goto (-43), 3) := by decide +kernel
theorem dX7_whoSits_49 : decode cX7_whoSits 49 = .ok (.iconst (-1), 1) := by decide +kernel
theorem dX7_whoSits_50 : decode cX7_whoSits 50 = .ok (.ireturn, 1) := by decide +kernel
theorem dX7_feudOf_0 : decode cX7_feudOf 0 = .ok (.iload_n 0, 1) := by decide +kernel
theorem dX7_feudOf_1 : decode cX7_feudOf 1 = .ok (.iload_n 1, 1) := by decide +kernel
theorem dX7_feudOf_2 : decode cX7_feudOf 2 = .ok (.if_icmp .ge 12, 3) := by decide +kernel
theorem dX7_feudOf_5 : decode cX7_feudOf 5 = .ok (.bipush 6, 2) := by decide +kernel
theorem dX7_feudOf_7 : decode cX7_feudOf 7 = .ok (.iload_n 0, 1) := by decide +kernel
theorem dX7_feudOf_8 : decode cX7_feudOf 8 = .ok (.imul, 1) := by decide +kernel
theorem dX7_feudOf_9 : decode cX7_feudOf 9 = .ok (.iload_n 1, 1) := by decide +kernel
theorem dX7_feudOf_10 : decode cX7_feudOf 10 = .ok (.iadd, 1) := by decide +kernel
theorem dX7_feudOf_11 : decode cX7_feudOf 11 = .ok (.goto 9, 3) := by decide +kernel
theorem dX7_feudOf_14 : decode cX7_feudOf 14 = .ok (.bipush 6, 2) := by decide +kernel
theorem dX7_feudOf_16 : decode cX7_feudOf 16 = .ok (.iload_n 1, 1) := by decide +kernel
theorem dX7_feudOf_17 : decode cX7_feudOf 17 = .ok (.imul, 1) := by decide +kernel
theorem dX7_feudOf_18 : decode cX7_feudOf 18 = .ok (.iload_n 0, 1) := by decide +kernel
theorem dX7_feudOf_19 : decode cX7_feudOf 19 = .ok (.iadd, 1) := by decide +kernel
theorem dX7_feudOf_20 : decode cX7_feudOf 20 = .ok (.ireturn, 1) := by decide +kernel
theorem dX7_feudPlace_0 : decode cX7_feudPlace 0 = .ok (.iconst 0, 1) := by decide +kernel
theorem dX7_feudPlace_1 : decode cX7_feudPlace 1 = .ok (.istore_n 3, 1) := by decide +kernel
theorem dX7_feudPlace_2 : decode cX7_feudPlace 2 = .ok (.iload_n 3, 1) := by decide +kernel
theorem dX7_feudPlace_3 : decode cX7_feudPlace 3 = .ok (.aload_n 0, 1) := by decide +kernel
theorem dX7_feudPlace_4 : decode cX7_feudPlace 4 = .ok (.getfield 7, 3) := by decide +kernel
theorem dX7_feudPlace_7 : decode cX7_feudPlace 7 = .ok (.iload_n 1, 1) := by decide +kernel
theorem dX7_feudPlace_8 : decode cX7_feudPlace 8 = .ok (.iconst 2, 1) := by decide +kernel
theorem dX7_feudPlace_9 : decode cX7_feudPlace 9 = .ok (.iadd, 1) := by decide +kernel
theorem dX7_feudPlace_10 : decode cX7_feudPlace 10 = .ok (.iaload, 1) := by decide +kernel
theorem dX7_feudPlace_11 : decode cX7_feudPlace 11 = .ok (.if_icmp .ge 26, 3) := by decide +kernel
theorem dX7_feudPlace_14 : decode cX7_feudPlace 14 = .ok (.aload_n 0, 1) := by decide +kernel
theorem dX7_feudPlace_15 : decode cX7_feudPlace 15 = .ok (.getfield 7, 3) := by decide +kernel
theorem dX7_feudPlace_18 : decode cX7_feudPlace 18 = .ok (.iload_n 1, 1) := by decide +kernel
theorem dX7_feudPlace_19 : decode cX7_feudPlace 19 = .ok (.bipush 10, 2) := by decide +kernel
theorem dX7_feudPlace_21 : decode cX7_feudPlace 21 = .ok (.iadd, 1) := by decide +kernel
theorem dX7_feudPlace_22 : decode cX7_feudPlace 22 = .ok (.iload_n 3, 1) := by decide +kernel
theorem dX7_feudPlace_23 : decode cX7_feudPlace 23 = .ok (.iadd, 1) := by decide +kernel
theorem dX7_feudPlace_24 : decode cX7_feudPlace 24 = .ok (.iaload, 1) := by decide +kernel
theorem dX7_feudPlace_25 : decode cX7_feudPlace 25 = .ok (.iload_n 2, 1) := by decide +kernel
theorem dX7_feudPlace_26 : decode cX7_feudPlace 26 = .ok (.if_icmp .ne 5, 3) := by decide +kernel
theorem dX7_feudPlace_29 : decode cX7_feudPlace 29 = .ok (.iload_n 3, 1) := by decide +kernel
theorem dX7_feudPlace_30 : decode cX7_feudPlace 30 = .ok (.ireturn, 1) := by decide +kernel
theorem dX7_feudPlace_31 : decode cX7_feudPlace 31 = .ok (.iinc 3 1, 3) := by decide +kernel
theorem dX7_feudPlace_34 : decode cX7_feudPlace 34 = .ok (.goto (-32), 3) := by decide +kernel
theorem dX7_feudPlace_37 : decode cX7_feudPlace 37 = .ok (.iconst (-1), 1) := by decide +kernel
theorem dX7_feudPlace_38 : decode cX7_feudPlace 38 = .ok (.ireturn, 1) := by decide +kernel
theorem dX7_reason_0 : decode cX7_reason 0 = .ok (.aload_n 0, 1) := by decide +kernel
theorem dX7_reason_1 : decode cX7_reason 1 = .ok (.iload_n 1, 1) := by decide +kernel
theorem dX7_reason_2 : decode cX7_reason 2 = .ok (.iload_n 3, 1) := by decide +kernel
theorem dX7_reason_3 : decode cX7_reason 3 = .ok (.iload 4, 2) := by decide +kernel
theorem dX7_reason_5 : decode cX7_reason 5 = .ok (.invokevirtual 35, 3) := by decide +kernel
theorem dX7_reason_8 : decode cX7_reason 8 = .ok (.istore 5, 2) := by decide +kernel
theorem dX7_reason_10 : decode cX7_reason 10 = .ok (.iload 5, 2) := by decide +kernel
theorem dX7_reason_12 : decode cX7_reason 12 = .ok (.iconst (-1), 1) := by decide +kernel
theorem dX7_reason_13 : decode cX7_reason 13 = .ok (.if_icmp .eq 15, 3) := by decide +kernel
theorem dX7_reason_16 : decode cX7_reason 16 = .ok (.iload 5, 2) := by decide +kernel
theorem dX7_reason_18 : decode cX7_reason 18 = .ok (.iload_n 2, 1) := by decide +kernel
theorem dX7_reason_19 : decode cX7_reason 19 = .ok (.if_icmp .ne 7, 3) := by decide +kernel
theorem dX7_reason_22 : decode cX7_reason 22 = .ok (.iconst 1, 1) := by decide +kernel
theorem dX7_reason_23 : decode cX7_reason 23 = .ok (.goto 4, 3) := by decide +kernel
theorem dX7_reason_26 : decode cX7_reason 26 = .ok (.iconst 2, 1) := by decide +kernel
theorem dX7_reason_27 : decode cX7_reason 27 = .ok (.ireturn, 1) := by decide +kernel
theorem dX7_reason_28 : decode cX7_reason 28 = .ok (.iload 4, 2) := by decide +kernel
theorem dX7_reason_30 : decode cX7_reason 30 = .ok (.invokestatic 38, 3) := by decide +kernel
theorem dX7_reason_33 : decode cX7_reason 33 = .ok (.ifCond .eq 16, 3) := by decide +kernel
theorem dX7_reason_36 : decode cX7_reason 36 = .ok (.aload_n 0, 1) := by decide +kernel
theorem dX7_reason_37 : decode cX7_reason 37 = .ok (.iload_n 1, 1) := by decide +kernel
theorem dX7_reason_38 : decode cX7_reason 38 = .ok (.iload_n 2, 1) := by decide +kernel
theorem dX7_reason_39 : decode cX7_reason 39 = .ok (.iconst 1, 1) := by decide +kernel
theorem dX7_reason_40 : decode cX7_reason 40 = .ok (.invokevirtual 31, 3) := by decide +kernel
theorem dX7_reason_43 : decode cX7_reason 43 = .ok (.iconst 3, 1) := by decide +kernel
theorem dX7_reason_44 : decode cX7_reason 44 = .ok (.if_icmp .ne 5, 3) := by decide +kernel
theorem dX7_reason_47 : decode cX7_reason 47 = .ok (.iconst 3, 1) := by decide +kernel
theorem dX7_reason_48 : decode cX7_reason 48 = .ok (.ireturn, 1) := by decide +kernel
theorem dX7_reason_49 : decode cX7_reason 49 = .ok (.iconst 0, 1) := by decide +kernel
theorem dX7_reason_50 : decode cX7_reason 50 = .ok (.istore 6, 2) := by decide +kernel
theorem dX7_reason_52 : decode cX7_reason 52 = .ok (.iconst 0, 1) := by decide +kernel
theorem dX7_reason_53 : decode cX7_reason 53 = .ok (.istore 7, 2) := by decide +kernel
theorem dX7_reason_55 : decode cX7_reason 55 = .ok (.iconst 0, 1) := by decide +kernel
theorem dX7_reason_56 : decode cX7_reason 56 = .ok (.istore 8, 2) := by decide +kernel
theorem dX7_reason_58 : decode cX7_reason 58 = .ok (.iload 8, 2) := by decide +kernel
theorem dX7_reason_60 : decode cX7_reason 60 = .ok (.aload_n 0, 1) := by decide +kernel
theorem dX7_reason_61 : decode cX7_reason 61 = .ok (.getfield 7, 3) := by decide +kernel
theorem dX7_reason_64 : decode cX7_reason 64 = .ok (.iload_n 1, 1) := by decide +kernel
theorem dX7_reason_65 : decode cX7_reason 65 = .ok (.iconst 0, 1) := by decide +kernel
theorem dX7_reason_66 : decode cX7_reason 66 = .ok (.iadd, 1) := by decide +kernel
theorem dX7_reason_67 : decode cX7_reason 67 = .ok (.iaload, 1) := by decide +kernel
theorem dX7_reason_68 : decode cX7_reason 68 = .ok (.if_icmp .ge 94, 3) := by decide +kernel
theorem dX7_reason_71 : decode cX7_reason 71 = .ok (.iload 8, 2) := by decide +kernel
theorem dX7_reason_73 : decode cX7_reason 73 = .ok (.iload_n 2, 1) := by decide +kernel
theorem dX7_reason_74 : decode cX7_reason 74 = .ok (.if_icmp .eq 82, 3) := by decide +kernel
theorem dX7_reason_77 : decode cX7_reason 77 = .ok (.aload_n 0, 1) := by decide +kernel
theorem dX7_reason_78 : decode cX7_reason 78 = .ok (.iload_n 1, 1) := by decide +kernel
theorem dX7_reason_79 : decode cX7_reason 79 = .ok (.iload 8, 2) := by decide +kernel
theorem dX7_reason_81 : decode cX7_reason 81 = .ok (.iconst 3, 1) := by decide +kernel
theorem dX7_reason_82 : decode cX7_reason 82 = .ok (.invokevirtual 31, 3) := by decide +kernel
theorem dX7_reason_85 : decode cX7_reason 85 = .ok (.iload_n 3, 1) := by decide +kernel
theorem dX7_reason_86 : decode cX7_reason 86 = .ok (.if_icmp .ne 70, 3) := by decide +kernel
theorem dX7_reason_89 : decode cX7_reason 89 = .ok (.iload 6, 2) := by decide +kernel
theorem dX7_reason_91 : decode cX7_reason 91 = .ok (.ifCond .ne 30, 3) := by decide +kernel
theorem dX7_reason_94 : decode cX7_reason 94 = .ok (.aload_n 0, 1) := by decide +kernel
theorem dX7_reason_95 : decode cX7_reason 95 = .ok (.iload_n 1, 1) := by decide +kernel
theorem dX7_reason_96 : decode cX7_reason 96 = .ok (.aload_n 0, 1) := by decide +kernel
theorem dX7_reason_97 : decode cX7_reason 97 = .ok (.iload_n 1, 1) := by decide +kernel
theorem dX7_reason_98 : decode cX7_reason 98 = .ok (.iload_n 2, 1) := by decide +kernel
theorem dX7_reason_99 : decode cX7_reason 99 = .ok (.iconst 0, 1) := by decide +kernel
theorem dX7_reason_100 : decode cX7_reason 100 = .ok (.invokevirtual 31, 3) := by decide +kernel
theorem dX7_reason_103 : decode cX7_reason 103 = .ok (.aload_n 0, 1) := by decide +kernel
theorem dX7_reason_104 : decode cX7_reason 104 = .ok (.iload_n 1, 1) := by decide +kernel
theorem dX7_reason_105 : decode cX7_reason 105 = .ok (.iload 8, 2) := by decide +kernel
theorem dX7_reason_107 : decode cX7_reason 107 = .ok (.iconst 0, 1) := by decide +kernel
theorem dX7_reason_108 : decode cX7_reason 108 = .ok (.invokevirtual 31, 3) := by decide +kernel
theorem dX7_reason_111 : decode cX7_reason 111 = .ok (.invokestatic 41, 3) := by decide +kernel
theorem dX7_reason_114 : decode cX7_reason 114 = .ok (.invokevirtual 45, 3) := by decide +kernel
theorem dX7_reason_117 : decode cX7_reason 117 = .ok (.iconst (-1), 1) := by decide +kernel
theorem dX7_reason_118 : decode cX7_reason 118 = .ok (.if_icmp .eq 7, 3) := by decide +kernel
theorem dX7_reason_121 : decode cX7_reason 121 = .ok (.iconst 1, 1) := by decide +kernel
theorem dX7_reason_122 : decode cX7_reason 122 = .ok (.goto 4, 3) := by decide +kernel
theorem dX7_reason_125 : decode cX7_reason 125 = .ok (.iconst 0, 1) := by decide +kernel
theorem dX7_reason_126 : decode cX7_reason 126 = .ok (.istore 6, 2) := by decide +kernel
theorem dX7_reason_128 : decode cX7_reason 128 = .ok (.iload 7, 2) := by decide +kernel
theorem dX7_reason_130 : decode cX7_reason 130 = .ok (.aload_n 0, 1) := by decide +kernel
theorem dX7_reason_131 : decode cX7_reason 131 = .ok (.iload_n 1, 1) := by decide +kernel
theorem dX7_reason_132 : decode cX7_reason 132 = .ok (.iload 8, 2) := by decide +kernel
theorem dX7_reason_134 : decode cX7_reason 134 = .ok (.iconst 0, 1) := by decide +kernel
theorem dX7_reason_135 : decode cX7_reason 135 = .ok (.invokevirtual 31, 3) := by decide +kernel
theorem dX7_reason_138 : decode cX7_reason 138 = .ok (.aload_n 0, 1) := by decide +kernel
theorem dX7_reason_139 : decode cX7_reason 139 = .ok (.iload_n 1, 1) := by decide +kernel
theorem dX7_reason_140 : decode cX7_reason 140 = .ok (.iload_n 2, 1) := by decide +kernel
theorem dX7_reason_141 : decode cX7_reason 141 = .ok (.iconst 0, 1) := by decide +kernel
theorem dX7_reason_142 : decode cX7_reason 142 = .ok (.invokevirtual 31, 3) := by decide +kernel
theorem dX7_reason_145 : decode cX7_reason 145 = .ok (.if_icmp .ne 7, 3) := by decide +kernel
theorem dX7_reason_148 : decode cX7_reason 148 = .ok (.iconst 1, 1) := by decide +kernel
theorem dX7_reason_149 : decode cX7_reason 149 = .ok (.goto 4, 3) := by decide +kernel
theorem dX7_reason_152 : decode cX7_reason 152 = .ok (.iconst 0, 1) := by decide +kernel
theorem dX7_reason_153 : decode cX7_reason 153 = .ok (.iadd, 1) := by decide +kernel
theorem dX7_reason_154 : decode cX7_reason 154 = .ok (.istore 7, 2) := by decide +kernel
theorem dX7_reason_156 : decode cX7_reason 156 = .ok (.iinc 8 1, 3) := by decide +kernel
theorem dX7_reason_159 : decode cX7_reason 159 = .ok (.goto (-101), 3) := by decide +kernel
theorem dX7_reason_162 : decode cX7_reason 162 = .ok (.iload 6, 2) := by decide +kernel
theorem dX7_reason_164 : decode cX7_reason 164 = .ok (.ifCond .eq 7, 3) := by decide +kernel
theorem dX7_reason_167 : decode cX7_reason 167 = .ok (.iconst 4, 1) := by decide +kernel
theorem dX7_reason_168 : decode cX7_reason 168 = .ok (.goto 22, 3) := by decide +kernel
theorem dX7_reason_171 : decode cX7_reason 171 = .ok (.iload 7, 2) := by decide +kernel
theorem dX7_reason_173 : decode cX7_reason 173 = .ok (.aload_n 0, 1) := by decide +kernel
theorem dX7_reason_174 : decode cX7_reason 174 = .ok (.getfield 7, 3) := by decide +kernel
theorem dX7_reason_177 : decode cX7_reason 177 = .ok (.iload_n 1, 1) := by decide +kernel
theorem dX7_reason_178 : decode cX7_reason 178 = .ok (.bipush 6, 2) := by decide +kernel
theorem dX7_reason_180 : decode cX7_reason 180 = .ok (.iadd, 1) := by decide +kernel
theorem dX7_reason_181 : decode cX7_reason 181 = .ok (.iaload, 1) := by decide +kernel
theorem dX7_reason_182 : decode cX7_reason 182 = .ok (.if_icmp .lt 7, 3) := by decide +kernel
theorem dX7_reason_185 : decode cX7_reason 185 = .ok (.iconst 5, 1) := by decide +kernel
theorem dX7_reason_186 : decode cX7_reason 186 = .ok (.goto 4, 3) := by decide +kernel
theorem dX7_reason_189 : decode cX7_reason 189 = .ok (.iconst 0, 1) := by decide +kernel
theorem dX7_reason_190 : decode cX7_reason 190 = .ok (.ireturn, 1) := by decide +kernel
theorem dX7_metBy_0 : decode cX7_metBy 0 = .ok (.aload_n 0, 1) := by decide +kernel
theorem dX7_metBy_1 : decode cX7_metBy 1 = .ok (.iload_n 1, 1) := by decide +kernel
theorem dX7_metBy_2 : decode cX7_metBy 2 = .ok (.iload_n 2, 1) := by decide +kernel
theorem dX7_metBy_3 : decode cX7_metBy 3 = .ok (.iconst 2, 1) := by decide +kernel
theorem dX7_metBy_4 : decode cX7_metBy 4 = .ok (.invokevirtual 31, 3) := by decide +kernel
theorem dX7_metBy_7 : decode cX7_metBy 7 = .ok (.istore_n 3, 1) := by decide +kernel
theorem dX7_metBy_8 : decode cX7_metBy 8 = .ok (.iload_n 3, 1) := by decide +kernel
theorem dX7_metBy_9 : decode cX7_metBy 9 = .ok (.iconst (-1), 1) := by decide +kernel
theorem dX7_metBy_10 : decode cX7_metBy 10 = .ok (.if_icmp .eq 31, 3) := by decide +kernel
theorem dX7_metBy_13 : decode cX7_metBy 13 = .ok (.aload_n 0, 1) := by decide +kernel
theorem dX7_metBy_14 : decode cX7_metBy 14 = .ok (.iload_n 1, 1) := by decide +kernel
theorem dX7_metBy_15 : decode cX7_metBy 15 = .ok (.iload_n 2, 1) := by decide +kernel
theorem dX7_metBy_16 : decode cX7_metBy 16 = .ok (.iconst 3, 1) := by decide +kernel
theorem dX7_metBy_17 : decode cX7_metBy 17 = .ok (.invokevirtual 31, 3) := by decide +kernel
theorem dX7_metBy_20 : decode cX7_metBy 20 = .ok (.iconst (-1), 1) := by decide +kernel
theorem dX7_metBy_21 : decode cX7_metBy 21 = .ok (.if_icmp .eq 20, 3) := by decide +kernel
theorem dX7_metBy_24 : decode cX7_metBy 24 = .ok (.aload_n 0, 1) := by decide +kernel
theorem dX7_metBy_25 : decode cX7_metBy 25 = .ok (.iload_n 1, 1) := by decide +kernel
theorem dX7_metBy_26 : decode cX7_metBy 26 = .ok (.iload_n 3, 1) := by decide +kernel
theorem dX7_metBy_27 : decode cX7_metBy 27 = .ok (.iconst 3, 1) := by decide +kernel
theorem dX7_metBy_28 : decode cX7_metBy 28 = .ok (.invokevirtual 31, 3) := by decide +kernel
theorem dX7_metBy_31 : decode cX7_metBy 31 = .ok (.aload_n 0, 1) := by decide +kernel
theorem dX7_metBy_32 : decode cX7_metBy 32 = .ok (.iload_n 1, 1) := by decide +kernel
theorem dX7_metBy_33 : decode cX7_metBy 33 = .ok (.iload_n 2, 1) := by decide +kernel
theorem dX7_metBy_34 : decode cX7_metBy 34 = .ok (.iconst 3, 1) := by decide +kernel
theorem dX7_metBy_35 : decode cX7_metBy 35 = .ok (.invokevirtual 31, 3) := by decide +kernel
theorem dX7_metBy_38 : decode cX7_metBy 38 = .ok (.if_icmp .eq 5, 3) := by decide +kernel
theorem dX7_metBy_41 : decode cX7_metBy 41 = .ok (.iconst 0, 1) := by decide +kernel
theorem dX7_metBy_42 : decode cX7_metBy 42 = .ok (.ireturn, 1) := by decide +kernel
theorem dX7_metBy_43 : decode cX7_metBy 43 = .ok (.aload_n 0, 1) := by decide +kernel
theorem dX7_metBy_44 : decode cX7_metBy 44 = .ok (.iload_n 1, 1) := by decide +kernel
theorem dX7_metBy_45 : decode cX7_metBy 45 = .ok (.iload_n 2, 1) := by decide +kernel
theorem dX7_metBy_46 : decode cX7_metBy 46 = .ok (.iconst 4, 1) := by decide +kernel
theorem dX7_metBy_47 : decode cX7_metBy 47 = .ok (.invokevirtual 31, 3) := by decide +kernel
theorem dX7_metBy_50 : decode cX7_metBy 50 = .ok (.aload_n 0, 1) := by decide +kernel
theorem dX7_metBy_51 : decode cX7_metBy 51 = .ok (.iload_n 1, 1) := by decide +kernel
theorem dX7_metBy_52 : decode cX7_metBy 52 = .ok (.iload_n 3, 1) := by decide +kernel
theorem dX7_metBy_53 : decode cX7_metBy 53 = .ok (.iconst 4, 1) := by decide +kernel
theorem dX7_metBy_54 : decode cX7_metBy 54 = .ok (.invokevirtual 31, 3) := by decide +kernel
theorem dX7_metBy_57 : decode cX7_metBy 57 = .ok (.isub, 1) := by decide +kernel
theorem dX7_metBy_58 : decode cX7_metBy 58 = .ok (.istore 4, 2) := by decide +kernel
theorem dX7_metBy_60 : decode cX7_metBy 60 = .ok (.aload_n 0, 1) := by decide +kernel
theorem dX7_metBy_61 : decode cX7_metBy 61 = .ok (.getfield 7, 3) := by decide +kernel
theorem dX7_metBy_64 : decode cX7_metBy 64 = .ok (.iload_n 1, 1) := by decide +kernel
theorem dX7_metBy_65 : decode cX7_metBy 65 = .ok (.bipush 18, 2) := by decide +kernel
theorem dX7_metBy_67 : decode cX7_metBy 67 = .ok (.iadd, 1) := by decide +kernel
theorem dX7_metBy_68 : decode cX7_metBy 68 = .ok (.aload_n 0, 1) := by decide +kernel
theorem dX7_metBy_69 : decode cX7_metBy 69 = .ok (.iload_n 1, 1) := by decide +kernel
theorem dX7_metBy_70 : decode cX7_metBy 70 = .ok (.iload_n 2, 1) := by decide +kernel
theorem dX7_metBy_71 : decode cX7_metBy 71 = .ok (.iconst 3, 1) := by decide +kernel
theorem dX7_metBy_72 : decode cX7_metBy 72 = .ok (.invokevirtual 31, 3) := by decide +kernel
theorem dX7_metBy_75 : decode cX7_metBy 75 = .ok (.iadd, 1) := by decide +kernel
theorem dX7_metBy_76 : decode cX7_metBy 76 = .ok (.iaload, 1) := by decide +kernel
theorem dX7_metBy_77 : decode cX7_metBy 77 = .ok (.iconst 1, 1) := by decide +kernel
theorem dX7_metBy_78 : decode cX7_metBy 78 = .ok (.isub, 1) := by decide +kernel
theorem dX7_metBy_79 : decode cX7_metBy 79 = .ok (.istore 5, 2) := by decide +kernel
theorem dX7_metBy_81 : decode cX7_metBy 81 = .ok (.iload 4, 2) := by decide +kernel
theorem dX7_metBy_83 : decode cX7_metBy 83 = .ok (.iconst 1, 1) := by decide +kernel
theorem dX7_metBy_84 : decode cX7_metBy 84 = .ok (.if_icmp .eq 24, 3) := by decide +kernel
theorem dX7_metBy_87 : decode cX7_metBy 87 = .ok (.iload 4, 2) := by decide +kernel
theorem dX7_metBy_89 : decode cX7_metBy 89 = .ok (.iconst (-1), 1) := by decide +kernel
theorem dX7_metBy_90 : decode cX7_metBy 90 = .ok (.if_icmp .eq 18, 3) := by decide +kernel
theorem dX7_metBy_93 : decode cX7_metBy 93 = .ok (.iload 4, 2) := by decide +kernel
theorem dX7_metBy_95 : decode cX7_metBy 95 = .ok (.iload 5, 2) := by decide +kernel
theorem dX7_metBy_97 : decode cX7_metBy 97 = .ok (.if_icmp .eq 11, 3) := by decide +kernel
theorem dX7_metBy_100 : decode cX7_metBy 100 = .ok (.iload 4, 2) := by decide +kernel
theorem dX7_metBy_102 : decode cX7_metBy 102 = .ok (.iload 5, 2) := by decide +kernel
theorem dX7_metBy_104 : decode cX7_metBy 104 = .ok (.ineg, 1) := by decide +kernel
theorem dX7_metBy_105 : decode cX7_metBy 105 = .ok (.if_icmp .ne 7, 3) := by decide +kernel
theorem dX7_metBy_108 : decode cX7_metBy 108 = .ok (.iconst 2, 1) := by decide +kernel
theorem dX7_metBy_109 : decode cX7_metBy 109 = .ok (.goto 4, 3) := by decide +kernel
theorem dX7_metBy_112 : decode cX7_metBy 112 = .ok (.iconst 1, 1) := by decide +kernel
theorem dX7_metBy_113 : decode cX7_metBy 113 = .ok (.ireturn, 1) := by decide +kernel
theorem dX7_pointsOf_0 : decode cX7_pointsOf 0 = .ok (.aload_n 0, 1) := by decide +kernel
theorem dX7_pointsOf_1 : decode cX7_pointsOf 1 = .ok (.iload_n 1, 1) := by decide +kernel
theorem dX7_pointsOf_2 : decode cX7_pointsOf 2 = .ok (.iload_n 2, 1) := by decide +kernel
theorem dX7_pointsOf_3 : decode cX7_pointsOf 3 = .ok (.iconst 3, 1) := by decide +kernel
theorem dX7_pointsOf_4 : decode cX7_pointsOf 4 = .ok (.invokevirtual 31, 3) := by decide +kernel
theorem dX7_pointsOf_7 : decode cX7_pointsOf 7 = .ok (.iconst (-1), 1) := by decide +kernel
theorem dX7_pointsOf_8 : decode cX7_pointsOf 8 = .ok (.if_icmp .ne 5, 3) := by decide +kernel
theorem dX7_pointsOf_11 : decode cX7_pointsOf 11 = .ok (.iconst 0, 1) := by decide +kernel
theorem dX7_pointsOf_12 : decode cX7_pointsOf 12 = .ok (.ireturn, 1) := by decide +kernel
theorem dX7_pointsOf_13 : decode cX7_pointsOf 13 = .ok (.aload_n 0, 1) := by decide +kernel
theorem dX7_pointsOf_14 : decode cX7_pointsOf 14 = .ok (.iload_n 1, 1) := by decide +kernel
theorem dX7_pointsOf_15 : decode cX7_pointsOf 15 = .ok (.iload_n 2, 1) := by decide +kernel
theorem dX7_pointsOf_16 : decode cX7_pointsOf 16 = .ok (.invokevirtual 48, 3) := by decide +kernel
theorem dX7_pointsOf_19 : decode cX7_pointsOf 19 = .ok (.istore_n 3, 1) := by decide +kernel
theorem dX7_pointsOf_20 : decode cX7_pointsOf 20 = .ok (.aload_n 0, 1) := by decide +kernel
theorem dX7_pointsOf_21 : decode cX7_pointsOf 21 = .ok (.iload_n 1, 1) := by decide +kernel
theorem dX7_pointsOf_22 : decode cX7_pointsOf 22 = .ok (.iload_n 2, 1) := by decide +kernel
theorem dX7_pointsOf_23 : decode cX7_pointsOf 23 = .ok (.iconst 4, 1) := by decide +kernel
theorem dX7_pointsOf_24 : decode cX7_pointsOf 24 = .ok (.invokevirtual 31, 3) := by decide +kernel
theorem dX7_pointsOf_27 : decode cX7_pointsOf 27 = .ok (.invokestatic 38, 3) := by decide +kernel
theorem dX7_pointsOf_30 : decode cX7_pointsOf 30 = .ok (.ifCond .eq 28, 3) := by decide +kernel
theorem dX7_pointsOf_33 : decode cX7_pointsOf 33 = .ok (.aload_n 0, 1) := by decide +kernel
theorem dX7_pointsOf_34 : decode cX7_pointsOf 34 = .ok (.iload_n 1, 1) := by decide +kernel
theorem dX7_pointsOf_35 : decode cX7_pointsOf 35 = .ok (.iload_n 2, 1) := by decide +kernel
theorem dX7_pointsOf_36 : decode cX7_pointsOf 36 = .ok (.iconst 1, 1) := by decide +kernel
theorem dX7_pointsOf_37 : decode cX7_pointsOf 37 = .ok (.invokevirtual 31, 3) := by decide +kernel
theorem dX7_pointsOf_40 : decode cX7_pointsOf 40 = .ok (.iconst 2, 1) := by decide +kernel
theorem dX7_pointsOf_41 : decode cX7_pointsOf 41 = .ok (.if_icmp .ne 17, 3) := by decide +kernel
theorem dX7_pointsOf_44 : decode cX7_pointsOf 44 = .ok (.aload_n 0, 1) := by decide +kernel
theorem dX7_pointsOf_45 : decode cX7_pointsOf 45 = .ok (.getfield 7, 3) := by decide +kernel
theorem dX7_pointsOf_48 : decode cX7_pointsOf 48 = .ok (.iload_n 1, 1) := by decide +kernel
theorem dX7_pointsOf_49 : decode cX7_pointsOf 49 = .ok (.bipush 6, 2) := by decide +kernel
theorem dX7_pointsOf_51 : decode cX7_pointsOf 51 = .ok (.iadd, 1) := by decide +kernel
theorem dX7_pointsOf_52 : decode cX7_pointsOf 52 = .ok (.iconst 3, 1) := by decide +kernel
theorem dX7_pointsOf_53 : decode cX7_pointsOf 53 = .ok (.iadd, 1) := by decide +kernel
theorem dX7_pointsOf_54 : decode cX7_pointsOf 54 = .ok (.iaload, 1) := by decide +kernel
theorem dX7_pointsOf_55 : decode cX7_pointsOf 55 = .ok (.goto 4, 3) := by decide +kernel
theorem dX7_pointsOf_58 : decode cX7_pointsOf 58 = .ok (.iconst 0, 1) := by decide +kernel
theorem dX7_pointsOf_59 : decode cX7_pointsOf 59 = .ok (.istore 4, 2) := by decide +kernel
theorem dX7_pointsOf_61 : decode cX7_pointsOf 61 = .ok (.iconst 1, 1) := by decide +kernel
theorem dX7_pointsOf_62 : decode cX7_pointsOf 62 = .ok (.iload 4, 2) := by decide +kernel
theorem dX7_pointsOf_64 : decode cX7_pointsOf 64 = .ok (.isub, 1) := by decide +kernel
theorem dX7_pointsOf_65 : decode cX7_pointsOf 65 = .ok (.iload_n 3, 1) := by decide +kernel
theorem dX7_pointsOf_66 : decode cX7_pointsOf 66 = .ok (.ifCond .le 17, 3) := by decide +kernel
theorem dX7_pointsOf_69 : decode cX7_pointsOf 69 = .ok (.aload_n 0, 1) := by decide +kernel
theorem dX7_pointsOf_70 : decode cX7_pointsOf 70 = .ok (.getfield 7, 3) := by decide +kernel
theorem dX7_pointsOf_73 : decode cX7_pointsOf 73 = .ok (.iload_n 1, 1) := by decide +kernel
theorem dX7_pointsOf_74 : decode cX7_pointsOf 74 = .ok (.bipush 6, 2) := by decide +kernel
theorem dX7_pointsOf_76 : decode cX7_pointsOf 76 = .ok (.iadd, 1) := by decide +kernel
theorem dX7_pointsOf_77 : decode cX7_pointsOf 77 = .ok (.iconst 1, 1) := by decide +kernel
theorem dX7_pointsOf_78 : decode cX7_pointsOf 78 = .ok (.iadd, 1) := by decide +kernel
theorem dX7_pointsOf_79 : decode cX7_pointsOf 79 = .ok (.iaload, 1) := by decide +kernel
theorem dX7_pointsOf_80 : decode cX7_pointsOf 80 = .ok (.goto 4, 3) := by decide +kernel
theorem dX7_pointsOf_83 : decode cX7_pointsOf 83 = .ok (.iconst 0, 1) := by decide +kernel
theorem dX7_pointsOf_84 : decode cX7_pointsOf 84 = .ok (.iadd, 1) := by decide +kernel
theorem dX7_pointsOf_85 : decode cX7_pointsOf 85 = .ok (.iload_n 3, 1) := by decide +kernel
theorem dX7_pointsOf_86 : decode cX7_pointsOf 86 = .ok (.iconst 1, 1) := by decide +kernel
theorem dX7_pointsOf_87 : decode cX7_pointsOf 87 = .ok (.if_icmp .le 17, 3) := by decide +kernel
theorem dX7_pointsOf_90 : decode cX7_pointsOf 90 = .ok (.aload_n 0, 1) := by decide +kernel
theorem dX7_pointsOf_91 : decode cX7_pointsOf 91 = .ok (.getfield 7, 3) := by decide +kernel
theorem dX7_pointsOf_94 : decode cX7_pointsOf 94 = .ok (.iload_n 1, 1) := by decide +kernel
theorem dX7_pointsOf_95 : decode cX7_pointsOf 95 = .ok (.bipush 6, 2) := by decide +kernel
theorem dX7_pointsOf_97 : decode cX7_pointsOf 97 = .ok (.iadd, 1) := by decide +kernel
theorem dX7_pointsOf_98 : decode cX7_pointsOf 98 = .ok (.iconst 2, 1) := by decide +kernel
theorem dX7_pointsOf_99 : decode cX7_pointsOf 99 = .ok (.iadd, 1) := by decide +kernel
theorem dX7_pointsOf_100 : decode cX7_pointsOf 100 = .ok (.iaload, 1) := by decide +kernel
theorem dX7_pointsOf_101 : decode cX7_pointsOf 101 = .ok (.goto 4, 3) := by decide +kernel
theorem dX7_pointsOf_104 : decode cX7_pointsOf 104 = .ok (.iconst 0, 1) := by decide +kernel
theorem dX7_pointsOf_105 : decode cX7_pointsOf 105 = .ok (.iadd, 1) := by decide +kernel
theorem dX7_pointsOf_106 : decode cX7_pointsOf 106 = .ok (.ireturn, 1) := by decide +kernel
theorem dX7_points_0 : decode cX7_points 0 = .ok (.iconst 0, 1) := by decide +kernel
theorem dX7_points_1 : decode cX7_points 1 = .ok (.istore_n 3, 1) := by decide +kernel
theorem dX7_points_2 : decode cX7_points 2 = .ok (.iconst 0, 1) := by decide +kernel
theorem dX7_points_3 : decode cX7_points 3 = .ok (.istore 4, 2) := by decide +kernel
theorem dX7_points_5 : decode cX7_points 5 = .ok (.iload 4, 2) := by decide +kernel
theorem dX7_points_7 : decode cX7_points 7 = .ok (.aload_n 0, 1) := by decide +kernel
theorem dX7_points_8 : decode cX7_points 8 = .ok (.getfield 7, 3) := by decide +kernel
theorem dX7_points_11 : decode cX7_points 11 = .ok (.iload_n 1, 1) := by decide +kernel
theorem dX7_points_12 : decode cX7_points 12 = .ok (.iconst 0, 1) := by decide +kernel
theorem dX7_points_13 : decode cX7_points 13 = .ok (.iadd, 1) := by decide +kernel
theorem dX7_points_14 : decode cX7_points 14 = .ok (.iaload, 1) := by decide +kernel
theorem dX7_points_15 : decode cX7_points 15 = .ok (.if_icmp .ge 40, 3) := by decide +kernel
theorem dX7_points_18 : decode cX7_points 18 = .ok (.iload_n 3, 1) := by decide +kernel
theorem dX7_points_19 : decode cX7_points 19 = .ok (.iload_n 2, 1) := by decide +kernel
theorem dX7_points_20 : decode cX7_points 20 = .ok (.iconst (-1), 1) := by decide +kernel
theorem dX7_points_21 : decode cX7_points 21 = .ok (.if_icmp .eq 15, 3) := by decide +kernel
theorem dX7_points_24 : decode cX7_points 24 = .ok (.aload_n 0, 1) := by decide +kernel
theorem dX7_points_25 : decode cX7_points 25 = .ok (.iload_n 1, 1) := by decide +kernel
theorem dX7_points_26 : decode cX7_points 26 = .ok (.iload 4, 2) := by decide +kernel
theorem dX7_points_28 : decode cX7_points 28 = .ok (.iconst 3, 1) := by decide +kernel
theorem dX7_points_29 : decode cX7_points 29 = .ok (.invokevirtual 31, 3) := by decide +kernel
theorem dX7_points_32 : decode cX7_points 32 = .ok (.iload_n 2, 1) := by decide +kernel
theorem dX7_points_33 : decode cX7_points 33 = .ok (.if_icmp .ne 13, 3) := by decide +kernel
theorem dX7_points_36 : decode cX7_points 36 = .ok (.aload_n 0, 1) := by decide +kernel
theorem dX7_points_37 : decode cX7_points 37 = .ok (.iload_n 1, 1) := by decide +kernel
theorem dX7_points_38 : decode cX7_points 38 = .ok (.iload 4, 2) := by decide +kernel
theorem dX7_points_40 : decode cX7_points 40 = .ok (.invokevirtual 51, 3) := by decide +kernel
theorem dX7_points_43 : decode cX7_points 43 = .ok (.goto 4, 3) := by decide +kernel
theorem dX7_points_46 : decode cX7_points 46 = .ok (.iconst 0, 1) := by decide +kernel
theorem dX7_points_47 : decode cX7_points 47 = .ok (.iadd, 1) := by decide +kernel
theorem dX7_points_48 : decode cX7_points 48 = .ok (.istore_n 3, 1) := by decide +kernel
theorem dX7_points_49 : decode cX7_points 49 = .ok (.iinc 4 1, 3) := by decide +kernel
theorem dX7_points_52 : decode cX7_points 52 = .ok (.goto (-47), 3) := by decide +kernel
theorem dX7_points_55 : decode cX7_points 55 = .ok (.iload_n 3, 1) := by decide +kernel
theorem dX7_points_56 : decode cX7_points 56 = .ok (.ireturn, 1) := by decide +kernel
theorem dX7_pointsIf_0 : decode cX7_pointsIf 0 = .ok (.aload_n 0, 1) := by decide +kernel
theorem dX7_pointsIf_1 : decode cX7_pointsIf 1 = .ok (.iload_n 1, 1) := by decide +kernel
theorem dX7_pointsIf_2 : decode cX7_pointsIf 2 = .ok (.iload_n 2, 1) := by decide +kernel
theorem dX7_pointsIf_3 : decode cX7_pointsIf 3 = .ok (.iconst 3, 1) := by decide +kernel
theorem dX7_pointsIf_4 : decode cX7_pointsIf 4 = .ok (.invokevirtual 31, 3) := by decide +kernel
theorem dX7_pointsIf_7 : decode cX7_pointsIf 7 = .ok (.istore 5, 2) := by decide +kernel
theorem dX7_pointsIf_9 : decode cX7_pointsIf 9 = .ok (.aload_n 0, 1) := by decide +kernel
theorem dX7_pointsIf_10 : decode cX7_pointsIf 10 = .ok (.iload_n 1, 1) := by decide +kernel
theorem dX7_pointsIf_11 : decode cX7_pointsIf 11 = .ok (.iload_n 2, 1) := by decide +kernel
theorem dX7_pointsIf_12 : decode cX7_pointsIf 12 = .ok (.iconst 4, 1) := by decide +kernel
theorem dX7_pointsIf_13 : decode cX7_pointsIf 13 = .ok (.invokevirtual 31, 3) := by decide +kernel
theorem dX7_pointsIf_16 : decode cX7_pointsIf 16 = .ok (.istore 6, 2) := by decide +kernel
theorem dX7_pointsIf_18 : decode cX7_pointsIf 18 = .ok (.aload_n 0, 1) := by decide +kernel
theorem dX7_pointsIf_19 : decode cX7_pointsIf 19 = .ok (.iload_n 1, 1) := by decide +kernel
theorem dX7_pointsIf_20 : decode cX7_pointsIf 20 = .ok (.iload_n 2, 1) := by decide +kernel
theorem dX7_pointsIf_21 : decode cX7_pointsIf 21 = .ok (.iconst 3, 1) := by decide +kernel
theorem dX7_pointsIf_22 : decode cX7_pointsIf 22 = .ok (.iload_n 3, 1) := by decide +kernel
theorem dX7_pointsIf_23 : decode cX7_pointsIf 23 = .ok (.invokevirtual 54, 3) := by decide +kernel
theorem dX7_pointsIf_26 : decode cX7_pointsIf 26 = .ok (.aload_n 0, 1) := by decide +kernel
theorem dX7_pointsIf_27 : decode cX7_pointsIf 27 = .ok (.iload_n 1, 1) := by decide +kernel
theorem dX7_pointsIf_28 : decode cX7_pointsIf 28 = .ok (.iload_n 2, 1) := by decide +kernel
theorem dX7_pointsIf_29 : decode cX7_pointsIf 29 = .ok (.iconst 4, 1) := by decide +kernel
theorem dX7_pointsIf_30 : decode cX7_pointsIf 30 = .ok (.iload 4, 2) := by decide +kernel
theorem dX7_pointsIf_32 : decode cX7_pointsIf 32 = .ok (.invokevirtual 54, 3) := by decide +kernel
theorem dX7_pointsIf_35 : decode cX7_pointsIf 35 = .ok (.aload_n 0, 1) := by decide +kernel
theorem dX7_pointsIf_36 : decode cX7_pointsIf 36 = .ok (.iload_n 1, 1) := by decide +kernel
theorem dX7_pointsIf_37 : decode cX7_pointsIf 37 = .ok (.iconst (-1), 1) := by decide +kernel
theorem dX7_pointsIf_38 : decode cX7_pointsIf 38 = .ok (.invokevirtual 58, 3) := by decide +kernel
theorem dX7_pointsIf_41 : decode cX7_pointsIf 41 = .ok (.istore 7, 2) := by decide +kernel
theorem dX7_pointsIf_43 : decode cX7_pointsIf 43 = .ok (.aload_n 0, 1) := by decide +kernel
theorem dX7_pointsIf_44 : decode cX7_pointsIf 44 = .ok (.iload_n 1, 1) := by decide +kernel
theorem dX7_pointsIf_45 : decode cX7_pointsIf 45 = .ok (.iload_n 2, 1) := by decide +kernel
theorem dX7_pointsIf_46 : decode cX7_pointsIf 46 = .ok (.iconst 3, 1) := by decide +kernel
theorem dX7_pointsIf_47 : decode cX7_pointsIf 47 = .ok (.iload 5, 2) := by decide +kernel
theorem dX7_pointsIf_49 : decode cX7_pointsIf 49 = .ok (.invokevirtual 54, 3) := by decide +kernel
theorem dX7_pointsIf_52 : decode cX7_pointsIf 52 = .ok (.aload_n 0, 1) := by decide +kernel
theorem dX7_pointsIf_53 : decode cX7_pointsIf 53 = .ok (.iload_n 1, 1) := by decide +kernel
theorem dX7_pointsIf_54 : decode cX7_pointsIf 54 = .ok (.iload_n 2, 1) := by decide +kernel
theorem dX7_pointsIf_55 : decode cX7_pointsIf 55 = .ok (.iconst 4, 1) := by decide +kernel
theorem dX7_pointsIf_56 : decode cX7_pointsIf 56 = .ok (.iload 6, 2) := by decide +kernel
theorem dX7_pointsIf_58 : decode cX7_pointsIf 58 = .ok (.invokevirtual 54, 3) := by decide +kernel
theorem dX7_pointsIf_61 : decode cX7_pointsIf 61 = .ok (.iload 7, 2) := by decide +kernel
theorem dX7_pointsIf_63 : decode cX7_pointsIf 63 = .ok (.ireturn, 1) := by decide +kernel
theorem dX7_best_0 : decode cX7_best 0 = .ok (.iconst (-1), 1) := by decide +kernel
theorem dX7_best_1 : decode cX7_best 1 = .ok (.istore_n 3, 1) := by decide +kernel
theorem dX7_best_2 : decode cX7_best 2 = .ok (.iconst 0, 1) := by decide +kernel
theorem dX7_best_3 : decode cX7_best 3 = .ok (.istore 4, 2) := by decide +kernel
theorem dX7_best_5 : decode cX7_best 5 = .ok (.iconst 0, 1) := by decide +kernel
theorem dX7_best_6 : decode cX7_best 6 = .ok (.istore 5, 2) := by decide +kernel
theorem dX7_best_8 : decode cX7_best 8 = .ok (.iload 5, 2) := by decide +kernel
theorem dX7_best_10 : decode cX7_best 10 = .ok (.bipush 8, 2) := by decide +kernel
theorem dX7_best_12 : decode cX7_best 12 = .ok (.aload_n 0, 1) := by decide +kernel
theorem dX7_best_13 : decode cX7_best 13 = .ok (.getfield 7, 3) := by decide +kernel
theorem dX7_best_16 : decode cX7_best 16 = .ok (.iload_n 1, 1) := by decide +kernel
theorem dX7_best_17 : decode cX7_best 17 = .ok (.iconst 1, 1) := by decide +kernel
theorem dX7_best_18 : decode cX7_best 18 = .ok (.iadd, 1) := by decide +kernel
theorem dX7_best_19 : decode cX7_best 19 = .ok (.iaload, 1) := by decide +kernel
theorem dX7_best_20 : decode cX7_best 20 = .ok (.imul, 1) := by decide +kernel
theorem dX7_best_21 : decode cX7_best 21 = .ok (.if_icmp .ge 103, 3) := by decide +kernel
theorem dX7_best_24 : decode cX7_best 24 = .ok (.iload 5, 2) := by decide +kernel
theorem dX7_best_26 : decode cX7_best 26 = .ok (.bipush 8, 2) := by decide +kernel
theorem dX7_best_28 : decode cX7_best 28 = .ok (.irem, 1) := by decide +kernel
theorem dX7_best_29 : decode cX7_best 29 = .ok (.aload_n 0, 1) := by decide +kernel
theorem dX7_best_30 : decode cX7_best 30 = .ok (.getfield 7, 3) := by decide +kernel
theorem dX7_best_33 : decode cX7_best 33 = .ok (.iload_n 1, 1) := by decide +kernel
theorem dX7_best_34 : decode cX7_best 34 = .ok (.bipush 18, 2) := by decide +kernel
theorem dX7_best_36 : decode cX7_best 36 = .ok (.iadd, 1) := by decide +kernel
theorem dX7_best_37 : decode cX7_best 37 = .ok (.iload 5, 2) := by decide +kernel
theorem dX7_best_39 : decode cX7_best 39 = .ok (.bipush 8, 2) := by decide +kernel
theorem dX7_best_41 : decode cX7_best 41 = .ok (.idiv, 1) := by decide +kernel
theorem dX7_best_42 : decode cX7_best 42 = .ok (.iadd, 1) := by decide +kernel
theorem dX7_best_43 : decode cX7_best 43 = .ok (.iaload, 1) := by decide +kernel
theorem dX7_best_44 : decode cX7_best 44 = .ok (.if_icmp .ge 74, 3) := by decide +kernel
theorem dX7_best_47 : decode cX7_best 47 = .ok (.aload_n 0, 1) := by decide +kernel
theorem dX7_best_48 : decode cX7_best 48 = .ok (.iload_n 1, 1) := by decide +kernel
theorem dX7_best_49 : decode cX7_best 49 = .ok (.iload_n 2, 1) := by decide +kernel
theorem dX7_best_50 : decode cX7_best 50 = .ok (.iload 5, 2) := by decide +kernel
theorem dX7_best_52 : decode cX7_best 52 = .ok (.bipush 8, 2) := by decide +kernel
theorem dX7_best_54 : decode cX7_best 54 = .ok (.idiv, 1) := by decide +kernel
theorem dX7_best_55 : decode cX7_best 55 = .ok (.iload 5, 2) := by decide +kernel
theorem dX7_best_57 : decode cX7_best 57 = .ok (.bipush 8, 2) := by decide +kernel
theorem dX7_best_59 : decode cX7_best 59 = .ok (.irem, 1) := by decide +kernel
theorem dX7_best_60 : decode cX7_best 60 = .ok (.invokevirtual 61, 3) := by decide +kernel
theorem dX7_best_63 : decode cX7_best 63 = .ok (.ifCond .ne 55, 3) := by decide +kernel
theorem dX7_best_66 : decode cX7_best 66 = .ok (.aload_n 0, 1) := by decide +kernel
theorem dX7_best_67 : decode cX7_best 67 = .ok (.iload_n 1, 1) := by decide +kernel
theorem dX7_best_68 : decode cX7_best 68 = .ok (.iload_n 2, 1) := by decide +kernel
theorem dX7_best_69 : decode cX7_best 69 = .ok (.iload 5, 2) := by decide +kernel
theorem dX7_best_71 : decode cX7_best 71 = .ok (.bipush 8, 2) := by decide +kernel
theorem dX7_best_73 : decode cX7_best 73 = .ok (.idiv, 1) := by decide +kernel
theorem dX7_best_74 : decode cX7_best 74 = .ok (.iload 5, 2) := by decide +kernel
theorem dX7_best_76 : decode cX7_best 76 = .ok (.bipush 8, 2) := by decide +kernel
theorem dX7_best_78 : decode cX7_best 78 = .ok (.irem, 1) := by decide +kernel
theorem dX7_best_79 : decode cX7_best 79 = .ok (.invokevirtual 65, 3) := by decide +kernel
theorem dX7_best_82 : decode cX7_best 82 = .ok (.istore 6, 2) := by decide +kernel
theorem dX7_best_84 : decode cX7_best 84 = .ok (.iload_n 3, 1) := by decide +kernel
theorem dX7_best_85 : decode cX7_best 85 = .ok (.iconst (-1), 1) := by decide +kernel
theorem dX7_best_86 : decode cX7_best 86 = .ok (.if_icmp .eq 10, 3) := by decide +kernel
theorem dX7_best_89 : decode cX7_best 89 = .ok (.iload 6, 2) := by decide +kernel
theorem dX7_best_91 : decode cX7_best 91 = .ok (.iload 4, 2) := by decide +kernel
theorem dX7_best_93 : decode cX7_best 93 = .ok (.if_icmp .le 8, 3) := by decide +kernel
theorem dX7_best_96 : decode cX7_best 96 = .ok (.iload 5, 2) := by decide +kernel
theorem dX7_best_98 : decode cX7_best 98 = .ok (.goto 4, 3) := by decide +kernel
theorem dX7_best_101 : decode cX7_best 101 = .ok (.iload_n 3, 1) := by decide +kernel
theorem dX7_best_102 : decode cX7_best 102 = .ok (.istore_n 3, 1) := by decide +kernel
theorem dX7_best_103 : decode cX7_best 103 = .ok (.iload_n 3, 1) := by decide +kernel
theorem dX7_best_104 : decode cX7_best 104 = .ok (.iload 5, 2) := by decide +kernel
theorem dX7_best_106 : decode cX7_best 106 = .ok (.if_icmp .ne 8, 3) := by decide +kernel
theorem dX7_best_109 : decode cX7_best 109 = .ok (.iload 6, 2) := by decide +kernel
theorem dX7_best_111 : decode cX7_best 111 = .ok (.goto 5, 3) := by decide +kernel
theorem dX7_best_114 : decode cX7_best 114 = .ok (.iload 4, 2) := by decide +kernel
theorem dX7_best_116 : decode cX7_best 116 = .ok (.istore 4, 2) := by decide +kernel
theorem dX7_best_118 : decode cX7_best 118 = .ok (.iinc 5 1, 3) := by decide +kernel
theorem dX7_best_121 : decode cX7_best 121 = .ok (.goto (-113), 3) := by decide +kernel
theorem dX7_best_124 : decode cX7_best 124 = .ok (.iload_n 3, 1) := by decide +kernel
theorem dX7_best_125 : decode cX7_best 125 = .ok (.ireturn, 1) := by decide +kernel
theorem dX7_standsUp_0 : decode cX7_standsUp 0 = .ok (.iconst 0, 1) := by decide +kernel
theorem dX7_standsUp_1 : decode cX7_standsUp 1 = .ok (.istore_n 3, 1) := by decide +kernel
theorem dX7_standsUp_2 : decode cX7_standsUp 2 = .ok (.iconst 0, 1) := by decide +kernel
theorem dX7_standsUp_3 : decode cX7_standsUp 3 = .ok (.istore 4, 2) := by decide +kernel
theorem dX7_standsUp_5 : decode cX7_standsUp 5 = .ok (.iload 4, 2) := by decide +kernel
theorem dX7_standsUp_7 : decode cX7_standsUp 7 = .ok (.aload_n 0, 1) := by decide +kernel
theorem dX7_standsUp_8 : decode cX7_standsUp 8 = .ok (.getfield 7, 3) := by decide +kernel
theorem dX7_standsUp_11 : decode cX7_standsUp 11 = .ok (.iload_n 1, 1) := by decide +kernel
theorem dX7_standsUp_12 : decode cX7_standsUp 12 = .ok (.iconst 3, 1) := by decide +kernel
theorem dX7_standsUp_13 : decode cX7_standsUp 13 = .ok (.iadd, 1) := by decide +kernel
theorem dX7_standsUp_14 : decode cX7_standsUp 14 = .ok (.iaload, 1) := by decide +kernel
theorem dX7_standsUp_15 : decode cX7_standsUp 15 = .ok (.if_icmp .ge 50, 3) := by decide +kernel
theorem dX7_standsUp_18 : decode cX7_standsUp 18 = .ok (.aload_n 0, 1) := by decide +kernel
theorem dX7_standsUp_19 : decode cX7_standsUp 19 = .ok (.getfield 7, 3) := by decide +kernel
theorem dX7_standsUp_22 : decode cX7_standsUp 22 = .ok (.iload_n 1, 1) := by decide +kernel
theorem dX7_standsUp_23 : decode cX7_standsUp 23 = .ok (.bipush 22, 2) := by decide +kernel
theorem dX7_standsUp_25 : decode cX7_standsUp 25 = .ok (.iadd, 1) := by decide +kernel
theorem dX7_standsUp_26 : decode cX7_standsUp 26 = .ok (.iload 4, 2) := by decide +kernel
theorem dX7_standsUp_28 : decode cX7_standsUp 28 = .ok (.iadd, 1) := by decide +kernel
theorem dX7_standsUp_29 : decode cX7_standsUp 29 = .ok (.iaload, 1) := by decide +kernel
theorem dX7_standsUp_30 : decode cX7_standsUp 30 = .ok (.istore 5, 2) := by decide +kernel
theorem dX7_standsUp_32 : decode cX7_standsUp 32 = .ok (.aload_n 0, 1) := by decide +kernel
theorem dX7_standsUp_33 : decode cX7_standsUp 33 = .ok (.getfield 7, 3) := by decide +kernel
theorem dX7_standsUp_36 : decode cX7_standsUp 36 = .ok (.iload_n 1, 1) := by decide +kernel
theorem dX7_standsUp_37 : decode cX7_standsUp 37 = .ok (.bipush 22, 2) := by decide +kernel
theorem dX7_standsUp_39 : decode cX7_standsUp 39 = .ok (.iadd, 1) := by decide +kernel
theorem dX7_standsUp_40 : decode cX7_standsUp 40 = .ok (.iload_n 3, 1) := by decide +kernel
theorem dX7_standsUp_41 : decode cX7_standsUp 41 = .ok (.iadd, 1) := by decide +kernel
theorem dX7_standsUp_42 : decode cX7_standsUp 42 = .ok (.iload 5, 2) := by decide +kernel
theorem dX7_standsUp_44 : decode cX7_standsUp 44 = .ok (.iastore, 1) := by decide +kernel
theorem dX7_standsUp_45 : decode cX7_standsUp 45 = .ok (.iload_n 3, 1) := by decide +kernel
theorem dX7_standsUp_46 : decode cX7_standsUp 46 = .ok (.iload 5, 2) := by decide +kernel
theorem dX7_standsUp_48 : decode cX7_standsUp 48 = .ok (.iload_n 2, 1) := by decide +kernel
theorem dX7_standsUp_49 : decode cX7_standsUp 49 = .ok (.if_icmp .ne 7, 3) := by decide +kernel
theorem dX7_standsUp_52 : decode cX7_standsUp 52 = .ok (.iconst 0, 1) := by decide +kernel
theorem dX7_standsUp_53 : decode cX7_standsUp 53 = .ok (.goto 4, 3) := by decide +kernel
theorem dX7_standsUp_56 : decode cX7_standsUp 56 = .ok (.iconst 1, 1) := by decide +kernel
theorem dX7_standsUp_57 : decode cX7_standsUp 57 = .ok (.iadd, 1) := by decide +kernel
theorem dX7_standsUp_58 : decode cX7_standsUp 58 = .ok (.istore_n 3, 1) := by decide +kernel
theorem dX7_standsUp_59 : decode cX7_standsUp 59 = .ok (.iinc 4 1, 3) := by decide +kernel
theorem dX7_standsUp_62 : decode cX7_standsUp 62 = .ok (.goto (-57), 3) := by decide +kernel
theorem dX7_standsUp_65 : decode cX7_standsUp 65 = .ok (.aload_n 0, 1) := by decide +kernel
theorem dX7_standsUp_66 : decode cX7_standsUp 66 = .ok (.getfield 7, 3) := by decide +kernel
theorem dX7_standsUp_69 : decode cX7_standsUp 69 = .ok (.iload_n 1, 1) := by decide +kernel
theorem dX7_standsUp_70 : decode cX7_standsUp 70 = .ok (.iconst 3, 1) := by decide +kernel
theorem dX7_standsUp_71 : decode cX7_standsUp 71 = .ok (.iadd, 1) := by decide +kernel
theorem dX7_standsUp_72 : decode cX7_standsUp 72 = .ok (.iload_n 3, 1) := by decide +kernel
theorem dX7_standsUp_73 : decode cX7_standsUp 73 = .ok (.iastore, 1) := by decide +kernel
theorem dX7_standsUp_74 : decode cX7_standsUp 74 = .ok (.aload_n 0, 1) := by decide +kernel
theorem dX7_standsUp_75 : decode cX7_standsUp 75 = .ok (.iload_n 1, 1) := by decide +kernel
theorem dX7_standsUp_76 : decode cX7_standsUp 76 = .ok (.iload_n 2, 1) := by decide +kernel
theorem dX7_standsUp_77 : decode cX7_standsUp 77 = .ok (.iconst 3, 1) := by decide +kernel
theorem dX7_standsUp_78 : decode cX7_standsUp 78 = .ok (.iconst (-1), 1) := by decide +kernel
theorem dX7_standsUp_79 : decode cX7_standsUp 79 = .ok (.invokevirtual 54, 3) := by decide +kernel
theorem dX7_standsUp_82 : decode cX7_standsUp 82 = .ok (.aload_n 0, 1) := by decide +kernel
theorem dX7_standsUp_83 : decode cX7_standsUp 83 = .ok (.iload_n 1, 1) := by decide +kernel
theorem dX7_standsUp_84 : decode cX7_standsUp 84 = .ok (.iload_n 2, 1) := by decide +kernel
theorem dX7_standsUp_85 : decode cX7_standsUp 85 = .ok (.iconst 4, 1) := by decide +kernel
theorem dX7_standsUp_86 : decode cX7_standsUp 86 = .ok (.iconst (-1), 1) := by decide +kernel
theorem dX7_standsUp_87 : decode cX7_standsUp 87 = .ok (.invokevirtual 54, 3) := by decide +kernel
theorem dX7_standsUp_90 : decode cX7_standsUp 90 = .ok (.aload_n 0, 1) := by decide +kernel
theorem dX7_standsUp_91 : decode cX7_standsUp 91 = .ok (.getfield 7, 3) := by decide +kernel
theorem dX7_standsUp_94 : decode cX7_standsUp 94 = .ok (.iload_n 1, 1) := by decide +kernel
theorem dX7_standsUp_95 : decode cX7_standsUp 95 = .ok (.iconst 5, 1) := by decide +kernel
theorem dX7_standsUp_96 : decode cX7_standsUp 96 = .ok (.iadd, 1) := by decide +kernel
theorem dX7_standsUp_97 : decode cX7_standsUp 97 = .ok (.dup2, 1) := by decide +kernel
theorem dX7_standsUp_98 : decode cX7_standsUp 98 = .ok (.iaload, 1) := by decide +kernel
theorem dX7_standsUp_99 : decode cX7_standsUp 99 = .ok (.iconst 1, 1) := by decide +kernel
theorem dX7_standsUp_100 : decode cX7_standsUp 100 = .ok (.iadd, 1) := by decide +kernel
theorem dX7_standsUp_101 : decode cX7_standsUp 101 = .ok (.iastore, 1) := by decide +kernel
theorem dX7_standsUp_102 : decode cX7_standsUp 102 = .ok (.return_, 1) := by decide +kernel
theorem dX7_sitsDown_0 : decode cX7_sitsDown 0 = .ok (.aload_n 0, 1) := by decide +kernel
theorem dX7_sitsDown_1 : decode cX7_sitsDown 1 = .ok (.iload_n 1, 1) := by decide +kernel
theorem dX7_sitsDown_2 : decode cX7_sitsDown 2 = .ok (.iload_n 2, 1) := by decide +kernel
theorem dX7_sitsDown_3 : decode cX7_sitsDown 3 = .ok (.iconst 3, 1) := by decide +kernel
theorem dX7_sitsDown_4 : decode cX7_sitsDown 4 = .ok (.invokevirtual 31, 3) := by decide +kernel
theorem dX7_sitsDown_7 : decode cX7_sitsDown 7 = .ok (.iconst (-1), 1) := by decide +kernel
theorem dX7_sitsDown_8 : decode cX7_sitsDown 8 = .ok (.if_icmp .eq 9, 3) := by decide +kernel
theorem dX7_sitsDown_11 : decode cX7_sitsDown 11 = .ok (.aload_n 0, 1) := by decide +kernel
theorem dX7_sitsDown_12 : decode cX7_sitsDown 12 = .ok (.iload_n 1, 1) := by decide +kernel
theorem dX7_sitsDown_13 : decode cX7_sitsDown 13 = .ok (.iload_n 2, 1) := by decide +kernel
theorem dX7_sitsDown_14 : decode cX7_sitsDown 14 = .ok (.invokevirtual 68, 3) := by decide +kernel
theorem dX7_sitsDown_17 : decode cX7_sitsDown 17 = .ok (.aload_n 0, 1) := by decide +kernel
theorem dX7_sitsDown_18 : decode cX7_sitsDown 18 = .ok (.iload_n 1, 1) := by decide +kernel
theorem dX7_sitsDown_19 : decode cX7_sitsDown 19 = .ok (.iload_n 2, 1) := by decide +kernel
theorem dX7_sitsDown_20 : decode cX7_sitsDown 20 = .ok (.iconst 3, 1) := by decide +kernel
theorem dX7_sitsDown_21 : decode cX7_sitsDown 21 = .ok (.iload_n 3, 1) := by decide +kernel
theorem dX7_sitsDown_22 : decode cX7_sitsDown 22 = .ok (.invokevirtual 54, 3) := by decide +kernel
theorem dX7_sitsDown_25 : decode cX7_sitsDown 25 = .ok (.aload_n 0, 1) := by decide +kernel
theorem dX7_sitsDown_26 : decode cX7_sitsDown 26 = .ok (.iload_n 1, 1) := by decide +kernel
theorem dX7_sitsDown_27 : decode cX7_sitsDown 27 = .ok (.iload_n 2, 1) := by decide +kernel
theorem dX7_sitsDown_28 : decode cX7_sitsDown 28 = .ok (.iconst 4, 1) := by decide +kernel
theorem dX7_sitsDown_29 : decode cX7_sitsDown 29 = .ok (.iload 4, 2) := by decide +kernel
theorem dX7_sitsDown_31 : decode cX7_sitsDown 31 = .ok (.invokevirtual 54, 3) := by decide +kernel
theorem dX7_sitsDown_34 : decode cX7_sitsDown 34 = .ok (.aload_n 0, 1) := by decide +kernel
theorem dX7_sitsDown_35 : decode cX7_sitsDown 35 = .ok (.getfield 7, 3) := by decide +kernel
theorem dX7_sitsDown_38 : decode cX7_sitsDown 38 = .ok (.iload_n 1, 1) := by decide +kernel
theorem dX7_sitsDown_39 : decode cX7_sitsDown 39 = .ok (.bipush 22, 2) := by decide +kernel
theorem dX7_sitsDown_41 : decode cX7_sitsDown 41 = .ok (.iadd, 1) := by decide +kernel
theorem dX7_sitsDown_42 : decode cX7_sitsDown 42 = .ok (.aload_n 0, 1) := by decide +kernel
theorem dX7_sitsDown_43 : decode cX7_sitsDown 43 = .ok (.getfield 7, 3) := by decide +kernel
theorem dX7_sitsDown_46 : decode cX7_sitsDown 46 = .ok (.iload_n 1, 1) := by decide +kernel
theorem dX7_sitsDown_47 : decode cX7_sitsDown 47 = .ok (.iconst 3, 1) := by decide +kernel
theorem dX7_sitsDown_48 : decode cX7_sitsDown 48 = .ok (.iadd, 1) := by decide +kernel
theorem dX7_sitsDown_49 : decode cX7_sitsDown 49 = .ok (.iaload, 1) := by decide +kernel
theorem dX7_sitsDown_50 : decode cX7_sitsDown 50 = .ok (.iadd, 1) := by decide +kernel
theorem dX7_sitsDown_51 : decode cX7_sitsDown 51 = .ok (.iload_n 2, 1) := by decide +kernel
theorem dX7_sitsDown_52 : decode cX7_sitsDown 52 = .ok (.iastore, 1) := by decide +kernel
theorem dX7_sitsDown_53 : decode cX7_sitsDown 53 = .ok (.aload_n 0, 1) := by decide +kernel
theorem dX7_sitsDown_54 : decode cX7_sitsDown 54 = .ok (.getfield 7, 3) := by decide +kernel
theorem dX7_sitsDown_57 : decode cX7_sitsDown 57 = .ok (.iload_n 1, 1) := by decide +kernel
theorem dX7_sitsDown_58 : decode cX7_sitsDown 58 = .ok (.iconst 3, 1) := by decide +kernel
theorem dX7_sitsDown_59 : decode cX7_sitsDown 59 = .ok (.iadd, 1) := by decide +kernel
theorem dX7_sitsDown_60 : decode cX7_sitsDown 60 = .ok (.dup2, 1) := by decide +kernel
theorem dX7_sitsDown_61 : decode cX7_sitsDown 61 = .ok (.iaload, 1) := by decide +kernel
theorem dX7_sitsDown_62 : decode cX7_sitsDown 62 = .ok (.iconst 1, 1) := by decide +kernel
theorem dX7_sitsDown_63 : decode cX7_sitsDown 63 = .ok (.iadd, 1) := by decide +kernel
theorem dX7_sitsDown_64 : decode cX7_sitsDown 64 = .ok (.iastore, 1) := by decide +kernel
theorem dX7_sitsDown_65 : decode cX7_sitsDown 65 = .ok (.aload_n 0, 1) := by decide +kernel
theorem dX7_sitsDown_66 : decode cX7_sitsDown 66 = .ok (.getfield 7, 3) := by decide +kernel
theorem dX7_sitsDown_69 : decode cX7_sitsDown 69 = .ok (.iload_n 1, 1) := by decide +kernel
theorem dX7_sitsDown_70 : decode cX7_sitsDown 70 = .ok (.iconst 4, 1) := by decide +kernel
theorem dX7_sitsDown_71 : decode cX7_sitsDown 71 = .ok (.iadd, 1) := by decide +kernel
theorem dX7_sitsDown_72 : decode cX7_sitsDown 72 = .ok (.dup2, 1) := by decide +kernel
theorem dX7_sitsDown_73 : decode cX7_sitsDown 73 = .ok (.iaload, 1) := by decide +kernel
theorem dX7_sitsDown_74 : decode cX7_sitsDown 74 = .ok (.iconst 1, 1) := by decide +kernel
theorem dX7_sitsDown_75 : decode cX7_sitsDown 75 = .ok (.iadd, 1) := by decide +kernel
theorem dX7_sitsDown_76 : decode cX7_sitsDown 76 = .ok (.iastore, 1) := by decide +kernel
theorem dX7_sitsDown_77 : decode cX7_sitsDown 77 = .ok (.return_, 1) := by decide +kernel
theorem dX7_seatsAll_0 : decode cX7_seatsAll 0 = .ok (.iconst 0, 1) := by decide +kernel
theorem dX7_seatsAll_1 : decode cX7_seatsAll 1 = .ok (.istore_n 2, 1) := by decide +kernel
theorem dX7_seatsAll_2 : decode cX7_seatsAll 2 = .ok (.iconst 0, 1) := by decide +kernel
theorem dX7_seatsAll_3 : decode cX7_seatsAll 3 = .ok (.istore_n 3, 1) := by decide +kernel
theorem dX7_seatsAll_4 : decode cX7_seatsAll 4 = .ok (.iload_n 3, 1) := by decide +kernel
theorem dX7_seatsAll_5 : decode cX7_seatsAll 5 = .ok (.aload_n 0, 1) := by decide +kernel
theorem dX7_seatsAll_6 : decode cX7_seatsAll 6 = .ok (.getfield 7, 3) := by decide +kernel
theorem dX7_seatsAll_9 : decode cX7_seatsAll 9 = .ok (.iload_n 1, 1) := by decide +kernel
theorem dX7_seatsAll_10 : decode cX7_seatsAll 10 = .ok (.iconst 0, 1) := by decide +kernel
theorem dX7_seatsAll_11 : decode cX7_seatsAll 11 = .ok (.iadd, 1) := by decide +kernel
theorem dX7_seatsAll_12 : decode cX7_seatsAll 12 = .ok (.iaload, 1) := by decide +kernel
theorem dX7_seatsAll_13 : decode cX7_seatsAll 13 = .ok (.if_icmp .ge 56, 3) := by decide +kernel
theorem dX7_seatsAll_16 : decode cX7_seatsAll 16 = .ok (.aload_n 0, 1) := by decide +kernel
theorem dX7_seatsAll_17 : decode cX7_seatsAll 17 = .ok (.iload_n 1, 1) := by decide +kernel
theorem dX7_seatsAll_18 : decode cX7_seatsAll 18 = .ok (.iload_n 3, 1) := by decide +kernel
theorem dX7_seatsAll_19 : decode cX7_seatsAll 19 = .ok (.iconst 3, 1) := by decide +kernel
theorem dX7_seatsAll_20 : decode cX7_seatsAll 20 = .ok (.invokevirtual 31, 3) := by decide +kernel
theorem dX7_seatsAll_23 : decode cX7_seatsAll 23 = .ok (.iconst (-1), 1) := by decide +kernel
theorem dX7_seatsAll_24 : decode cX7_seatsAll 24 = .ok (.if_icmp .ne 39, 3) := by decide +kernel
theorem dX7_seatsAll_27 : decode cX7_seatsAll 27 = .ok (.aload_n 0, 1) := by decide +kernel
theorem dX7_seatsAll_28 : decode cX7_seatsAll 28 = .ok (.iload_n 1, 1) := by decide +kernel
theorem dX7_seatsAll_29 : decode cX7_seatsAll 29 = .ok (.iload_n 3, 1) := by decide +kernel
theorem dX7_seatsAll_30 : decode cX7_seatsAll 30 = .ok (.invokevirtual 72, 3) := by decide +kernel
theorem dX7_seatsAll_33 : decode cX7_seatsAll 33 = .ok (.istore 4, 2) := by decide +kernel
theorem dX7_seatsAll_35 : decode cX7_seatsAll 35 = .ok (.iload 4, 2) := by decide +kernel
theorem dX7_seatsAll_37 : decode cX7_seatsAll 37 = .ok (.iconst (-1), 1) := by decide +kernel
theorem dX7_seatsAll_38 : decode cX7_seatsAll 38 = .ok (.if_icmp .ne 9, 3) := by decide +kernel
theorem dX7_seatsAll_41 : decode cX7_seatsAll 41 = .ok (.iinc 2 1, 3) := by decide +kernel
theorem dX7_seatsAll_44 : decode cX7_seatsAll 44 = .ok (.goto 19, 3) := by decide +kernel
theorem dX7_seatsAll_47 : decode cX7_seatsAll 47 = .ok (.aload_n 0, 1) := by decide +kernel
theorem dX7_seatsAll_48 : decode cX7_seatsAll 48 = .ok (.iload_n 1, 1) := by decide +kernel
theorem dX7_seatsAll_49 : decode cX7_seatsAll 49 = .ok (.iload_n 3, 1) := by decide +kernel
theorem dX7_seatsAll_50 : decode cX7_seatsAll 50 = .ok (.iload 4, 2) := by decide +kernel
theorem dX7_seatsAll_52 : decode cX7_seatsAll 52 = .ok (.bipush 8, 2) := by decide +kernel
theorem dX7_seatsAll_54 : decode cX7_seatsAll 54 = .ok (.idiv, 1) := by decide +kernel
theorem dX7_seatsAll_55 : decode cX7_seatsAll 55 = .ok (.iload 4, 2) := by decide +kernel
theorem dX7_seatsAll_57 : decode cX7_seatsAll 57 = .ok (.bipush 8, 2) := by decide +kernel
theorem dX7_seatsAll_59 : decode cX7_seatsAll 59 = .ok (.irem, 1) := by decide +kernel
theorem dX7_seatsAll_60 : decode cX7_seatsAll 60 = .ok (.invokevirtual 75, 3) := by decide +kernel
theorem dX7_seatsAll_63 : decode cX7_seatsAll 63 = .ok (.iinc 3 1, 3) := by decide +kernel
theorem dX7_seatsAll_66 : decode cX7_seatsAll 66 = .ok (.goto (-62), 3) := by decide +kernel
theorem dX7_seatsAll_69 : decode cX7_seatsAll 69 = .ok (.iload_n 2, 1) := by decide +kernel
theorem dX7_seatsAll_70 : decode cX7_seatsAll 70 = .ok (.ireturn, 1) := by decide +kernel
theorem dX7_sitting_0 : decode cX7_sitting 0 = .ok (.iconst 0, 1) := by decide +kernel
theorem dX7_sitting_1 : decode cX7_sitting 1 = .ok (.istore_n 3, 1) := by decide +kernel
theorem dX7_sitting_2 : decode cX7_sitting 2 = .ok (.iconst 0, 1) := by decide +kernel
theorem dX7_sitting_3 : decode cX7_sitting 3 = .ok (.istore 4, 2) := by decide +kernel
theorem dX7_sitting_5 : decode cX7_sitting 5 = .ok (.iload 4, 2) := by decide +kernel
theorem dX7_sitting_7 : decode cX7_sitting 7 = .ok (.aload_n 0, 1) := by decide +kernel
theorem dX7_sitting_8 : decode cX7_sitting 8 = .ok (.getfield 7, 3) := by decide +kernel
theorem dX7_sitting_11 : decode cX7_sitting 11 = .ok (.iconst 0, 1) := by decide +kernel
theorem dX7_sitting_12 : decode cX7_sitting 12 = .ok (.iaload, 1) := by decide +kernel
theorem dX7_sitting_13 : decode cX7_sitting 13 = .ok (.if_icmp .ge 41, 3) := by decide +kernel
theorem dX7_sitting_16 : decode cX7_sitting 16 = .ok (.iload_n 3, 1) := by decide +kernel
theorem dX7_sitting_17 : decode cX7_sitting 17 = .ok (.aload_n 0, 1) := by decide +kernel
theorem dX7_sitting_18 : decode cX7_sitting 18 = .ok (.iconst 0, 1) := by decide +kernel
theorem dX7_sitting_19 : decode cX7_sitting 19 = .ok (.iload 4, 2) := by decide +kernel
theorem dX7_sitting_21 : decode cX7_sitting 21 = .ok (.iconst 3, 1) := by decide +kernel
theorem dX7_sitting_22 : decode cX7_sitting 22 = .ok (.invokevirtual 31, 3) := by decide +kernel
theorem dX7_sitting_25 : decode cX7_sitting 25 = .ok (.iload_n 1, 1) := by decide +kernel
theorem dX7_sitting_26 : decode cX7_sitting 26 = .ok (.if_icmp .ne 19, 3) := by decide +kernel
theorem dX7_sitting_29 : decode cX7_sitting 29 = .ok (.aload_n 0, 1) := by decide +kernel
theorem dX7_sitting_30 : decode cX7_sitting 30 = .ok (.iconst 0, 1) := by decide +kernel
theorem dX7_sitting_31 : decode cX7_sitting 31 = .ok (.iload 4, 2) := by decide +kernel
theorem dX7_sitting_33 : decode cX7_sitting 33 = .ok (.iconst 0, 1) := by decide +kernel
theorem dX7_sitting_34 : decode cX7_sitting 34 = .ok (.invokevirtual 31, 3) := by decide +kernel
theorem dX7_sitting_37 : decode cX7_sitting 37 = .ok (.iload_n 2, 1) := by decide +kernel
theorem dX7_sitting_38 : decode cX7_sitting 38 = .ok (.if_icmp .ne 7, 3) := by decide +kernel
theorem dX7_sitting_41 : decode cX7_sitting 41 = .ok (.iconst 1, 1) := by decide +kernel
theorem dX7_sitting_42 : decode cX7_sitting 42 = .ok (.goto 4, 3) := by decide +kernel
theorem dX7_sitting_45 : decode cX7_sitting 45 = .ok (.iconst 0, 1) := by decide +kernel
theorem dX7_sitting_46 : decode cX7_sitting 46 = .ok (.iadd, 1) := by decide +kernel
theorem dX7_sitting_47 : decode cX7_sitting 47 = .ok (.istore_n 3, 1) := by decide +kernel
theorem dX7_sitting_48 : decode cX7_sitting 48 = .ok (.iinc 4 1, 3) := by decide +kernel
theorem dX7_sitting_51 : decode cX7_sitting 51 = .ok (.goto (-46), 3) := by decide +kernel
theorem dX7_sitting_54 : decode cX7_sitting 54 = .ok (.iload_n 3, 1) := by decide +kernel
theorem dX7_sitting_55 : decode cX7_sitting 55 = .ok (.ireturn, 1) := by decide +kernel
theorem dX7_leaving_0 : decode cX7_leaving 0 = .ok (.aload_n 0, 1) := by decide +kernel
theorem dX7_leaving_1 : decode cX7_leaving 1 = .ok (.iload_n 1, 1) := by decide +kernel
theorem dX7_leaving_2 : decode cX7_leaving 2 = .ok (.iload_n 2, 1) := by decide +kernel
theorem dX7_leaving_3 : decode cX7_leaving 3 = .ok (.invokevirtual 78, 3) := by decide +kernel
theorem dX7_leaving_6 : decode cX7_leaving 6 = .ok (.istore 4, 2) := by decide +kernel
theorem dX7_leaving_8 : decode cX7_leaving 8 = .ok (.aload_n 0, 1) := by decide +kernel
theorem dX7_leaving_9 : decode cX7_leaving 9 = .ok (.iload_n 1, 1) := by decide +kernel
theorem dX7_leaving_10 : decode cX7_leaving 10 = .ok (.iload_n 3, 1) := by decide +kernel
theorem dX7_leaving_11 : decode cX7_leaving 11 = .ok (.invokevirtual 78, 3) := by decide +kernel
theorem dX7_leaving_14 : decode cX7_leaving 14 = .ok (.istore 5, 2) := by decide +kernel
theorem dX7_leaving_16 : decode cX7_leaving 16 = .ok (.iload 4, 2) := by decide +kernel
theorem dX7_leaving_18 : decode cX7_leaving 18 = .ok (.ifCond .eq 8, 3) := by decide +kernel
theorem dX7_leaving_21 : decode cX7_leaving 21 = .ok (.iload 5, 2) := by decide +kernel
theorem dX7_leaving_23 : decode cX7_leaving 23 = .ok (.ifCond .ne 5, 3) := by decide +kernel
theorem dX7_leaving_26 : decode cX7_leaving 26 = .ok (.iconst (-1), 1) := by decide +kernel
theorem dX7_leaving_27 : decode cX7_leaving 27 = .ok (.ireturn, 1) := by decide +kernel
theorem dX7_leaving_28 : decode cX7_leaving 28 = .ok (.iload_n 2, 1) := by decide +kernel
theorem dX7_leaving_29 : decode cX7_leaving 29 = .ok (.iload_n 3, 1) := by decide +kernel
theorem dX7_leaving_30 : decode cX7_leaving 30 = .ok (.if_icmp .le 7, 3) := by decide +kernel
theorem dX7_leaving_33 : decode cX7_leaving 33 = .ok (.iload_n 2, 1) := by decide +kernel
theorem dX7_leaving_34 : decode cX7_leaving 34 = .ok (.goto 4, 3) := by decide +kernel
theorem dX7_leaving_37 : decode cX7_leaving 37 = .ok (.iload_n 3, 1) := by decide +kernel
theorem dX7_leaving_38 : decode cX7_leaving 38 = .ok (.istore 6, 2) := by decide +kernel
theorem dX7_leaving_40 : decode cX7_leaving 40 = .ok (.iload 4, 2) := by decide +kernel
theorem dX7_leaving_42 : decode cX7_leaving 42 = .ok (.iload 5, 2) := by decide +kernel
theorem dX7_leaving_44 : decode cX7_leaving 44 = .ok (.if_icmp .ge 7, 3) := by decide +kernel
theorem dX7_leaving_47 : decode cX7_leaving 47 = .ok (.iload_n 2, 1) := by decide +kernel
theorem dX7_leaving_48 : decode cX7_leaving 48 = .ok (.goto 16, 3) := by decide +kernel
theorem dX7_leaving_51 : decode cX7_leaving 51 = .ok (.iload 5, 2) := by decide +kernel
theorem dX7_leaving_53 : decode cX7_leaving 53 = .ok (.iload 4, 2) := by decide +kernel
theorem dX7_leaving_55 : decode cX7_leaving 55 = .ok (.if_icmp .ge 7, 3) := by decide +kernel
theorem dX7_leaving_58 : decode cX7_leaving 58 = .ok (.iload_n 3, 1) := by decide +kernel
theorem dX7_leaving_59 : decode cX7_leaving 59 = .ok (.goto 5, 3) := by decide +kernel
theorem dX7_leaving_62 : decode cX7_leaving 62 = .ok (.iload 6, 2) := by decide +kernel
theorem dX7_leaving_64 : decode cX7_leaving 64 = .ok (.ireturn, 1) := by decide +kernel
theorem dX7_leavers_0 : decode cX7_leavers 0 = .ok (.iconst 0, 1) := by decide +kernel
theorem dX7_leavers_1 : decode cX7_leavers 1 = .ok (.istore_n 3, 1) := by decide +kernel
theorem dX7_leavers_2 : decode cX7_leavers 2 = .ok (.iconst 0, 1) := by decide +kernel
theorem dX7_leavers_3 : decode cX7_leavers 3 = .ok (.istore 4, 2) := by decide +kernel
theorem dX7_leavers_5 : decode cX7_leavers 5 = .ok (.iload 4, 2) := by decide +kernel
theorem dX7_leavers_7 : decode cX7_leavers 7 = .ok (.aload_n 0, 1) := by decide +kernel
theorem dX7_leavers_8 : decode cX7_leavers 8 = .ok (.getfield 7, 3) := by decide +kernel
theorem dX7_leavers_11 : decode cX7_leavers 11 = .ok (.iconst 1, 1) := by decide +kernel
theorem dX7_leavers_12 : decode cX7_leavers 12 = .ok (.iaload, 1) := by decide +kernel
theorem dX7_leavers_13 : decode cX7_leavers 13 = .ok (.if_icmp .ge 40, 3) := by decide +kernel
theorem dX7_leavers_16 : decode cX7_leavers 16 = .ok (.aload_n 0, 1) := by decide +kernel
theorem dX7_leavers_17 : decode cX7_leavers 17 = .ok (.iload 4, 2) := by decide +kernel
theorem dX7_leavers_19 : decode cX7_leavers 19 = .ok (.iload_n 1, 1) := by decide +kernel
theorem dX7_leavers_20 : decode cX7_leavers 20 = .ok (.iload_n 2, 1) := by decide +kernel
theorem dX7_leavers_21 : decode cX7_leavers 21 = .ok (.invokevirtual 81, 3) := by decide +kernel
theorem dX7_leavers_24 : decode cX7_leavers 24 = .ok (.istore 5, 2) := by decide +kernel
theorem dX7_leavers_26 : decode cX7_leavers 26 = .ok (.iload_n 3, 1) := by decide +kernel
theorem dX7_leavers_27 : decode cX7_leavers 27 = .ok (.iload 5, 2) := by decide +kernel
theorem dX7_leavers_29 : decode cX7_leavers 29 = .ok (.iconst (-1), 1) := by decide +kernel
theorem dX7_leavers_30 : decode cX7_leavers 30 = .ok (.if_icmp .ne 7, 3) := by decide +kernel
theorem dX7_leavers_33 : decode cX7_leavers 33 = .ok (.iconst 0, 1) := by decide +kernel
theorem dX7_leavers_34 : decode cX7_leavers 34 = .ok (.goto 11, 3) := by decide +kernel
theorem dX7_leavers_37 : decode cX7_leavers 37 = .ok (.aload_n 0, 1) := by decide +kernel
theorem dX7_leavers_38 : decode cX7_leavers 38 = .ok (.iload 4, 2) := by decide +kernel
theorem dX7_leavers_40 : decode cX7_leavers 40 = .ok (.iload 5, 2) := by decide +kernel
theorem dX7_leavers_42 : decode cX7_leavers 42 = .ok (.invokevirtual 78, 3) := by decide +kernel
theorem dX7_leavers_45 : decode cX7_leavers 45 = .ok (.iadd, 1) := by decide +kernel
theorem dX7_leavers_46 : decode cX7_leavers 46 = .ok (.istore_n 3, 1) := by decide +kernel
theorem dX7_leavers_47 : decode cX7_leavers 47 = .ok (.iinc 4 1, 3) := by decide +kernel
theorem dX7_leavers_50 : decode cX7_leavers 50 = .ok (.goto (-45), 3) := by decide +kernel
theorem dX7_leavers_53 : decode cX7_leavers 53 = .ok (.iload_n 3, 1) := by decide +kernel
theorem dX7_leavers_54 : decode cX7_leavers 54 = .ok (.ireturn, 1) := by decide +kernel
theorem dX7_copies_0 : decode cX7_copies 0 = .ok (.iconst 0, 1) := by decide +kernel
theorem dX7_copies_1 : decode cX7_copies 1 = .ok (.istore_n 3, 1) := by decide +kernel
theorem dX7_copies_2 : decode cX7_copies 2 = .ok (.iload_n 3, 1) := by decide +kernel
theorem dX7_copies_3 : decode cX7_copies 3 = .ok (.bipush 118, 2) := by decide +kernel
theorem dX7_copies_5 : decode cX7_copies 5 = .ok (.if_icmp .ge 31, 3) := by decide +kernel
theorem dX7_copies_8 : decode cX7_copies 8 = .ok (.aload_n 0, 1) := by decide +kernel
theorem dX7_copies_9 : decode cX7_copies 9 = .ok (.getfield 7, 3) := by decide +kernel
theorem dX7_copies_12 : decode cX7_copies 12 = .ok (.bipush 118, 2) := by decide +kernel
theorem dX7_copies_14 : decode cX7_copies 14 = .ok (.iload_n 2, 1) := by decide +kernel
theorem dX7_copies_15 : decode cX7_copies 15 = .ok (.imul, 1) := by decide +kernel
theorem dX7_copies_16 : decode cX7_copies 16 = .ok (.iload_n 3, 1) := by decide +kernel
theorem dX7_copies_17 : decode cX7_copies 17 = .ok (.iadd, 1) := by decide +kernel
theorem dX7_copies_18 : decode cX7_copies 18 = .ok (.aload_n 0, 1) := by decide +kernel
theorem dX7_copies_19 : decode cX7_copies 19 = .ok (.getfield 7, 3) := by decide +kernel
theorem dX7_copies_22 : decode cX7_copies 22 = .ok (.bipush 118, 2) := by decide +kernel
theorem dX7_copies_24 : decode cX7_copies 24 = .ok (.iload_n 1, 1) := by decide +kernel
theorem dX7_copies_25 : decode cX7_copies 25 = .ok (.imul, 1) := by decide +kernel
theorem dX7_copies_26 : decode cX7_copies 26 = .ok (.iload_n 3, 1) := by decide +kernel
theorem dX7_copies_27 : decode cX7_copies 27 = .ok (.iadd, 1) := by decide +kernel
theorem dX7_copies_28 : decode cX7_copies 28 = .ok (.iaload, 1) := by decide +kernel
theorem dX7_copies_29 : decode cX7_copies 29 = .ok (.iastore, 1) := by decide +kernel
theorem dX7_copies_30 : decode cX7_copies 30 = .ok (.iinc 3 1, 3) := by decide +kernel
theorem dX7_copies_33 : decode cX7_copies 33 = .ok (.goto (-31), 3) := by decide +kernel
theorem dX7_copies_36 : decode cX7_copies 36 = .ok (.return_, 1) := by decide +kernel
theorem dX7_save_0 : decode cX7_save 0 = .ok (.iconst 1, 1) := by decide +kernel
theorem dX7_save_1 : decode cX7_save 1 = .ok (.istore_n 1, 1) := by decide +kernel
theorem dX7_save_2 : decode cX7_save 2 = .ok (.iload_n 1, 1) := by decide +kernel
theorem dX7_save_3 : decode cX7_save 3 = .ok (.bipush 6, 2) := by decide +kernel
theorem dX7_save_5 : decode cX7_save 5 = .ok (.if_icmp .ge 26, 3) := by decide +kernel
theorem dX7_save_8 : decode cX7_save 8 = .ok (.aload_n 0, 1) := by decide +kernel
theorem dX7_save_9 : decode cX7_save 9 = .ok (.getfield 84, 3) := by decide +kernel
theorem dX7_save_12 : decode cX7_save 12 = .ok (.bipush 6, 2) := by decide +kernel
theorem dX7_save_14 : decode cX7_save 14 = .ok (.if_icmp .ne 17, 3) := by decide +kernel
theorem dX7_save_17 : decode cX7_save 17 = .ok (.aload_n 0, 1) := by decide +kernel
theorem dX7_save_18 : decode cX7_save 18 = .ok (.iload_n 1, 1) := by decide +kernel
theorem dX7_save_19 : decode cX7_save 19 = .ok (.iconst 1, 1) := by decide +kernel
theorem dX7_save_20 : decode cX7_save 20 = .ok (.iadd, 1) := by decide +kernel
theorem dX7_save_21 : decode cX7_save 21 = .ok (.iload_n 1, 1) := by decide +kernel
theorem dX7_save_22 : decode cX7_save 22 = .ok (.invokevirtual 87, 3) := by decide +kernel
theorem dX7_save_25 : decode cX7_save 25 = .ok (.iinc 1 1, 3) := by decide +kernel
theorem dX7_save_28 : decode cX7_save 28 = .ok (.goto (-26), 3) := by decide +kernel
theorem dX7_save_31 : decode cX7_save 31 = .ok (.aload_n 0, 1) := by decide +kernel
theorem dX7_save_32 : decode cX7_save 32 = .ok (.dup, 1) := by decide +kernel
theorem dX7_save_33 : decode cX7_save 33 = .ok (.getfield 84, 3) := by decide +kernel
theorem dX7_save_36 : decode cX7_save 36 = .ok (.aload_n 0, 1) := by decide +kernel
theorem dX7_save_37 : decode cX7_save 37 = .ok (.getfield 84, 3) := by decide +kernel
theorem dX7_save_40 : decode cX7_save 40 = .ok (.bipush 6, 2) := by decide +kernel
theorem dX7_save_42 : decode cX7_save 42 = .ok (.if_icmp .ge 7, 3) := by decide +kernel
theorem dX7_save_45 : decode cX7_save 45 = .ok (.iconst 1, 1) := by decide +kernel
theorem dX7_save_46 : decode cX7_save 46 = .ok (.goto 4, 3) := by decide +kernel
theorem dX7_save_49 : decode cX7_save 49 = .ok (.iconst 0, 1) := by decide +kernel
theorem dX7_save_50 : decode cX7_save 50 = .ok (.iadd, 1) := by decide +kernel
theorem dX7_save_51 : decode cX7_save 51 = .ok (.putfield 84, 3) := by decide +kernel
theorem dX7_save_54 : decode cX7_save 54 = .ok (.aload_n 0, 1) := by decide +kernel
theorem dX7_save_55 : decode cX7_save 55 = .ok (.iconst 0, 1) := by decide +kernel
theorem dX7_save_56 : decode cX7_save 56 = .ok (.aload_n 0, 1) := by decide +kernel
theorem dX7_save_57 : decode cX7_save 57 = .ok (.getfield 84, 3) := by decide +kernel
theorem dX7_save_60 : decode cX7_save 60 = .ok (.invokevirtual 87, 3) := by decide +kernel
theorem dX7_save_63 : decode cX7_save 63 = .ok (.return_, 1) := by decide +kernel
theorem dX7_guest_0 : decode cX7_guest 0 = .ok (.aload_n 0, 1) := by decide +kernel
theorem dX7_guest_1 : decode cX7_guest 1 = .ok (.iload_n 1, 1) := by decide +kernel
theorem dX7_guest_2 : decode cX7_guest 2 = .ok (.invokestatic 24, 3) := by decide +kernel
theorem dX7_guest_5 : decode cX7_guest 5 = .ok (.ifCond .eq 12, 3) := by decide +kernel
theorem dX7_guest_8 : decode cX7_guest 8 = .ok (.iload_n 2, 1) := by decide +kernel
theorem dX7_guest_9 : decode cX7_guest 9 = .ok (.iconst 1, 1) := by decide +kernel
theorem dX7_guest_10 : decode cX7_guest 10 = .ok (.iconst 3, 1) := by decide +kernel
theorem dX7_guest_11 : decode cX7_guest 11 = .ok (.invokestatic 20, 3) := by decide +kernel
theorem dX7_guest_14 : decode cX7_guest 14 = .ok (.ifCond .ne 7, 3) := by decide +kernel
theorem dX7_guest_17 : decode cX7_guest 17 = .ok (.iconst 1, 1) := by decide +kernel
theorem dX7_guest_18 : decode cX7_guest 18 = .ok (.goto 19, 3) := by decide +kernel
theorem dX7_guest_21 : decode cX7_guest 21 = .ok (.aload_n 0, 1) := by decide +kernel
theorem dX7_guest_22 : decode cX7_guest 22 = .ok (.getfield 7, 3) := by decide +kernel
theorem dX7_guest_25 : decode cX7_guest 25 = .ok (.iconst 0, 1) := by decide +kernel
theorem dX7_guest_26 : decode cX7_guest 26 = .ok (.iaload, 1) := by decide +kernel
theorem dX7_guest_27 : decode cX7_guest 27 = .ok (.bipush 16, 2) := by decide +kernel
theorem dX7_guest_29 : decode cX7_guest 29 = .ok (.if_icmp .ne 7, 3) := by decide +kernel
theorem dX7_guest_32 : decode cX7_guest 32 = .ok (.iconst 2, 1) := by decide +kernel
theorem dX7_guest_33 : decode cX7_guest 33 = .ok (.goto 4, 3) := by decide +kernel
theorem dX7_guest_36 : decode cX7_guest 36 = .ok (.iconst 0, 1) := by decide +kernel
theorem dX7_guest_37 : decode cX7_guest 37 = .ok (.invokevirtual 90, 3) := by decide +kernel
theorem dX7_guest_40 : decode cX7_guest 40 = .ok (.ifCond .ne 5, 3) := by decide +kernel
theorem dX7_guest_43 : decode cX7_guest 43 = .ok (.iconst 0, 1) := by decide +kernel
theorem dX7_guest_44 : decode cX7_guest 44 = .ok (.ireturn, 1) := by decide +kernel
theorem dX7_guest_45 : decode cX7_guest 45 = .ok (.aload_n 0, 1) := by decide +kernel
theorem dX7_guest_46 : decode cX7_guest 46 = .ok (.invokevirtual 93, 3) := by decide +kernel
theorem dX7_guest_49 : decode cX7_guest 49 = .ok (.aload_n 0, 1) := by decide +kernel
theorem dX7_guest_50 : decode cX7_guest 50 = .ok (.getfield 7, 3) := by decide +kernel
theorem dX7_guest_53 : decode cX7_guest 53 = .ok (.iconst 0, 1) := by decide +kernel
theorem dX7_guest_54 : decode cX7_guest 54 = .ok (.iaload, 1) := by decide +kernel
theorem dX7_guest_55 : decode cX7_guest 55 = .ok (.istore_n 3, 1) := by decide +kernel
theorem dX7_guest_56 : decode cX7_guest 56 = .ok (.aload_n 0, 1) := by decide +kernel
theorem dX7_guest_57 : decode cX7_guest 57 = .ok (.getfield 7, 3) := by decide +kernel
theorem dX7_guest_60 : decode cX7_guest 60 = .ok (.iconst 0, 1) := by decide +kernel
theorem dX7_guest_61 : decode cX7_guest 61 = .ok (.dup2, 1) := by decide +kernel
theorem dX7_guest_62 : decode cX7_guest 62 = .ok (.iaload, 1) := by decide +kernel
theorem dX7_guest_63 : decode cX7_guest 63 = .ok (.iconst 1, 1) := by decide +kernel
theorem dX7_guest_64 : decode cX7_guest 64 = .ok (.iadd, 1) := by decide +kernel
theorem dX7_guest_65 : decode cX7_guest 65 = .ok (.iastore, 1) := by decide +kernel
theorem dX7_guest_66 : decode cX7_guest 66 = .ok (.aload_n 0, 1) := by decide +kernel
theorem dX7_guest_67 : decode cX7_guest 67 = .ok (.iconst 0, 1) := by decide +kernel
theorem dX7_guest_68 : decode cX7_guest 68 = .ok (.iload_n 3, 1) := by decide +kernel
theorem dX7_guest_69 : decode cX7_guest 69 = .ok (.iconst 0, 1) := by decide +kernel
theorem dX7_guest_70 : decode cX7_guest 70 = .ok (.iload_n 1, 1) := by decide +kernel
theorem dX7_guest_71 : decode cX7_guest 71 = .ok (.invokevirtual 54, 3) := by decide +kernel
theorem dX7_guest_74 : decode cX7_guest 74 = .ok (.aload_n 0, 1) := by decide +kernel
theorem dX7_guest_75 : decode cX7_guest 75 = .ok (.iconst 0, 1) := by decide +kernel
theorem dX7_guest_76 : decode cX7_guest 76 = .ok (.iload_n 3, 1) := by decide +kernel
theorem dX7_guest_77 : decode cX7_guest 77 = .ok (.iconst 1, 1) := by decide +kernel
theorem dX7_guest_78 : decode cX7_guest 78 = .ok (.iload_n 2, 1) := by decide +kernel
theorem dX7_guest_79 : decode cX7_guest 79 = .ok (.invokevirtual 54, 3) := by decide +kernel
theorem dX7_guest_82 : decode cX7_guest 82 = .ok (.aload_n 0, 1) := by decide +kernel
theorem dX7_guest_83 : decode cX7_guest 83 = .ok (.iconst 0, 1) := by decide +kernel
theorem dX7_guest_84 : decode cX7_guest 84 = .ok (.iload_n 3, 1) := by decide +kernel
theorem dX7_guest_85 : decode cX7_guest 85 = .ok (.iconst 2, 1) := by decide +kernel
theorem dX7_guest_86 : decode cX7_guest 86 = .ok (.iconst (-1), 1) := by decide +kernel
theorem dX7_guest_87 : decode cX7_guest 87 = .ok (.invokevirtual 54, 3) := by decide +kernel
theorem dX7_guest_90 : decode cX7_guest 90 = .ok (.aload_n 0, 1) := by decide +kernel
theorem dX7_guest_91 : decode cX7_guest 91 = .ok (.iconst 0, 1) := by decide +kernel
theorem dX7_guest_92 : decode cX7_guest 92 = .ok (.iload_n 3, 1) := by decide +kernel
theorem dX7_guest_93 : decode cX7_guest 93 = .ok (.iconst 3, 1) := by decide +kernel
theorem dX7_guest_94 : decode cX7_guest 94 = .ok (.iconst (-1), 1) := by decide +kernel
theorem dX7_guest_95 : decode cX7_guest 95 = .ok (.invokevirtual 54, 3) := by decide +kernel
theorem dX7_guest_98 : decode cX7_guest 98 = .ok (.aload_n 0, 1) := by decide +kernel
theorem dX7_guest_99 : decode cX7_guest 99 = .ok (.iconst 0, 1) := by decide +kernel
theorem dX7_guest_100 : decode cX7_guest 100 = .ok (.iload_n 3, 1) := by decide +kernel
theorem dX7_guest_101 : decode cX7_guest 101 = .ok (.iconst 4, 1) := by decide +kernel
theorem dX7_guest_102 : decode cX7_guest 102 = .ok (.iconst (-1), 1) := by decide +kernel
theorem dX7_guest_103 : decode cX7_guest 103 = .ok (.invokevirtual 54, 3) := by decide +kernel
theorem dX7_guest_106 : decode cX7_guest 106 = .ok (.iload_n 3, 1) := by decide +kernel
theorem dX7_guest_107 : decode cX7_guest 107 = .ok (.ireturn, 1) := by decide +kernel
theorem dX7_wish_0 : decode cX7_wish 0 = .ok (.aload_n 0, 1) := by decide +kernel
theorem dX7_wish_1 : decode cX7_wish 1 = .ok (.iload_n 1, 1) := by decide +kernel
theorem dX7_wish_2 : decode cX7_wish 2 = .ok (.invokevirtual 96, 3) := by decide +kernel
theorem dX7_wish_5 : decode cX7_wish 5 = .ok (.ifCond .eq 20, 3) := by decide +kernel
theorem dX7_wish_8 : decode cX7_wish 8 = .ok (.iload_n 2, 1) := by decide +kernel
theorem dX7_wish_9 : decode cX7_wish 9 = .ok (.iconst (-1), 1) := by decide +kernel
theorem dX7_wish_10 : decode cX7_wish 10 = .ok (.if_icmp .eq 11, 3) := by decide +kernel
theorem dX7_wish_13 : decode cX7_wish 13 = .ok (.aload_n 0, 1) := by decide +kernel
theorem dX7_wish_14 : decode cX7_wish 14 = .ok (.iload_n 2, 1) := by decide +kernel
theorem dX7_wish_15 : decode cX7_wish 15 = .ok (.invokevirtual 96, 3) := by decide +kernel
theorem dX7_wish_18 : decode cX7_wish 18 = .ok (.ifCond .eq 7, 3) := by decide +kernel
theorem dX7_wish_21 : decode cX7_wish 21 = .ok (.iconst 1, 1) := by decide +kernel
theorem dX7_wish_22 : decode cX7_wish 22 = .ok (.goto 4, 3) := by decide +kernel
theorem dX7_wish_25 : decode cX7_wish 25 = .ok (.iconst 0, 1) := by decide +kernel
theorem dX7_wish_26 : decode cX7_wish 26 = .ok (.istore_n 3, 1) := by decide +kernel
theorem dX7_wish_27 : decode cX7_wish 27 = .ok (.aload_n 0, 1) := by decide +kernel
theorem dX7_wish_28 : decode cX7_wish 28 = .ok (.iload_n 3, 1) := by decide +kernel
theorem dX7_wish_29 : decode cX7_wish 29 = .ok (.ifCond .ne 7, 3) := by decide +kernel
theorem dX7_wish_32 : decode cX7_wish 32 = .ok (.iconst 1, 1) := by decide +kernel
theorem dX7_wish_33 : decode cX7_wish 33 = .ok (.goto 13, 3) := by decide +kernel
theorem dX7_wish_36 : decode cX7_wish 36 = .ok (.iload_n 2, 1) := by decide +kernel
theorem dX7_wish_37 : decode cX7_wish 37 = .ok (.iload_n 1, 1) := by decide +kernel
theorem dX7_wish_38 : decode cX7_wish 38 = .ok (.if_icmp .ne 7, 3) := by decide +kernel
theorem dX7_wish_41 : decode cX7_wish 41 = .ok (.iconst 2, 1) := by decide +kernel
theorem dX7_wish_42 : decode cX7_wish 42 = .ok (.goto 4, 3) := by decide +kernel
theorem dX7_wish_45 : decode cX7_wish 45 = .ok (.iconst 0, 1) := by decide +kernel
theorem dX7_wish_46 : decode cX7_wish 46 = .ok (.invokevirtual 90, 3) := by decide +kernel
theorem dX7_wish_49 : decode cX7_wish 49 = .ok (.ifCond .ne 5, 3) := by decide +kernel
theorem dX7_wish_52 : decode cX7_wish 52 = .ok (.iconst 0, 1) := by decide +kernel
theorem dX7_wish_53 : decode cX7_wish 53 = .ok (.ireturn, 1) := by decide +kernel
theorem dX7_wish_54 : decode cX7_wish 54 = .ok (.aload_n 0, 1) := by decide +kernel
theorem dX7_wish_55 : decode cX7_wish 55 = .ok (.invokevirtual 93, 3) := by decide +kernel
theorem dX7_wish_58 : decode cX7_wish 58 = .ok (.aload_n 0, 1) := by decide +kernel
theorem dX7_wish_59 : decode cX7_wish 59 = .ok (.iconst 0, 1) := by decide +kernel
theorem dX7_wish_60 : decode cX7_wish 60 = .ok (.iload_n 1, 1) := by decide +kernel
theorem dX7_wish_61 : decode cX7_wish 61 = .ok (.iconst 2, 1) := by decide +kernel
theorem dX7_wish_62 : decode cX7_wish 62 = .ok (.invokevirtual 31, 3) := by decide +kernel
theorem dX7_wish_65 : decode cX7_wish 65 = .ok (.istore 4, 2) := by decide +kernel
theorem dX7_wish_67 : decode cX7_wish 67 = .ok (.aload_n 0, 1) := by decide +kernel
theorem dX7_wish_68 : decode cX7_wish 68 = .ok (.iconst 0, 1) := by decide +kernel
theorem dX7_wish_69 : decode cX7_wish 69 = .ok (.iload_n 1, 1) := by decide +kernel
theorem dX7_wish_70 : decode cX7_wish 70 = .ok (.iconst 2, 1) := by decide +kernel
theorem dX7_wish_71 : decode cX7_wish 71 = .ok (.iload_n 2, 1) := by decide +kernel
theorem dX7_wish_72 : decode cX7_wish 72 = .ok (.invokevirtual 54, 3) := by decide +kernel
theorem dX7_wish_75 : decode cX7_wish 75 = .ok (.iload 4, 2) := by decide +kernel
theorem dX7_wish_77 : decode cX7_wish 77 = .ok (.ireturn, 1) := by decide +kernel
theorem dX7_table_0 : decode cX7_table 0 = .ok (.aload_n 0, 1) := by decide +kernel
theorem dX7_table_1 : decode cX7_table 1 = .ok (.iload_n 1, 1) := by decide +kernel
theorem dX7_table_2 : decode cX7_table 2 = .ok (.iconst 3, 1) := by decide +kernel
theorem dX7_table_3 : decode cX7_table 3 = .ok (.bipush 8, 2) := by decide +kernel
theorem dX7_table_5 : decode cX7_table 5 = .ok (.invokestatic 20, 3) := by decide +kernel
theorem dX7_table_8 : decode cX7_table 8 = .ok (.ifCond .ne 7, 3) := by decide +kernel
theorem dX7_table_11 : decode cX7_table 11 = .ok (.iconst 1, 1) := by decide +kernel
theorem dX7_table_12 : decode cX7_table 12 = .ok (.goto 18, 3) := by decide +kernel
theorem dX7_table_15 : decode cX7_table 15 = .ok (.aload_n 0, 1) := by decide +kernel
theorem dX7_table_16 : decode cX7_table 16 = .ok (.getfield 7, 3) := by decide +kernel
theorem dX7_table_19 : decode cX7_table 19 = .ok (.iconst 1, 1) := by decide +kernel
theorem dX7_table_20 : decode cX7_table 20 = .ok (.iaload, 1) := by decide +kernel
theorem dX7_table_21 : decode cX7_table 21 = .ok (.iconst 4, 1) := by decide +kernel
theorem dX7_table_22 : decode cX7_table 22 = .ok (.if_icmp .ne 7, 3) := by decide +kernel
theorem dX7_table_25 : decode cX7_table 25 = .ok (.iconst 2, 1) := by decide +kernel
theorem dX7_table_26 : decode cX7_table 26 = .ok (.goto 4, 3) := by decide +kernel
theorem dX7_table_29 : decode cX7_table 29 = .ok (.iconst 0, 1) := by decide +kernel
theorem dX7_table_30 : decode cX7_table 30 = .ok (.invokevirtual 90, 3) := by decide +kernel
theorem dX7_table_33 : decode cX7_table 33 = .ok (.ifCond .ne 5, 3) := by decide +kernel
theorem dX7_table_36 : decode cX7_table 36 = .ok (.iconst 0, 1) := by decide +kernel
theorem dX7_table_37 : decode cX7_table 37 = .ok (.ireturn, 1) := by decide +kernel
theorem dX7_table_38 : decode cX7_table 38 = .ok (.aload_n 0, 1) := by decide +kernel
theorem dX7_table_39 : decode cX7_table 39 = .ok (.invokevirtual 93, 3) := by decide +kernel
theorem dX7_table_42 : decode cX7_table 42 = .ok (.aload_n 0, 1) := by decide +kernel
theorem dX7_table_43 : decode cX7_table 43 = .ok (.getfield 7, 3) := by decide +kernel
theorem dX7_table_46 : decode cX7_table 46 = .ok (.bipush 18, 2) := by decide +kernel
theorem dX7_table_48 : decode cX7_table 48 = .ok (.aload_n 0, 1) := by decide +kernel
theorem dX7_table_49 : decode cX7_table 49 = .ok (.getfield 7, 3) := by decide +kernel
theorem dX7_table_52 : decode cX7_table 52 = .ok (.iconst 1, 1) := by decide +kernel
theorem dX7_table_53 : decode cX7_table 53 = .ok (.iaload, 1) := by decide +kernel
theorem dX7_table_54 : decode cX7_table 54 = .ok (.iadd, 1) := by decide +kernel
theorem dX7_table_55 : decode cX7_table 55 = .ok (.iload_n 1, 1) := by decide +kernel
theorem dX7_table_56 : decode cX7_table 56 = .ok (.iastore, 1) := by decide +kernel
theorem dX7_table_57 : decode cX7_table 57 = .ok (.aload_n 0, 1) := by decide +kernel
theorem dX7_table_58 : decode cX7_table 58 = .ok (.getfield 7, 3) := by decide +kernel
theorem dX7_table_61 : decode cX7_table 61 = .ok (.iconst 1, 1) := by decide +kernel
theorem dX7_table_62 : decode cX7_table 62 = .ok (.dup2, 1) := by decide +kernel
theorem dX7_table_63 : decode cX7_table 63 = .ok (.iaload, 1) := by decide +kernel
theorem dX7_table_64 : decode cX7_table 64 = .ok (.iconst 1, 1) := by decide +kernel
theorem dX7_table_65 : decode cX7_table 65 = .ok (.iadd, 1) := by decide +kernel
theorem dX7_table_66 : decode cX7_table 66 = .ok (.iastore, 1) := by decide +kernel
theorem dX7_table_67 : decode cX7_table 67 = .ok (.aload_n 0, 1) := by decide +kernel
theorem dX7_table_68 : decode cX7_table 68 = .ok (.getfield 7, 3) := by decide +kernel
theorem dX7_table_71 : decode cX7_table 71 = .ok (.iconst 1, 1) := by decide +kernel
theorem dX7_table_72 : decode cX7_table 72 = .ok (.iaload, 1) := by decide +kernel
theorem dX7_table_73 : decode cX7_table 73 = .ok (.iconst 1, 1) := by decide +kernel
theorem dX7_table_74 : decode cX7_table 74 = .ok (.isub, 1) := by decide +kernel
theorem dX7_table_75 : decode cX7_table 75 = .ok (.ireturn, 1) := by decide +kernel
theorem dX7_feud_0 : decode cX7_feud 0 = .ok (.iload_n 1, 1) := by decide +kernel
theorem dX7_feud_1 : decode cX7_feud 1 = .ok (.iload_n 2, 1) := by decide +kernel
theorem dX7_feud_2 : decode cX7_feud 2 = .ok (.invokestatic 99, 3) := by decide +kernel
theorem dX7_feud_5 : decode cX7_feud 5 = .ok (.istore_n 3, 1) := by decide +kernel
theorem dX7_feud_6 : decode cX7_feud 6 = .ok (.iload_n 3, 1) := by decide +kernel
theorem dX7_feud_7 : decode cX7_feud 7 = .ok (.ifCond .eq 21, 3) := by decide +kernel
theorem dX7_feud_10 : decode cX7_feud 10 = .ok (.aload_n 0, 1) := by decide +kernel
theorem dX7_feud_11 : decode cX7_feud 11 = .ok (.iconst 0, 1) := by decide +kernel
theorem dX7_feud_12 : decode cX7_feud 12 = .ok (.iload_n 1, 1) := by decide +kernel
theorem dX7_feud_13 : decode cX7_feud 13 = .ok (.iload_n 2, 1) := by decide +kernel
theorem dX7_feud_14 : decode cX7_feud 14 = .ok (.invokestatic 41, 3) := by decide +kernel
theorem dX7_feud_17 : decode cX7_feud 17 = .ok (.invokevirtual 45, 3) := by decide +kernel
theorem dX7_feud_20 : decode cX7_feud 20 = .ok (.iconst (-1), 1) := by decide +kernel
theorem dX7_feud_21 : decode cX7_feud 21 = .ok (.if_icmp .eq 7, 3) := by decide +kernel
theorem dX7_feud_24 : decode cX7_feud 24 = .ok (.iconst 1, 1) := by decide +kernel
theorem dX7_feud_25 : decode cX7_feud 25 = .ok (.goto 4, 3) := by decide +kernel
theorem dX7_feud_28 : decode cX7_feud 28 = .ok (.iconst 0, 1) := by decide +kernel
theorem dX7_feud_29 : decode cX7_feud 29 = .ok (.istore 4, 2) := by decide +kernel
theorem dX7_feud_31 : decode cX7_feud 31 = .ok (.aload_n 0, 1) := by decide +kernel
theorem dX7_feud_32 : decode cX7_feud 32 = .ok (.iload_n 3, 1) := by decide +kernel
theorem dX7_feud_33 : decode cX7_feud 33 = .ok (.ifCond .ne 7, 3) := by decide +kernel
theorem dX7_feud_36 : decode cX7_feud 36 = .ok (.iconst 1, 1) := by decide +kernel
theorem dX7_feud_37 : decode cX7_feud 37 = .ok (.goto 24, 3) := by decide +kernel
theorem dX7_feud_40 : decode cX7_feud 40 = .ok (.iload 4, 2) := by decide +kernel
theorem dX7_feud_42 : decode cX7_feud 42 = .ok (.ifCond .ne 14, 3) := by decide +kernel
theorem dX7_feud_45 : decode cX7_feud 45 = .ok (.aload_n 0, 1) := by decide +kernel
theorem dX7_feud_46 : decode cX7_feud 46 = .ok (.getfield 7, 3) := by decide +kernel
theorem dX7_feud_49 : decode cX7_feud 49 = .ok (.iconst 2, 1) := by decide +kernel
theorem dX7_feud_50 : decode cX7_feud 50 = .ok (.iaload, 1) := by decide +kernel
theorem dX7_feud_51 : decode cX7_feud 51 = .ok (.bipush 8, 2) := by decide +kernel
theorem dX7_feud_53 : decode cX7_feud 53 = .ok (.if_icmp .ne 7, 3) := by decide +kernel
theorem dX7_feud_56 : decode cX7_feud 56 = .ok (.iconst 2, 1) := by decide +kernel
theorem dX7_feud_57 : decode cX7_feud 57 = .ok (.goto 4, 3) := by decide +kernel
theorem dX7_feud_60 : decode cX7_feud 60 = .ok (.iconst 0, 1) := by decide +kernel
theorem dX7_feud_61 : decode cX7_feud 61 = .ok (.invokevirtual 90, 3) := by decide +kernel
theorem dX7_feud_64 : decode cX7_feud 64 = .ok (.ifCond .ne 5, 3) := by decide +kernel
theorem dX7_feud_67 : decode cX7_feud 67 = .ok (.iconst 0, 1) := by decide +kernel
theorem dX7_feud_68 : decode cX7_feud 68 = .ok (.ireturn, 1) := by decide +kernel
theorem dX7_feud_69 : decode cX7_feud 69 = .ok (.aload_n 0, 1) := by decide +kernel
theorem dX7_feud_70 : decode cX7_feud 70 = .ok (.invokevirtual 93, 3) := by decide +kernel
theorem dX7_feud_73 : decode cX7_feud 73 = .ok (.iconst 0, 1) := by decide +kernel
theorem dX7_feud_74 : decode cX7_feud 74 = .ok (.istore 5, 2) := by decide +kernel
theorem dX7_feud_76 : decode cX7_feud 76 = .ok (.iconst 0, 1) := by decide +kernel
theorem dX7_feud_77 : decode cX7_feud 77 = .ok (.istore 6, 2) := by decide +kernel
theorem dX7_feud_79 : decode cX7_feud 79 = .ok (.iload 6, 2) := by decide +kernel
theorem dX7_feud_81 : decode cX7_feud 81 = .ok (.aload_n 0, 1) := by decide +kernel
theorem dX7_feud_82 : decode cX7_feud 82 = .ok (.getfield 7, 3) := by decide +kernel
theorem dX7_feud_85 : decode cX7_feud 85 = .ok (.iconst 1, 1) := by decide +kernel
theorem dX7_feud_86 : decode cX7_feud 86 = .ok (.iaload, 1) := by decide +kernel
theorem dX7_feud_87 : decode cX7_feud 87 = .ok (.if_icmp .ge 81, 3) := by decide +kernel
theorem dX7_feud_90 : decode cX7_feud 90 = .ok (.aload_n 0, 1) := by decide +kernel
theorem dX7_feud_91 : decode cX7_feud 91 = .ok (.iload 6, 2) := by decide +kernel
theorem dX7_feud_93 : decode cX7_feud 93 = .ok (.iload_n 1, 1) := by decide +kernel
theorem dX7_feud_94 : decode cX7_feud 94 = .ok (.iload_n 2, 1) := by decide +kernel
theorem dX7_feud_95 : decode cX7_feud 95 = .ok (.invokevirtual 81, 3) := by decide +kernel
theorem dX7_feud_98 : decode cX7_feud 98 = .ok (.istore 7, 2) := by decide +kernel
theorem dX7_feud_100 : decode cX7_feud 100 = .ok (.iconst 0, 1) := by decide +kernel
theorem dX7_feud_101 : decode cX7_feud 101 = .ok (.istore 8, 2) := by decide +kernel
theorem dX7_feud_103 : decode cX7_feud 103 = .ok (.iload 8, 2) := by decide +kernel
theorem dX7_feud_105 : decode cX7_feud 105 = .ok (.aload_n 0, 1) := by decide +kernel
theorem dX7_feud_106 : decode cX7_feud 106 = .ok (.getfield 7, 3) := by decide +kernel
theorem dX7_feud_109 : decode cX7_feud 109 = .ok (.iconst 0, 1) := by decide +kernel
theorem dX7_feud_110 : decode cX7_feud 110 = .ok (.iaload, 1) := by decide +kernel
theorem dX7_feud_111 : decode cX7_feud 111 = .ok (.if_icmp .ge 51, 3) := by decide +kernel
theorem dX7_feud_114 : decode cX7_feud 114 = .ok (.iload 7, 2) := by decide +kernel
theorem dX7_feud_116 : decode cX7_feud 116 = .ok (.iconst (-1), 1) := by decide +kernel
theorem dX7_feud_117 : decode cX7_feud 117 = .ok (.if_icmp .eq 45, 3) := by decide +kernel
theorem dX7_feud_120 : decode cX7_feud 120 = .ok (.aload_n 0, 1) := by decide +kernel
theorem dX7_feud_121 : decode cX7_feud 121 = .ok (.iconst 0, 1) := by decide +kernel
theorem dX7_feud_122 : decode cX7_feud 122 = .ok (.iload 8, 2) := by decide +kernel
theorem dX7_feud_124 : decode cX7_feud 124 = .ok (.iconst 3, 1) := by decide +kernel
theorem dX7_feud_125 : decode cX7_feud 125 = .ok (.invokevirtual 31, 3) := by decide +kernel
theorem dX7_feud_128 : decode cX7_feud 128 = .ok (.iload 6, 2) := by decide +kernel
theorem dX7_feud_130 : decode cX7_feud 130 = .ok (.if_icmp .ne 26, 3) := by decide +kernel
theorem dX7_feud_133 : decode cX7_feud 133 = .ok (.aload_n 0, 1) := by decide +kernel
theorem dX7_feud_134 : decode cX7_feud 134 = .ok (.iconst 0, 1) := by decide +kernel
theorem dX7_feud_135 : decode cX7_feud 135 = .ok (.iload 8, 2) := by decide +kernel
theorem dX7_feud_137 : decode cX7_feud 137 = .ok (.iconst 0, 1) := by decide +kernel
theorem dX7_feud_138 : decode cX7_feud 138 = .ok (.invokevirtual 31, 3) := by decide +kernel
theorem dX7_feud_141 : decode cX7_feud 141 = .ok (.iload 7, 2) := by decide +kernel
theorem dX7_feud_143 : decode cX7_feud 143 = .ok (.if_icmp .ne 13, 3) := by decide +kernel
theorem dX7_feud_146 : decode cX7_feud 146 = .ok (.aload_n 0, 1) := by decide +kernel
theorem dX7_feud_147 : decode cX7_feud 147 = .ok (.iconst 0, 1) := by decide +kernel
theorem dX7_feud_148 : decode cX7_feud 148 = .ok (.iload 8, 2) := by decide +kernel
theorem dX7_feud_150 : decode cX7_feud 150 = .ok (.invokevirtual 68, 3) := by decide +kernel
theorem dX7_feud_153 : decode cX7_feud 153 = .ok (.iinc 5 1, 3) := by decide +kernel
theorem dX7_feud_156 : decode cX7_feud 156 = .ok (.iinc 8 1, 3) := by decide +kernel
theorem dX7_feud_159 : decode cX7_feud 159 = .ok (.goto (-56), 3) := by decide +kernel
theorem dX7_feud_162 : decode cX7_feud 162 = .ok (.iinc 6 1, 3) := by decide +kernel
theorem dX7_feud_165 : decode cX7_feud 165 = .ok (.goto (-86), 3) := by decide +kernel
theorem dX7_feud_168 : decode cX7_feud 168 = .ok (.aload_n 0, 1) := by decide +kernel
theorem dX7_feud_169 : decode cX7_feud 169 = .ok (.getfield 7, 3) := by decide +kernel
theorem dX7_feud_172 : decode cX7_feud 172 = .ok (.bipush 10, 2) := by decide +kernel
theorem dX7_feud_174 : decode cX7_feud 174 = .ok (.aload_n 0, 1) := by decide +kernel
theorem dX7_feud_175 : decode cX7_feud 175 = .ok (.getfield 7, 3) := by decide +kernel
theorem dX7_feud_178 : decode cX7_feud 178 = .ok (.iconst 2, 1) := by decide +kernel
theorem dX7_feud_179 : decode cX7_feud 179 = .ok (.iaload, 1) := by decide +kernel
theorem dX7_feud_180 : decode cX7_feud 180 = .ok (.iadd, 1) := by decide +kernel
theorem dX7_feud_181 : decode cX7_feud 181 = .ok (.iload_n 1, 1) := by decide +kernel
theorem dX7_feud_182 : decode cX7_feud 182 = .ok (.iload_n 2, 1) := by decide +kernel
theorem dX7_feud_183 : decode cX7_feud 183 = .ok (.invokestatic 41, 3) := by decide +kernel
theorem dX7_feud_186 : decode cX7_feud 186 = .ok (.iastore, 1) := by decide +kernel
theorem dX7_feud_187 : decode cX7_feud 187 = .ok (.aload_n 0, 1) := by decide +kernel
theorem dX7_feud_188 : decode cX7_feud 188 = .ok (.getfield 7, 3) := by decide +kernel
theorem dX7_feud_191 : decode cX7_feud 191 = .ok (.iconst 2, 1) := by decide +kernel
theorem dX7_feud_192 : decode cX7_feud 192 = .ok (.dup2, 1) := by decide +kernel
theorem dX7_feud_193 : decode cX7_feud 193 = .ok (.iaload, 1) := by decide +kernel
theorem dX7_feud_194 : decode cX7_feud 194 = .ok (.iconst 1, 1) := by decide +kernel
theorem dX7_feud_195 : decode cX7_feud 195 = .ok (.iadd, 1) := by decide +kernel
theorem dX7_feud_196 : decode cX7_feud 196 = .ok (.iastore, 1) := by decide +kernel
theorem dX7_feud_197 : decode cX7_feud 197 = .ok (.iload 5, 2) := by decide +kernel
theorem dX7_feud_199 : decode cX7_feud 199 = .ok (.ireturn, 1) := by decide +kernel
theorem dX7_peace_0 : decode cX7_peace 0 = .ok (.iload_n 1, 1) := by decide +kernel
theorem dX7_peace_1 : decode cX7_peace 1 = .ok (.iload_n 2, 1) := by decide +kernel
theorem dX7_peace_2 : decode cX7_peace 2 = .ok (.invokestatic 99, 3) := by decide +kernel
theorem dX7_peace_5 : decode cX7_peace 5 = .ok (.istore_n 3, 1) := by decide +kernel
theorem dX7_peace_6 : decode cX7_peace 6 = .ok (.iload_n 3, 1) := by decide +kernel
theorem dX7_peace_7 : decode cX7_peace 7 = .ok (.ifCond .eq 16, 3) := by decide +kernel
theorem dX7_peace_10 : decode cX7_peace 10 = .ok (.aload_n 0, 1) := by decide +kernel
theorem dX7_peace_11 : decode cX7_peace 11 = .ok (.iconst 0, 1) := by decide +kernel
theorem dX7_peace_12 : decode cX7_peace 12 = .ok (.iload_n 1, 1) := by decide +kernel
theorem dX7_peace_13 : decode cX7_peace 13 = .ok (.iload_n 2, 1) := by decide +kernel
theorem dX7_peace_14 : decode cX7_peace 14 = .ok (.invokestatic 41, 3) := by decide +kernel
theorem dX7_peace_17 : decode cX7_peace 17 = .ok (.invokevirtual 45, 3) := by decide +kernel
theorem dX7_peace_20 : decode cX7_peace 20 = .ok (.goto 4, 3) := by decide +kernel
theorem dX7_peace_23 : decode cX7_peace 23 = .ok (.iconst (-1), 1) := by decide +kernel
theorem dX7_peace_24 : decode cX7_peace 24 = .ok (.istore 4, 2) := by decide +kernel
theorem dX7_peace_26 : decode cX7_peace 26 = .ok (.aload_n 0, 1) := by decide +kernel
theorem dX7_peace_27 : decode cX7_peace 27 = .ok (.iload_n 3, 1) := by decide +kernel
theorem dX7_peace_28 : decode cX7_peace 28 = .ok (.ifCond .ne 7, 3) := by decide +kernel
theorem dX7_peace_31 : decode cX7_peace 31 = .ok (.iconst 1, 1) := by decide +kernel
theorem dX7_peace_32 : decode cX7_peace 32 = .ok (.goto 14, 3) := by decide +kernel
theorem dX7_peace_35 : decode cX7_peace 35 = .ok (.iload 4, 2) := by decide +kernel
theorem dX7_peace_37 : decode cX7_peace 37 = .ok (.iconst (-1), 1) := by decide +kernel
theorem dX7_peace_38 : decode cX7_peace 38 = .ok (.if_icmp .ne 7, 3) := by decide +kernel
theorem dX7_peace_41 : decode cX7_peace 41 = .ok (.iconst 2, 1) := by decide +kernel
theorem dX7_peace_42 : decode cX7_peace 42 = .ok (.goto 4, 3) := by decide +kernel
theorem dX7_peace_45 : decode cX7_peace 45 = .ok (.iconst 0, 1) := by decide +kernel
theorem dX7_peace_46 : decode cX7_peace 46 = .ok (.invokevirtual 90, 3) := by decide +kernel
theorem dX7_peace_49 : decode cX7_peace 49 = .ok (.ifCond .ne 5, 3) := by decide +kernel
theorem dX7_peace_52 : decode cX7_peace 52 = .ok (.iconst 0, 1) := by decide +kernel
theorem dX7_peace_53 : decode cX7_peace 53 = .ok (.ireturn, 1) := by decide +kernel
theorem dX7_peace_54 : decode cX7_peace 54 = .ok (.aload_n 0, 1) := by decide +kernel
theorem dX7_peace_55 : decode cX7_peace 55 = .ok (.invokevirtual 93, 3) := by decide +kernel
theorem dX7_peace_58 : decode cX7_peace 58 = .ok (.aload_n 0, 1) := by decide +kernel
theorem dX7_peace_59 : decode cX7_peace 59 = .ok (.getfield 7, 3) := by decide +kernel
theorem dX7_peace_62 : decode cX7_peace 62 = .ok (.iconst 2, 1) := by decide +kernel
theorem dX7_peace_63 : decode cX7_peace 63 = .ok (.dup2, 1) := by decide +kernel
theorem dX7_peace_64 : decode cX7_peace 64 = .ok (.iaload, 1) := by decide +kernel
theorem dX7_peace_65 : decode cX7_peace 65 = .ok (.iconst 1, 1) := by decide +kernel
theorem dX7_peace_66 : decode cX7_peace 66 = .ok (.isub, 1) := by decide +kernel
theorem dX7_peace_67 : decode cX7_peace 67 = .ok (.iastore, 1) := by decide +kernel
theorem dX7_peace_68 : decode cX7_peace 68 = .ok (.iload 4, 2) := by decide +kernel
theorem dX7_peace_70 : decode cX7_peace 70 = .ok (.istore 5, 2) := by decide +kernel
theorem dX7_peace_72 : decode cX7_peace 72 = .ok (.iload 5, 2) := by decide +kernel
theorem dX7_peace_74 : decode cX7_peace 74 = .ok (.aload_n 0, 1) := by decide +kernel
theorem dX7_peace_75 : decode cX7_peace 75 = .ok (.getfield 7, 3) := by decide +kernel
theorem dX7_peace_78 : decode cX7_peace 78 = .ok (.iconst 2, 1) := by decide +kernel
theorem dX7_peace_79 : decode cX7_peace 79 = .ok (.iaload, 1) := by decide +kernel
theorem dX7_peace_80 : decode cX7_peace 80 = .ok (.if_icmp .ge 31, 3) := by decide +kernel
theorem dX7_peace_83 : decode cX7_peace 83 = .ok (.aload_n 0, 1) := by decide +kernel
theorem dX7_peace_84 : decode cX7_peace 84 = .ok (.getfield 7, 3) := by decide +kernel
theorem dX7_peace_87 : decode cX7_peace 87 = .ok (.bipush 10, 2) := by decide +kernel
theorem dX7_peace_89 : decode cX7_peace 89 = .ok (.iload 5, 2) := by decide +kernel
theorem dX7_peace_91 : decode cX7_peace 91 = .ok (.iadd, 1) := by decide +kernel
theorem dX7_peace_92 : decode cX7_peace 92 = .ok (.aload_n 0, 1) := by decide +kernel
theorem dX7_peace_93 : decode cX7_peace 93 = .ok (.getfield 7, 3) := by decide +kernel
theorem dX7_peace_96 : decode cX7_peace 96 = .ok (.bipush 10, 2) := by decide +kernel
theorem dX7_peace_98 : decode cX7_peace 98 = .ok (.iload 5, 2) := by decide +kernel
theorem dX7_peace_100 : decode cX7_peace 100 = .ok (.iadd, 1) := by decide +kernel
theorem dX7_peace_101 : decode cX7_peace 101 = .ok (.iconst 1, 1) := by decide +kernel
theorem dX7_peace_102 : decode cX7_peace 102 = .ok (.iadd, 1) := by decide +kernel
theorem dX7_peace_103 : decode cX7_peace 103 = .ok (.iaload, 1) := by decide +kernel
theorem dX7_peace_104 : decode cX7_peace 104 = .ok (.iastore, 1) := by decide +kernel
theorem dX7_peace_105 : decode cX7_peace 105 = .ok (.iinc 5 1, 3) := by decide +kernel
theorem dX7_peace_108 : decode cX7_peace 108 = .ok (.goto (-36), 3) := by decide +kernel
theorem dX7_peace_111 : decode cX7_peace 111 = .ok (.aload_n 0, 1) := by decide +kernel
theorem dX7_peace_112 : decode cX7_peace 112 = .ok (.getfield 7, 3) := by decide +kernel
theorem dX7_peace_115 : decode cX7_peace 115 = .ok (.iconst 2, 1) := by decide +kernel
theorem dX7_peace_116 : decode cX7_peace 116 = .ok (.iaload, 1) := by decide +kernel
theorem dX7_peace_117 : decode cX7_peace 117 = .ok (.ireturn, 1) := by decide +kernel
theorem dX7_mostOf_0 : decode cX7_mostOf 0 = .ok (.iload_n 0, 1) := by decide +kernel
theorem dX7_mostOf_1 : decode cX7_mostOf 1 = .ok (.ifCond .ne 8, 3) := by decide +kernel
theorem dX7_mostOf_4 : decode cX7_mostOf 4 = .ok (.bipush 8, 2) := by decide +kernel
theorem dX7_mostOf_6 : decode cX7_mostOf 6 = .ok (.goto 15, 3) := by decide +kernel
theorem dX7_mostOf_9 : decode cX7_mostOf 9 = .ok (.iload_n 0, 1) := by decide +kernel
theorem dX7_mostOf_10 : decode cX7_mostOf 10 = .ok (.iconst 3, 1) := by decide +kernel
theorem dX7_mostOf_11 : decode cX7_mostOf 11 = .ok (.if_icmp .ne 8, 3) := by decide +kernel
theorem dX7_mostOf_14 : decode cX7_mostOf 14 = .ok (.bipush 9, 2) := by decide +kernel
theorem dX7_mostOf_16 : decode cX7_mostOf 16 = .ok (.goto 5, 3) := by decide +kernel
theorem dX7_mostOf_19 : decode cX7_mostOf 19 = .ok (.bipush 20, 2) := by decide +kernel
theorem dX7_mostOf_21 : decode cX7_mostOf 21 = .ok (.ireturn, 1) := by decide +kernel
theorem dX7_set_0 : decode cX7_set 0 = .ok (.aload_n 0, 1) := by decide +kernel
theorem dX7_set_1 : decode cX7_set 1 = .ok (.iload_n 1, 1) := by decide +kernel
theorem dX7_set_2 : decode cX7_set 2 = .ok (.iconst 0, 1) := by decide +kernel
theorem dX7_set_3 : decode cX7_set 3 = .ok (.iconst 3, 1) := by decide +kernel
theorem dX7_set_4 : decode cX7_set 4 = .ok (.invokestatic 20, 3) := by decide +kernel
theorem dX7_set_7 : decode cX7_set 7 = .ok (.ifCond .ne 7, 3) := by decide +kernel
theorem dX7_set_10 : decode cX7_set 10 = .ok (.iconst 1, 1) := by decide +kernel
theorem dX7_set_11 : decode cX7_set 11 = .ok (.goto 28, 3) := by decide +kernel
theorem dX7_set_14 : decode cX7_set 14 = .ok (.iload_n 2, 1) := by decide +kernel
theorem dX7_set_15 : decode cX7_set 15 = .ok (.iload_n 1, 1) := by decide +kernel
theorem dX7_set_16 : decode cX7_set 16 = .ok (.ifCond .ne 7, 3) := by decide +kernel
theorem dX7_set_19 : decode cX7_set 19 = .ok (.iconst 1, 1) := by decide +kernel
theorem dX7_set_20 : decode cX7_set 20 = .ok (.goto 4, 3) := by decide +kernel
theorem dX7_set_23 : decode cX7_set 23 = .ok (.iconst 0, 1) := by decide +kernel
theorem dX7_set_24 : decode cX7_set 24 = .ok (.iload_n 1, 1) := by decide +kernel
theorem dX7_set_25 : decode cX7_set 25 = .ok (.invokestatic 103, 3) := by decide +kernel
theorem dX7_set_28 : decode cX7_set 28 = .ok (.invokestatic 20, 3) := by decide +kernel
theorem dX7_set_31 : decode cX7_set 31 = .ok (.ifCond .ne 7, 3) := by decide +kernel
theorem dX7_set_34 : decode cX7_set 34 = .ok (.iconst 2, 1) := by decide +kernel
theorem dX7_set_35 : decode cX7_set 35 = .ok (.goto 4, 3) := by decide +kernel
theorem dX7_set_38 : decode cX7_set 38 = .ok (.iconst 0, 1) := by decide +kernel
theorem dX7_set_39 : decode cX7_set 39 = .ok (.invokevirtual 90, 3) := by decide +kernel
theorem dX7_set_42 : decode cX7_set 42 = .ok (.ifCond .ne 5, 3) := by decide +kernel
theorem dX7_set_45 : decode cX7_set 45 = .ok (.iconst 0, 1) := by decide +kernel
theorem dX7_set_46 : decode cX7_set 46 = .ok (.ireturn, 1) := by decide +kernel
theorem dX7_set_47 : decode cX7_set 47 = .ok (.aload_n 0, 1) := by decide +kernel
theorem dX7_set_48 : decode cX7_set 48 = .ok (.invokevirtual 93, 3) := by decide +kernel
theorem dX7_set_51 : decode cX7_set 51 = .ok (.aload_n 0, 1) := by decide +kernel
theorem dX7_set_52 : decode cX7_set 52 = .ok (.getfield 7, 3) := by decide +kernel
theorem dX7_set_55 : decode cX7_set 55 = .ok (.bipush 6, 2) := by decide +kernel
theorem dX7_set_57 : decode cX7_set 57 = .ok (.iload_n 1, 1) := by decide +kernel
theorem dX7_set_58 : decode cX7_set 58 = .ok (.iadd, 1) := by decide +kernel
theorem dX7_set_59 : decode cX7_set 59 = .ok (.iaload, 1) := by decide +kernel
theorem dX7_set_60 : decode cX7_set 60 = .ok (.istore_n 3, 1) := by decide +kernel
theorem dX7_set_61 : decode cX7_set 61 = .ok (.aload_n 0, 1) := by decide +kernel
theorem dX7_set_62 : decode cX7_set 62 = .ok (.getfield 7, 3) := by decide +kernel
theorem dX7_set_65 : decode cX7_set 65 = .ok (.bipush 6, 2) := by decide +kernel
theorem dX7_set_67 : decode cX7_set 67 = .ok (.iload_n 1, 1) := by decide +kernel
theorem dX7_set_68 : decode cX7_set 68 = .ok (.iadd, 1) := by decide +kernel
theorem dX7_set_69 : decode cX7_set 69 = .ok (.iload_n 2, 1) := by decide +kernel
theorem dX7_set_70 : decode cX7_set 70 = .ok (.iastore, 1) := by decide +kernel
theorem dX7_set_71 : decode cX7_set 71 = .ok (.iload_n 3, 1) := by decide +kernel
theorem dX7_set_72 : decode cX7_set 72 = .ok (.ireturn, 1) := by decide +kernel
theorem dX7_sit_0 : decode cX7_sit 0 = .ok (.aload_n 0, 1) := by decide +kernel
theorem dX7_sit_1 : decode cX7_sit 1 = .ok (.iload_n 1, 1) := by decide +kernel
theorem dX7_sit_2 : decode cX7_sit 2 = .ok (.invokevirtual 96, 3) := by decide +kernel
theorem dX7_sit_5 : decode cX7_sit 5 = .ok (.ifCond .eq 16, 3) := by decide +kernel
theorem dX7_sit_8 : decode cX7_sit 8 = .ok (.aload_n 0, 1) := by decide +kernel
theorem dX7_sit_9 : decode cX7_sit 9 = .ok (.iload_n 2, 1) := by decide +kernel
theorem dX7_sit_10 : decode cX7_sit 10 = .ok (.iload_n 3, 1) := by decide +kernel
theorem dX7_sit_11 : decode cX7_sit 11 = .ok (.invokevirtual 107, 3) := by decide +kernel
theorem dX7_sit_14 : decode cX7_sit 14 = .ok (.ifCond .eq 7, 3) := by decide +kernel
theorem dX7_sit_17 : decode cX7_sit 17 = .ok (.iconst 1, 1) := by decide +kernel
theorem dX7_sit_18 : decode cX7_sit 18 = .ok (.goto 4, 3) := by decide +kernel
theorem dX7_sit_21 : decode cX7_sit 21 = .ok (.iconst 0, 1) := by decide +kernel
theorem dX7_sit_22 : decode cX7_sit 22 = .ok (.istore 4, 2) := by decide +kernel
theorem dX7_sit_24 : decode cX7_sit 24 = .ok (.aload_n 0, 1) := by decide +kernel
theorem dX7_sit_25 : decode cX7_sit 25 = .ok (.iload 4, 2) := by decide +kernel
theorem dX7_sit_27 : decode cX7_sit 27 = .ok (.ifCond .ne 7, 3) := by decide +kernel
theorem dX7_sit_30 : decode cX7_sit 30 = .ok (.iconst 1, 1) := by decide +kernel
theorem dX7_sit_31 : decode cX7_sit 31 = .ok (.goto 19, 3) := by decide +kernel
theorem dX7_sit_34 : decode cX7_sit 34 = .ok (.aload_n 0, 1) := by decide +kernel
theorem dX7_sit_35 : decode cX7_sit 35 = .ok (.iconst 0, 1) := by decide +kernel
theorem dX7_sit_36 : decode cX7_sit 36 = .ok (.iload_n 1, 1) := by decide +kernel
theorem dX7_sit_37 : decode cX7_sit 37 = .ok (.iload_n 2, 1) := by decide +kernel
theorem dX7_sit_38 : decode cX7_sit 38 = .ok (.iload_n 3, 1) := by decide +kernel
theorem dX7_sit_39 : decode cX7_sit 39 = .ok (.invokevirtual 61, 3) := by decide +kernel
theorem dX7_sit_42 : decode cX7_sit 42 = .ok (.ifCond .le 7, 3) := by decide +kernel
theorem dX7_sit_45 : decode cX7_sit 45 = .ok (.iconst 2, 1) := by decide +kernel
theorem dX7_sit_46 : decode cX7_sit 46 = .ok (.goto 4, 3) := by decide +kernel
theorem dX7_sit_49 : decode cX7_sit 49 = .ok (.iconst 0, 1) := by decide +kernel
theorem dX7_sit_50 : decode cX7_sit 50 = .ok (.invokevirtual 90, 3) := by decide +kernel
theorem dX7_sit_53 : decode cX7_sit 53 = .ok (.ifCond .ne 5, 3) := by decide +kernel
theorem dX7_sit_56 : decode cX7_sit 56 = .ok (.iconst 0, 1) := by decide +kernel
theorem dX7_sit_57 : decode cX7_sit 57 = .ok (.ireturn, 1) := by decide +kernel
theorem dX7_sit_58 : decode cX7_sit 58 = .ok (.aload_n 0, 1) := by decide +kernel
theorem dX7_sit_59 : decode cX7_sit 59 = .ok (.invokevirtual 93, 3) := by decide +kernel
theorem dX7_sit_62 : decode cX7_sit 62 = .ok (.aload_n 0, 1) := by decide +kernel
theorem dX7_sit_63 : decode cX7_sit 63 = .ok (.iconst 0, 1) := by decide +kernel
theorem dX7_sit_64 : decode cX7_sit 64 = .ok (.iload_n 1, 1) := by decide +kernel
theorem dX7_sit_65 : decode cX7_sit 65 = .ok (.iload_n 2, 1) := by decide +kernel
theorem dX7_sit_66 : decode cX7_sit 66 = .ok (.iload_n 3, 1) := by decide +kernel
theorem dX7_sit_67 : decode cX7_sit 67 = .ok (.invokevirtual 75, 3) := by decide +kernel
theorem dX7_sit_70 : decode cX7_sit 70 = .ok (.aload_n 0, 1) := by decide +kernel
theorem dX7_sit_71 : decode cX7_sit 71 = .ok (.iconst 0, 1) := by decide +kernel
theorem dX7_sit_72 : decode cX7_sit 72 = .ok (.iconst (-1), 1) := by decide +kernel
theorem dX7_sit_73 : decode cX7_sit 73 = .ok (.invokevirtual 58, 3) := by decide +kernel
theorem dX7_sit_76 : decode cX7_sit 76 = .ok (.ireturn, 1) := by decide +kernel
theorem dX7_rise_0 : decode cX7_rise 0 = .ok (.aload_n 0, 1) := by decide +kernel
theorem dX7_rise_1 : decode cX7_rise 1 = .ok (.iload_n 1, 1) := by decide +kernel
theorem dX7_rise_2 : decode cX7_rise 2 = .ok (.invokevirtual 96, 3) := by decide +kernel
theorem dX7_rise_5 : decode cX7_rise 5 = .ok (.istore_n 2, 1) := by decide +kernel
theorem dX7_rise_6 : decode cX7_rise 6 = .ok (.aload_n 0, 1) := by decide +kernel
theorem dX7_rise_7 : decode cX7_rise 7 = .ok (.iload_n 2, 1) := by decide +kernel
theorem dX7_rise_8 : decode cX7_rise 8 = .ok (.ifCond .ne 7, 3) := by decide +kernel
theorem dX7_rise_11 : decode cX7_rise 11 = .ok (.iconst 1, 1) := by decide +kernel
theorem dX7_rise_12 : decode cX7_rise 12 = .ok (.goto 19, 3) := by decide +kernel
theorem dX7_rise_15 : decode cX7_rise 15 = .ok (.aload_n 0, 1) := by decide +kernel
theorem dX7_rise_16 : decode cX7_rise 16 = .ok (.iconst 0, 1) := by decide +kernel
theorem dX7_rise_17 : decode cX7_rise 17 = .ok (.iload_n 1, 1) := by decide +kernel
theorem dX7_rise_18 : decode cX7_rise 18 = .ok (.iconst 3, 1) := by decide +kernel
theorem dX7_rise_19 : decode cX7_rise 19 = .ok (.invokevirtual 31, 3) := by decide +kernel
theorem dX7_rise_22 : decode cX7_rise 22 = .ok (.iconst (-1), 1) := by decide +kernel
theorem dX7_rise_23 : decode cX7_rise 23 = .ok (.if_icmp .ne 7, 3) := by decide +kernel
theorem dX7_rise_26 : decode cX7_rise 26 = .ok (.iconst 2, 1) := by decide +kernel
theorem dX7_rise_27 : decode cX7_rise 27 = .ok (.goto 4, 3) := by decide +kernel
theorem dX7_rise_30 : decode cX7_rise 30 = .ok (.iconst 0, 1) := by decide +kernel
theorem dX7_rise_31 : decode cX7_rise 31 = .ok (.invokevirtual 90, 3) := by decide +kernel
theorem dX7_rise_34 : decode cX7_rise 34 = .ok (.ifCond .ne 5, 3) := by decide +kernel
theorem dX7_rise_37 : decode cX7_rise 37 = .ok (.iconst 0, 1) := by decide +kernel
theorem dX7_rise_38 : decode cX7_rise 38 = .ok (.ireturn, 1) := by decide +kernel
theorem dX7_rise_39 : decode cX7_rise 39 = .ok (.aload_n 0, 1) := by decide +kernel
theorem dX7_rise_40 : decode cX7_rise 40 = .ok (.invokevirtual 93, 3) := by decide +kernel
theorem dX7_rise_43 : decode cX7_rise 43 = .ok (.aload_n 0, 1) := by decide +kernel
theorem dX7_rise_44 : decode cX7_rise 44 = .ok (.iconst 0, 1) := by decide +kernel
theorem dX7_rise_45 : decode cX7_rise 45 = .ok (.iload_n 1, 1) := by decide +kernel
theorem dX7_rise_46 : decode cX7_rise 46 = .ok (.invokevirtual 68, 3) := by decide +kernel
theorem dX7_rise_49 : decode cX7_rise 49 = .ok (.aload_n 0, 1) := by decide +kernel
theorem dX7_rise_50 : decode cX7_rise 50 = .ok (.iconst 0, 1) := by decide +kernel
theorem dX7_rise_51 : decode cX7_rise 51 = .ok (.iconst (-1), 1) := by decide +kernel
theorem dX7_rise_52 : decode cX7_rise 52 = .ok (.invokevirtual 58, 3) := by decide +kernel
theorem dX7_rise_55 : decode cX7_rise 55 = .ok (.ireturn, 1) := by decide +kernel
theorem dX7_canSwap_0 : decode cX7_canSwap 0 = .ok (.aload_n 0, 1) := by decide +kernel
theorem dX7_canSwap_1 : decode cX7_canSwap 1 = .ok (.iconst 0, 1) := by decide +kernel
theorem dX7_canSwap_2 : decode cX7_canSwap 2 = .ok (.iload_n 1, 1) := by decide +kernel
theorem dX7_canSwap_3 : decode cX7_canSwap 3 = .ok (.iconst 3, 1) := by decide +kernel
theorem dX7_canSwap_4 : decode cX7_canSwap 4 = .ok (.invokevirtual 31, 3) := by decide +kernel
theorem dX7_canSwap_7 : decode cX7_canSwap 7 = .ok (.istore_n 3, 1) := by decide +kernel
theorem dX7_canSwap_8 : decode cX7_canSwap 8 = .ok (.aload_n 0, 1) := by decide +kernel
theorem dX7_canSwap_9 : decode cX7_canSwap 9 = .ok (.iconst 0, 1) := by decide +kernel
theorem dX7_canSwap_10 : decode cX7_canSwap 10 = .ok (.iload_n 1, 1) := by decide +kernel
theorem dX7_canSwap_11 : decode cX7_canSwap 11 = .ok (.iconst 4, 1) := by decide +kernel
theorem dX7_canSwap_12 : decode cX7_canSwap 12 = .ok (.invokevirtual 31, 3) := by decide +kernel
theorem dX7_canSwap_15 : decode cX7_canSwap 15 = .ok (.istore 4, 2) := by decide +kernel
theorem dX7_canSwap_17 : decode cX7_canSwap 17 = .ok (.aload_n 0, 1) := by decide +kernel
theorem dX7_canSwap_18 : decode cX7_canSwap 18 = .ok (.iconst 0, 1) := by decide +kernel
theorem dX7_canSwap_19 : decode cX7_canSwap 19 = .ok (.iload_n 2, 1) := by decide +kernel
theorem dX7_canSwap_20 : decode cX7_canSwap 20 = .ok (.iconst 3, 1) := by decide +kernel
theorem dX7_canSwap_21 : decode cX7_canSwap 21 = .ok (.invokevirtual 31, 3) := by decide +kernel
theorem dX7_canSwap_24 : decode cX7_canSwap 24 = .ok (.istore 5, 2) := by decide +kernel
theorem dX7_canSwap_26 : decode cX7_canSwap 26 = .ok (.aload_n 0, 1) := by decide +kernel
theorem dX7_canSwap_27 : decode cX7_canSwap 27 = .ok (.iconst 0, 1) := by decide +kernel
theorem dX7_canSwap_28 : decode cX7_canSwap 28 = .ok (.iload_n 2, 1) := by decide +kernel
theorem dX7_canSwap_29 : decode cX7_canSwap 29 = .ok (.iconst 4, 1) := by decide +kernel
theorem dX7_canSwap_30 : decode cX7_canSwap 30 = .ok (.invokevirtual 31, 3) := by decide +kernel
theorem dX7_canSwap_33 : decode cX7_canSwap 33 = .ok (.istore 6, 2) := by decide +kernel
theorem dX7_canSwap_35 : decode cX7_canSwap 35 = .ok (.aload_n 0, 1) := by decide +kernel
theorem dX7_canSwap_36 : decode cX7_canSwap 36 = .ok (.iconst 0, 1) := by decide +kernel
theorem dX7_canSwap_37 : decode cX7_canSwap 37 = .ok (.bipush 8, 2) := by decide +kernel
theorem dX7_canSwap_39 : decode cX7_canSwap 39 = .ok (.invokevirtual 87, 3) := by decide +kernel
theorem dX7_canSwap_42 : decode cX7_canSwap 42 = .ok (.aload_n 0, 1) := by decide +kernel
theorem dX7_canSwap_43 : decode cX7_canSwap 43 = .ok (.sipush 944, 3) := by decide +kernel
theorem dX7_canSwap_46 : decode cX7_canSwap 46 = .ok (.iload_n 1, 1) := by decide +kernel
theorem dX7_canSwap_47 : decode cX7_canSwap 47 = .ok (.invokevirtual 68, 3) := by decide +kernel
theorem dX7_canSwap_50 : decode cX7_canSwap 50 = .ok (.aload_n 0, 1) := by decide +kernel
theorem dX7_canSwap_51 : decode cX7_canSwap 51 = .ok (.sipush 944, 3) := by decide +kernel
theorem dX7_canSwap_54 : decode cX7_canSwap 54 = .ok (.iload_n 2, 1) := by decide +kernel
theorem dX7_canSwap_55 : decode cX7_canSwap 55 = .ok (.invokevirtual 68, 3) := by decide +kernel
theorem dX7_canSwap_58 : decode cX7_canSwap 58 = .ok (.aload_n 0, 1) := by decide +kernel
theorem dX7_canSwap_59 : decode cX7_canSwap 59 = .ok (.sipush 944, 3) := by decide +kernel
theorem dX7_canSwap_62 : decode cX7_canSwap 62 = .ok (.iload_n 1, 1) := by decide +kernel
theorem dX7_canSwap_63 : decode cX7_canSwap 63 = .ok (.iload 5, 2) := by decide +kernel
theorem dX7_canSwap_65 : decode cX7_canSwap 65 = .ok (.iload 6, 2) := by decide +kernel
theorem dX7_canSwap_67 : decode cX7_canSwap 67 = .ok (.invokevirtual 61, 3) := by decide +kernel
theorem dX7_canSwap_70 : decode cX7_canSwap 70 = .ok (.ifCond .ne 7, 3) := by decide +kernel
theorem dX7_canSwap_73 : decode cX7_canSwap 73 = .ok (.iconst 1, 1) := by decide +kernel
theorem dX7_canSwap_74 : decode cX7_canSwap 74 = .ok (.goto 4, 3) := by decide +kernel
theorem dX7_canSwap_77 : decode cX7_canSwap 77 = .ok (.iconst 0, 1) := by decide +kernel
theorem dX7_canSwap_78 : decode cX7_canSwap 78 = .ok (.istore 7, 2) := by decide +kernel
theorem dX7_canSwap_80 : decode cX7_canSwap 80 = .ok (.aload_n 0, 1) := by decide +kernel
theorem dX7_canSwap_81 : decode cX7_canSwap 81 = .ok (.sipush 944, 3) := by decide +kernel
theorem dX7_canSwap_84 : decode cX7_canSwap 84 = .ok (.iload_n 1, 1) := by decide +kernel
theorem dX7_canSwap_85 : decode cX7_canSwap 85 = .ok (.iload 5, 2) := by decide +kernel
theorem dX7_canSwap_87 : decode cX7_canSwap 87 = .ok (.iload 6, 2) := by decide +kernel
theorem dX7_canSwap_89 : decode cX7_canSwap 89 = .ok (.invokevirtual 75, 3) := by decide +kernel
theorem dX7_canSwap_92 : decode cX7_canSwap 92 = .ok (.iload 7, 2) := by decide +kernel
theorem dX7_canSwap_94 : decode cX7_canSwap 94 = .ok (.ifCond .eq 21, 3) := by decide +kernel
theorem dX7_canSwap_97 : decode cX7_canSwap 97 = .ok (.aload_n 0, 1) := by decide +kernel
theorem dX7_canSwap_98 : decode cX7_canSwap 98 = .ok (.sipush 944, 3) := by decide +kernel
theorem dX7_canSwap_101 : decode cX7_canSwap 101 = .ok (.iload_n 2, 1) := by decide +kernel
theorem dX7_canSwap_102 : decode cX7_canSwap 102 = .ok (.iload_n 3, 1) := by decide +kernel
theorem dX7_canSwap_103 : decode cX7_canSwap 103 = .ok (.iload 4, 2) := by decide +kernel
theorem dX7_canSwap_105 : decode cX7_canSwap 105 = .ok (.invokevirtual 61, 3) := by decide +kernel
theorem dX7_canSwap_108 : decode cX7_canSwap 108 = .ok (.ifCond .ne 7, 3) := by decide +kernel
theorem dX7_canSwap_111 : decode cX7_canSwap 111 = .ok (.iconst 1, 1) := by decide +kernel
theorem dX7_canSwap_112 : decode cX7_canSwap 112 = .ok (.goto 4, 3) := by decide +kernel
theorem dX7_canSwap_115 : decode cX7_canSwap 115 = .ok (.iconst 0, 1) := by decide +kernel
theorem dX7_canSwap_116 : decode cX7_canSwap 116 = .ok (.istore 7, 2) := by decide +kernel
theorem dX7_canSwap_118 : decode cX7_canSwap 118 = .ok (.aload_n 0, 1) := by decide +kernel
theorem dX7_canSwap_119 : decode cX7_canSwap 119 = .ok (.sipush 944, 3) := by decide +kernel
theorem dX7_canSwap_122 : decode cX7_canSwap 122 = .ok (.iload_n 2, 1) := by decide +kernel
theorem dX7_canSwap_123 : decode cX7_canSwap 123 = .ok (.iload_n 3, 1) := by decide +kernel
theorem dX7_canSwap_124 : decode cX7_canSwap 124 = .ok (.iload 4, 2) := by decide +kernel
theorem dX7_canSwap_126 : decode cX7_canSwap 126 = .ok (.invokevirtual 75, 3) := by decide +kernel
theorem dX7_canSwap_129 : decode cX7_canSwap 129 = .ok (.iload 7, 2) := by decide +kernel
theorem dX7_canSwap_131 : decode cX7_canSwap 131 = .ok (.ireturn, 1) := by decide +kernel
theorem dX7_swap_0 : decode cX7_swap 0 = .ok (.aload_n 0, 1) := by decide +kernel
theorem dX7_swap_1 : decode cX7_swap 1 = .ok (.iload_n 1, 1) := by decide +kernel
theorem dX7_swap_2 : decode cX7_swap 2 = .ok (.invokevirtual 96, 3) := by decide +kernel
theorem dX7_swap_5 : decode cX7_swap 5 = .ok (.ifCond .eq 15, 3) := by decide +kernel
theorem dX7_swap_8 : decode cX7_swap 8 = .ok (.aload_n 0, 1) := by decide +kernel
theorem dX7_swap_9 : decode cX7_swap 9 = .ok (.iload_n 2, 1) := by decide +kernel
theorem dX7_swap_10 : decode cX7_swap 10 = .ok (.invokevirtual 96, 3) := by decide +kernel
theorem dX7_swap_13 : decode cX7_swap 13 = .ok (.ifCond .eq 7, 3) := by decide +kernel
theorem dX7_swap_16 : decode cX7_swap 16 = .ok (.iconst 1, 1) := by decide +kernel
theorem dX7_swap_17 : decode cX7_swap 17 = .ok (.goto 4, 3) := by decide +kernel
theorem dX7_swap_20 : decode cX7_swap 20 = .ok (.iconst 0, 1) := by decide +kernel
theorem dX7_swap_21 : decode cX7_swap 21 = .ok (.istore_n 3, 1) := by decide +kernel
theorem dX7_swap_22 : decode cX7_swap 22 = .ok (.iload_n 3, 1) := by decide +kernel
theorem dX7_swap_23 : decode cX7_swap 23 = .ok (.ifCond .eq 43, 3) := by decide +kernel
theorem dX7_swap_26 : decode cX7_swap 26 = .ok (.iload_n 1, 1) := by decide +kernel
theorem dX7_swap_27 : decode cX7_swap 27 = .ok (.iload_n 2, 1) := by decide +kernel
theorem dX7_swap_28 : decode cX7_swap 28 = .ok (.if_icmp .eq 38, 3) := by decide +kernel
theorem dX7_swap_31 : decode cX7_swap 31 = .ok (.aload_n 0, 1) := by decide +kernel
theorem dX7_swap_32 : decode cX7_swap 32 = .ok (.iconst 0, 1) := by decide +kernel
theorem dX7_swap_33 : decode cX7_swap 33 = .ok (.iload_n 1, 1) := by decide +kernel
theorem dX7_swap_34 : decode cX7_swap 34 = .ok (.iconst 3, 1) := by decide +kernel
theorem dX7_swap_35 : decode cX7_swap 35 = .ok (.invokevirtual 31, 3) := by decide +kernel
theorem dX7_swap_38 : decode cX7_swap 38 = .ok (.iconst (-1), 1) := by decide +kernel
theorem dX7_swap_39 : decode cX7_swap 39 = .ok (.if_icmp .eq 27, 3) := by decide +kernel
theorem dX7_swap_42 : decode cX7_swap 42 = .ok (.aload_n 0, 1) := by decide +kernel
theorem dX7_swap_43 : decode cX7_swap 43 = .ok (.iconst 0, 1) := by decide +kernel
theorem dX7_swap_44 : decode cX7_swap 44 = .ok (.iload_n 2, 1) := by decide +kernel
theorem dX7_swap_45 : decode cX7_swap 45 = .ok (.iconst 3, 1) := by decide +kernel
theorem dX7_swap_46 : decode cX7_swap 46 = .ok (.invokevirtual 31, 3) := by decide +kernel
theorem dX7_swap_49 : decode cX7_swap 49 = .ok (.iconst (-1), 1) := by decide +kernel
theorem dX7_swap_50 : decode cX7_swap 50 = .ok (.if_icmp .eq 16, 3) := by decide +kernel
theorem dX7_swap_53 : decode cX7_swap 53 = .ok (.aload_n 0, 1) := by decide +kernel
theorem dX7_swap_54 : decode cX7_swap 54 = .ok (.iload_n 1, 1) := by decide +kernel
theorem dX7_swap_55 : decode cX7_swap 55 = .ok (.iload_n 2, 1) := by decide +kernel
theorem dX7_swap_56 : decode cX7_swap 56 = .ok (.invokevirtual 110, 3) := by decide +kernel
theorem dX7_swap_59 : decode cX7_swap 59 = .ok (.ifCond .eq 7, 3) := by decide +kernel
theorem dX7_swap_62 : decode cX7_swap 62 = .ok (.iconst 1, 1) := by decide +kernel
theorem dX7_swap_63 : decode cX7_swap 63 = .ok (.goto 4, 3) := by decide +kernel
theorem dX7_swap_66 : decode cX7_swap 66 = .ok (.iconst 0, 1) := by decide +kernel
theorem dX7_swap_67 : decode cX7_swap 67 = .ok (.istore 4, 2) := by decide +kernel
theorem dX7_swap_69 : decode cX7_swap 69 = .ok (.aload_n 0, 1) := by decide +kernel
theorem dX7_swap_70 : decode cX7_swap 70 = .ok (.iload_n 3, 1) := by decide +kernel
theorem dX7_swap_71 : decode cX7_swap 71 = .ok (.ifCond .ne 7, 3) := by decide +kernel
theorem dX7_swap_74 : decode cX7_swap 74 = .ok (.iconst 1, 1) := by decide +kernel
theorem dX7_swap_75 : decode cX7_swap 75 = .ok (.goto 22, 3) := by decide +kernel
theorem dX7_swap_78 : decode cX7_swap 78 = .ok (.iload_n 1, 1) := by decide +kernel
theorem dX7_swap_79 : decode cX7_swap 79 = .ok (.iload_n 2, 1) := by decide +kernel
theorem dX7_swap_80 : decode cX7_swap 80 = .ok (.if_icmp .ne 7, 3) := by decide +kernel
theorem dX7_swap_83 : decode cX7_swap 83 = .ok (.iconst 2, 1) := by decide +kernel
theorem dX7_swap_84 : decode cX7_swap 84 = .ok (.goto 13, 3) := by decide +kernel
theorem dX7_swap_87 : decode cX7_swap 87 = .ok (.iload 4, 2) := by decide +kernel
theorem dX7_swap_89 : decode cX7_swap 89 = .ok (.ifCond .ne 7, 3) := by decide +kernel
theorem dX7_swap_92 : decode cX7_swap 92 = .ok (.iconst 3, 1) := by decide +kernel
theorem dX7_swap_93 : decode cX7_swap 93 = .ok (.goto 4, 3) := by decide +kernel
theorem dX7_swap_96 : decode cX7_swap 96 = .ok (.iconst 0, 1) := by decide +kernel
theorem dX7_swap_97 : decode cX7_swap 97 = .ok (.invokevirtual 90, 3) := by decide +kernel
theorem dX7_swap_100 : decode cX7_swap 100 = .ok (.ifCond .ne 5, 3) := by decide +kernel
theorem dX7_swap_103 : decode cX7_swap 103 = .ok (.iconst 0, 1) := by decide +kernel
theorem dX7_swap_104 : decode cX7_swap 104 = .ok (.ireturn, 1) := by decide +kernel
theorem dX7_swap_105 : decode cX7_swap 105 = .ok (.aload_n 0, 1) := by decide +kernel
theorem dX7_swap_106 : decode cX7_swap 106 = .ok (.invokevirtual 93, 3) := by decide +kernel
theorem dX7_swap_109 : decode cX7_swap 109 = .ok (.aload_n 0, 1) := by decide +kernel
theorem dX7_swap_110 : decode cX7_swap 110 = .ok (.bipush 8, 2) := by decide +kernel
theorem dX7_swap_112 : decode cX7_swap 112 = .ok (.iconst 0, 1) := by decide +kernel
theorem dX7_swap_113 : decode cX7_swap 113 = .ok (.invokevirtual 87, 3) := by decide +kernel
theorem dX7_swap_116 : decode cX7_swap 116 = .ok (.aload_n 0, 1) := by decide +kernel
theorem dX7_swap_117 : decode cX7_swap 117 = .ok (.iconst 0, 1) := by decide +kernel
theorem dX7_swap_118 : decode cX7_swap 118 = .ok (.iconst (-1), 1) := by decide +kernel
theorem dX7_swap_119 : decode cX7_swap 119 = .ok (.invokevirtual 58, 3) := by decide +kernel
theorem dX7_swap_122 : decode cX7_swap 122 = .ok (.ireturn, 1) := by decide +kernel
theorem dX7_seatAll_0 : decode cX7_seatAll 0 = .ok (.aload_n 0, 1) := by decide +kernel
theorem dX7_seatAll_1 : decode cX7_seatAll 1 = .ok (.iconst 0, 1) := by decide +kernel
theorem dX7_seatAll_2 : decode cX7_seatAll 2 = .ok (.putfield 16, 3) := by decide +kernel
theorem dX7_seatAll_5 : decode cX7_seatAll 5 = .ok (.aload_n 0, 1) := by decide +kernel
theorem dX7_seatAll_6 : decode cX7_seatAll 6 = .ok (.invokevirtual 93, 3) := by decide +kernel
theorem dX7_seatAll_9 : decode cX7_seatAll 9 = .ok (.aload_n 0, 1) := by decide +kernel
theorem dX7_seatAll_10 : decode cX7_seatAll 10 = .ok (.iconst 0, 1) := by decide +kernel
theorem dX7_seatAll_11 : decode cX7_seatAll 11 = .ok (.invokevirtual 113, 3) := by decide +kernel
theorem dX7_seatAll_14 : decode cX7_seatAll 14 = .ok (.ireturn, 1) := by decide +kernel
theorem dX7_append_0 : decode cX7_append 0 = .ok (.aload_n 0, 1) := by decide +kernel
theorem dX7_append_1 : decode cX7_append 1 = .ok (.iload_n 1, 1) := by decide +kernel
theorem dX7_append_2 : decode cX7_append 2 = .ok (.bipush 33, 2) := by decide +kernel
theorem dX7_append_4 : decode cX7_append 4 = .ok (.bipush 126, 2) := by decide +kernel
theorem dX7_append_6 : decode cX7_append 6 = .ok (.invokestatic 20, 3) := by decide +kernel
theorem dX7_append_9 : decode cX7_append 9 = .ok (.ifCond .ne 7, 3) := by decide +kernel
theorem dX7_append_12 : decode cX7_append 12 = .ok (.iconst 1, 1) := by decide +kernel
theorem dX7_append_13 : decode cX7_append 13 = .ok (.goto 17, 3) := by decide +kernel
theorem dX7_append_16 : decode cX7_append 16 = .ok (.aload_n 0, 1) := by decide +kernel
theorem dX7_append_17 : decode cX7_append 17 = .ok (.getfield 116, 3) := by decide +kernel
theorem dX7_append_20 : decode cX7_append 20 = .ok (.bipush 60, 2) := by decide +kernel
theorem dX7_append_22 : decode cX7_append 22 = .ok (.if_icmp .ne 7, 3) := by decide +kernel
theorem dX7_append_25 : decode cX7_append 25 = .ok (.iconst 2, 1) := by decide +kernel
theorem dX7_append_26 : decode cX7_append 26 = .ok (.goto 4, 3) := by decide +kernel
theorem dX7_append_29 : decode cX7_append 29 = .ok (.iconst 0, 1) := by decide +kernel
theorem dX7_append_30 : decode cX7_append 30 = .ok (.invokevirtual 90, 3) := by decide +kernel
theorem dX7_append_33 : decode cX7_append 33 = .ok (.ifCond .ne 5, 3) := by decide +kernel
theorem dX7_append_36 : decode cX7_append 36 = .ok (.iconst 0, 1) := by decide +kernel
theorem dX7_append_37 : decode cX7_append 37 = .ok (.ireturn, 1) := by decide +kernel
theorem dX7_append_38 : decode cX7_append 38 = .ok (.aload_n 0, 1) := by decide +kernel
theorem dX7_append_39 : decode cX7_append 39 = .ok (.getfield 13, 3) := by decide +kernel
theorem dX7_append_42 : decode cX7_append 42 = .ok (.aload_n 0, 1) := by decide +kernel
theorem dX7_append_43 : decode cX7_append 43 = .ok (.getfield 116, 3) := by decide +kernel
theorem dX7_append_46 : decode cX7_append 46 = .ok (.iload_n 1, 1) := by decide +kernel
theorem dX7_append_47 : decode cX7_append 47 = .ok (.iastore, 1) := by decide +kernel
theorem dX7_append_48 : decode cX7_append 48 = .ok (.aload_n 0, 1) := by decide +kernel
theorem dX7_append_49 : decode cX7_append 49 = .ok (.dup, 1) := by decide +kernel
theorem dX7_append_50 : decode cX7_append 50 = .ok (.getfield 116, 3) := by decide +kernel
theorem dX7_append_53 : decode cX7_append 53 = .ok (.iconst 1, 1) := by decide +kernel
theorem dX7_append_54 : decode cX7_append 54 = .ok (.iadd, 1) := by decide +kernel
theorem dX7_append_55 : decode cX7_append 55 = .ok (.putfield 116, 3) := by decide +kernel
theorem dX7_append_58 : decode cX7_append 58 = .ok (.aload_n 0, 1) := by decide +kernel
theorem dX7_append_59 : decode cX7_append 59 = .ok (.getfield 116, 3) := by decide +kernel
theorem dX7_append_62 : decode cX7_append 62 = .ok (.ireturn, 1) := by decide +kernel
theorem dX7_clearBuffer_0 : decode cX7_clearBuffer 0 = .ok (.aload_n 0, 1) := by decide +kernel
theorem dX7_clearBuffer_1 : decode cX7_clearBuffer 1 = .ok (.iconst 0, 1) := by decide +kernel
theorem dX7_clearBuffer_2 : decode cX7_clearBuffer 2 = .ok (.putfield 16, 3) := by decide +kernel
theorem dX7_clearBuffer_5 : decode cX7_clearBuffer 5 = .ok (.aload_n 0, 1) := by decide +kernel
theorem dX7_clearBuffer_6 : decode cX7_clearBuffer 6 = .ok (.getfield 116, 3) := by decide +kernel
theorem dX7_clearBuffer_9 : decode cX7_clearBuffer 9 = .ok (.istore_n 1, 1) := by decide +kernel
theorem dX7_clearBuffer_10 : decode cX7_clearBuffer 10 = .ok (.aload_n 0, 1) := by decide +kernel
theorem dX7_clearBuffer_11 : decode cX7_clearBuffer 11 = .ok (.iconst 0, 1) := by decide +kernel
theorem dX7_clearBuffer_12 : decode cX7_clearBuffer 12 = .ok (.putfield 116, 3) := by decide +kernel
theorem dX7_clearBuffer_15 : decode cX7_clearBuffer 15 = .ok (.iload_n 1, 1) := by decide +kernel
theorem dX7_clearBuffer_16 : decode cX7_clearBuffer 16 = .ok (.ireturn, 1) := by decide +kernel
theorem dX7_sign_0 : decode cX7_sign 0 = .ok (.aload_n 0, 1) := by decide +kernel
theorem dX7_sign_1 : decode cX7_sign 1 = .ok (.getfield 119, 3) := by decide +kernel
theorem dX7_sign_4 : decode cX7_sign 4 = .ok (.aload_n 0, 1) := by decide +kernel
theorem dX7_sign_5 : decode cX7_sign 5 = .ok (.getfield 116, 3) := by decide +kernel
theorem dX7_sign_8 : decode cX7_sign 8 = .ok (.if_icmp .ge 15, 3) := by decide +kernel
theorem dX7_sign_11 : decode cX7_sign 11 = .ok (.aload_n 0, 1) := by decide +kernel
theorem dX7_sign_12 : decode cX7_sign 12 = .ok (.getfield 13, 3) := by decide +kernel
theorem dX7_sign_15 : decode cX7_sign 15 = .ok (.aload_n 0, 1) := by decide +kernel
theorem dX7_sign_16 : decode cX7_sign 16 = .ok (.getfield 119, 3) := by decide +kernel
theorem dX7_sign_19 : decode cX7_sign 19 = .ok (.iaload, 1) := by decide +kernel
theorem dX7_sign_20 : decode cX7_sign 20 = .ok (.goto 4, 3) := by decide +kernel
theorem dX7_sign_23 : decode cX7_sign 23 = .ok (.iconst 0, 1) := by decide +kernel
theorem dX7_sign_24 : decode cX7_sign 24 = .ok (.ireturn, 1) := by decide +kernel
theorem dX7_takes_0 : decode cX7_takes 0 = .ok (.aload_n 0, 1) := by decide +kernel
theorem dX7_takes_1 : decode cX7_takes 1 = .ok (.invokevirtual 122, 3) := by decide +kernel
theorem dX7_takes_4 : decode cX7_takes 4 = .ok (.iload_n 1, 1) := by decide +kernel
theorem dX7_takes_5 : decode cX7_takes 5 = .ok (.if_icmp .ne 7, 3) := by decide +kernel
theorem dX7_takes_8 : decode cX7_takes 8 = .ok (.iconst 1, 1) := by decide +kernel
theorem dX7_takes_9 : decode cX7_takes 9 = .ok (.goto 4, 3) := by decide +kernel
theorem dX7_takes_12 : decode cX7_takes 12 = .ok (.iconst 0, 1) := by decide +kernel
theorem dX7_takes_13 : decode cX7_takes 13 = .ok (.istore_n 2, 1) := by decide +kernel
theorem dX7_takes_14 : decode cX7_takes 14 = .ok (.aload_n 0, 1) := by decide +kernel
theorem dX7_takes_15 : decode cX7_takes 15 = .ok (.dup, 1) := by decide +kernel
theorem dX7_takes_16 : decode cX7_takes 16 = .ok (.getfield 119, 3) := by decide +kernel
theorem dX7_takes_19 : decode cX7_takes 19 = .ok (.iload_n 2, 1) := by decide +kernel
theorem dX7_takes_20 : decode cX7_takes 20 = .ok (.ifCond .eq 7, 3) := by decide +kernel
theorem dX7_takes_23 : decode cX7_takes 23 = .ok (.iconst 1, 1) := by decide +kernel
theorem dX7_takes_24 : decode cX7_takes 24 = .ok (.goto 4, 3) := by decide +kernel
theorem dX7_takes_27 : decode cX7_takes 27 = .ok (.iconst 0, 1) := by decide +kernel
theorem dX7_takes_28 : decode cX7_takes 28 = .ok (.iadd, 1) := by decide +kernel
theorem dX7_takes_29 : decode cX7_takes 29 = .ok (.putfield 119, 3) := by decide +kernel
theorem dX7_takes_32 : decode cX7_takes 32 = .ok (.iload_n 2, 1) := by decide +kernel
theorem dX7_takes_33 : decode cX7_takes 33 = .ok (.ireturn, 1) := by decide +kernel
theorem dX7_readsOne_0 : decode cX7_readsOne 0 = .ok (.aload_n 0, 1) := by decide +kernel
theorem dX7_readsOne_1 : decode cX7_readsOne 1 = .ok (.invokevirtual 122, 3) := by decide +kernel
theorem dX7_readsOne_4 : decode cX7_readsOne 4 = .ok (.iload_n 1, 1) := by decide +kernel
theorem dX7_readsOne_5 : decode cX7_readsOne 5 = .ok (.iload_n 2, 1) := by decide +kernel
theorem dX7_readsOne_6 : decode cX7_readsOne 6 = .ok (.invokestatic 20, 3) := by decide +kernel
theorem dX7_readsOne_9 : decode cX7_readsOne 9 = .ok (.ifCond .eq 12, 3) := by decide +kernel
theorem dX7_readsOne_12 : decode cX7_readsOne 12 = .ok (.aload_n 0, 1) := by decide +kernel
theorem dX7_readsOne_13 : decode cX7_readsOne 13 = .ok (.invokevirtual 122, 3) := by decide +kernel
theorem dX7_readsOne_16 : decode cX7_readsOne 16 = .ok (.iload_n 1, 1) := by decide +kernel
theorem dX7_readsOne_17 : decode cX7_readsOne 17 = .ok (.isub, 1) := by decide +kernel
theorem dX7_readsOne_18 : decode cX7_readsOne 18 = .ok (.goto 4, 3) := by decide +kernel
theorem dX7_readsOne_21 : decode cX7_readsOne 21 = .ok (.iconst (-1), 1) := by decide +kernel
theorem dX7_readsOne_22 : decode cX7_readsOne 22 = .ok (.istore_n 3, 1) := by decide +kernel
theorem dX7_readsOne_23 : decode cX7_readsOne 23 = .ok (.aload_n 0, 1) := by decide +kernel
theorem dX7_readsOne_24 : decode cX7_readsOne 24 = .ok (.dup, 1) := by decide +kernel
theorem dX7_readsOne_25 : decode cX7_readsOne 25 = .ok (.getfield 119, 3) := by decide +kernel
theorem dX7_readsOne_28 : decode cX7_readsOne 28 = .ok (.iload_n 3, 1) := by decide +kernel
theorem dX7_readsOne_29 : decode cX7_readsOne 29 = .ok (.iconst (-1), 1) := by decide +kernel
theorem dX7_readsOne_30 : decode cX7_readsOne 30 = .ok (.if_icmp .ne 7, 3) := by decide +kernel
theorem dX7_readsOne_33 : decode cX7_readsOne 33 = .ok (.iconst 0, 1) := by decide +kernel
theorem dX7_readsOne_34 : decode cX7_readsOne 34 = .ok (.goto 4, 3) := by decide +kernel
theorem dX7_readsOne_37 : decode cX7_readsOne 37 = .ok (.iconst 1, 1) := by decide +kernel
theorem dX7_readsOne_38 : decode cX7_readsOne 38 = .ok (.iadd, 1) := by decide +kernel
theorem dX7_readsOne_39 : decode cX7_readsOne 39 = .ok (.putfield 119, 3) := by decide +kernel
theorem dX7_readsOne_42 : decode cX7_readsOne 42 = .ok (.iload_n 3, 1) := by decide +kernel
theorem dX7_readsOne_43 : decode cX7_readsOne 43 = .ok (.ireturn, 1) := by decide +kernel
theorem dX7_readsGuest_0 : decode cX7_readsGuest 0 = .ok (.aload_n 0, 1) := by decide +kernel
theorem dX7_readsGuest_1 : decode cX7_readsGuest 1 = .ok (.aload_n 0, 1) := by decide +kernel
theorem dX7_readsGuest_2 : decode cX7_readsGuest 2 = .ok (.bipush 48, 2) := by decide +kernel
theorem dX7_readsGuest_4 : decode cX7_readsGuest 4 = .ok (.bipush 57, 2) := by decide +kernel
theorem dX7_readsGuest_6 : decode cX7_readsGuest 6 = .ok (.invokevirtual 126, 3) := by decide +kernel
theorem dX7_readsGuest_9 : decode cX7_readsGuest 9 = .ok (.putfield 129, 3) := by decide +kernel
theorem dX7_readsGuest_12 : decode cX7_readsGuest 12 = .ok (.aload_n 0, 1) := by decide +kernel
theorem dX7_readsGuest_13 : decode cX7_readsGuest 13 = .ok (.getfield 129, 3) := by decide +kernel
theorem dX7_readsGuest_16 : decode cX7_readsGuest 16 = .ok (.iconst 1, 1) := by decide +kernel
theorem dX7_readsGuest_17 : decode cX7_readsGuest 17 = .ok (.if_icmp .ne 32, 3) := by decide +kernel
theorem dX7_readsGuest_20 : decode cX7_readsGuest 20 = .ok (.aload_n 0, 1) := by decide +kernel
theorem dX7_readsGuest_21 : decode cX7_readsGuest 21 = .ok (.invokevirtual 122, 3) := by decide +kernel
theorem dX7_readsGuest_24 : decode cX7_readsGuest 24 = .ok (.bipush 48, 2) := by decide +kernel
theorem dX7_readsGuest_26 : decode cX7_readsGuest 26 = .ok (.bipush 53, 2) := by decide +kernel
theorem dX7_readsGuest_28 : decode cX7_readsGuest 28 = .ok (.invokestatic 20, 3) := by decide +kernel
theorem dX7_readsGuest_31 : decode cX7_readsGuest 31 = .ok (.ifCond .eq 18, 3) := by decide +kernel
theorem dX7_readsGuest_34 : decode cX7_readsGuest 34 = .ok (.aload_n 0, 1) := by decide +kernel
theorem dX7_readsGuest_35 : decode cX7_readsGuest 35 = .ok (.bipush 10, 2) := by decide +kernel
theorem dX7_readsGuest_37 : decode cX7_readsGuest 37 = .ok (.aload_n 0, 1) := by decide +kernel
theorem dX7_readsGuest_38 : decode cX7_readsGuest 38 = .ok (.bipush 48, 2) := by decide +kernel
theorem dX7_readsGuest_40 : decode cX7_readsGuest 40 = .ok (.bipush 53, 2) := by decide +kernel
theorem dX7_readsGuest_42 : decode cX7_readsGuest 42 = .ok (.invokevirtual 126, 3) := by decide +kernel
theorem dX7_readsGuest_45 : decode cX7_readsGuest 45 = .ok (.iadd, 1) := by decide +kernel
theorem dX7_readsGuest_46 : decode cX7_readsGuest 46 = .ok (.putfield 129, 3) := by decide +kernel
theorem dX7_readsGuest_49 : decode cX7_readsGuest 49 = .ok (.aload_n 0, 1) := by decide +kernel
theorem dX7_readsGuest_50 : decode cX7_readsGuest 50 = .ok (.getfield 129, 3) := by decide +kernel
theorem dX7_readsGuest_53 : decode cX7_readsGuest 53 = .ok (.iconst (-1), 1) := by decide +kernel
theorem dX7_readsGuest_54 : decode cX7_readsGuest 54 = .ok (.if_icmp .eq 7, 3) := by decide +kernel
theorem dX7_readsGuest_57 : decode cX7_readsGuest 57 = .ok (.iconst 1, 1) := by decide +kernel
theorem dX7_readsGuest_58 : decode cX7_readsGuest 58 = .ok (.goto 4, 3) := by decide +kernel
theorem dX7_readsGuest_61 : decode cX7_readsGuest 61 = .ok (.iconst 0, 1) := by decide +kernel
theorem dX7_readsGuest_62 : decode cX7_readsGuest 62 = .ok (.ireturn, 1) := by decide +kernel
theorem dX7_readsPart_0 : decode cX7_readsPart 0 = .ok (.aload_n 0, 1) := by decide +kernel
theorem dX7_readsPart_1 : decode cX7_readsPart 1 = .ok (.aload_n 0, 1) := by decide +kernel
theorem dX7_readsPart_2 : decode cX7_readsPart 2 = .ok (.bipush 45, 2) := by decide +kernel
theorem dX7_readsPart_4 : decode cX7_readsPart 4 = .ok (.invokevirtual 132, 3) := by decide +kernel
theorem dX7_readsPart_7 : decode cX7_readsPart 7 = .ok (.putfield 135, 3) := by decide +kernel
theorem dX7_readsPart_10 : decode cX7_readsPart 10 = .ok (.aload_n 0, 1) := by decide +kernel
theorem dX7_readsPart_11 : decode cX7_readsPart 11 = .ok (.invokevirtual 139, 3) := by decide +kernel
theorem dX7_readsPart_14 : decode cX7_readsPart 14 = .ok (.ifCond .eq 10, 3) := by decide +kernel
theorem dX7_readsPart_17 : decode cX7_readsPart 17 = .ok (.aload_n 0, 1) := by decide +kernel
theorem dX7_readsPart_18 : decode cX7_readsPart 18 = .ok (.getfield 135, 3) := by decide +kernel
theorem dX7_readsPart_21 : decode cX7_readsPart 21 = .ok (.ifCond .eq 24, 3) := by decide +kernel
theorem dX7_readsPart_24 : decode cX7_readsPart 24 = .ok (.aload_n 0, 1) := by decide +kernel
theorem dX7_readsPart_25 : decode cX7_readsPart 25 = .ok (.getfield 135, 3) := by decide +kernel
theorem dX7_readsPart_28 : decode cX7_readsPart 28 = .ok (.ifCond .eq 15, 3) := by decide +kernel
theorem dX7_readsPart_31 : decode cX7_readsPart 31 = .ok (.aload_n 0, 1) := by decide +kernel
theorem dX7_readsPart_32 : decode cX7_readsPart 32 = .ok (.getfield 129, 3) := by decide +kernel
theorem dX7_readsPart_35 : decode cX7_readsPart 35 = .ok (.iconst (-1), 1) := by decide +kernel
theorem dX7_readsPart_36 : decode cX7_readsPart 36 = .ok (.if_icmp .eq 7, 3) := by decide +kernel
theorem dX7_readsPart_39 : decode cX7_readsPart 39 = .ok (.iconst 1, 1) := by decide +kernel
theorem dX7_readsPart_40 : decode cX7_readsPart 40 = .ok (.goto 4, 3) := by decide +kernel
theorem dX7_readsPart_43 : decode cX7_readsPart 43 = .ok (.iconst 0, 1) := by decide +kernel
theorem dX7_readsPart_44 : decode cX7_readsPart 44 = .ok (.ireturn, 1) := by decide +kernel
theorem dX7_readsPart_45 : decode cX7_readsPart 45 = .ok (.aload_n 0, 1) := by decide +kernel
theorem dX7_readsPart_46 : decode cX7_readsPart 46 = .ok (.aload_n 0, 1) := by decide +kernel
theorem dX7_readsPart_47 : decode cX7_readsPart 47 = .ok (.bipush 64, 2) := by decide +kernel
theorem dX7_readsPart_49 : decode cX7_readsPart 49 = .ok (.invokevirtual 132, 3) := by decide +kernel
theorem dX7_readsPart_52 : decode cX7_readsPart 52 = .ok (.ifCond .eq 14, 3) := by decide +kernel
theorem dX7_readsPart_55 : decode cX7_readsPart 55 = .ok (.aload_n 0, 1) := by decide +kernel
theorem dX7_readsPart_56 : decode cX7_readsPart 56 = .ok (.bipush 48, 2) := by decide +kernel
theorem dX7_readsPart_58 : decode cX7_readsPart 58 = .ok (.bipush 51, 2) := by decide +kernel
theorem dX7_readsPart_60 : decode cX7_readsPart 60 = .ok (.invokevirtual 126, 3) := by decide +kernel
theorem dX7_readsPart_63 : decode cX7_readsPart 63 = .ok (.goto 4, 3) := by decide +kernel
theorem dX7_readsPart_66 : decode cX7_readsPart 66 = .ok (.iconst (-1), 1) := by decide +kernel
theorem dX7_readsPart_67 : decode cX7_readsPart 67 = .ok (.putfield 143, 3) := by decide +kernel
theorem dX7_readsPart_70 : decode cX7_readsPart 70 = .ok (.aload_n 0, 1) := by decide +kernel
theorem dX7_readsPart_71 : decode cX7_readsPart 71 = .ok (.aload_n 0, 1) := by decide +kernel
theorem dX7_readsPart_72 : decode cX7_readsPart 72 = .ok (.getfield 143, 3) := by decide +kernel
theorem dX7_readsPart_75 : decode cX7_readsPart 75 = .ok (.iconst (-1), 1) := by decide +kernel
theorem dX7_readsPart_76 : decode cX7_readsPart 76 = .ok (.if_icmp .eq 14, 3) := by decide +kernel
theorem dX7_readsPart_79 : decode cX7_readsPart 79 = .ok (.aload_n 0, 1) := by decide +kernel
theorem dX7_readsPart_80 : decode cX7_readsPart 80 = .ok (.bipush 97, 2) := by decide +kernel
theorem dX7_readsPart_82 : decode cX7_readsPart 82 = .ok (.bipush 104, 2) := by decide +kernel
theorem dX7_readsPart_84 : decode cX7_readsPart 84 = .ok (.invokevirtual 126, 3) := by decide +kernel
theorem dX7_readsPart_87 : decode cX7_readsPart 87 = .ok (.goto 4, 3) := by decide +kernel
theorem dX7_readsPart_90 : decode cX7_readsPart 90 = .ok (.iconst (-1), 1) := by decide +kernel
theorem dX7_readsPart_91 : decode cX7_readsPart 91 = .ok (.putfield 146, 3) := by decide +kernel
theorem dX7_readsPart_94 : decode cX7_readsPart 94 = .ok (.aload_n 0, 1) := by decide +kernel
theorem dX7_readsPart_95 : decode cX7_readsPart 95 = .ok (.getfield 146, 3) := by decide +kernel
theorem dX7_readsPart_98 : decode cX7_readsPart 98 = .ok (.iconst (-1), 1) := by decide +kernel
theorem dX7_readsPart_99 : decode cX7_readsPart 99 = .ok (.if_icmp .eq 7, 3) := by decide +kernel
theorem dX7_readsPart_102 : decode cX7_readsPart 102 = .ok (.iconst 1, 1) := by decide +kernel
theorem dX7_readsPart_103 : decode cX7_readsPart 103 = .ok (.goto 4, 3) := by decide +kernel
theorem dX7_readsPart_106 : decode cX7_readsPart 106 = .ok (.iconst 0, 1) := by decide +kernel
theorem dX7_readsPart_107 : decode cX7_readsPart 107 = .ok (.ireturn, 1) := by decide +kernel
theorem dX7_areSeats_0 : decode cX7_areSeats 0 = .ok (.aload_n 0, 1) := by decide +kernel
theorem dX7_areSeats_1 : decode cX7_areSeats 1 = .ok (.iconst 0, 1) := by decide +kernel
theorem dX7_areSeats_2 : decode cX7_areSeats 2 = .ok (.putfield 119, 3) := by decide +kernel
theorem dX7_areSeats_5 : decode cX7_areSeats 5 = .ok (.aload_n 0, 1) := by decide +kernel
theorem dX7_areSeats_6 : decode cX7_areSeats 6 = .ok (.invokevirtual 149, 3) := by decide +kernel
theorem dX7_areSeats_9 : decode cX7_areSeats 9 = .ok (.ifCond .eq 27, 3) := by decide +kernel
theorem dX7_areSeats_12 : decode cX7_areSeats 12 = .ok (.aload_n 0, 1) := by decide +kernel
theorem dX7_areSeats_13 : decode cX7_areSeats 13 = .ok (.getfield 119, 3) := by decide +kernel
theorem dX7_areSeats_16 : decode cX7_areSeats 16 = .ok (.aload_n 0, 1) := by decide +kernel
theorem dX7_areSeats_17 : decode cX7_areSeats 17 = .ok (.getfield 116, 3) := by decide +kernel
theorem dX7_areSeats_20 : decode cX7_areSeats 20 = .ok (.if_icmp .ne 5, 3) := by decide +kernel
theorem dX7_areSeats_23 : decode cX7_areSeats 23 = .ok (.iconst 1, 1) := by decide +kernel
theorem dX7_areSeats_24 : decode cX7_areSeats 24 = .ok (.ireturn, 1) := by decide +kernel
theorem dX7_areSeats_25 : decode cX7_areSeats 25 = .ok (.aload_n 0, 1) := by decide +kernel
theorem dX7_areSeats_26 : decode cX7_areSeats 26 = .ok (.bipush 59, 2) := by decide +kernel
theorem dX7_areSeats_28 : decode cX7_areSeats 28 = .ok (.invokevirtual 132, 3) := by decide +kernel
theorem dX7_areSeats_31 : decode cX7_areSeats 31 = .ok (.ifCond .ne (-26), 3) := by decide +kernel
theorem dX7_areSeats_34 : decode cX7_areSeats 34 = .ok (.iconst 0, 1) := by decide +kernel
theorem dX7_areSeats_35 : decode cX7_areSeats 35 = .ok (.ireturn, 1) := by decide +kernel
theorem dX7_areSeats_36 : decode cX7_areSeats 36 = .ok (.iconst 0, 1) := by decide +kernel
theorem dX7_areSeats_37 : decode cX7_areSeats 37 = .ok (.ireturn, 1) := by decide +kernel
theorem dX7_firstError_0 : decode cX7_firstError 0 = .ok (.aload_n 0, 1) := by decide +kernel
theorem dX7_firstError_1 : decode cX7_firstError 1 = .ok (.iconst 0, 1) := by decide +kernel
theorem dX7_firstError_2 : decode cX7_firstError 2 = .ok (.putfield 16, 3) := by decide +kernel
theorem dX7_firstError_5 : decode cX7_firstError 5 = .ok (.aload_n 0, 1) := by decide +kernel
theorem dX7_firstError_6 : decode cX7_firstError 6 = .ok (.invokevirtual 152, 3) := by decide +kernel
theorem dX7_firstError_9 : decode cX7_firstError 9 = .ok (.pop, 1) := by decide +kernel
theorem dX7_firstError_10 : decode cX7_firstError 10 = .ok (.aload_n 0, 1) := by decide +kernel
theorem dX7_firstError_11 : decode cX7_firstError 11 = .ok (.getfield 119, 3) := by decide +kernel
theorem dX7_firstError_14 : decode cX7_firstError 14 = .ok (.ireturn, 1) := by decide +kernel
theorem dX7_isDone_0 : decode cX7_isDone 0 = .ok (.aload_n 0, 1) := by decide +kernel
theorem dX7_isDone_1 : decode cX7_isDone 1 = .ok (.aload_n 0, 1) := by decide +kernel
theorem dX7_isDone_2 : decode cX7_isDone 2 = .ok (.getfield 129, 3) := by decide +kernel
theorem dX7_isDone_5 : decode cX7_isDone 5 = .ok (.invokevirtual 96, 3) := by decide +kernel
theorem dX7_isDone_8 : decode cX7_isDone 8 = .ok (.ifCond .ne 5, 3) := by decide +kernel
theorem dX7_isDone_11 : decode cX7_isDone 11 = .ok (.iconst 0, 1) := by decide +kernel
theorem dX7_isDone_12 : decode cX7_isDone 12 = .ok (.ireturn, 1) := by decide +kernel
theorem dX7_isDone_13 : decode cX7_isDone 13 = .ok (.aload_n 0, 1) := by decide +kernel
theorem dX7_isDone_14 : decode cX7_isDone 14 = .ok (.getfield 135, 3) := by decide +kernel
theorem dX7_isDone_17 : decode cX7_isDone 17 = .ok (.ifCond .eq 38, 3) := by decide +kernel
theorem dX7_isDone_20 : decode cX7_isDone 20 = .ok (.aload_n 0, 1) := by decide +kernel
theorem dX7_isDone_21 : decode cX7_isDone 21 = .ok (.iconst 0, 1) := by decide +kernel
theorem dX7_isDone_22 : decode cX7_isDone 22 = .ok (.aload_n 0, 1) := by decide +kernel
theorem dX7_isDone_23 : decode cX7_isDone 23 = .ok (.getfield 129, 3) := by decide +kernel
theorem dX7_isDone_26 : decode cX7_isDone 26 = .ok (.iconst 3, 1) := by decide +kernel
theorem dX7_isDone_27 : decode cX7_isDone 27 = .ok (.invokevirtual 31, 3) := by decide +kernel
theorem dX7_isDone_30 : decode cX7_isDone 30 = .ok (.iconst (-1), 1) := by decide +kernel
theorem dX7_isDone_31 : decode cX7_isDone 31 = .ok (.if_icmp .eq 7, 3) := by decide +kernel
theorem dX7_isDone_34 : decode cX7_isDone 34 = .ok (.iconst 1, 1) := by decide +kernel
theorem dX7_isDone_35 : decode cX7_isDone 35 = .ok (.goto 4, 3) := by decide +kernel
theorem dX7_isDone_38 : decode cX7_isDone 38 = .ok (.iconst 0, 1) := by decide +kernel
theorem dX7_isDone_39 : decode cX7_isDone 39 = .ok (.istore_n 1, 1) := by decide +kernel
theorem dX7_isDone_40 : decode cX7_isDone 40 = .ok (.iload_n 1, 1) := by decide +kernel
theorem dX7_isDone_41 : decode cX7_isDone 41 = .ok (.ifCond .eq 12, 3) := by decide +kernel
theorem dX7_isDone_44 : decode cX7_isDone 44 = .ok (.aload_n 0, 1) := by decide +kernel
theorem dX7_isDone_45 : decode cX7_isDone 45 = .ok (.iconst 0, 1) := by decide +kernel
theorem dX7_isDone_46 : decode cX7_isDone 46 = .ok (.aload_n 0, 1) := by decide +kernel
theorem dX7_isDone_47 : decode cX7_isDone 47 = .ok (.getfield 129, 3) := by decide +kernel
theorem dX7_isDone_50 : decode cX7_isDone 50 = .ok (.invokevirtual 68, 3) := by decide +kernel
theorem dX7_isDone_53 : decode cX7_isDone 53 = .ok (.iload_n 1, 1) := by decide +kernel
theorem dX7_isDone_54 : decode cX7_isDone 54 = .ok (.ireturn, 1) := by decide +kernel
theorem dX7_isDone_55 : decode cX7_isDone 55 = .ok (.aload_n 0, 1) := by decide +kernel
theorem dX7_isDone_56 : decode cX7_isDone 56 = .ok (.aload_n 0, 1) := by decide +kernel
theorem dX7_isDone_57 : decode cX7_isDone 57 = .ok (.getfield 143, 3) := by decide +kernel
theorem dX7_isDone_60 : decode cX7_isDone 60 = .ok (.aload_n 0, 1) := by decide +kernel
theorem dX7_isDone_61 : decode cX7_isDone 61 = .ok (.getfield 146, 3) := by decide +kernel
theorem dX7_isDone_64 : decode cX7_isDone 64 = .ok (.invokevirtual 107, 3) := by decide +kernel
theorem dX7_isDone_67 : decode cX7_isDone 67 = .ok (.ifCond .eq 27, 3) := by decide +kernel
theorem dX7_isDone_70 : decode cX7_isDone 70 = .ok (.aload_n 0, 1) := by decide +kernel
theorem dX7_isDone_71 : decode cX7_isDone 71 = .ok (.iconst 0, 1) := by decide +kernel
theorem dX7_isDone_72 : decode cX7_isDone 72 = .ok (.aload_n 0, 1) := by decide +kernel
theorem dX7_isDone_73 : decode cX7_isDone 73 = .ok (.getfield 129, 3) := by decide +kernel
theorem dX7_isDone_76 : decode cX7_isDone 76 = .ok (.aload_n 0, 1) := by decide +kernel
theorem dX7_isDone_77 : decode cX7_isDone 77 = .ok (.getfield 143, 3) := by decide +kernel
theorem dX7_isDone_80 : decode cX7_isDone 80 = .ok (.aload_n 0, 1) := by decide +kernel
theorem dX7_isDone_81 : decode cX7_isDone 81 = .ok (.getfield 146, 3) := by decide +kernel
theorem dX7_isDone_84 : decode cX7_isDone 84 = .ok (.invokevirtual 61, 3) := by decide +kernel
theorem dX7_isDone_87 : decode cX7_isDone 87 = .ok (.ifCond .ne 7, 3) := by decide +kernel
theorem dX7_isDone_90 : decode cX7_isDone 90 = .ok (.iconst 1, 1) := by decide +kernel
theorem dX7_isDone_91 : decode cX7_isDone 91 = .ok (.goto 4, 3) := by decide +kernel
theorem dX7_isDone_94 : decode cX7_isDone 94 = .ok (.iconst 0, 1) := by decide +kernel
theorem dX7_isDone_95 : decode cX7_isDone 95 = .ok (.istore_n 1, 1) := by decide +kernel
theorem dX7_isDone_96 : decode cX7_isDone 96 = .ok (.iload_n 1, 1) := by decide +kernel
theorem dX7_isDone_97 : decode cX7_isDone 97 = .ok (.ifCond .eq 20, 3) := by decide +kernel
theorem dX7_isDone_100 : decode cX7_isDone 100 = .ok (.aload_n 0, 1) := by decide +kernel
theorem dX7_isDone_101 : decode cX7_isDone 101 = .ok (.iconst 0, 1) := by decide +kernel
theorem dX7_isDone_102 : decode cX7_isDone 102 = .ok (.aload_n 0, 1) := by decide +kernel
theorem dX7_isDone_103 : decode cX7_isDone 103 = .ok (.getfield 129, 3) := by decide +kernel
theorem dX7_isDone_106 : decode cX7_isDone 106 = .ok (.aload_n 0, 1) := by decide +kernel
theorem dX7_isDone_107 : decode cX7_isDone 107 = .ok (.getfield 143, 3) := by decide +kernel
theorem dX7_isDone_110 : decode cX7_isDone 110 = .ok (.aload_n 0, 1) := by decide +kernel
theorem dX7_isDone_111 : decode cX7_isDone 111 = .ok (.getfield 146, 3) := by decide +kernel
theorem dX7_isDone_114 : decode cX7_isDone 114 = .ok (.invokevirtual 75, 3) := by decide +kernel
theorem dX7_isDone_117 : decode cX7_isDone 117 = .ok (.iload_n 1, 1) := by decide +kernel
theorem dX7_isDone_118 : decode cX7_isDone 118 = .ok (.ireturn, 1) := by decide +kernel
theorem dX7_seats_0 : decode cX7_seats 0 = .ok (.aload_n 0, 1) := by decide +kernel
theorem dX7_seats_1 : decode cX7_seats 1 = .ok (.aload_n 0, 1) := by decide +kernel
theorem dX7_seats_2 : decode cX7_seats 2 = .ok (.invokevirtual 152, 3) := by decide +kernel
theorem dX7_seats_5 : decode cX7_seats 5 = .ok (.ifCond .eq 7, 3) := by decide +kernel
theorem dX7_seats_8 : decode cX7_seats 8 = .ok (.iconst 0, 1) := by decide +kernel
theorem dX7_seats_9 : decode cX7_seats 9 = .ok (.goto 4, 3) := by decide +kernel
theorem dX7_seats_12 : decode cX7_seats 12 = .ok (.iconst 1, 1) := by decide +kernel
theorem dX7_seats_13 : decode cX7_seats 13 = .ok (.invokevirtual 90, 3) := by decide +kernel
theorem dX7_seats_16 : decode cX7_seats 16 = .ok (.ifCond .ne 5, 3) := by decide +kernel
theorem dX7_seats_19 : decode cX7_seats 19 = .ok (.iconst 0, 1) := by decide +kernel
theorem dX7_seats_20 : decode cX7_seats 20 = .ok (.ireturn, 1) := by decide +kernel
theorem dX7_seats_21 : decode cX7_seats 21 = .ok (.aload_n 0, 1) := by decide +kernel
theorem dX7_seats_22 : decode cX7_seats 22 = .ok (.invokevirtual 93, 3) := by decide +kernel
theorem dX7_seats_25 : decode cX7_seats 25 = .ok (.aload_n 0, 1) := by decide +kernel
theorem dX7_seats_26 : decode cX7_seats 26 = .ok (.iconst 0, 1) := by decide +kernel
theorem dX7_seats_27 : decode cX7_seats 27 = .ok (.putfield 119, 3) := by decide +kernel
theorem dX7_seats_30 : decode cX7_seats 30 = .ok (.iconst 0, 1) := by decide +kernel
theorem dX7_seats_31 : decode cX7_seats 31 = .ok (.istore_n 1, 1) := by decide +kernel
theorem dX7_seats_32 : decode cX7_seats 32 = .ok (.aload_n 0, 1) := by decide +kernel
theorem dX7_seats_33 : decode cX7_seats 33 = .ok (.invokevirtual 149, 3) := by decide +kernel
theorem dX7_seats_36 : decode cX7_seats 36 = .ok (.ifCond .eq 28, 3) := by decide +kernel
theorem dX7_seats_39 : decode cX7_seats 39 = .ok (.iload_n 1, 1) := by decide +kernel
theorem dX7_seats_40 : decode cX7_seats 40 = .ok (.aload_n 0, 1) := by decide +kernel
theorem dX7_seats_41 : decode cX7_seats 41 = .ok (.invokevirtual 155, 3) := by decide +kernel
theorem dX7_seats_44 : decode cX7_seats 44 = .ok (.ifCond .eq 7, 3) := by decide +kernel
theorem dX7_seats_47 : decode cX7_seats 47 = .ok (.iconst 1, 1) := by decide +kernel
theorem dX7_seats_48 : decode cX7_seats 48 = .ok (.goto 4, 3) := by decide +kernel
theorem dX7_seats_51 : decode cX7_seats 51 = .ok (.iconst 0, 1) := by decide +kernel
theorem dX7_seats_52 : decode cX7_seats 52 = .ok (.iadd, 1) := by decide +kernel
theorem dX7_seats_53 : decode cX7_seats 53 = .ok (.istore_n 1, 1) := by decide +kernel
theorem dX7_seats_54 : decode cX7_seats 54 = .ok (.aload_n 0, 1) := by decide +kernel
theorem dX7_seats_55 : decode cX7_seats 55 = .ok (.bipush 59, 2) := by decide +kernel
theorem dX7_seats_57 : decode cX7_seats 57 = .ok (.invokevirtual 132, 3) := by decide +kernel
theorem dX7_seats_60 : decode cX7_seats 60 = .ok (.pop, 1) := by decide +kernel
theorem dX7_seats_61 : decode cX7_seats 61 = .ok (.goto (-29), 3) := by decide +kernel
theorem dX7_seats_64 : decode cX7_seats 64 = .ok (.aload_n 0, 1) := by decide +kernel
theorem dX7_seats_65 : decode cX7_seats 65 = .ok (.iconst 0, 1) := by decide +kernel
theorem dX7_seats_66 : decode cX7_seats 66 = .ok (.putfield 116, 3) := by decide +kernel
theorem dX7_seats_69 : decode cX7_seats 69 = .ok (.iload_n 1, 1) := by decide +kernel
theorem dX7_seats_70 : decode cX7_seats 70 = .ok (.ireturn, 1) := by decide +kernel
theorem dX7_character_0 : decode cX7_character 0 = .ok (.iload_n 2, 1) := by decide +kernel
theorem dX7_character_1 : decode cX7_character 1 = .ok (.istore_n 3, 1) := by decide +kernel
theorem dX7_character_2 : decode cX7_character 2 = .ok (.iconst 0, 1) := by decide +kernel
theorem dX7_character_3 : decode cX7_character 3 = .ok (.istore 4, 2) := by decide +kernel
theorem dX7_character_5 : decode cX7_character 5 = .ok (.iload 4, 2) := by decide +kernel
theorem dX7_character_7 : decode cX7_character 7 = .ok (.aload_n 0, 1) := by decide +kernel
theorem dX7_character_8 : decode cX7_character 8 = .ok (.getfield 7, 3) := by decide +kernel
theorem dX7_character_11 : decode cX7_character 11 = .ok (.bipush 18, 2) := by decide +kernel
theorem dX7_character_13 : decode cX7_character 13 = .ok (.iload_n 1, 1) := by decide +kernel
theorem dX7_character_14 : decode cX7_character 14 = .ok (.iadd, 1) := by decide +kernel
theorem dX7_character_15 : decode cX7_character 15 = .ok (.iaload, 1) := by decide +kernel
theorem dX7_character_16 : decode cX7_character 16 = .ok (.if_icmp .ge 67, 3) := by decide +kernel
theorem dX7_character_19 : decode cX7_character 19 = .ok (.aload_n 0, 1) := by decide +kernel
theorem dX7_character_20 : decode cX7_character 20 = .ok (.iconst 0, 1) := by decide +kernel
theorem dX7_character_21 : decode cX7_character 21 = .ok (.iload_n 1, 1) := by decide +kernel
theorem dX7_character_22 : decode cX7_character 22 = .ok (.iload 4, 2) := by decide +kernel
theorem dX7_character_24 : decode cX7_character 24 = .ok (.invokevirtual 35, 3) := by decide +kernel
theorem dX7_character_27 : decode cX7_character 27 = .ok (.istore 5, 2) := by decide +kernel
theorem dX7_character_29 : decode cX7_character 29 = .ok (.iload_n 3, 1) := by decide +kernel
theorem dX7_character_30 : decode cX7_character 30 = .ok (.ifCond .ne 26, 3) := by decide +kernel
theorem dX7_character_33 : decode cX7_character 33 = .ok (.iload 5, 2) := by decide +kernel
theorem dX7_character_35 : decode cX7_character 35 = .ok (.iconst (-1), 1) := by decide +kernel
theorem dX7_character_36 : decode cX7_character 36 = .ok (.if_icmp .ne 8, 3) := by decide +kernel
theorem dX7_character_39 : decode cX7_character 39 = .ok (.bipush 46, 2) := by decide +kernel
theorem dX7_character_41 : decode cX7_character 41 = .ok (.goto 14, 3) := by decide +kernel
theorem dX7_character_44 : decode cX7_character 44 = .ok (.bipush 65, 2) := by decide +kernel
theorem dX7_character_46 : decode cX7_character 46 = .ok (.aload_n 0, 1) := by decide +kernel
theorem dX7_character_47 : decode cX7_character 47 = .ok (.iconst 0, 1) := by decide +kernel
theorem dX7_character_48 : decode cX7_character 48 = .ok (.iload 5, 2) := by decide +kernel
theorem dX7_character_50 : decode cX7_character 50 = .ok (.iconst 0, 1) := by decide +kernel
theorem dX7_character_51 : decode cX7_character 51 = .ok (.invokevirtual 31, 3) := by decide +kernel
theorem dX7_character_54 : decode cX7_character 54 = .ok (.iadd, 1) := by decide +kernel
theorem dX7_character_55 : decode cX7_character 55 = .ok (.ireturn, 1) := by decide +kernel
theorem dX7_character_56 : decode cX7_character 56 = .ok (.iinc 3 (-1), 3) := by decide +kernel
theorem dX7_character_59 : decode cX7_character 59 = .ok (.iload 4, 2) := by decide +kernel
theorem dX7_character_61 : decode cX7_character 61 = .ok (.invokestatic 38, 3) := by decide +kernel
theorem dX7_character_64 : decode cX7_character 64 = .ok (.ifCond .eq 13, 3) := by decide +kernel
theorem dX7_character_67 : decode cX7_character 67 = .ok (.iload_n 3, 1) := by decide +kernel
theorem dX7_character_68 : decode cX7_character 68 = .ok (.ifCond .ne 6, 3) := by decide +kernel
theorem dX7_character_71 : decode cX7_character 71 = .ok (.bipush 124, 2) := by decide +kernel
theorem dX7_character_73 : decode cX7_character 73 = .ok (.ireturn, 1) := by decide +kernel
theorem dX7_character_74 : decode cX7_character 74 = .ok (.iinc 3 (-1), 3) := by decide +kernel
theorem dX7_character_77 : decode cX7_character 77 = .ok (.iinc 4 1, 3) := by decide +kernel
theorem dX7_character_80 : decode cX7_character 80 = .ok (.goto (-75), 3) := by decide +kernel
theorem dX7_character_83 : decode cX7_character 83 = .ok (.iconst (-1), 1) := by decide +kernel
theorem dX7_character_84 : decode cX7_character 84 = .ok (.ireturn, 1) := by decide +kernel
theorem dX7_told_0 : decode cX7_told 0 = .ok (.aload_n 0, 1) := by decide +kernel
theorem dX7_told_1 : decode cX7_told 1 = .ok (.aload_n 0, 1) := by decide +kernel
theorem dX7_told_2 : decode cX7_told 2 = .ok (.iload_n 1, 1) := by decide +kernel
theorem dX7_told_3 : decode cX7_told 3 = .ok (.invokevirtual 28, 3) := by decide +kernel
theorem dX7_told_6 : decode cX7_told 6 = .ok (.ifCond .ne 7, 3) := by decide +kernel
theorem dX7_told_9 : decode cX7_told 9 = .ok (.iconst 1, 1) := by decide +kernel
theorem dX7_told_10 : decode cX7_told 10 = .ok (.goto 12, 3) := by decide +kernel
theorem dX7_told_13 : decode cX7_told 13 = .ok (.iload_n 2, 1) := by decide +kernel
theorem dX7_told_14 : decode cX7_told 14 = .ok (.ifCond .ge 7, 3) := by decide +kernel
theorem dX7_told_17 : decode cX7_told 17 = .ok (.iconst 2, 1) := by decide +kernel
theorem dX7_told_18 : decode cX7_told 18 = .ok (.goto 4, 3) := by decide +kernel
theorem dX7_told_21 : decode cX7_told 21 = .ok (.iconst 0, 1) := by decide +kernel
theorem dX7_told_22 : decode cX7_told 22 = .ok (.invokevirtual 90, 3) := by decide +kernel
theorem dX7_told_25 : decode cX7_told 25 = .ok (.ifCond .eq 12, 3) := by decide +kernel
theorem dX7_told_28 : decode cX7_told 28 = .ok (.aload_n 0, 1) := by decide +kernel
theorem dX7_told_29 : decode cX7_told 29 = .ok (.iload_n 1, 1) := by decide +kernel
theorem dX7_told_30 : decode cX7_told 30 = .ok (.iload_n 2, 1) := by decide +kernel
theorem dX7_told_31 : decode cX7_told 31 = .ok (.invokevirtual 158, 3) := by decide +kernel
theorem dX7_told_34 : decode cX7_told 34 = .ok (.goto 4, 3) := by decide +kernel
theorem dX7_told_37 : decode cX7_told 37 = .ok (.iconst 0, 1) := by decide +kernel
theorem dX7_told_38 : decode cX7_told 38 = .ok (.ireturn, 1) := by decide +kernel
theorem dX7_undo_0 : decode cX7_undo 0 = .ok (.aload_n 0, 1) := by decide +kernel
theorem dX7_undo_1 : decode cX7_undo 1 = .ok (.aload_n 0, 1) := by decide +kernel
theorem dX7_undo_2 : decode cX7_undo 2 = .ok (.getfield 84, 3) := by decide +kernel
theorem dX7_undo_5 : decode cX7_undo 5 = .ok (.ifCond .le 7, 3) := by decide +kernel
theorem dX7_undo_8 : decode cX7_undo 8 = .ok (.iconst 0, 1) := by decide +kernel
theorem dX7_undo_9 : decode cX7_undo 9 = .ok (.goto 4, 3) := by decide +kernel
theorem dX7_undo_12 : decode cX7_undo 12 = .ok (.iconst 1, 1) := by decide +kernel
theorem dX7_undo_13 : decode cX7_undo 13 = .ok (.invokevirtual 90, 3) := by decide +kernel
theorem dX7_undo_16 : decode cX7_undo 16 = .ok (.ifCond .ne 5, 3) := by decide +kernel
theorem dX7_undo_19 : decode cX7_undo 19 = .ok (.iconst 0, 1) := by decide +kernel
theorem dX7_undo_20 : decode cX7_undo 20 = .ok (.ireturn, 1) := by decide +kernel
theorem dX7_undo_21 : decode cX7_undo 21 = .ok (.aload_n 0, 1) := by decide +kernel
theorem dX7_undo_22 : decode cX7_undo 22 = .ok (.aload_n 0, 1) := by decide +kernel
theorem dX7_undo_23 : decode cX7_undo 23 = .ok (.getfield 84, 3) := by decide +kernel
theorem dX7_undo_26 : decode cX7_undo 26 = .ok (.iconst 0, 1) := by decide +kernel
theorem dX7_undo_27 : decode cX7_undo 27 = .ok (.invokevirtual 87, 3) := by decide +kernel
theorem dX7_undo_30 : decode cX7_undo 30 = .ok (.aload_n 0, 1) := by decide +kernel
theorem dX7_undo_31 : decode cX7_undo 31 = .ok (.dup, 1) := by decide +kernel
theorem dX7_undo_32 : decode cX7_undo 32 = .ok (.getfield 84, 3) := by decide +kernel
theorem dX7_undo_35 : decode cX7_undo 35 = .ok (.iconst 1, 1) := by decide +kernel
theorem dX7_undo_36 : decode cX7_undo 36 = .ok (.isub, 1) := by decide +kernel
theorem dX7_undo_37 : decode cX7_undo 37 = .ok (.putfield 84, 3) := by decide +kernel
theorem dX7_undo_40 : decode cX7_undo 40 = .ok (.aload_n 0, 1) := by decide +kernel
theorem dX7_undo_41 : decode cX7_undo 41 = .ok (.getfield 84, 3) := by decide +kernel
theorem dX7_undo_44 : decode cX7_undo 44 = .ok (.ireturn, 1) := by decide +kernel
theorem dX7_keep_0 : decode cX7_keep 0 = .ok (.aload_n 0, 1) := by decide +kernel
theorem dX7_keep_1 : decode cX7_keep 1 = .ok (.iconst 0, 1) := by decide +kernel
theorem dX7_keep_2 : decode cX7_keep 2 = .ok (.putfield 16, 3) := by decide +kernel
theorem dX7_keep_5 : decode cX7_keep 5 = .ok (.aload_n 0, 1) := by decide +kernel
theorem dX7_keep_6 : decode cX7_keep 6 = .ok (.iconst 0, 1) := by decide +kernel
theorem dX7_keep_7 : decode cX7_keep 7 = .ok (.bipush 7, 2) := by decide +kernel
theorem dX7_keep_9 : decode cX7_keep 9 = .ok (.invokevirtual 87, 3) := by decide +kernel
theorem dX7_keep_12 : decode cX7_keep 12 = .ok (.aload_n 0, 1) := by decide +kernel
theorem dX7_keep_13 : decode cX7_keep 13 = .ok (.iconst 1, 1) := by decide +kernel
theorem dX7_keep_14 : decode cX7_keep 14 = .ok (.putfield 161, 3) := by decide +kernel
theorem dX7_keep_17 : decode cX7_keep 17 = .ok (.aload_n 0, 1) := by decide +kernel
theorem dX7_keep_18 : decode cX7_keep 18 = .ok (.getfield 7, 3) := by decide +kernel
theorem dX7_keep_21 : decode cX7_keep 21 = .ok (.iconst 3, 1) := by decide +kernel
theorem dX7_keep_22 : decode cX7_keep 22 = .ok (.iaload, 1) := by decide +kernel
theorem dX7_keep_23 : decode cX7_keep 23 = .ok (.ireturn, 1) := by decide +kernel
theorem dX7_restore_0 : decode cX7_restore 0 = .ok (.aload_n 0, 1) := by decide +kernel
theorem dX7_restore_1 : decode cX7_restore 1 = .ok (.aload_n 0, 1) := by decide +kernel
theorem dX7_restore_2 : decode cX7_restore 2 = .ok (.getfield 161, 3) := by decide +kernel
theorem dX7_restore_5 : decode cX7_restore 5 = .ok (.ifCond .eq 7, 3) := by decide +kernel
theorem dX7_restore_8 : decode cX7_restore 8 = .ok (.iconst 0, 1) := by decide +kernel
theorem dX7_restore_9 : decode cX7_restore 9 = .ok (.goto 4, 3) := by decide +kernel
theorem dX7_restore_12 : decode cX7_restore 12 = .ok (.iconst 1, 1) := by decide +kernel
theorem dX7_restore_13 : decode cX7_restore 13 = .ok (.invokevirtual 90, 3) := by decide +kernel
theorem dX7_restore_16 : decode cX7_restore 16 = .ok (.ifCond .ne 5, 3) := by decide +kernel
theorem dX7_restore_19 : decode cX7_restore 19 = .ok (.iconst 0, 1) := by decide +kernel
theorem dX7_restore_20 : decode cX7_restore 20 = .ok (.ireturn, 1) := by decide +kernel
theorem dX7_restore_21 : decode cX7_restore 21 = .ok (.aload_n 0, 1) := by decide +kernel
theorem dX7_restore_22 : decode cX7_restore 22 = .ok (.invokevirtual 93, 3) := by decide +kernel
theorem dX7_restore_25 : decode cX7_restore 25 = .ok (.aload_n 0, 1) := by decide +kernel
theorem dX7_restore_26 : decode cX7_restore 26 = .ok (.bipush 7, 2) := by decide +kernel
theorem dX7_restore_28 : decode cX7_restore 28 = .ok (.iconst 0, 1) := by decide +kernel
theorem dX7_restore_29 : decode cX7_restore 29 = .ok (.invokevirtual 87, 3) := by decide +kernel
theorem dX7_restore_32 : decode cX7_restore 32 = .ok (.aload_n 0, 1) := by decide +kernel
theorem dX7_restore_33 : decode cX7_restore 33 = .ok (.getfield 7, 3) := by decide +kernel
theorem dX7_restore_36 : decode cX7_restore 36 = .ok (.iconst 3, 1) := by decide +kernel
theorem dX7_restore_37 : decode cX7_restore 37 = .ok (.iaload, 1) := by decide +kernel
theorem dX7_restore_38 : decode cX7_restore 38 = .ok (.ireturn, 1) := by decide +kernel
theorem dX7_ofGuest_0 : decode cX7_ofGuest 0 = .ok (.iload_n 2, 1) := by decide +kernel
theorem dX7_ofGuest_1 : decode cX7_ofGuest 1 = .ok (.iconst 5, 1) := by decide +kernel
theorem dX7_ofGuest_2 : decode cX7_ofGuest 2 = .ok (.if_icmp .ge 13, 3) := by decide +kernel
theorem dX7_ofGuest_5 : decode cX7_ofGuest 5 = .ok (.aload_n 0, 1) := by decide +kernel
theorem dX7_ofGuest_6 : decode cX7_ofGuest 6 = .ok (.iconst 0, 1) := by decide +kernel
theorem dX7_ofGuest_7 : decode cX7_ofGuest 7 = .ok (.iload_n 1, 1) := by decide +kernel
theorem dX7_ofGuest_8 : decode cX7_ofGuest 8 = .ok (.iload_n 2, 1) := by decide +kernel
theorem dX7_ofGuest_9 : decode cX7_ofGuest 9 = .ok (.invokevirtual 31, 3) := by decide +kernel
theorem dX7_ofGuest_12 : decode cX7_ofGuest 12 = .ok (.goto 23, 3) := by decide +kernel
theorem dX7_ofGuest_15 : decode cX7_ofGuest 15 = .ok (.iload_n 2, 1) := by decide +kernel
theorem dX7_ofGuest_16 : decode cX7_ofGuest 16 = .ok (.iconst 5, 1) := by decide +kernel
theorem dX7_ofGuest_17 : decode cX7_ofGuest 17 = .ok (.if_icmp .ne 12, 3) := by decide +kernel
theorem dX7_ofGuest_20 : decode cX7_ofGuest 20 = .ok (.aload_n 0, 1) := by decide +kernel
theorem dX7_ofGuest_21 : decode cX7_ofGuest 21 = .ok (.iconst 0, 1) := by decide +kernel
theorem dX7_ofGuest_22 : decode cX7_ofGuest 22 = .ok (.iload_n 1, 1) := by decide +kernel
theorem dX7_ofGuest_23 : decode cX7_ofGuest 23 = .ok (.invokevirtual 48, 3) := by decide +kernel
theorem dX7_ofGuest_26 : decode cX7_ofGuest 26 = .ok (.goto 9, 3) := by decide +kernel
theorem dX7_ofGuest_29 : decode cX7_ofGuest 29 = .ok (.aload_n 0, 1) := by decide +kernel
theorem dX7_ofGuest_30 : decode cX7_ofGuest 30 = .ok (.iconst 0, 1) := by decide +kernel
theorem dX7_ofGuest_31 : decode cX7_ofGuest 31 = .ok (.iload_n 1, 1) := by decide +kernel
theorem dX7_ofGuest_32 : decode cX7_ofGuest 32 = .ok (.invokevirtual 51, 3) := by decide +kernel
theorem dX7_ofGuest_35 : decode cX7_ofGuest 35 = .ok (.ireturn, 1) := by decide +kernel
theorem dX7_guestOf_0 : decode cX7_guestOf 0 = .ok (.aload_n 0, 1) := by decide +kernel
theorem dX7_guestOf_1 : decode cX7_guestOf 1 = .ok (.aload_n 0, 1) := by decide +kernel
theorem dX7_guestOf_2 : decode cX7_guestOf 2 = .ok (.iload_n 1, 1) := by decide +kernel
theorem dX7_guestOf_3 : decode cX7_guestOf 3 = .ok (.invokevirtual 96, 3) := by decide +kernel
theorem dX7_guestOf_6 : decode cX7_guestOf 6 = .ok (.ifCond .ne 7, 3) := by decide +kernel
theorem dX7_guestOf_9 : decode cX7_guestOf 9 = .ok (.iconst 1, 1) := by decide +kernel
theorem dX7_guestOf_10 : decode cX7_guestOf 10 = .ok (.goto 18, 3) := by decide +kernel
theorem dX7_guestOf_13 : decode cX7_guestOf 13 = .ok (.iload_n 2, 1) := by decide +kernel
theorem dX7_guestOf_14 : decode cX7_guestOf 14 = .ok (.iconst 0, 1) := by decide +kernel
theorem dX7_guestOf_15 : decode cX7_guestOf 15 = .ok (.bipush 6, 2) := by decide +kernel
theorem dX7_guestOf_17 : decode cX7_guestOf 17 = .ok (.invokestatic 20, 3) := by decide +kernel
theorem dX7_guestOf_20 : decode cX7_guestOf 20 = .ok (.ifCond .ne 7, 3) := by decide +kernel
theorem dX7_guestOf_23 : decode cX7_guestOf 23 = .ok (.iconst 2, 1) := by decide +kernel
theorem dX7_guestOf_24 : decode cX7_guestOf 24 = .ok (.goto 4, 3) := by decide +kernel
theorem dX7_guestOf_27 : decode cX7_guestOf 27 = .ok (.iconst 0, 1) := by decide +kernel
theorem dX7_guestOf_28 : decode cX7_guestOf 28 = .ok (.invokevirtual 90, 3) := by decide +kernel
theorem dX7_guestOf_31 : decode cX7_guestOf 31 = .ok (.ifCond .eq 12, 3) := by decide +kernel
theorem dX7_guestOf_34 : decode cX7_guestOf 34 = .ok (.aload_n 0, 1) := by decide +kernel
theorem dX7_guestOf_35 : decode cX7_guestOf 35 = .ok (.iload_n 1, 1) := by decide +kernel
theorem dX7_guestOf_36 : decode cX7_guestOf 36 = .ok (.iload_n 2, 1) := by decide +kernel
theorem dX7_guestOf_37 : decode cX7_guestOf 37 = .ok (.invokevirtual 164, 3) := by decide +kernel
theorem dX7_guestOf_40 : decode cX7_guestOf 40 = .ok (.goto 4, 3) := by decide +kernel
theorem dX7_guestOf_43 : decode cX7_guestOf 43 = .ok (.iconst 0, 1) := by decide +kernel
theorem dX7_guestOf_44 : decode cX7_guestOf 44 = .ok (.ireturn, 1) := by decide +kernel
theorem dX7_ofTable_0 : decode cX7_ofTable 0 = .ok (.iconst 0, 1) := by decide +kernel
theorem dX7_ofTable_1 : decode cX7_ofTable 1 = .ok (.istore_n 3, 1) := by decide +kernel
theorem dX7_ofTable_2 : decode cX7_ofTable 2 = .ok (.iconst 0, 1) := by decide +kernel
theorem dX7_ofTable_3 : decode cX7_ofTable 3 = .ok (.istore 4, 2) := by decide +kernel
theorem dX7_ofTable_5 : decode cX7_ofTable 5 = .ok (.iconst 0, 1) := by decide +kernel
theorem dX7_ofTable_6 : decode cX7_ofTable 6 = .ok (.istore 5, 2) := by decide +kernel
theorem dX7_ofTable_8 : decode cX7_ofTable 8 = .ok (.iconst 0, 1) := by decide +kernel
theorem dX7_ofTable_9 : decode cX7_ofTable 9 = .ok (.istore 6, 2) := by decide +kernel
theorem dX7_ofTable_11 : decode cX7_ofTable 11 = .ok (.iload 6, 2) := by decide +kernel
theorem dX7_ofTable_13 : decode cX7_ofTable 13 = .ok (.aload_n 0, 1) := by decide +kernel
theorem dX7_ofTable_14 : decode cX7_ofTable 14 = .ok (.getfield 7, 3) := by decide +kernel
theorem dX7_ofTable_17 : decode cX7_ofTable 17 = .ok (.bipush 18, 2) := by decide +kernel
theorem dX7_ofTable_19 : decode cX7_ofTable 19 = .ok (.iload_n 1, 1) := by decide +kernel
theorem dX7_ofTable_20 : decode cX7_ofTable 20 = .ok (.iadd, 1) := by decide +kernel
theorem dX7_ofTable_21 : decode cX7_ofTable 21 = .ok (.iaload, 1) := by decide +kernel
theorem dX7_ofTable_22 : decode cX7_ofTable 22 = .ok (.if_icmp .ge 82, 3) := by decide +kernel
theorem dX7_ofTable_25 : decode cX7_ofTable 25 = .ok (.aload_n 0, 1) := by decide +kernel
theorem dX7_ofTable_26 : decode cX7_ofTable 26 = .ok (.iconst 0, 1) := by decide +kernel
theorem dX7_ofTable_27 : decode cX7_ofTable 27 = .ok (.iload_n 1, 1) := by decide +kernel
theorem dX7_ofTable_28 : decode cX7_ofTable 28 = .ok (.iload 6, 2) := by decide +kernel
theorem dX7_ofTable_30 : decode cX7_ofTable 30 = .ok (.invokevirtual 35, 3) := by decide +kernel
theorem dX7_ofTable_33 : decode cX7_ofTable 33 = .ok (.istore 7, 2) := by decide +kernel
theorem dX7_ofTable_35 : decode cX7_ofTable 35 = .ok (.iload_n 3, 1) := by decide +kernel
theorem dX7_ofTable_36 : decode cX7_ofTable 36 = .ok (.iload 7, 2) := by decide +kernel
theorem dX7_ofTable_38 : decode cX7_ofTable 38 = .ok (.iconst (-1), 1) := by decide +kernel
theorem dX7_ofTable_39 : decode cX7_ofTable 39 = .ok (.if_icmp .ne 7, 3) := by decide +kernel
theorem dX7_ofTable_42 : decode cX7_ofTable 42 = .ok (.iconst 0, 1) := by decide +kernel
theorem dX7_ofTable_43 : decode cX7_ofTable 43 = .ok (.goto 4, 3) := by decide +kernel
theorem dX7_ofTable_46 : decode cX7_ofTable 46 = .ok (.iconst 1, 1) := by decide +kernel
theorem dX7_ofTable_47 : decode cX7_ofTable 47 = .ok (.iadd, 1) := by decide +kernel
theorem dX7_ofTable_48 : decode cX7_ofTable 48 = .ok (.istore_n 3, 1) := by decide +kernel
theorem dX7_ofTable_49 : decode cX7_ofTable 49 = .ok (.iload 4, 2) := by decide +kernel
theorem dX7_ofTable_51 : decode cX7_ofTable 51 = .ok (.iload 7, 2) := by decide +kernel
theorem dX7_ofTable_53 : decode cX7_ofTable 53 = .ok (.iconst (-1), 1) := by decide +kernel
theorem dX7_ofTable_54 : decode cX7_ofTable 54 = .ok (.if_icmp .ne 7, 3) := by decide +kernel
theorem dX7_ofTable_57 : decode cX7_ofTable 57 = .ok (.iconst 0, 1) := by decide +kernel
theorem dX7_ofTable_58 : decode cX7_ofTable 58 = .ok (.goto 13, 3) := by decide +kernel
theorem dX7_ofTable_61 : decode cX7_ofTable 61 = .ok (.iconst 1, 1) := by decide +kernel
theorem dX7_ofTable_62 : decode cX7_ofTable 62 = .ok (.aload_n 0, 1) := by decide +kernel
theorem dX7_ofTable_63 : decode cX7_ofTable 63 = .ok (.iconst 0, 1) := by decide +kernel
theorem dX7_ofTable_64 : decode cX7_ofTable 64 = .ok (.iload 7, 2) := by decide +kernel
theorem dX7_ofTable_66 : decode cX7_ofTable 66 = .ok (.iconst 0, 1) := by decide +kernel
theorem dX7_ofTable_67 : decode cX7_ofTable 67 = .ok (.invokevirtual 31, 3) := by decide +kernel
theorem dX7_ofTable_70 : decode cX7_ofTable 70 = .ok (.ishl, 1) := by decide +kernel
theorem dX7_ofTable_71 : decode cX7_ofTable 71 = .ok (.ior, 1) := by decide +kernel
theorem dX7_ofTable_72 : decode cX7_ofTable 72 = .ok (.istore 4, 2) := by decide +kernel
theorem dX7_ofTable_74 : decode cX7_ofTable 74 = .ok (.iload 5, 2) := by decide +kernel
theorem dX7_ofTable_76 : decode cX7_ofTable 76 = .ok (.iload 7, 2) := by decide +kernel
theorem dX7_ofTable_78 : decode cX7_ofTable 78 = .ok (.iconst (-1), 1) := by decide +kernel
theorem dX7_ofTable_79 : decode cX7_ofTable 79 = .ok (.if_icmp .ne 15, 3) := by decide +kernel
theorem dX7_ofTable_82 : decode cX7_ofTable 82 = .ok (.iload 6, 2) := by decide +kernel
theorem dX7_ofTable_84 : decode cX7_ofTable 84 = .ok (.invokestatic 38, 3) := by decide +kernel
theorem dX7_ofTable_87 : decode cX7_ofTable 87 = .ok (.ifCond .ne 7, 3) := by decide +kernel
theorem dX7_ofTable_90 : decode cX7_ofTable 90 = .ok (.iconst 1, 1) := by decide +kernel
theorem dX7_ofTable_91 : decode cX7_ofTable 91 = .ok (.goto 4, 3) := by decide +kernel
theorem dX7_ofTable_94 : decode cX7_ofTable 94 = .ok (.iconst 0, 1) := by decide +kernel
theorem dX7_ofTable_95 : decode cX7_ofTable 95 = .ok (.iadd, 1) := by decide +kernel
theorem dX7_ofTable_96 : decode cX7_ofTable 96 = .ok (.istore 5, 2) := by decide +kernel
theorem dX7_ofTable_98 : decode cX7_ofTable 98 = .ok (.iinc 6 1, 3) := by decide +kernel
theorem dX7_ofTable_101 : decode cX7_ofTable 101 = .ok (.goto (-90), 3) := by decide +kernel
theorem dX7_ofTable_104 : decode cX7_ofTable 104 = .ok (.iload_n 2, 1) := by decide +kernel
theorem dX7_ofTable_105 : decode cX7_ofTable 105 = .ok (.tableswitch 53 0 3 #[31, 41, 43, 46], 31) := by decide +kernel
theorem dX7_ofTable_136 : decode cX7_ofTable 136 = .ok (.aload_n 0, 1) := by decide +kernel
theorem dX7_ofTable_137 : decode cX7_ofTable 137 = .ok (.getfield 7, 3) := by decide +kernel
theorem dX7_ofTable_140 : decode cX7_ofTable 140 = .ok (.bipush 18, 2) := by decide +kernel
theorem dX7_ofTable_142 : decode cX7_ofTable 142 = .ok (.iload_n 1, 1) := by decide +kernel
theorem dX7_ofTable_143 : decode cX7_ofTable 143 = .ok (.iadd, 1) := by decide +kernel
theorem dX7_ofTable_144 : decode cX7_ofTable 144 = .ok (.iaload, 1) := by decide +kernel
theorem dX7_ofTable_145 : decode cX7_ofTable 145 = .ok (.ireturn, 1) := by decide +kernel
theorem dX7_ofTable_146 : decode cX7_ofTable 146 = .ok (.iload_n 3, 1) := by decide +kernel
theorem dX7_ofTable_147 : decode cX7_ofTable 147 = .ok (.ireturn, 1) := by decide +kernel
theorem dX7_ofTable_148 : decode cX7_ofTable 148 = .ok (.iload 4, 2) := by decide +kernel
theorem dX7_ofTable_150 : decode cX7_ofTable 150 = .ok (.ireturn, 1) := by decide +kernel
theorem dX7_ofTable_151 : decode cX7_ofTable 151 = .ok (.aload_n 0, 1) := by decide +kernel
theorem dX7_ofTable_152 : decode cX7_ofTable 152 = .ok (.iconst 0, 1) := by decide +kernel
theorem dX7_ofTable_153 : decode cX7_ofTable 153 = .ok (.iload_n 1, 1) := by decide +kernel
theorem dX7_ofTable_154 : decode cX7_ofTable 154 = .ok (.invokevirtual 58, 3) := by decide +kernel
theorem dX7_ofTable_157 : decode cX7_ofTable 157 = .ok (.ireturn, 1) := by decide +kernel
theorem dX7_ofTable_158 : decode cX7_ofTable 158 = .ok (.iload 5, 2) := by decide +kernel
theorem dX7_ofTable_160 : decode cX7_ofTable 160 = .ok (.ireturn, 1) := by decide +kernel
theorem dX7_tableOf_0 : decode cX7_tableOf 0 = .ok (.aload_n 0, 1) := by decide +kernel
theorem dX7_tableOf_1 : decode cX7_tableOf 1 = .ok (.aload_n 0, 1) := by decide +kernel
theorem dX7_tableOf_2 : decode cX7_tableOf 2 = .ok (.iload_n 1, 1) := by decide +kernel
theorem dX7_tableOf_3 : decode cX7_tableOf 3 = .ok (.invokevirtual 28, 3) := by decide +kernel
theorem dX7_tableOf_6 : decode cX7_tableOf 6 = .ok (.ifCond .ne 7, 3) := by decide +kernel
theorem dX7_tableOf_9 : decode cX7_tableOf 9 = .ok (.iconst 1, 1) := by decide +kernel
theorem dX7_tableOf_10 : decode cX7_tableOf 10 = .ok (.goto 17, 3) := by decide +kernel
theorem dX7_tableOf_13 : decode cX7_tableOf 13 = .ok (.iload_n 2, 1) := by decide +kernel
theorem dX7_tableOf_14 : decode cX7_tableOf 14 = .ok (.iconst 0, 1) := by decide +kernel
theorem dX7_tableOf_15 : decode cX7_tableOf 15 = .ok (.iconst 4, 1) := by decide +kernel
theorem dX7_tableOf_16 : decode cX7_tableOf 16 = .ok (.invokestatic 20, 3) := by decide +kernel
theorem dX7_tableOf_19 : decode cX7_tableOf 19 = .ok (.ifCond .ne 7, 3) := by decide +kernel
theorem dX7_tableOf_22 : decode cX7_tableOf 22 = .ok (.iconst 2, 1) := by decide +kernel
theorem dX7_tableOf_23 : decode cX7_tableOf 23 = .ok (.goto 4, 3) := by decide +kernel
theorem dX7_tableOf_26 : decode cX7_tableOf 26 = .ok (.iconst 0, 1) := by decide +kernel
theorem dX7_tableOf_27 : decode cX7_tableOf 27 = .ok (.invokevirtual 90, 3) := by decide +kernel
theorem dX7_tableOf_30 : decode cX7_tableOf 30 = .ok (.ifCond .eq 12, 3) := by decide +kernel
theorem dX7_tableOf_33 : decode cX7_tableOf 33 = .ok (.aload_n 0, 1) := by decide +kernel
theorem dX7_tableOf_34 : decode cX7_tableOf 34 = .ok (.iload_n 1, 1) := by decide +kernel
theorem dX7_tableOf_35 : decode cX7_tableOf 35 = .ok (.iload_n 2, 1) := by decide +kernel
theorem dX7_tableOf_36 : decode cX7_tableOf 36 = .ok (.invokevirtual 167, 3) := by decide +kernel
theorem dX7_tableOf_39 : decode cX7_tableOf 39 = .ok (.goto 4, 3) := by decide +kernel
theorem dX7_tableOf_42 : decode cX7_tableOf 42 = .ok (.iconst 0, 1) := by decide +kernel
theorem dX7_tableOf_43 : decode cX7_tableOf 43 = .ok (.ireturn, 1) := by decide +kernel
theorem dX7_who_0 : decode cX7_who 0 = .ok (.aload_n 0, 1) := by decide +kernel
theorem dX7_who_1 : decode cX7_who 1 = .ok (.aload_n 0, 1) := by decide +kernel
theorem dX7_who_2 : decode cX7_who 2 = .ok (.iload_n 1, 1) := by decide +kernel
theorem dX7_who_3 : decode cX7_who 3 = .ok (.iload_n 2, 1) := by decide +kernel
theorem dX7_who_4 : decode cX7_who 4 = .ok (.invokevirtual 107, 3) := by decide +kernel
theorem dX7_who_7 : decode cX7_who 7 = .ok (.ifCond .eq 7, 3) := by decide +kernel
theorem dX7_who_10 : decode cX7_who 10 = .ok (.iconst 0, 1) := by decide +kernel
theorem dX7_who_11 : decode cX7_who 11 = .ok (.goto 4, 3) := by decide +kernel
theorem dX7_who_14 : decode cX7_who 14 = .ok (.iconst 1, 1) := by decide +kernel
theorem dX7_who_15 : decode cX7_who 15 = .ok (.invokevirtual 90, 3) := by decide +kernel
theorem dX7_who_18 : decode cX7_who 18 = .ok (.ifCond .eq 13, 3) := by decide +kernel
theorem dX7_who_21 : decode cX7_who 21 = .ok (.aload_n 0, 1) := by decide +kernel
theorem dX7_who_22 : decode cX7_who 22 = .ok (.iconst 0, 1) := by decide +kernel
theorem dX7_who_23 : decode cX7_who 23 = .ok (.iload_n 1, 1) := by decide +kernel
theorem dX7_who_24 : decode cX7_who 24 = .ok (.iload_n 2, 1) := by decide +kernel
theorem dX7_who_25 : decode cX7_who 25 = .ok (.invokevirtual 35, 3) := by decide +kernel
theorem dX7_who_28 : decode cX7_who 28 = .ok (.goto 4, 3) := by decide +kernel
theorem dX7_who_31 : decode cX7_who 31 = .ok (.iconst 0, 1) := by decide +kernel
theorem dX7_who_32 : decode cX7_who 32 = .ok (.ireturn, 1) := by decide +kernel
theorem dX7_seated_0 : decode cX7_seated 0 = .ok (.aload_n 0, 1) := by decide +kernel
theorem dX7_seated_1 : decode cX7_seated 1 = .ok (.iload_n 1, 1) := by decide +kernel
theorem dX7_seated_2 : decode cX7_seated 2 = .ok (.ifCond .ge 7, 3) := by decide +kernel
theorem dX7_seated_5 : decode cX7_seated 5 = .ok (.iconst 1, 1) := by decide +kernel
theorem dX7_seated_6 : decode cX7_seated 6 = .ok (.goto 4, 3) := by decide +kernel
theorem dX7_seated_9 : decode cX7_seated 9 = .ok (.iconst 0, 1) := by decide +kernel
theorem dX7_seated_10 : decode cX7_seated 10 = .ok (.invokevirtual 90, 3) := by decide +kernel
theorem dX7_seated_13 : decode cX7_seated 13 = .ok (.ifCond .ne 5, 3) := by decide +kernel
theorem dX7_seated_16 : decode cX7_seated 16 = .ok (.iconst 0, 1) := by decide +kernel
theorem dX7_seated_17 : decode cX7_seated 17 = .ok (.ireturn, 1) := by decide +kernel
theorem dX7_seated_18 : decode cX7_seated 18 = .ok (.iload_n 1, 1) := by decide +kernel
theorem dX7_seated_19 : decode cX7_seated 19 = .ok (.aload_n 0, 1) := by decide +kernel
theorem dX7_seated_20 : decode cX7_seated 20 = .ok (.getfield 7, 3) := by decide +kernel
theorem dX7_seated_23 : decode cX7_seated 23 = .ok (.iconst 3, 1) := by decide +kernel
theorem dX7_seated_24 : decode cX7_seated 24 = .ok (.iaload, 1) := by decide +kernel
theorem dX7_seated_25 : decode cX7_seated 25 = .ok (.if_icmp .ge 15, 3) := by decide +kernel
theorem dX7_seated_28 : decode cX7_seated 28 = .ok (.aload_n 0, 1) := by decide +kernel
theorem dX7_seated_29 : decode cX7_seated 29 = .ok (.getfield 7, 3) := by decide +kernel
theorem dX7_seated_32 : decode cX7_seated 32 = .ok (.bipush 22, 2) := by decide +kernel
theorem dX7_seated_34 : decode cX7_seated 34 = .ok (.iload_n 1, 1) := by decide +kernel
theorem dX7_seated_35 : decode cX7_seated 35 = .ok (.iadd, 1) := by decide +kernel
theorem dX7_seated_36 : decode cX7_seated 36 = .ok (.iaload, 1) := by decide +kernel
theorem dX7_seated_37 : decode cX7_seated 37 = .ok (.goto 4, 3) := by decide +kernel
theorem dX7_seated_40 : decode cX7_seated 40 = .ok (.iconst (-1), 1) := by decide +kernel
theorem dX7_seated_41 : decode cX7_seated 41 = .ok (.ireturn, 1) := by decide +kernel
theorem dX7_feudAt_0 : decode cX7_feudAt 0 = .ok (.aload_n 0, 1) := by decide +kernel
theorem dX7_feudAt_1 : decode cX7_feudAt 1 = .ok (.iload_n 1, 1) := by decide +kernel
theorem dX7_feudAt_2 : decode cX7_feudAt 2 = .ok (.ifCond .ge 7, 3) := by decide +kernel
theorem dX7_feudAt_5 : decode cX7_feudAt 5 = .ok (.iconst 1, 1) := by decide +kernel
theorem dX7_feudAt_6 : decode cX7_feudAt 6 = .ok (.goto 4, 3) := by decide +kernel
theorem dX7_feudAt_9 : decode cX7_feudAt 9 = .ok (.iconst 0, 1) := by decide +kernel
theorem dX7_feudAt_10 : decode cX7_feudAt 10 = .ok (.invokevirtual 90, 3) := by decide +kernel
theorem dX7_feudAt_13 : decode cX7_feudAt 13 = .ok (.ifCond .ne 5, 3) := by decide +kernel
theorem dX7_feudAt_16 : decode cX7_feudAt 16 = .ok (.iconst 0, 1) := by decide +kernel
theorem dX7_feudAt_17 : decode cX7_feudAt 17 = .ok (.ireturn, 1) := by decide +kernel
theorem dX7_feudAt_18 : decode cX7_feudAt 18 = .ok (.iload_n 1, 1) := by decide +kernel
theorem dX7_feudAt_19 : decode cX7_feudAt 19 = .ok (.aload_n 0, 1) := by decide +kernel
theorem dX7_feudAt_20 : decode cX7_feudAt 20 = .ok (.getfield 7, 3) := by decide +kernel
theorem dX7_feudAt_23 : decode cX7_feudAt 23 = .ok (.iconst 2, 1) := by decide +kernel
theorem dX7_feudAt_24 : decode cX7_feudAt 24 = .ok (.iaload, 1) := by decide +kernel
theorem dX7_feudAt_25 : decode cX7_feudAt 25 = .ok (.if_icmp .ge 15, 3) := by decide +kernel
theorem dX7_feudAt_28 : decode cX7_feudAt 28 = .ok (.aload_n 0, 1) := by decide +kernel
theorem dX7_feudAt_29 : decode cX7_feudAt 29 = .ok (.getfield 7, 3) := by decide +kernel
theorem dX7_feudAt_32 : decode cX7_feudAt 32 = .ok (.bipush 10, 2) := by decide +kernel
theorem dX7_feudAt_34 : decode cX7_feudAt 34 = .ok (.iload_n 1, 1) := by decide +kernel
theorem dX7_feudAt_35 : decode cX7_feudAt 35 = .ok (.iadd, 1) := by decide +kernel
theorem dX7_feudAt_36 : decode cX7_feudAt 36 = .ok (.iaload, 1) := by decide +kernel
theorem dX7_feudAt_37 : decode cX7_feudAt 37 = .ok (.goto 4, 3) := by decide +kernel
theorem dX7_feudAt_40 : decode cX7_feudAt 40 = .ok (.iconst (-1), 1) := by decide +kernel
theorem dX7_feudAt_41 : decode cX7_feudAt 41 = .ok (.ireturn, 1) := by decide +kernel
theorem dX7_wishes_0 : decode cX7_wishes 0 = .ok (.iconst 0, 1) := by decide +kernel
theorem dX7_wishes_1 : decode cX7_wishes 1 = .ok (.istore_n 2, 1) := by decide +kernel
theorem dX7_wishes_2 : decode cX7_wishes 2 = .ok (.iconst 0, 1) := by decide +kernel
theorem dX7_wishes_3 : decode cX7_wishes 3 = .ok (.istore_n 3, 1) := by decide +kernel
theorem dX7_wishes_4 : decode cX7_wishes 4 = .ok (.iload_n 3, 1) := by decide +kernel
theorem dX7_wishes_5 : decode cX7_wishes 5 = .ok (.aload_n 0, 1) := by decide +kernel
theorem dX7_wishes_6 : decode cX7_wishes 6 = .ok (.getfield 7, 3) := by decide +kernel
theorem dX7_wishes_9 : decode cX7_wishes 9 = .ok (.iconst 0, 1) := by decide +kernel
theorem dX7_wishes_10 : decode cX7_wishes 10 = .ok (.iaload, 1) := by decide +kernel
theorem dX7_wishes_11 : decode cX7_wishes 11 = .ok (.if_icmp .ge 61, 3) := by decide +kernel
theorem dX7_wishes_14 : decode cX7_wishes 14 = .ok (.iload_n 1, 1) := by decide +kernel
theorem dX7_wishes_15 : decode cX7_wishes 15 = .ok (.ifCond .eq 20, 3) := by decide +kernel
theorem dX7_wishes_18 : decode cX7_wishes 18 = .ok (.aload_n 0, 1) := by decide +kernel
theorem dX7_wishes_19 : decode cX7_wishes 19 = .ok (.iconst 0, 1) := by decide +kernel
theorem dX7_wishes_20 : decode cX7_wishes 20 = .ok (.iload_n 3, 1) := by decide +kernel
theorem dX7_wishes_21 : decode cX7_wishes 21 = .ok (.invokevirtual 48, 3) := by decide +kernel
theorem dX7_wishes_24 : decode cX7_wishes 24 = .ok (.ifCond .le 7, 3) := by decide +kernel
theorem dX7_wishes_27 : decode cX7_wishes 27 = .ok (.iconst 1, 1) := by decide +kernel
theorem dX7_wishes_28 : decode cX7_wishes 28 = .ok (.goto 23, 3) := by decide +kernel
theorem dX7_wishes_31 : decode cX7_wishes 31 = .ok (.iconst 0, 1) := by decide +kernel
theorem dX7_wishes_32 : decode cX7_wishes 32 = .ok (.goto 19, 3) := by decide +kernel
theorem dX7_wishes_35 : decode cX7_wishes 35 = .ok (.aload_n 0, 1) := by decide +kernel
theorem dX7_wishes_36 : decode cX7_wishes 36 = .ok (.iconst 0, 1) := by decide +kernel
theorem dX7_wishes_37 : decode cX7_wishes 37 = .ok (.iload_n 3, 1) := by decide +kernel
theorem dX7_wishes_38 : decode cX7_wishes 38 = .ok (.iconst 2, 1) := by decide +kernel
theorem dX7_wishes_39 : decode cX7_wishes 39 = .ok (.invokevirtual 31, 3) := by decide +kernel
theorem dX7_wishes_42 : decode cX7_wishes 42 = .ok (.iconst (-1), 1) := by decide +kernel
theorem dX7_wishes_43 : decode cX7_wishes 43 = .ok (.if_icmp .eq 7, 3) := by decide +kernel
theorem dX7_wishes_46 : decode cX7_wishes 46 = .ok (.iconst 1, 1) := by decide +kernel
theorem dX7_wishes_47 : decode cX7_wishes 47 = .ok (.goto 4, 3) := by decide +kernel
theorem dX7_wishes_50 : decode cX7_wishes 50 = .ok (.iconst 0, 1) := by decide +kernel
theorem dX7_wishes_51 : decode cX7_wishes 51 = .ok (.istore 4, 2) := by decide +kernel
theorem dX7_wishes_53 : decode cX7_wishes 53 = .ok (.iload_n 2, 1) := by decide +kernel
theorem dX7_wishes_54 : decode cX7_wishes 54 = .ok (.iload 4, 2) := by decide +kernel
theorem dX7_wishes_56 : decode cX7_wishes 56 = .ok (.ifCond .eq 7, 3) := by decide +kernel
theorem dX7_wishes_59 : decode cX7_wishes 59 = .ok (.iconst 1, 1) := by decide +kernel
theorem dX7_wishes_60 : decode cX7_wishes 60 = .ok (.goto 4, 3) := by decide +kernel
theorem dX7_wishes_63 : decode cX7_wishes 63 = .ok (.iconst 0, 1) := by decide +kernel
theorem dX7_wishes_64 : decode cX7_wishes 64 = .ok (.iadd, 1) := by decide +kernel
theorem dX7_wishes_65 : decode cX7_wishes 65 = .ok (.istore_n 2, 1) := by decide +kernel
theorem dX7_wishes_66 : decode cX7_wishes 66 = .ok (.iinc 3 1, 3) := by decide +kernel
theorem dX7_wishes_69 : decode cX7_wishes 69 = .ok (.goto (-65), 3) := by decide +kernel
theorem dX7_wishes_72 : decode cX7_wishes 72 = .ok (.iload_n 2, 1) := by decide +kernel
theorem dX7_wishes_73 : decode cX7_wishes 73 = .ok (.ireturn, 1) := by decide +kernel
theorem dX7_counted_0 : decode cX7_counted 0 = .ok (.iload_n 1, 1) := by decide +kernel
theorem dX7_counted_1 : decode cX7_counted 1 = .ok (.tableswitch 85 4 13 #[55, 55, 62, 68, 68, 85, 85, 85, 85, 80], 55) := by decide +kernel
theorem dX7_counted_56 : decode cX7_counted 56 = .ok (.aload_n 0, 1) := by decide +kernel
theorem dX7_counted_57 : decode cX7_counted 57 = .ok (.iconst 0, 1) := by decide +kernel
theorem dX7_counted_58 : decode cX7_counted 58 = .ok (.iconst (-1), 1) := by decide +kernel
theorem dX7_counted_59 : decode cX7_counted 59 = .ok (.invokevirtual 58, 3) := by decide +kernel
theorem dX7_counted_62 : decode cX7_counted 62 = .ok (.ireturn, 1) := by decide +kernel
theorem dX7_counted_63 : decode cX7_counted 63 = .ok (.aload_n 0, 1) := by decide +kernel
theorem dX7_counted_64 : decode cX7_counted 64 = .ok (.iconst 1, 1) := by decide +kernel
theorem dX7_counted_65 : decode cX7_counted 65 = .ok (.invokevirtual 170, 3) := by decide +kernel
theorem dX7_counted_68 : decode cX7_counted 68 = .ok (.ireturn, 1) := by decide +kernel
theorem dX7_counted_69 : decode cX7_counted 69 = .ok (.aload_n 0, 1) := by decide +kernel
theorem dX7_counted_70 : decode cX7_counted 70 = .ok (.getfield 7, 3) := by decide +kernel
theorem dX7_counted_73 : decode cX7_counted 73 = .ok (.iconst 4, 1) := by decide +kernel
theorem dX7_counted_74 : decode cX7_counted 74 = .ok (.iload_n 1, 1) := by decide +kernel
theorem dX7_counted_75 : decode cX7_counted 75 = .ok (.iadd, 1) := by decide +kernel
theorem dX7_counted_76 : decode cX7_counted 76 = .ok (.bipush 7, 2) := by decide +kernel
theorem dX7_counted_78 : decode cX7_counted 78 = .ok (.isub, 1) := by decide +kernel
theorem dX7_counted_79 : decode cX7_counted 79 = .ok (.iaload, 1) := by decide +kernel
theorem dX7_counted_80 : decode cX7_counted 80 = .ok (.ireturn, 1) := by decide +kernel
theorem dX7_counted_81 : decode cX7_counted 81 = .ok (.aload_n 0, 1) := by decide +kernel
theorem dX7_counted_82 : decode cX7_counted 82 = .ok (.getfield 84, 3) := by decide +kernel
theorem dX7_counted_85 : decode cX7_counted 85 = .ok (.ireturn, 1) := by decide +kernel
theorem dX7_counted_86 : decode cX7_counted 86 = .ok (.iload_n 1, 1) := by decide +kernel
theorem dX7_counted_87 : decode cX7_counted 87 = .ok (.iconst 4, 1) := by decide +kernel
theorem dX7_counted_88 : decode cX7_counted 88 = .ok (.if_icmp .ge 12, 3) := by decide +kernel
theorem dX7_counted_91 : decode cX7_counted 91 = .ok (.aload_n 0, 1) := by decide +kernel
theorem dX7_counted_92 : decode cX7_counted 92 = .ok (.getfield 7, 3) := by decide +kernel
theorem dX7_counted_95 : decode cX7_counted 95 = .ok (.iload_n 1, 1) := by decide +kernel
theorem dX7_counted_96 : decode cX7_counted 96 = .ok (.iaload, 1) := by decide +kernel
theorem dX7_counted_97 : decode cX7_counted 97 = .ok (.goto 15, 3) := by decide +kernel
theorem dX7_counted_100 : decode cX7_counted 100 = .ok (.aload_n 0, 1) := by decide +kernel
theorem dX7_counted_101 : decode cX7_counted 101 = .ok (.getfield 7, 3) := by decide +kernel
theorem dX7_counted_104 : decode cX7_counted 104 = .ok (.bipush 6, 2) := by decide +kernel
theorem dX7_counted_106 : decode cX7_counted 106 = .ok (.iload_n 1, 1) := by decide +kernel
theorem dX7_counted_107 : decode cX7_counted 107 = .ok (.iadd, 1) := by decide +kernel
theorem dX7_counted_108 : decode cX7_counted 108 = .ok (.bipush 9, 2) := by decide +kernel
theorem dX7_counted_110 : decode cX7_counted 110 = .ok (.isub, 1) := by decide +kernel
theorem dX7_counted_111 : decode cX7_counted 111 = .ok (.iaload, 1) := by decide +kernel
theorem dX7_counted_112 : decode cX7_counted 112 = .ok (.ireturn, 1) := by decide +kernel
theorem dX7_count_0 : decode cX7_count 0 = .ok (.aload_n 0, 1) := by decide +kernel
theorem dX7_count_1 : decode cX7_count 1 = .ok (.iload_n 1, 1) := by decide +kernel
theorem dX7_count_2 : decode cX7_count 2 = .ok (.iconst 0, 1) := by decide +kernel
theorem dX7_count_3 : decode cX7_count 3 = .ok (.bipush 13, 2) := by decide +kernel
theorem dX7_count_5 : decode cX7_count 5 = .ok (.invokestatic 20, 3) := by decide +kernel
theorem dX7_count_8 : decode cX7_count 8 = .ok (.ifCond .eq 7, 3) := by decide +kernel
theorem dX7_count_11 : decode cX7_count 11 = .ok (.iconst 0, 1) := by decide +kernel
theorem dX7_count_12 : decode cX7_count 12 = .ok (.goto 4, 3) := by decide +kernel
theorem dX7_count_15 : decode cX7_count 15 = .ok (.iconst 1, 1) := by decide +kernel
theorem dX7_count_16 : decode cX7_count 16 = .ok (.invokevirtual 90, 3) := by decide +kernel
theorem dX7_count_19 : decode cX7_count 19 = .ok (.ifCond .eq 11, 3) := by decide +kernel
theorem dX7_count_22 : decode cX7_count 22 = .ok (.aload_n 0, 1) := by decide +kernel
theorem dX7_count_23 : decode cX7_count 23 = .ok (.iload_n 1, 1) := by decide +kernel
theorem dX7_count_24 : decode cX7_count 24 = .ok (.invokevirtual 174, 3) := by decide +kernel
theorem dX7_count_27 : decode cX7_count 27 = .ok (.goto 4, 3) := by decide +kernel
theorem dX7_count_30 : decode cX7_count 30 = .ok (.iconst 0, 1) := by decide +kernel
theorem dX7_count_31 : decode cX7_count 31 = .ok (.ireturn, 1) := by decide +kernel
theorem dX7_whyNot_0 : decode cX7_whyNot 0 = .ok (.aload_n 0, 1) := by decide +kernel
theorem dX7_whyNot_1 : decode cX7_whyNot 1 = .ok (.aload_n 0, 1) := by decide +kernel
theorem dX7_whyNot_2 : decode cX7_whyNot 2 = .ok (.iload_n 1, 1) := by decide +kernel
theorem dX7_whyNot_3 : decode cX7_whyNot 3 = .ok (.invokevirtual 96, 3) := by decide +kernel
theorem dX7_whyNot_6 : decode cX7_whyNot 6 = .ok (.ifCond .eq 16, 3) := by decide +kernel
theorem dX7_whyNot_9 : decode cX7_whyNot 9 = .ok (.aload_n 0, 1) := by decide +kernel
theorem dX7_whyNot_10 : decode cX7_whyNot 10 = .ok (.iload_n 2, 1) := by decide +kernel
theorem dX7_whyNot_11 : decode cX7_whyNot 11 = .ok (.iload_n 3, 1) := by decide +kernel
theorem dX7_whyNot_12 : decode cX7_whyNot 12 = .ok (.invokevirtual 107, 3) := by decide +kernel
theorem dX7_whyNot_15 : decode cX7_whyNot 15 = .ok (.ifCond .eq 7, 3) := by decide +kernel
theorem dX7_whyNot_18 : decode cX7_whyNot 18 = .ok (.iconst 0, 1) := by decide +kernel
theorem dX7_whyNot_19 : decode cX7_whyNot 19 = .ok (.goto 4, 3) := by decide +kernel
theorem dX7_whyNot_22 : decode cX7_whyNot 22 = .ok (.iconst 1, 1) := by decide +kernel
theorem dX7_whyNot_23 : decode cX7_whyNot 23 = .ok (.invokevirtual 90, 3) := by decide +kernel
theorem dX7_whyNot_26 : decode cX7_whyNot 26 = .ok (.ifCond .eq 14, 3) := by decide +kernel
theorem dX7_whyNot_29 : decode cX7_whyNot 29 = .ok (.aload_n 0, 1) := by decide +kernel
theorem dX7_whyNot_30 : decode cX7_whyNot 30 = .ok (.iconst 0, 1) := by decide +kernel
theorem dX7_whyNot_31 : decode cX7_whyNot 31 = .ok (.iload_n 1, 1) := by decide +kernel
theorem dX7_whyNot_32 : decode cX7_whyNot 32 = .ok (.iload_n 2, 1) := by decide +kernel
theorem dX7_whyNot_33 : decode cX7_whyNot 33 = .ok (.iload_n 3, 1) := by decide +kernel
theorem dX7_whyNot_34 : decode cX7_whyNot 34 = .ok (.invokevirtual 61, 3) := by decide +kernel
theorem dX7_whyNot_37 : decode cX7_whyNot 37 = .ok (.goto 4, 3) := by decide +kernel
theorem dX7_whyNot_40 : decode cX7_whyNot 40 = .ok (.iconst 0, 1) := by decide +kernel
theorem dX7_whyNot_41 : decode cX7_whyNot 41 = .ok (.ireturn, 1) := by decide +kernel
theorem dX7_ifSat_0 : decode cX7_ifSat 0 = .ok (.aload_n 0, 1) := by decide +kernel
theorem dX7_ifSat_1 : decode cX7_ifSat 1 = .ok (.aload_n 0, 1) := by decide +kernel
theorem dX7_ifSat_2 : decode cX7_ifSat 2 = .ok (.iload_n 1, 1) := by decide +kernel
theorem dX7_ifSat_3 : decode cX7_ifSat 3 = .ok (.invokevirtual 96, 3) := by decide +kernel
theorem dX7_ifSat_6 : decode cX7_ifSat 6 = .ok (.ifCond .eq 16, 3) := by decide +kernel
theorem dX7_ifSat_9 : decode cX7_ifSat 9 = .ok (.aload_n 0, 1) := by decide +kernel
theorem dX7_ifSat_10 : decode cX7_ifSat 10 = .ok (.iload_n 2, 1) := by decide +kernel
theorem dX7_ifSat_11 : decode cX7_ifSat 11 = .ok (.iload_n 3, 1) := by decide +kernel
theorem dX7_ifSat_12 : decode cX7_ifSat 12 = .ok (.invokevirtual 107, 3) := by decide +kernel
theorem dX7_ifSat_15 : decode cX7_ifSat 15 = .ok (.ifCond .eq 7, 3) := by decide +kernel
theorem dX7_ifSat_18 : decode cX7_ifSat 18 = .ok (.iconst 0, 1) := by decide +kernel
theorem dX7_ifSat_19 : decode cX7_ifSat 19 = .ok (.goto 4, 3) := by decide +kernel
theorem dX7_ifSat_22 : decode cX7_ifSat 22 = .ok (.iconst 1, 1) := by decide +kernel
theorem dX7_ifSat_23 : decode cX7_ifSat 23 = .ok (.invokevirtual 90, 3) := by decide +kernel
theorem dX7_ifSat_26 : decode cX7_ifSat 26 = .ok (.ifCond .ne 5, 3) := by decide +kernel
theorem dX7_ifSat_29 : decode cX7_ifSat 29 = .ok (.iconst 0, 1) := by decide +kernel
theorem dX7_ifSat_30 : decode cX7_ifSat 30 = .ok (.ireturn, 1) := by decide +kernel
theorem dX7_ifSat_31 : decode cX7_ifSat 31 = .ok (.aload_n 0, 1) := by decide +kernel
theorem dX7_ifSat_32 : decode cX7_ifSat 32 = .ok (.iconst 0, 1) := by decide +kernel
theorem dX7_ifSat_33 : decode cX7_ifSat 33 = .ok (.iload_n 1, 1) := by decide +kernel
theorem dX7_ifSat_34 : decode cX7_ifSat 34 = .ok (.iload_n 2, 1) := by decide +kernel
theorem dX7_ifSat_35 : decode cX7_ifSat 35 = .ok (.iload_n 3, 1) := by decide +kernel
theorem dX7_ifSat_36 : decode cX7_ifSat 36 = .ok (.invokevirtual 61, 3) := by decide +kernel
theorem dX7_ifSat_39 : decode cX7_ifSat 39 = .ok (.ifCond .le 7, 3) := by decide +kernel
theorem dX7_ifSat_42 : decode cX7_ifSat 42 = .ok (.iconst (-1), 1) := by decide +kernel
theorem dX7_ifSat_43 : decode cX7_ifSat 43 = .ok (.goto 15, 3) := by decide +kernel
theorem dX7_ifSat_46 : decode cX7_ifSat 46 = .ok (.aload_n 0, 1) := by decide +kernel
theorem dX7_ifSat_47 : decode cX7_ifSat 47 = .ok (.iconst 0, 1) := by decide +kernel
theorem dX7_ifSat_48 : decode cX7_ifSat 48 = .ok (.iload_n 1, 1) := by decide +kernel
theorem dX7_ifSat_49 : decode cX7_ifSat 49 = .ok (.iload_n 2, 1) := by decide +kernel
theorem dX7_ifSat_50 : decode cX7_ifSat 50 = .ok (.iload_n 3, 1) := by decide +kernel
theorem dX7_ifSat_51 : decode cX7_ifSat 51 = .ok (.invokevirtual 65, 3) := by decide +kernel
theorem dX7_ifSat_54 : decode cX7_ifSat 54 = .ok (.sipush 1000, 3) := by decide +kernel
theorem dX7_ifSat_57 : decode cX7_ifSat 57 = .ok (.iadd, 1) := by decide +kernel
theorem dX7_ifSat_58 : decode cX7_ifSat 58 = .ok (.ireturn, 1) := by decide +kernel
theorem dX7_bestSeat_0 : decode cX7_bestSeat 0 = .ok (.aload_n 0, 1) := by decide +kernel
theorem dX7_bestSeat_1 : decode cX7_bestSeat 1 = .ok (.aload_n 0, 1) := by decide +kernel
theorem dX7_bestSeat_2 : decode cX7_bestSeat 2 = .ok (.iload_n 1, 1) := by decide +kernel
theorem dX7_bestSeat_3 : decode cX7_bestSeat 3 = .ok (.invokevirtual 96, 3) := by decide +kernel
theorem dX7_bestSeat_6 : decode cX7_bestSeat 6 = .ok (.ifCond .eq 7, 3) := by decide +kernel
theorem dX7_bestSeat_9 : decode cX7_bestSeat 9 = .ok (.iconst 0, 1) := by decide +kernel
theorem dX7_bestSeat_10 : decode cX7_bestSeat 10 = .ok (.goto 4, 3) := by decide +kernel
theorem dX7_bestSeat_13 : decode cX7_bestSeat 13 = .ok (.iconst 1, 1) := by decide +kernel
theorem dX7_bestSeat_14 : decode cX7_bestSeat 14 = .ok (.invokevirtual 90, 3) := by decide +kernel
theorem dX7_bestSeat_17 : decode cX7_bestSeat 17 = .ok (.ifCond .eq 12, 3) := by decide +kernel
theorem dX7_bestSeat_20 : decode cX7_bestSeat 20 = .ok (.aload_n 0, 1) := by decide +kernel
theorem dX7_bestSeat_21 : decode cX7_bestSeat 21 = .ok (.iconst 0, 1) := by decide +kernel
theorem dX7_bestSeat_22 : decode cX7_bestSeat 22 = .ok (.iload_n 1, 1) := by decide +kernel
theorem dX7_bestSeat_23 : decode cX7_bestSeat 23 = .ok (.invokevirtual 72, 3) := by decide +kernel
theorem dX7_bestSeat_26 : decode cX7_bestSeat 26 = .ok (.goto 4, 3) := by decide +kernel
theorem dX7_bestSeat_29 : decode cX7_bestSeat 29 = .ok (.iconst 0, 1) := by decide +kernel
theorem dX7_bestSeat_30 : decode cX7_bestSeat 30 = .ok (.ireturn, 1) := by decide +kernel
theorem dX7_standing_0 : decode cX7_standing 0 = .ok (.aload_n 0, 1) := by decide +kernel
theorem dX7_standing_1 : decode cX7_standing 1 = .ok (.iconst 0, 1) := by decide +kernel
theorem dX7_standing_2 : decode cX7_standing 2 = .ok (.iload_n 1, 1) := by decide +kernel
theorem dX7_standing_3 : decode cX7_standing 3 = .ok (.iload_n 2, 1) := by decide +kernel
theorem dX7_standing_4 : decode cX7_standing 4 = .ok (.invokestatic 41, 3) := by decide +kernel
theorem dX7_standing_7 : decode cX7_standing 7 = .ok (.invokevirtual 45, 3) := by decide +kernel
theorem dX7_standing_10 : decode cX7_standing 10 = .ok (.iconst (-1), 1) := by decide +kernel
theorem dX7_standing_11 : decode cX7_standing 11 = .ok (.if_icmp .eq 7, 3) := by decide +kernel
theorem dX7_standing_14 : decode cX7_standing 14 = .ok (.iconst 0, 1) := by decide +kernel
theorem dX7_standing_15 : decode cX7_standing 15 = .ok (.goto 9, 3) := by decide +kernel
theorem dX7_standing_18 : decode cX7_standing 18 = .ok (.aload_n 0, 1) := by decide +kernel
theorem dX7_standing_19 : decode cX7_standing 19 = .ok (.iload_n 1, 1) := by decide +kernel
theorem dX7_standing_20 : decode cX7_standing 20 = .ok (.iload_n 2, 1) := by decide +kernel
theorem dX7_standing_21 : decode cX7_standing 21 = .ok (.invokevirtual 177, 3) := by decide +kernel
theorem dX7_standing_24 : decode cX7_standing 24 = .ok (.ireturn, 1) := by decide +kernel
theorem dX7_ifFeud_0 : decode cX7_ifFeud 0 = .ok (.aload_n 0, 1) := by decide +kernel
theorem dX7_ifFeud_1 : decode cX7_ifFeud 1 = .ok (.iload_n 1, 1) := by decide +kernel
theorem dX7_ifFeud_2 : decode cX7_ifFeud 2 = .ok (.iload_n 2, 1) := by decide +kernel
theorem dX7_ifFeud_3 : decode cX7_ifFeud 3 = .ok (.invokestatic 99, 3) := by decide +kernel
theorem dX7_ifFeud_6 : decode cX7_ifFeud 6 = .ok (.ifCond .eq 7, 3) := by decide +kernel
theorem dX7_ifFeud_9 : decode cX7_ifFeud 9 = .ok (.iconst 0, 1) := by decide +kernel
theorem dX7_ifFeud_10 : decode cX7_ifFeud 10 = .ok (.goto 4, 3) := by decide +kernel
theorem dX7_ifFeud_13 : decode cX7_ifFeud 13 = .ok (.iconst 1, 1) := by decide +kernel
theorem dX7_ifFeud_14 : decode cX7_ifFeud 14 = .ok (.invokevirtual 90, 3) := by decide +kernel
theorem dX7_ifFeud_17 : decode cX7_ifFeud 17 = .ok (.ifCond .eq 12, 3) := by decide +kernel
theorem dX7_ifFeud_20 : decode cX7_ifFeud 20 = .ok (.aload_n 0, 1) := by decide +kernel
theorem dX7_ifFeud_21 : decode cX7_ifFeud 21 = .ok (.iload_n 1, 1) := by decide +kernel
theorem dX7_ifFeud_22 : decode cX7_ifFeud 22 = .ok (.iload_n 2, 1) := by decide +kernel
theorem dX7_ifFeud_23 : decode cX7_ifFeud 23 = .ok (.invokevirtual 180, 3) := by decide +kernel
theorem dX7_ifFeud_26 : decode cX7_ifFeud 26 = .ok (.goto 4, 3) := by decide +kernel
theorem dX7_ifFeud_29 : decode cX7_ifFeud 29 = .ok (.iconst 0, 1) := by decide +kernel
theorem dX7_ifFeud_30 : decode cX7_ifFeud 30 = .ok (.ireturn, 1) := by decide +kernel
theorem dX7_seatedIf_0 : decode cX7_seatedIf 0 = .ok (.aload_n 0, 1) := by decide +kernel
theorem dX7_seatedIf_1 : decode cX7_seatedIf 1 = .ok (.iconst 0, 1) := by decide +kernel
theorem dX7_seatedIf_2 : decode cX7_seatedIf 2 = .ok (.bipush 8, 2) := by decide +kernel
theorem dX7_seatedIf_4 : decode cX7_seatedIf 4 = .ok (.invokevirtual 87, 3) := by decide +kernel
theorem dX7_seatedIf_7 : decode cX7_seatedIf 7 = .ok (.aload_n 0, 1) := by decide +kernel
theorem dX7_seatedIf_8 : decode cX7_seatedIf 8 = .ok (.sipush 944, 3) := by decide +kernel
theorem dX7_seatedIf_11 : decode cX7_seatedIf 11 = .ok (.invokevirtual 113, 3) := by decide +kernel
theorem dX7_seatedIf_14 : decode cX7_seatedIf 14 = .ok (.istore_n 2, 1) := by decide +kernel
theorem dX7_seatedIf_15 : decode cX7_seatedIf 15 = .ok (.iload_n 1, 1) := by decide +kernel
theorem dX7_seatedIf_16 : decode cX7_seatedIf 16 = .ok (.ifCond .ne 7, 3) := by decide +kernel
theorem dX7_seatedIf_19 : decode cX7_seatedIf 19 = .ok (.iload_n 2, 1) := by decide +kernel
theorem dX7_seatedIf_20 : decode cX7_seatedIf 20 = .ok (.goto 15, 3) := by decide +kernel
theorem dX7_seatedIf_23 : decode cX7_seatedIf 23 = .ok (.aload_n 0, 1) := by decide +kernel
theorem dX7_seatedIf_24 : decode cX7_seatedIf 24 = .ok (.sipush 944, 3) := by decide +kernel
theorem dX7_seatedIf_27 : decode cX7_seatedIf 27 = .ok (.iconst (-1), 1) := by decide +kernel
theorem dX7_seatedIf_28 : decode cX7_seatedIf 28 = .ok (.invokevirtual 58, 3) := by decide +kernel
theorem dX7_seatedIf_31 : decode cX7_seatedIf 31 = .ok (.sipush 1000, 3) := by decide +kernel
theorem dX7_seatedIf_34 : decode cX7_seatedIf 34 = .ok (.iadd, 1) := by decide +kernel
theorem dX7_seatedIf_35 : decode cX7_seatedIf 35 = .ok (.ireturn, 1) := by decide +kernel
theorem dX7_ifSeated_0 : decode cX7_ifSeated 0 = .ok (.aload_n 0, 1) := by decide +kernel
theorem dX7_ifSeated_1 : decode cX7_ifSeated 1 = .ok (.iload_n 1, 1) := by decide +kernel
theorem dX7_ifSeated_2 : decode cX7_ifSeated 2 = .ok (.iconst 0, 1) := by decide +kernel
theorem dX7_ifSeated_3 : decode cX7_ifSeated 3 = .ok (.iconst 1, 1) := by decide +kernel
theorem dX7_ifSeated_4 : decode cX7_ifSeated 4 = .ok (.invokestatic 20, 3) := by decide +kernel
theorem dX7_ifSeated_7 : decode cX7_ifSeated 7 = .ok (.ifCond .eq 7, 3) := by decide +kernel
theorem dX7_ifSeated_10 : decode cX7_ifSeated 10 = .ok (.iconst 0, 1) := by decide +kernel
theorem dX7_ifSeated_11 : decode cX7_ifSeated 11 = .ok (.goto 4, 3) := by decide +kernel
theorem dX7_ifSeated_14 : decode cX7_ifSeated 14 = .ok (.iconst 1, 1) := by decide +kernel
theorem dX7_ifSeated_15 : decode cX7_ifSeated 15 = .ok (.invokevirtual 90, 3) := by decide +kernel
theorem dX7_ifSeated_18 : decode cX7_ifSeated 18 = .ok (.ifCond .eq 11, 3) := by decide +kernel
theorem dX7_ifSeated_21 : decode cX7_ifSeated 21 = .ok (.aload_n 0, 1) := by decide +kernel
theorem dX7_ifSeated_22 : decode cX7_ifSeated 22 = .ok (.iload_n 1, 1) := by decide +kernel
theorem dX7_ifSeated_23 : decode cX7_ifSeated 23 = .ok (.invokevirtual 183, 3) := by decide +kernel
theorem dX7_ifSeated_26 : decode cX7_ifSeated 26 = .ok (.goto 4, 3) := by decide +kernel
theorem dX7_ifSeated_29 : decode cX7_ifSeated 29 = .ok (.iconst 0, 1) := by decide +kernel
theorem dX7_ifSeated_30 : decode cX7_ifSeated 30 = .ok (.ireturn, 1) := by decide +kernel
theorem dX7_share_0 : decode cX7_share 0 = .ok (.aload_n 0, 1) := by decide +kernel
theorem dX7_share_1 : decode cX7_share 1 = .ok (.iconst 0, 1) := by decide +kernel
theorem dX7_share_2 : decode cX7_share 2 = .ok (.invokevirtual 170, 3) := by decide +kernel
theorem dX7_share_5 : decode cX7_share 5 = .ok (.istore_n 1, 1) := by decide +kernel
theorem dX7_share_6 : decode cX7_share 6 = .ok (.iload_n 1, 1) := by decide +kernel
theorem dX7_share_7 : decode cX7_share 7 = .ok (.ifCond .ne 7, 3) := by decide +kernel
theorem dX7_share_10 : decode cX7_share 10 = .ok (.dconst 1, 1) := by decide +kernel
theorem dX7_share_11 : decode cX7_share 11 = .ok (.goto 12, 3) := by decide +kernel
theorem dX7_share_14 : decode cX7_share 14 = .ok (.aload_n 0, 1) := by decide +kernel
theorem dX7_share_15 : decode cX7_share 15 = .ok (.iconst 1, 1) := by decide +kernel
theorem dX7_share_16 : decode cX7_share 16 = .ok (.invokevirtual 170, 3) := by decide +kernel
theorem dX7_share_19 : decode cX7_share 19 = .ok (.i2d, 1) := by decide +kernel
theorem dX7_share_20 : decode cX7_share 20 = .ok (.iload_n 1, 1) := by decide +kernel
theorem dX7_share_21 : decode cX7_share 21 = .ok (.i2d, 1) := by decide +kernel
theorem dX7_share_22 : decode cX7_share 22 = .ok (.ddiv, 1) := by decide +kernel
theorem dX7_share_23 : decode cX7_share 23 = .ok (.dreturn, 1) := by decide +kernel
theorem dX7_met_0 : decode cX7_met 0 = .ok (.aload_n 0, 1) := by decide +kernel
theorem dX7_met_1 : decode cX7_met 1 = .ok (.iconst 0, 1) := by decide +kernel
theorem dX7_met_2 : decode cX7_met 2 = .ok (.putfield 16, 3) := by decide +kernel
theorem dX7_met_5 : decode cX7_met 5 = .ok (.aload_n 0, 1) := by decide +kernel
theorem dX7_met_6 : decode cX7_met 6 = .ok (.invokevirtual 186, 3) := by decide +kernel
theorem dX7_met_9 : decode cX7_met 9 = .ok (.dreturn, 1) := by decide +kernel
theorem dX7_mix_0 : decode cX7_mix 0 = .ok (.aload_n 0, 1) := by decide +kernel
theorem dX7_mix_1 : decode cX7_mix 1 = .ok (.ldc2_w 190, 3) := by decide +kernel
theorem dX7_mix_4 : decode cX7_mix 4 = .ok (.aload_n 0, 1) := by decide +kernel
theorem dX7_mix_5 : decode cX7_mix 5 = .ok (.getfield 192, 3) := by decide +kernel
theorem dX7_mix_8 : decode cX7_mix 8 = .ok (.lmul, 1) := by decide +kernel
theorem dX7_mix_9 : decode cX7_mix 9 = .ok (.lload_n 1, 1) := by decide +kernel
theorem dX7_mix_10 : decode cX7_mix 10 = .ok (.ladd, 1) := by decide +kernel
theorem dX7_mix_11 : decode cX7_mix 11 = .ok (.putfield 192, 3) := by decide +kernel
theorem dX7_mix_14 : decode cX7_mix 14 = .ok (.return_, 1) := by decide +kernel
theorem dX7_bits_0 : decode cX7_bits 0 = .ok (.dload_n 0, 1) := by decide +kernel
theorem dX7_bits_1 : decode cX7_bits 1 = .ok (.dconst 0, 1) := by decide +kernel
theorem dX7_bits_2 : decode cX7_bits 2 = .ok (.dcmp .l, 1) := by decide +kernel
theorem dX7_bits_3 : decode cX7_bits 3 = .ok (.ifCond .ne 5, 3) := by decide +kernel
theorem dX7_bits_6 : decode cX7_bits 6 = .ok (.lconst 0, 1) := by decide +kernel
theorem dX7_bits_7 : decode cX7_bits 7 = .ok (.lreturn, 1) := by decide +kernel
theorem dX7_bits_8 : decode cX7_bits 8 = .ok (.dload_n 0, 1) := by decide +kernel
theorem dX7_bits_9 : decode cX7_bits 9 = .ok (.dstore_n 2, 1) := by decide +kernel
theorem dX7_bits_10 : decode cX7_bits 10 = .ok (.ldc2_w 196, 3) := by decide +kernel
theorem dX7_bits_13 : decode cX7_bits 13 = .ok (.lstore 4, 2) := by decide +kernel
theorem dX7_bits_15 : decode cX7_bits 15 = .ok (.dload_n 2, 1) := by decide +kernel
theorem dX7_bits_16 : decode cX7_bits 16 = .ok (.dconst 1, 1) := by decide +kernel
theorem dX7_bits_17 : decode cX7_bits 17 = .ok (.dcmp .g, 1) := by decide +kernel
theorem dX7_bits_18 : decode cX7_bits 18 = .ok (.ifCond .ge 18, 3) := by decide +kernel
theorem dX7_bits_21 : decode cX7_bits 21 = .ok (.dload_n 2, 1) := by decide +kernel
theorem dX7_bits_22 : decode cX7_bits 22 = .ok (.ldc2_w 198, 3) := by decide +kernel
theorem dX7_bits_25 : decode cX7_bits 25 = .ok (.dmul, 1) := by decide +kernel
theorem dX7_bits_26 : decode cX7_bits 26 = .ok (.dstore_n 2, 1) := by decide +kernel
theorem dX7_bits_27 : decode cX7_bits 27 = .ok (.lload 4, 2) := by decide +kernel
theorem dX7_bits_29 : decode cX7_bits 29 = .ok (.lconst 1, 1) := by decide +kernel
theorem dX7_bits_30 : decode cX7_bits 30 = .ok (.lsub, 1) := by decide +kernel
theorem dX7_bits_31 : decode cX7_bits 31 = .ok (.lstore 4, 2) := by decide +kernel
theorem dX7_bits_33 : decode cX7_bits 33 = .ok (.goto (-18), 3) := by decide +kernel
theorem dX7_bits_36 : decode cX7_bits 36 = .ok (.lload 4, 2) := by decide +kernel
theorem dX7_bits_38 : decode cX7_bits 38 = .ok (.ldc2_w 200, 3) := by decide +kernel
theorem dX7_bits_41 : decode cX7_bits 41 = .ok (.lmul, 1) := by decide +kernel
theorem dX7_bits_42 : decode cX7_bits 42 = .ok (.dload_n 2, 1) := by decide +kernel
theorem dX7_bits_43 : decode cX7_bits 43 = .ok (.dconst 1, 1) := by decide +kernel
theorem dX7_bits_44 : decode cX7_bits 44 = .ok (.dsub, 1) := by decide +kernel
theorem dX7_bits_45 : decode cX7_bits 45 = .ok (.ldc2_w 202, 3) := by decide +kernel
theorem dX7_bits_48 : decode cX7_bits 48 = .ok (.dmul, 1) := by decide +kernel
theorem dX7_bits_49 : decode cX7_bits 49 = .ok (.d2l, 1) := by decide +kernel
theorem dX7_bits_50 : decode cX7_bits 50 = .ok (.ladd, 1) := by decide +kernel
theorem dX7_bits_51 : decode cX7_bits 51 = .ok (.lreturn, 1) := by decide +kernel
theorem dX7_mixTable_0 : decode cX7_mixTable 0 = .ok (.iconst 0, 1) := by decide +kernel
theorem dX7_mixTable_1 : decode cX7_mixTable 1 = .ok (.istore_n 2, 1) := by decide +kernel
theorem dX7_mixTable_2 : decode cX7_mixTable 2 = .ok (.iload_n 2, 1) := by decide +kernel
theorem dX7_mixTable_3 : decode cX7_mixTable 3 = .ok (.iconst 5, 1) := by decide +kernel
theorem dX7_mixTable_4 : decode cX7_mixTable 4 = .ok (.if_icmp .ge 20, 3) := by decide +kernel
theorem dX7_mixTable_7 : decode cX7_mixTable 7 = .ok (.aload_n 0, 1) := by decide +kernel
theorem dX7_mixTable_8 : decode cX7_mixTable 8 = .ok (.aload_n 0, 1) := by decide +kernel
theorem dX7_mixTable_9 : decode cX7_mixTable 9 = .ok (.iload_n 1, 1) := by decide +kernel
theorem dX7_mixTable_10 : decode cX7_mixTable 10 = .ok (.iload_n 2, 1) := by decide +kernel
theorem dX7_mixTable_11 : decode cX7_mixTable 11 = .ok (.invokevirtual 167, 3) := by decide +kernel
theorem dX7_mixTable_14 : decode cX7_mixTable 14 = .ok (.i2l, 1) := by decide +kernel
theorem dX7_mixTable_15 : decode cX7_mixTable 15 = .ok (.invokevirtual 204, 3) := by decide +kernel
theorem dX7_mixTable_18 : decode cX7_mixTable 18 = .ok (.iinc 2 1, 3) := by decide +kernel
theorem dX7_mixTable_21 : decode cX7_mixTable 21 = .ok (.goto (-19), 3) := by decide +kernel
theorem dX7_mixTable_24 : decode cX7_mixTable 24 = .ok (.iconst 0, 1) := by decide +kernel
theorem dX7_mixTable_25 : decode cX7_mixTable 25 = .ok (.istore_n 2, 1) := by decide +kernel
theorem dX7_mixTable_26 : decode cX7_mixTable 26 = .ok (.iload_n 2, 1) := by decide +kernel
theorem dX7_mixTable_27 : decode cX7_mixTable 27 = .ok (.aload_n 0, 1) := by decide +kernel
theorem dX7_mixTable_28 : decode cX7_mixTable 28 = .ok (.getfield 7, 3) := by decide +kernel
theorem dX7_mixTable_31 : decode cX7_mixTable 31 = .ok (.bipush 18, 2) := by decide +kernel
theorem dX7_mixTable_33 : decode cX7_mixTable 33 = .ok (.iload_n 1, 1) := by decide +kernel
theorem dX7_mixTable_34 : decode cX7_mixTable 34 = .ok (.iadd, 1) := by decide +kernel
theorem dX7_mixTable_35 : decode cX7_mixTable 35 = .ok (.iaload, 1) := by decide +kernel
theorem dX7_mixTable_36 : decode cX7_mixTable 36 = .ok (.if_icmp .ge 21, 3) := by decide +kernel
theorem dX7_mixTable_39 : decode cX7_mixTable 39 = .ok (.aload_n 0, 1) := by decide +kernel
theorem dX7_mixTable_40 : decode cX7_mixTable 40 = .ok (.aload_n 0, 1) := by decide +kernel
theorem dX7_mixTable_41 : decode cX7_mixTable 41 = .ok (.iconst 0, 1) := by decide +kernel
theorem dX7_mixTable_42 : decode cX7_mixTable 42 = .ok (.iload_n 1, 1) := by decide +kernel
theorem dX7_mixTable_43 : decode cX7_mixTable 43 = .ok (.iload_n 2, 1) := by decide +kernel
theorem dX7_mixTable_44 : decode cX7_mixTable 44 = .ok (.invokevirtual 35, 3) := by decide +kernel
theorem dX7_mixTable_47 : decode cX7_mixTable 47 = .ok (.i2l, 1) := by decide +kernel
theorem dX7_mixTable_48 : decode cX7_mixTable 48 = .ok (.invokevirtual 204, 3) := by decide +kernel
theorem dX7_mixTable_51 : decode cX7_mixTable 51 = .ok (.iinc 2 1, 3) := by decide +kernel
theorem dX7_mixTable_54 : decode cX7_mixTable 54 = .ok (.goto (-28), 3) := by decide +kernel
theorem dX7_mixTable_57 : decode cX7_mixTable 57 = .ok (.iconst 0, 1) := by decide +kernel
theorem dX7_mixTable_58 : decode cX7_mixTable 58 = .ok (.istore_n 2, 1) := by decide +kernel
theorem dX7_mixTable_59 : decode cX7_mixTable 59 = .ok (.aload_n 0, 1) := by decide +kernel
theorem dX7_mixTable_60 : decode cX7_mixTable 60 = .ok (.iload_n 1, 1) := by decide +kernel
theorem dX7_mixTable_61 : decode cX7_mixTable 61 = .ok (.iload_n 2, 1) := by decide +kernel
theorem dX7_mixTable_62 : decode cX7_mixTable 62 = .ok (.invokevirtual 158, 3) := by decide +kernel
theorem dX7_mixTable_65 : decode cX7_mixTable 65 = .ok (.iconst (-1), 1) := by decide +kernel
theorem dX7_mixTable_66 : decode cX7_mixTable 66 = .ok (.if_icmp .eq 20, 3) := by decide +kernel
theorem dX7_mixTable_69 : decode cX7_mixTable 69 = .ok (.aload_n 0, 1) := by decide +kernel
theorem dX7_mixTable_70 : decode cX7_mixTable 70 = .ok (.aload_n 0, 1) := by decide +kernel
theorem dX7_mixTable_71 : decode cX7_mixTable 71 = .ok (.iload_n 1, 1) := by decide +kernel
theorem dX7_mixTable_72 : decode cX7_mixTable 72 = .ok (.iload_n 2, 1) := by decide +kernel
theorem dX7_mixTable_73 : decode cX7_mixTable 73 = .ok (.invokevirtual 158, 3) := by decide +kernel
theorem dX7_mixTable_76 : decode cX7_mixTable 76 = .ok (.i2l, 1) := by decide +kernel
theorem dX7_mixTable_77 : decode cX7_mixTable 77 = .ok (.invokevirtual 204, 3) := by decide +kernel
theorem dX7_mixTable_80 : decode cX7_mixTable 80 = .ok (.iinc 2 1, 3) := by decide +kernel
theorem dX7_mixTable_83 : decode cX7_mixTable 83 = .ok (.goto (-24), 3) := by decide +kernel
theorem dX7_mixTable_86 : decode cX7_mixTable 86 = .ok (.return_, 1) := by decide +kernel
theorem dX7_digest_0 : decode cX7_digest 0 = .ok (.aload_n 0, 1) := by decide +kernel
theorem dX7_digest_1 : decode cX7_digest 1 = .ok (.iconst 0, 1) := by decide +kernel
theorem dX7_digest_2 : decode cX7_digest 2 = .ok (.putfield 16, 3) := by decide +kernel
theorem dX7_digest_5 : decode cX7_digest 5 = .ok (.aload_n 0, 1) := by decide +kernel
theorem dX7_digest_6 : decode cX7_digest 6 = .ok (.ldc2_w 208, 3) := by decide +kernel
theorem dX7_digest_9 : decode cX7_digest 9 = .ok (.putfield 192, 3) := by decide +kernel
theorem dX7_digest_12 : decode cX7_digest 12 = .ok (.iconst 0, 1) := by decide +kernel
theorem dX7_digest_13 : decode cX7_digest 13 = .ok (.istore_n 1, 1) := by decide +kernel
theorem dX7_digest_14 : decode cX7_digest 14 = .ok (.iload_n 1, 1) := by decide +kernel
theorem dX7_digest_15 : decode cX7_digest 15 = .ok (.bipush 14, 2) := by decide +kernel
theorem dX7_digest_17 : decode cX7_digest 17 = .ok (.if_icmp .ge 19, 3) := by decide +kernel
theorem dX7_digest_20 : decode cX7_digest 20 = .ok (.aload_n 0, 1) := by decide +kernel
theorem dX7_digest_21 : decode cX7_digest 21 = .ok (.aload_n 0, 1) := by decide +kernel
theorem dX7_digest_22 : decode cX7_digest 22 = .ok (.iload_n 1, 1) := by decide +kernel
theorem dX7_digest_23 : decode cX7_digest 23 = .ok (.invokevirtual 174, 3) := by decide +kernel
theorem dX7_digest_26 : decode cX7_digest 26 = .ok (.i2l, 1) := by decide +kernel
theorem dX7_digest_27 : decode cX7_digest 27 = .ok (.invokevirtual 204, 3) := by decide +kernel
theorem dX7_digest_30 : decode cX7_digest 30 = .ok (.iinc 1 1, 3) := by decide +kernel
theorem dX7_digest_33 : decode cX7_digest 33 = .ok (.goto (-19), 3) := by decide +kernel
theorem dX7_digest_36 : decode cX7_digest 36 = .ok (.iconst 0, 1) := by decide +kernel
theorem dX7_digest_37 : decode cX7_digest 37 = .ok (.istore_n 1, 1) := by decide +kernel
theorem dX7_digest_38 : decode cX7_digest 38 = .ok (.iload_n 1, 1) := by decide +kernel
theorem dX7_digest_39 : decode cX7_digest 39 = .ok (.aload_n 0, 1) := by decide +kernel
theorem dX7_digest_40 : decode cX7_digest 40 = .ok (.getfield 7, 3) := by decide +kernel
theorem dX7_digest_43 : decode cX7_digest 43 = .ok (.iconst 0, 1) := by decide +kernel
theorem dX7_digest_44 : decode cX7_digest 44 = .ok (.iaload, 1) := by decide +kernel
theorem dX7_digest_45 : decode cX7_digest 45 = .ok (.if_icmp .ge 45, 3) := by decide +kernel
theorem dX7_digest_48 : decode cX7_digest 48 = .ok (.iconst 0, 1) := by decide +kernel
theorem dX7_digest_49 : decode cX7_digest 49 = .ok (.istore_n 2, 1) := by decide +kernel
theorem dX7_digest_50 : decode cX7_digest 50 = .ok (.iload_n 2, 1) := by decide +kernel
theorem dX7_digest_51 : decode cX7_digest 51 = .ok (.bipush 7, 2) := by decide +kernel
theorem dX7_digest_53 : decode cX7_digest 53 = .ok (.if_icmp .ge 20, 3) := by decide +kernel
theorem dX7_digest_56 : decode cX7_digest 56 = .ok (.aload_n 0, 1) := by decide +kernel
theorem dX7_digest_57 : decode cX7_digest 57 = .ok (.aload_n 0, 1) := by decide +kernel
theorem dX7_digest_58 : decode cX7_digest 58 = .ok (.iload_n 1, 1) := by decide +kernel
theorem dX7_digest_59 : decode cX7_digest 59 = .ok (.iload_n 2, 1) := by decide +kernel
theorem dX7_digest_60 : decode cX7_digest 60 = .ok (.invokevirtual 164, 3) := by decide +kernel
theorem dX7_digest_63 : decode cX7_digest 63 = .ok (.i2l, 1) := by decide +kernel
theorem dX7_digest_64 : decode cX7_digest 64 = .ok (.invokevirtual 204, 3) := by decide +kernel
theorem dX7_digest_67 : decode cX7_digest 67 = .ok (.iinc 2 1, 3) := by decide +kernel
theorem dX7_digest_70 : decode cX7_digest 70 = .ok (.goto (-20), 3) := by decide +kernel
theorem dX7_digest_73 : decode cX7_digest 73 = .ok (.aload_n 0, 1) := by decide +kernel
theorem dX7_digest_74 : decode cX7_digest 74 = .ok (.aload_n 0, 1) := by decide +kernel
theorem dX7_digest_75 : decode cX7_digest 75 = .ok (.iconst 0, 1) := by decide +kernel
theorem dX7_digest_76 : decode cX7_digest 76 = .ok (.iload_n 1, 1) := by decide +kernel
theorem dX7_digest_77 : decode cX7_digest 77 = .ok (.invokevirtual 72, 3) := by decide +kernel
theorem dX7_digest_80 : decode cX7_digest 80 = .ok (.i2l, 1) := by decide +kernel
theorem dX7_digest_81 : decode cX7_digest 81 = .ok (.invokevirtual 204, 3) := by decide +kernel
theorem dX7_digest_84 : decode cX7_digest 84 = .ok (.iinc 1 1, 3) := by decide +kernel
theorem dX7_digest_87 : decode cX7_digest 87 = .ok (.goto (-49), 3) := by decide +kernel
theorem dX7_digest_90 : decode cX7_digest 90 = .ok (.iconst 0, 1) := by decide +kernel
theorem dX7_digest_91 : decode cX7_digest 91 = .ok (.istore_n 1, 1) := by decide +kernel
theorem dX7_digest_92 : decode cX7_digest 92 = .ok (.iload_n 1, 1) := by decide +kernel
theorem dX7_digest_93 : decode cX7_digest 93 = .ok (.aload_n 0, 1) := by decide +kernel
theorem dX7_digest_94 : decode cX7_digest 94 = .ok (.getfield 7, 3) := by decide +kernel
theorem dX7_digest_97 : decode cX7_digest 97 = .ok (.iconst 1, 1) := by decide +kernel
theorem dX7_digest_98 : decode cX7_digest 98 = .ok (.iaload, 1) := by decide +kernel
theorem dX7_digest_99 : decode cX7_digest 99 = .ok (.if_icmp .ge 14, 3) := by decide +kernel
theorem dX7_digest_102 : decode cX7_digest 102 = .ok (.aload_n 0, 1) := by decide +kernel
theorem dX7_digest_103 : decode cX7_digest 103 = .ok (.iload_n 1, 1) := by decide +kernel
theorem dX7_digest_104 : decode cX7_digest 104 = .ok (.invokevirtual 210, 3) := by decide +kernel
theorem dX7_digest_107 : decode cX7_digest 107 = .ok (.iinc 1 1, 3) := by decide +kernel
theorem dX7_digest_110 : decode cX7_digest 110 = .ok (.goto (-18), 3) := by decide +kernel
theorem dX7_digest_113 : decode cX7_digest 113 = .ok (.iconst 0, 1) := by decide +kernel
theorem dX7_digest_114 : decode cX7_digest 114 = .ok (.istore_n 1, 1) := by decide +kernel
theorem dX7_digest_115 : decode cX7_digest 115 = .ok (.iload_n 1, 1) := by decide +kernel
theorem dX7_digest_116 : decode cX7_digest 116 = .ok (.aload_n 0, 1) := by decide +kernel
theorem dX7_digest_117 : decode cX7_digest 117 = .ok (.getfield 7, 3) := by decide +kernel
theorem dX7_digest_120 : decode cX7_digest 120 = .ok (.iconst 3, 1) := by decide +kernel
theorem dX7_digest_121 : decode cX7_digest 121 = .ok (.iaload, 1) := by decide +kernel
theorem dX7_digest_122 : decode cX7_digest 122 = .ok (.if_icmp .ge 23, 3) := by decide +kernel
theorem dX7_digest_125 : decode cX7_digest 125 = .ok (.aload_n 0, 1) := by decide +kernel
theorem dX7_digest_126 : decode cX7_digest 126 = .ok (.aload_n 0, 1) := by decide +kernel
theorem dX7_digest_127 : decode cX7_digest 127 = .ok (.getfield 7, 3) := by decide +kernel
theorem dX7_digest_130 : decode cX7_digest 130 = .ok (.bipush 22, 2) := by decide +kernel
theorem dX7_digest_132 : decode cX7_digest 132 = .ok (.iload_n 1, 1) := by decide +kernel
theorem dX7_digest_133 : decode cX7_digest 133 = .ok (.iadd, 1) := by decide +kernel
theorem dX7_digest_134 : decode cX7_digest 134 = .ok (.iaload, 1) := by decide +kernel
theorem dX7_digest_135 : decode cX7_digest 135 = .ok (.i2l, 1) := by decide +kernel
theorem dX7_digest_136 : decode cX7_digest 136 = .ok (.invokevirtual 204, 3) := by decide +kernel
theorem dX7_digest_139 : decode cX7_digest 139 = .ok (.iinc 1 1, 3) := by decide +kernel
theorem dX7_digest_142 : decode cX7_digest 142 = .ok (.goto (-27), 3) := by decide +kernel
theorem dX7_digest_145 : decode cX7_digest 145 = .ok (.iconst 0, 1) := by decide +kernel
theorem dX7_digest_146 : decode cX7_digest 146 = .ok (.istore_n 1, 1) := by decide +kernel
theorem dX7_digest_147 : decode cX7_digest 147 = .ok (.iload_n 1, 1) := by decide +kernel
theorem dX7_digest_148 : decode cX7_digest 148 = .ok (.aload_n 0, 1) := by decide +kernel
theorem dX7_digest_149 : decode cX7_digest 149 = .ok (.getfield 7, 3) := by decide +kernel
theorem dX7_digest_152 : decode cX7_digest 152 = .ok (.iconst 2, 1) := by decide +kernel
theorem dX7_digest_153 : decode cX7_digest 153 = .ok (.iaload, 1) := by decide +kernel
theorem dX7_digest_154 : decode cX7_digest 154 = .ok (.if_icmp .ge 23, 3) := by decide +kernel
theorem dX7_digest_157 : decode cX7_digest 157 = .ok (.aload_n 0, 1) := by decide +kernel
theorem dX7_digest_158 : decode cX7_digest 158 = .ok (.aload_n 0, 1) := by decide +kernel
theorem dX7_digest_159 : decode cX7_digest 159 = .ok (.getfield 7, 3) := by decide +kernel
theorem dX7_digest_162 : decode cX7_digest 162 = .ok (.bipush 10, 2) := by decide +kernel
theorem dX7_digest_164 : decode cX7_digest 164 = .ok (.iload_n 1, 1) := by decide +kernel
theorem dX7_digest_165 : decode cX7_digest 165 = .ok (.iadd, 1) := by decide +kernel
theorem dX7_digest_166 : decode cX7_digest 166 = .ok (.iaload, 1) := by decide +kernel
theorem dX7_digest_167 : decode cX7_digest 167 = .ok (.i2l, 1) := by decide +kernel
theorem dX7_digest_168 : decode cX7_digest 168 = .ok (.invokevirtual 204, 3) := by decide +kernel
theorem dX7_digest_171 : decode cX7_digest 171 = .ok (.iinc 1 1, 3) := by decide +kernel
theorem dX7_digest_174 : decode cX7_digest 174 = .ok (.goto (-27), 3) := by decide +kernel
theorem dX7_digest_177 : decode cX7_digest 177 = .ok (.aload_n 0, 1) := by decide +kernel
theorem dX7_digest_178 : decode cX7_digest 178 = .ok (.aload_n 0, 1) := by decide +kernel
theorem dX7_digest_179 : decode cX7_digest 179 = .ok (.iconst 0, 1) := by decide +kernel
theorem dX7_digest_180 : decode cX7_digest 180 = .ok (.iconst 1, 1) := by decide +kernel
theorem dX7_digest_181 : decode cX7_digest 181 = .ok (.invokevirtual 180, 3) := by decide +kernel
theorem dX7_digest_184 : decode cX7_digest 184 = .ok (.i2l, 1) := by decide +kernel
theorem dX7_digest_185 : decode cX7_digest 185 = .ok (.invokevirtual 204, 3) := by decide +kernel
theorem dX7_digest_188 : decode cX7_digest 188 = .ok (.aload_n 0, 1) := by decide +kernel
theorem dX7_digest_189 : decode cX7_digest 189 = .ok (.aload_n 0, 1) := by decide +kernel
theorem dX7_digest_190 : decode cX7_digest 190 = .ok (.iconst 2, 1) := by decide +kernel
theorem dX7_digest_191 : decode cX7_digest 191 = .ok (.iconst 3, 1) := by decide +kernel
theorem dX7_digest_192 : decode cX7_digest 192 = .ok (.invokevirtual 180, 3) := by decide +kernel
theorem dX7_digest_195 : decode cX7_digest 195 = .ok (.i2l, 1) := by decide +kernel
theorem dX7_digest_196 : decode cX7_digest 196 = .ok (.invokevirtual 204, 3) := by decide +kernel
theorem dX7_digest_199 : decode cX7_digest 199 = .ok (.aload_n 0, 1) := by decide +kernel
theorem dX7_digest_200 : decode cX7_digest 200 = .ok (.aload_n 0, 1) := by decide +kernel
theorem dX7_digest_201 : decode cX7_digest 201 = .ok (.iconst 0, 1) := by decide +kernel
theorem dX7_digest_202 : decode cX7_digest 202 = .ok (.invokevirtual 183, 3) := by decide +kernel
theorem dX7_digest_205 : decode cX7_digest 205 = .ok (.i2l, 1) := by decide +kernel
theorem dX7_digest_206 : decode cX7_digest 206 = .ok (.invokevirtual 204, 3) := by decide +kernel
theorem dX7_digest_209 : decode cX7_digest 209 = .ok (.aload_n 0, 1) := by decide +kernel
theorem dX7_digest_210 : decode cX7_digest 210 = .ok (.aload_n 0, 1) := by decide +kernel
theorem dX7_digest_211 : decode cX7_digest 211 = .ok (.iconst 1, 1) := by decide +kernel
theorem dX7_digest_212 : decode cX7_digest 212 = .ok (.invokevirtual 183, 3) := by decide +kernel
theorem dX7_digest_215 : decode cX7_digest 215 = .ok (.i2l, 1) := by decide +kernel
theorem dX7_digest_216 : decode cX7_digest 216 = .ok (.invokevirtual 204, 3) := by decide +kernel
theorem dX7_digest_219 : decode cX7_digest 219 = .ok (.aload_n 0, 1) := by decide +kernel
theorem dX7_digest_220 : decode cX7_digest 220 = .ok (.aload_n 0, 1) := by decide +kernel
theorem dX7_digest_221 : decode cX7_digest 221 = .ok (.invokevirtual 186, 3) := by decide +kernel
theorem dX7_digest_224 : decode cX7_digest 224 = .ok (.invokestatic 214, 3) := by decide +kernel
theorem dX7_digest_227 : decode cX7_digest 227 = .ok (.invokevirtual 204, 3) := by decide +kernel
theorem dX7_digest_230 : decode cX7_digest 230 = .ok (.aload_n 0, 1) := by decide +kernel
theorem dX7_digest_231 : decode cX7_digest 231 = .ok (.aload_n 0, 1) := by decide +kernel
theorem dX7_digest_232 : decode cX7_digest 232 = .ok (.getfield 116, 3) := by decide +kernel
theorem dX7_digest_235 : decode cX7_digest 235 = .ok (.i2l, 1) := by decide +kernel
theorem dX7_digest_236 : decode cX7_digest 236 = .ok (.invokevirtual 204, 3) := by decide +kernel
theorem dX7_digest_239 : decode cX7_digest 239 = .ok (.iconst 0, 1) := by decide +kernel
theorem dX7_digest_240 : decode cX7_digest 240 = .ok (.istore_n 1, 1) := by decide +kernel
theorem dX7_digest_241 : decode cX7_digest 241 = .ok (.iload_n 1, 1) := by decide +kernel
theorem dX7_digest_242 : decode cX7_digest 242 = .ok (.aload_n 0, 1) := by decide +kernel
theorem dX7_digest_243 : decode cX7_digest 243 = .ok (.getfield 116, 3) := by decide +kernel
theorem dX7_digest_246 : decode cX7_digest 246 = .ok (.if_icmp .ge 20, 3) := by decide +kernel
theorem dX7_digest_249 : decode cX7_digest 249 = .ok (.aload_n 0, 1) := by decide +kernel
theorem dX7_digest_250 : decode cX7_digest 250 = .ok (.aload_n 0, 1) := by decide +kernel
theorem dX7_digest_251 : decode cX7_digest 251 = .ok (.getfield 13, 3) := by decide +kernel
theorem dX7_digest_254 : decode cX7_digest 254 = .ok (.iload_n 1, 1) := by decide +kernel
theorem dX7_digest_255 : decode cX7_digest 255 = .ok (.iaload, 1) := by decide +kernel
theorem dX7_digest_256 : decode cX7_digest 256 = .ok (.i2l, 1) := by decide +kernel
theorem dX7_digest_257 : decode cX7_digest 257 = .ok (.invokevirtual 204, 3) := by decide +kernel
theorem dX7_digest_260 : decode cX7_digest 260 = .ok (.iinc 1 1, 3) := by decide +kernel
theorem dX7_digest_263 : decode cX7_digest 263 = .ok (.goto (-22), 3) := by decide +kernel
theorem dX7_digest_266 : decode cX7_digest 266 = .ok (.aload_n 0, 1) := by decide +kernel
theorem dX7_digest_267 : decode cX7_digest 267 = .ok (.getfield 192, 3) := by decide +kernel
theorem dX7_digest_270 : decode cX7_digest 270 = .ok (.lreturn, 1) := by decide +kernel
