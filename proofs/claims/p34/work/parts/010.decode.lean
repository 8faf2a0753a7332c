theorem dX0_init_0 : decode cX0_init 0 = .ok (.aload_n 0, 1) := by decide +kernel
theorem dX0_init_1 : decode cX0_init 1 = .ok (.invokespecial 3, 3) := by decide +kernel
theorem dX0_init_4 : decode cX0_init 4 = .ok (.aload_n 0, 1) := by decide +kernel
theorem dX0_init_5 : decode cX0_init 5 = .ok (.bipush 6, 2) := by decide +kernel
theorem dX0_init_7 : decode cX0_init 7 = .ok (.anewarray 9, 3) := by decide +kernel
theorem dX0_init_10 : decode cX0_init 10 = .ok (.putfield 11, 3) := by decide +kernel
theorem dX0_init_13 : decode cX0_init 13 = .ok (.iconst 0, 1) := by decide +kernel
theorem dX0_init_14 : decode cX0_init 14 = .ok (.istore_n 1, 1) := by decide +kernel
theorem dX0_init_15 : decode cX0_init 15 = .ok (.iload_n 1, 1) := by decide +kernel
theorem dX0_init_16 : decode cX0_init 16 = .ok (.aload_n 0, 1) := by decide +kernel
theorem dX0_init_17 : decode cX0_init 17 = .ok (.getfield 11, 3) := by decide +kernel
theorem dX0_init_20 : decode cX0_init 20 = .ok (.arraylength, 1) := by decide +kernel
theorem dX0_init_21 : decode cX0_init 21 = .ok (.if_icmp .ge 22, 3) := by decide +kernel
theorem dX0_init_24 : decode cX0_init 24 = .ok (.aload_n 0, 1) := by decide +kernel
theorem dX0_init_25 : decode cX0_init 25 = .ok (.getfield 11, 3) := by decide +kernel
theorem dX0_init_28 : decode cX0_init 28 = .ok (.iload_n 1, 1) := by decide +kernel
theorem dX0_init_29 : decode cX0_init 29 = .ok (.new 9, 3) := by decide +kernel
theorem dX0_init_32 : decode cX0_init 32 = .ok (.dup, 1) := by decide +kernel
theorem dX0_init_33 : decode cX0_init 33 = .ok (.invokespecial 17, 3) := by decide +kernel
theorem dX0_init_36 : decode cX0_init 36 = .ok (.aastore, 1) := by decide +kernel
theorem dX0_init_37 : decode cX0_init 37 = .ok (.iinc 1 1, 3) := by decide +kernel
theorem dX0_init_40 : decode cX0_init 40 = .ok (.goto (-25), 3) := by decide +kernel
theorem dX0_init_43 : decode cX0_init 43 = .ok (.return_, 1) := by decide +kernel
theorem dX0_length_0 : decode cX0_length 0 = .ok (.aload_n 0, 1) := by decide +kernel
theorem dX0_length_1 : decode cX0_length 1 = .ok (.getfield 18, 3) := by decide +kernel
theorem dX0_length_4 : decode cX0_length 4 = .ok (.ireturn, 1) := by decide +kernel
theorem dX0_save_0 : decode cX0_save 0 = .ok (.aload_n 0, 1) := by decide +kernel
theorem dX0_save_1 : decode cX0_save 1 = .ok (.aload_n 0, 1) := by decide +kernel
theorem dX0_save_2 : decode cX0_save 2 = .ok (.getfield 22, 3) := by decide +kernel
theorem dX0_save_5 : decode cX0_save 5 = .ok (.aload_n 0, 1) := by decide +kernel
theorem dX0_save_6 : decode cX0_save 6 = .ok (.getfield 18, 3) := by decide +kernel
theorem dX0_save_9 : decode cX0_save 9 = .ok (.iadd, 1) := by decide +kernel
theorem dX0_save_10 : decode cX0_save 10 = .ok (.invokevirtual 25, 3) := by decide +kernel
theorem dX0_save_13 : decode cX0_save 13 = .ok (.astore_n 2, 1) := by decide +kernel
theorem dX0_save_14 : decode cX0_save 14 = .ok (.aload_n 2, 1) := by decide +kernel
theorem dX0_save_15 : decode cX0_save 15 = .ok (.ifnull 8, 3) := by decide +kernel
theorem dX0_save_18 : decode cX0_save 18 = .ok (.aload_n 2, 1) := by decide +kernel
theorem dX0_save_19 : decode cX0_save 19 = .ok (.aload_n 1, 1) := by decide +kernel
theorem dX0_save_20 : decode cX0_save 20 = .ok (.invokevirtual 29, 3) := by decide +kernel
theorem dX0_save_23 : decode cX0_save 23 = .ok (.aload_n 0, 1) := by decide +kernel
theorem dX0_save_24 : decode cX0_save 24 = .ok (.getfield 18, 3) := by decide +kernel
theorem dX0_save_27 : decode cX0_save 27 = .ok (.bipush 6, 2) := by decide +kernel
theorem dX0_save_29 : decode cX0_save 29 = .ok (.if_icmp .ge 16, 3) := by decide +kernel
theorem dX0_save_32 : decode cX0_save 32 = .ok (.aload_n 0, 1) := by decide +kernel
theorem dX0_save_33 : decode cX0_save 33 = .ok (.dup, 1) := by decide +kernel
theorem dX0_save_34 : decode cX0_save 34 = .ok (.getfield 18, 3) := by decide +kernel
theorem dX0_save_37 : decode cX0_save 37 = .ok (.iconst 1, 1) := by decide +kernel
theorem dX0_save_38 : decode cX0_save 38 = .ok (.iadd, 1) := by decide +kernel
theorem dX0_save_39 : decode cX0_save 39 = .ok (.putfield 18, 3) := by decide +kernel
theorem dX0_save_42 : decode cX0_save 42 = .ok (.goto 16, 3) := by decide +kernel
theorem dX0_save_45 : decode cX0_save 45 = .ok (.aload_n 0, 1) := by decide +kernel
theorem dX0_save_46 : decode cX0_save 46 = .ok (.aload_n 0, 1) := by decide +kernel
theorem dX0_save_47 : decode cX0_save 47 = .ok (.getfield 22, 3) := by decide +kernel
theorem dX0_save_50 : decode cX0_save 50 = .ok (.iconst 1, 1) := by decide +kernel
theorem dX0_save_51 : decode cX0_save 51 = .ok (.iadd, 1) := by decide +kernel
theorem dX0_save_52 : decode cX0_save 52 = .ok (.bipush 6, 2) := by decide +kernel
theorem dX0_save_54 : decode cX0_save 54 = .ok (.irem, 1) := by decide +kernel
theorem dX0_save_55 : decode cX0_save 55 = .ok (.putfield 22, 3) := by decide +kernel
theorem dX0_save_58 : decode cX0_save 58 = .ok (.return_, 1) := by decide +kernel
theorem dX0_takeLatest_0 : decode cX0_takeLatest 0 = .ok (.aload_n 0, 1) := by decide +kernel
theorem dX0_takeLatest_1 : decode cX0_takeLatest 1 = .ok (.getfield 18, 3) := by decide +kernel
theorem dX0_takeLatest_4 : decode cX0_takeLatest 4 = .ok (.ifCond .ne 4, 3) := by decide +kernel
theorem dX0_takeLatest_7 : decode cX0_takeLatest 7 = .ok (.return_, 1) := by decide +kernel
theorem dX0_takeLatest_8 : decode cX0_takeLatest 8 = .ok (.aload_n 0, 1) := by decide +kernel
theorem dX0_takeLatest_9 : decode cX0_takeLatest 9 = .ok (.dup, 1) := by decide +kernel
theorem dX0_takeLatest_10 : decode cX0_takeLatest 10 = .ok (.getfield 18, 3) := by decide +kernel
theorem dX0_takeLatest_13 : decode cX0_takeLatest 13 = .ok (.iconst 1, 1) := by decide +kernel
theorem dX0_takeLatest_14 : decode cX0_takeLatest 14 = .ok (.isub, 1) := by decide +kernel
theorem dX0_takeLatest_15 : decode cX0_takeLatest 15 = .ok (.putfield 18, 3) := by decide +kernel
theorem dX0_takeLatest_18 : decode cX0_takeLatest 18 = .ok (.aload_n 0, 1) := by decide +kernel
theorem dX0_takeLatest_19 : decode cX0_takeLatest 19 = .ok (.aload_n 0, 1) := by decide +kernel
theorem dX0_takeLatest_20 : decode cX0_takeLatest 20 = .ok (.getfield 22, 3) := by decide +kernel
theorem dX0_takeLatest_23 : decode cX0_takeLatest 23 = .ok (.aload_n 0, 1) := by decide +kernel
theorem dX0_takeLatest_24 : decode cX0_takeLatest 24 = .ok (.getfield 18, 3) := by decide +kernel
theorem dX0_takeLatest_27 : decode cX0_takeLatest 27 = .ok (.iadd, 1) := by decide +kernel
theorem dX0_takeLatest_28 : decode cX0_takeLatest 28 = .ok (.invokevirtual 25, 3) := by decide +kernel
theorem dX0_takeLatest_31 : decode cX0_takeLatest 31 = .ok (.astore_n 2, 1) := by decide +kernel
theorem dX0_takeLatest_32 : decode cX0_takeLatest 32 = .ok (.aload_n 2, 1) := by decide +kernel
theorem dX0_takeLatest_33 : decode cX0_takeLatest 33 = .ok (.ifnull 8, 3) := by decide +kernel
theorem dX0_takeLatest_36 : decode cX0_takeLatest 36 = .ok (.aload_n 1, 1) := by decide +kernel
theorem dX0_takeLatest_37 : decode cX0_takeLatest 37 = .ok (.aload_n 2, 1) := by decide +kernel
theorem dX0_takeLatest_38 : decode cX0_takeLatest 38 = .ok (.invokevirtual 29, 3) := by decide +kernel
theorem dX0_takeLatest_41 : decode cX0_takeLatest 41 = .ok (.return_, 1) := by decide +kernel
theorem dX0_planAt_0 : decode cX0_planAt 0 = .ok (.iload_n 1, 1) := by decide +kernel
theorem dX0_planAt_1 : decode cX0_planAt 1 = .ok (.bipush 6, 2) := by decide +kernel
theorem dX0_planAt_3 : decode cX0_planAt 3 = .ok (.irem, 1) := by decide +kernel
theorem dX0_planAt_4 : decode cX0_planAt 4 = .ok (.istore_n 2, 1) := by decide +kernel
theorem dX0_planAt_5 : decode cX0_planAt 5 = .ok (.iload_n 2, 1) := by decide +kernel
theorem dX0_planAt_6 : decode cX0_planAt 6 = .ok (.ifCond .lt 21, 3) := by decide +kernel
theorem dX0_planAt_9 : decode cX0_planAt 9 = .ok (.iload_n 2, 1) := by decide +kernel
theorem dX0_planAt_10 : decode cX0_planAt 10 = .ok (.aload_n 0, 1) := by decide +kernel
theorem dX0_planAt_11 : decode cX0_planAt 11 = .ok (.getfield 11, 3) := by decide +kernel
theorem dX0_planAt_14 : decode cX0_planAt 14 = .ok (.arraylength, 1) := by decide +kernel
theorem dX0_planAt_15 : decode cX0_planAt 15 = .ok (.if_icmp .ge 12, 3) := by decide +kernel
theorem dX0_planAt_18 : decode cX0_planAt 18 = .ok (.aload_n 0, 1) := by decide +kernel
theorem dX0_planAt_19 : decode cX0_planAt 19 = .ok (.getfield 11, 3) := by decide +kernel
theorem dX0_planAt_22 : decode cX0_planAt 22 = .ok (.iload_n 2, 1) := by decide +kernel
theorem dX0_planAt_23 : decode cX0_planAt 23 = .ok (.aaload, 1) := by decide +kernel
theorem dX0_planAt_24 : decode cX0_planAt 24 = .ok (.goto 4, 3) := by decide +kernel
theorem dX0_planAt_27 : decode cX0_planAt 27 = .ok (.aconst_null, 1) := by decide +kernel
theorem dX0_planAt_28 : decode cX0_planAt 28 = .ok (.areturn, 1) := by decide +kernel
theorem dX1_init_0 : decode cX1_init 0 = .ok (.aload_n 0, 1) := by decide +kernel
theorem dX1_init_1 : decode cX1_init 1 = .ok (.invokespecial 3, 3) := by decide +kernel
theorem dX1_init_4 : decode cX1_init 4 = .ok (.aload_n 0, 1) := by decide +kernel
theorem dX1_init_5 : decode cX1_init 5 = .ok (.iload_n 1, 1) := by decide +kernel
theorem dX1_init_6 : decode cX1_init 6 = .ok (.iconst 0, 1) := by decide +kernel
theorem dX1_init_7 : decode cX1_init 7 = .ok (.invokestatic 9, 3) := by decide +kernel
theorem dX1_init_10 : decode cX1_init 10 = .ok (.newarray .int, 2) := by decide +kernel
theorem dX1_init_12 : decode cX1_init 12 = .ok (.putfield 15, 3) := by decide +kernel
theorem dX1_init_15 : decode cX1_init 15 = .ok (.aload_n 0, 1) := by decide +kernel
theorem dX1_init_16 : decode cX1_init 16 = .ok (.iconst 0, 1) := by decide +kernel
theorem dX1_init_17 : decode cX1_init 17 = .ok (.putfield 21, 3) := by decide +kernel
theorem dX1_init_20 : decode cX1_init 20 = .ok (.return_, 1) := by decide +kernel
theorem dX1_length_0 : decode cX1_length 0 = .ok (.aload_n 0, 1) := by decide +kernel
theorem dX1_length_1 : decode cX1_length 1 = .ok (.getfield 21, 3) := by decide +kernel
theorem dX1_length_4 : decode cX1_length 4 = .ok (.ireturn, 1) := by decide +kernel
theorem dX1_isFull_0 : decode cX1_isFull 0 = .ok (.aload_n 0, 1) := by decide +kernel
theorem dX1_isFull_1 : decode cX1_isFull 1 = .ok (.getfield 21, 3) := by decide +kernel
theorem dX1_isFull_4 : decode cX1_isFull 4 = .ok (.aload_n 0, 1) := by decide +kernel
theorem dX1_isFull_5 : decode cX1_isFull 5 = .ok (.getfield 15, 3) := by decide +kernel
theorem dX1_isFull_8 : decode cX1_isFull 8 = .ok (.arraylength, 1) := by decide +kernel
theorem dX1_isFull_9 : decode cX1_isFull 9 = .ok (.if_icmp .lt 7, 3) := by decide +kernel
theorem dX1_isFull_12 : decode cX1_isFull 12 = .ok (.iconst 1, 1) := by decide +kernel
theorem dX1_isFull_13 : decode cX1_isFull 13 = .ok (.goto 4, 3) := by decide +kernel
theorem dX1_isFull_16 : decode cX1_isFull 16 = .ok (.iconst 0, 1) := by decide +kernel
theorem dX1_isFull_17 : decode cX1_isFull 17 = .ok (.ireturn, 1) := by decide +kernel
theorem dX1_itemAt_0 : decode cX1_itemAt 0 = .ok (.iload_n 1, 1) := by decide +kernel
theorem dX1_itemAt_1 : decode cX1_itemAt 1 = .ok (.ifCond .lt 29, 3) := by decide +kernel
theorem dX1_itemAt_4 : decode cX1_itemAt 4 = .ok (.iload_n 1, 1) := by decide +kernel
theorem dX1_itemAt_5 : decode cX1_itemAt 5 = .ok (.aload_n 0, 1) := by decide +kernel
theorem dX1_itemAt_6 : decode cX1_itemAt 6 = .ok (.getfield 21, 3) := by decide +kernel
theorem dX1_itemAt_9 : decode cX1_itemAt 9 = .ok (.if_icmp .ge 21, 3) := by decide +kernel
theorem dX1_itemAt_12 : decode cX1_itemAt 12 = .ok (.iload_n 1, 1) := by decide +kernel
theorem dX1_itemAt_13 : decode cX1_itemAt 13 = .ok (.aload_n 0, 1) := by decide +kernel
theorem dX1_itemAt_14 : decode cX1_itemAt 14 = .ok (.getfield 15, 3) := by decide +kernel
theorem dX1_itemAt_17 : decode cX1_itemAt 17 = .ok (.arraylength, 1) := by decide +kernel
theorem dX1_itemAt_18 : decode cX1_itemAt 18 = .ok (.if_icmp .ge 12, 3) := by decide +kernel
theorem dX1_itemAt_21 : decode cX1_itemAt 21 = .ok (.aload_n 0, 1) := by decide +kernel
theorem dX1_itemAt_22 : decode cX1_itemAt 22 = .ok (.getfield 15, 3) := by decide +kernel
theorem dX1_itemAt_25 : decode cX1_itemAt 25 = .ok (.iload_n 1, 1) := by decide +kernel
theorem dX1_itemAt_26 : decode cX1_itemAt 26 = .ok (.iaload, 1) := by decide +kernel
theorem dX1_itemAt_27 : decode cX1_itemAt 27 = .ok (.goto 4, 3) := by decide +kernel
theorem dX1_itemAt_30 : decode cX1_itemAt 30 = .ok (.iconst (-1), 1) := by decide +kernel
theorem dX1_itemAt_31 : decode cX1_itemAt 31 = .ok (.ireturn, 1) := by decide +kernel
theorem dX1_holds_0 : decode cX1_holds 0 = .ok (.iconst 0, 1) := by decide +kernel
theorem dX1_holds_1 : decode cX1_holds 1 = .ok (.istore_n 2, 1) := by decide +kernel
theorem dX1_holds_2 : decode cX1_holds 2 = .ok (.iload_n 2, 1) := by decide +kernel
theorem dX1_holds_3 : decode cX1_holds 3 = .ok (.aload_n 0, 1) := by decide +kernel
theorem dX1_holds_4 : decode cX1_holds 4 = .ok (.getfield 21, 3) := by decide +kernel
theorem dX1_holds_7 : decode cX1_holds 7 = .ok (.if_icmp .ge 20, 3) := by decide +kernel
theorem dX1_holds_10 : decode cX1_holds 10 = .ok (.aload_n 0, 1) := by decide +kernel
theorem dX1_holds_11 : decode cX1_holds 11 = .ok (.iload_n 2, 1) := by decide +kernel
theorem dX1_holds_12 : decode cX1_holds 12 = .ok (.invokevirtual 25, 3) := by decide +kernel
theorem dX1_holds_15 : decode cX1_holds 15 = .ok (.iload_n 1, 1) := by decide +kernel
theorem dX1_holds_16 : decode cX1_holds 16 = .ok (.if_icmp .ne 5, 3) := by decide +kernel
theorem dX1_holds_19 : decode cX1_holds 19 = .ok (.iconst 1, 1) := by decide +kernel
theorem dX1_holds_20 : decode cX1_holds 20 = .ok (.ireturn, 1) := by decide +kernel
theorem dX1_holds_21 : decode cX1_holds 21 = .ok (.iinc 2 1, 3) := by decide +kernel
theorem dX1_holds_24 : decode cX1_holds 24 = .ok (.goto (-22), 3) := by decide +kernel
theorem dX1_holds_27 : decode cX1_holds 27 = .ok (.iconst 0, 1) := by decide +kernel
theorem dX1_holds_28 : decode cX1_holds 28 = .ok (.ireturn, 1) := by decide +kernel
theorem dX1_addLast_0 : decode cX1_addLast 0 = .ok (.aload_n 0, 1) := by decide +kernel
theorem dX1_addLast_1 : decode cX1_addLast 1 = .ok (.invokevirtual 29, 3) := by decide +kernel
theorem dX1_addLast_4 : decode cX1_addLast 4 = .ok (.ifCond .ne 25, 3) := by decide +kernel
theorem dX1_addLast_7 : decode cX1_addLast 7 = .ok (.aload_n 0, 1) := by decide +kernel
theorem dX1_addLast_8 : decode cX1_addLast 8 = .ok (.getfield 15, 3) := by decide +kernel
theorem dX1_addLast_11 : decode cX1_addLast 11 = .ok (.aload_n 0, 1) := by decide +kernel
theorem dX1_addLast_12 : decode cX1_addLast 12 = .ok (.getfield 21, 3) := by decide +kernel
theorem dX1_addLast_15 : decode cX1_addLast 15 = .ok (.iload_n 1, 1) := by decide +kernel
theorem dX1_addLast_16 : decode cX1_addLast 16 = .ok (.invokestatic 33, 3) := by decide +kernel
theorem dX1_addLast_19 : decode cX1_addLast 19 = .ok (.aload_n 0, 1) := by decide +kernel
theorem dX1_addLast_20 : decode cX1_addLast 20 = .ok (.dup, 1) := by decide +kernel
theorem dX1_addLast_21 : decode cX1_addLast 21 = .ok (.getfield 21, 3) := by decide +kernel
theorem dX1_addLast_24 : decode cX1_addLast 24 = .ok (.iconst 1, 1) := by decide +kernel
theorem dX1_addLast_25 : decode cX1_addLast 25 = .ok (.iadd, 1) := by decide +kernel
theorem dX1_addLast_26 : decode cX1_addLast 26 = .ok (.putfield 21, 3) := by decide +kernel
theorem dX1_addLast_29 : decode cX1_addLast 29 = .ok (.return_, 1) := by decide +kernel
theorem dX1_dropItem_0 : decode cX1_dropItem 0 = .ok (.iconst 0, 1) := by decide +kernel
theorem dX1_dropItem_1 : decode cX1_dropItem 1 = .ok (.istore_n 2, 1) := by decide +kernel
theorem dX1_dropItem_2 : decode cX1_dropItem 2 = .ok (.iconst 0, 1) := by decide +kernel
theorem dX1_dropItem_3 : decode cX1_dropItem 3 = .ok (.istore_n 3, 1) := by decide +kernel
theorem dX1_dropItem_4 : decode cX1_dropItem 4 = .ok (.iload_n 3, 1) := by decide +kernel
theorem dX1_dropItem_5 : decode cX1_dropItem 5 = .ok (.aload_n 0, 1) := by decide +kernel
theorem dX1_dropItem_6 : decode cX1_dropItem 6 = .ok (.getfield 21, 3) := by decide +kernel
theorem dX1_dropItem_9 : decode cX1_dropItem 9 = .ok (.if_icmp .ge 35, 3) := by decide +kernel
theorem dX1_dropItem_12 : decode cX1_dropItem 12 = .ok (.aload_n 0, 1) := by decide +kernel
theorem dX1_dropItem_13 : decode cX1_dropItem 13 = .ok (.iload_n 3, 1) := by decide +kernel
theorem dX1_dropItem_14 : decode cX1_dropItem 14 = .ok (.invokevirtual 25, 3) := by decide +kernel
theorem dX1_dropItem_17 : decode cX1_dropItem 17 = .ok (.istore 4, 2) := by decide +kernel
theorem dX1_dropItem_19 : decode cX1_dropItem 19 = .ok (.iload 4, 2) := by decide +kernel
theorem dX1_dropItem_21 : decode cX1_dropItem 21 = .ok (.iload_n 1, 1) := by decide +kernel
theorem dX1_dropItem_22 : decode cX1_dropItem 22 = .ok (.if_icmp .eq 16, 3) := by decide +kernel
theorem dX1_dropItem_25 : decode cX1_dropItem 25 = .ok (.aload_n 0, 1) := by decide +kernel
theorem dX1_dropItem_26 : decode cX1_dropItem 26 = .ok (.getfield 15, 3) := by decide +kernel
theorem dX1_dropItem_29 : decode cX1_dropItem 29 = .ok (.iload_n 2, 1) := by decide +kernel
theorem dX1_dropItem_30 : decode cX1_dropItem 30 = .ok (.iload 4, 2) := by decide +kernel
theorem dX1_dropItem_32 : decode cX1_dropItem 32 = .ok (.invokestatic 33, 3) := by decide +kernel
theorem dX1_dropItem_35 : decode cX1_dropItem 35 = .ok (.iinc 2 1, 3) := by decide +kernel
theorem dX1_dropItem_38 : decode cX1_dropItem 38 = .ok (.iinc 3 1, 3) := by decide +kernel
theorem dX1_dropItem_41 : decode cX1_dropItem 41 = .ok (.goto (-37), 3) := by decide +kernel
theorem dX1_dropItem_44 : decode cX1_dropItem 44 = .ok (.aload_n 0, 1) := by decide +kernel
theorem dX1_dropItem_45 : decode cX1_dropItem 45 = .ok (.iload_n 2, 1) := by decide +kernel
theorem dX1_dropItem_46 : decode cX1_dropItem 46 = .ok (.putfield 21, 3) := by decide +kernel
theorem dX1_dropItem_49 : decode cX1_dropItem 49 = .ok (.return_, 1) := by decide +kernel
theorem dX1_copyFrom_0 : decode cX1_copyFrom 0 = .ok (.aload_n 1, 1) := by decide +kernel
theorem dX1_copyFrom_1 : decode cX1_copyFrom 1 = .ok (.getfield 15, 3) := by decide +kernel
theorem dX1_copyFrom_4 : decode cX1_copyFrom 4 = .ok (.aload_n 0, 1) := by decide +kernel
theorem dX1_copyFrom_5 : decode cX1_copyFrom 5 = .ok (.getfield 15, 3) := by decide +kernel
theorem dX1_copyFrom_8 : decode cX1_copyFrom 8 = .ok (.invokestatic 39, 3) := by decide +kernel
theorem dX1_copyFrom_11 : decode cX1_copyFrom 11 = .ok (.aload_n 0, 1) := by decide +kernel
theorem dX1_copyFrom_12 : decode cX1_copyFrom 12 = .ok (.aload_n 1, 1) := by decide +kernel
theorem dX1_copyFrom_13 : decode cX1_copyFrom 13 = .ok (.getfield 21, 3) := by decide +kernel
theorem dX1_copyFrom_16 : decode cX1_copyFrom 16 = .ok (.aload_n 0, 1) := by decide +kernel
theorem dX1_copyFrom_17 : decode cX1_copyFrom 17 = .ok (.getfield 15, 3) := by decide +kernel
theorem dX1_copyFrom_20 : decode cX1_copyFrom 20 = .ok (.arraylength, 1) := by decide +kernel
theorem dX1_copyFrom_21 : decode cX1_copyFrom 21 = .ok (.invokestatic 43, 3) := by decide +kernel
theorem dX1_copyFrom_24 : decode cX1_copyFrom 24 = .ok (.putfield 21, 3) := by decide +kernel
theorem dX1_copyFrom_27 : decode cX1_copyFrom 27 = .ok (.return_, 1) := by decide +kernel
theorem dX2_init_0 : decode cX2_init 0 = .ok (.aload_n 0, 1) := by decide +kernel
theorem dX2_init_1 : decode cX2_init 1 = .ok (.invokespecial 3, 3) := by decide +kernel
theorem dX2_init_4 : decode cX2_init 4 = .ok (.aload_n 0, 1) := by decide +kernel
theorem dX2_init_5 : decode cX2_init 5 = .ok (.bipush 16, 2) := by decide +kernel
theorem dX2_init_7 : decode cX2_init 7 = .ok (.newarray .int, 2) := by decide +kernel
theorem dX2_init_9 : decode cX2_init 9 = .ok (.putfield 9, 3) := by decide +kernel
theorem dX2_init_12 : decode cX2_init 12 = .ok (.aload_n 0, 1) := by decide +kernel
theorem dX2_init_13 : decode cX2_init 13 = .ok (.bipush 16, 2) := by decide +kernel
theorem dX2_init_15 : decode cX2_init 15 = .ok (.newarray .int, 2) := by decide +kernel
theorem dX2_init_17 : decode cX2_init 17 = .ok (.putfield 15, 3) := by decide +kernel
theorem dX2_init_20 : decode cX2_init 20 = .ok (.aload_n 0, 1) := by decide +kernel
theorem dX2_init_21 : decode cX2_init 21 = .ok (.bipush 16, 2) := by decide +kernel
theorem dX2_init_23 : decode cX2_init 23 = .ok (.newarray .int, 2) := by decide +kernel
theorem dX2_init_25 : decode cX2_init 25 = .ok (.putfield 18, 3) := by decide +kernel
theorem dX2_init_28 : decode cX2_init 28 = .ok (.aload_n 0, 1) := by decide +kernel
theorem dX2_init_29 : decode cX2_init 29 = .ok (.bipush 16, 2) := by decide +kernel
theorem dX2_init_31 : decode cX2_init 31 = .ok (.newarray .int, 2) := by decide +kernel
theorem dX2_init_33 : decode cX2_init 33 = .ok (.putfield 21, 3) := by decide +kernel
theorem dX2_init_36 : decode cX2_init 36 = .ok (.aload_n 0, 1) := by decide +kernel
theorem dX2_init_37 : decode cX2_init 37 = .ok (.bipush 16, 2) := by decide +kernel
theorem dX2_init_39 : decode cX2_init 39 = .ok (.newarray .int, 2) := by decide +kernel
theorem dX2_init_41 : decode cX2_init 41 = .ok (.putfield 24, 3) := by decide +kernel
theorem dX2_init_44 : decode cX2_init 44 = .ok (.aload_n 0, 1) := by decide +kernel
theorem dX2_init_45 : decode cX2_init 45 = .ok (.iconst 4, 1) := by decide +kernel
theorem dX2_init_46 : decode cX2_init 46 = .ok (.newarray .int, 2) := by decide +kernel
theorem dX2_init_48 : decode cX2_init 48 = .ok (.putfield 27, 3) := by decide +kernel
theorem dX2_init_51 : decode cX2_init 51 = .ok (.aload_n 0, 1) := by decide +kernel
theorem dX2_init_52 : decode cX2_init 52 = .ok (.bipush 32, 2) := by decide +kernel
theorem dX2_init_54 : decode cX2_init 54 = .ok (.newarray .int, 2) := by decide +kernel
theorem dX2_init_56 : decode cX2_init 56 = .ok (.putfield 30, 3) := by decide +kernel
theorem dX2_init_59 : decode cX2_init 59 = .ok (.aload_n 0, 1) := by decide +kernel
theorem dX2_init_60 : decode cX2_init 60 = .ok (.iconst 4, 1) := by decide +kernel
theorem dX2_init_61 : decode cX2_init 61 = .ok (.newarray .int, 2) := by decide +kernel
theorem dX2_init_63 : decode cX2_init 63 = .ok (.putfield 33, 3) := by decide +kernel
theorem dX2_init_66 : decode cX2_init 66 = .ok (.aload_n 0, 1) := by decide +kernel
theorem dX2_init_67 : decode cX2_init 67 = .ok (.new 36, 3) := by decide +kernel
theorem dX2_init_70 : decode cX2_init 70 = .ok (.dup, 1) := by decide +kernel
theorem dX2_init_71 : decode cX2_init 71 = .ok (.bipush 8, 2) := by decide +kernel
theorem dX2_init_73 : decode cX2_init 73 = .ok (.invokespecial 38, 3) := by decide +kernel
theorem dX2_init_76 : decode cX2_init 76 = .ok (.putfield 41, 3) := by decide +kernel
theorem dX2_init_79 : decode cX2_init 79 = .ok (.aload_n 0, 1) := by decide +kernel
theorem dX2_init_80 : decode cX2_init 80 = .ok (.new 36, 3) := by decide +kernel
theorem dX2_init_83 : decode cX2_init 83 = .ok (.dup, 1) := by decide +kernel
theorem dX2_init_84 : decode cX2_init 84 = .ok (.bipush 16, 2) := by decide +kernel
theorem dX2_init_86 : decode cX2_init 86 = .ok (.invokespecial 38, 3) := by decide +kernel
theorem dX2_init_89 : decode cX2_init 89 = .ok (.putfield 45, 3) := by decide +kernel
theorem dX2_init_92 : decode cX2_init 92 = .ok (.iconst 0, 1) := by decide +kernel
theorem dX2_init_93 : decode cX2_init 93 = .ok (.istore_n 1, 1) := by decide +kernel
theorem dX2_init_94 : decode cX2_init 94 = .ok (.iload_n 1, 1) := by decide +kernel
theorem dX2_init_95 : decode cX2_init 95 = .ok (.getstatic 48, 3) := by decide +kernel
theorem dX2_init_98 : decode cX2_init 98 = .ok (.arraylength, 1) := by decide +kernel
theorem dX2_init_99 : decode cX2_init 99 = .ok (.if_icmp .ge 29, 3) := by decide +kernel
theorem dX2_init_102 : decode cX2_init 102 = .ok (.iload_n 1, 1) := by decide +kernel
theorem dX2_init_103 : decode cX2_init 103 = .ok (.aload_n 0, 1) := by decide +kernel
theorem dX2_init_104 : decode cX2_init 104 = .ok (.getfield 33, 3) := by decide +kernel
theorem dX2_init_107 : decode cX2_init 107 = .ok (.arraylength, 1) := by decide +kernel
theorem dX2_init_108 : decode cX2_init 108 = .ok (.if_icmp .ge 20, 3) := by decide +kernel
theorem dX2_init_111 : decode cX2_init 111 = .ok (.aload_n 0, 1) := by decide +kernel
theorem dX2_init_112 : decode cX2_init 112 = .ok (.getfield 33, 3) := by decide +kernel
theorem dX2_init_115 : decode cX2_init 115 = .ok (.iload_n 1, 1) := by decide +kernel
theorem dX2_init_116 : decode cX2_init 116 = .ok (.getstatic 48, 3) := by decide +kernel
theorem dX2_init_119 : decode cX2_init 119 = .ok (.iload_n 1, 1) := by decide +kernel
theorem dX2_init_120 : decode cX2_init 120 = .ok (.iaload, 1) := by decide +kernel
theorem dX2_init_121 : decode cX2_init 121 = .ok (.iastore, 1) := by decide +kernel
theorem dX2_init_122 : decode cX2_init 122 = .ok (.iinc 1 1, 3) := by decide +kernel
theorem dX2_init_125 : decode cX2_init 125 = .ok (.goto (-31), 3) := by decide +kernel
theorem dX2_init_128 : decode cX2_init 128 = .ok (.return_, 1) := by decide +kernel
theorem dX2_copyFrom_0 : decode cX2_copyFrom 0 = .ok (.aload_n 1, 1) := by decide +kernel
theorem dX2_copyFrom_1 : decode cX2_copyFrom 1 = .ok (.getfield 9, 3) := by decide +kernel
theorem dX2_copyFrom_4 : decode cX2_copyFrom 4 = .ok (.aload_n 0, 1) := by decide +kernel
theorem dX2_copyFrom_5 : decode cX2_copyFrom 5 = .ok (.getfield 9, 3) := by decide +kernel
theorem dX2_copyFrom_8 : decode cX2_copyFrom 8 = .ok (.invokestatic 51, 3) := by decide +kernel
theorem dX2_copyFrom_11 : decode cX2_copyFrom 11 = .ok (.aload_n 1, 1) := by decide +kernel
theorem dX2_copyFrom_12 : decode cX2_copyFrom 12 = .ok (.getfield 15, 3) := by decide +kernel
theorem dX2_copyFrom_15 : decode cX2_copyFrom 15 = .ok (.aload_n 0, 1) := by decide +kernel
theorem dX2_copyFrom_16 : decode cX2_copyFrom 16 = .ok (.getfield 15, 3) := by decide +kernel
theorem dX2_copyFrom_19 : decode cX2_copyFrom 19 = .ok (.invokestatic 51, 3) := by decide +kernel
theorem dX2_copyFrom_22 : decode cX2_copyFrom 22 = .ok (.aload_n 1, 1) := by decide +kernel
theorem dX2_copyFrom_23 : decode cX2_copyFrom 23 = .ok (.getfield 18, 3) := by decide +kernel
theorem dX2_copyFrom_26 : decode cX2_copyFrom 26 = .ok (.aload_n 0, 1) := by decide +kernel
theorem dX2_copyFrom_27 : decode cX2_copyFrom 27 = .ok (.getfield 18, 3) := by decide +kernel
theorem dX2_copyFrom_30 : decode cX2_copyFrom 30 = .ok (.invokestatic 51, 3) := by decide +kernel
theorem dX2_copyFrom_33 : decode cX2_copyFrom 33 = .ok (.aload_n 1, 1) := by decide +kernel
theorem dX2_copyFrom_34 : decode cX2_copyFrom 34 = .ok (.getfield 21, 3) := by decide +kernel
theorem dX2_copyFrom_37 : decode cX2_copyFrom 37 = .ok (.aload_n 0, 1) := by decide +kernel
theorem dX2_copyFrom_38 : decode cX2_copyFrom 38 = .ok (.getfield 21, 3) := by decide +kernel
theorem dX2_copyFrom_41 : decode cX2_copyFrom 41 = .ok (.invokestatic 51, 3) := by decide +kernel
theorem dX2_copyFrom_44 : decode cX2_copyFrom 44 = .ok (.aload_n 1, 1) := by decide +kernel
theorem dX2_copyFrom_45 : decode cX2_copyFrom 45 = .ok (.getfield 24, 3) := by decide +kernel
theorem dX2_copyFrom_48 : decode cX2_copyFrom 48 = .ok (.aload_n 0, 1) := by decide +kernel
theorem dX2_copyFrom_49 : decode cX2_copyFrom 49 = .ok (.getfield 24, 3) := by decide +kernel
theorem dX2_copyFrom_52 : decode cX2_copyFrom 52 = .ok (.invokestatic 51, 3) := by decide +kernel
theorem dX2_copyFrom_55 : decode cX2_copyFrom 55 = .ok (.aload_n 1, 1) := by decide +kernel
theorem dX2_copyFrom_56 : decode cX2_copyFrom 56 = .ok (.getfield 27, 3) := by decide +kernel
theorem dX2_copyFrom_59 : decode cX2_copyFrom 59 = .ok (.aload_n 0, 1) := by decide +kernel
theorem dX2_copyFrom_60 : decode cX2_copyFrom 60 = .ok (.getfield 27, 3) := by decide +kernel
theorem dX2_copyFrom_63 : decode cX2_copyFrom 63 = .ok (.invokestatic 51, 3) := by decide +kernel
theorem dX2_copyFrom_66 : decode cX2_copyFrom 66 = .ok (.aload_n 1, 1) := by decide +kernel
theorem dX2_copyFrom_67 : decode cX2_copyFrom 67 = .ok (.getfield 30, 3) := by decide +kernel
theorem dX2_copyFrom_70 : decode cX2_copyFrom 70 = .ok (.aload_n 0, 1) := by decide +kernel
theorem dX2_copyFrom_71 : decode cX2_copyFrom 71 = .ok (.getfield 30, 3) := by decide +kernel
theorem dX2_copyFrom_74 : decode cX2_copyFrom 74 = .ok (.invokestatic 51, 3) := by decide +kernel
theorem dX2_copyFrom_77 : decode cX2_copyFrom 77 = .ok (.aload_n 1, 1) := by decide +kernel
theorem dX2_copyFrom_78 : decode cX2_copyFrom 78 = .ok (.getfield 33, 3) := by decide +kernel
theorem dX2_copyFrom_81 : decode cX2_copyFrom 81 = .ok (.aload_n 0, 1) := by decide +kernel
theorem dX2_copyFrom_82 : decode cX2_copyFrom 82 = .ok (.getfield 33, 3) := by decide +kernel
theorem dX2_copyFrom_85 : decode cX2_copyFrom 85 = .ok (.invokestatic 51, 3) := by decide +kernel
theorem dX2_copyFrom_88 : decode cX2_copyFrom 88 = .ok (.aload_n 0, 1) := by decide +kernel
theorem dX2_copyFrom_89 : decode cX2_copyFrom 89 = .ok (.getfield 41, 3) := by decide +kernel
theorem dX2_copyFrom_92 : decode cX2_copyFrom 92 = .ok (.aload_n 1, 1) := by decide +kernel
theorem dX2_copyFrom_93 : decode cX2_copyFrom 93 = .ok (.getfield 41, 3) := by decide +kernel
theorem dX2_copyFrom_96 : decode cX2_copyFrom 96 = .ok (.invokevirtual 57, 3) := by decide +kernel
theorem dX2_copyFrom_99 : decode cX2_copyFrom 99 = .ok (.aload_n 0, 1) := by decide +kernel
theorem dX2_copyFrom_100 : decode cX2_copyFrom 100 = .ok (.getfield 45, 3) := by decide +kernel
theorem dX2_copyFrom_103 : decode cX2_copyFrom 103 = .ok (.aload_n 1, 1) := by decide +kernel
theorem dX2_copyFrom_104 : decode cX2_copyFrom 104 = .ok (.getfield 45, 3) := by decide +kernel
theorem dX2_copyFrom_107 : decode cX2_copyFrom 107 = .ok (.invokevirtual 57, 3) := by decide +kernel
theorem dX2_copyFrom_110 : decode cX2_copyFrom 110 = .ok (.aload_n 0, 1) := by decide +kernel
theorem dX2_copyFrom_111 : decode cX2_copyFrom 111 = .ok (.aload_n 1, 1) := by decide +kernel
theorem dX2_copyFrom_112 : decode cX2_copyFrom 112 = .ok (.getfield 61, 3) := by decide +kernel
theorem dX2_copyFrom_115 : decode cX2_copyFrom 115 = .ok (.putfield 61, 3) := by decide +kernel
theorem dX2_copyFrom_118 : decode cX2_copyFrom 118 = .ok (.aload_n 0, 1) := by decide +kernel
theorem dX2_copyFrom_119 : decode cX2_copyFrom 119 = .ok (.aload_n 1, 1) := by decide +kernel
theorem dX2_copyFrom_120 : decode cX2_copyFrom 120 = .ok (.getfield 65, 3) := by decide +kernel
theorem dX2_copyFrom_123 : decode cX2_copyFrom 123 = .ok (.putfield 65, 3) := by decide +kernel
theorem dX2_copyFrom_126 : decode cX2_copyFrom 126 = .ok (.aload_n 0, 1) := by decide +kernel
theorem dX2_copyFrom_127 : decode cX2_copyFrom 127 = .ok (.aload_n 1, 1) := by decide +kernel
theorem dX2_copyFrom_128 : decode cX2_copyFrom 128 = .ok (.getfield 68, 3) := by decide +kernel
theorem dX2_copyFrom_131 : decode cX2_copyFrom 131 = .ok (.putfield 68, 3) := by decide +kernel
theorem dX2_copyFrom_134 : decode cX2_copyFrom 134 = .ok (.aload_n 0, 1) := by decide +kernel
theorem dX2_copyFrom_135 : decode cX2_copyFrom 135 = .ok (.aload_n 1, 1) := by decide +kernel
theorem dX2_copyFrom_136 : decode cX2_copyFrom 136 = .ok (.getfield 71, 3) := by decide +kernel
theorem dX2_copyFrom_139 : decode cX2_copyFrom 139 = .ok (.putfield 71, 3) := by decide +kernel
theorem dX2_copyFrom_142 : decode cX2_copyFrom 142 = .ok (.return_, 1) := by decide +kernel
theorem dX2_isGuest_0 : decode cX2_isGuest 0 = .ok (.iload_n 1, 1) := by decide +kernel
theorem dX2_isGuest_1 : decode cX2_isGuest 1 = .ok (.ifCond .lt 15, 3) := by decide +kernel
theorem dX2_isGuest_4 : decode cX2_isGuest 4 = .ok (.iload_n 1, 1) := by decide +kernel
theorem dX2_isGuest_5 : decode cX2_isGuest 5 = .ok (.aload_n 0, 1) := by decide +kernel
theorem dX2_isGuest_6 : decode cX2_isGuest 6 = .ok (.getfield 61, 3) := by decide +kernel
theorem dX2_isGuest_9 : decode cX2_isGuest 9 = .ok (.if_icmp .ge 7, 3) := by decide +kernel
theorem dX2_isGuest_12 : decode cX2_isGuest 12 = .ok (.iconst 1, 1) := by decide +kernel
theorem dX2_isGuest_13 : decode cX2_isGuest 13 = .ok (.goto 4, 3) := by decide +kernel
theorem dX2_isGuest_16 : decode cX2_isGuest 16 = .ok (.iconst 0, 1) := by decide +kernel
theorem dX2_isGuest_17 : decode cX2_isGuest 17 = .ok (.ireturn, 1) := by decide +kernel
theorem dX2_isTable_0 : decode cX2_isTable 0 = .ok (.iload_n 1, 1) := by decide +kernel
theorem dX2_isTable_1 : decode cX2_isTable 1 = .ok (.ifCond .lt 15, 3) := by decide +kernel
theorem dX2_isTable_4 : decode cX2_isTable 4 = .ok (.iload_n 1, 1) := by decide +kernel
theorem dX2_isTable_5 : decode cX2_isTable 5 = .ok (.aload_n 0, 1) := by decide +kernel
theorem dX2_isTable_6 : decode cX2_isTable 6 = .ok (.getfield 65, 3) := by decide +kernel
theorem dX2_isTable_9 : decode cX2_isTable 9 = .ok (.if_icmp .ge 7, 3) := by decide +kernel
theorem dX2_isTable_12 : decode cX2_isTable 12 = .ok (.iconst 1, 1) := by decide +kernel
theorem dX2_isTable_13 : decode cX2_isTable 13 = .ok (.goto 4, 3) := by decide +kernel
theorem dX2_isTable_16 : decode cX2_isTable 16 = .ok (.iconst 0, 1) := by decide +kernel
theorem dX2_isTable_17 : decode cX2_isTable 17 = .ok (.ireturn, 1) := by decide +kernel
theorem dX2_isSeat_0 : decode cX2_isSeat 0 = .ok (.aload_n 0, 1) := by decide +kernel
theorem dX2_isSeat_1 : decode cX2_isSeat 1 = .ok (.iload_n 1, 1) := by decide +kernel
theorem dX2_isSeat_2 : decode cX2_isSeat 2 = .ok (.invokevirtual 74, 3) := by decide +kernel
theorem dX2_isSeat_5 : decode cX2_isSeat 5 = .ok (.ifCond .eq 20, 3) := by decide +kernel
theorem dX2_isSeat_8 : decode cX2_isSeat 8 = .ok (.iload_n 2, 1) := by decide +kernel
theorem dX2_isSeat_9 : decode cX2_isSeat 9 = .ok (.ifCond .lt 16, 3) := by decide +kernel
theorem dX2_isSeat_12 : decode cX2_isSeat 12 = .ok (.iload_n 2, 1) := by decide +kernel
theorem dX2_isSeat_13 : decode cX2_isSeat 13 = .ok (.aload_n 0, 1) := by decide +kernel
theorem dX2_isSeat_14 : decode cX2_isSeat 14 = .ok (.iload_n 1, 1) := by decide +kernel
theorem dX2_isSeat_15 : decode cX2_isSeat 15 = .ok (.invokevirtual 78, 3) := by decide +kernel
theorem dX2_isSeat_18 : decode cX2_isSeat 18 = .ok (.if_icmp .ge 7, 3) := by decide +kernel
theorem dX2_isSeat_21 : decode cX2_isSeat 21 = .ok (.iconst 1, 1) := by decide +kernel
theorem dX2_isSeat_22 : decode cX2_isSeat 22 = .ok (.goto 4, 3) := by decide +kernel
theorem dX2_isSeat_25 : decode cX2_isSeat 25 = .ok (.iconst 0, 1) := by decide +kernel
theorem dX2_isSeat_26 : decode cX2_isSeat 26 = .ok (.ireturn, 1) := by decide +kernel
theorem dX2_isAtLeg_0 : decode cX2_isAtLeg 0 = .ok (.iload_n 0, 1) := by decide +kernel
theorem dX2_isAtLeg_1 : decode cX2_isAtLeg 1 = .ok (.iconst 3, 1) := by decide +kernel
theorem dX2_isAtLeg_2 : decode cX2_isAtLeg 2 = .ok (.irem, 1) := by decide +kernel
theorem dX2_isAtLeg_3 : decode cX2_isAtLeg 3 = .ok (.ifCond .ne 7, 3) := by decide +kernel
theorem dX2_isAtLeg_6 : decode cX2_isAtLeg 6 = .ok (.iconst 1, 1) := by decide +kernel
theorem dX2_isAtLeg_7 : decode cX2_isAtLeg 7 = .ok (.goto 4, 3) := by decide +kernel
theorem dX2_isAtLeg_10 : decode cX2_isAtLeg 10 = .ok (.iconst 0, 1) := by decide +kernel
theorem dX2_isAtLeg_11 : decode cX2_isAtLeg 11 = .ok (.ireturn, 1) := by decide +kernel
theorem dX2_isSitting_0 : decode cX2_isSitting 0 = .ok (.aload_n 0, 1) := by decide +kernel
theorem dX2_isSitting_1 : decode cX2_isSitting 1 = .ok (.getfield 21, 3) := by decide +kernel
theorem dX2_isSitting_4 : decode cX2_isSitting 4 = .ok (.iload_n 1, 1) := by decide +kernel
theorem dX2_isSitting_5 : decode cX2_isSitting 5 = .ok (.invokestatic 82, 3) := by decide +kernel
theorem dX2_isSitting_8 : decode cX2_isSitting 8 = .ok (.iconst (-1), 1) := by decide +kernel
theorem dX2_isSitting_9 : decode cX2_isSitting 9 = .ok (.if_icmp .eq 7, 3) := by decide +kernel
theorem dX2_isSitting_12 : decode cX2_isSitting 12 = .ok (.iconst 1, 1) := by decide +kernel
theorem dX2_isSitting_13 : decode cX2_isSitting 13 = .ok (.goto 4, 3) := by decide +kernel
theorem dX2_isSitting_16 : decode cX2_isSitting 16 = .ok (.iconst 0, 1) := by decide +kernel
theorem dX2_isSitting_17 : decode cX2_isSitting 17 = .ok (.ireturn, 1) := by decide +kernel
theorem dX2_seatsAt_0 : decode cX2_seatsAt 0 = .ok (.iload_n 1, 1) := by decide +kernel
theorem dX2_seatsAt_1 : decode cX2_seatsAt 1 = .ok (.ifCond .lt 21, 3) := by decide +kernel
theorem dX2_seatsAt_4 : decode cX2_seatsAt 4 = .ok (.iload_n 1, 1) := by decide +kernel
theorem dX2_seatsAt_5 : decode cX2_seatsAt 5 = .ok (.aload_n 0, 1) := by decide +kernel
theorem dX2_seatsAt_6 : decode cX2_seatsAt 6 = .ok (.getfield 27, 3) := by decide +kernel
theorem dX2_seatsAt_9 : decode cX2_seatsAt 9 = .ok (.arraylength, 1) := by decide +kernel
theorem dX2_seatsAt_10 : decode cX2_seatsAt 10 = .ok (.if_icmp .ge 12, 3) := by decide +kernel
theorem dX2_seatsAt_13 : decode cX2_seatsAt 13 = .ok (.aload_n 0, 1) := by decide +kernel
theorem dX2_seatsAt_14 : decode cX2_seatsAt 14 = .ok (.getfield 27, 3) := by decide +kernel
theorem dX2_seatsAt_17 : decode cX2_seatsAt 17 = .ok (.iload_n 1, 1) := by decide +kernel
theorem dX2_seatsAt_18 : decode cX2_seatsAt 18 = .ok (.iaload, 1) := by decide +kernel
theorem dX2_seatsAt_19 : decode cX2_seatsAt 19 = .ok (.goto 4, 3) := by decide +kernel
theorem dX2_seatsAt_22 : decode cX2_seatsAt 22 = .ok (.iconst 0, 1) := by decide +kernel
theorem dX2_seatsAt_23 : decode cX2_seatsAt 23 = .ok (.ireturn, 1) := by decide +kernel
theorem dX2_holderAt_0 : decode cX2_holderAt 0 = .ok (.iload_n 1, 1) := by decide +kernel
theorem dX2_holderAt_1 : decode cX2_holderAt 1 = .ok (.bipush 8, 2) := by decide +kernel
theorem dX2_holderAt_3 : decode cX2_holderAt 3 = .ok (.imul, 1) := by decide +kernel
theorem dX2_holderAt_4 : decode cX2_holderAt 4 = .ok (.iload_n 2, 1) := by decide +kernel
theorem dX2_holderAt_5 : decode cX2_holderAt 5 = .ok (.iadd, 1) := by decide +kernel
theorem dX2_holderAt_6 : decode cX2_holderAt 6 = .ok (.istore_n 3, 1) := by decide +kernel
theorem dX2_holderAt_7 : decode cX2_holderAt 7 = .ok (.iload_n 3, 1) := by decide +kernel
theorem dX2_holderAt_8 : decode cX2_holderAt 8 = .ok (.ifCond .lt 21, 3) := by decide +kernel
theorem dX2_holderAt_11 : decode cX2_holderAt 11 = .ok (.iload_n 3, 1) := by decide +kernel
theorem dX2_holderAt_12 : decode cX2_holderAt 12 = .ok (.aload_n 0, 1) := by decide +kernel
theorem dX2_holderAt_13 : decode cX2_holderAt 13 = .ok (.getfield 30, 3) := by decide +kernel
theorem dX2_holderAt_16 : decode cX2_holderAt 16 = .ok (.arraylength, 1) := by decide +kernel
theorem dX2_holderAt_17 : decode cX2_holderAt 17 = .ok (.if_icmp .ge 12, 3) := by decide +kernel
theorem dX2_holderAt_20 : decode cX2_holderAt 20 = .ok (.aload_n 0, 1) := by decide +kernel
theorem dX2_holderAt_21 : decode cX2_holderAt 21 = .ok (.getfield 30, 3) := by decide +kernel
theorem dX2_holderAt_24 : decode cX2_holderAt 24 = .ok (.iload_n 3, 1) := by decide +kernel
theorem dX2_holderAt_25 : decode cX2_holderAt 25 = .ok (.iaload, 1) := by decide +kernel
theorem dX2_holderAt_26 : decode cX2_holderAt 26 = .ok (.goto 4, 3) := by decide +kernel
theorem dX2_holderAt_29 : decode cX2_holderAt 29 = .ok (.iconst (-1), 1) := by decide +kernel
theorem dX2_holderAt_30 : decode cX2_holderAt 30 = .ok (.ireturn, 1) := by decide +kernel
theorem dX2_sittingAt_0 : decode cX2_sittingAt 0 = .ok (.iconst 0, 1) := by decide +kernel
theorem dX2_sittingAt_1 : decode cX2_sittingAt 1 = .ok (.istore_n 2, 1) := by decide +kernel
theorem dX2_sittingAt_2 : decode cX2_sittingAt 2 = .ok (.iconst 0, 1) := by decide +kernel
theorem dX2_sittingAt_3 : decode cX2_sittingAt 3 = .ok (.istore_n 3, 1) := by decide +kernel
theorem dX2_sittingAt_4 : decode cX2_sittingAt 4 = .ok (.iload_n 3, 1) := by decide +kernel
theorem dX2_sittingAt_5 : decode cX2_sittingAt 5 = .ok (.aload_n 0, 1) := by decide +kernel
theorem dX2_sittingAt_6 : decode cX2_sittingAt 6 = .ok (.iload_n 1, 1) := by decide +kernel
theorem dX2_sittingAt_7 : decode cX2_sittingAt 7 = .ok (.invokevirtual 78, 3) := by decide +kernel
theorem dX2_sittingAt_10 : decode cX2_sittingAt 10 = .ok (.if_icmp .ge 22, 3) := by decide +kernel
theorem dX2_sittingAt_13 : decode cX2_sittingAt 13 = .ok (.aload_n 0, 1) := by decide +kernel
theorem dX2_sittingAt_14 : decode cX2_sittingAt 14 = .ok (.iload_n 1, 1) := by decide +kernel
theorem dX2_sittingAt_15 : decode cX2_sittingAt 15 = .ok (.iload_n 3, 1) := by decide +kernel
theorem dX2_sittingAt_16 : decode cX2_sittingAt 16 = .ok (.invokevirtual 86, 3) := by decide +kernel
theorem dX2_sittingAt_19 : decode cX2_sittingAt 19 = .ok (.iconst (-1), 1) := by decide +kernel
theorem dX2_sittingAt_20 : decode cX2_sittingAt 20 = .ok (.if_icmp .eq 6, 3) := by decide +kernel
theorem dX2_sittingAt_23 : decode cX2_sittingAt 23 = .ok (.iinc 2 1, 3) := by decide +kernel
theorem dX2_sittingAt_26 : decode cX2_sittingAt 26 = .ok (.iinc 3 1, 3) := by decide +kernel
theorem dX2_sittingAt_29 : decode cX2_sittingAt 29 = .ok (.goto (-25), 3) := by decide +kernel
theorem dX2_sittingAt_32 : decode cX2_sittingAt 32 = .ok (.iload_n 2, 1) := by decide +kernel
theorem dX2_sittingAt_33 : decode cX2_sittingAt 33 = .ok (.ireturn, 1) := by decide +kernel
theorem dX2_easySeatsFree_0 : decode cX2_easySeatsFree 0 = .ok (.iconst 0, 1) := by decide +kernel
theorem dX2_easySeatsFree_1 : decode cX2_easySeatsFree 1 = .ok (.istore_n 2, 1) := by decide +kernel
theorem dX2_easySeatsFree_2 : decode cX2_easySeatsFree 2 = .ok (.iconst 0, 1) := by decide +kernel
theorem dX2_easySeatsFree_3 : decode cX2_easySeatsFree 3 = .ok (.istore_n 3, 1) := by decide +kernel
theorem dX2_easySeatsFree_4 : decode cX2_easySeatsFree 4 = .ok (.iload_n 3, 1) := by decide +kernel
theorem dX2_easySeatsFree_5 : decode cX2_easySeatsFree 5 = .ok (.aload_n 0, 1) := by decide +kernel
theorem dX2_easySeatsFree_6 : decode cX2_easySeatsFree 6 = .ok (.iload_n 1, 1) := by decide +kernel
theorem dX2_easySeatsFree_7 : decode cX2_easySeatsFree 7 = .ok (.invokevirtual 78, 3) := by decide +kernel
theorem dX2_easySeatsFree_10 : decode cX2_easySeatsFree 10 = .ok (.if_icmp .ge 29, 3) := by decide +kernel
theorem dX2_easySeatsFree_13 : decode cX2_easySeatsFree 13 = .ok (.aload_n 0, 1) := by decide +kernel
theorem dX2_easySeatsFree_14 : decode cX2_easySeatsFree 14 = .ok (.iload_n 1, 1) := by decide +kernel
theorem dX2_easySeatsFree_15 : decode cX2_easySeatsFree 15 = .ok (.iload_n 3, 1) := by decide +kernel
theorem dX2_easySeatsFree_16 : decode cX2_easySeatsFree 16 = .ok (.invokevirtual 86, 3) := by decide +kernel
theorem dX2_easySeatsFree_19 : decode cX2_easySeatsFree 19 = .ok (.iconst (-1), 1) := by decide +kernel
theorem dX2_easySeatsFree_20 : decode cX2_easySeatsFree 20 = .ok (.if_icmp .ne 13, 3) := by decide +kernel
theorem dX2_easySeatsFree_23 : decode cX2_easySeatsFree 23 = .ok (.iload_n 3, 1) := by decide +kernel
theorem dX2_easySeatsFree_24 : decode cX2_easySeatsFree 24 = .ok (.invokestatic 90, 3) := by decide +kernel
theorem dX2_easySeatsFree_27 : decode cX2_easySeatsFree 27 = .ok (.ifCond .ne 6, 3) := by decide +kernel
theorem dX2_easySeatsFree_30 : decode cX2_easySeatsFree 30 = .ok (.iinc 2 1, 3) := by decide +kernel
theorem dX2_easySeatsFree_33 : decode cX2_easySeatsFree 33 = .ok (.iinc 3 1, 3) := by decide +kernel
theorem dX2_easySeatsFree_36 : decode cX2_easySeatsFree 36 = .ok (.goto (-32), 3) := by decide +kernel
theorem dX2_easySeatsFree_39 : decode cX2_easySeatsFree 39 = .ok (.iload_n 2, 1) := by decide +kernel
theorem dX2_easySeatsFree_40 : decode cX2_easySeatsFree 40 = .ok (.ireturn, 1) := by decide +kernel
theorem dX2_familyMask_0 : decode cX2_familyMask 0 = .ok (.iconst 0, 1) := by decide +kernel
theorem dX2_familyMask_1 : decode cX2_familyMask 1 = .ok (.istore_n 2, 1) := by decide +kernel
theorem dX2_familyMask_2 : decode cX2_familyMask 2 = .ok (.iconst 0, 1) := by decide +kernel
theorem dX2_familyMask_3 : decode cX2_familyMask 3 = .ok (.istore_n 3, 1) := by decide +kernel
theorem dX2_familyMask_4 : decode cX2_familyMask 4 = .ok (.iload_n 3, 1) := by decide +kernel
theorem dX2_familyMask_5 : decode cX2_familyMask 5 = .ok (.aload_n 0, 1) := by decide +kernel
theorem dX2_familyMask_6 : decode cX2_familyMask 6 = .ok (.iload_n 1, 1) := by decide +kernel
theorem dX2_familyMask_7 : decode cX2_familyMask 7 = .ok (.invokevirtual 78, 3) := by decide +kernel
theorem dX2_familyMask_10 : decode cX2_familyMask 10 = .ok (.if_icmp .ge 37, 3) := by decide +kernel
theorem dX2_familyMask_13 : decode cX2_familyMask 13 = .ok (.aload_n 0, 1) := by decide +kernel
theorem dX2_familyMask_14 : decode cX2_familyMask 14 = .ok (.iload_n 1, 1) := by decide +kernel
theorem dX2_familyMask_15 : decode cX2_familyMask 15 = .ok (.iload_n 3, 1) := by decide +kernel
theorem dX2_familyMask_16 : decode cX2_familyMask 16 = .ok (.invokevirtual 86, 3) := by decide +kernel
theorem dX2_familyMask_19 : decode cX2_familyMask 19 = .ok (.istore 4, 2) := by decide +kernel
theorem dX2_familyMask_21 : decode cX2_familyMask 21 = .ok (.iload 4, 2) := by decide +kernel
theorem dX2_familyMask_23 : decode cX2_familyMask 23 = .ok (.iconst (-1), 1) := by decide +kernel
theorem dX2_familyMask_24 : decode cX2_familyMask 24 = .ok (.if_icmp .eq 17, 3) := by decide +kernel
theorem dX2_familyMask_27 : decode cX2_familyMask 27 = .ok (.iload_n 2, 1) := by decide +kernel
theorem dX2_familyMask_28 : decode cX2_familyMask 28 = .ok (.iconst 1, 1) := by decide +kernel
theorem dX2_familyMask_29 : decode cX2_familyMask 29 = .ok (.aload_n 0, 1) := by decide +kernel
theorem dX2_familyMask_30 : decode cX2_familyMask 30 = .ok (.getfield 9, 3) := by decide +kernel
theorem dX2_familyMask_33 : decode cX2_familyMask 33 = .ok (.iload 4, 2) := by decide +kernel
theorem dX2_familyMask_35 : decode cX2_familyMask 35 = .ok (.invokestatic 82, 3) := by decide +kernel
theorem dX2_familyMask_38 : decode cX2_familyMask 38 = .ok (.ishl, 1) := by decide +kernel
theorem dX2_familyMask_39 : decode cX2_familyMask 39 = .ok (.ior, 1) := by decide +kernel
theorem dX2_familyMask_40 : decode cX2_familyMask 40 = .ok (.istore_n 2, 1) := by decide +kernel
theorem dX2_familyMask_41 : decode cX2_familyMask 41 = .ok (.iinc 3 1, 3) := by decide +kernel
theorem dX2_familyMask_44 : decode cX2_familyMask 44 = .ok (.goto (-40), 3) := by decide +kernel
theorem dX2_familyMask_47 : decode cX2_familyMask 47 = .ok (.iload_n 2, 1) := by decide +kernel
theorem dX2_familyMask_48 : decode cX2_familyMask 48 = .ok (.ireturn, 1) := by decide +kernel
theorem dX2_familyAt_0 : decode cX2_familyAt 0 = .ok (.iconst 0, 1) := by decide +kernel
theorem dX2_familyAt_1 : decode cX2_familyAt 1 = .ok (.istore_n 3, 1) := by decide +kernel
theorem dX2_familyAt_2 : decode cX2_familyAt 2 = .ok (.iconst 0, 1) := by decide +kernel
theorem dX2_familyAt_3 : decode cX2_familyAt 3 = .ok (.istore 4, 2) := by decide +kernel
theorem dX2_familyAt_5 : decode cX2_familyAt 5 = .ok (.iload 4, 2) := by decide +kernel
theorem dX2_familyAt_7 : decode cX2_familyAt 7 = .ok (.aload_n 0, 1) := by decide +kernel
theorem dX2_familyAt_8 : decode cX2_familyAt 8 = .ok (.iload_n 1, 1) := by decide +kernel
theorem dX2_familyAt_9 : decode cX2_familyAt 9 = .ok (.invokevirtual 78, 3) := by decide +kernel
theorem dX2_familyAt_12 : decode cX2_familyAt 12 = .ok (.if_icmp .ge 40, 3) := by decide +kernel
theorem dX2_familyAt_15 : decode cX2_familyAt 15 = .ok (.aload_n 0, 1) := by decide +kernel
theorem dX2_familyAt_16 : decode cX2_familyAt 16 = .ok (.iload_n 1, 1) := by decide +kernel
theorem dX2_familyAt_17 : decode cX2_familyAt 17 = .ok (.iload 4, 2) := by decide +kernel
theorem dX2_familyAt_19 : decode cX2_familyAt 19 = .ok (.invokevirtual 86, 3) := by decide +kernel
theorem dX2_familyAt_22 : decode cX2_familyAt 22 = .ok (.istore 5, 2) := by decide +kernel
theorem dX2_familyAt_24 : decode cX2_familyAt 24 = .ok (.iload 5, 2) := by decide +kernel
theorem dX2_familyAt_26 : decode cX2_familyAt 26 = .ok (.iconst (-1), 1) := by decide +kernel
theorem dX2_familyAt_27 : decode cX2_familyAt 27 = .ok (.if_icmp .eq 19, 3) := by decide +kernel
theorem dX2_familyAt_30 : decode cX2_familyAt 30 = .ok (.aload_n 0, 1) := by decide +kernel
theorem dX2_familyAt_31 : decode cX2_familyAt 31 = .ok (.getfield 9, 3) := by decide +kernel
theorem dX2_familyAt_34 : decode cX2_familyAt 34 = .ok (.iload 5, 2) := by decide +kernel
theorem dX2_familyAt_36 : decode cX2_familyAt 36 = .ok (.invokestatic 82, 3) := by decide +kernel
theorem dX2_familyAt_39 : decode cX2_familyAt 39 = .ok (.iload_n 2, 1) := by decide +kernel
theorem dX2_familyAt_40 : decode cX2_familyAt 40 = .ok (.if_icmp .ne 6, 3) := by decide +kernel
theorem dX2_familyAt_43 : decode cX2_familyAt 43 = .ok (.iinc 3 1, 3) := by decide +kernel
theorem dX2_familyAt_46 : decode cX2_familyAt 46 = .ok (.iinc 4 1, 3) := by decide +kernel
theorem dX2_familyAt_49 : decode cX2_familyAt 49 = .ok (.goto (-44), 3) := by decide +kernel
theorem dX2_familyAt_52 : decode cX2_familyAt 52 = .ok (.iload_n 3, 1) := by decide +kernel
theorem dX2_familyAt_53 : decode cX2_familyAt 53 = .ok (.ireturn, 1) := by decide +kernel
theorem dX2_letterOfTable_0 : decode cX2_letterOfTable 0 = .ok (.iconst 0, 1) := by decide +kernel
theorem dX2_letterOfTable_1 : decode cX2_letterOfTable 1 = .ok (.istore_n 3, 1) := by decide +kernel
theorem dX2_letterOfTable_2 : decode cX2_letterOfTable 2 = .ok (.iconst 0, 1) := by decide +kernel
theorem dX2_letterOfTable_3 : decode cX2_letterOfTable 3 = .ok (.istore 4, 2) := by decide +kernel
theorem dX2_letterOfTable_5 : decode cX2_letterOfTable 5 = .ok (.iload 4, 2) := by decide +kernel
theorem dX2_letterOfTable_7 : decode cX2_letterOfTable 7 = .ok (.aload_n 0, 1) := by decide +kernel
theorem dX2_letterOfTable_8 : decode cX2_letterOfTable 8 = .ok (.iload_n 1, 1) := by decide +kernel
theorem dX2_letterOfTable_9 : decode cX2_letterOfTable 9 = .ok (.invokevirtual 78, 3) := by decide +kernel
theorem dX2_letterOfTable_12 : decode cX2_letterOfTable 12 = .ok (.if_icmp .ge 69, 3) := by decide +kernel
theorem dX2_letterOfTable_15 : decode cX2_letterOfTable 15 = .ok (.iload_n 3, 1) := by decide +kernel
theorem dX2_letterOfTable_16 : decode cX2_letterOfTable 16 = .ok (.iload_n 2, 1) := by decide +kernel
theorem dX2_letterOfTable_17 : decode cX2_letterOfTable 17 = .ok (.if_icmp .ne 36, 3) := by decide +kernel
theorem dX2_letterOfTable_20 : decode cX2_letterOfTable 20 = .ok (.aload_n 0, 1) := by decide +kernel
theorem dX2_letterOfTable_21 : decode cX2_letterOfTable 21 = .ok (.iload_n 1, 1) := by decide +kernel
theorem dX2_letterOfTable_22 : decode cX2_letterOfTable 22 = .ok (.iload 4, 2) := by decide +kernel
theorem dX2_letterOfTable_24 : decode cX2_letterOfTable 24 = .ok (.invokevirtual 86, 3) := by decide +kernel
theorem dX2_letterOfTable_27 : decode cX2_letterOfTable 27 = .ok (.istore 5, 2) := by decide +kernel
theorem dX2_letterOfTable_29 : decode cX2_letterOfTable 29 = .ok (.iload 5, 2) := by decide +kernel
theorem dX2_letterOfTable_31 : decode cX2_letterOfTable 31 = .ok (.iconst (-1), 1) := by decide +kernel
theorem dX2_letterOfTable_32 : decode cX2_letterOfTable 32 = .ok (.if_icmp .ne 8, 3) := by decide +kernel
theorem dX2_letterOfTable_35 : decode cX2_letterOfTable 35 = .ok (.bipush 46, 2) := by decide +kernel
theorem dX2_letterOfTable_37 : decode cX2_letterOfTable 37 = .ok (.goto 15, 3) := by decide +kernel
theorem dX2_letterOfTable_40 : decode cX2_letterOfTable 40 = .ok (.bipush 65, 2) := by decide +kernel
theorem dX2_letterOfTable_42 : decode cX2_letterOfTable 42 = .ok (.aload_n 0, 1) := by decide +kernel
theorem dX2_letterOfTable_43 : decode cX2_letterOfTable 43 = .ok (.getfield 9, 3) := by decide +kernel
theorem dX2_letterOfTable_46 : decode cX2_letterOfTable 46 = .ok (.iload 5, 2) := by decide +kernel
theorem dX2_letterOfTable_48 : decode cX2_letterOfTable 48 = .ok (.invokestatic 82, 3) := by decide +kernel
theorem dX2_letterOfTable_51 : decode cX2_letterOfTable 51 = .ok (.iadd, 1) := by decide +kernel
theorem dX2_letterOfTable_52 : decode cX2_letterOfTable 52 = .ok (.ireturn, 1) := by decide +kernel
theorem dX2_letterOfTable_53 : decode cX2_letterOfTable 53 = .ok (.iinc 3 1, 3) := by decide +kernel
theorem dX2_letterOfTable_56 : decode cX2_letterOfTable 56 = .ok (.iload 4, 2) := by decide +kernel
theorem dX2_letterOfTable_58 : decode cX2_letterOfTable 58 = .ok (.invokestatic 90, 3) := by decide +kernel
theorem dX2_letterOfTable_61 : decode cX2_letterOfTable 61 = .ok (.ifCond .eq 14, 3) := by decide +kernel
theorem dX2_letterOfTable_64 : decode cX2_letterOfTable 64 = .ok (.iload_n 3, 1) := by decide +kernel
theorem dX2_letterOfTable_65 : decode cX2_letterOfTable 65 = .ok (.iload_n 2, 1) := by decide +kernel
theorem dX2_letterOfTable_66 : decode cX2_letterOfTable 66 = .ok (.if_icmp .ne 6, 3) := by decide +kernel
theorem dX2_letterOfTable_69 : decode cX2_letterOfTable 69 = .ok (.bipush 124, 2) := by decide +kernel
theorem dX2_letterOfTable_71 : decode cX2_letterOfTable 71 = .ok (.ireturn, 1) := by decide +kernel
theorem dX2_letterOfTable_72 : decode cX2_letterOfTable 72 = .ok (.iinc 3 1, 3) := by decide +kernel
theorem dX2_letterOfTable_75 : decode cX2_letterOfTable 75 = .ok (.iinc 4 1, 3) := by decide +kernel
theorem dX2_letterOfTable_78 : decode cX2_letterOfTable 78 = .ok (.goto (-73), 3) := by decide +kernel
theorem dX2_letterOfTable_81 : decode cX2_letterOfTable 81 = .ok (.iconst (-1), 1) := by decide +kernel
theorem dX2_letterOfTable_82 : decode cX2_letterOfTable 82 = .ok (.ireturn, 1) := by decide +kernel
theorem dX2_addGuest_0 : decode cX2_addGuest 0 = .ok (.aload_n 0, 1) := by decide +kernel
theorem dX2_addGuest_1 : decode cX2_addGuest 1 = .ok (.getfield 61, 3) := by decide +kernel
theorem dX2_addGuest_4 : decode cX2_addGuest 4 = .ok (.istore_n 3, 1) := by decide +kernel
theorem dX2_addGuest_5 : decode cX2_addGuest 5 = .ok (.aload_n 0, 1) := by decide +kernel
theorem dX2_addGuest_6 : decode cX2_addGuest 6 = .ok (.getfield 9, 3) := by decide +kernel
theorem dX2_addGuest_9 : decode cX2_addGuest 9 = .ok (.iload_n 3, 1) := by decide +kernel
theorem dX2_addGuest_10 : decode cX2_addGuest 10 = .ok (.iload_n 1, 1) := by decide +kernel
theorem dX2_addGuest_11 : decode cX2_addGuest 11 = .ok (.invokestatic 93, 3) := by decide +kernel
theorem dX2_addGuest_14 : decode cX2_addGuest 14 = .ok (.aload_n 0, 1) := by decide +kernel
theorem dX2_addGuest_15 : decode cX2_addGuest 15 = .ok (.getfield 15, 3) := by decide +kernel
theorem dX2_addGuest_18 : decode cX2_addGuest 18 = .ok (.iload_n 3, 1) := by decide +kernel
theorem dX2_addGuest_19 : decode cX2_addGuest 19 = .ok (.iload_n 2, 1) := by decide +kernel
theorem dX2_addGuest_20 : decode cX2_addGuest 20 = .ok (.invokestatic 93, 3) := by decide +kernel
theorem dX2_addGuest_23 : decode cX2_addGuest 23 = .ok (.aload_n 0, 1) := by decide +kernel
theorem dX2_addGuest_24 : decode cX2_addGuest 24 = .ok (.getfield 18, 3) := by decide +kernel
theorem dX2_addGuest_27 : decode cX2_addGuest 27 = .ok (.iload_n 3, 1) := by decide +kernel
theorem dX2_addGuest_28 : decode cX2_addGuest 28 = .ok (.iconst (-1), 1) := by decide +kernel
theorem dX2_addGuest_29 : decode cX2_addGuest 29 = .ok (.invokestatic 93, 3) := by decide +kernel
theorem dX2_addGuest_32 : decode cX2_addGuest 32 = .ok (.aload_n 0, 1) := by decide +kernel
theorem dX2_addGuest_33 : decode cX2_addGuest 33 = .ok (.getfield 21, 3) := by decide +kernel
theorem dX2_addGuest_36 : decode cX2_addGuest 36 = .ok (.iload_n 3, 1) := by decide +kernel
theorem dX2_addGuest_37 : decode cX2_addGuest 37 = .ok (.iconst (-1), 1) := by decide +kernel
theorem dX2_addGuest_38 : decode cX2_addGuest 38 = .ok (.invokestatic 93, 3) := by decide +kernel
theorem dX2_addGuest_41 : decode cX2_addGuest 41 = .ok (.aload_n 0, 1) := by decide +kernel
theorem dX2_addGuest_42 : decode cX2_addGuest 42 = .ok (.getfield 24, 3) := by decide +kernel
theorem dX2_addGuest_45 : decode cX2_addGuest 45 = .ok (.iload_n 3, 1) := by decide +kernel
theorem dX2_addGuest_46 : decode cX2_addGuest 46 = .ok (.iconst (-1), 1) := by decide +kernel
theorem dX2_addGuest_47 : decode cX2_addGuest 47 = .ok (.invokestatic 93, 3) := by decide +kernel
theorem dX2_addGuest_50 : decode cX2_addGuest 50 = .ok (.aload_n 0, 1) := by decide +kernel
theorem dX2_addGuest_51 : decode cX2_addGuest 51 = .ok (.dup, 1) := by decide +kernel
theorem dX2_addGuest_52 : decode cX2_addGuest 52 = .ok (.getfield 61, 3) := by decide +kernel
theorem dX2_addGuest_55 : decode cX2_addGuest 55 = .ok (.iconst 1, 1) := by decide +kernel
theorem dX2_addGuest_56 : decode cX2_addGuest 56 = .ok (.iadd, 1) := by decide +kernel
theorem dX2_addGuest_57 : decode cX2_addGuest 57 = .ok (.putfield 61, 3) := by decide +kernel
theorem dX2_addGuest_60 : decode cX2_addGuest 60 = .ok (.iload_n 3, 1) := by decide +kernel
theorem dX2_addGuest_61 : decode cX2_addGuest 61 = .ok (.ireturn, 1) := by decide +kernel
theorem dX2_addTable_0 : decode cX2_addTable 0 = .ok (.aload_n 0, 1) := by decide +kernel
theorem dX2_addTable_1 : decode cX2_addTable 1 = .ok (.getfield 65, 3) := by decide +kernel
theorem dX2_addTable_4 : decode cX2_addTable 4 = .ok (.istore_n 2, 1) := by decide +kernel
theorem dX2_addTable_5 : decode cX2_addTable 5 = .ok (.aload_n 0, 1) := by decide +kernel
theorem dX2_addTable_6 : decode cX2_addTable 6 = .ok (.getfield 27, 3) := by decide +kernel
theorem dX2_addTable_9 : decode cX2_addTable 9 = .ok (.iload_n 2, 1) := by decide +kernel
theorem dX2_addTable_10 : decode cX2_addTable 10 = .ok (.iload_n 1, 1) := by decide +kernel
theorem dX2_addTable_11 : decode cX2_addTable 11 = .ok (.invokestatic 93, 3) := by decide +kernel
theorem dX2_addTable_14 : decode cX2_addTable 14 = .ok (.iconst 0, 1) := by decide +kernel
theorem dX2_addTable_15 : decode cX2_addTable 15 = .ok (.istore_n 3, 1) := by decide +kernel
theorem dX2_addTable_16 : decode cX2_addTable 16 = .ok (.iload_n 3, 1) := by decide +kernel
theorem dX2_addTable_17 : decode cX2_addTable 17 = .ok (.bipush 8, 2) := by decide +kernel
theorem dX2_addTable_19 : decode cX2_addTable 19 = .ok (.if_icmp .ge 23, 3) := by decide +kernel
theorem dX2_addTable_22 : decode cX2_addTable 22 = .ok (.aload_n 0, 1) := by decide +kernel
theorem dX2_addTable_23 : decode cX2_addTable 23 = .ok (.getfield 30, 3) := by decide +kernel
theorem dX2_addTable_26 : decode cX2_addTable 26 = .ok (.iload_n 2, 1) := by decide +kernel
theorem dX2_addTable_27 : decode cX2_addTable 27 = .ok (.bipush 8, 2) := by decide +kernel
theorem dX2_addTable_29 : decode cX2_addTable 29 = .ok (.imul, 1) := by decide +kernel
theorem dX2_addTable_30 : decode cX2_addTable 30 = .ok (.iload_n 3, 1) := by decide +kernel
theorem dX2_addTable_31 : decode cX2_addTable 31 = .ok (.iadd, 1) := by decide +kernel
theorem dX2_addTable_32 : decode cX2_addTable 32 = .ok (.iconst (-1), 1) := by decide +kernel
theorem dX2_addTable_33 : decode cX2_addTable 33 = .ok (.invokestatic 93, 3) := by decide +kernel
theorem dX2_addTable_36 : decode cX2_addTable 36 = .ok (.iinc 3 1, 3) := by decide +kernel
theorem dX2_addTable_39 : decode cX2_addTable 39 = .ok (.goto (-23), 3) := by decide +kernel
theorem dX2_addTable_42 : decode cX2_addTable 42 = .ok (.aload_n 0, 1) := by decide +kernel
theorem dX2_addTable_43 : decode cX2_addTable 43 = .ok (.dup, 1) := by decide +kernel
theorem dX2_addTable_44 : decode cX2_addTable 44 = .ok (.getfield 65, 3) := by decide +kernel
theorem dX2_addTable_47 : decode cX2_addTable 47 = .ok (.iconst 1, 1) := by decide +kernel
theorem dX2_addTable_48 : decode cX2_addTable 48 = .ok (.iadd, 1) := by decide +kernel
theorem dX2_addTable_49 : decode cX2_addTable 49 = .ok (.putfield 65, 3) := by decide +kernel
theorem dX2_addTable_52 : decode cX2_addTable 52 = .ok (.iload_n 2, 1) := by decide +kernel
theorem dX2_addTable_53 : decode cX2_addTable 53 = .ok (.ireturn, 1) := by decide +kernel
theorem dX2_feudCode_0 : decode cX2_feudCode 0 = .ok (.bipush 6, 2) := by decide +kernel
theorem dX2_feudCode_2 : decode cX2_feudCode 2 = .ok (.iload_n 0, 1) := by decide +kernel
theorem dX2_feudCode_3 : decode cX2_feudCode 3 = .ok (.iload_n 1, 1) := by decide +kernel
theorem dX2_feudCode_4 : decode cX2_feudCode 4 = .ok (.invokestatic 97, 3) := by decide +kernel
theorem dX2_feudCode_7 : decode cX2_feudCode 7 = .ok (.imul, 1) := by decide +kernel
theorem dX2_feudCode_8 : decode cX2_feudCode 8 = .ok (.iload_n 0, 1) := by decide +kernel
theorem dX2_feudCode_9 : decode cX2_feudCode 9 = .ok (.iload_n 1, 1) := by decide +kernel
theorem dX2_feudCode_10 : decode cX2_feudCode 10 = .ok (.invokestatic 102, 3) := by decide +kernel
theorem dX2_feudCode_13 : decode cX2_feudCode 13 = .ok (.iadd, 1) := by decide +kernel
theorem dX2_feudCode_14 : decode cX2_feudCode 14 = .ok (.ireturn, 1) := by decide +kernel
theorem dX2_hasFeud_0 : decode cX2_hasFeud 0 = .ok (.aload_n 0, 1) := by decide +kernel
theorem dX2_hasFeud_1 : decode cX2_hasFeud 1 = .ok (.getfield 41, 3) := by decide +kernel
theorem dX2_hasFeud_4 : decode cX2_hasFeud 4 = .ok (.iload_n 1, 1) := by decide +kernel
theorem dX2_hasFeud_5 : decode cX2_hasFeud 5 = .ok (.iload_n 2, 1) := by decide +kernel
theorem dX2_hasFeud_6 : decode cX2_hasFeud 6 = .ok (.invokestatic 105, 3) := by decide +kernel
theorem dX2_hasFeud_9 : decode cX2_hasFeud 9 = .ok (.invokevirtual 108, 3) := by decide +kernel
theorem dX2_hasFeud_12 : decode cX2_hasFeud 12 = .ok (.ireturn, 1) := by decide +kernel
theorem dX2_foeMask_0 : decode cX2_foeMask 0 = .ok (.iconst 0, 1) := by decide +kernel
theorem dX2_foeMask_1 : decode cX2_foeMask 1 = .ok (.istore_n 2, 1) := by decide +kernel
theorem dX2_foeMask_2 : decode cX2_foeMask 2 = .ok (.iconst 0, 1) := by decide +kernel
theorem dX2_foeMask_3 : decode cX2_foeMask 3 = .ok (.istore_n 3, 1) := by decide +kernel
theorem dX2_foeMask_4 : decode cX2_foeMask 4 = .ok (.iload_n 3, 1) := by decide +kernel
theorem dX2_foeMask_5 : decode cX2_foeMask 5 = .ok (.aload_n 0, 1) := by decide +kernel
theorem dX2_foeMask_6 : decode cX2_foeMask 6 = .ok (.getfield 41, 3) := by decide +kernel
theorem dX2_foeMask_9 : decode cX2_foeMask 9 = .ok (.invokevirtual 111, 3) := by decide +kernel
theorem dX2_foeMask_12 : decode cX2_foeMask 12 = .ok (.if_icmp .ge 59, 3) := by decide +kernel
theorem dX2_foeMask_15 : decode cX2_foeMask 15 = .ok (.aload_n 0, 1) := by decide +kernel
theorem dX2_foeMask_16 : decode cX2_foeMask 16 = .ok (.getfield 41, 3) := by decide +kernel
theorem dX2_foeMask_19 : decode cX2_foeMask 19 = .ok (.iload_n 3, 1) := by decide +kernel
theorem dX2_foeMask_20 : decode cX2_foeMask 20 = .ok (.invokevirtual 115, 3) := by decide +kernel
theorem dX2_foeMask_23 : decode cX2_foeMask 23 = .ok (.istore 4, 2) := by decide +kernel
theorem dX2_foeMask_25 : decode cX2_foeMask 25 = .ok (.iload 4, 2) := by decide +kernel
theorem dX2_foeMask_27 : decode cX2_foeMask 27 = .ok (.bipush 6, 2) := by decide +kernel
theorem dX2_foeMask_29 : decode cX2_foeMask 29 = .ok (.idiv, 1) := by decide +kernel
theorem dX2_foeMask_30 : decode cX2_foeMask 30 = .ok (.istore 5, 2) := by decide +kernel
theorem dX2_foeMask_32 : decode cX2_foeMask 32 = .ok (.iload 4, 2) := by decide +kernel
theorem dX2_foeMask_34 : decode cX2_foeMask 34 = .ok (.bipush 6, 2) := by decide +kernel
theorem dX2_foeMask_36 : decode cX2_foeMask 36 = .ok (.irem, 1) := by decide +kernel
theorem dX2_foeMask_37 : decode cX2_foeMask 37 = .ok (.istore 6, 2) := by decide +kernel
theorem dX2_foeMask_39 : decode cX2_foeMask 39 = .ok (.iload 5, 2) := by decide +kernel
theorem dX2_foeMask_41 : decode cX2_foeMask 41 = .ok (.iload_n 1, 1) := by decide +kernel
theorem dX2_foeMask_42 : decode cX2_foeMask 42 = .ok (.if_icmp .ne 10, 3) := by decide +kernel
theorem dX2_foeMask_45 : decode cX2_foeMask 45 = .ok (.iload_n 2, 1) := by decide +kernel
theorem dX2_foeMask_46 : decode cX2_foeMask 46 = .ok (.iconst 1, 1) := by decide +kernel
theorem dX2_foeMask_47 : decode cX2_foeMask 47 = .ok (.iload 6, 2) := by decide +kernel
theorem dX2_foeMask_49 : decode cX2_foeMask 49 = .ok (.ishl, 1) := by decide +kernel
theorem dX2_foeMask_50 : decode cX2_foeMask 50 = .ok (.ior, 1) := by decide +kernel
theorem dX2_foeMask_51 : decode cX2_foeMask 51 = .ok (.istore_n 2, 1) := by decide +kernel
theorem dX2_foeMask_52 : decode cX2_foeMask 52 = .ok (.iload 6, 2) := by decide +kernel
theorem dX2_foeMask_54 : decode cX2_foeMask 54 = .ok (.iload_n 1, 1) := by decide +kernel
theorem dX2_foeMask_55 : decode cX2_foeMask 55 = .ok (.if_icmp .ne 10, 3) := by decide +kernel
theorem dX2_foeMask_58 : decode cX2_foeMask 58 = .ok (.iload_n 2, 1) := by decide +kernel
theorem dX2_foeMask_59 : decode cX2_foeMask 59 = .ok (.iconst 1, 1) := by decide +kernel
theorem dX2_foeMask_60 : decode cX2_foeMask 60 = .ok (.iload 5, 2) := by decide +kernel
theorem dX2_foeMask_62 : decode cX2_foeMask 62 = .ok (.ishl, 1) := by decide +kernel
theorem dX2_foeMask_63 : decode cX2_foeMask 63 = .ok (.ior, 1) := by decide +kernel
theorem dX2_foeMask_64 : decode cX2_foeMask 64 = .ok (.istore_n 2, 1) := by decide +kernel
theorem dX2_foeMask_65 : decode cX2_foeMask 65 = .ok (.iinc 3 1, 3) := by decide +kernel
theorem dX2_foeMask_68 : decode cX2_foeMask 68 = .ok (.goto (-64), 3) := by decide +kernel
theorem dX2_foeMask_71 : decode cX2_foeMask 71 = .ok (.iload_n 2, 1) := by decide +kernel
theorem dX2_foeMask_72 : decode cX2_foeMask 72 = .ok (.ireturn, 1) := by decide +kernel
theorem dX2_familyThatRises_0 : decode cX2_familyThatRises 0 = .ok (.aload_n 0, 1) := by decide +kernel
theorem dX2_familyThatRises_1 : decode cX2_familyThatRises 1 = .ok (.iload_n 1, 1) := by decide +kernel
theorem dX2_familyThatRises_2 : decode cX2_familyThatRises 2 = .ok (.iload_n 2, 1) := by decide +kernel
theorem dX2_familyThatRises_3 : decode cX2_familyThatRises 3 = .ok (.invokevirtual 118, 3) := by decide +kernel
theorem dX2_familyThatRises_6 : decode cX2_familyThatRises 6 = .ok (.istore 4, 2) := by decide +kernel
theorem dX2_familyThatRises_8 : decode cX2_familyThatRises 8 = .ok (.aload_n 0, 1) := by decide +kernel
theorem dX2_familyThatRises_9 : decode cX2_familyThatRises 9 = .ok (.iload_n 1, 1) := by decide +kernel
theorem dX2_familyThatRises_10 : decode cX2_familyThatRises 10 = .ok (.iload_n 3, 1) := by decide +kernel
theorem dX2_familyThatRises_11 : decode cX2_familyThatRises 11 = .ok (.invokevirtual 118, 3) := by decide +kernel
theorem dX2_familyThatRises_14 : decode cX2_familyThatRises 14 = .ok (.istore 5, 2) := by decide +kernel
theorem dX2_familyThatRises_16 : decode cX2_familyThatRises 16 = .ok (.iload 4, 2) := by decide +kernel
theorem dX2_familyThatRises_18 : decode cX2_familyThatRises 18 = .ok (.ifCond .eq 8, 3) := by decide +kernel
theorem dX2_familyThatRises_21 : decode cX2_familyThatRises 21 = .ok (.iload 5, 2) := by decide +kernel
theorem dX2_familyThatRises_23 : decode cX2_familyThatRises 23 = .ok (.ifCond .ne 5, 3) := by decide +kernel
theorem dX2_familyThatRises_26 : decode cX2_familyThatRises 26 = .ok (.iconst (-1), 1) := by decide +kernel
theorem dX2_familyThatRises_27 : decode cX2_familyThatRises 27 = .ok (.ireturn, 1) := by decide +kernel
theorem dX2_familyThatRises_28 : decode cX2_familyThatRises 28 = .ok (.iload 4, 2) := by decide +kernel
theorem dX2_familyThatRises_30 : decode cX2_familyThatRises 30 = .ok (.iload 5, 2) := by decide +kernel
theorem dX2_familyThatRises_32 : decode cX2_familyThatRises 32 = .ok (.if_icmp .ne 9, 3) := by decide +kernel
theorem dX2_familyThatRises_35 : decode cX2_familyThatRises 35 = .ok (.iload_n 2, 1) := by decide +kernel
theorem dX2_familyThatRises_36 : decode cX2_familyThatRises 36 = .ok (.iload_n 3, 1) := by decide +kernel
theorem dX2_familyThatRises_37 : decode cX2_familyThatRises 37 = .ok (.invokestatic 102, 3) := by decide +kernel
theorem dX2_familyThatRises_40 : decode cX2_familyThatRises 40 = .ok (.ireturn, 1) := by decide +kernel
theorem dX2_familyThatRises_41 : decode cX2_familyThatRises 41 = .ok (.iload 4, 2) := by decide +kernel
theorem dX2_familyThatRises_43 : decode cX2_familyThatRises 43 = .ok (.iload 5, 2) := by decide +kernel
theorem dX2_familyThatRises_45 : decode cX2_familyThatRises 45 = .ok (.if_icmp .ge 7, 3) := by decide +kernel
theorem dX2_familyThatRises_48 : decode cX2_familyThatRises 48 = .ok (.iload_n 2, 1) := by decide +kernel
theorem dX2_familyThatRises_49 : decode cX2_familyThatRises 49 = .ok (.goto 4, 3) := by decide +kernel
theorem dX2_familyThatRises_52 : decode cX2_familyThatRises 52 = .ok (.iload_n 3, 1) := by decide +kernel
theorem dX2_familyThatRises_53 : decode cX2_familyThatRises 53 = .ok (.ireturn, 1) := by decide +kernel
theorem dX2_risersOfFeud_0 : decode cX2_risersOfFeud 0 = .ok (.aload_n 0, 1) := by decide +kernel
theorem dX2_risersOfFeud_1 : decode cX2_risersOfFeud 1 = .ok (.iload_n 1, 1) := by decide +kernel
theorem dX2_risersOfFeud_2 : decode cX2_risersOfFeud 2 = .ok (.iload_n 2, 1) := by decide +kernel
theorem dX2_risersOfFeud_3 : decode cX2_risersOfFeud 3 = .ok (.invokevirtual 121, 3) := by decide +kernel
theorem dX2_risersOfFeud_6 : decode cX2_risersOfFeud 6 = .ok (.ifCond .eq 5, 3) := by decide +kernel
theorem dX2_risersOfFeud_9 : decode cX2_risersOfFeud 9 = .ok (.iconst 0, 1) := by decide +kernel
theorem dX2_risersOfFeud_10 : decode cX2_risersOfFeud 10 = .ok (.ireturn, 1) := by decide +kernel
theorem dX2_risersOfFeud_11 : decode cX2_risersOfFeud 11 = .ok (.iconst 0, 1) := by decide +kernel
theorem dX2_risersOfFeud_12 : decode cX2_risersOfFeud 12 = .ok (.istore_n 3, 1) := by decide +kernel
theorem dX2_risersOfFeud_13 : decode cX2_risersOfFeud 13 = .ok (.iconst 0, 1) := by decide +kernel
theorem dX2_risersOfFeud_14 : decode cX2_risersOfFeud 14 = .ok (.istore 4, 2) := by decide +kernel
theorem dX2_risersOfFeud_16 : decode cX2_risersOfFeud 16 = .ok (.iload 4, 2) := by decide +kernel
theorem dX2_risersOfFeud_18 : decode cX2_risersOfFeud 18 = .ok (.aload_n 0, 1) := by decide +kernel
theorem dX2_risersOfFeud_19 : decode cX2_risersOfFeud 19 = .ok (.getfield 65, 3) := by decide +kernel
theorem dX2_risersOfFeud_22 : decode cX2_risersOfFeud 22 = .ok (.if_icmp .ge 36, 3) := by decide +kernel
theorem dX2_risersOfFeud_25 : decode cX2_risersOfFeud 25 = .ok (.aload_n 0, 1) := by decide +kernel
theorem dX2_risersOfFeud_26 : decode cX2_risersOfFeud 26 = .ok (.iload 4, 2) := by decide +kernel
theorem dX2_risersOfFeud_28 : decode cX2_risersOfFeud 28 = .ok (.iload_n 1, 1) := by decide +kernel
theorem dX2_risersOfFeud_29 : decode cX2_risersOfFeud 29 = .ok (.iload_n 2, 1) := by decide +kernel
theorem dX2_risersOfFeud_30 : decode cX2_risersOfFeud 30 = .ok (.invokevirtual 125, 3) := by decide +kernel
theorem dX2_risersOfFeud_33 : decode cX2_risersOfFeud 33 = .ok (.istore 5, 2) := by decide +kernel
theorem dX2_risersOfFeud_35 : decode cX2_risersOfFeud 35 = .ok (.iload 5, 2) := by decide +kernel
theorem dX2_risersOfFeud_37 : decode cX2_risersOfFeud 37 = .ok (.iconst (-1), 1) := by decide +kernel
theorem dX2_risersOfFeud_38 : decode cX2_risersOfFeud 38 = .ok (.if_icmp .eq 14, 3) := by decide +kernel
theorem dX2_risersOfFeud_41 : decode cX2_risersOfFeud 41 = .ok (.iload_n 3, 1) := by decide +kernel
theorem dX2_risersOfFeud_42 : decode cX2_risersOfFeud 42 = .ok (.aload_n 0, 1) := by decide +kernel
theorem dX2_risersOfFeud_43 : decode cX2_risersOfFeud 43 = .ok (.iload 4, 2) := by decide +kernel
theorem dX2_risersOfFeud_45 : decode cX2_risersOfFeud 45 = .ok (.iload 5, 2) := by decide +kernel
theorem dX2_risersOfFeud_47 : decode cX2_risersOfFeud 47 = .ok (.invokevirtual 118, 3) := by decide +kernel
theorem dX2_risersOfFeud_50 : decode cX2_risersOfFeud 50 = .ok (.iadd, 1) := by decide +kernel
theorem dX2_risersOfFeud_51 : decode cX2_risersOfFeud 51 = .ok (.istore_n 3, 1) := by decide +kernel
theorem dX2_risersOfFeud_52 : decode cX2_risersOfFeud 52 = .ok (.iinc 4 1, 3) := by decide +kernel
theorem dX2_risersOfFeud_55 : decode cX2_risersOfFeud 55 = .ok (.goto (-39), 3) := by decide +kernel
theorem dX2_risersOfFeud_58 : decode cX2_risersOfFeud 58 = .ok (.iload_n 3, 1) := by decide +kernel
theorem dX2_risersOfFeud_59 : decode cX2_risersOfFeud 59 = .ok (.ireturn, 1) := by decide +kernel
theorem dX2_beginFeud_0 : decode cX2_beginFeud 0 = .ok (.aload_n 0, 1) := by decide +kernel
theorem dX2_beginFeud_1 : decode cX2_beginFeud 1 = .ok (.getfield 41, 3) := by decide +kernel
theorem dX2_beginFeud_4 : decode cX2_beginFeud 4 = .ok (.iload_n 1, 1) := by decide +kernel
theorem dX2_beginFeud_5 : decode cX2_beginFeud 5 = .ok (.iload_n 2, 1) := by decide +kernel
theorem dX2_beginFeud_6 : decode cX2_beginFeud 6 = .ok (.invokestatic 105, 3) := by decide +kernel
theorem dX2_beginFeud_9 : decode cX2_beginFeud 9 = .ok (.invokevirtual 129, 3) := by decide +kernel
theorem dX2_beginFeud_12 : decode cX2_beginFeud 12 = .ok (.iconst 0, 1) := by decide +kernel
theorem dX2_beginFeud_13 : decode cX2_beginFeud 13 = .ok (.istore_n 3, 1) := by decide +kernel
theorem dX2_beginFeud_14 : decode cX2_beginFeud 14 = .ok (.iconst 0, 1) := by decide +kernel
theorem dX2_beginFeud_15 : decode cX2_beginFeud 15 = .ok (.istore 4, 2) := by decide +kernel
theorem dX2_beginFeud_17 : decode cX2_beginFeud 17 = .ok (.iload 4, 2) := by decide +kernel
theorem dX2_beginFeud_19 : decode cX2_beginFeud 19 = .ok (.aload_n 0, 1) := by decide +kernel
theorem dX2_beginFeud_20 : decode cX2_beginFeud 20 = .ok (.getfield 65, 3) := by decide +kernel
theorem dX2_beginFeud_23 : decode cX2_beginFeud 23 = .ok (.if_icmp .ge 36, 3) := by decide +kernel
theorem dX2_beginFeud_26 : decode cX2_beginFeud 26 = .ok (.aload_n 0, 1) := by decide +kernel
theorem dX2_beginFeud_27 : decode cX2_beginFeud 27 = .ok (.iload 4, 2) := by decide +kernel
theorem dX2_beginFeud_29 : decode cX2_beginFeud 29 = .ok (.iload_n 1, 1) := by decide +kernel
theorem dX2_beginFeud_30 : decode cX2_beginFeud 30 = .ok (.iload_n 2, 1) := by decide +kernel
theorem dX2_beginFeud_31 : decode cX2_beginFeud 31 = .ok (.invokevirtual 125, 3) := by decide +kernel
theorem dX2_beginFeud_34 : decode cX2_beginFeud 34 = .ok (.istore 5, 2) := by decide +kernel
theorem dX2_beginFeud_36 : decode cX2_beginFeud 36 = .ok (.iload 5, 2) := by decide +kernel
theorem dX2_beginFeud_38 : decode cX2_beginFeud 38 = .ok (.iconst (-1), 1) := by decide +kernel
theorem dX2_beginFeud_39 : decode cX2_beginFeud 39 = .ok (.if_icmp .eq 14, 3) := by decide +kernel
theorem dX2_beginFeud_42 : decode cX2_beginFeud 42 = .ok (.iload_n 3, 1) := by decide +kernel
theorem dX2_beginFeud_43 : decode cX2_beginFeud 43 = .ok (.aload_n 0, 1) := by decide +kernel
theorem dX2_beginFeud_44 : decode cX2_beginFeud 44 = .ok (.iload 4, 2) := by decide +kernel
theorem dX2_beginFeud_46 : decode cX2_beginFeud 46 = .ok (.iload 5, 2) := by decide +kernel
theorem dX2_beginFeud_48 : decode cX2_beginFeud 48 = .ok (.invokevirtual 132, 3) := by decide +kernel
theorem dX2_beginFeud_51 : decode cX2_beginFeud 51 = .ok (.iadd, 1) := by decide +kernel
theorem dX2_beginFeud_52 : decode cX2_beginFeud 52 = .ok (.istore_n 3, 1) := by decide +kernel
theorem dX2_beginFeud_53 : decode cX2_beginFeud 53 = .ok (.iinc 4 1, 3) := by decide +kernel
theorem dX2_beginFeud_56 : decode cX2_beginFeud 56 = .ok (.goto (-39), 3) := by decide +kernel
theorem dX2_beginFeud_59 : decode cX2_beginFeud 59 = .ok (.iload_n 3, 1) := by decide +kernel
theorem dX2_beginFeud_60 : decode cX2_beginFeud 60 = .ok (.ireturn, 1) := by decide +kernel
theorem dX2_standFamilyUp_0 : decode cX2_standFamilyUp 0 = .ok (.iconst 0, 1) := by decide +kernel
theorem dX2_standFamilyUp_1 : decode cX2_standFamilyUp 1 = .ok (.istore_n 3, 1) := by decide +kernel
theorem dX2_standFamilyUp_2 : decode cX2_standFamilyUp 2 = .ok (.iconst 0, 1) := by decide +kernel
theorem dX2_standFamilyUp_3 : decode cX2_standFamilyUp 3 = .ok (.istore 4, 2) := by decide +kernel
theorem dX2_standFamilyUp_5 : decode cX2_standFamilyUp 5 = .ok (.iload 4, 2) := by decide +kernel
theorem dX2_standFamilyUp_7 : decode cX2_standFamilyUp 7 = .ok (.aload_n 0, 1) := by decide +kernel
theorem dX2_standFamilyUp_8 : decode cX2_standFamilyUp 8 = .ok (.iload_n 1, 1) := by decide +kernel
theorem dX2_standFamilyUp_9 : decode cX2_standFamilyUp 9 = .ok (.invokevirtual 78, 3) := by decide +kernel
theorem dX2_standFamilyUp_12 : decode cX2_standFamilyUp 12 = .ok (.if_icmp .ge 46, 3) := by decide +kernel
theorem dX2_standFamilyUp_15 : decode cX2_standFamilyUp 15 = .ok (.aload_n 0, 1) := by decide +kernel
theorem dX2_standFamilyUp_16 : decode cX2_standFamilyUp 16 = .ok (.iload_n 1, 1) := by decide +kernel
theorem dX2_standFamilyUp_17 : decode cX2_standFamilyUp 17 = .ok (.iload 4, 2) := by decide +kernel
theorem dX2_standFamilyUp_19 : decode cX2_standFamilyUp 19 = .ok (.invokevirtual 86, 3) := by decide +kernel
theorem dX2_standFamilyUp_22 : decode cX2_standFamilyUp 22 = .ok (.istore 5, 2) := by decide +kernel
theorem dX2_standFamilyUp_24 : decode cX2_standFamilyUp 24 = .ok (.iload 5, 2) := by decide +kernel
theorem dX2_standFamilyUp_26 : decode cX2_standFamilyUp 26 = .ok (.iconst (-1), 1) := by decide +kernel
theorem dX2_standFamilyUp_27 : decode cX2_standFamilyUp 27 = .ok (.if_icmp .eq 25, 3) := by decide +kernel
theorem dX2_standFamilyUp_30 : decode cX2_standFamilyUp 30 = .ok (.aload_n 0, 1) := by decide +kernel
theorem dX2_standFamilyUp_31 : decode cX2_standFamilyUp 31 = .ok (.getfield 9, 3) := by decide +kernel
theorem dX2_standFamilyUp_34 : decode cX2_standFamilyUp 34 = .ok (.iload 5, 2) := by decide +kernel
theorem dX2_standFamilyUp_36 : decode cX2_standFamilyUp 36 = .ok (.invokestatic 82, 3) := by decide +kernel
theorem dX2_standFamilyUp_39 : decode cX2_standFamilyUp 39 = .ok (.iload_n 2, 1) := by decide +kernel
theorem dX2_standFamilyUp_40 : decode cX2_standFamilyUp 40 = .ok (.if_icmp .ne 12, 3) := by decide +kernel
theorem dX2_standFamilyUp_43 : decode cX2_standFamilyUp 43 = .ok (.aload_n 0, 1) := by decide +kernel
theorem dX2_standFamilyUp_44 : decode cX2_standFamilyUp 44 = .ok (.iload 5, 2) := by decide +kernel
theorem dX2_standFamilyUp_46 : decode cX2_standFamilyUp 46 = .ok (.invokevirtual 135, 3) := by decide +kernel
theorem dX2_standFamilyUp_49 : decode cX2_standFamilyUp 49 = .ok (.iinc 3 1, 3) := by decide +kernel
theorem dX2_standFamilyUp_52 : decode cX2_standFamilyUp 52 = .ok (.iinc 4 1, 3) := by decide +kernel
theorem dX2_standFamilyUp_55 : decode cX2_standFamilyUp 55 = .ok (.goto (-50), 3) := by decide +kernel
theorem dX2_standFamilyUp_58 : decode cX2_standFamilyUp 58 = .ok (.iload_n 3, 1) := by decide +kernel
theorem dX2_standFamilyUp_59 : decode cX2_standFamilyUp 59 = .ok (.ireturn, 1) := by decide +kernel
theorem dX2_reasonAgainst_0 : decode cX2_reasonAgainst 0 = .ok (.aload_n 0, 1) := by decide +kernel
theorem dX2_reasonAgainst_1 : decode cX2_reasonAgainst 1 = .ok (.iload_n 2, 1) := by decide +kernel
theorem dX2_reasonAgainst_2 : decode cX2_reasonAgainst 2 = .ok (.iload_n 3, 1) := by decide +kernel
theorem dX2_reasonAgainst_3 : decode cX2_reasonAgainst 3 = .ok (.invokevirtual 86, 3) := by decide +kernel
theorem dX2_reasonAgainst_6 : decode cX2_reasonAgainst 6 = .ok (.istore 4, 2) := by decide +kernel
theorem dX2_reasonAgainst_8 : decode cX2_reasonAgainst 8 = .ok (.iload 4, 2) := by decide +kernel
theorem dX2_reasonAgainst_10 : decode cX2_reasonAgainst 10 = .ok (.iload_n 1, 1) := by decide +kernel
theorem dX2_reasonAgainst_11 : decode cX2_reasonAgainst 11 = .ok (.if_icmp .ne 5, 3) := by decide +kernel
theorem dX2_reasonAgainst_14 : decode cX2_reasonAgainst 14 = .ok (.iconst 1, 1) := by decide +kernel
theorem dX2_reasonAgainst_15 : decode cX2_reasonAgainst 15 = .ok (.ireturn, 1) := by decide +kernel
theorem dX2_reasonAgainst_16 : decode cX2_reasonAgainst 16 = .ok (.iload 4, 2) := by decide +kernel
theorem dX2_reasonAgainst_18 : decode cX2_reasonAgainst 18 = .ok (.iconst (-1), 1) := by decide +kernel
theorem dX2_reasonAgainst_19 : decode cX2_reasonAgainst 19 = .ok (.if_icmp .eq 5, 3) := by decide +kernel
theorem dX2_reasonAgainst_22 : decode cX2_reasonAgainst 22 = .ok (.iconst 2, 1) := by decide +kernel
theorem dX2_reasonAgainst_23 : decode cX2_reasonAgainst 23 = .ok (.ireturn, 1) := by decide +kernel
theorem dX2_reasonAgainst_24 : decode cX2_reasonAgainst 24 = .ok (.iload_n 3, 1) := by decide +kernel
theorem dX2_reasonAgainst_25 : decode cX2_reasonAgainst 25 = .ok (.invokestatic 90, 3) := by decide +kernel
theorem dX2_reasonAgainst_28 : decode cX2_reasonAgainst 28 = .ok (.ifCond .eq 17, 3) := by decide +kernel
theorem dX2_reasonAgainst_31 : decode cX2_reasonAgainst 31 = .ok (.aload_n 0, 1) := by decide +kernel
theorem dX2_reasonAgainst_32 : decode cX2_reasonAgainst 32 = .ok (.getfield 15, 3) := by decide +kernel
theorem dX2_reasonAgainst_35 : decode cX2_reasonAgainst 35 = .ok (.iload_n 1, 1) := by decide +kernel
theorem dX2_reasonAgainst_36 : decode cX2_reasonAgainst 36 = .ok (.invokestatic 82, 3) := by decide +kernel
theorem dX2_reasonAgainst_39 : decode cX2_reasonAgainst 39 = .ok (.iconst 3, 1) := by decide +kernel
theorem dX2_reasonAgainst_40 : decode cX2_reasonAgainst 40 = .ok (.if_icmp .ne 5, 3) := by decide +kernel
theorem dX2_reasonAgainst_43 : decode cX2_reasonAgainst 43 = .ok (.iconst 3, 1) := by decide +kernel
theorem dX2_reasonAgainst_44 : decode cX2_reasonAgainst 44 = .ok (.ireturn, 1) := by decide +kernel
theorem dX2_reasonAgainst_45 : decode cX2_reasonAgainst 45 = .ok (.aload_n 0, 1) := by decide +kernel
theorem dX2_reasonAgainst_46 : decode cX2_reasonAgainst 46 = .ok (.getfield 9, 3) := by decide +kernel
theorem dX2_reasonAgainst_49 : decode cX2_reasonAgainst 49 = .ok (.iload_n 1, 1) := by decide +kernel
theorem dX2_reasonAgainst_50 : decode cX2_reasonAgainst 50 = .ok (.invokestatic 82, 3) := by decide +kernel
theorem dX2_reasonAgainst_53 : decode cX2_reasonAgainst 53 = .ok (.istore 5, 2) := by decide +kernel
theorem dX2_reasonAgainst_55 : decode cX2_reasonAgainst 55 = .ok (.aload_n 0, 1) := by decide +kernel
theorem dX2_reasonAgainst_56 : decode cX2_reasonAgainst 56 = .ok (.iload 5, 2) := by decide +kernel
theorem dX2_reasonAgainst_58 : decode cX2_reasonAgainst 58 = .ok (.invokevirtual 138, 3) := by decide +kernel
theorem dX2_reasonAgainst_61 : decode cX2_reasonAgainst 61 = .ok (.aload_n 0, 1) := by decide +kernel
theorem dX2_reasonAgainst_62 : decode cX2_reasonAgainst 62 = .ok (.iload_n 2, 1) := by decide +kernel
theorem dX2_reasonAgainst_63 : decode cX2_reasonAgainst 63 = .ok (.invokevirtual 141, 3) := by decide +kernel
theorem dX2_reasonAgainst_66 : decode cX2_reasonAgainst 66 = .ok (.iand, 1) := by decide +kernel
theorem dX2_reasonAgainst_67 : decode cX2_reasonAgainst 67 = .ok (.ifCond .eq 5, 3) := by decide +kernel
theorem dX2_reasonAgainst_70 : decode cX2_reasonAgainst 70 = .ok (.iconst 4, 1) := by decide +kernel
theorem dX2_reasonAgainst_71 : decode cX2_reasonAgainst 71 = .ok (.ireturn, 1) := by decide +kernel
theorem dX2_reasonAgainst_72 : decode cX2_reasonAgainst 72 = .ok (.aload_n 0, 1) := by decide +kernel
theorem dX2_reasonAgainst_73 : decode cX2_reasonAgainst 73 = .ok (.iload_n 2, 1) := by decide +kernel
theorem dX2_reasonAgainst_74 : decode cX2_reasonAgainst 74 = .ok (.iload 5, 2) := by decide +kernel
theorem dX2_reasonAgainst_76 : decode cX2_reasonAgainst 76 = .ok (.invokevirtual 118, 3) := by decide +kernel
theorem dX2_reasonAgainst_79 : decode cX2_reasonAgainst 79 = .ok (.istore 6, 2) := by decide +kernel
theorem dX2_reasonAgainst_81 : decode cX2_reasonAgainst 81 = .ok (.aload_n 0, 1) := by decide +kernel
theorem dX2_reasonAgainst_82 : decode cX2_reasonAgainst 82 = .ok (.getfield 21, 3) := by decide +kernel
theorem dX2_reasonAgainst_85 : decode cX2_reasonAgainst 85 = .ok (.iload_n 1, 1) := by decide +kernel
theorem dX2_reasonAgainst_86 : decode cX2_reasonAgainst 86 = .ok (.invokestatic 82, 3) := by decide +kernel
theorem dX2_reasonAgainst_89 : decode cX2_reasonAgainst 89 = .ok (.iload_n 2, 1) := by decide +kernel
theorem dX2_reasonAgainst_90 : decode cX2_reasonAgainst 90 = .ok (.if_icmp .ne 6, 3) := by decide +kernel
theorem dX2_reasonAgainst_93 : decode cX2_reasonAgainst 93 = .ok (.iinc 6 (-1), 3) := by decide +kernel
theorem dX2_reasonAgainst_96 : decode cX2_reasonAgainst 96 = .ok (.iload 6, 2) := by decide +kernel
theorem dX2_reasonAgainst_98 : decode cX2_reasonAgainst 98 = .ok (.aload_n 0, 1) := by decide +kernel
theorem dX2_reasonAgainst_99 : decode cX2_reasonAgainst 99 = .ok (.getfield 33, 3) := by decide +kernel
theorem dX2_reasonAgainst_102 : decode cX2_reasonAgainst 102 = .ok (.iconst 0, 1) := by decide +kernel
theorem dX2_reasonAgainst_103 : decode cX2_reasonAgainst 103 = .ok (.invokestatic 82, 3) := by decide +kernel
theorem dX2_reasonAgainst_106 : decode cX2_reasonAgainst 106 = .ok (.if_icmp .lt 7, 3) := by decide +kernel
theorem dX2_reasonAgainst_109 : decode cX2_reasonAgainst 109 = .ok (.iconst 5, 1) := by decide +kernel
theorem dX2_reasonAgainst_110 : decode cX2_reasonAgainst 110 = .ok (.goto 4, 3) := by decide +kernel
theorem dX2_reasonAgainst_113 : decode cX2_reasonAgainst 113 = .ok (.iconst 0, 1) := by decide +kernel
theorem dX2_reasonAgainst_114 : decode cX2_reasonAgainst 114 = .ok (.ireturn, 1) := by decide +kernel
theorem dX2_takeSeat_0 : decode cX2_takeSeat 0 = .ok (.aload_n 0, 1) := by decide +kernel
theorem dX2_takeSeat_1 : decode cX2_takeSeat 1 = .ok (.iload_n 1, 1) := by decide +kernel
theorem dX2_takeSeat_2 : decode cX2_takeSeat 2 = .ok (.invokevirtual 153, 3) := by decide +kernel
theorem dX2_takeSeat_5 : decode cX2_takeSeat 5 = .ok (.ifCond .eq 8, 3) := by decide +kernel
theorem dX2_takeSeat_8 : decode cX2_takeSeat 8 = .ok (.aload_n 0, 1) := by decide +kernel
theorem dX2_takeSeat_9 : decode cX2_takeSeat 9 = .ok (.iload_n 1, 1) := by decide +kernel
theorem dX2_takeSeat_10 : decode cX2_takeSeat 10 = .ok (.invokevirtual 135, 3) := by decide +kernel
theorem dX2_takeSeat_13 : decode cX2_takeSeat 13 = .ok (.aload_n 0, 1) := by decide +kernel
theorem dX2_takeSeat_14 : decode cX2_takeSeat 14 = .ok (.getfield 21, 3) := by decide +kernel
theorem dX2_takeSeat_17 : decode cX2_takeSeat 17 = .ok (.iload_n 1, 1) := by decide +kernel
theorem dX2_takeSeat_18 : decode cX2_takeSeat 18 = .ok (.iload_n 2, 1) := by decide +kernel
theorem dX2_takeSeat_19 : decode cX2_takeSeat 19 = .ok (.invokestatic 93, 3) := by decide +kernel
theorem dX2_takeSeat_22 : decode cX2_takeSeat 22 = .ok (.aload_n 0, 1) := by decide +kernel
theorem dX2_takeSeat_23 : decode cX2_takeSeat 23 = .ok (.getfield 24, 3) := by decide +kernel
theorem dX2_takeSeat_26 : decode cX2_takeSeat 26 = .ok (.iload_n 1, 1) := by decide +kernel
theorem dX2_takeSeat_27 : decode cX2_takeSeat 27 = .ok (.iload_n 3, 1) := by decide +kernel
theorem dX2_takeSeat_28 : decode cX2_takeSeat 28 = .ok (.invokestatic 93, 3) := by decide +kernel
theorem dX2_takeSeat_31 : decode cX2_takeSeat 31 = .ok (.aload_n 0, 1) := by decide +kernel
theorem dX2_takeSeat_32 : decode cX2_takeSeat 32 = .ok (.getfield 30, 3) := by decide +kernel
theorem dX2_takeSeat_35 : decode cX2_takeSeat 35 = .ok (.iload_n 2, 1) := by decide +kernel
theorem dX2_takeSeat_36 : decode cX2_takeSeat 36 = .ok (.bipush 8, 2) := by decide +kernel
theorem dX2_takeSeat_38 : decode cX2_takeSeat 38 = .ok (.imul, 1) := by decide +kernel
theorem dX2_takeSeat_39 : decode cX2_takeSeat 39 = .ok (.iload_n 3, 1) := by decide +kernel
theorem dX2_takeSeat_40 : decode cX2_takeSeat 40 = .ok (.iadd, 1) := by decide +kernel
theorem dX2_takeSeat_41 : decode cX2_takeSeat 41 = .ok (.iload_n 1, 1) := by decide +kernel
theorem dX2_takeSeat_42 : decode cX2_takeSeat 42 = .ok (.invokestatic 93, 3) := by decide +kernel
theorem dX2_takeSeat_45 : decode cX2_takeSeat 45 = .ok (.aload_n 0, 1) := by decide +kernel
theorem dX2_takeSeat_46 : decode cX2_takeSeat 46 = .ok (.getfield 45, 3) := by decide +kernel
theorem dX2_takeSeat_49 : decode cX2_takeSeat 49 = .ok (.iload_n 1, 1) := by decide +kernel
theorem dX2_takeSeat_50 : decode cX2_takeSeat 50 = .ok (.invokevirtual 129, 3) := by decide +kernel
theorem dX2_takeSeat_53 : decode cX2_takeSeat 53 = .ok (.aload_n 0, 1) := by decide +kernel
theorem dX2_takeSeat_54 : decode cX2_takeSeat 54 = .ok (.dup, 1) := by decide +kernel
theorem dX2_takeSeat_55 : decode cX2_takeSeat 55 = .ok (.getfield 68, 3) := by decide +kernel
theorem dX2_takeSeat_58 : decode cX2_takeSeat 58 = .ok (.iconst 1, 1) := by decide +kernel
theorem dX2_takeSeat_59 : decode cX2_takeSeat 59 = .ok (.iadd, 1) := by decide +kernel
theorem dX2_takeSeat_60 : decode cX2_takeSeat 60 = .ok (.putfield 68, 3) := by decide +kernel
theorem dX2_takeSeat_63 : decode cX2_takeSeat 63 = .ok (.return_, 1) := by decide +kernel
theorem dX2_standUp_0 : decode cX2_standUp 0 = .ok (.aload_n 0, 1) := by decide +kernel
theorem dX2_standUp_1 : decode cX2_standUp 1 = .ok (.getfield 21, 3) := by decide +kernel
theorem dX2_standUp_4 : decode cX2_standUp 4 = .ok (.iload_n 1, 1) := by decide +kernel
theorem dX2_standUp_5 : decode cX2_standUp 5 = .ok (.invokestatic 82, 3) := by decide +kernel
theorem dX2_standUp_8 : decode cX2_standUp 8 = .ok (.istore_n 2, 1) := by decide +kernel
theorem dX2_standUp_9 : decode cX2_standUp 9 = .ok (.aload_n 0, 1) := by decide +kernel
theorem dX2_standUp_10 : decode cX2_standUp 10 = .ok (.getfield 24, 3) := by decide +kernel
theorem dX2_standUp_13 : decode cX2_standUp 13 = .ok (.iload_n 1, 1) := by decide +kernel
theorem dX2_standUp_14 : decode cX2_standUp 14 = .ok (.invokestatic 82, 3) := by decide +kernel
theorem dX2_standUp_17 : decode cX2_standUp 17 = .ok (.istore_n 3, 1) := by decide +kernel
theorem dX2_standUp_18 : decode cX2_standUp 18 = .ok (.aload_n 0, 1) := by decide +kernel
theorem dX2_standUp_19 : decode cX2_standUp 19 = .ok (.getfield 30, 3) := by decide +kernel
theorem dX2_standUp_22 : decode cX2_standUp 22 = .ok (.iload_n 2, 1) := by decide +kernel
theorem dX2_standUp_23 : decode cX2_standUp 23 = .ok (.bipush 8, 2) := by decide +kernel
theorem dX2_standUp_25 : decode cX2_standUp 25 = .ok (.imul, 1) := by decide +kernel
theorem dX2_standUp_26 : decode cX2_standUp 26 = .ok (.iload_n 3, 1) := by decide +kernel
theorem dX2_standUp_27 : decode cX2_standUp 27 = .ok (.iadd, 1) := by decide +kernel
theorem dX2_standUp_28 : decode cX2_standUp 28 = .ok (.iconst (-1), 1) := by decide +kernel
theorem dX2_standUp_29 : decode cX2_standUp 29 = .ok (.invokestatic 93, 3) := by decide +kernel
theorem dX2_standUp_32 : decode cX2_standUp 32 = .ok (.aload_n 0, 1) := by decide +kernel
theorem dX2_standUp_33 : decode cX2_standUp 33 = .ok (.getfield 21, 3) := by decide +kernel
theorem dX2_standUp_36 : decode cX2_standUp 36 = .ok (.iload_n 1, 1) := by decide +kernel
theorem dX2_standUp_37 : decode cX2_standUp 37 = .ok (.iconst (-1), 1) := by decide +kernel
theorem dX2_standUp_38 : decode cX2_standUp 38 = .ok (.invokestatic 93, 3) := by decide +kernel
theorem dX2_standUp_41 : decode cX2_standUp 41 = .ok (.aload_n 0, 1) := by decide +kernel
theorem dX2_standUp_42 : decode cX2_standUp 42 = .ok (.getfield 24, 3) := by decide +kernel
theorem dX2_standUp_45 : decode cX2_standUp 45 = .ok (.iload_n 1, 1) := by decide +kernel
theorem dX2_standUp_46 : decode cX2_standUp 46 = .ok (.iconst (-1), 1) := by decide +kernel
theorem dX2_standUp_47 : decode cX2_standUp 47 = .ok (.invokestatic 93, 3) := by decide +kernel
theorem dX2_standUp_50 : decode cX2_standUp 50 = .ok (.aload_n 0, 1) := by decide +kernel
theorem dX2_standUp_51 : decode cX2_standUp 51 = .ok (.getfield 45, 3) := by decide +kernel
theorem dX2_standUp_54 : decode cX2_standUp 54 = .ok (.iload_n 1, 1) := by decide +kernel
theorem dX2_standUp_55 : decode cX2_standUp 55 = .ok (.invokevirtual 156, 3) := by decide +kernel
theorem dX2_standUp_58 : decode cX2_standUp 58 = .ok (.aload_n 0, 1) := by decide +kernel
theorem dX2_standUp_59 : decode cX2_standUp 59 = .ok (.dup, 1) := by decide +kernel
theorem dX2_standUp_60 : decode cX2_standUp 60 = .ok (.getfield 71, 3) := by decide +kernel
theorem dX2_standUp_63 : decode cX2_standUp 63 = .ok (.iconst 1, 1) := by decide +kernel
theorem dX2_standUp_64 : decode cX2_standUp 64 = .ok (.iadd, 1) := by decide +kernel
theorem dX2_standUp_65 : decode cX2_standUp 65 = .ok (.putfield 71, 3) := by decide +kernel
theorem dX2_standUp_68 : decode cX2_standUp 68 = .ok (.return_, 1) := by decide +kernel
theorem dX2_bestPlace_0 : decode cX2_bestPlace 0 = .ok (.iconst (-1), 1) := by decide +kernel
theorem dX2_bestPlace_1 : decode cX2_bestPlace 1 = .ok (.istore_n 2, 1) := by decide +kernel
theorem dX2_bestPlace_2 : decode cX2_bestPlace 2 = .ok (.iconst 0, 1) := by decide +kernel
theorem dX2_bestPlace_3 : decode cX2_bestPlace 3 = .ok (.istore_n 3, 1) := by decide +kernel
theorem dX2_bestPlace_4 : decode cX2_bestPlace 4 = .ok (.iconst 0, 1) := by decide +kernel
theorem dX2_bestPlace_5 : decode cX2_bestPlace 5 = .ok (.istore 4, 2) := by decide +kernel
theorem dX2_bestPlace_7 : decode cX2_bestPlace 7 = .ok (.iload 4, 2) := by decide +kernel
theorem dX2_bestPlace_9 : decode cX2_bestPlace 9 = .ok (.aload_n 0, 1) := by decide +kernel
theorem dX2_bestPlace_10 : decode cX2_bestPlace 10 = .ok (.getfield 65, 3) := by decide +kernel
theorem dX2_bestPlace_13 : decode cX2_bestPlace 13 = .ok (.if_icmp .ge 78, 3) := by decide +kernel
theorem dX2_bestPlace_16 : decode cX2_bestPlace 16 = .ok (.iconst 0, 1) := by decide +kernel
theorem dX2_bestPlace_17 : decode cX2_bestPlace 17 = .ok (.istore 5, 2) := by decide +kernel
theorem dX2_bestPlace_19 : decode cX2_bestPlace 19 = .ok (.iload 5, 2) := by decide +kernel
theorem dX2_bestPlace_21 : decode cX2_bestPlace 21 = .ok (.aload_n 0, 1) := by decide +kernel
theorem dX2_bestPlace_22 : decode cX2_bestPlace 22 = .ok (.iload 4, 2) := by decide +kernel
theorem dX2_bestPlace_24 : decode cX2_bestPlace 24 = .ok (.invokevirtual 78, 3) := by decide +kernel
theorem dX2_bestPlace_27 : decode cX2_bestPlace 27 = .ok (.if_icmp .ge 58, 3) := by decide +kernel
theorem dX2_bestPlace_30 : decode cX2_bestPlace 30 = .ok (.aload_n 0, 1) := by decide +kernel
theorem dX2_bestPlace_31 : decode cX2_bestPlace 31 = .ok (.iload_n 1, 1) := by decide +kernel
theorem dX2_bestPlace_32 : decode cX2_bestPlace 32 = .ok (.iload 4, 2) := by decide +kernel
theorem dX2_bestPlace_34 : decode cX2_bestPlace 34 = .ok (.iload 5, 2) := by decide +kernel
theorem dX2_bestPlace_36 : decode cX2_bestPlace 36 = .ok (.invokevirtual 150, 3) := by decide +kernel
theorem dX2_bestPlace_39 : decode cX2_bestPlace 39 = .ok (.ifCond .eq 6, 3) := by decide +kernel
theorem dX2_bestPlace_42 : decode cX2_bestPlace 42 = .ok (.goto 37, 3) := by decide +kernel
theorem dX2_bestPlace_45 : decode cX2_bestPlace 45 = .ok (.aload_n 0, 1) := by decide +kernel
theorem dX2_bestPlace_46 : decode cX2_bestPlace 46 = .ok (.iload_n 1, 1) := by decide +kernel
theorem dX2_bestPlace_47 : decode cX2_bestPlace 47 = .ok (.iload 4, 2) := by decide +kernel
theorem dX2_bestPlace_49 : decode cX2_bestPlace 49 = .ok (.iload 5, 2) := by decide +kernel
theorem dX2_bestPlace_51 : decode cX2_bestPlace 51 = .ok (.invokestatic 167, 3) := by decide +kernel
theorem dX2_bestPlace_54 : decode cX2_bestPlace 54 = .ok (.istore 6, 2) := by decide +kernel
theorem dX2_bestPlace_56 : decode cX2_bestPlace 56 = .ok (.iload_n 2, 1) := by decide +kernel
theorem dX2_bestPlace_57 : decode cX2_bestPlace 57 = .ok (.iconst (-1), 1) := by decide +kernel
theorem dX2_bestPlace_58 : decode cX2_bestPlace 58 = .ok (.if_icmp .eq 9, 3) := by decide +kernel
theorem dX2_bestPlace_61 : decode cX2_bestPlace 61 = .ok (.iload 6, 2) := by decide +kernel
theorem dX2_bestPlace_63 : decode cX2_bestPlace 63 = .ok (.iload_n 3, 1) := by decide +kernel
theorem dX2_bestPlace_64 : decode cX2_bestPlace 64 = .ok (.if_icmp .le 15, 3) := by decide +kernel
theorem dX2_bestPlace_67 : decode cX2_bestPlace 67 = .ok (.iload 4, 2) := by decide +kernel
theorem dX2_bestPlace_69 : decode cX2_bestPlace 69 = .ok (.bipush 8, 2) := by decide +kernel
theorem dX2_bestPlace_71 : decode cX2_bestPlace 71 = .ok (.imul, 1) := by decide +kernel
theorem dX2_bestPlace_72 : decode cX2_bestPlace 72 = .ok (.iload 5, 2) := by decide +kernel
theorem dX2_bestPlace_74 : decode cX2_bestPlace 74 = .ok (.iadd, 1) := by decide +kernel
theorem dX2_bestPlace_75 : decode cX2_bestPlace 75 = .ok (.istore_n 2, 1) := by decide +kernel
theorem dX2_bestPlace_76 : decode cX2_bestPlace 76 = .ok (.iload 6, 2) := by decide +kernel
theorem dX2_bestPlace_78 : decode cX2_bestPlace 78 = .ok (.istore_n 3, 1) := by decide +kernel
theorem dX2_bestPlace_79 : decode cX2_bestPlace 79 = .ok (.iinc 5 1, 3) := by decide +kernel
theorem dX2_bestPlace_82 : decode cX2_bestPlace 82 = .ok (.goto (-63), 3) := by decide +kernel
theorem dX2_bestPlace_85 : decode cX2_bestPlace 85 = .ok (.iinc 4 1, 3) := by decide +kernel
theorem dX2_bestPlace_88 : decode cX2_bestPlace 88 = .ok (.goto (-81), 3) := by decide +kernel
theorem dX2_bestPlace_91 : decode cX2_bestPlace 91 = .ok (.iload_n 2, 1) := by decide +kernel
theorem dX2_bestPlace_92 : decode cX2_bestPlace 92 = .ok (.ireturn, 1) := by decide +kernel
theorem dX2_seatStanding_0 : decode cX2_seatStanding 0 = .ok (.iconst 0, 1) := by decide +kernel
theorem dX2_seatStanding_1 : decode cX2_seatStanding 1 = .ok (.istore_n 1, 1) := by decide +kernel
theorem dX2_seatStanding_2 : decode cX2_seatStanding 2 = .ok (.iload_n 1, 1) := by decide +kernel
theorem dX2_seatStanding_3 : decode cX2_seatStanding 3 = .ok (.aload_n 0, 1) := by decide +kernel
theorem dX2_seatStanding_4 : decode cX2_seatStanding 4 = .ok (.getfield 61, 3) := by decide +kernel
theorem dX2_seatStanding_7 : decode cX2_seatStanding 7 = .ok (.if_icmp .ge 41, 3) := by decide +kernel
theorem dX2_seatStanding_10 : decode cX2_seatStanding 10 = .ok (.aload_n 0, 1) := by decide +kernel
theorem dX2_seatStanding_11 : decode cX2_seatStanding 11 = .ok (.iload_n 1, 1) := by decide +kernel
theorem dX2_seatStanding_12 : decode cX2_seatStanding 12 = .ok (.invokevirtual 153, 3) := by decide +kernel
theorem dX2_seatStanding_15 : decode cX2_seatStanding 15 = .ok (.ifCond .ne 27, 3) := by decide +kernel
theorem dX2_seatStanding_18 : decode cX2_seatStanding 18 = .ok (.aload_n 0, 1) := by decide +kernel
theorem dX2_seatStanding_19 : decode cX2_seatStanding 19 = .ok (.iload_n 1, 1) := by decide +kernel
theorem dX2_seatStanding_20 : decode cX2_seatStanding 20 = .ok (.invokevirtual 173, 3) := by decide +kernel
theorem dX2_seatStanding_23 : decode cX2_seatStanding 23 = .ok (.istore_n 2, 1) := by decide +kernel
theorem dX2_seatStanding_24 : decode cX2_seatStanding 24 = .ok (.iload_n 2, 1) := by decide +kernel
theorem dX2_seatStanding_25 : decode cX2_seatStanding 25 = .ok (.iconst (-1), 1) := by decide +kernel
theorem dX2_seatStanding_26 : decode cX2_seatStanding 26 = .ok (.if_icmp .eq 16, 3) := by decide +kernel
theorem dX2_seatStanding_29 : decode cX2_seatStanding 29 = .ok (.aload_n 0, 1) := by decide +kernel
theorem dX2_seatStanding_30 : decode cX2_seatStanding 30 = .ok (.iload_n 1, 1) := by decide +kernel
theorem dX2_seatStanding_31 : decode cX2_seatStanding 31 = .ok (.iload_n 2, 1) := by decide +kernel
theorem dX2_seatStanding_32 : decode cX2_seatStanding 32 = .ok (.bipush 8, 2) := by decide +kernel
theorem dX2_seatStanding_34 : decode cX2_seatStanding 34 = .ok (.idiv, 1) := by decide +kernel
theorem dX2_seatStanding_35 : decode cX2_seatStanding 35 = .ok (.iload_n 2, 1) := by decide +kernel
theorem dX2_seatStanding_36 : decode cX2_seatStanding 36 = .ok (.bipush 8, 2) := by decide +kernel
theorem dX2_seatStanding_38 : decode cX2_seatStanding 38 = .ok (.irem, 1) := by decide +kernel
theorem dX2_seatStanding_39 : decode cX2_seatStanding 39 = .ok (.invokevirtual 163, 3) := by decide +kernel
theorem dX2_seatStanding_42 : decode cX2_seatStanding 42 = .ok (.iinc 1 1, 3) := by decide +kernel
theorem dX2_seatStanding_45 : decode cX2_seatStanding 45 = .ok (.goto (-43), 3) := by decide +kernel
theorem dX2_seatStanding_48 : decode cX2_seatStanding 48 = .ok (.aload_n 0, 1) := by decide +kernel
theorem dX2_seatStanding_49 : decode cX2_seatStanding 49 = .ok (.getfield 61, 3) := by decide +kernel
theorem dX2_seatStanding_52 : decode cX2_seatStanding 52 = .ok (.aload_n 0, 1) := by decide +kernel
theorem dX2_seatStanding_53 : decode cX2_seatStanding 53 = .ok (.getfield 45, 3) := by decide +kernel
theorem dX2_seatStanding_56 : decode cX2_seatStanding 56 = .ok (.invokevirtual 111, 3) := by decide +kernel
theorem dX2_seatStanding_59 : decode cX2_seatStanding 59 = .ok (.isub, 1) := by decide +kernel
theorem dX2_seatStanding_60 : decode cX2_seatStanding 60 = .ok (.ireturn, 1) := by decide +kernel
theorem dX3_at_0 : decode cX3_at 0 = .ok (.iload_n 1, 1) := by decide +kernel
theorem dX3_at_1 : decode cX3_at 1 = .ok (.ifCond .lt 15, 3) := by decide +kernel
theorem dX3_at_4 : decode cX3_at 4 = .ok (.iload_n 1, 1) := by decide +kernel
theorem dX3_at_5 : decode cX3_at 5 = .ok (.aload_n 0, 1) := by decide +kernel
theorem dX3_at_6 : decode cX3_at 6 = .ok (.arraylength, 1) := by decide +kernel
theorem dX3_at_7 : decode cX3_at 7 = .ok (.if_icmp .ge 9, 3) := by decide +kernel
theorem dX3_at_10 : decode cX3_at 10 = .ok (.aload_n 0, 1) := by decide +kernel
theorem dX3_at_11 : decode cX3_at 11 = .ok (.iload_n 1, 1) := by decide +kernel
theorem dX3_at_12 : decode cX3_at 12 = .ok (.iaload, 1) := by decide +kernel
theorem dX3_at_13 : decode cX3_at 13 = .ok (.goto 4, 3) := by decide +kernel
theorem dX3_at_16 : decode cX3_at 16 = .ok (.iconst (-1), 1) := by decide +kernel
theorem dX3_at_17 : decode cX3_at 17 = .ok (.ireturn, 1) := by decide +kernel
theorem dX3_put_0 : decode cX3_put 0 = .ok (.iload_n 1, 1) := by decide +kernel
theorem dX3_put_1 : decode cX3_put 1 = .ok (.ifCond .lt 13, 3) := by decide +kernel
theorem dX3_put_4 : decode cX3_put 4 = .ok (.iload_n 1, 1) := by decide +kernel
theorem dX3_put_5 : decode cX3_put 5 = .ok (.aload_n 0, 1) := by decide +kernel
theorem dX3_put_6 : decode cX3_put 6 = .ok (.arraylength, 1) := by decide +kernel
theorem dX3_put_7 : decode cX3_put 7 = .ok (.if_icmp .ge 7, 3) := by decide +kernel
theorem dX3_put_10 : decode cX3_put 10 = .ok (.aload_n 0, 1) := by decide +kernel
theorem dX3_put_11 : decode cX3_put 11 = .ok (.iload_n 1, 1) := by decide +kernel
theorem dX3_put_12 : decode cX3_put 12 = .ok (.iload_n 2, 1) := by decide +kernel
theorem dX3_put_13 : decode cX3_put 13 = .ok (.iastore, 1) := by decide +kernel
theorem dX3_put_14 : decode cX3_put 14 = .ok (.return_, 1) := by decide +kernel
theorem dX3_copy_0 : decode cX3_copy 0 = .ok (.iconst 0, 1) := by decide +kernel
theorem dX3_copy_1 : decode cX3_copy 1 = .ok (.istore_n 2, 1) := by decide +kernel
theorem dX3_copy_2 : decode cX3_copy 2 = .ok (.iload_n 2, 1) := by decide +kernel
theorem dX3_copy_3 : decode cX3_copy 3 = .ok (.aload_n 0, 1) := by decide +kernel
theorem dX3_copy_4 : decode cX3_copy 4 = .ok (.arraylength, 1) := by decide +kernel
theorem dX3_copy_5 : decode cX3_copy 5 = .ok (.if_icmp .ge 21, 3) := by decide +kernel
theorem dX3_copy_8 : decode cX3_copy 8 = .ok (.iload_n 2, 1) := by decide +kernel
theorem dX3_copy_9 : decode cX3_copy 9 = .ok (.aload_n 1, 1) := by decide +kernel
theorem dX3_copy_10 : decode cX3_copy 10 = .ok (.arraylength, 1) := by decide +kernel
theorem dX3_copy_11 : decode cX3_copy 11 = .ok (.if_icmp .ge 15, 3) := by decide +kernel
theorem dX3_copy_14 : decode cX3_copy 14 = .ok (.aload_n 1, 1) := by decide +kernel
theorem dX3_copy_15 : decode cX3_copy 15 = .ok (.iload_n 2, 1) := by decide +kernel
theorem dX3_copy_16 : decode cX3_copy 16 = .ok (.aload_n 0, 1) := by decide +kernel
theorem dX3_copy_17 : decode cX3_copy 17 = .ok (.iload_n 2, 1) := by decide +kernel
theorem dX3_copy_18 : decode cX3_copy 18 = .ok (.iaload, 1) := by decide +kernel
theorem dX3_copy_19 : decode cX3_copy 19 = .ok (.iastore, 1) := by decide +kernel
theorem dX3_copy_20 : decode cX3_copy 20 = .ok (.iinc 2 1, 3) := by decide +kernel
theorem dX3_copy_23 : decode cX3_copy 23 = .ok (.goto (-21), 3) := by decide +kernel
theorem dX3_copy_26 : decode cX3_copy 26 = .ok (.return_, 1) := by decide +kernel
theorem dX4_byGuests_0 : decode cX4_byGuests 0 = .ok (.iconst 0, 1) := by decide +kernel
theorem dX4_byGuests_1 : decode cX4_byGuests 1 = .ok (.istore_n 1, 1) := by decide +kernel
theorem dX4_byGuests_2 : decode cX4_byGuests 2 = .ok (.iconst 0, 1) := by decide +kernel
theorem dX4_byGuests_3 : decode cX4_byGuests 3 = .ok (.istore_n 2, 1) := by decide +kernel
theorem dX4_byGuests_4 : decode cX4_byGuests 4 = .ok (.iload_n 2, 1) := by decide +kernel
theorem dX4_byGuests_5 : decode cX4_byGuests 5 = .ok (.aload_n 0, 1) := by decide +kernel
theorem dX4_byGuests_6 : decode cX4_byGuests 6 = .ok (.getfield 9, 3) := by decide +kernel
theorem dX4_byGuests_9 : decode cX4_byGuests 9 = .ok (.if_icmp .ge 17, 3) := by decide +kernel
theorem dX4_byGuests_12 : decode cX4_byGuests 12 = .ok (.iload_n 1, 1) := by decide +kernel
theorem dX4_byGuests_13 : decode cX4_byGuests 13 = .ok (.aload_n 0, 1) := by decide +kernel
theorem dX4_byGuests_14 : decode cX4_byGuests 14 = .ok (.iload_n 2, 1) := by decide +kernel
theorem dX4_byGuests_15 : decode cX4_byGuests 15 = .ok (.invokestatic 15, 3) := by decide +kernel
theorem dX4_byGuests_18 : decode cX4_byGuests 18 = .ok (.iadd, 1) := by decide +kernel
theorem dX4_byGuests_19 : decode cX4_byGuests 19 = .ok (.istore_n 1, 1) := by decide +kernel
theorem dX4_byGuests_20 : decode cX4_byGuests 20 = .ok (.iinc 2 1, 3) := by decide +kernel
theorem dX4_byGuests_23 : decode cX4_byGuests 23 = .ok (.goto (-19), 3) := by decide +kernel
theorem dX4_byGuests_26 : decode cX4_byGuests 26 = .ok (.iload_n 1, 1) := by decide +kernel
theorem dX4_byGuests_27 : decode cX4_byGuests 27 = .ok (.ireturn, 1) := by decide +kernel
theorem dX4_byTables_0 : decode cX4_byTables 0 = .ok (.iconst 0, 1) := by decide +kernel
theorem dX4_byTables_1 : decode cX4_byTables 1 = .ok (.istore_n 1, 1) := by decide +kernel
theorem dX4_byTables_2 : decode cX4_byTables 2 = .ok (.iconst 0, 1) := by decide +kernel
theorem dX4_byTables_3 : decode cX4_byTables 3 = .ok (.istore_n 2, 1) := by decide +kernel
theorem dX4_byTables_4 : decode cX4_byTables 4 = .ok (.iload_n 2, 1) := by decide +kernel
theorem dX4_byTables_5 : decode cX4_byTables 5 = .ok (.aload_n 0, 1) := by decide +kernel
theorem dX4_byTables_6 : decode cX4_byTables 6 = .ok (.getfield 21, 3) := by decide +kernel
theorem dX4_byTables_9 : decode cX4_byTables 9 = .ok (.if_icmp .ge 17, 3) := by decide +kernel
theorem dX4_byTables_12 : decode cX4_byTables 12 = .ok (.iload_n 1, 1) := by decide +kernel
theorem dX4_byTables_13 : decode cX4_byTables 13 = .ok (.aload_n 0, 1) := by decide +kernel
theorem dX4_byTables_14 : decode cX4_byTables 14 = .ok (.iload_n 2, 1) := by decide +kernel
theorem dX4_byTables_15 : decode cX4_byTables 15 = .ok (.invokestatic 24, 3) := by decide +kernel
theorem dX4_byTables_18 : decode cX4_byTables 18 = .ok (.iadd, 1) := by decide +kernel
theorem dX4_byTables_19 : decode cX4_byTables 19 = .ok (.istore_n 1, 1) := by decide +kernel
theorem dX4_byTables_20 : decode cX4_byTables 20 = .ok (.iinc 2 1, 3) := by decide +kernel
theorem dX4_byTables_23 : decode cX4_byTables 23 = .ok (.goto (-19), 3) := by decide +kernel
theorem dX4_byTables_26 : decode cX4_byTables 26 = .ok (.iload_n 1, 1) := by decide +kernel
theorem dX4_byTables_27 : decode cX4_byTables 27 = .ok (.ireturn, 1) := by decide +kernel
theorem dX4_ofGuest_0 : decode cX4_ofGuest 0 = .ok (.aload_n 0, 1) := by decide +kernel
theorem dX4_ofGuest_1 : decode cX4_ofGuest 1 = .ok (.iload_n 1, 1) := by decide +kernel
theorem dX4_ofGuest_2 : decode cX4_ofGuest 2 = .ok (.invokevirtual 27, 3) := by decide +kernel
theorem dX4_ofGuest_5 : decode cX4_ofGuest 5 = .ok (.ifCond .ne 5, 3) := by decide +kernel
theorem dX4_ofGuest_8 : decode cX4_ofGuest 8 = .ok (.iconst 0, 1) := by decide +kernel
theorem dX4_ofGuest_9 : decode cX4_ofGuest 9 = .ok (.ireturn, 1) := by decide +kernel
theorem dX4_ofGuest_10 : decode cX4_ofGuest 10 = .ok (.aload_n 0, 1) := by decide +kernel
theorem dX4_ofGuest_11 : decode cX4_ofGuest 11 = .ok (.getfield 31, 3) := by decide +kernel
theorem dX4_ofGuest_14 : decode cX4_ofGuest 14 = .ok (.iload_n 1, 1) := by decide +kernel
theorem dX4_ofGuest_15 : decode cX4_ofGuest 15 = .ok (.invokestatic 35, 3) := by decide +kernel
theorem dX4_ofGuest_18 : decode cX4_ofGuest 18 = .ok (.istore_n 2, 1) := by decide +kernel
theorem dX4_ofGuest_19 : decode cX4_ofGuest 19 = .ok (.aload_n 0, 1) := by decide +kernel
theorem dX4_ofGuest_20 : decode cX4_ofGuest 20 = .ok (.iload_n 1, 1) := by decide +kernel
theorem dX4_ofGuest_21 : decode cX4_ofGuest 21 = .ok (.iload_n 2, 1) := by decide +kernel
theorem dX4_ofGuest_22 : decode cX4_ofGuest 22 = .ok (.invokestatic 41, 3) := by decide +kernel
theorem dX4_ofGuest_25 : decode cX4_ofGuest 25 = .ok (.aload_n 0, 1) := by decide +kernel
theorem dX4_ofGuest_26 : decode cX4_ofGuest 26 = .ok (.aload_n 0, 1) := by decide +kernel
theorem dX4_ofGuest_27 : decode cX4_ofGuest 27 = .ok (.iload_n 1, 1) := by decide +kernel
theorem dX4_ofGuest_28 : decode cX4_ofGuest 28 = .ok (.invokestatic 45, 3) := by decide +kernel
theorem dX4_ofGuest_31 : decode cX4_ofGuest 31 = .ok (.invokestatic 48, 3) := by decide +kernel
theorem dX4_ofGuest_34 : decode cX4_ofGuest 34 = .ok (.iadd, 1) := by decide +kernel
theorem dX4_ofGuest_35 : decode cX4_ofGuest 35 = .ok (.ireturn, 1) := by decide +kernel
theorem dX4_ofTable_0 : decode cX4_ofTable 0 = .ok (.iconst 0, 1) := by decide +kernel
theorem dX4_ofTable_1 : decode cX4_ofTable 1 = .ok (.istore_n 2, 1) := by decide +kernel
theorem dX4_ofTable_2 : decode cX4_ofTable 2 = .ok (.iconst 0, 1) := by decide +kernel
theorem dX4_ofTable_3 : decode cX4_ofTable 3 = .ok (.istore_n 3, 1) := by decide +kernel
theorem dX4_ofTable_4 : decode cX4_ofTable 4 = .ok (.iload_n 3, 1) := by decide +kernel
theorem dX4_ofTable_5 : decode cX4_ofTable 5 = .ok (.aload_n 0, 1) := by decide +kernel
theorem dX4_ofTable_6 : decode cX4_ofTable 6 = .ok (.iload_n 1, 1) := by decide +kernel
theorem dX4_ofTable_7 : decode cX4_ofTable 7 = .ok (.invokevirtual 51, 3) := by decide +kernel
theorem dX4_ofTable_10 : decode cX4_ofTable 10 = .ok (.if_icmp .ge 99, 3) := by decide +kernel
theorem dX4_ofTable_13 : decode cX4_ofTable 13 = .ok (.aload_n 0, 1) := by decide +kernel
theorem dX4_ofTable_14 : decode cX4_ofTable 14 = .ok (.iload_n 1, 1) := by decide +kernel
theorem dX4_ofTable_15 : decode cX4_ofTable 15 = .ok (.iload_n 3, 1) := by decide +kernel
theorem dX4_ofTable_16 : decode cX4_ofTable 16 = .ok (.invokevirtual 55, 3) := by decide +kernel
theorem dX4_ofTable_19 : decode cX4_ofTable 19 = .ok (.istore 4, 2) := by decide +kernel
theorem dX4_ofTable_21 : decode cX4_ofTable 21 = .ok (.iload 4, 2) := by decide +kernel
theorem dX4_ofTable_23 : decode cX4_ofTable 23 = .ok (.iconst (-1), 1) := by decide +kernel
theorem dX4_ofTable_24 : decode cX4_ofTable 24 = .ok (.if_icmp .ne 6, 3) := by decide +kernel
theorem dX4_ofTable_27 : decode cX4_ofTable 27 = .ok (.goto 76, 3) := by decide +kernel
theorem dX4_ofTable_30 : decode cX4_ofTable 30 = .ok (.iload_n 2, 1) := by decide +kernel
theorem dX4_ofTable_31 : decode cX4_ofTable 31 = .ok (.aload_n 0, 1) := by decide +kernel
theorem dX4_ofTable_32 : decode cX4_ofTable 32 = .ok (.iload 4, 2) := by decide +kernel
theorem dX4_ofTable_34 : decode cX4_ofTable 34 = .ok (.iload_n 3, 1) := by decide +kernel
theorem dX4_ofTable_35 : decode cX4_ofTable 35 = .ok (.invokestatic 41, 3) := by decide +kernel
theorem dX4_ofTable_38 : decode cX4_ofTable 38 = .ok (.iadd, 1) := by decide +kernel
theorem dX4_ofTable_39 : decode cX4_ofTable 39 = .ok (.istore_n 2, 1) := by decide +kernel
theorem dX4_ofTable_40 : decode cX4_ofTable 40 = .ok (.iconst 0, 1) := by decide +kernel
theorem dX4_ofTable_41 : decode cX4_ofTable 41 = .ok (.istore 5, 2) := by decide +kernel
theorem dX4_ofTable_43 : decode cX4_ofTable 43 = .ok (.iload 5, 2) := by decide +kernel
theorem dX4_ofTable_45 : decode cX4_ofTable 45 = .ok (.aload_n 0, 1) := by decide +kernel
theorem dX4_ofTable_46 : decode cX4_ofTable 46 = .ok (.iload_n 1, 1) := by decide +kernel
theorem dX4_ofTable_47 : decode cX4_ofTable 47 = .ok (.invokevirtual 51, 3) := by decide +kernel
theorem dX4_ofTable_50 : decode cX4_ofTable 50 = .ok (.if_icmp .ge 53, 3) := by decide +kernel
theorem dX4_ofTable_53 : decode cX4_ofTable 53 = .ok (.aload_n 0, 1) := by decide +kernel
theorem dX4_ofTable_54 : decode cX4_ofTable 54 = .ok (.iload_n 1, 1) := by decide +kernel
theorem dX4_ofTable_55 : decode cX4_ofTable 55 = .ok (.iload 5, 2) := by decide +kernel
theorem dX4_ofTable_57 : decode cX4_ofTable 57 = .ok (.invokevirtual 55, 3) := by decide +kernel
theorem dX4_ofTable_60 : decode cX4_ofTable 60 = .ok (.istore 6, 2) := by decide +kernel
theorem dX4_ofTable_62 : decode cX4_ofTable 62 = .ok (.iload 6, 2) := by decide +kernel
theorem dX4_ofTable_64 : decode cX4_ofTable 64 = .ok (.iconst (-1), 1) := by decide +kernel
theorem dX4_ofTable_65 : decode cX4_ofTable 65 = .ok (.if_icmp .eq 32, 3) := by decide +kernel
theorem dX4_ofTable_68 : decode cX4_ofTable 68 = .ok (.aload_n 0, 1) := by decide +kernel
theorem dX4_ofTable_69 : decode cX4_ofTable 69 = .ok (.getfield 59, 3) := by decide +kernel
theorem dX4_ofTable_72 : decode cX4_ofTable 72 = .ok (.iload 4, 2) := by decide +kernel
theorem dX4_ofTable_74 : decode cX4_ofTable 74 = .ok (.invokestatic 35, 3) := by decide +kernel
theorem dX4_ofTable_77 : decode cX4_ofTable 77 = .ok (.iload 6, 2) := by decide +kernel
theorem dX4_ofTable_79 : decode cX4_ofTable 79 = .ok (.if_icmp .ne 18, 3) := by decide +kernel
theorem dX4_ofTable_82 : decode cX4_ofTable 82 = .ok (.iload_n 2, 1) := by decide +kernel
theorem dX4_ofTable_83 : decode cX4_ofTable 83 = .ok (.aload_n 0, 1) := by decide +kernel
theorem dX4_ofTable_84 : decode cX4_ofTable 84 = .ok (.aload_n 0, 1) := by decide +kernel
theorem dX4_ofTable_85 : decode cX4_ofTable 85 = .ok (.iload 6, 2) := by decide +kernel
theorem dX4_ofTable_87 : decode cX4_ofTable 87 = .ok (.iload_n 1, 1) := by decide +kernel
theorem dX4_ofTable_88 : decode cX4_ofTable 88 = .ok (.iload_n 3, 1) := by decide +kernel
theorem dX4_ofTable_89 : decode cX4_ofTable 89 = .ok (.invokestatic 62, 3) := by decide +kernel
theorem dX4_ofTable_92 : decode cX4_ofTable 92 = .ok (.invokestatic 48, 3) := by decide +kernel
theorem dX4_ofTable_95 : decode cX4_ofTable 95 = .ok (.iadd, 1) := by decide +kernel
theorem dX4_ofTable_96 : decode cX4_ofTable 96 = .ok (.istore_n 2, 1) := by decide +kernel
theorem dX4_ofTable_97 : decode cX4_ofTable 97 = .ok (.iinc 5 1, 3) := by decide +kernel
theorem dX4_ofTable_100 : decode cX4_ofTable 100 = .ok (.goto (-57), 3) := by decide +kernel
theorem dX4_ofTable_103 : decode cX4_ofTable 103 = .ok (.iinc 3 1, 3) := by decide +kernel
theorem dX4_ofTable_106 : decode cX4_ofTable 106 = .ok (.goto (-102), 3) := by decide +kernel
theorem dX4_ofTable_109 : decode cX4_ofTable 109 = .ok (.iload_n 2, 1) := by decide +kernel
theorem dX4_ofTable_110 : decode cX4_ofTable 110 = .ok (.ireturn, 1) := by decide +kernel
theorem dX4_gain_0 : decode cX4_gain 0 = .ok (.aload_n 0, 1) := by decide +kernel
theorem dX4_gain_1 : decode cX4_gain 1 = .ok (.getfield 59, 3) := by decide +kernel
theorem dX4_gain_4 : decode cX4_gain 4 = .ok (.iload_n 1, 1) := by decide +kernel
theorem dX4_gain_5 : decode cX4_gain 5 = .ok (.invokestatic 35, 3) := by decide +kernel
theorem dX4_gain_8 : decode cX4_gain 8 = .ok (.istore 4, 2) := by decide +kernel
theorem dX4_gain_10 : decode cX4_gain 10 = .ok (.aload_n 0, 1) := by decide +kernel
theorem dX4_gain_11 : decode cX4_gain 11 = .ok (.iload_n 1, 1) := by decide +kernel
theorem dX4_gain_12 : decode cX4_gain 12 = .ok (.iload_n 3, 1) := by decide +kernel
theorem dX4_gain_13 : decode cX4_gain 13 = .ok (.invokestatic 41, 3) := by decide +kernel
theorem dX4_gain_16 : decode cX4_gain 16 = .ok (.istore 5, 2) := by decide +kernel
theorem dX4_gain_18 : decode cX4_gain 18 = .ok (.iload 5, 2) := by decide +kernel
theorem dX4_gain_20 : decode cX4_gain 20 = .ok (.aload_n 0, 1) := by decide +kernel
theorem dX4_gain_21 : decode cX4_gain 21 = .ok (.aload_n 0, 1) := by decide +kernel
theorem dX4_gain_22 : decode cX4_gain 22 = .ok (.iload 4, 2) := by decide +kernel
theorem dX4_gain_24 : decode cX4_gain 24 = .ok (.iload_n 2, 1) := by decide +kernel
theorem dX4_gain_25 : decode cX4_gain 25 = .ok (.iload_n 3, 1) := by decide +kernel
theorem dX4_gain_26 : decode cX4_gain 26 = .ok (.invokestatic 62, 3) := by decide +kernel
theorem dX4_gain_29 : decode cX4_gain 29 = .ok (.invokestatic 48, 3) := by decide +kernel
theorem dX4_gain_32 : decode cX4_gain 32 = .ok (.iadd, 1) := by decide +kernel
theorem dX4_gain_33 : decode cX4_gain 33 = .ok (.istore 5, 2) := by decide +kernel
theorem dX4_gain_35 : decode cX4_gain 35 = .ok (.iconst 0, 1) := by decide +kernel
theorem dX4_gain_36 : decode cX4_gain 36 = .ok (.istore 6, 2) := by decide +kernel
theorem dX4_gain_38 : decode cX4_gain 38 = .ok (.iload 6, 2) := by decide +kernel
theorem dX4_gain_40 : decode cX4_gain 40 = .ok (.aload_n 0, 1) := by decide +kernel
theorem dX4_gain_41 : decode cX4_gain 41 = .ok (.getfield 9, 3) := by decide +kernel
theorem dX4_gain_44 : decode cX4_gain 44 = .ok (.if_icmp .ge 39, 3) := by decide +kernel
theorem dX4_gain_47 : decode cX4_gain 47 = .ok (.aload_n 0, 1) := by decide +kernel
theorem dX4_gain_48 : decode cX4_gain 48 = .ok (.getfield 59, 3) := by decide +kernel
theorem dX4_gain_51 : decode cX4_gain 51 = .ok (.iload 6, 2) := by decide +kernel
theorem dX4_gain_53 : decode cX4_gain 53 = .ok (.invokestatic 35, 3) := by decide +kernel
theorem dX4_gain_56 : decode cX4_gain 56 = .ok (.iload_n 1, 1) := by decide +kernel
theorem dX4_gain_57 : decode cX4_gain 57 = .ok (.if_icmp .ne 20, 3) := by decide +kernel
theorem dX4_gain_60 : decode cX4_gain 60 = .ok (.iload 5, 2) := by decide +kernel
theorem dX4_gain_62 : decode cX4_gain 62 = .ok (.aload_n 0, 1) := by decide +kernel
theorem dX4_gain_63 : decode cX4_gain 63 = .ok (.aload_n 0, 1) := by decide +kernel
theorem dX4_gain_64 : decode cX4_gain 64 = .ok (.iload 6, 2) := by decide +kernel
theorem dX4_gain_66 : decode cX4_gain 66 = .ok (.iload_n 2, 1) := by decide +kernel
theorem dX4_gain_67 : decode cX4_gain 67 = .ok (.iload_n 3, 1) := by decide +kernel
theorem dX4_gain_68 : decode cX4_gain 68 = .ok (.invokestatic 62, 3) := by decide +kernel
theorem dX4_gain_71 : decode cX4_gain 71 = .ok (.invokestatic 48, 3) := by decide +kernel
theorem dX4_gain_74 : decode cX4_gain 74 = .ok (.iadd, 1) := by decide +kernel
theorem dX4_gain_75 : decode cX4_gain 75 = .ok (.istore 5, 2) := by decide +kernel
theorem dX4_gain_77 : decode cX4_gain 77 = .ok (.iinc 6 1, 3) := by decide +kernel
theorem dX4_gain_80 : decode cX4_gain 80 = .ok (.goto (-42), 3) := by decide +kernel
theorem dX4_gain_83 : decode cX4_gain 83 = .ok (.iload 5, 2) := by decide +kernel
theorem dX4_gain_85 : decode cX4_gain 85 = .ok (.ireturn, 1) := by decide +kernel
theorem dX4_afterMove_0 : decode cX4_afterMove 0 = .ok (.aload_n 0, 1) := by decide +kernel
theorem dX4_afterMove_1 : decode cX4_afterMove 1 = .ok (.invokestatic 66, 3) := by decide +kernel
theorem dX4_afterMove_4 : decode cX4_afterMove 4 = .ok (.aload_n 0, 1) := by decide +kernel
theorem dX4_afterMove_5 : decode cX4_afterMove 5 = .ok (.iload_n 1, 1) := by decide +kernel
theorem dX4_afterMove_6 : decode cX4_afterMove 6 = .ok (.iload_n 2, 1) := by decide +kernel
theorem dX4_afterMove_7 : decode cX4_afterMove 7 = .ok (.iload_n 3, 1) := by decide +kernel
theorem dX4_afterMove_8 : decode cX4_afterMove 8 = .ok (.invokestatic 70, 3) := by decide +kernel
theorem dX4_afterMove_11 : decode cX4_afterMove 11 = .ok (.iadd, 1) := by decide +kernel
theorem dX4_afterMove_12 : decode cX4_afterMove 12 = .ok (.istore 4, 2) := by decide +kernel
theorem dX4_afterMove_14 : decode cX4_afterMove 14 = .ok (.aload_n 0, 1) := by decide +kernel
theorem dX4_afterMove_15 : decode cX4_afterMove 15 = .ok (.iload_n 1, 1) := by decide +kernel
theorem dX4_afterMove_16 : decode cX4_afterMove 16 = .ok (.invokevirtual 27, 3) := by decide +kernel
theorem dX4_afterMove_19 : decode cX4_afterMove 19 = .ok (.ifCond .eq 29, 3) := by decide +kernel
theorem dX4_afterMove_22 : decode cX4_afterMove 22 = .ok (.iload 4, 2) := by decide +kernel
theorem dX4_afterMove_24 : decode cX4_afterMove 24 = .ok (.aload_n 0, 1) := by decide +kernel
theorem dX4_afterMove_25 : decode cX4_afterMove 25 = .ok (.iload_n 1, 1) := by decide +kernel
theorem dX4_afterMove_26 : decode cX4_afterMove 26 = .ok (.aload_n 0, 1) := by decide +kernel
theorem dX4_afterMove_27 : decode cX4_afterMove 27 = .ok (.getfield 73, 3) := by decide +kernel
theorem dX4_afterMove_30 : decode cX4_afterMove 30 = .ok (.iload_n 1, 1) := by decide +kernel
theorem dX4_afterMove_31 : decode cX4_afterMove 31 = .ok (.invokestatic 35, 3) := by decide +kernel
theorem dX4_afterMove_34 : decode cX4_afterMove 34 = .ok (.aload_n 0, 1) := by decide +kernel
theorem dX4_afterMove_35 : decode cX4_afterMove 35 = .ok (.getfield 31, 3) := by decide +kernel
theorem dX4_afterMove_38 : decode cX4_afterMove 38 = .ok (.iload_n 1, 1) := by decide +kernel
theorem dX4_afterMove_39 : decode cX4_afterMove 39 = .ok (.invokestatic 35, 3) := by decide +kernel
theorem dX4_afterMove_42 : decode cX4_afterMove 42 = .ok (.invokestatic 70, 3) := by decide +kernel
theorem dX4_afterMove_45 : decode cX4_afterMove 45 = .ok (.isub, 1) := by decide +kernel
theorem dX4_afterMove_46 : decode cX4_afterMove 46 = .ok (.istore 4, 2) := by decide +kernel
theorem dX4_afterMove_48 : decode cX4_afterMove 48 = .ok (.iload 4, 2) := by decide +kernel
theorem dX4_afterMove_50 : decode cX4_afterMove 50 = .ok (.ireturn, 1) := by decide +kernel
theorem dX4_ofSitting_0 : decode cX4_ofSitting 0 = .ok (.iload_n 2, 1) := by decide +kernel
theorem dX4_ofSitting_1 : decode cX4_ofSitting 1 = .ok (.invokestatic 76, 3) := by decide +kernel
theorem dX4_ofSitting_4 : decode cX4_ofSitting 4 = .ok (.ifCond .eq 19, 3) := by decide +kernel
theorem dX4_ofSitting_7 : decode cX4_ofSitting 7 = .ok (.aload_n 0, 1) := by decide +kernel
theorem dX4_ofSitting_8 : decode cX4_ofSitting 8 = .ok (.getfield 79, 3) := by decide +kernel
theorem dX4_ofSitting_11 : decode cX4_ofSitting 11 = .ok (.iload_n 1, 1) := by decide +kernel
theorem dX4_ofSitting_12 : decode cX4_ofSitting 12 = .ok (.invokestatic 35, 3) := by decide +kernel
theorem dX4_ofSitting_15 : decode cX4_ofSitting 15 = .ok (.iconst 2, 1) := by decide +kernel
theorem dX4_ofSitting_16 : decode cX4_ofSitting 16 = .ok (.if_icmp .ne 7, 3) := by decide +kernel
theorem dX4_ofSitting_19 : decode cX4_ofSitting 19 = .ok (.iconst 1, 1) := by decide +kernel
theorem dX4_ofSitting_20 : decode cX4_ofSitting 20 = .ok (.goto 4, 3) := by decide +kernel
theorem dX4_ofSitting_23 : decode cX4_ofSitting 23 = .ok (.iconst 0, 1) := by decide +kernel
theorem dX4_ofSitting_24 : decode cX4_ofSitting 24 = .ok (.istore_n 3, 1) := by decide +kernel
theorem dX4_ofSitting_25 : decode cX4_ofSitting 25 = .ok (.iload_n 3, 1) := by decide +kernel
theorem dX4_ofSitting_26 : decode cX4_ofSitting 26 = .ok (.ifCond .eq 16, 3) := by decide +kernel
theorem dX4_ofSitting_29 : decode cX4_ofSitting 29 = .ok (.iconst 1, 1) := by decide +kernel
theorem dX4_ofSitting_30 : decode cX4_ofSitting 30 = .ok (.aload_n 0, 1) := by decide +kernel
theorem dX4_ofSitting_31 : decode cX4_ofSitting 31 = .ok (.getfield 82, 3) := by decide +kernel
theorem dX4_ofSitting_34 : decode cX4_ofSitting 34 = .ok (.iconst 3, 1) := by decide +kernel
theorem dX4_ofSitting_35 : decode cX4_ofSitting 35 = .ok (.invokestatic 35, 3) := by decide +kernel
theorem dX4_ofSitting_38 : decode cX4_ofSitting 38 = .ok (.isub, 1) := by decide +kernel
theorem dX4_ofSitting_39 : decode cX4_ofSitting 39 = .ok (.goto 4, 3) := by decide +kernel
theorem dX4_ofSitting_42 : decode cX4_ofSitting 42 = .ok (.iconst 1, 1) := by decide +kernel
theorem dX4_ofSitting_43 : decode cX4_ofSitting 43 = .ok (.ireturn, 1) := by decide +kernel
theorem dX4_levelOfGuest_0 : decode cX4_levelOfGuest 0 = .ok (.aload_n 0, 1) := by decide +kernel
theorem dX4_levelOfGuest_1 : decode cX4_levelOfGuest 1 = .ok (.iload_n 1, 1) := by decide +kernel
theorem dX4_levelOfGuest_2 : decode cX4_levelOfGuest 2 = .ok (.invokevirtual 27, 3) := by decide +kernel
theorem dX4_levelOfGuest_5 : decode cX4_levelOfGuest 5 = .ok (.ifCond .ne 5, 3) := by decide +kernel
theorem dX4_levelOfGuest_8 : decode cX4_levelOfGuest 8 = .ok (.iconst 0, 1) := by decide +kernel
theorem dX4_levelOfGuest_9 : decode cX4_levelOfGuest 9 = .ok (.ireturn, 1) := by decide +kernel
theorem dX4_levelOfGuest_10 : decode cX4_levelOfGuest 10 = .ok (.aload_n 0, 1) := by decide +kernel
theorem dX4_levelOfGuest_11 : decode cX4_levelOfGuest 11 = .ok (.getfield 59, 3) := by decide +kernel
theorem dX4_levelOfGuest_14 : decode cX4_levelOfGuest 14 = .ok (.iload_n 1, 1) := by decide +kernel
theorem dX4_levelOfGuest_15 : decode cX4_levelOfGuest 15 = .ok (.invokestatic 35, 3) := by decide +kernel
theorem dX4_levelOfGuest_18 : decode cX4_levelOfGuest 18 = .ok (.istore_n 2, 1) := by decide +kernel
theorem dX4_levelOfGuest_19 : decode cX4_levelOfGuest 19 = .ok (.aload_n 0, 1) := by decide +kernel
theorem dX4_levelOfGuest_20 : decode cX4_levelOfGuest 20 = .ok (.iload_n 2, 1) := by decide +kernel
theorem dX4_levelOfGuest_21 : decode cX4_levelOfGuest 21 = .ok (.aload_n 0, 1) := by decide +kernel
theorem dX4_levelOfGuest_22 : decode cX4_levelOfGuest 22 = .ok (.getfield 73, 3) := by decide +kernel
theorem dX4_levelOfGuest_25 : decode cX4_levelOfGuest 25 = .ok (.iload_n 1, 1) := by decide +kernel
theorem dX4_levelOfGuest_26 : decode cX4_levelOfGuest 26 = .ok (.invokestatic 35, 3) := by decide +kernel
theorem dX4_levelOfGuest_29 : decode cX4_levelOfGuest 29 = .ok (.aload_n 0, 1) := by decide +kernel
theorem dX4_levelOfGuest_30 : decode cX4_levelOfGuest 30 = .ok (.getfield 31, 3) := by decide +kernel
theorem dX4_levelOfGuest_33 : decode cX4_levelOfGuest 33 = .ok (.iload_n 1, 1) := by decide +kernel
theorem dX4_levelOfGuest_34 : decode cX4_levelOfGuest 34 = .ok (.invokestatic 35, 3) := by decide +kernel
theorem dX4_levelOfGuest_37 : decode cX4_levelOfGuest 37 = .ok (.invokestatic 62, 3) := by decide +kernel
theorem dX4_levelOfGuest_40 : decode cX4_levelOfGuest 40 = .ok (.ireturn, 1) := by decide +kernel
theorem dX4_levelBetween_0 : decode cX4_levelBetween 0 = .ok (.aload_n 0, 1) := by decide +kernel
theorem dX4_levelBetween_1 : decode cX4_levelBetween 1 = .ok (.iload_n 1, 1) := by decide +kernel
theorem dX4_levelBetween_2 : decode cX4_levelBetween 2 = .ok (.invokevirtual 85, 3) := by decide +kernel
theorem dX4_levelBetween_5 : decode cX4_levelBetween 5 = .ok (.ifCond .eq 15, 3) := by decide +kernel
theorem dX4_levelBetween_8 : decode cX4_levelBetween 8 = .ok (.aload_n 0, 1) := by decide +kernel
theorem dX4_levelBetween_9 : decode cX4_levelBetween 9 = .ok (.getfield 73, 3) := by decide +kernel
theorem dX4_levelBetween_12 : decode cX4_levelBetween 12 = .ok (.iload_n 1, 1) := by decide +kernel
theorem dX4_levelBetween_13 : decode cX4_levelBetween 13 = .ok (.invokestatic 35, 3) := by decide +kernel
theorem dX4_levelBetween_16 : decode cX4_levelBetween 16 = .ok (.iload_n 2, 1) := by decide +kernel
theorem dX4_levelBetween_17 : decode cX4_levelBetween 17 = .ok (.if_icmp .eq 5, 3) := by decide +kernel
theorem dX4_levelBetween_20 : decode cX4_levelBetween 20 = .ok (.iconst 0, 1) := by decide +kernel
theorem dX4_levelBetween_21 : decode cX4_levelBetween 21 = .ok (.ireturn, 1) := by decide +kernel
theorem dX4_levelBetween_22 : decode cX4_levelBetween 22 = .ok (.aload_n 0, 1) := by decide +kernel
theorem dX4_levelBetween_23 : decode cX4_levelBetween 23 = .ok (.getfield 31, 3) := by decide +kernel
theorem dX4_levelBetween_26 : decode cX4_levelBetween 26 = .ok (.iload_n 1, 1) := by decide +kernel
theorem dX4_levelBetween_27 : decode cX4_levelBetween 27 = .ok (.invokestatic 35, 3) := by decide +kernel
theorem dX4_levelBetween_30 : decode cX4_levelBetween 30 = .ok (.iload_n 3, 1) := by decide +kernel
theorem dX4_levelBetween_31 : decode cX4_levelBetween 31 = .ok (.isub, 1) := by decide +kernel
theorem dX4_levelBetween_32 : decode cX4_levelBetween 32 = .ok (.invokestatic 88, 3) := by decide +kernel
theorem dX4_levelBetween_35 : decode cX4_levelBetween 35 = .ok (.istore 4, 2) := by decide +kernel
theorem dX4_levelBetween_37 : decode cX4_levelBetween 37 = .ok (.iload 4, 2) := by decide +kernel
theorem dX4_levelBetween_39 : decode cX4_levelBetween 39 = .ok (.iconst 1, 1) := by decide +kernel
theorem dX4_levelBetween_40 : decode cX4_levelBetween 40 = .ok (.if_icmp .eq 15, 3) := by decide +kernel
theorem dX4_levelBetween_43 : decode cX4_levelBetween 43 = .ok (.iload 4, 2) := by decide +kernel
theorem dX4_levelBetween_45 : decode cX4_levelBetween 45 = .ok (.aload_n 0, 1) := by decide +kernel
theorem dX4_levelBetween_46 : decode cX4_levelBetween 46 = .ok (.iload_n 2, 1) := by decide +kernel
theorem dX4_levelBetween_47 : decode cX4_levelBetween 47 = .ok (.invokevirtual 51, 3) := by decide +kernel
theorem dX4_levelBetween_50 : decode cX4_levelBetween 50 = .ok (.iconst 1, 1) := by decide +kernel
theorem dX4_levelBetween_51 : decode cX4_levelBetween 51 = .ok (.isub, 1) := by decide +kernel
theorem dX4_levelBetween_52 : decode cX4_levelBetween 52 = .ok (.if_icmp .ne 7, 3) := by decide +kernel
theorem dX4_levelBetween_55 : decode cX4_levelBetween 55 = .ok (.iconst 2, 1) := by decide +kernel
theorem dX4_levelBetween_56 : decode cX4_levelBetween 56 = .ok (.goto 4, 3) := by decide +kernel
theorem dX4_levelBetween_59 : decode cX4_levelBetween 59 = .ok (.iconst 1, 1) := by decide +kernel
theorem dX4_levelBetween_60 : decode cX4_levelBetween 60 = .ok (.ireturn, 1) := by decide +kernel
theorem dX4_ofLevel_0 : decode cX4_ofLevel 0 = .ok (.iconst 0, 1) := by decide +kernel
theorem dX4_ofLevel_1 : decode cX4_ofLevel 1 = .ok (.istore_n 2, 1) := by decide +kernel
theorem dX4_ofLevel_2 : decode cX4_ofLevel 2 = .ok (.iload_n 1, 1) := by decide +kernel
theorem dX4_ofLevel_3 : decode cX4_ofLevel 3 = .ok (.iconst 1, 1) := by decide +kernel
theorem dX4_ofLevel_4 : decode cX4_ofLevel 4 = .ok (.if_icmp .lt 14, 3) := by decide +kernel
theorem dX4_ofLevel_7 : decode cX4_ofLevel 7 = .ok (.iload_n 2, 1) := by decide +kernel
theorem dX4_ofLevel_8 : decode cX4_ofLevel 8 = .ok (.aload_n 0, 1) := by decide +kernel
theorem dX4_ofLevel_9 : decode cX4_ofLevel 9 = .ok (.getfield 82, 3) := by decide +kernel
theorem dX4_ofLevel_12 : decode cX4_ofLevel 12 = .ok (.iconst 1, 1) := by decide +kernel
theorem dX4_ofLevel_13 : decode cX4_ofLevel 13 = .ok (.invokestatic 35, 3) := by decide +kernel
theorem dX4_ofLevel_16 : decode cX4_ofLevel 16 = .ok (.iadd, 1) := by decide +kernel
theorem dX4_ofLevel_17 : decode cX4_ofLevel 17 = .ok (.istore_n 2, 1) := by decide +kernel
theorem dX4_ofLevel_18 : decode cX4_ofLevel 18 = .ok (.iload_n 1, 1) := by decide +kernel
theorem dX4_ofLevel_19 : decode cX4_ofLevel 19 = .ok (.iconst 2, 1) := by decide +kernel
theorem dX4_ofLevel_20 : decode cX4_ofLevel 20 = .ok (.if_icmp .lt 14, 3) := by decide +kernel
theorem dX4_ofLevel_23 : decode cX4_ofLevel 23 = .ok (.iload_n 2, 1) := by decide +kernel
theorem dX4_ofLevel_24 : decode cX4_ofLevel 24 = .ok (.aload_n 0, 1) := by decide +kernel
theorem dX4_ofLevel_25 : decode cX4_ofLevel 25 = .ok (.getfield 82, 3) := by decide +kernel
theorem dX4_ofLevel_28 : decode cX4_ofLevel 28 = .ok (.iconst 2, 1) := by decide +kernel
theorem dX4_ofLevel_29 : decode cX4_ofLevel 29 = .ok (.invokestatic 35, 3) := by decide +kernel
theorem dX4_ofLevel_32 : decode cX4_ofLevel 32 = .ok (.iadd, 1) := by decide +kernel
theorem dX4_ofLevel_33 : decode cX4_ofLevel 33 = .ok (.istore_n 2, 1) := by decide +kernel
theorem dX4_ofLevel_34 : decode cX4_ofLevel 34 = .ok (.iload_n 2, 1) := by decide +kernel
theorem dX4_ofLevel_35 : decode cX4_ofLevel 35 = .ok (.ireturn, 1) := by decide +kernel
theorem dX4_wishesMet_0 : decode cX4_wishesMet 0 = .ok (.iconst 0, 1) := by decide +kernel
theorem dX4_wishesMet_1 : decode cX4_wishesMet 1 = .ok (.istore_n 1, 1) := by decide +kernel
theorem dX4_wishesMet_2 : decode cX4_wishesMet 2 = .ok (.iconst 0, 1) := by decide +kernel
theorem dX4_wishesMet_3 : decode cX4_wishesMet 3 = .ok (.istore_n 2, 1) := by decide +kernel
theorem dX4_wishesMet_4 : decode cX4_wishesMet 4 = .ok (.iload_n 2, 1) := by decide +kernel
theorem dX4_wishesMet_5 : decode cX4_wishesMet 5 = .ok (.aload_n 0, 1) := by decide +kernel
theorem dX4_wishesMet_6 : decode cX4_wishesMet 6 = .ok (.getfield 9, 3) := by decide +kernel
theorem dX4_wishesMet_9 : decode cX4_wishesMet 9 = .ok (.if_icmp .ge 20, 3) := by decide +kernel
theorem dX4_wishesMet_12 : decode cX4_wishesMet 12 = .ok (.aload_n 0, 1) := by decide +kernel
theorem dX4_wishesMet_13 : decode cX4_wishesMet 13 = .ok (.iload_n 2, 1) := by decide +kernel
theorem dX4_wishesMet_14 : decode cX4_wishesMet 14 = .ok (.invokestatic 45, 3) := by decide +kernel
theorem dX4_wishesMet_17 : decode cX4_wishesMet 17 = .ok (.ifCond .le 6, 3) := by decide +kernel
theorem dX4_wishesMet_20 : decode cX4_wishesMet 20 = .ok (.iinc 1 1, 3) := by decide +kernel
theorem dX4_wishesMet_23 : decode cX4_wishesMet 23 = .ok (.iinc 2 1, 3) := by decide +kernel
theorem dX4_wishesMet_26 : decode cX4_wishesMet 26 = .ok (.goto (-22), 3) := by decide +kernel
theorem dX4_wishesMet_29 : decode cX4_wishesMet 29 = .ok (.iload_n 1, 1) := by decide +kernel
theorem dX4_wishesMet_30 : decode cX4_wishesMet 30 = .ok (.ireturn, 1) := by decide +kernel
theorem dX4_shareMet_0 : decode cX4_shareMet 0 = .ok (.iconst 0, 1) := by decide +kernel
theorem dX4_shareMet_1 : decode cX4_shareMet 1 = .ok (.istore_n 1, 1) := by decide +kernel
theorem dX4_shareMet_2 : decode cX4_shareMet 2 = .ok (.iconst 0, 1) := by decide +kernel
theorem dX4_shareMet_3 : decode cX4_shareMet 3 = .ok (.istore_n 2, 1) := by decide +kernel
theorem dX4_shareMet_4 : decode cX4_shareMet 4 = .ok (.iload_n 2, 1) := by decide +kernel
theorem dX4_shareMet_5 : decode cX4_shareMet 5 = .ok (.aload_n 0, 1) := by decide +kernel
theorem dX4_shareMet_6 : decode cX4_shareMet 6 = .ok (.getfield 9, 3) := by decide +kernel
theorem dX4_shareMet_9 : decode cX4_shareMet 9 = .ok (.if_icmp .ge 24, 3) := by decide +kernel
theorem dX4_shareMet_12 : decode cX4_shareMet 12 = .ok (.aload_n 0, 1) := by decide +kernel
theorem dX4_shareMet_13 : decode cX4_shareMet 13 = .ok (.getfield 59, 3) := by decide +kernel
theorem dX4_shareMet_16 : decode cX4_shareMet 16 = .ok (.iload_n 2, 1) := by decide +kernel
theorem dX4_shareMet_17 : decode cX4_shareMet 17 = .ok (.invokestatic 35, 3) := by decide +kernel
theorem dX4_shareMet_20 : decode cX4_shareMet 20 = .ok (.iconst (-1), 1) := by decide +kernel
theorem dX4_shareMet_21 : decode cX4_shareMet 21 = .ok (.if_icmp .eq 6, 3) := by decide +kernel
theorem dX4_shareMet_24 : decode cX4_shareMet 24 = .ok (.iinc 1 1, 3) := by decide +kernel
theorem dX4_shareMet_27 : decode cX4_shareMet 27 = .ok (.iinc 2 1, 3) := by decide +kernel
theorem dX4_shareMet_30 : decode cX4_shareMet 30 = .ok (.goto (-26), 3) := by decide +kernel
theorem dX4_shareMet_33 : decode cX4_shareMet 33 = .ok (.iload_n 1, 1) := by decide +kernel
theorem dX4_shareMet_34 : decode cX4_shareMet 34 = .ok (.ifCond .ne 7, 3) := by decide +kernel
theorem dX4_shareMet_37 : decode cX4_shareMet 37 = .ok (.dconst 1, 1) := by decide +kernel
theorem dX4_shareMet_38 : decode cX4_shareMet 38 = .ok (.goto 11, 3) := by decide +kernel
theorem dX4_shareMet_41 : decode cX4_shareMet 41 = .ok (.aload_n 0, 1) := by decide +kernel
theorem dX4_shareMet_42 : decode cX4_shareMet 42 = .ok (.invokestatic 93, 3) := by decide +kernel
theorem dX4_shareMet_45 : decode cX4_shareMet 45 = .ok (.i2d, 1) := by decide +kernel
theorem dX4_shareMet_46 : decode cX4_shareMet 46 = .ok (.iload_n 1, 1) := by decide +kernel
theorem dX4_shareMet_47 : decode cX4_shareMet 47 = .ok (.i2d, 1) := by decide +kernel
theorem dX4_shareMet_48 : decode cX4_shareMet 48 = .ok (.ddiv, 1) := by decide +kernel
theorem dX4_shareMet_49 : decode cX4_shareMet 49 = .ok (.dreturn, 1) := by decide +kernel
theorem dX5_init_0 : decode cX5_init 0 = .ok (.aload_n 0, 1) := by decide +kernel
theorem dX5_init_1 : decode cX5_init 1 = .ok (.invokespecial 3, 3) := by decide +kernel
theorem dX5_init_4 : decode cX5_init 4 = .ok (.aload_n 0, 1) := by decide +kernel
theorem dX5_init_5 : decode cX5_init 5 = .ok (.new 9, 3) := by decide +kernel
theorem dX5_init_8 : decode cX5_init 8 = .ok (.dup, 1) := by decide +kernel
theorem dX5_init_9 : decode cX5_init 9 = .ok (.bipush 60, 2) := by decide +kernel
theorem dX5_init_11 : decode cX5_init 11 = .ok (.invokespecial 11, 3) := by decide +kernel
theorem dX5_init_14 : decode cX5_init 14 = .ok (.putfield 14, 3) := by decide +kernel
theorem dX5_init_17 : decode cX5_init 17 = .ok (.return_, 1) := by decide +kernel
theorem dX6_init_0 : decode cX6_init 0 = .ok (.aload_n 0, 1) := by decide +kernel
theorem dX6_init_1 : decode cX6_init 1 = .ok (.invokespecial 1, 3) := by decide +kernel
theorem dX6_init_4 : decode cX6_init 4 = .ok (.aload_n 0, 1) := by decide +kernel
theorem dX6_init_5 : decode cX6_init 5 = .ok (.new 7, 3) := by decide +kernel
theorem dX6_init_8 : decode cX6_init 8 = .ok (.dup, 1) := by decide +kernel
theorem dX6_init_9 : decode cX6_init 9 = .ok (.invokespecial 9, 3) := by decide +kernel
theorem dX6_init_12 : decode cX6_init 12 = .ok (.putfield 10, 3) := by decide +kernel
theorem dX6_init_15 : decode cX6_init 15 = .ok (.aload_n 0, 1) := by decide +kernel
theorem dX6_init_16 : decode cX6_init 16 = .ok (.new 7, 3) := by decide +kernel
theorem dX6_init_19 : decode cX6_init 19 = .ok (.dup, 1) := by decide +kernel
theorem dX6_init_20 : decode cX6_init 20 = .ok (.invokespecial 9, 3) := by decide +kernel
theorem dX6_init_23 : decode cX6_init 23 = .ok (.putfield 16, 3) := by decide +kernel
theorem dX6_init_26 : decode cX6_init 26 = .ok (.aload_n 0, 1) := by decide +kernel
theorem dX6_init_27 : decode cX6_init 27 = .ok (.new 7, 3) := by decide +kernel
theorem dX6_init_30 : decode cX6_init 30 = .ok (.dup, 1) := by decide +kernel
theorem dX6_init_31 : decode cX6_init 31 = .ok (.invokespecial 9, 3) := by decide +kernel
theorem dX6_init_34 : decode cX6_init 34 = .ok (.putfield 19, 3) := by decide +kernel
theorem dX6_init_37 : decode cX6_init 37 = .ok (.aload_n 0, 1) := by decide +kernel
theorem dX6_init_38 : decode cX6_init 38 = .ok (.new 22, 3) := by decide +kernel
theorem dX6_init_41 : decode cX6_init 41 = .ok (.dup, 1) := by decide +kernel
theorem dX6_init_42 : decode cX6_init 42 = .ok (.invokespecial 24, 3) := by decide +kernel
theorem dX6_init_45 : decode cX6_init 45 = .ok (.putfield 25, 3) := by decide +kernel
theorem dX6_init_48 : decode cX6_init 48 = .ok (.aload_n 0, 1) := by decide +kernel
theorem dX6_init_49 : decode cX6_init 49 = .ok (.new 29, 3) := by decide +kernel
theorem dX6_init_52 : decode cX6_init 52 = .ok (.dup, 1) := by decide +kernel
theorem dX6_init_53 : decode cX6_init 53 = .ok (.invokespecial 31, 3) := by decide +kernel
theorem dX6_init_56 : decode cX6_init 56 = .ok (.putfield 32, 3) := by decide +kernel
theorem dX6_init_59 : decode cX6_init 59 = .ok (.aload_n 0, 1) := by decide +kernel
theorem dX6_init_60 : decode cX6_init 60 = .ok (.iconst 0, 1) := by decide +kernel
theorem dX6_init_61 : decode cX6_init 61 = .ok (.putfield 36, 3) := by decide +kernel
theorem dX6_init_64 : decode cX6_init 64 = .ok (.return_, 1) := by decide +kernel
theorem dX6_guest_0 : decode cX6_guest 0 = .ok (.iload_n 1, 1) := by decide +kernel
theorem dX6_guest_1 : decode cX6_guest 1 = .ok (.invokestatic 40, 3) := by decide +kernel
theorem dX6_guest_4 : decode cX6_guest 4 = .ok (.ifCond .eq 13, 3) := by decide +kernel
theorem dX6_guest_7 : decode cX6_guest 7 = .ok (.iload_n 2, 1) := by decide +kernel
theorem dX6_guest_8 : decode cX6_guest 8 = .ok (.iconst 1, 1) := by decide +kernel
theorem dX6_guest_9 : decode cX6_guest 9 = .ok (.if_icmp .lt 8, 3) := by decide +kernel
theorem dX6_guest_12 : decode cX6_guest 12 = .ok (.iload_n 2, 1) := by decide +kernel
theorem dX6_guest_13 : decode cX6_guest 13 = .ok (.iconst 3, 1) := by decide +kernel
theorem dX6_guest_14 : decode cX6_guest 14 = .ok (.if_icmp .le 13, 3) := by decide +kernel
theorem dX6_guest_17 : decode cX6_guest 17 = .ok (.new 44, 3) := by decide +kernel
theorem dX6_guest_20 : decode cX6_guest 20 = .ok (.dup, 1) := by decide +kernel
theorem dX6_guest_21 : decode cX6_guest 21 = .ok (.ldc 46, 2) := by decide +kernel
theorem dX6_guest_23 : decode cX6_guest 23 = .ok (.invokespecial 48, 3) := by decide +kernel
theorem dX6_guest_26 : decode cX6_guest 26 = .ok (.athrow, 1) := by decide +kernel
theorem dX6_guest_27 : decode cX6_guest 27 = .ok (.aload_n 0, 1) := by decide +kernel
theorem dX6_guest_28 : decode cX6_guest 28 = .ok (.getfield 10, 3) := by decide +kernel
theorem dX6_guest_31 : decode cX6_guest 31 = .ok (.getfield 51, 3) := by decide +kernel
theorem dX6_guest_34 : decode cX6_guest 34 = .ok (.bipush 16, 2) := by decide +kernel
theorem dX6_guest_36 : decode cX6_guest 36 = .ok (.if_icmp .lt 13, 3) := by decide +kernel
theorem dX6_guest_39 : decode cX6_guest 39 = .ok (.new 55, 3) := by decide +kernel
theorem dX6_guest_42 : decode cX6_guest 42 = .ok (.dup, 1) := by decide +kernel
theorem dX6_guest_43 : decode cX6_guest 43 = .ok (.ldc 57, 2) := by decide +kernel
theorem dX6_guest_45 : decode cX6_guest 45 = .ok (.invokespecial 59, 3) := by decide +kernel
theorem dX6_guest_48 : decode cX6_guest 48 = .ok (.athrow, 1) := by decide +kernel
theorem dX6_guest_49 : decode cX6_guest 49 = .ok (.aload_n 0, 1) := by decide +kernel
theorem dX6_guest_50 : decode cX6_guest 50 = .ok (.getfield 25, 3) := by decide +kernel
theorem dX6_guest_53 : decode cX6_guest 53 = .ok (.aload_n 0, 1) := by decide +kernel
theorem dX6_guest_54 : decode cX6_guest 54 = .ok (.getfield 10, 3) := by decide +kernel
theorem dX6_guest_57 : decode cX6_guest 57 = .ok (.invokevirtual 60, 3) := by decide +kernel
theorem dX6_guest_60 : decode cX6_guest 60 = .ok (.aload_n 0, 1) := by decide +kernel
theorem dX6_guest_61 : decode cX6_guest 61 = .ok (.getfield 10, 3) := by decide +kernel
theorem dX6_guest_64 : decode cX6_guest 64 = .ok (.iload_n 1, 1) := by decide +kernel
theorem dX6_guest_65 : decode cX6_guest 65 = .ok (.iload_n 2, 1) := by decide +kernel
theorem dX6_guest_66 : decode cX6_guest 66 = .ok (.invokevirtual 64, 3) := by decide +kernel
theorem dX6_guest_69 : decode cX6_guest 69 = .ok (.ireturn, 1) := by decide +kernel
theorem dX6_wish_0 : decode cX6_wish 0 = .ok (.aload_n 0, 1) := by decide +kernel
theorem dX6_wish_1 : decode cX6_wish 1 = .ok (.iload_n 1, 1) := by decide +kernel
theorem dX6_wish_2 : decode cX6_wish 2 = .ok (.invokevirtual 68, 3) := by decide +kernel
theorem dX6_wish_5 : decode cX6_wish 5 = .ok (.iload_n 2, 1) := by decide +kernel
theorem dX6_wish_6 : decode cX6_wish 6 = .ok (.iconst (-1), 1) := by decide +kernel
theorem dX6_wish_7 : decode cX6_wish 7 = .ok (.if_icmp .eq 8, 3) := by decide +kernel
theorem dX6_wish_10 : decode cX6_wish 10 = .ok (.aload_n 0, 1) := by decide +kernel
theorem dX6_wish_11 : decode cX6_wish 11 = .ok (.iload_n 2, 1) := by decide +kernel
theorem dX6_wish_12 : decode cX6_wish 12 = .ok (.invokevirtual 68, 3) := by decide +kernel
theorem dX6_wish_15 : decode cX6_wish 15 = .ok (.iload_n 2, 1) := by decide +kernel
theorem dX6_wish_16 : decode cX6_wish 16 = .ok (.iload_n 1, 1) := by decide +kernel
theorem dX6_wish_17 : decode cX6_wish 17 = .ok (.if_icmp .ne 13, 3) := by decide +kernel
theorem dX6_wish_20 : decode cX6_wish 20 = .ok (.new 44, 3) := by decide +kernel
theorem dX6_wish_23 : decode cX6_wish 23 = .ok (.dup, 1) := by decide +kernel
theorem dX6_wish_24 : decode cX6_wish 24 = .ok (.ldc 72, 2) := by decide +kernel
theorem dX6_wish_26 : decode cX6_wish 26 = .ok (.invokespecial 48, 3) := by decide +kernel
theorem dX6_wish_29 : decode cX6_wish 29 = .ok (.athrow, 1) := by decide +kernel
theorem dX6_wish_30 : decode cX6_wish 30 = .ok (.aload_n 0, 1) := by decide +kernel
theorem dX6_wish_31 : decode cX6_wish 31 = .ok (.getfield 25, 3) := by decide +kernel
theorem dX6_wish_34 : decode cX6_wish 34 = .ok (.aload_n 0, 1) := by decide +kernel
theorem dX6_wish_35 : decode cX6_wish 35 = .ok (.getfield 10, 3) := by decide +kernel
theorem dX6_wish_38 : decode cX6_wish 38 = .ok (.invokevirtual 60, 3) := by decide +kernel
theorem dX6_wish_41 : decode cX6_wish 41 = .ok (.aload_n 0, 1) := by decide +kernel
theorem dX6_wish_42 : decode cX6_wish 42 = .ok (.getfield 10, 3) := by decide +kernel
theorem dX6_wish_45 : decode cX6_wish 45 = .ok (.getfield 74, 3) := by decide +kernel
theorem dX6_wish_48 : decode cX6_wish 48 = .ok (.iload_n 1, 1) := by decide +kernel
theorem dX6_wish_49 : decode cX6_wish 49 = .ok (.invokestatic 78, 3) := by decide +kernel
theorem dX6_wish_52 : decode cX6_wish 52 = .ok (.istore_n 3, 1) := by decide +kernel
theorem dX6_wish_53 : decode cX6_wish 53 = .ok (.aload_n 0, 1) := by decide +kernel
theorem dX6_wish_54 : decode cX6_wish 54 = .ok (.getfield 10, 3) := by decide +kernel
theorem dX6_wish_57 : decode cX6_wish 57 = .ok (.getfield 74, 3) := by decide +kernel
theorem dX6_wish_60 : decode cX6_wish 60 = .ok (.iload_n 1, 1) := by decide +kernel
theorem dX6_wish_61 : decode cX6_wish 61 = .ok (.iload_n 2, 1) := by decide +kernel
theorem dX6_wish_62 : decode cX6_wish 62 = .ok (.invokestatic 84, 3) := by decide +kernel
theorem dX6_wish_65 : decode cX6_wish 65 = .ok (.iload_n 3, 1) := by decide +kernel
theorem dX6_wish_66 : decode cX6_wish 66 = .ok (.ireturn, 1) := by decide +kernel
theorem dX6_table_0 : decode cX6_table 0 = .ok (.iload_n 1, 1) := by decide +kernel
theorem dX6_table_1 : decode cX6_table 1 = .ok (.iconst 3, 1) := by decide +kernel
theorem dX6_table_2 : decode cX6_table 2 = .ok (.if_icmp .lt 9, 3) := by decide +kernel
theorem dX6_table_5 : decode cX6_table 5 = .ok (.iload_n 1, 1) := by decide +kernel
theorem dX6_table_6 : decode cX6_table 6 = .ok (.bipush 8, 2) := by decide +kernel
theorem dX6_table_8 : decode cX6_table 8 = .ok (.if_icmp .le 13, 3) := by decide +kernel
theorem dX6_table_11 : decode cX6_table 11 = .ok (.new 44, 3) := by decide +kernel
theorem dX6_table_14 : decode cX6_table 14 = .ok (.dup, 1) := by decide +kernel
theorem dX6_table_15 : decode cX6_table 15 = .ok (.ldc 88, 2) := by decide +kernel
theorem dX6_table_17 : decode cX6_table 17 = .ok (.invokespecial 48, 3) := by decide +kernel
theorem dX6_table_20 : decode cX6_table 20 = .ok (.athrow, 1) := by decide +kernel
theorem dX6_table_21 : decode cX6_table 21 = .ok (.aload_n 0, 1) := by decide +kernel
theorem dX6_table_22 : decode cX6_table 22 = .ok (.getfield 10, 3) := by decide +kernel
theorem dX6_table_25 : decode cX6_table 25 = .ok (.getfield 90, 3) := by decide +kernel
theorem dX6_table_28 : decode cX6_table 28 = .ok (.iconst 4, 1) := by decide +kernel
theorem dX6_table_29 : decode cX6_table 29 = .ok (.if_icmp .lt 13, 3) := by decide +kernel
theorem dX6_table_32 : decode cX6_table 32 = .ok (.new 55, 3) := by decide +kernel
theorem dX6_table_35 : decode cX6_table 35 = .ok (.dup, 1) := by decide +kernel
theorem dX6_table_36 : decode cX6_table 36 = .ok (.ldc 93, 2) := by decide +kernel
theorem dX6_table_38 : decode cX6_table 38 = .ok (.invokespecial 59, 3) := by decide +kernel
theorem dX6_table_41 : decode cX6_table 41 = .ok (.athrow, 1) := by decide +kernel
theorem dX6_table_42 : decode cX6_table 42 = .ok (.aload_n 0, 1) := by decide +kernel
theorem dX6_table_43 : decode cX6_table 43 = .ok (.getfield 25, 3) := by decide +kernel
theorem dX6_table_46 : decode cX6_table 46 = .ok (.aload_n 0, 1) := by decide +kernel
theorem dX6_table_47 : decode cX6_table 47 = .ok (.getfield 10, 3) := by decide +kernel
theorem dX6_table_50 : decode cX6_table 50 = .ok (.invokevirtual 60, 3) := by decide +kernel
theorem dX6_table_53 : decode cX6_table 53 = .ok (.aload_n 0, 1) := by decide +kernel
theorem dX6_table_54 : decode cX6_table 54 = .ok (.getfield 10, 3) := by decide +kernel
theorem dX6_table_57 : decode cX6_table 57 = .ok (.iload_n 1, 1) := by decide +kernel
theorem dX6_table_58 : decode cX6_table 58 = .ok (.invokevirtual 95, 3) := by decide +kernel
theorem dX6_table_61 : decode cX6_table 61 = .ok (.ireturn, 1) := by decide +kernel
theorem dX6_feud_0 : decode cX6_feud 0 = .ok (.iload_n 1, 1) := by decide +kernel
theorem dX6_feud_1 : decode cX6_feud 1 = .ok (.iload_n 2, 1) := by decide +kernel
theorem dX6_feud_2 : decode cX6_feud 2 = .ok (.invokestatic 99, 3) := by decide +kernel
theorem dX6_feud_5 : decode cX6_feud 5 = .ok (.aload_n 0, 1) := by decide +kernel
theorem dX6_feud_6 : decode cX6_feud 6 = .ok (.getfield 10, 3) := by decide +kernel
theorem dX6_feud_9 : decode cX6_feud 9 = .ok (.iload_n 1, 1) := by decide +kernel
theorem dX6_feud_10 : decode cX6_feud 10 = .ok (.iload_n 2, 1) := by decide +kernel
theorem dX6_feud_11 : decode cX6_feud 11 = .ok (.invokevirtual 103, 3) := by decide +kernel
theorem dX6_feud_14 : decode cX6_feud 14 = .ok (.ifCond .ne 16, 3) := by decide +kernel
theorem dX6_feud_17 : decode cX6_feud 17 = .ok (.aload_n 0, 1) := by decide +kernel
theorem dX6_feud_18 : decode cX6_feud 18 = .ok (.getfield 10, 3) := by decide +kernel
theorem dX6_feud_21 : decode cX6_feud 21 = .ok (.getfield 107, 3) := by decide +kernel
theorem dX6_feud_24 : decode cX6_feud 24 = .ok (.invokevirtual 111, 3) := by decide +kernel
theorem dX6_feud_27 : decode cX6_feud 27 = .ok (.ifCond .eq 13, 3) := by decide +kernel
theorem dX6_feud_30 : decode cX6_feud 30 = .ok (.new 55, 3) := by decide +kernel
theorem dX6_feud_33 : decode cX6_feud 33 = .ok (.dup, 1) := by decide +kernel
theorem dX6_feud_34 : decode cX6_feud 34 = .ok (.ldc 117, 2) := by decide +kernel
theorem dX6_feud_36 : decode cX6_feud 36 = .ok (.invokespecial 59, 3) := by decide +kernel
theorem dX6_feud_39 : decode cX6_feud 39 = .ok (.athrow, 1) := by decide +kernel
theorem dX6_feud_40 : decode cX6_feud 40 = .ok (.aload_n 0, 1) := by decide +kernel
theorem dX6_feud_41 : decode cX6_feud 41 = .ok (.getfield 25, 3) := by decide +kernel
theorem dX6_feud_44 : decode cX6_feud 44 = .ok (.aload_n 0, 1) := by decide +kernel
theorem dX6_feud_45 : decode cX6_feud 45 = .ok (.getfield 10, 3) := by decide +kernel
theorem dX6_feud_48 : decode cX6_feud 48 = .ok (.invokevirtual 60, 3) := by decide +kernel
theorem dX6_feud_51 : decode cX6_feud 51 = .ok (.aload_n 0, 1) := by decide +kernel
theorem dX6_feud_52 : decode cX6_feud 52 = .ok (.getfield 10, 3) := by decide +kernel
theorem dX6_feud_55 : decode cX6_feud 55 = .ok (.iload_n 1, 1) := by decide +kernel
theorem dX6_feud_56 : decode cX6_feud 56 = .ok (.iload_n 2, 1) := by decide +kernel
theorem dX6_feud_57 : decode cX6_feud 57 = .ok (.invokevirtual 119, 3) := by decide +kernel
theorem dX6_feud_60 : decode cX6_feud 60 = .ok (.ireturn, 1) := by decide +kernel
theorem dX6_peace_0 : decode cX6_peace 0 = .ok (.iload_n 1, 1) := by decide +kernel
theorem dX6_peace_1 : decode cX6_peace 1 = .ok (.iload_n 2, 1) := by decide +kernel
theorem dX6_peace_2 : decode cX6_peace 2 = .ok (.invokestatic 99, 3) := by decide +kernel
theorem dX6_peace_5 : decode cX6_peace 5 = .ok (.aload_n 0, 1) := by decide +kernel
theorem dX6_peace_6 : decode cX6_peace 6 = .ok (.getfield 10, 3) := by decide +kernel
theorem dX6_peace_9 : decode cX6_peace 9 = .ok (.iload_n 1, 1) := by decide +kernel
theorem dX6_peace_10 : decode cX6_peace 10 = .ok (.iload_n 2, 1) := by decide +kernel
theorem dX6_peace_11 : decode cX6_peace 11 = .ok (.invokevirtual 103, 3) := by decide +kernel
theorem dX6_peace_14 : decode cX6_peace 14 = .ok (.ifCond .ne 13, 3) := by decide +kernel
theorem dX6_peace_17 : decode cX6_peace 17 = .ok (.new 55, 3) := by decide +kernel
theorem dX6_peace_20 : decode cX6_peace 20 = .ok (.dup, 1) := by decide +kernel
theorem dX6_peace_21 : decode cX6_peace 21 = .ok (.ldc 122, 2) := by decide +kernel
theorem dX6_peace_23 : decode cX6_peace 23 = .ok (.invokespecial 59, 3) := by decide +kernel
theorem dX6_peace_26 : decode cX6_peace 26 = .ok (.athrow, 1) := by decide +kernel
theorem dX6_peace_27 : decode cX6_peace 27 = .ok (.aload_n 0, 1) := by decide +kernel
theorem dX6_peace_28 : decode cX6_peace 28 = .ok (.getfield 25, 3) := by decide +kernel
theorem dX6_peace_31 : decode cX6_peace 31 = .ok (.aload_n 0, 1) := by decide +kernel
theorem dX6_peace_32 : decode cX6_peace 32 = .ok (.getfield 10, 3) := by decide +kernel
theorem dX6_peace_35 : decode cX6_peace 35 = .ok (.invokevirtual 60, 3) := by decide +kernel
theorem dX6_peace_38 : decode cX6_peace 38 = .ok (.aload_n 0, 1) := by decide +kernel
theorem dX6_peace_39 : decode cX6_peace 39 = .ok (.getfield 10, 3) := by decide +kernel
theorem dX6_peace_42 : decode cX6_peace 42 = .ok (.getfield 107, 3) := by decide +kernel
theorem dX6_peace_45 : decode cX6_peace 45 = .ok (.iload_n 1, 1) := by decide +kernel
theorem dX6_peace_46 : decode cX6_peace 46 = .ok (.iload_n 2, 1) := by decide +kernel
theorem dX6_peace_47 : decode cX6_peace 47 = .ok (.invokestatic 124, 3) := by decide +kernel
theorem dX6_peace_50 : decode cX6_peace 50 = .ok (.invokevirtual 127, 3) := by decide +kernel
theorem dX6_peace_53 : decode cX6_peace 53 = .ok (.aload_n 0, 1) := by decide +kernel
theorem dX6_peace_54 : decode cX6_peace 54 = .ok (.getfield 10, 3) := by decide +kernel
theorem dX6_peace_57 : decode cX6_peace 57 = .ok (.getfield 107, 3) := by decide +kernel
theorem dX6_peace_60 : decode cX6_peace 60 = .ok (.invokevirtual 130, 3) := by decide +kernel
theorem dX6_peace_63 : decode cX6_peace 63 = .ok (.ireturn, 1) := by decide +kernel
theorem dX6_set_0 : decode cX6_set 0 = .ok (.iload_n 1, 1) := by decide +kernel
theorem dX6_set_1 : decode cX6_set 1 = .ok (.ifCond .lt 8, 3) := by decide +kernel
theorem dX6_set_4 : decode cX6_set 4 = .ok (.iload_n 1, 1) := by decide +kernel
theorem dX6_set_5 : decode cX6_set 5 = .ok (.iconst 4, 1) := by decide +kernel
theorem dX6_set_6 : decode cX6_set 6 = .ok (.if_icmp .lt 13, 3) := by decide +kernel
theorem dX6_set_9 : decode cX6_set 9 = .ok (.new 134, 3) := by decide +kernel
theorem dX6_set_12 : decode cX6_set 12 = .ok (.dup, 1) := by decide +kernel
theorem dX6_set_13 : decode cX6_set 13 = .ok (.ldc 136, 2) := by decide +kernel
theorem dX6_set_15 : decode cX6_set 15 = .ok (.invokespecial 138, 3) := by decide +kernel
theorem dX6_set_18 : decode cX6_set 18 = .ok (.athrow, 1) := by decide +kernel
theorem dX6_set_19 : decode cX6_set 19 = .ok (.iload_n 2, 1) := by decide +kernel
theorem dX6_set_20 : decode cX6_set 20 = .ok (.getstatic 139, 3) := by decide +kernel
theorem dX6_set_23 : decode cX6_set 23 = .ok (.iload_n 1, 1) := by decide +kernel
theorem dX6_set_24 : decode cX6_set 24 = .ok (.invokestatic 78, 3) := by decide +kernel
theorem dX6_set_27 : decode cX6_set 27 = .ok (.if_icmp .lt 14, 3) := by decide +kernel
theorem dX6_set_30 : decode cX6_set 30 = .ok (.iload_n 2, 1) := by decide +kernel
theorem dX6_set_31 : decode cX6_set 31 = .ok (.getstatic 142, 3) := by decide +kernel
theorem dX6_set_34 : decode cX6_set 34 = .ok (.iload_n 1, 1) := by decide +kernel
theorem dX6_set_35 : decode cX6_set 35 = .ok (.invokestatic 78, 3) := by decide +kernel
theorem dX6_set_38 : decode cX6_set 38 = .ok (.if_icmp .le 13, 3) := by decide +kernel
theorem dX6_set_41 : decode cX6_set 41 = .ok (.new 44, 3) := by decide +kernel
theorem dX6_set_44 : decode cX6_set 44 = .ok (.dup, 1) := by decide +kernel
theorem dX6_set_45 : decode cX6_set 45 = .ok (.ldc 145, 2) := by decide +kernel
theorem dX6_set_47 : decode cX6_set 47 = .ok (.invokespecial 48, 3) := by decide +kernel
theorem dX6_set_50 : decode cX6_set 50 = .ok (.athrow, 1) := by decide +kernel
theorem dX6_set_51 : decode cX6_set 51 = .ok (.aload_n 0, 1) := by decide +kernel
theorem dX6_set_52 : decode cX6_set 52 = .ok (.getfield 25, 3) := by decide +kernel
theorem dX6_set_55 : decode cX6_set 55 = .ok (.aload_n 0, 1) := by decide +kernel
theorem dX6_set_56 : decode cX6_set 56 = .ok (.getfield 10, 3) := by decide +kernel
theorem dX6_set_59 : decode cX6_set 59 = .ok (.invokevirtual 60, 3) := by decide +kernel
theorem dX6_set_62 : decode cX6_set 62 = .ok (.aload_n 0, 1) := by decide +kernel
theorem dX6_set_63 : decode cX6_set 63 = .ok (.getfield 10, 3) := by decide +kernel
theorem dX6_set_66 : decode cX6_set 66 = .ok (.getfield 147, 3) := by decide +kernel
theorem dX6_set_69 : decode cX6_set 69 = .ok (.iload_n 1, 1) := by decide +kernel
theorem dX6_set_70 : decode cX6_set 70 = .ok (.invokestatic 78, 3) := by decide +kernel
theorem dX6_set_73 : decode cX6_set 73 = .ok (.istore_n 3, 1) := by decide +kernel
theorem dX6_set_74 : decode cX6_set 74 = .ok (.aload_n 0, 1) := by decide +kernel
theorem dX6_set_75 : decode cX6_set 75 = .ok (.getfield 10, 3) := by decide +kernel
theorem dX6_set_78 : decode cX6_set 78 = .ok (.getfield 147, 3) := by decide +kernel
theorem dX6_set_81 : decode cX6_set 81 = .ok (.iload_n 1, 1) := by decide +kernel
theorem dX6_set_82 : decode cX6_set 82 = .ok (.iload_n 2, 1) := by decide +kernel
theorem dX6_set_83 : decode cX6_set 83 = .ok (.invokestatic 84, 3) := by decide +kernel
theorem dX6_set_86 : decode cX6_set 86 = .ok (.iload_n 3, 1) := by decide +kernel
theorem dX6_set_87 : decode cX6_set 87 = .ok (.ireturn, 1) := by decide +kernel
theorem dX6_sit_0 : decode cX6_sit 0 = .ok (.aload_n 0, 1) := by decide +kernel
theorem dX6_sit_1 : decode cX6_sit 1 = .ok (.iload_n 1, 1) := by decide +kernel
theorem dX6_sit_2 : decode cX6_sit 2 = .ok (.iload_n 2, 1) := by decide +kernel
theorem dX6_sit_3 : decode cX6_sit 3 = .ok (.iload_n 3, 1) := by decide +kernel
theorem dX6_sit_4 : decode cX6_sit 4 = .ok (.invokevirtual 150, 3) := by decide +kernel
theorem dX6_sit_7 : decode cX6_sit 7 = .ok (.aload_n 0, 1) := by decide +kernel
theorem dX6_sit_8 : decode cX6_sit 8 = .ok (.getfield 10, 3) := by decide +kernel
theorem dX6_sit_11 : decode cX6_sit 11 = .ok (.iload_n 1, 1) := by decide +kernel
theorem dX6_sit_12 : decode cX6_sit 12 = .ok (.iload_n 2, 1) := by decide +kernel
theorem dX6_sit_13 : decode cX6_sit 13 = .ok (.iload_n 3, 1) := by decide +kernel
theorem dX6_sit_14 : decode cX6_sit 14 = .ok (.invokevirtual 154, 3) := by decide +kernel
theorem dX6_sit_17 : decode cX6_sit 17 = .ok (.ifCond .eq 13, 3) := by decide +kernel
theorem dX6_sit_20 : decode cX6_sit 20 = .ok (.new 55, 3) := by decide +kernel
theorem dX6_sit_23 : decode cX6_sit 23 = .ok (.dup, 1) := by decide +kernel
theorem dX6_sit_24 : decode cX6_sit 24 = .ok (.ldc 158, 2) := by decide +kernel
theorem dX6_sit_26 : decode cX6_sit 26 = .ok (.invokespecial 59, 3) := by decide +kernel
theorem dX6_sit_29 : decode cX6_sit 29 = .ok (.athrow, 1) := by decide +kernel
theorem dX6_sit_30 : decode cX6_sit 30 = .ok (.aload_n 0, 1) := by decide +kernel
theorem dX6_sit_31 : decode cX6_sit 31 = .ok (.getfield 25, 3) := by decide +kernel
theorem dX6_sit_34 : decode cX6_sit 34 = .ok (.aload_n 0, 1) := by decide +kernel
theorem dX6_sit_35 : decode cX6_sit 35 = .ok (.getfield 10, 3) := by decide +kernel
theorem dX6_sit_38 : decode cX6_sit 38 = .ok (.invokevirtual 60, 3) := by decide +kernel
theorem dX6_sit_41 : decode cX6_sit 41 = .ok (.aload_n 0, 1) := by decide +kernel
theorem dX6_sit_42 : decode cX6_sit 42 = .ok (.getfield 10, 3) := by decide +kernel
theorem dX6_sit_45 : decode cX6_sit 45 = .ok (.iload_n 1, 1) := by decide +kernel
theorem dX6_sit_46 : decode cX6_sit 46 = .ok (.iload_n 2, 1) := by decide +kernel
theorem dX6_sit_47 : decode cX6_sit 47 = .ok (.iload_n 3, 1) := by decide +kernel
theorem dX6_sit_48 : decode cX6_sit 48 = .ok (.invokevirtual 160, 3) := by decide +kernel
theorem dX6_sit_51 : decode cX6_sit 51 = .ok (.aload_n 0, 1) := by decide +kernel
theorem dX6_sit_52 : decode cX6_sit 52 = .ok (.getfield 10, 3) := by decide +kernel
theorem dX6_sit_55 : decode cX6_sit 55 = .ok (.invokestatic 163, 3) := by decide +kernel
theorem dX6_sit_58 : decode cX6_sit 58 = .ok (.ireturn, 1) := by decide +kernel
theorem dX6_rise_0 : decode cX6_rise 0 = .ok (.aload_n 0, 1) := by decide +kernel
theorem dX6_rise_1 : decode cX6_rise 1 = .ok (.iload_n 1, 1) := by decide +kernel
theorem dX6_rise_2 : decode cX6_rise 2 = .ok (.invokevirtual 68, 3) := by decide +kernel
theorem dX6_rise_5 : decode cX6_rise 5 = .ok (.aload_n 0, 1) := by decide +kernel
theorem dX6_rise_6 : decode cX6_rise 6 = .ok (.getfield 10, 3) := by decide +kernel
theorem dX6_rise_9 : decode cX6_rise 9 = .ok (.iload_n 1, 1) := by decide +kernel
theorem dX6_rise_10 : decode cX6_rise 10 = .ok (.invokevirtual 169, 3) := by decide +kernel
theorem dX6_rise_13 : decode cX6_rise 13 = .ok (.ifCond .ne 13, 3) := by decide +kernel
theorem dX6_rise_16 : decode cX6_rise 16 = .ok (.new 55, 3) := by decide +kernel
theorem dX6_rise_19 : decode cX6_rise 19 = .ok (.dup, 1) := by decide +kernel
theorem dX6_rise_20 : decode cX6_rise 20 = .ok (.ldc 172, 2) := by decide +kernel
theorem dX6_rise_22 : decode cX6_rise 22 = .ok (.invokespecial 59, 3) := by decide +kernel
theorem dX6_rise_25 : decode cX6_rise 25 = .ok (.athrow, 1) := by decide +kernel
theorem dX6_rise_26 : decode cX6_rise 26 = .ok (.aload_n 0, 1) := by decide +kernel
theorem dX6_rise_27 : decode cX6_rise 27 = .ok (.getfield 25, 3) := by decide +kernel
theorem dX6_rise_30 : decode cX6_rise 30 = .ok (.aload_n 0, 1) := by decide +kernel
theorem dX6_rise_31 : decode cX6_rise 31 = .ok (.getfield 10, 3) := by decide +kernel
theorem dX6_rise_34 : decode cX6_rise 34 = .ok (.invokevirtual 60, 3) := by decide +kernel
theorem dX6_rise_37 : decode cX6_rise 37 = .ok (.aload_n 0, 1) := by decide +kernel
theorem dX6_rise_38 : decode cX6_rise 38 = .ok (.getfield 10, 3) := by decide +kernel
theorem dX6_rise_41 : decode cX6_rise 41 = .ok (.iload_n 1, 1) := by decide +kernel
theorem dX6_rise_42 : decode cX6_rise 42 = .ok (.invokevirtual 174, 3) := by decide +kernel
theorem dX6_rise_45 : decode cX6_rise 45 = .ok (.aload_n 0, 1) := by decide +kernel
theorem dX6_rise_46 : decode cX6_rise 46 = .ok (.getfield 10, 3) := by decide +kernel
theorem dX6_rise_49 : decode cX6_rise 49 = .ok (.invokestatic 163, 3) := by decide +kernel
theorem dX6_rise_52 : decode cX6_rise 52 = .ok (.ireturn, 1) := by decide +kernel
theorem dX6_seatAll_0 : decode cX6_seatAll 0 = .ok (.aload_n 0, 1) := by decide +kernel
theorem dX6_seatAll_1 : decode cX6_seatAll 1 = .ok (.getfield 25, 3) := by decide +kernel
theorem dX6_seatAll_4 : decode cX6_seatAll 4 = .ok (.aload_n 0, 1) := by decide +kernel
theorem dX6_seatAll_5 : decode cX6_seatAll 5 = .ok (.getfield 10, 3) := by decide +kernel
theorem dX6_seatAll_8 : decode cX6_seatAll 8 = .ok (.invokevirtual 60, 3) := by decide +kernel
theorem dX6_seatAll_11 : decode cX6_seatAll 11 = .ok (.aload_n 0, 1) := by decide +kernel
theorem dX6_seatAll_12 : decode cX6_seatAll 12 = .ok (.getfield 10, 3) := by decide +kernel
theorem dX6_seatAll_15 : decode cX6_seatAll 15 = .ok (.invokevirtual 187, 3) := by decide +kernel
theorem dX6_seatAll_18 : decode cX6_seatAll 18 = .ok (.ireturn, 1) := by decide +kernel
theorem dX6_told_0 : decode cX6_told 0 = .ok (.aload_n 0, 1) := by decide +kernel
theorem dX6_told_1 : decode cX6_told 1 = .ok (.iload_n 1, 1) := by decide +kernel
theorem dX6_told_2 : decode cX6_told 2 = .ok (.invokevirtual 214, 3) := by decide +kernel
theorem dX6_told_5 : decode cX6_told 5 = .ok (.iload_n 2, 1) := by decide +kernel
theorem dX6_told_6 : decode cX6_told 6 = .ok (.ifCond .ge 13, 3) := by decide +kernel
theorem dX6_told_9 : decode cX6_told 9 = .ok (.new 44, 3) := by decide +kernel
theorem dX6_told_12 : decode cX6_told 12 = .ok (.dup, 1) := by decide +kernel
theorem dX6_told_13 : decode cX6_told 13 = .ok (.ldc 217, 2) := by decide +kernel
theorem dX6_told_15 : decode cX6_told 15 = .ok (.invokespecial 48, 3) := by decide +kernel
theorem dX6_told_18 : decode cX6_told 18 = .ok (.athrow, 1) := by decide +kernel
theorem dX6_told_19 : decode cX6_told 19 = .ok (.aload_n 0, 1) := by decide +kernel
theorem dX6_told_20 : decode cX6_told 20 = .ok (.getfield 10, 3) := by decide +kernel
theorem dX6_told_23 : decode cX6_told 23 = .ok (.iload_n 1, 1) := by decide +kernel
theorem dX6_told_24 : decode cX6_told 24 = .ok (.iload_n 2, 1) := by decide +kernel
theorem dX6_told_25 : decode cX6_told 25 = .ok (.invokevirtual 219, 3) := by decide +kernel
theorem dX6_told_28 : decode cX6_told 28 = .ok (.ireturn, 1) := by decide +kernel
theorem dX6_undo_0 : decode cX6_undo 0 = .ok (.aload_n 0, 1) := by decide +kernel
theorem dX6_undo_1 : decode cX6_undo 1 = .ok (.getfield 25, 3) := by decide +kernel
theorem dX6_undo_4 : decode cX6_undo 4 = .ok (.invokevirtual 222, 3) := by decide +kernel
theorem dX6_undo_7 : decode cX6_undo 7 = .ok (.ifCond .ne 13, 3) := by decide +kernel
theorem dX6_undo_10 : decode cX6_undo 10 = .ok (.new 55, 3) := by decide +kernel
theorem dX6_undo_13 : decode cX6_undo 13 = .ok (.dup, 1) := by decide +kernel
theorem dX6_undo_14 : decode cX6_undo 14 = .ok (.ldc 223, 2) := by decide +kernel
theorem dX6_undo_16 : decode cX6_undo 16 = .ok (.invokespecial 59, 3) := by decide +kernel
theorem dX6_undo_19 : decode cX6_undo 19 = .ok (.athrow, 1) := by decide +kernel
theorem dX6_undo_20 : decode cX6_undo 20 = .ok (.aload_n 0, 1) := by decide +kernel
theorem dX6_undo_21 : decode cX6_undo 21 = .ok (.getfield 25, 3) := by decide +kernel
theorem dX6_undo_24 : decode cX6_undo 24 = .ok (.aload_n 0, 1) := by decide +kernel
theorem dX6_undo_25 : decode cX6_undo 25 = .ok (.getfield 10, 3) := by decide +kernel
theorem dX6_undo_28 : decode cX6_undo 28 = .ok (.invokevirtual 225, 3) := by decide +kernel
theorem dX6_undo_31 : decode cX6_undo 31 = .ok (.aload_n 0, 1) := by decide +kernel
theorem dX6_undo_32 : decode cX6_undo 32 = .ok (.getfield 25, 3) := by decide +kernel
theorem dX6_undo_35 : decode cX6_undo 35 = .ok (.invokevirtual 222, 3) := by decide +kernel
theorem dX6_undo_38 : decode cX6_undo 38 = .ok (.ireturn, 1) := by decide +kernel
theorem dX6_keep_0 : decode cX6_keep 0 = .ok (.aload_n 0, 1) := by decide +kernel
theorem dX6_keep_1 : decode cX6_keep 1 = .ok (.getfield 19, 3) := by decide +kernel
theorem dX6_keep_4 : decode cX6_keep 4 = .ok (.aload_n 0, 1) := by decide +kernel
theorem dX6_keep_5 : decode cX6_keep 5 = .ok (.getfield 10, 3) := by decide +kernel
theorem dX6_keep_8 : decode cX6_keep 8 = .ok (.invokevirtual 179, 3) := by decide +kernel
theorem dX6_keep_11 : decode cX6_keep 11 = .ok (.aload_n 0, 1) := by decide +kernel
theorem dX6_keep_12 : decode cX6_keep 12 = .ok (.iconst 1, 1) := by decide +kernel
theorem dX6_keep_13 : decode cX6_keep 13 = .ok (.putfield 36, 3) := by decide +kernel
theorem dX6_keep_16 : decode cX6_keep 16 = .ok (.aload_n 0, 1) := by decide +kernel
theorem dX6_keep_17 : decode cX6_keep 17 = .ok (.getfield 10, 3) := by decide +kernel
theorem dX6_keep_20 : decode cX6_keep 20 = .ok (.getfield 228, 3) := by decide +kernel
theorem dX6_keep_23 : decode cX6_keep 23 = .ok (.invokevirtual 130, 3) := by decide +kernel
theorem dX6_keep_26 : decode cX6_keep 26 = .ok (.ireturn, 1) := by decide +kernel
theorem dX6_restore_0 : decode cX6_restore 0 = .ok (.aload_n 0, 1) := by decide +kernel
theorem dX6_restore_1 : decode cX6_restore 1 = .ok (.getfield 36, 3) := by decide +kernel
theorem dX6_restore_4 : decode cX6_restore 4 = .ok (.ifCond .ne 13, 3) := by decide +kernel
theorem dX6_restore_7 : decode cX6_restore 7 = .ok (.new 55, 3) := by decide +kernel
theorem dX6_restore_10 : decode cX6_restore 10 = .ok (.dup, 1) := by decide +kernel
theorem dX6_restore_11 : decode cX6_restore 11 = .ok (.ldc 231, 2) := by decide +kernel
theorem dX6_restore_13 : decode cX6_restore 13 = .ok (.invokespecial 59, 3) := by decide +kernel
theorem dX6_restore_16 : decode cX6_restore 16 = .ok (.athrow, 1) := by decide +kernel
theorem dX6_restore_17 : decode cX6_restore 17 = .ok (.aload_n 0, 1) := by decide +kernel
theorem dX6_restore_18 : decode cX6_restore 18 = .ok (.getfield 25, 3) := by decide +kernel
theorem dX6_restore_21 : decode cX6_restore 21 = .ok (.aload_n 0, 1) := by decide +kernel
theorem dX6_restore_22 : decode cX6_restore 22 = .ok (.getfield 10, 3) := by decide +kernel
theorem dX6_restore_25 : decode cX6_restore 25 = .ok (.invokevirtual 60, 3) := by decide +kernel
theorem dX6_restore_28 : decode cX6_restore 28 = .ok (.aload_n 0, 1) := by decide +kernel
theorem dX6_restore_29 : decode cX6_restore 29 = .ok (.getfield 10, 3) := by decide +kernel
theorem dX6_restore_32 : decode cX6_restore 32 = .ok (.aload_n 0, 1) := by decide +kernel
theorem dX6_restore_33 : decode cX6_restore 33 = .ok (.getfield 19, 3) := by decide +kernel
theorem dX6_restore_36 : decode cX6_restore 36 = .ok (.invokevirtual 179, 3) := by decide +kernel
theorem dX6_restore_39 : decode cX6_restore 39 = .ok (.aload_n 0, 1) := by decide +kernel
theorem dX6_restore_40 : decode cX6_restore 40 = .ok (.getfield 10, 3) := by decide +kernel
theorem dX6_restore_43 : decode cX6_restore 43 = .ok (.getfield 228, 3) := by decide +kernel
theorem dX6_restore_46 : decode cX6_restore 46 = .ok (.invokevirtual 130, 3) := by decide +kernel
theorem dX6_restore_49 : decode cX6_restore 49 = .ok (.ireturn, 1) := by decide +kernel
theorem dX6_guestOf_0 : decode cX6_guestOf 0 = .ok (.aload_n 0, 1) := by decide +kernel
theorem dX6_guestOf_1 : decode cX6_guestOf 1 = .ok (.iload_n 1, 1) := by decide +kernel
theorem dX6_guestOf_2 : decode cX6_guestOf 2 = .ok (.invokevirtual 68, 3) := by decide +kernel
theorem dX6_guestOf_5 : decode cX6_guestOf 5 = .ok (.iload_n 2, 1) := by decide +kernel
theorem dX6_guestOf_6 : decode cX6_guestOf 6 = .ok (.ifCond .lt 9, 3) := by decide +kernel
theorem dX6_guestOf_9 : decode cX6_guestOf 9 = .ok (.iload_n 2, 1) := by decide +kernel
theorem dX6_guestOf_10 : decode cX6_guestOf 10 = .ok (.bipush 7, 2) := by decide +kernel
theorem dX6_guestOf_12 : decode cX6_guestOf 12 = .ok (.if_icmp .lt 13, 3) := by decide +kernel
theorem dX6_guestOf_15 : decode cX6_guestOf 15 = .ok (.new 44, 3) := by decide +kernel
theorem dX6_guestOf_18 : decode cX6_guestOf 18 = .ok (.dup, 1) := by decide +kernel
theorem dX6_guestOf_19 : decode cX6_guestOf 19 = .ok (.ldc 233, 2) := by decide +kernel
theorem dX6_guestOf_21 : decode cX6_guestOf 21 = .ok (.invokespecial 48, 3) := by decide +kernel
theorem dX6_guestOf_24 : decode cX6_guestOf 24 = .ok (.athrow, 1) := by decide +kernel
theorem dX6_guestOf_25 : decode cX6_guestOf 25 = .ok (.aload_n 0, 1) := by decide +kernel
theorem dX6_guestOf_26 : decode cX6_guestOf 26 = .ok (.iload_n 1, 1) := by decide +kernel
theorem dX6_guestOf_27 : decode cX6_guestOf 27 = .ok (.iload_n 2, 1) := by decide +kernel
theorem dX6_guestOf_28 : decode cX6_guestOf 28 = .ok (.invokevirtual 235, 3) := by decide +kernel
theorem dX6_guestOf_31 : decode cX6_guestOf 31 = .ok (.ireturn, 1) := by decide +kernel
theorem dX6_tableOf_0 : decode cX6_tableOf 0 = .ok (.aload_n 0, 1) := by decide +kernel
theorem dX6_tableOf_1 : decode cX6_tableOf 1 = .ok (.iload_n 1, 1) := by decide +kernel
theorem dX6_tableOf_2 : decode cX6_tableOf 2 = .ok (.invokevirtual 214, 3) := by decide +kernel
theorem dX6_tableOf_5 : decode cX6_tableOf 5 = .ok (.iload_n 2, 1) := by decide +kernel
theorem dX6_tableOf_6 : decode cX6_tableOf 6 = .ok (.ifCond .lt 8, 3) := by decide +kernel
theorem dX6_tableOf_9 : decode cX6_tableOf 9 = .ok (.iload_n 2, 1) := by decide +kernel
theorem dX6_tableOf_10 : decode cX6_tableOf 10 = .ok (.iconst 5, 1) := by decide +kernel
theorem dX6_tableOf_11 : decode cX6_tableOf 11 = .ok (.if_icmp .lt 13, 3) := by decide +kernel
theorem dX6_tableOf_14 : decode cX6_tableOf 14 = .ok (.new 44, 3) := by decide +kernel
theorem dX6_tableOf_17 : decode cX6_tableOf 17 = .ok (.dup, 1) := by decide +kernel
theorem dX6_tableOf_18 : decode cX6_tableOf 18 = .ok (.ldc 238, 2) := by decide +kernel
theorem dX6_tableOf_20 : decode cX6_tableOf 20 = .ok (.invokespecial 48, 3) := by decide +kernel
theorem dX6_tableOf_23 : decode cX6_tableOf 23 = .ok (.athrow, 1) := by decide +kernel
theorem dX6_tableOf_24 : decode cX6_tableOf 24 = .ok (.aload_n 0, 1) := by decide +kernel
theorem dX6_tableOf_25 : decode cX6_tableOf 25 = .ok (.iload_n 1, 1) := by decide +kernel
theorem dX6_tableOf_26 : decode cX6_tableOf 26 = .ok (.iload_n 2, 1) := by decide +kernel
theorem dX6_tableOf_27 : decode cX6_tableOf 27 = .ok (.invokevirtual 240, 3) := by decide +kernel
theorem dX6_tableOf_30 : decode cX6_tableOf 30 = .ok (.ireturn, 1) := by decide +kernel
theorem dX6_who_0 : decode cX6_who 0 = .ok (.aload_n 0, 1) := by decide +kernel
theorem dX6_who_1 : decode cX6_who 1 = .ok (.iload_n 1, 1) := by decide +kernel
theorem dX6_who_2 : decode cX6_who 2 = .ok (.iload_n 2, 1) := by decide +kernel
theorem dX6_who_3 : decode cX6_who 3 = .ok (.invokevirtual 243, 3) := by decide +kernel
theorem dX6_who_6 : decode cX6_who 6 = .ok (.aload_n 0, 1) := by decide +kernel
theorem dX6_who_7 : decode cX6_who 7 = .ok (.getfield 10, 3) := by decide +kernel
theorem dX6_who_10 : decode cX6_who 10 = .ok (.iload_n 1, 1) := by decide +kernel
theorem dX6_who_11 : decode cX6_who 11 = .ok (.iload_n 2, 1) := by decide +kernel
theorem dX6_who_12 : decode cX6_who 12 = .ok (.invokevirtual 246, 3) := by decide +kernel
theorem dX6_who_15 : decode cX6_who 15 = .ok (.ireturn, 1) := by decide +kernel
theorem dX6_seated_0 : decode cX6_seated 0 = .ok (.iload_n 1, 1) := by decide +kernel
theorem dX6_seated_1 : decode cX6_seated 1 = .ok (.invokestatic 249, 3) := by decide +kernel
theorem dX6_seated_4 : decode cX6_seated 4 = .ok (.aload_n 0, 1) := by decide +kernel
theorem dX6_seated_5 : decode cX6_seated 5 = .ok (.getfield 10, 3) := by decide +kernel
theorem dX6_seated_8 : decode cX6_seated 8 = .ok (.getfield 228, 3) := by decide +kernel
theorem dX6_seated_11 : decode cX6_seated 11 = .ok (.iload_n 1, 1) := by decide +kernel
theorem dX6_seated_12 : decode cX6_seated 12 = .ok (.invokevirtual 252, 3) := by decide +kernel
theorem dX6_seated_15 : decode cX6_seated 15 = .ok (.ireturn, 1) := by decide +kernel
theorem dX6_feudAt_0 : decode cX6_feudAt 0 = .ok (.iload_n 1, 1) := by decide +kernel
theorem dX6_feudAt_1 : decode cX6_feudAt 1 = .ok (.invokestatic 249, 3) := by decide +kernel
theorem dX6_feudAt_4 : decode cX6_feudAt 4 = .ok (.aload_n 0, 1) := by decide +kernel
theorem dX6_feudAt_5 : decode cX6_feudAt 5 = .ok (.getfield 10, 3) := by decide +kernel
theorem dX6_feudAt_8 : decode cX6_feudAt 8 = .ok (.getfield 107, 3) := by decide +kernel
theorem dX6_feudAt_11 : decode cX6_feudAt 11 = .ok (.iload_n 1, 1) := by decide +kernel
theorem dX6_feudAt_12 : decode cX6_feudAt 12 = .ok (.invokevirtual 252, 3) := by decide +kernel
theorem dX6_feudAt_15 : decode cX6_feudAt 15 = .ok (.ireturn, 1) := by decide +kernel
theorem dX6_count_0 : decode cX6_count 0 = .ok (.iload_n 1, 1) := by decide +kernel
theorem dX6_count_1 : decode cX6_count 1 = .ok (.ifCond .lt 9, 3) := by decide +kernel
theorem dX6_count_4 : decode cX6_count 4 = .ok (.iload_n 1, 1) := by decide +kernel
theorem dX6_count_5 : decode cX6_count 5 = .ok (.bipush 14, 2) := by decide +kernel
theorem dX6_count_7 : decode cX6_count 7 = .ok (.if_icmp .lt 13, 3) := by decide +kernel
theorem dX6_count_10 : decode cX6_count 10 = .ok (.new 44, 3) := by decide +kernel
theorem dX6_count_13 : decode cX6_count 13 = .ok (.dup, 1) := by decide +kernel
theorem dX6_count_14 : decode cX6_count 14 = .ok (.ldc 255, 2) := by decide +kernel
theorem dX6_count_16 : decode cX6_count 16 = .ok (.invokespecial 48, 3) := by decide +kernel
theorem dX6_count_19 : decode cX6_count 19 = .ok (.athrow, 1) := by decide +kernel
theorem dX6_count_20 : decode cX6_count 20 = .ok (.aload_n 0, 1) := by decide +kernel
theorem dX6_count_21 : decode cX6_count 21 = .ok (.iload_n 1, 1) := by decide +kernel
theorem dX6_count_22 : decode cX6_count 22 = .ok (.invokevirtual 257, 3) := by decide +kernel
theorem dX6_count_25 : decode cX6_count 25 = .ok (.ireturn, 1) := by decide +kernel
theorem dX6_whyNot_0 : decode cX6_whyNot 0 = .ok (.aload_n 0, 1) := by decide +kernel
theorem dX6_whyNot_1 : decode cX6_whyNot 1 = .ok (.iload_n 1, 1) := by decide +kernel
theorem dX6_whyNot_2 : decode cX6_whyNot 2 = .ok (.iload_n 2, 1) := by decide +kernel
theorem dX6_whyNot_3 : decode cX6_whyNot 3 = .ok (.iload_n 3, 1) := by decide +kernel
theorem dX6_whyNot_4 : decode cX6_whyNot 4 = .ok (.invokevirtual 150, 3) := by decide +kernel
theorem dX6_whyNot_7 : decode cX6_whyNot 7 = .ok (.aload_n 0, 1) := by decide +kernel
theorem dX6_whyNot_8 : decode cX6_whyNot 8 = .ok (.getfield 10, 3) := by decide +kernel
theorem dX6_whyNot_11 : decode cX6_whyNot 11 = .ok (.iload_n 1, 1) := by decide +kernel
theorem dX6_whyNot_12 : decode cX6_whyNot 12 = .ok (.iload_n 2, 1) := by decide +kernel
theorem dX6_whyNot_13 : decode cX6_whyNot 13 = .ok (.iload_n 3, 1) := by decide +kernel
theorem dX6_whyNot_14 : decode cX6_whyNot 14 = .ok (.invokevirtual 154, 3) := by decide +kernel
theorem dX6_whyNot_17 : decode cX6_whyNot 17 = .ok (.ireturn, 1) := by decide +kernel
theorem dX6_ifSat_0 : decode cX6_ifSat 0 = .ok (.aload_n 0, 1) := by decide +kernel
theorem dX6_ifSat_1 : decode cX6_ifSat 1 = .ok (.iload_n 1, 1) := by decide +kernel
theorem dX6_ifSat_2 : decode cX6_ifSat 2 = .ok (.iload_n 2, 1) := by decide +kernel
theorem dX6_ifSat_3 : decode cX6_ifSat 3 = .ok (.iload_n 3, 1) := by decide +kernel
theorem dX6_ifSat_4 : decode cX6_ifSat 4 = .ok (.invokevirtual 150, 3) := by decide +kernel
theorem dX6_ifSat_7 : decode cX6_ifSat 7 = .ok (.aload_n 0, 1) := by decide +kernel
theorem dX6_ifSat_8 : decode cX6_ifSat 8 = .ok (.getfield 10, 3) := by decide +kernel
theorem dX6_ifSat_11 : decode cX6_ifSat 11 = .ok (.iload_n 1, 1) := by decide +kernel
theorem dX6_ifSat_12 : decode cX6_ifSat 12 = .ok (.iload_n 2, 1) := by decide +kernel
theorem dX6_ifSat_13 : decode cX6_ifSat 13 = .ok (.iload_n 3, 1) := by decide +kernel
theorem dX6_ifSat_14 : decode cX6_ifSat 14 = .ok (.invokevirtual 154, 3) := by decide +kernel
theorem dX6_ifSat_17 : decode cX6_ifSat 17 = .ok (.ifCond .eq 5, 3) := by decide +kernel
theorem dX6_ifSat_20 : decode cX6_ifSat 20 = .ok (.iconst (-1), 1) := by decide +kernel
theorem dX6_ifSat_21 : decode cX6_ifSat 21 = .ok (.ireturn, 1) := by decide +kernel
theorem dX6_ifSat_22 : decode cX6_ifSat 22 = .ok (.aload_n 0, 1) := by decide +kernel
theorem dX6_ifSat_23 : decode cX6_ifSat 23 = .ok (.getfield 10, 3) := by decide +kernel
theorem dX6_ifSat_26 : decode cX6_ifSat 26 = .ok (.iload_n 1, 1) := by decide +kernel
theorem dX6_ifSat_27 : decode cX6_ifSat 27 = .ok (.iload_n 2, 1) := by decide +kernel
theorem dX6_ifSat_28 : decode cX6_ifSat 28 = .ok (.iload_n 3, 1) := by decide +kernel
theorem dX6_ifSat_29 : decode cX6_ifSat 29 = .ok (.invokestatic 260, 3) := by decide +kernel
theorem dX6_ifSat_32 : decode cX6_ifSat 32 = .ok (.sipush 1000, 3) := by decide +kernel
theorem dX6_ifSat_35 : decode cX6_ifSat 35 = .ok (.iadd, 1) := by decide +kernel
theorem dX6_ifSat_36 : decode cX6_ifSat 36 = .ok (.ireturn, 1) := by decide +kernel
theorem dX6_bestSeat_0 : decode cX6_bestSeat 0 = .ok (.aload_n 0, 1) := by decide +kernel
theorem dX6_bestSeat_1 : decode cX6_bestSeat 1 = .ok (.iload_n 1, 1) := by decide +kernel
theorem dX6_bestSeat_2 : decode cX6_bestSeat 2 = .ok (.invokevirtual 68, 3) := by decide +kernel
theorem dX6_bestSeat_5 : decode cX6_bestSeat 5 = .ok (.aload_n 0, 1) := by decide +kernel
theorem dX6_bestSeat_6 : decode cX6_bestSeat 6 = .ok (.getfield 10, 3) := by decide +kernel
theorem dX6_bestSeat_9 : decode cX6_bestSeat 9 = .ok (.iload_n 1, 1) := by decide +kernel
theorem dX6_bestSeat_10 : decode cX6_bestSeat 10 = .ok (.invokevirtual 264, 3) := by decide +kernel
theorem dX6_bestSeat_13 : decode cX6_bestSeat 13 = .ok (.ireturn, 1) := by decide +kernel
theorem dX6_ifFeud_0 : decode cX6_ifFeud 0 = .ok (.iload_n 1, 1) := by decide +kernel
theorem dX6_ifFeud_1 : decode cX6_ifFeud 1 = .ok (.iload_n 2, 1) := by decide +kernel
theorem dX6_ifFeud_2 : decode cX6_ifFeud 2 = .ok (.invokestatic 99, 3) := by decide +kernel
theorem dX6_ifFeud_5 : decode cX6_ifFeud 5 = .ok (.aload_n 0, 1) := by decide +kernel
theorem dX6_ifFeud_6 : decode cX6_ifFeud 6 = .ok (.getfield 10, 3) := by decide +kernel
theorem dX6_ifFeud_9 : decode cX6_ifFeud 9 = .ok (.iload_n 1, 1) := by decide +kernel
theorem dX6_ifFeud_10 : decode cX6_ifFeud 10 = .ok (.iload_n 2, 1) := by decide +kernel
theorem dX6_ifFeud_11 : decode cX6_ifFeud 11 = .ok (.invokevirtual 267, 3) := by decide +kernel
theorem dX6_ifFeud_14 : decode cX6_ifFeud 14 = .ok (.ireturn, 1) := by decide +kernel
theorem dX6_ifSeated_0 : decode cX6_ifSeated 0 = .ok (.iload_n 1, 1) := by decide +kernel
theorem dX6_ifSeated_1 : decode cX6_ifSeated 1 = .ok (.ifCond .lt 8, 3) := by decide +kernel
theorem dX6_ifSeated_4 : decode cX6_ifSeated 4 = .ok (.iload_n 1, 1) := by decide +kernel
theorem dX6_ifSeated_5 : decode cX6_ifSeated 5 = .ok (.iconst 2, 1) := by decide +kernel
theorem dX6_ifSeated_6 : decode cX6_ifSeated 6 = .ok (.if_icmp .lt 14, 3) := by decide +kernel
theorem dX6_ifSeated_9 : decode cX6_ifSeated 9 = .ok (.new 44, 3) := by decide +kernel
theorem dX6_ifSeated_12 : decode cX6_ifSeated 12 = .ok (.dup, 1) := by decide +kernel
theorem dX6_ifSeated_13 : decode cX6_ifSeated 13 = .ok (.ldc_w 270, 3) := by decide +kernel
theorem dX6_ifSeated_16 : decode cX6_ifSeated 16 = .ok (.invokespecial 48, 3) := by decide +kernel
theorem dX6_ifSeated_19 : decode cX6_ifSeated 19 = .ok (.athrow, 1) := by decide +kernel
theorem dX6_ifSeated_20 : decode cX6_ifSeated 20 = .ok (.aload_n 0, 1) := by decide +kernel
theorem dX6_ifSeated_21 : decode cX6_ifSeated 21 = .ok (.iload_n 1, 1) := by decide +kernel
theorem dX6_ifSeated_22 : decode cX6_ifSeated 22 = .ok (.invokevirtual 272, 3) := by decide +kernel
theorem dX6_ifSeated_25 : decode cX6_ifSeated 25 = .ok (.ireturn, 1) := by decide +kernel
theorem dX6_met_0 : decode cX6_met 0 = .ok (.aload_n 0, 1) := by decide +kernel
theorem dX6_met_1 : decode cX6_met 1 = .ok (.getfield 10, 3) := by decide +kernel
theorem dX6_met_4 : decode cX6_met 4 = .ok (.invokestatic 275, 3) := by decide +kernel
theorem dX6_met_7 : decode cX6_met 7 = .ok (.dreturn, 1) := by decide +kernel
theorem dX6_isFamily_0 : decode cX6_isFamily 0 = .ok (.iload_n 0, 1) := by decide +kernel
theorem dX6_isFamily_1 : decode cX6_isFamily 1 = .ok (.ifCond .lt 13, 3) := by decide +kernel
theorem dX6_isFamily_4 : decode cX6_isFamily 4 = .ok (.iload_n 0, 1) := by decide +kernel
theorem dX6_isFamily_5 : decode cX6_isFamily 5 = .ok (.bipush 6, 2) := by decide +kernel
theorem dX6_isFamily_7 : decode cX6_isFamily 7 = .ok (.if_icmp .ge 7, 3) := by decide +kernel
theorem dX6_isFamily_10 : decode cX6_isFamily 10 = .ok (.iconst 1, 1) := by decide +kernel
theorem dX6_isFamily_11 : decode cX6_isFamily 11 = .ok (.goto 4, 3) := by decide +kernel
theorem dX6_isFamily_14 : decode cX6_isFamily 14 = .ok (.iconst 0, 1) := by decide +kernel
theorem dX6_isFamily_15 : decode cX6_isFamily 15 = .ok (.ireturn, 1) := by decide +kernel
theorem dX6_needTwoFamilies_0 : decode cX6_needTwoFamilies 0 = .ok (.iload_n 0, 1) := by decide +kernel
theorem dX6_needTwoFamilies_1 : decode cX6_needTwoFamilies 1 = .ok (.invokestatic 40, 3) := by decide +kernel
theorem dX6_needTwoFamilies_4 : decode cX6_needTwoFamilies 4 = .ok (.ifCond .eq 15, 3) := by decide +kernel
theorem dX6_needTwoFamilies_7 : decode cX6_needTwoFamilies 7 = .ok (.iload_n 1, 1) := by decide +kernel
theorem dX6_needTwoFamilies_8 : decode cX6_needTwoFamilies 8 = .ok (.invokestatic 40, 3) := by decide +kernel
theorem dX6_needTwoFamilies_11 : decode cX6_needTwoFamilies 11 = .ok (.ifCond .eq 8, 3) := by decide +kernel
theorem dX6_needTwoFamilies_14 : decode cX6_needTwoFamilies 14 = .ok (.iload_n 0, 1) := by decide +kernel
theorem dX6_needTwoFamilies_15 : decode cX6_needTwoFamilies 15 = .ok (.iload_n 1, 1) := by decide +kernel
theorem dX6_needTwoFamilies_16 : decode cX6_needTwoFamilies 16 = .ok (.if_icmp .ne 14, 3) := by decide +kernel
theorem dX6_needTwoFamilies_19 : decode cX6_needTwoFamilies 19 = .ok (.new 44, 3) := by decide +kernel
theorem dX6_needTwoFamilies_22 : decode cX6_needTwoFamilies 22 = .ok (.dup, 1) := by decide +kernel
theorem dX6_needTwoFamilies_23 : decode cX6_needTwoFamilies 23 = .ok (.ldc_w 298, 3) := by decide +kernel
theorem dX6_needTwoFamilies_26 : decode cX6_needTwoFamilies 26 = .ok (.invokespecial 48, 3) := by decide +kernel
theorem dX6_needTwoFamilies_29 : decode cX6_needTwoFamilies 29 = .ok (.athrow, 1) := by decide +kernel
theorem dX6_needTwoFamilies_30 : decode cX6_needTwoFamilies 30 = .ok (.return_, 1) := by decide +kernel
theorem dX6_needPlace_0 : decode cX6_needPlace 0 = .ok (.iload_n 0, 1) := by decide +kernel
theorem dX6_needPlace_1 : decode cX6_needPlace 1 = .ok (.ifCond .ge 14, 3) := by decide +kernel
theorem dX6_needPlace_4 : decode cX6_needPlace 4 = .ok (.new 44, 3) := by decide +kernel
theorem dX6_needPlace_7 : decode cX6_needPlace 7 = .ok (.dup, 1) := by decide +kernel
theorem dX6_needPlace_8 : decode cX6_needPlace 8 = .ok (.ldc_w 300, 3) := by decide +kernel
theorem dX6_needPlace_11 : decode cX6_needPlace 11 = .ok (.invokespecial 48, 3) := by decide +kernel
theorem dX6_needPlace_14 : decode cX6_needPlace 14 = .ok (.athrow, 1) := by decide +kernel
theorem dX6_needPlace_15 : decode cX6_needPlace 15 = .ok (.return_, 1) := by decide +kernel
theorem dX6_needGuest_0 : decode cX6_needGuest 0 = .ok (.aload_n 0, 1) := by decide +kernel
theorem dX6_needGuest_1 : decode cX6_needGuest 1 = .ok (.getfield 10, 3) := by decide +kernel
theorem dX6_needGuest_4 : decode cX6_needGuest 4 = .ok (.iload_n 1, 1) := by decide +kernel
theorem dX6_needGuest_5 : decode cX6_needGuest 5 = .ok (.invokevirtual 302, 3) := by decide +kernel
theorem dX6_needGuest_8 : decode cX6_needGuest 8 = .ok (.ifCond .ne 14, 3) := by decide +kernel
theorem dX6_needGuest_11 : decode cX6_needGuest 11 = .ok (.new 134, 3) := by decide +kernel
theorem dX6_needGuest_14 : decode cX6_needGuest 14 = .ok (.dup, 1) := by decide +kernel
theorem dX6_needGuest_15 : decode cX6_needGuest 15 = .ok (.ldc_w 305, 3) := by decide +kernel
theorem dX6_needGuest_18 : decode cX6_needGuest 18 = .ok (.invokespecial 138, 3) := by decide +kernel
theorem dX6_needGuest_21 : decode cX6_needGuest 21 = .ok (.athrow, 1) := by decide +kernel
theorem dX6_needGuest_22 : decode cX6_needGuest 22 = .ok (.return_, 1) := by decide +kernel
theorem dX6_needTable_0 : decode cX6_needTable 0 = .ok (.aload_n 0, 1) := by decide +kernel
theorem dX6_needTable_1 : decode cX6_needTable 1 = .ok (.getfield 10, 3) := by decide +kernel
theorem dX6_needTable_4 : decode cX6_needTable 4 = .ok (.iload_n 1, 1) := by decide +kernel
theorem dX6_needTable_5 : decode cX6_needTable 5 = .ok (.invokevirtual 307, 3) := by decide +kernel
theorem dX6_needTable_8 : decode cX6_needTable 8 = .ok (.ifCond .ne 14, 3) := by decide +kernel
theorem dX6_needTable_11 : decode cX6_needTable 11 = .ok (.new 134, 3) := by decide +kernel
theorem dX6_needTable_14 : decode cX6_needTable 14 = .ok (.dup, 1) := by decide +kernel
theorem dX6_needTable_15 : decode cX6_needTable 15 = .ok (.ldc_w 310, 3) := by decide +kernel
theorem dX6_needTable_18 : decode cX6_needTable 18 = .ok (.invokespecial 138, 3) := by decide +kernel
theorem dX6_needTable_21 : decode cX6_needTable 21 = .ok (.athrow, 1) := by decide +kernel
theorem dX6_needTable_22 : decode cX6_needTable 22 = .ok (.return_, 1) := by decide +kernel
theorem dX6_needSeat_0 : decode cX6_needSeat 0 = .ok (.aload_n 0, 1) := by decide +kernel
theorem dX6_needSeat_1 : decode cX6_needSeat 1 = .ok (.getfield 10, 3) := by decide +kernel
theorem dX6_needSeat_4 : decode cX6_needSeat 4 = .ok (.iload_n 1, 1) := by decide +kernel
theorem dX6_needSeat_5 : decode cX6_needSeat 5 = .ok (.iload_n 2, 1) := by decide +kernel
theorem dX6_needSeat_6 : decode cX6_needSeat 6 = .ok (.invokevirtual 312, 3) := by decide +kernel
theorem dX6_needSeat_9 : decode cX6_needSeat 9 = .ok (.ifCond .ne 14, 3) := by decide +kernel
theorem dX6_needSeat_12 : decode cX6_needSeat 12 = .ok (.new 134, 3) := by decide +kernel
theorem dX6_needSeat_15 : decode cX6_needSeat 15 = .ok (.dup, 1) := by decide +kernel
theorem dX6_needSeat_16 : decode cX6_needSeat 16 = .ok (.ldc_w 315, 3) := by decide +kernel
theorem dX6_needSeat_19 : decode cX6_needSeat 19 = .ok (.invokespecial 138, 3) := by decide +kernel
theorem dX6_needSeat_22 : decode cX6_needSeat 22 = .ok (.athrow, 1) := by decide +kernel
theorem dX6_needSeat_23 : decode cX6_needSeat 23 = .ok (.return_, 1) := by decide +kernel
theorem dX6_needGuestAndSeat_0 : decode cX6_needGuestAndSeat 0 = .ok (.aload_n 0, 1) := by decide +kernel
theorem dX6_needGuestAndSeat_1 : decode cX6_needGuestAndSeat 1 = .ok (.iload_n 1, 1) := by decide +kernel
theorem dX6_needGuestAndSeat_2 : decode cX6_needGuestAndSeat 2 = .ok (.invokevirtual 68, 3) := by decide +kernel
theorem dX6_needGuestAndSeat_5 : decode cX6_needGuestAndSeat 5 = .ok (.aload_n 0, 1) := by decide +kernel
theorem dX6_needGuestAndSeat_6 : decode cX6_needGuestAndSeat 6 = .ok (.iload_n 2, 1) := by decide +kernel
theorem dX6_needGuestAndSeat_7 : decode cX6_needGuestAndSeat 7 = .ok (.iload_n 3, 1) := by decide +kernel
theorem dX6_needGuestAndSeat_8 : decode cX6_needGuestAndSeat 8 = .ok (.invokevirtual 243, 3) := by decide +kernel
theorem dX6_needGuestAndSeat_11 : decode cX6_needGuestAndSeat 11 = .ok (.return_, 1) := by decide +kernel
theorem dX6_guestNumber_0 : decode cX6_guestNumber 0 = .ok (.iload_n 2, 1) := by decide +kernel
theorem dX6_guestNumber_1 : decode cX6_guestNumber 1 = .ok (.tableswitch 108 0 5 #[39, 51, 63, 75, 87, 99], 39) := by decide +kernel
theorem dX6_guestNumber_40 : decode cX6_guestNumber 40 = .ok (.aload_n 0, 1) := by decide +kernel
theorem dX6_guestNumber_41 : decode cX6_guestNumber 41 = .ok (.getfield 10, 3) := by decide +kernel
theorem dX6_guestNumber_44 : decode cX6_guestNumber 44 = .ok (.getfield 317, 3) := by decide +kernel
theorem dX6_guestNumber_47 : decode cX6_guestNumber 47 = .ok (.iload_n 1, 1) := by decide +kernel
theorem dX6_guestNumber_48 : decode cX6_guestNumber 48 = .ok (.invokestatic 78, 3) := by decide +kernel
theorem dX6_guestNumber_51 : decode cX6_guestNumber 51 = .ok (.ireturn, 1) := by decide +kernel
theorem dX6_guestNumber_52 : decode cX6_guestNumber 52 = .ok (.aload_n 0, 1) := by decide +kernel
theorem dX6_guestNumber_53 : decode cX6_guestNumber 53 = .ok (.getfield 10, 3) := by decide +kernel
theorem dX6_guestNumber_56 : decode cX6_guestNumber 56 = .ok (.getfield 320, 3) := by decide +kernel
theorem dX6_guestNumber_59 : decode cX6_guestNumber 59 = .ok (.iload_n 1, 1) := by decide +kernel
theorem dX6_guestNumber_60 : decode cX6_guestNumber 60 = .ok (.invokestatic 78, 3) := by decide +kernel
theorem dX6_guestNumber_63 : decode cX6_guestNumber 63 = .ok (.ireturn, 1) := by decide +kernel
theorem dX6_guestNumber_64 : decode cX6_guestNumber 64 = .ok (.aload_n 0, 1) := by decide +kernel
theorem dX6_guestNumber_65 : decode cX6_guestNumber 65 = .ok (.getfield 10, 3) := by decide +kernel
theorem dX6_guestNumber_68 : decode cX6_guestNumber 68 = .ok (.getfield 74, 3) := by decide +kernel
theorem dX6_guestNumber_71 : decode cX6_guestNumber 71 = .ok (.iload_n 1, 1) := by decide +kernel
theorem dX6_guestNumber_72 : decode cX6_guestNumber 72 = .ok (.invokestatic 78, 3) := by decide +kernel
theorem dX6_guestNumber_75 : decode cX6_guestNumber 75 = .ok (.ireturn, 1) := by decide +kernel
theorem dX6_guestNumber_76 : decode cX6_guestNumber 76 = .ok (.aload_n 0, 1) := by decide +kernel
theorem dX6_guestNumber_77 : decode cX6_guestNumber 77 = .ok (.getfield 10, 3) := by decide +kernel
theorem dX6_guestNumber_80 : decode cX6_guestNumber 80 = .ok (.getfield 323, 3) := by decide +kernel
theorem dX6_guestNumber_83 : decode cX6_guestNumber 83 = .ok (.iload_n 1, 1) := by decide +kernel
theorem dX6_guestNumber_84 : decode cX6_guestNumber 84 = .ok (.invokestatic 78, 3) := by decide +kernel
theorem dX6_guestNumber_87 : decode cX6_guestNumber 87 = .ok (.ireturn, 1) := by decide +kernel
theorem dX6_guestNumber_88 : decode cX6_guestNumber 88 = .ok (.aload_n 0, 1) := by decide +kernel
theorem dX6_guestNumber_89 : decode cX6_guestNumber 89 = .ok (.getfield 10, 3) := by decide +kernel
theorem dX6_guestNumber_92 : decode cX6_guestNumber 92 = .ok (.getfield 326, 3) := by decide +kernel
theorem dX6_guestNumber_95 : decode cX6_guestNumber 95 = .ok (.iload_n 1, 1) := by decide +kernel
theorem dX6_guestNumber_96 : decode cX6_guestNumber 96 = .ok (.invokestatic 78, 3) := by decide +kernel
theorem dX6_guestNumber_99 : decode cX6_guestNumber 99 = .ok (.ireturn, 1) := by decide +kernel
theorem dX6_guestNumber_100 : decode cX6_guestNumber 100 = .ok (.aload_n 0, 1) := by decide +kernel
theorem dX6_guestNumber_101 : decode cX6_guestNumber 101 = .ok (.getfield 10, 3) := by decide +kernel
theorem dX6_guestNumber_104 : decode cX6_guestNumber 104 = .ok (.iload_n 1, 1) := by decide +kernel
theorem dX6_guestNumber_105 : decode cX6_guestNumber 105 = .ok (.invokestatic 329, 3) := by decide +kernel
theorem dX6_guestNumber_108 : decode cX6_guestNumber 108 = .ok (.ireturn, 1) := by decide +kernel
theorem dX6_guestNumber_109 : decode cX6_guestNumber 109 = .ok (.aload_n 0, 1) := by decide +kernel
theorem dX6_guestNumber_110 : decode cX6_guestNumber 110 = .ok (.getfield 10, 3) := by decide +kernel
theorem dX6_guestNumber_113 : decode cX6_guestNumber 113 = .ok (.iload_n 1, 1) := by decide +kernel
theorem dX6_guestNumber_114 : decode cX6_guestNumber 114 = .ok (.invokestatic 333, 3) := by decide +kernel
theorem dX6_guestNumber_117 : decode cX6_guestNumber 117 = .ok (.ireturn, 1) := by decide +kernel
theorem dX6_tableNumber_0 : decode cX6_tableNumber 0 = .ok (.iload_n 2, 1) := by decide +kernel
theorem dX6_tableNumber_1 : decode cX6_tableNumber 1 = .ok (.tableswitch 67 0 3 #[31, 40, 49, 58], 31) := by decide +kernel
theorem dX6_tableNumber_32 : decode cX6_tableNumber 32 = .ok (.aload_n 0, 1) := by decide +kernel
theorem dX6_tableNumber_33 : decode cX6_tableNumber 33 = .ok (.getfield 10, 3) := by decide +kernel
theorem dX6_tableNumber_36 : decode cX6_tableNumber 36 = .ok (.iload_n 1, 1) := by decide +kernel
theorem dX6_tableNumber_37 : decode cX6_tableNumber 37 = .ok (.invokevirtual 336, 3) := by decide +kernel
theorem dX6_tableNumber_40 : decode cX6_tableNumber 40 = .ok (.ireturn, 1) := by decide +kernel
theorem dX6_tableNumber_41 : decode cX6_tableNumber 41 = .ok (.aload_n 0, 1) := by decide +kernel
theorem dX6_tableNumber_42 : decode cX6_tableNumber 42 = .ok (.getfield 10, 3) := by decide +kernel
theorem dX6_tableNumber_45 : decode cX6_tableNumber 45 = .ok (.iload_n 1, 1) := by decide +kernel
theorem dX6_tableNumber_46 : decode cX6_tableNumber 46 = .ok (.invokevirtual 339, 3) := by decide +kernel
theorem dX6_tableNumber_49 : decode cX6_tableNumber 49 = .ok (.ireturn, 1) := by decide +kernel
theorem dX6_tableNumber_50 : decode cX6_tableNumber 50 = .ok (.aload_n 0, 1) := by decide +kernel
theorem dX6_tableNumber_51 : decode cX6_tableNumber 51 = .ok (.getfield 10, 3) := by decide +kernel
theorem dX6_tableNumber_54 : decode cX6_tableNumber 54 = .ok (.iload_n 1, 1) := by decide +kernel
theorem dX6_tableNumber_55 : decode cX6_tableNumber 55 = .ok (.invokevirtual 342, 3) := by decide +kernel
theorem dX6_tableNumber_58 : decode cX6_tableNumber 58 = .ok (.ireturn, 1) := by decide +kernel
theorem dX6_tableNumber_59 : decode cX6_tableNumber 59 = .ok (.aload_n 0, 1) := by decide +kernel
theorem dX6_tableNumber_60 : decode cX6_tableNumber 60 = .ok (.getfield 10, 3) := by decide +kernel
theorem dX6_tableNumber_63 : decode cX6_tableNumber 63 = .ok (.iload_n 1, 1) := by decide +kernel
theorem dX6_tableNumber_64 : decode cX6_tableNumber 64 = .ok (.invokestatic 345, 3) := by decide +kernel
theorem dX6_tableNumber_67 : decode cX6_tableNumber 67 = .ok (.ireturn, 1) := by decide +kernel
theorem dX6_tableNumber_68 : decode cX6_tableNumber 68 = .ok (.aload_n 0, 1) := by decide +kernel
theorem dX6_tableNumber_69 : decode cX6_tableNumber 69 = .ok (.getfield 10, 3) := by decide +kernel
theorem dX6_tableNumber_72 : decode cX6_tableNumber 72 = .ok (.iload_n 1, 1) := by decide +kernel
theorem dX6_tableNumber_73 : decode cX6_tableNumber 73 = .ok (.invokevirtual 348, 3) := by decide +kernel
theorem dX6_tableNumber_76 : decode cX6_tableNumber 76 = .ok (.ireturn, 1) := by decide +kernel
theorem dX6_countNumber_0 : decode cX6_countNumber 0 = .ok (.iload_n 1, 1) := by decide +kernel
theorem dX6_countNumber_1 : decode cX6_countNumber 1 = .ok (.tableswitch 157 0 13 #[71, 79, 87, 98, 109, 117, 125, 133, 141, 157, 157, 157, 157, 149], 71) := by decide +kernel
theorem dX6_countNumber_72 : decode cX6_countNumber 72 = .ok (.aload_n 0, 1) := by decide +kernel
theorem dX6_countNumber_73 : decode cX6_countNumber 73 = .ok (.getfield 10, 3) := by decide +kernel
theorem dX6_countNumber_76 : decode cX6_countNumber 76 = .ok (.getfield 51, 3) := by decide +kernel
theorem dX6_countNumber_79 : decode cX6_countNumber 79 = .ok (.ireturn, 1) := by decide +kernel
theorem dX6_countNumber_80 : decode cX6_countNumber 80 = .ok (.aload_n 0, 1) := by decide +kernel
theorem dX6_countNumber_81 : decode cX6_countNumber 81 = .ok (.getfield 10, 3) := by decide +kernel
theorem dX6_countNumber_84 : decode cX6_countNumber 84 = .ok (.getfield 90, 3) := by decide +kernel
theorem dX6_countNumber_87 : decode cX6_countNumber 87 = .ok (.ireturn, 1) := by decide +kernel
theorem dX6_countNumber_88 : decode cX6_countNumber 88 = .ok (.aload_n 0, 1) := by decide +kernel
theorem dX6_countNumber_89 : decode cX6_countNumber 89 = .ok (.getfield 10, 3) := by decide +kernel
theorem dX6_countNumber_92 : decode cX6_countNumber 92 = .ok (.getfield 107, 3) := by decide +kernel
theorem dX6_countNumber_95 : decode cX6_countNumber 95 = .ok (.invokevirtual 130, 3) := by decide +kernel
theorem dX6_countNumber_98 : decode cX6_countNumber 98 = .ok (.ireturn, 1) := by decide +kernel
theorem dX6_countNumber_99 : decode cX6_countNumber 99 = .ok (.aload_n 0, 1) := by decide +kernel
theorem dX6_countNumber_100 : decode cX6_countNumber 100 = .ok (.getfield 10, 3) := by decide +kernel
theorem dX6_countNumber_103 : decode cX6_countNumber 103 = .ok (.getfield 228, 3) := by decide +kernel
theorem dX6_countNumber_106 : decode cX6_countNumber 106 = .ok (.invokevirtual 130, 3) := by decide +kernel
theorem dX6_countNumber_109 : decode cX6_countNumber 109 = .ok (.ireturn, 1) := by decide +kernel
theorem dX6_countNumber_110 : decode cX6_countNumber 110 = .ok (.aload_n 0, 1) := by decide +kernel
theorem dX6_countNumber_111 : decode cX6_countNumber 111 = .ok (.getfield 10, 3) := by decide +kernel
theorem dX6_countNumber_114 : decode cX6_countNumber 114 = .ok (.invokestatic 163, 3) := by decide +kernel
theorem dX6_countNumber_117 : decode cX6_countNumber 117 = .ok (.ireturn, 1) := by decide +kernel
theorem dX6_countNumber_118 : decode cX6_countNumber 118 = .ok (.aload_n 0, 1) := by decide +kernel
theorem dX6_countNumber_119 : decode cX6_countNumber 119 = .ok (.getfield 10, 3) := by decide +kernel
theorem dX6_countNumber_122 : decode cX6_countNumber 122 = .ok (.invokestatic 351, 3) := by decide +kernel
theorem dX6_countNumber_125 : decode cX6_countNumber 125 = .ok (.ireturn, 1) := by decide +kernel
theorem dX6_countNumber_126 : decode cX6_countNumber 126 = .ok (.aload_n 0, 1) := by decide +kernel
theorem dX6_countNumber_127 : decode cX6_countNumber 127 = .ok (.getfield 10, 3) := by decide +kernel
theorem dX6_countNumber_130 : decode cX6_countNumber 130 = .ok (.invokestatic 354, 3) := by decide +kernel
theorem dX6_countNumber_133 : decode cX6_countNumber 133 = .ok (.ireturn, 1) := by decide +kernel
theorem dX6_countNumber_134 : decode cX6_countNumber 134 = .ok (.aload_n 0, 1) := by decide +kernel
theorem dX6_countNumber_135 : decode cX6_countNumber 135 = .ok (.getfield 10, 3) := by decide +kernel
theorem dX6_countNumber_138 : decode cX6_countNumber 138 = .ok (.getfield 357, 3) := by decide +kernel
theorem dX6_countNumber_141 : decode cX6_countNumber 141 = .ok (.ireturn, 1) := by decide +kernel
theorem dX6_countNumber_142 : decode cX6_countNumber 142 = .ok (.aload_n 0, 1) := by decide +kernel
theorem dX6_countNumber_143 : decode cX6_countNumber 143 = .ok (.getfield 10, 3) := by decide +kernel
theorem dX6_countNumber_146 : decode cX6_countNumber 146 = .ok (.getfield 360, 3) := by decide +kernel
theorem dX6_countNumber_149 : decode cX6_countNumber 149 = .ok (.ireturn, 1) := by decide +kernel
theorem dX6_countNumber_150 : decode cX6_countNumber 150 = .ok (.aload_n 0, 1) := by decide +kernel
theorem dX6_countNumber_151 : decode cX6_countNumber 151 = .ok (.getfield 25, 3) := by decide +kernel
theorem dX6_countNumber_154 : decode cX6_countNumber 154 = .ok (.invokevirtual 222, 3) := by decide +kernel
theorem dX6_countNumber_157 : decode cX6_countNumber 157 = .ok (.ireturn, 1) := by decide +kernel
theorem dX6_countNumber_158 : decode cX6_countNumber 158 = .ok (.aload_n 0, 1) := by decide +kernel
theorem dX6_countNumber_159 : decode cX6_countNumber 159 = .ok (.getfield 10, 3) := by decide +kernel
theorem dX6_countNumber_162 : decode cX6_countNumber 162 = .ok (.getfield 147, 3) := by decide +kernel
theorem dX6_countNumber_165 : decode cX6_countNumber 165 = .ok (.iload_n 1, 1) := by decide +kernel
theorem dX6_countNumber_166 : decode cX6_countNumber 166 = .ok (.bipush 9, 2) := by decide +kernel
theorem dX6_countNumber_168 : decode cX6_countNumber 168 = .ok (.isub, 1) := by decide +kernel
theorem dX6_countNumber_169 : decode cX6_countNumber 169 = .ok (.invokestatic 78, 3) := by decide +kernel
theorem dX6_countNumber_172 : decode cX6_countNumber 172 = .ok (.ireturn, 1) := by decide +kernel
theorem dX6_seatedNumber_0 : decode cX6_seatedNumber 0 = .ok (.aload_n 0, 1) := by decide +kernel
theorem dX6_seatedNumber_1 : decode cX6_seatedNumber 1 = .ok (.getfield 16, 3) := by decide +kernel
theorem dX6_seatedNumber_4 : decode cX6_seatedNumber 4 = .ok (.aload_n 0, 1) := by decide +kernel
theorem dX6_seatedNumber_5 : decode cX6_seatedNumber 5 = .ok (.getfield 10, 3) := by decide +kernel
theorem dX6_seatedNumber_8 : decode cX6_seatedNumber 8 = .ok (.invokevirtual 179, 3) := by decide +kernel
theorem dX6_seatedNumber_11 : decode cX6_seatedNumber 11 = .ok (.aload_n 0, 1) := by decide +kernel
theorem dX6_seatedNumber_12 : decode cX6_seatedNumber 12 = .ok (.getfield 16, 3) := by decide +kernel
theorem dX6_seatedNumber_15 : decode cX6_seatedNumber 15 = .ok (.invokevirtual 187, 3) := by decide +kernel
theorem dX6_seatedNumber_18 : decode cX6_seatedNumber 18 = .ok (.istore_n 2, 1) := by decide +kernel
theorem dX6_seatedNumber_19 : decode cX6_seatedNumber 19 = .ok (.iload_n 1, 1) := by decide +kernel
theorem dX6_seatedNumber_20 : decode cX6_seatedNumber 20 = .ok (.ifCond .ne 7, 3) := by decide +kernel
theorem dX6_seatedNumber_23 : decode cX6_seatedNumber 23 = .ok (.iload_n 2, 1) := by decide +kernel
theorem dX6_seatedNumber_24 : decode cX6_seatedNumber 24 = .ok (.goto 14, 3) := by decide +kernel
theorem dX6_seatedNumber_27 : decode cX6_seatedNumber 27 = .ok (.aload_n 0, 1) := by decide +kernel
theorem dX6_seatedNumber_28 : decode cX6_seatedNumber 28 = .ok (.getfield 16, 3) := by decide +kernel
theorem dX6_seatedNumber_31 : decode cX6_seatedNumber 31 = .ok (.invokestatic 163, 3) := by decide +kernel
theorem dX6_seatedNumber_34 : decode cX6_seatedNumber 34 = .ok (.sipush 1000, 3) := by decide +kernel
theorem dX6_seatedNumber_37 : decode cX6_seatedNumber 37 = .ok (.iadd, 1) := by decide +kernel
theorem dX6_seatedNumber_38 : decode cX6_seatedNumber 38 = .ok (.ireturn, 1) := by decide +kernel
