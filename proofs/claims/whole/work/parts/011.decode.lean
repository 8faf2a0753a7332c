theorem dX7_sitsDown_43 : decode cX7_sitsDown 43 = .ok (.getfield 7, 3) := by decide +kernel
theorem dX7_sitsDown_46 : decode cX7_sitsDown 46 = .ok (.iload_n 1, 1) := by decide +kernel
theorem dX7_sitsDown_47 : decode cX7_sitsDown 47 = .ok (.iconst 3, 1) := by decide +kernel
theorem dX7_sitsDown_48 : decode cX7_sitsDown 48 = .ok (.iadd, 1) := by decide +kernel
theorem dX7_sitsDown_49 : decode cX7_sitsDown 49 = .ok (.iaload, 1) := by decide +kernel
theorem dX7_sitsDown_50 : decode cX7_sitsDown 50 = .ok (.iadd, 1) := by decide +kernel
theorem dX7_sitsDown_51 : decode cX7_sitsDown 51 = .ok (.iload_n 2, 1) := by decide +kernel
theorem dX7_sitsDown_52 : decode cX7_sitsDown 52 = .ok (.iastore, 1) := by decide +kernel
theorem dX7_sitsDown_53 : decode cX7_sitsDown 53 = .ok (.aload_n 0, 1) := by decide +kernel
theorem dX7_sitsDown_54 : decode cX7_sitsDown 54 = .ok (.getfield 7, 3) := by decide +kernel
theorem dX7_sitsDown_57 : decode cX7_sitsDown 57 = .ok (.iload_n 1, 1) := by decide +kernel
theorem dX7_sitsDown_58 : decode cX7_sitsDown 58 = .ok (.iconst 3, 1) := by decide +kernel
theorem dX7_sitsDown_59 : decode cX7_sitsDown 59 = .ok (.iadd, 1) := by decide +kernel
theorem dX7_sitsDown_60 : decode cX7_sitsDown 60 = .ok (.dup2, 1) := by decide +kernel
theorem dX7_sitsDown_61 : decode cX7_sitsDown 61 = .ok (.iaload, 1) := by decide +kernel
theorem dX7_sitsDown_62 : decode cX7_sitsDown 62 = .ok (.iconst 1, 1) := by decide +kernel
theorem dX7_sitsDown_63 : decode cX7_sitsDown 63 = .ok (.iadd, 1) := by decide +kernel
theorem dX7_sitsDown_64 : decode cX7_sitsDown 64 = .ok (.iastore, 1) := by decide +kernel
theorem dX7_sitsDown_65 : decode cX7_sitsDown 65 = .ok (.aload_n 0, 1) := by decide +kernel
theorem dX7_sitsDown_66 : decode cX7_sitsDown 66 = .ok (.getfield 7, 3) := by decide +kernel
theorem dX7_sitsDown_69 : decode cX7_sitsDown 69 = .ok (.iload_n 1, 1) := by decide +kernel
theorem dX7_sitsDown_70 : decode cX7_sitsDown 70 = .ok (.iconst 4, 1) := by decide +kernel
theorem dX7_sitsDown_71 : decode cX7_sitsDown 71 = .ok (.iadd, 1) := by decide +kernel
theorem dX7_sitsDown_72 : decode cX7_sitsDown 72 = .ok (.dup2, 1) := by decide +kernel
theorem dX7_sitsDown_73 : decode cX7_sitsDown 73 = .ok (.iaload, 1) := by decide +kernel
theorem dX7_sitsDown_74 : decode cX7_sitsDown 74 = .ok (.iconst 1, 1) := by decide +kernel
theorem dX7_sitsDown_75 : decode cX7_sitsDown 75 = .ok (.iadd, 1) := by decide +kernel
theorem dX7_sitsDown_76 : decode cX7_sitsDown 76 = .ok (.iastore, 1) := by decide +kernel
theorem dX7_sitsDown_77 : decode cX7_sitsDown 77 = .ok (.return_, 1) := by decide +kernel
theorem dX7_seatsAll_0 : decode cX7_seatsAll 0 = .ok (.iconst 0, 1) := by decide +kernel
theorem dX7_seatsAll_1 : decode cX7_seatsAll 1 = .ok (.istore_n 2, 1) := by decide +kernel
theorem dX7_seatsAll_2 : decode cX7_seatsAll 2 = .ok (.iconst 0, 1) := by decide +kernel
theorem dX7_seatsAll_3 : decode cX7_seatsAll 3 = .ok (.istore_n 3, 1) := by decide +kernel
theorem dX7_seatsAll_4 : decode cX7_seatsAll 4 = .ok (.iload_n 3, 1) := by decide +kernel
theorem dX7_seatsAll_5 : decode cX7_seatsAll 5 = .ok (.aload_n 0, 1) := by decide +kernel
theorem dX7_seatsAll_6 : decode cX7_seatsAll 6 = .ok (.getfield 7, 3) := by decide +kernel
theorem dX7_seatsAll_9 : decode cX7_seatsAll 9 = .ok (.iload_n 1, 1) := by decide +kernel
theorem dX7_seatsAll_10 : decode cX7_seatsAll 10 = .ok (.iconst 0, 1) := by decide +kernel
theorem dX7_seatsAll_11 : decode cX7_seatsAll 11 = .ok (.iadd, 1) := by decide +kernel
theorem dX7_seatsAll_12 : decode cX7_seatsAll 12 = .ok (.iaload, 1) := by decide +kernel
theorem dX7_seatsAll_13 : decode cX7_seatsAll 13 = .ok (.if_icmp .ge 56, 3) := by decide +kernel
theorem dX7_seatsAll_16 : decode cX7_seatsAll 16 = .ok (.aload_n 0, 1) := by decide +kernel
theorem dX7_seatsAll_17 : decode cX7_seatsAll 17 = .ok (.iload_n 1, 1) := by decide +kernel
theorem dX7_seatsAll_18 : decode cX7_seatsAll 18 = .ok (.iload_n 3, 1) := by decide +kernel
theorem dX7_seatsAll_19 : decode cX7_seatsAll 19 = .ok (.iconst 3, 1) := by decide +kernel
theorem dX7_seatsAll_20 : decode cX7_seatsAll 20 = .ok (.invokevirtual 31, 3) := by decide +kernel
theorem dX7_seatsAll_23 : decode cX7_seatsAll 23 = .ok (.iconst (-1), 1) := by decide +kernel
theorem dX7_seatsAll_24 : decode cX7_seatsAll 24 = .ok (.if_icmp .ne 39, 3) := by decide +kernel
theorem dX7_seatsAll_27 : decode cX7_seatsAll 27 = .ok (.aload_n 0, 1) := by decide +kernel
theorem dX7_seatsAll_28 : decode cX7_seatsAll 28 = .ok (.iload_n 1, 1) := by decide +kernel
theorem dX7_seatsAll_29 : decode cX7_seatsAll 29 = .ok (.iload_n 3, 1) := by decide +kernel
theorem dX7_seatsAll_30 : decode cX7_seatsAll 30 = .ok (.invokevirtual 72, 3) := by decide +kernel
theorem dX7_seatsAll_33 : decode cX7_seatsAll 33 = .ok (.istore 4, 2) := by decide +kernel
theorem dX7_seatsAll_35 : decode cX7_seatsAll 35 = .ok (.iload 4, 2) := by decide +kernel
theorem dX7_seatsAll_37 : decode cX7_seatsAll 37 = .ok (.iconst (-1), 1) := by decide +kernel
theorem dX7_seatsAll_38 : decode cX7_seatsAll 38 = .ok (.if_icmp .ne 9, 3) := by decide +kernel
theorem dX7_seatsAll_41 : decode cX7_seatsAll 41 = .ok (.iinc 2 1, 3) := by decide +kernel
theorem dX7_seatsAll_44 : decode cX7_seatsAll 44 = .ok (.goto 19, 3) := by decide +kernel
theorem dX7_seatsAll_47 : decode cX7_seatsAll 47 = .ok (.aload_n 0, 1) := by decide +kernel
theorem dX7_seatsAll_48 : decode cX7_seatsAll 48 = .ok (.iload_n 1, 1) := by decide +kernel
theorem dX7_seatsAll_49 : decode cX7_seatsAll 49 = .ok (.iload_n 3, 1) := by decide +kernel
theorem dX7_seatsAll_50 : decode cX7_seatsAll 50 = .ok (.iload 4, 2) := by decide +kernel
theorem dX7_seatsAll_52 : decode cX7_seatsAll 52 = .ok (.bipush 8, 2) := by decide +kernel
theorem dX7_seatsAll_54 : decode cX7_seatsAll 54 = .ok (.idiv, 1) := by decide +kernel
theorem dX7_seatsAll_55 : decode cX7_seatsAll 55 = .ok (.iload 4, 2) := by decide +kernel
theorem dX7_seatsAll_57 : decode cX7_seatsAll 57 = .ok (.bipush 8, 2) := by decide +kernel
theorem dX7_seatsAll_59 : decode cX7_seatsAll 59 = .ok (.irem, 1) := by decide +kernel
theorem dX7_seatsAll_60 : decode cX7_seatsAll 60 = .ok (.invokevirtual 75, 3) := by decide +kernel
theorem dX7_seatsAll_63 : decode cX7_seatsAll 63 = .ok (.iinc 3 1, 3) := by decide +kernel
theorem dX7_seatsAll_66 : decode cX7_seatsAll 66 = .ok (.goto (-62), 3) := by decide +kernel
theorem dX7_seatsAll_69 : decode cX7_seatsAll 69 = .ok (.iload_n 2, 1) := by decide +kernel
theorem dX7_seatsAll_70 : decode cX7_seatsAll 70 = .ok (.ireturn, 1) := by decide +kernel
theorem dX7_sitting_0 : decode cX7_sitting 0 = .ok (.iconst 0, 1) := by decide +kernel
theorem dX7_sitting_1 : decode cX7_sitting 1 = .ok (.istore_n 3, 1) := by decide +kernel
theorem dX7_sitting_2 : decode cX7_sitting 2 = .ok (.iconst 0, 1) := by decide +kernel
theorem dX7_sitting_3 : decode cX7_sitting 3 = .ok (.istore 4, 2) := by decide +kernel
theorem dX7_sitting_5 : decode cX7_sitting 5 = .ok (.iload 4, 2) := by decide +kernel
theorem dX7_sitting_7 : decode cX7_sitting 7 = .ok (.aload_n 0, 1) := by decide +kernel
theorem dX7_sitting_8 : decode cX7_sitting 8 = .ok (.getfield 7, 3) := by decide +kernel
theorem dX7_sitting_11 : decode cX7_sitting 11 = .ok (.iconst 0, 1) := by decide +kernel
theorem dX7_sitting_12 : decode cX7_sitting 12 = .ok (.iaload, 1) := by decide +kernel
theorem dX7_sitting_13 : decode cX7_sitting 13 = .ok (.if_icmp .ge 41, 3) := by decide +kernel
theorem dX7_sitting_16 : decode cX7_sitting 16 = .ok (.iload_n 3, 1) := by decide +kernel
theorem dX7_sitting_17 : decode cX7_sitting 17 = .ok (.aload_n 0, 1) := by decide +kernel
theorem dX7_sitting_18 : decode cX7_sitting 18 = .ok (.iconst 0, 1) := by decide +kernel
theorem dX7_sitting_19 : decode cX7_sitting 19 = .ok (.iload 4, 2) := by decide +kernel
theorem dX7_sitting_21 : decode cX7_sitting 21 = .ok (.iconst 3, 1) := by decide +kernel
theorem dX7_sitting_22 : decode cX7_sitting 22 = .ok (.invokevirtual 31, 3) := by decide +kernel
theorem dX7_sitting_25 : decode cX7_sitting 25 = .ok (.iload_n 1, 1) := by decide +kernel
theorem dX7_sitting_26 : decode cX7_sitting 26 = .ok (.if_icmp .ne 19, 3) := by decide +kernel
theorem dX7_sitting_29 : decode cX7_sitting 29 = .ok (.aload_n 0, 1) := by decide +kernel
theorem dX7_sitting_30 : decode cX7_sitting 30 = .ok (.iconst 0, 1) := by decide +kernel
theorem dX7_sitting_31 : decode cX7_sitting 31 = .ok (.iload 4, 2) := by decide +kernel
theorem dX7_sitting_33 : decode cX7_sitting 33 = .ok (.iconst 0, 1) := by decide +kernel
theorem dX7_sitting_34 : decode cX7_sitting 34 = .ok (.invokevirtual 31, 3) := by decide +kernel
theorem dX7_sitting_37 : decode cX7_sitting 37 = .ok (.iload_n 2, 1) := by decide +kernel
theorem dX7_sitting_38 : decode cX7_sitting 38 = .ok (.if_icmp .ne 7, 3) := by decide +kernel
theorem dX7_sitting_41 : decode cX7_sitting 41 = .ok (.iconst 1, 1) := by decide +kernel
theorem dX7_sitting_42 : decode cX7_sitting 42 = .ok (.goto 4, 3) := by decide +kernel
theorem dX7_sitting_45 : decode cX7_sitting 45 = .ok (.iconst 0, 1) := by decide +kernel
theorem dX7_sitting_46 : decode cX7_sitting 46 = .ok (.iadd, 1) := by decide +kernel
theorem dX7_sitting_47 : decode cX7_sitting 47 = .ok (.istore_n 3, 1) := by decide +kernel
theorem dX7_sitting_48 : decode cX7_sitting 48 = .ok (.iinc 4 1, 3) := by decide +kernel
theorem dX7_sitting_51 : decode cX7_sitting 51 = .ok (.goto (-46), 3) := by decide +kernel
theorem dX7_sitting_54 : decode cX7_sitting 54 = .ok (.iload_n 3, 1) := by decide +kernel
theorem dX7_sitting_55 : decode cX7_sitting 55 = .ok (.ireturn, 1) := by decide +kernel
theorem dX7_leaving_0 : decode cX7_leaving 0 = .ok (.aload_n 0, 1) := by decide +kernel
theorem dX7_leaving_1 : decode cX7_leaving 1 = .ok (.iload_n 1, 1) := by decide +kernel
theorem dX7_leaving_2 : decode cX7_leaving 2 = .ok (.iload_n 2, 1) := by decide +kernel
theorem dX7_leaving_3 : decode cX7_leaving 3 = .ok (.invokevirtual 78, 3) := by decide +kernel
theorem dX7_leaving_6 : decode cX7_leaving 6 = .ok (.istore 4, 2) := by decide +kernel
theorem dX7_leaving_8 : decode cX7_leaving 8 = .ok (.aload_n 0, 1) := by decide +kernel
theorem dX7_leaving_9 : decode cX7_leaving 9 = .ok (.iload_n 1, 1) := by decide +kernel
theorem dX7_leaving_10 : decode cX7_leaving 10 = .ok (.iload_n 3, 1) := by decide +kernel
theorem dX7_leaving_11 : decode cX7_leaving 11 = .ok (.invokevirtual 78, 3) := by decide +kernel
theorem dX7_leaving_14 : decode cX7_leaving 14 = .ok (.istore 5, 2) := by decide +kernel
theorem dX7_leaving_16 : decode cX7_leaving 16 = .ok (.iload 4, 2) := by decide +kernel
theorem dX7_leaving_18 : decode cX7_leaving 18 = .ok (.ifCond .eq 8, 3) := by decide +kernel
theorem dX7_leaving_21 : decode cX7_leaving 21 = .ok (.iload 5, 2) := by decide +kernel
theorem dX7_leaving_23 : decode cX7_leaving 23 = .ok (.ifCond .ne 5, 3) := by decide +kernel
theorem dX7_leaving_26 : decode cX7_leaving 26 = .ok (.iconst (-1), 1) := by decide +kernel
theorem dX7_leaving_27 : decode cX7_leaving 27 = .ok (.ireturn, 1) := by decide +kernel
theorem dX7_leaving_28 : decode cX7_leaving 28 = .ok (.iload_n 2, 1) := by decide +kernel
theorem dX7_leaving_29 : decode cX7_leaving 29 = .ok (.iload_n 3, 1) := by decide +kernel
theorem dX7_leaving_30 : decode cX7_leaving 30 = .ok (.if_icmp .le 7, 3) := by decide +kernel
theorem dX7_leaving_33 : decode cX7_leaving 33 = .ok (.iload_n 2, 1) := by decide +kernel
theorem dX7_leaving_34 : decode cX7_leaving 34 = .ok (.goto 4, 3) := by decide +kernel
theorem dX7_leaving_37 : decode cX7_leaving 37 = .ok (.iload_n 3, 1) := by decide +kernel
theorem dX7_leaving_38 : decode cX7_leaving 38 = .ok (.istore 6, 2) := by decide +kernel
theorem dX7_leaving_40 : decode cX7_leaving 40 = .ok (.iload 4, 2) := by decide +kernel
theorem dX7_leaving_42 : decode cX7_leaving 42 = .ok (.iload 5, 2) := by decide +kernel
theorem dX7_leaving_44 : decode cX7_leaving 44 = .ok (.if_icmp .ge 7, 3) := by decide +kernel
theorem dX7_leaving_47 : decode cX7_leaving 47 = .ok (.iload_n 2, 1) := by decide +kernel
theorem dX7_leaving_48 : decode cX7_leaving 48 = .ok (.goto 16, 3) := by decide +kernel
theorem dX7_leaving_51 : decode cX7_leaving 51 = .ok (.iload 5, 2) := by decide +kernel
theorem dX7_leaving_53 : decode cX7_leaving 53 = .ok (.iload 4, 2) := by decide +kernel
theorem dX7_leaving_55 : decode cX7_leaving 55 = .ok (.if_icmp .ge 7, 3) := by decide +kernel
theorem dX7_leaving_58 : decode cX7_leaving 58 = .ok (.iload_n 3, 1) := by decide +kernel
theorem dX7_leaving_59 : decode cX7_leaving 59 = .ok (.goto 5, 3) := by decide +kernel
theorem dX7_leaving_62 : decode cX7_leaving 62 = .ok (.iload 6, 2) := by decide +kernel
theorem dX7_leaving_64 : decode cX7_leaving 64 = .ok (.ireturn, 1) := by decide +kernel
theorem dX7_leavers_0 : decode cX7_leavers 0 = .ok (.iconst 0, 1) := by decide +kernel
theorem dX7_leavers_1 : decode cX7_leavers 1 = .ok (.istore_n 3, 1) := by decide +kernel
theorem dX7_leavers_2 : decode cX7_leavers 2 = .ok (.iconst 0, 1) := by decide +kernel
theorem dX7_leavers_3 : decode cX7_leavers 3 = .ok (.istore 4, 2) := by decide +kernel
theorem dX7_leavers_5 : decode cX7_leavers 5 = .ok (.iload 4, 2) := by decide +kernel
theorem dX7_leavers_7 : decode cX7_leavers 7 = .ok (.aload_n 0, 1) := by decide +kernel
theorem dX7_leavers_8 : decode cX7_leavers 8 = .ok (.getfield 7, 3) := by decide +kernel
theorem dX7_leavers_11 : decode cX7_leavers 11 = .ok (.iconst 1, 1) := by decide +kernel
theorem dX7_leavers_12 : decode cX7_leavers 12 = .ok (.iaload, 1) := by decide +kernel
theorem dX7_leavers_13 : decode cX7_leavers 13 = .ok (.if_icmp .ge 40, 3) := by decide +kernel
theorem dX7_leavers_16 : decode cX7_leavers 16 = .ok (.aload_n 0, 1) := by decide +kernel
theorem dX7_leavers_17 : decode cX7_leavers 17 = .ok (.iload 4, 2) := by decide +kernel
theorem dX7_leavers_19 : decode cX7_leavers 19 = .ok (.iload_n 1, 1) := by decide +kernel
theorem dX7_leavers_20 : decode cX7_leavers 20 = .ok (.iload_n 2, 1) := by decide +kernel
theorem dX7_leavers_21 : decode cX7_leavers 21 = .ok (.invokevirtual 81, 3) := by decide +kernel
theorem dX7_leavers_24 : decode cX7_leavers 24 = .ok (.istore 5, 2) := by decide +kernel
theorem dX7_leavers_26 : decode cX7_leavers 26 = .ok (.iload_n 3, 1) := by decide +kernel
theorem dX7_leavers_27 : decode cX7_leavers 27 = .ok (.iload 5, 2) := by decide +kernel
theorem dX7_leavers_29 : decode cX7_leavers 29 = .ok (.iconst (-1), 1) := by decide +kernel
theorem dX7_leavers_30 : decode cX7_leavers 30 = .ok (.if_icmp .ne 7, 3) := by decide +kernel
theorem dX7_leavers_33 : decode cX7_leavers 33 = .ok (.iconst 0, 1) := by decide +kernel
theorem dX7_leavers_34 : decode cX7_leavers 34 = .ok (.goto 11, 3) := by decide +kernel
theorem dX7_leavers_37 : decode cX7_leavers 37 = .ok (.aload_n 0, 1) := by decide +kernel
theorem dX7_leavers_38 : decode cX7_leavers 38 = .ok (.iload 4, 2) := by decide +kernel
theorem dX7_leavers_40 : decode cX7_leavers 40 = .ok (.iload 5, 2) := by decide +kernel
theorem dX7_leavers_42 : decode cX7_leavers 42 = .ok (.invokevirtual 78, 3) := by decide +kernel
theorem dX7_leavers_45 : decode cX7_leavers 45 = .ok (.iadd, 1) := by decide +kernel
theorem dX7_leavers_46 : decode cX7_leavers 46 = .ok (.istore_n 3, 1) := by decide +kernel
theorem dX7_leavers_47 : decode cX7_leavers 47 = .ok (.iinc 4 1, 3) := by decide +kernel
theorem dX7_leavers_50 : decode cX7_leavers 50 = .ok (.goto (-45), 3) := by decide +kernel
theorem dX7_leavers_53 : decode cX7_leavers 53 = .ok (.iload_n 3, 1) := by decide +kernel
theorem dX7_leavers_54 : decode cX7_leavers 54 = .ok (.ireturn, 1) := by decide +kernel
theorem dX7_copies_0 : decode cX7_copies 0 = .ok (.iconst 0, 1) := by decide +kernel
theorem dX7_copies_1 : decode cX7_copies 1 = .ok (.istore_n 3, 1) := by decide +kernel
theorem dX7_copies_2 : decode cX7_copies 2 = .ok (.iload_n 3, 1) := by decide +kernel
theorem dX7_copies_3 : decode cX7_copies 3 = .ok (.bipush 118, 2) := by decide +kernel
theorem dX7_copies_5 : decode cX7_copies 5 = .ok (.if_icmp .ge 31, 3) := by decide +kernel
theorem dX7_copies_8 : decode cX7_copies 8 = .ok (.aload_n 0, 1) := by decide +kernel
theorem dX7_copies_9 : decode cX7_copies 9 = .ok (.getfield 7, 3) := by decide +kernel
theorem dX7_copies_12 : decode cX7_copies 12 = .ok (.bipush 118, 2) := by decide +kernel
theorem dX7_copies_14 : decode cX7_copies 14 = .ok (.iload_n 2, 1) := by decide +kernel
theorem dX7_copies_15 : decode cX7_copies 15 = .ok (.imul, 1) := by decide +kernel
theorem dX7_copies_16 : decode cX7_copies 16 = .ok (.iload_n 3, 1) := by decide +kernel
theorem dX7_copies_17 : decode cX7_copies 17 = .ok (.iadd, 1) := by decide +kernel
theorem dX7_copies_18 : decode cX7_copies 18 = .ok (.aload_n 0, 1) := by decide +kernel
theorem dX7_copies_19 : decode cX7_copies 19 = .ok (.getfield 7, 3) := by decide +kernel
theorem dX7_copies_22 : decode cX7_copies 22 = .ok (.bipush 118, 2) := by decide +kernel
theorem dX7_copies_24 : decode cX7_copies 24 = .ok (.iload_n 1, 1) := by decide +kernel
theorem dX7_copies_25 : decode cX7_copies 25 = .ok (.imul, 1) := by decide +kernel
theorem dX7_copies_26 : decode cX7_copies 26 = .ok (.iload_n 3, 1) := by decide +kernel
theorem dX7_copies_27 : decode cX7_copies 27 = .ok (.iadd, 1) := by decide +kernel
theorem dX7_copies_28 : decode cX7_copies 28 = .ok (.iaload, 1) := by decide +kernel
theorem dX7_copies_29 : decode cX7_copies 29 = .ok (.iastore, 1) := by decide +kernel
theorem dX7_copies_30 : decode cX7_copies 30 = .ok (.iinc 3 1, 3) := by decide +kernel
theorem dX7_copies_33 : decode cX7_copies 33 = .ok (.goto (-31), 3) := by decide +kernel
theorem dX7_copies_36 : decode cX7_copies 36 = .ok (.return_, 1) := by decide +kernel
theorem dX7_save_0 : decode cX7_save 0 = .ok (.iconst 1, 1) := by decide +kernel
theorem dX7_save_1 : decode cX7_save 1 = .ok (.istore_n 1, 1) := by decide +kernel
theorem dX7_save_2 : decode cX7_save 2 = .ok (.iload_n 1, 1) := by decide +kernel
theorem dX7_save_3 : decode cX7_save 3 = .ok (.bipush 6, 2) := by decide +kernel
theorem dX7_save_5 : decode cX7_save 5 = .ok (.if_icmp .ge 26, 3) := by decide +kernel
theorem dX7_save_8 : decode cX7_save 8 = .ok (.aload_n 0, 1) := by decide +kernel
theorem dX7_save_9 : decode cX7_save 9 = .ok (.getfield 84, 3) := by decide +kernel
theorem dX7_save_12 : decode cX7_save 12 = .ok (.bipush 6, 2) := by decide +kernel
theorem dX7_save_14 : decode cX7_save 14 = .ok (.if_icmp .ne 17, 3) := by decide +kernel
theorem dX7_save_17 : decode cX7_save 17 = .ok (.aload_n 0, 1) := by decide +kernel
theorem dX7_save_18 : decode cX7_save 18 = .ok (.iload_n 1, 1) := by decide +kernel
theorem dX7_save_19 : decode cX7_save 19 = .ok (.iconst 1, 1) := by decide +kernel
theorem dX7_save_20 : decode cX7_save 20 = .ok (.iadd, 1) := by decide +kernel
theorem dX7_save_21 : decode cX7_save 21 = .ok (.iload_n 1, 1) := by decide +kernel
theorem dX7_save_22 : decode cX7_save 22 = .ok (.invokevirtual 87, 3) := by decide +kernel
theorem dX7_save_25 : decode cX7_save 25 = .ok (.iinc 1 1, 3) := by decide +kernel
theorem dX7_save_28 : decode cX7_save 28 = .ok (.goto (-26), 3) := by decide +kernel
theorem dX7_save_31 : decode cX7_save 31 = .ok (.aload_n 0, 1) := by decide +kernel
theorem dX7_save_32 : decode cX7_save 32 = .ok (.dup, 1) := by decide +kernel
theorem dX7_save_33 : decode cX7_save 33 = .ok (.getfield 84, 3) := by decide +kernel
theorem dX7_save_36 : decode cX7_save 36 = .ok (.aload_n 0, 1) := by decide +kernel
theorem dX7_save_37 : decode cX7_save 37 = .ok (.getfield 84, 3) := by decide +kernel
theorem dX7_save_40 : decode cX7_save 40 = .ok (.bipush 6, 2) := by decide +kernel
theorem dX7_save_42 : decode cX7_save 42 = .ok (.if_icmp .ge 7, 3) := by decide +kernel
theorem dX7_save_45 : decode cX7_save 45 = .ok (.iconst 1, 1) := by decide +kernel
theorem dX7_save_46 : decode cX7_save 46 = .ok (.goto 4, 3) := by decide +kernel
theorem dX7_save_49 : decode cX7_save 49 = .ok (.iconst 0, 1) := by decide +kernel
theorem dX7_save_50 : decode cX7_save 50 = .ok (.iadd, 1) := by decide +kernel
theorem dX7_save_51 : decode cX7_save 51 = .ok (.putfield 84, 3) := by decide +kernel
theorem dX7_save_54 : decode cX7_save 54 = .ok (.aload_n 0, 1) := by decide +kernel
theorem dX7_save_55 : decode cX7_save 55 = .ok (.iconst 0, 1) := by decide +kernel
theorem dX7_save_56 : decode cX7_save 56 = .ok (.aload_n 0, 1) := by decide +kernel
theorem dX7_save_57 : decode cX7_save 57 = .ok (.getfield 84, 3) := by decide +kernel
theorem dX7_save_60 : decode cX7_save 60 = .ok (.invokevirtual 87, 3) := by decide +kernel
theorem dX7_save_63 : decode cX7_save 63 = .ok (.return_, 1) := by decide +kernel
theorem dX7_guest_0 : decode cX7_guest 0 = .ok (.aload_n 0, 1) := by decide +kernel
theorem dX7_guest_1 : decode cX7_guest 1 = .ok (.iload_n 1, 1) := by decide +kernel
theorem dX7_guest_2 : decode cX7_guest 2 = .ok (.invokestatic 24, 3) := by decide +kernel
theorem dX7_guest_5 : decode cX7_guest 5 = .ok (.ifCond .eq 12, 3) := by decide +kernel
theorem dX7_guest_8 : decode cX7_guest 8 = .ok (.iload_n 2, 1) := by decide +kernel
theorem dX7_guest_9 : decode cX7_guest 9 = .ok (.iconst 1, 1) := by decide +kernel
theorem dX7_guest_10 : decode cX7_guest 10 = .ok (.iconst 3, 1) := by decide +kernel
theorem dX7_guest_11 : decode cX7_guest 11 = .ok (.invokestatic 20, 3) := by decide +kernel
theorem dX7_guest_14 : decode cX7_guest 14 = .ok (.ifCond .ne 7, 3) := by decide +kernel
theorem dX7_guest_17 : decode cX7_guest 17 = .ok (.iconst 1, 1) := by decide +kernel
theorem dX7_guest_18 : decode cX7_guest 18 = .ok (.goto 19, 3) := by decide +kernel
theorem dX7_guest_21 : decode cX7_guest 21 = .ok (.aload_n 0, 1) := by decide +kernel
theorem dX7_guest_22 : decode cX7_guest 22 = .ok (.getfield 7, 3) := by decide +kernel
theorem dX7_guest_25 : decode cX7_guest 25 = .ok (.iconst 0, 1) := by decide +kernel
theorem dX7_guest_26 : decode cX7_guest 26 = .ok (.iaload, 1) := by decide +kernel
theorem dX7_guest_27 : decode cX7_guest 27 = .ok (.bipush 16, 2) := by decide +kernel
theorem dX7_guest_29 : decode cX7_guest 29 = .ok (.if_icmp .ne 7, 3) := by decide +kernel
theorem dX7_guest_32 : decode cX7_guest 32 = .ok (.iconst 2, 1) := by decide +kernel
theorem dX7_guest_33 : decode cX7_guest 33 = .ok (.goto 4, 3) := by decide +kernel
theorem dX7_guest_36 : decode cX7_guest 36 = .ok (.iconst 0, 1) := by decide +kernel
theorem dX7_guest_37 : decode cX7_guest 37 = .ok (.invokevirtual 90, 3) := by decide +kernel
theorem dX7_guest_40 : decode cX7_guest 40 = .ok (.ifCond .ne 5, 3) := by decide +kernel
theorem dX7_guest_43 : decode cX7_guest 43 = .ok (.iconst 0, 1) := by decide +kernel
theorem dX7_guest_44 : decode cX7_guest 44 = .ok (.ireturn, 1) := by decide +kernel
theorem dX7_guest_45 : decode cX7_guest 45 = .ok (.aload_n 0, 1) := by decide +kernel
theorem dX7_guest_46 : decode cX7_guest 46 = .ok (.invokevirtual 93, 3) := by decide +kernel
theorem dX7_guest_49 : decode cX7_guest 49 = .ok (.aload_n 0, 1) := by decide +kernel
theorem dX7_guest_50 : decode cX7_guest 50 = .ok (.getfield 7, 3) := by decide +kernel
theorem dX7_guest_53 : decode cX7_guest 53 = .ok (.iconst 0, 1) := by decide +kernel
theorem dX7_guest_54 : decode cX7_guest 54 = .ok (.iaload, 1) := by decide +kernel
theorem dX7_guest_55 : decode cX7_guest 55 = .ok (.istore_n 3, 1) := by decide +kernel
theorem dX7_guest_56 : decode cX7_guest 56 = .ok (.aload_n 0, 1) := by decide +kernel
theorem dX7_guest_57 : decode cX7_guest 57 = .ok (.getfield 7, 3) := by decide +kernel
theorem dX7_guest_60 : decode cX7_guest 60 = .ok (.iconst 0, 1) := by decide +kernel
theorem dX7_guest_61 : decode cX7_guest 61 = .ok (.dup2, 1) := by decide +kernel
theorem dX7_guest_62 : decode cX7_guest 62 = .ok (.iaload, 1) := by decide +kernel
theorem dX7_guest_63 : decode cX7_guest 63 = .ok (.iconst 1, 1) := by decide +kernel
theorem dX7_guest_64 : decode cX7_guest 64 = .ok (.iadd, 1) := by decide +kernel
theorem dX7_guest_65 : decode cX7_guest 65 = .ok (.iastore, 1) := by decide +kernel
theorem dX7_guest_66 : decode cX7_guest 66 = .ok (.aload_n 0, 1) := by decide +kernel
theorem dX7_guest_67 : decode cX7_guest 67 = .ok (.iconst 0, 1) := by decide +kernel
theorem dX7_guest_68 : decode cX7_guest 68 = .ok (.iload_n 3, 1) := by decide +kernel
theorem dX7_guest_69 : decode cX7_guest 69 = .ok (.iconst 0, 1) := by decide +kernel
theorem dX7_guest_70 : decode cX7_guest 70 = .ok (.iload_n 1, 1) := by decide +kernel
theorem dX7_guest_71 : decode cX7_guest 71 = .ok (.invokevirtual 54, 3) := by decide +kernel
theorem dX7_guest_74 : decode cX7_guest 74 = .ok (.aload_n 0, 1) := by decide +kernel
theorem dX7_guest_75 : decode cX7_guest 75 = .ok (.iconst 0, 1) := by decide +kernel
theorem dX7_guest_76 : decode cX7_guest 76 = .ok (.iload_n 3, 1) := by decide +kernel
theorem dX7_guest_77 : decode cX7_guest 77 = .ok (.iconst 1, 1) := by decide +kernel
theorem dX7_guest_78 : decode cX7_guest 78 = .ok (.iload_n 2, 1) := by decide +kernel
theorem dX7_guest_79 : decode cX7_guest 79 = .ok (.invokevirtual 54, 3) := by decide +kernel
theorem dX7_guest_82 : decode cX7_guest 82 = .ok (.aload_n 0, 1) := by decide +kernel
theorem dX7_guest_83 : decode cX7_guest 83 = .ok (.iconst 0, 1) := by decide +kernel
theorem dX7_guest_84 : decode cX7_guest 84 = .ok (.iload_n 3, 1) := by decide +kernel
theorem dX7_guest_85 : decode cX7_guest 85 = .ok (.iconst 2, 1) := by decide +kernel
theorem dX7_guest_86 : decode cX7_guest 86 = .ok (.iconst (-1), 1) := by decide +kernel
theorem dX7_guest_87 : decode cX7_guest 87 = .ok (.invokevirtual 54, 3) := by decide +kernel
theorem dX7_guest_90 : decode cX7_guest 90 = .ok (.aload_n 0, 1) := by decide +kernel
theorem dX7_guest_91 : decode cX7_guest 91 = .ok (.iconst 0, 1) := by decide +kernel
theorem dX7_guest_92 : decode cX7_guest 92 = .ok (.iload_n 3, 1) := by decide +kernel
theorem dX7_guest_93 : decode cX7_guest 93 = .ok (.iconst 3, 1) := by decide +kernel
theorem dX7_guest_94 : decode cX7_guest 94 = .ok (.iconst (-1), 1) := by decide +kernel
theorem dX7_guest_95 : decode cX7_guest 95 = .ok (.invokevirtual 54, 3) := by decide +kernel
theorem dX7_guest_98 : decode cX7_guest 98 = .ok (.aload_n 0, 1) := by decide +kernel
theorem dX7_guest_99 : decode cX7_guest 99 = .ok (.iconst 0, 1) := by decide +kernel
theorem dX7_guest_100 : decode cX7_guest 100 = .ok (.iload_n 3, 1) := by decide +kernel
theorem dX7_guest_101 : decode cX7_guest 101 = .ok (.iconst 4, 1) := by decide +kernel
theorem dX7_guest_102 : decode cX7_guest 102 = .ok (.iconst (-1), 1) := by decide +kernel
theorem dX7_guest_103 : decode cX7_guest 103 = .ok (.invokevirtual 54, 3) := by decide +kernel
theorem dX7_guest_106 : decode cX7_guest 106 = .ok (.iload_n 3, 1) := by decide +kernel
theorem dX7_guest_107 : decode cX7_guest 107 = .ok (.ireturn, 1) := by decide +kernel
theorem dX7_wish_0 : decode cX7_wish 0 = .ok (.aload_n 0, 1) := by decide +kernel
theorem dX7_wish_1 : decode cX7_wish 1 = .ok (.iload_n 1, 1) := by decide +kernel
theorem dX7_wish_2 : decode cX7_wish 2 = .ok (.invokevirtual 96, 3) := by decide +kernel
theorem dX7_wish_5 : decode cX7_wish 5 = .ok (.ifCond .eq 20, 3) := by decide +kernel
theorem dX7_wish_8 : decode cX7_wish 8 = .ok (.iload_n 2, 1) := by decide +kernel
theorem dX7_wish_9 : decode cX7_wish 9 = .ok (.iconst (-1), 1) := by decide +kernel
theorem dX7_wish_10 : decode cX7_wish 10 = .ok (.if_icmp .eq 11, 3) := by decide +kernel
theorem dX7_wish_13 : decode cX7_wish 13 = .ok (.aload_n 0, 1) := by decide +kernel
theorem dX7_wish_14 : decode cX7_wish 14 = .ok (.iload_n 2, 1) := by decide +kernel
theorem dX7_wish_15 : decode cX7_wish 15 = .ok (.invokevirtual 96, 3) := by decide +kernel
theorem dX7_wish_18 : decode cX7_wish 18 = .ok (.ifCond .eq 7, 3) := by decide +kernel
theorem dX7_wish_21 : decode cX7_wish 21 = .ok (.iconst 1, 1) := by decide +kernel
theorem dX7_wish_22 : decode cX7_wish 22 = .ok (.goto 4, 3) := by decide +kernel
theorem dX7_wish_25 : decode cX7_wish 25 = .ok (.iconst 0, 1) := by decide +kernel
theorem dX7_wish_26 : decode cX7_wish 26 = .ok (.istore_n 3, 1) := by decide +kernel
theorem dX7_wish_27 : decode cX7_wish 27 = .ok (.aload_n 0, 1) := by decide +kernel
theorem dX7_wish_28 : decode cX7_wish 28 = .ok (.iload_n 3, 1) := by decide +kernel
theorem dX7_wish_29 : decode cX7_wish 29 = .ok (.ifCond .ne 7, 3) := by decide +kernel
theorem dX7_wish_32 : decode cX7_wish 32 = .ok (.iconst 1, 1) := by decide +kernel
theorem dX7_wish_33 : decode cX7_wish 33 = .ok (.goto 13, 3) := by decide +kernel
theorem dX7_wish_36 : decode cX7_wish 36 = .ok (.iload_n 2, 1) := by decide +kernel
theorem dX7_wish_37 : decode cX7_wish 37 = .ok (.iload_n 1, 1) := by decide +kernel
theorem dX7_wish_38 : decode cX7_wish 38 = .ok (.if_icmp .ne 7, 3) := by decide +kernel
theorem dX7_wish_41 : decode cX7_wish 41 = .ok (.iconst 2, 1) := by decide +kernel
theorem dX7_wish_42 : decode cX7_wish 42 = .ok (.goto 4, 3) := by decide +kernel
theorem dX7_wish_45 : decode cX7_wish 45 = .ok (.iconst 0, 1) := by decide +kernel
theorem dX7_wish_46 : decode cX7_wish 46 = .ok (.invokevirtual 90, 3) := by decide +kernel
theorem dX7_wish_49 : decode cX7_wish 49 = .ok (.ifCond .ne 5, 3) := by decide +kernel
theorem dX7_wish_52 : decode cX7_wish 52 = .ok (.iconst 0, 1) := by decide +kernel
theorem dX7_wish_53 : decode cX7_wish 53 = .ok (.ireturn, 1) := by decide +kernel
theorem dX7_wish_54 : decode cX7_wish 54 = .ok (.aload_n 0, 1) := by decide +kernel
theorem dX7_wish_55 : decode cX7_wish 55 = .ok (.invokevirtual 93, 3) := by decide +kernel
theorem dX7_wish_58 : decode cX7_wish 58 = .ok (.aload_n 0, 1) := by decide +kernel
theorem dX7_wish_59 : decode cX7_wish 59 = .ok (.iconst 0, 1) := by decide +kernel
theorem dX7_wish_60 : decode cX7_wish 60 = .ok (.iload_n 1, 1) := by decide +kernel
theorem dX7_wish_61 : decode cX7_wish 61 = .ok (.iconst 2, 1) := by decide +kernel
theorem dX7_wish_62 : decode cX7_wish 62 = .ok (.invokevirtual 31, 3) := by decide +kernel
theorem dX7_wish_65 : decode cX7_wish 65 = .ok (.istore 4, 2) := by decide +kernel
theorem dX7_wish_67 : decode cX7_wish 67 = .ok (.aload_n 0, 1) := by decide +kernel
theorem dX7_wish_68 : decode cX7_wish 68 = .ok (.iconst 0, 1) := by decide +kernel
theorem dX7_wish_69 : decode cX7_wish 69 = .ok (.iload_n 1, 1) := by decide +kernel
theorem dX7_wish_70 : decode cX7_wish 70 = .ok (.iconst 2, 1) := by decide +kernel
theorem dX7_wish_71 : decode cX7_wish 71 = .ok (.iload_n 2, 1) := by decide +kernel
theorem dX7_wish_72 : decode cX7_wish 72 = .ok (.invokevirtual 54, 3) := by decide +kernel
theorem dX7_wish_75 : decode cX7_wish 75 = .ok (.iload 4, 2) := by decide +kernel
theorem dX7_wish_77 : decode cX7_wish 77 = .ok (.ireturn, 1) := by decide +kernel
theorem dX7_table_0 : decode cX7_table 0 = .ok (.aload_n 0, 1) := by decide +kernel
theorem dX7_table_1 : decode cX7_table 1 = .ok (.iload_n 1, 1) := by decide +kernel
theorem dX7_table_2 : decode cX7_table 2 = .ok (.iconst 3, 1) := by decide +kernel
theorem dX7_table_3 : decode cX7_table 3 = .ok (.bipush 8, 2) := by decide +kernel
theorem dX7_table_5 : decode cX7_table 5 = .ok (.invokestatic 20, 3) := by decide +kernel
theorem dX7_table_8 : decode cX7_table 8 = .ok (.ifCond .ne 7, 3) := by decide +kernel
theorem dX7_table_11 : decode cX7_table 11 = .ok (.iconst 1, 1) := by decide +kernel
theorem dX7_table_12 : decode cX7_table 12 = .ok (.goto 18, 3) := by decide +kernel
theorem dX7_table_15 : decode cX7_table 15 = .ok (.aload_n 0, 1) := by decide +kernel
theorem dX7_table_16 : decode cX7_table 16 = .ok (.getfield 7, 3) := by decide +kernel
theorem dX7_table_19 : decode cX7_table 19 = .ok (.iconst 1, 1) := by decide +kernel
theorem dX7_table_20 : decode cX7_table 20 = .ok (.iaload, 1) := by decide +kernel
theorem dX7_table_21 : decode cX7_table 21 = .ok (.iconst 4, 1) := by decide +kernel
theorem dX7_table_22 : decode cX7_table 22 = .ok (.if_icmp .ne 7, 3) := by decide +kernel
theorem dX7_table_25 : decode cX7_table 25 = .ok (.iconst 2, 1) := by decide +kernel
theorem dX7_table_26 : decode cX7_table 26 = .ok (.goto 4, 3) := by decide +kernel
theorem dX7_table_29 : decode cX7_table 29 = .ok (.iconst 0, 1) := by decide +kernel
theorem dX7_table_30 : decode cX7_table 30 = .ok (.invokevirtual 90, 3) := by decide +kernel
theorem dX7_table_33 : decode cX7_table 33 = .ok (.ifCond .ne 5, 3) := by decide +kernel
theorem dX7_table_36 : decode cX7_table 36 = .ok (.iconst 0, 1) := by decide +kernel
theorem dX7_table_37 : decode cX7_table 37 = .ok (.ireturn, 1) := by decide +kernel
theorem dX7_table_38 : decode cX7_table 38 = .ok (.aload_n 0, 1) := by decide +kernel
theorem dX7_table_39 : decode cX7_table 39 = .ok (.invokevirtual 93, 3) := by decide +kernel
theorem dX7_table_42 : decode cX7_table 42 = .ok (.aload_n 0, 1) := by decide +kernel
theorem dX7_table_43 : decode cX7_table 43 = .ok (.getfield 7, 3) := by decide +kernel
theorem dX7_table_46 : decode cX7_table 46 = .ok (.bipush 18, 2) := by decide +kernel
theorem dX7_table_48 : decode cX7_table 48 = .ok (.aload_n 0, 1) := by decide +kernel
theorem dX7_table_49 : decode cX7_table 49 = .ok (.getfield 7, 3) := by decide +kernel
theorem dX7_table_52 : decode cX7_table 52 = .ok (.iconst 1, 1) := by decide +kernel
theorem dX7_table_53 : decode cX7_table 53 = .ok (.iaload, 1) := by decide +kernel
theorem dX7_table_54 : decode cX7_table 54 = .ok (.iadd, 1) := by decide +kernel
theorem dX7_table_55 : decode cX7_table 55 = .ok (.iload_n 1, 1) := by decide +kernel
theorem dX7_table_56 : decode cX7_table 56 = .ok (.iastore, 1) := by decide +kernel
theorem dX7_table_57 : decode cX7_table 57 = .ok (.aload_n 0, 1) := by decide +kernel
theorem dX7_table_58 : decode cX7_table 58 = .ok (.getfield 7, 3) := by decide +kernel
theorem dX7_table_61 : decode cX7_table 61 = .ok (.iconst 1, 1) := by decide +kernel
theorem dX7_table_62 : decode cX7_table 62 = .ok (.dup2, 1) := by decide +kernel
theorem dX7_table_63 : decode cX7_table 63 = .ok (.iaload, 1) := by decide +kernel
theorem dX7_table_64 : decode cX7_table 64 = .ok (.iconst 1, 1) := by decide +kernel
theorem dX7_table_65 : decode cX7_table 65 = .ok (.iadd, 1) := by decide +kernel
theorem dX7_table_66 : decode cX7_table 66 = .ok (.iastore, 1) := by decide +kernel
theorem dX7_table_67 : decode cX7_table 67 = .ok (.aload_n 0, 1) := by decide +kernel
theorem dX7_table_68 : decode cX7_table 68 = .ok (.getfield 7, 3) := by decide +kernel
theorem dX7_table_71 : decode cX7_table 71 = .ok (.iconst 1, 1) := by decide +kernel
theorem dX7_table_72 : decode cX7_table 72 = .ok (.iaload, 1) := by decide +kernel
theorem dX7_table_73 : decode cX7_table 73 = .ok (.iconst 1, 1) := by decide +kernel
theorem dX7_table_74 : decode cX7_table 74 = .ok (.isub, 1) := by decide +kernel
theorem dX7_table_75 : decode cX7_table 75 = .ok (.ireturn, 1) := by decide +kernel
theorem dX7_feud_0 : decode cX7_feud 0 = .ok (.iload_n 1, 1) := by decide +kernel
theorem dX7_feud_1 : decode cX7_feud 1 = .ok (.iload_n 2, 1) := by decide +kernel
theorem dX7_feud_2 : decode cX7_feud 2 = .ok (.invokestatic 99, 3) := by decide +kernel
theorem dX7_feud_5 : decode cX7_feud 5 = .ok (.istore_n 3, 1) := by decide +kernel
theorem dX7_feud_6 : decode cX7_feud 6 = .ok (.iload_n 3, 1) := by decide +kernel
theorem dX7_feud_7 : decode cX7_feud 7 = .ok (.ifCond .eq 21, 3) := by decide +kernel
theorem dX7_feud_10 : decode cX7_feud 10 = .ok (.aload_n 0, 1) := by decide +kernel
theorem dX7_feud_11 : decode cX7_feud 11 = .ok (.iconst 0, 1) := by decide +kernel
theorem dX7_feud_12 : decode cX7_feud 12 = .ok (.iload_n 1, 1) := by decide +kernel
theorem dX7_feud_13 : decode cX7_feud 13 = .ok (.iload_n 2, 1) := by decide +kernel
theorem dX7_feud_14 : decode cX7_feud 14 = .ok (.invokestatic 41, 3) := by decide +kernel
theorem dX7_feud_17 : decode cX7_feud 17 = .ok (.invokevirtual 45, 3) := by decide +kernel
theorem dX7_feud_20 : decode cX7_feud 20 = .ok (.iconst (-1), 1) := by decide +kernel
theorem dX7_feud_21 : decode cX7_feud 21 = .ok (.if_icmp .eq 7, 3) := by decide +kernel
theorem dX7_feud_24 : decode cX7_feud 24 = .ok (.iconst 1, 1) := by decide +kernel
theorem dX7_feud_25 : decode cX7_feud 25 = .ok (.goto 4, 3) := by decide +kernel
theorem dX7_feud_28 : decode cX7_feud 28 = .ok (.iconst 0, 1) := by decide +kernel
theorem dX7_feud_29 : decode cX7_feud 29 = .ok (.istore 4, 2) := by decide +kernel
theorem dX7_feud_31 : decode cX7_feud 31 = .ok (.aload_n 0, 1) := by decide +kernel
theorem dX7_feud_32 : decode cX7_feud 32 = .ok (.iload_n 3, 1) := by decide +kernel
theorem dX7_feud_33 : decode cX7_feud 33 = .ok (.ifCond .ne 7, 3) := by decide +kernel
theorem dX7_feud_36 : decode cX7_feud 36 = .ok (.iconst 1, 1) := by decide +kernel
theorem dX7_feud_37 : decode cX7_feud 37 = .ok (.goto 24, 3) := by decide +kernel
theorem dX7_feud_40 : decode cX7_feud 40 = .ok (.iload 4, 2) := by decide +kernel
theorem dX7_feud_42 : decode cX7_feud 42 = .ok (.ifCond .ne 14, 3) := by decide +kernel
theorem dX7_feud_45 : decode cX7_feud 45 = .ok (.aload_n 0, 1) := by decide +kernel
theorem dX7_feud_46 : decode cX7_feud 46 = .ok (.getfield 7, 3) := by decide +kernel
theorem dX7_feud_49 : decode cX7_feud 49 = .ok (.iconst 2, 1) := by decide +kernel
theorem dX7_feud_50 : decode cX7_feud 50 = .ok (.iaload, 1) := by decide +kernel
theorem dX7_feud_51 : decode cX7_feud 51 = .ok (.bipush 8, 2) := by decide +kernel
theorem dX7_feud_53 : decode cX7_feud 53 = .ok (.if_icmp .ne 7, 3) := by decide +kernel
theorem dX7_feud_56 : decode cX7_feud 56 = .ok (.iconst 2, 1) := by decide +kernel
theorem dX7_feud_57 : decode cX7_feud 57 = .ok (.goto 4, 3) := by decide +kernel
theorem dX7_feud_60 : decode cX7_feud 60 = .ok (.iconst 0, 1) := by decide +kernel
theorem dX7_feud_61 : decode cX7_feud 61 = .ok (.invokevirtual 90, 3) := by decide +kernel
theorem dX7_feud_64 : decode cX7_feud 64 = .ok (.ifCond .ne 5, 3) := by decide +kernel
theorem dX7_feud_67 : decode cX7_feud 67 = .ok (.iconst 0, 1) := by decide +kernel
theorem dX7_feud_68 : decode cX7_feud 68 = .ok (.ireturn, 1) := by decide +kernel
theorem dX7_feud_69 : decode cX7_feud 69 = .ok (.aload_n 0, 1) := by decide +kernel
theorem dX7_feud_70 : decode cX7_feud 70 = .ok (.invokevirtual 93, 3) := by decide +kernel
theorem dX7_feud_73 : decode cX7_feud 73 = .ok (.iconst 0, 1) := by decide +kernel
theorem dX7_feud_74 : decode cX7_feud 74 = .ok (.istore 5, 2) := by decide +kernel
theorem dX7_feud_76 : decode cX7_feud 76 = .ok (.iconst 0, 1) := by decide +kernel
theorem dX7_feud_77 : decode cX7_feud 77 = .ok (.istore 6, 2) := by decide +kernel
theorem dX7_feud_79 : decode cX7_feud 79 = .ok (.iload 6, 2) := by decide +kernel
theorem dX7_feud_81 : decode cX7_feud 81 = .ok (.aload_n 0, 1) := by decide +kernel
theorem dX7_feud_82 : decode cX7_feud 82 = .ok (.getfield 7, 3) := by decide +kernel
theorem dX7_feud_85 : decode cX7_feud 85 = .ok (.iconst 1, 1) := by decide +kernel
theorem dX7_feud_86 : decode cX7_feud 86 = .ok (.iaload, 1) := by decide +kernel
theorem dX7_feud_87 : decode cX7_feud 87 = .ok (.if_icmp .ge 81, 3) := by decide +kernel
theorem dX7_feud_90 : decode cX7_feud 90 = .ok (.aload_n 0, 1) := by decide +kernel
theorem dX7_feud_91 : decode cX7_feud 91 = .ok (.iload 6, 2) := by decide +kernel
theorem dX7_feud_93 : decode cX7_feud 93 = .ok (.iload_n 1, 1) := by decide +kernel
theorem dX7_feud_94 : decode cX7_feud 94 = .ok (.iload_n 2, 1) := by decide +kernel
theorem dX7_feud_95 : decode cX7_feud 95 = .ok (.invokevirtual 81, 3) := by decide +kernel
theorem dX7_feud_98 : decode cX7_feud 98 = .ok (.istore 7, 2) := by decide +kernel
theorem dX7_feud_100 : decode cX7_feud 100 = .ok (.iconst 0, 1) := by decide +kernel
theorem dX7_feud_101 : decode cX7_feud 101 = .ok (.istore 8, 2) := by decide +kernel
theorem dX7_feud_103 : decode cX7_feud 103 = .ok (.iload 8, 2) := by decide +kernel
theorem dX7_feud_105 : decode cX7_feud 105 = .ok (.aload_n 0, 1) := by decide +kernel
theorem dX7_feud_106 : decode cX7_feud 106 = .ok (.getfield 7, 3) := by decide +kernel
theorem dX7_feud_109 : decode cX7_feud 109 = .ok (.iconst 0, 1) := by decide +kernel
theorem dX7_feud_110 : decode cX7_feud 110 = .ok (.iaload, 1) := by decide +kernel
theorem dX7_feud_111 : decode cX7_feud 111 = .ok (.if_icmp .ge 51, 3) := by decide +kernel
theorem dX7_feud_114 : decode cX7_feud 114 = .ok (.iload 7, 2) := by decide +kernel
theorem dX7_feud_116 : decode cX7_feud 116 = .ok (.iconst (-1), 1) := by decide +kernel
theorem dX7_feud_117 : decode cX7_feud 117 = .ok (.if_icmp .eq 45, 3) := by decide +kernel
theorem dX7_feud_120 : decode cX7_feud 120 = .ok (.aload_n 0, 1) := by decide +kernel
theorem dX7_feud_121 : decode cX7_feud 121 = .ok (.iconst 0, 1) := by decide +kernel
theorem dX7_feud_122 : decode cX7_feud 122 = .ok (.iload 8, 2) := by decide +kernel
theorem dX7_feud_124 : decode cX7_feud 124 = .ok (.iconst 3, 1) := by decide +kernel
theorem dX7_feud_125 : decode cX7_feud 125 = .ok (.invokevirtual 31, 3) := by decide +kernel
theorem dX7_feud_128 : decode cX7_feud 128 = .ok (.iload 6, 2) := by decide +kernel
theorem dX7_feud_130 : decode cX7_feud 130 = .ok (.if_icmp .ne 26, 3) := by decide +kernel
theorem dX7_feud_133 : decode cX7_feud 133 = .ok (.aload_n 0, 1) := by decide +kernel
theorem dX7_feud_134 : decode cX7_feud 134 = .ok (.iconst 0, 1) := by decide +kernel
theorem dX7_feud_135 : decode cX7_feud 135 = .ok (.iload 8, 2) := by decide +kernel
theorem dX7_feud_137 : decode cX7_feud 137 = .ok (.iconst 0, 1) := by decide +kernel
theorem dX7_feud_138 : decode cX7_feud 138 = .ok (.invokevirtual 31, 3) := by decide +kernel
theorem dX7_feud_141 : decode cX7_feud 141 = .ok (.iload 7, 2) := by decide +kernel
theorem dX7_feud_143 : decode cX7_feud 143 = .ok (.if_icmp .ne 13, 3) := by decide +kernel
theorem dX7_feud_146 : decode cX7_feud 146 = .ok (.aload_n 0, 1) := by decide +kernel
theorem dX7_feud_147 : decode cX7_feud 147 = .ok (.iconst 0, 1) := by decide +kernel
theorem dX7_feud_148 : decode cX7_feud 148 = .ok (.iload 8, 2) := by decide +kernel
theorem dX7_feud_150 : decode cX7_feud 150 = .ok (.invokevirtual 68, 3) := by decide +kernel
theorem dX7_feud_153 : decode cX7_feud 153 = .ok (.iinc 5 1, 3) := by decide +kernel
theorem dX7_feud_156 : decode cX7_feud 156 = .ok (.iinc 8 1, 3) := by decide +kernel
theorem dX7_feud_159 : decode cX7_feud 159 = .ok (.goto (-56), 3) := by decide +kernel
theorem dX7_feud_162 : decode cX7_feud 162 = .ok (.iinc 6 1, 3) := by decide +kernel
theorem dX7_feud_165 : decode cX7_feud 165 = .ok (.goto (-86), 3) := by decide +kernel
theorem dX7_feud_168 : decode cX7_feud 168 = .ok (.aload_n 0, 1) := by decide +kernel
theorem dX7_feud_169 : decode cX7_feud 169 = .ok (.getfield 7, 3) := by decide +kernel
theorem dX7_feud_172 : decode cX7_feud 172 = .ok (.bipush 10, 2) := by decide +kernel
theorem dX7_feud_174 : decode cX7_feud 174 = .ok (.aload_n 0, 1) := by decide +kernel
theorem dX7_feud_175 : decode cX7_feud 175 = .ok (.getfield 7, 3) := by decide +kernel
theorem dX7_feud_178 : decode cX7_feud 178 = .ok (.iconst 2, 1) := by decide +kernel
theorem dX7_feud_179 : decode cX7_feud 179 = .ok (.iaload, 1) := by decide +kernel
theorem dX7_feud_180 : decode cX7_feud 180 = .ok (.iadd, 1) := by decide +kernel
theorem dX7_feud_181 : decode cX7_feud 181 = .ok (.iload_n 1, 1) := by decide +kernel
theorem dX7_feud_182 : decode cX7_feud 182 = .ok (.iload_n 2, 1) := by decide +kernel
theorem dX7_feud_183 : decode cX7_feud 183 = .ok (.invokestatic 41, 3) := by decide +kernel
theorem dX7_feud_186 : decode cX7_feud 186 = .ok (.iastore, 1) := by decide +kernel
theorem dX7_feud_187 : decode cX7_feud 187 = .ok (.aload_n 0, 1) := by decide +kernel
theorem dX7_feud_188 : decode cX7_feud 188 = .ok (.getfield 7, 3) := by decide +kernel
theorem dX7_feud_191 : decode cX7_feud 191 = .ok (.iconst 2, 1) := by decide +kernel
theorem dX7_feud_192 : decode cX7_feud 192 = .ok (.dup2, 1) := by decide +kernel
theorem dX7_feud_193 : decode cX7_feud 193 = .ok (.iaload, 1) := by decide +kernel
theorem dX7_feud_194 : decode cX7_feud 194 = .ok (.iconst 1, 1) := by decide +kernel
theorem dX7_feud_195 : decode cX7_feud 195 = .ok (.iadd, 1) := by decide +kernel
theorem dX7_feud_196 : decode cX7_feud 196 = .ok (.iastore, 1) := by decide +kernel
theorem dX7_feud_197 : decode cX7_feud 197 = .ok (.iload 5, 2) := by decide +kernel
theorem dX7_feud_199 : decode cX7_feud 199 = .ok (.ireturn, 1) := by decide +kernel
theorem dX7_peace_0 : decode cX7_peace 0 = .ok (.iload_n 1, 1) := by decide +kernel
theorem dX7_peace_1 : decode cX7_peace 1 = .ok (.iload_n 2, 1) := by decide +kernel
theorem dX7_peace_2 : decode cX7_peace 2 = .ok (.invokestatic 99, 3) := by decide +kernel
theorem dX7_peace_5 : decode cX7_peace 5 = .ok (.istore_n 3, 1) := by decide +kernel
theorem dX7_peace_6 : decode cX7_peace 6 = .ok (.iload_n 3, 1) := by decide +kernel
theorem dX7_peace_7 : decode cX7_peace 7 = .ok (.ifCond .eq 16, 3) := by decide +kernel
theorem dX7_peace_10 : decode cX7_peace 10 = .ok (.aload_n 0, 1) := by decide +kernel
theorem dX7_peace_11 : decode cX7_peace 11 = .ok (.iconst 0, 1) := by decide +kernel
theorem dX7_peace_12 : decode cX7_peace 12 = .ok (.iload_n 1, 1) := by decide +kernel
theorem dX7_peace_13 : decode cX7_peace 13 = .ok (.iload_n 2, 1) := by decide +kernel
theorem dX7_peace_14 : decode cX7_peace 14 = .ok (.invokestatic 41, 3) := by decide +kernel
theorem dX7_peace_17 : decode cX7_peace 17 = .ok (.invokevirtual 45, 3) := by decide +kernel
theorem dX7_peace_20 : decode cX7_peace 20 = .ok (.goto 4, 3) := by decide +kernel
theorem dX7_peace_23 : decode cX7_peace 23 = .ok (.iconst (-1), 1) := by decide +kernel
theorem dX7_peace_24 : decode cX7_peace 24 = .ok (.istore 4, 2) := by decide +kernel
theorem dX7_peace_26 : decode cX7_peace 26 = .ok (.aload_n 0, 1) := by decide +kernel
theorem dX7_peace_27 : decode cX7_peace 27 = .ok (.iload_n 3, 1) := by decide +kernel
theorem dX7_peace_28 : decode cX7_peace 28 = .ok (.ifCond .ne 7, 3) := by decide +kernel
theorem dX7_peace_31 : decode cX7_peace 31 = .ok (.iconst 1, 1) := by decide +kernel
theorem dX7_peace_32 : decode cX7_peace 32 = .ok (.goto 14, 3) := by decide +kernel
theorem dX7_peace_35 : decode cX7_peace 35 = .ok (.iload 4, 2) := by decide +kernel
theorem dX7_peace_37 : decode cX7_peace 37 = .ok (.iconst (-1), 1) := by decide +kernel
theorem dX7_peace_38 : decode cX7_peace 38 = .ok (.if_icmp .ne 7, 3) := by decide +kernel
theorem dX7_peace_41 : decode cX7_peace 41 = .ok (.iconst 2, 1) := by decide +kernel
theorem dX7_peace_42 : decode cX7_peace 42 = .ok (.goto 4, 3) := by decide +kernel
theorem dX7_peace_45 : decode cX7_peace 45 = .ok (.iconst 0, 1) := by decide +kernel
theorem dX7_peace_46 : decode cX7_peace 46 = .ok (.invokevirtual 90, 3) := by decide +kernel
theorem dX7_peace_49 : decode cX7_peace 49 = .ok (.ifCond .ne 5, 3) := by decide +kernel
theorem dX7_peace_52 : decode cX7_peace 52 = .ok (.iconst 0, 1) := by decide +kernel
theorem dX7_peace_53 : decode cX7_peace 53 = .ok (.ireturn, 1) := by decide +kernel
theorem dX7_peace_54 : decode cX7_peace 54 = .ok (.aload_n 0, 1) := by decide +kernel
theorem dX7_peace_55 : decode cX7_peace 55 = .ok (.invokevirtual 93, 3) := by decide +kernel
theorem dX7_peace_58 : decode cX7_peace 58 = .ok (.aload_n 0, 1) := by decide +kernel
theorem dX7_peace_59 : decode cX7_peace 59 = .ok (.getfield 7, 3) := by decide +kernel
theorem dX7_peace_62 : decode cX7_peace 62 = .ok (.iconst 2, 1) := by decide +kernel
theorem dX7_peace_63 : decode cX7_peace 63 = .ok (.dup2, 1) := by decide +kernel
theorem dX7_peace_64 : decode cX7_peace 64 = .ok (.iaload, 1) := by decide +kernel
theorem dX7_peace_65 : decode cX7_peace 65 = .ok (.iconst 1, 1) := by decide +kernel
theorem dX7_peace_66 : decode cX7_peace 66 = .ok (.isub, 1) := by decide +kernel
theorem dX7_peace_67 : decode cX7_peace 67 = .ok (.iastore, 1) := by decide +kernel
theorem dX7_peace_68 : decode cX7_peace 68 = .ok (.iload 4, 2) := by decide +kernel
theorem dX7_peace_70 : decode cX7_peace 70 = .ok (.istore 5, 2) := by decide +kernel
theorem dX7_peace_72 : decode cX7_peace 72 = .ok (.iload 5, 2) := by decide +kernel
theorem dX7_peace_74 : decode cX7_peace 74 = .ok (.aload_n 0, 1) := by decide +kernel
theorem dX7_peace_75 : decode cX7_peace 75 = .ok (.getfield 7, 3) := by decide +kernel
theorem dX7_peace_78 : decode cX7_peace 78 = .ok (.iconst 2, 1) := by decide +kernel
theorem dX7_peace_79 : decode cX7_peace 79 = .ok (.iaload, 1) := by decide +kernel
theorem dX7_peace_80 : decode cX7_peace 80 = .ok (.if_icmp .ge 31, 3) := by decide +kernel
theorem dX7_peace_83 : decode cX7_peace 83 = .ok (.aload_n 0, 1) := by decide +kernel
theorem dX7_peace_84 : decode cX7_peace 84 = .ok (.getfield 7, 3) := by decide +kernel
theorem dX7_peace_87 : decode cX7_peace 87 = .ok (.bipush 10, 2) := by decide +kernel
theorem dX7_peace_89 : decode cX7_peace 89 = .ok (.iload 5, 2) := by decide +kernel
theorem dX7_peace_91 : decode cX7_peace 91 = .ok (.iadd, 1) := by decide +kernel
theorem dX7_peace_92 : decode cX7_peace 92 = .ok (.aload_n 0, 1) := by decide +kernel
theorem dX7_peace_93 : decode cX7_peace 93 = .ok (.getfield 7, 3) := by decide +kernel
theorem dX7_peace_96 : decode cX7_peace 96 = .ok (.bipush 10, 2) := by decide +kernel
theorem dX7_peace_98 : decode cX7_peace 98 = .ok (.iload 5, 2) := by decide +kernel
theorem dX7_peace_100 : decode cX7_peace 100 = .ok (.iadd, 1) := by decide +kernel
theorem dX7_peace_101 : decode cX7_peace 101 = .ok (.iconst 1, 1) := by decide +kernel
theorem dX7_peace_102 : decode cX7_peace 102 = .ok (.iadd, 1) := by decide +kernel
theorem dX7_peace_103 : decode cX7_peace 103 = .ok (.iaload, 1) := by decide +kernel
theorem dX7_peace_104 : decode cX7_peace 104 = .ok (.iastore, 1) := by decide +kernel
theorem dX7_peace_105 : decode cX7_peace 105 = .ok (.iinc 5 1, 3) := by decide +kernel
theorem dX7_peace_108 : decode cX7_peace 108 = .ok (.goto (-36), 3) := by decide +kernel
theorem dX7_peace_111 : decode cX7_peace 111 = .ok (.aload_n 0, 1) := by decide +kernel
theorem dX7_peace_112 : decode cX7_peace 112 = .ok (.getfield 7, 3) := by decide +kernel
theorem dX7_peace_115 : decode cX7_peace 115 = .ok (.iconst 2, 1) := by decide +kernel
theorem dX7_peace_116 : decode cX7_peace 116 = .ok (.iaload, 1) := by decide +kernel
theorem dX7_peace_117 : decode cX7_peace 117 = .ok (.ireturn, 1) := by decide +kernel
theorem dX7_mostOf_0 : decode cX7_mostOf 0 = .ok (.iload_n 0, 1) := by decide +kernel
theorem dX7_mostOf_1 : decode cX7_mostOf 1 = .ok (.ifCond .ne 8, 3) := by decide +kernel
theorem dX7_mostOf_4 : decode cX7_mostOf 4 = .ok (.bipush 8, 2) := by decide +kernel
theorem dX7_mostOf_6 : decode cX7_mostOf 6 = .ok (.goto 15, 3) := by decide +kernel
theorem dX7_mostOf_9 : decode cX7_mostOf 9 = .ok (.iload_n 0, 1) := by decide +kernel
theorem dX7_mostOf_10 : decode cX7_mostOf 10 = .ok (.iconst 3, 1) := by decide +kernel
theorem dX7_mostOf_11 : decode cX7_mostOf 11 = .ok (.if_icmp .ne 8, 3) := by decide +kernel
theorem dX7_mostOf_14 : decode cX7_mostOf 14 = .ok (.bipush 9, 2) := by decide +kernel
theorem dX7_mostOf_16 : decode cX7_mostOf 16 = .ok (.goto 5, 3) := by decide +kernel
theorem dX7_mostOf_19 : decode cX7_mostOf 19 = .ok (.bipush 20, 2) := by decide +kernel
theorem dX7_mostOf_21 : decode cX7_mostOf 21 = .ok (.ireturn, 1) := by decide +kernel
theorem dX7_set_0 : decode cX7_set 0 = .ok (.aload_n 0, 1) := by decide +kernel
theorem dX7_set_1 : decode cX7_set 1 = .ok (.iload_n 1, 1) := by decide +kernel
theorem dX7_set_2 : decode cX7_set 2 = .ok (.iconst 0, 1) := by decide +kernel
theorem dX7_set_3 : decode cX7_set 3 = .ok (.iconst 3, 1) := by decide +kernel
theorem dX7_set_4 : decode cX7_set 4 = .ok (.invokestatic 20, 3) := by decide +kernel
theorem dX7_set_7 : decode cX7_set 7 = .ok (.ifCond .ne 7, 3) := by decide +kernel
theorem dX7_set_10 : decode cX7_set 10 = .ok (.iconst 1, 1) := by decide +kernel
theorem dX7_set_11 : decode cX7_set 11 = .ok (.goto 28, 3) := by decide +kernel
theorem dX7_set_14 : decode cX7_set 14 = .ok (.iload_n 2, 1) := by decide +kernel
theorem dX7_set_15 : decode cX7_set 15 = .ok (.iload_n 1, 1) := by decide +kernel
theorem dX7_set_16 : decode cX7_set 16 = .ok (.ifCond .ne 7, 3) := by decide +kernel
theorem dX7_set_19 : decode cX7_set 19 = .ok (.iconst 1, 1) := by decide +kernel
theorem dX7_set_20 : decode cX7_set 20 = .ok (.goto 4, 3) := by decide +kernel
theorem dX7_set_23 : decode cX7_set 23 = .ok (.iconst 0, 1) := by decide +kernel
theorem dX7_set_24 : decode cX7_set 24 = .ok (.iload_n 1, 1) := by decide +kernel
theorem dX7_set_25 : decode cX7_set 25 = .ok (.invokestatic 103, 3) := by decide +kernel
theorem dX7_set_28 : decode cX7_set 28 = .ok (.invokestatic 20, 3) := by decide +kernel
theorem dX7_set_31 : decode cX7_set 31 = .ok (.ifCond .ne 7, 3) := by decide +kernel
theorem dX7_set_34 : decode cX7_set 34 = .ok (.iconst 2, 1) := by decide +kernel
theorem dX7_set_35 : decode cX7_set 35 = .ok (.goto 4, 3) := by decide +kernel
theorem dX7_set_38 : decode cX7_set 38 = .ok (.iconst 0, 1) := by decide +kernel
theorem dX7_set_39 : decode cX7_set 39 = .ok (.invokevirtual 90, 3) := by decide +kernel
theorem dX7_set_42 : decode cX7_set 42 = .ok (.ifCond .ne 5, 3) := by decide +kernel
theorem dX7_set_45 : decode cX7_set 45 = .ok (.iconst 0, 1) := by decide +kernel
theorem dX7_set_46 : decode cX7_set 46 = .ok (.ireturn, 1) := by decide +kernel
theorem dX7_set_47 : decode cX7_set 47 = .ok (.aload_n 0, 1) := by decide +kernel
theorem dX7_set_48 : decode cX7_set 48 = .ok (.invokevirtual 93, 3) := by decide +kernel
theorem dX7_set_51 : decode cX7_set 51 = .ok (.aload_n 0, 1) := by decide +kernel
theorem dX7_set_52 : decode cX7_set 52 = .ok (.getfield 7, 3) := by decide +kernel
theorem dX7_set_55 : decode cX7_set 55 = .ok (.bipush 6, 2) := by decide +kernel
theorem dX7_set_57 : decode cX7_set 57 = .ok (.iload_n 1, 1) := by decide +kernel
theorem dX7_set_58 : decode cX7_set 58 = .ok (.iadd, 1) := by decide +kernel
theorem dX7_set_59 : decode cX7_set 59 = .ok (.iaload, 1) := by decide +kernel
theorem dX7_set_60 : decode cX7_set 60 = .ok (.istore_n 3, 1) := by decide +kernel
theorem dX7_set_61 : decode cX7_set 61 = .ok (.aload_n 0, 1) := by decide +kernel
theorem dX7_set_62 : decode cX7_set 62 = .ok (.getfield 7, 3) := by decide +kernel
theorem dX7_set_65 : decode cX7_set 65 = .ok (.bipush 6, 2) := by decide +kernel
theorem dX7_set_67 : decode cX7_set 67 = .ok (.iload_n 1, 1) := by decide +kernel
theorem dX7_set_68 : decode cX7_set 68 = .ok (.iadd, 1) := by decide +kernel
theorem dX7_set_69 : decode cX7_set 69 = .ok (.iload_n 2, 1) := by decide +kernel
theorem dX7_set_70 : decode cX7_set 70 = .ok (.iastore, 1) := by decide +kernel
theorem dX7_set_71 : decode cX7_set 71 = .ok (.iload_n 3, 1) := by decide +kernel
theorem dX7_set_72 : decode cX7_set 72 = .ok (.ireturn, 1) := by decide +kernel
theorem dX7_sit_0 : decode cX7_sit 0 = .ok (.aload_n 0, 1) := by decide +kernel
theorem dX7_sit_1 : decode cX7_sit 1 = .ok (.iload_n 1, 1) := by decide +kernel
theorem dX7_sit_2 : decode cX7_sit 2 = .ok (.invokevirtual 96, 3) := by decide +kernel
theorem dX7_sit_5 : decode cX7_sit 5 = .ok (.ifCond .eq 16, 3) := by decide +kernel
theorem dX7_sit_8 : decode cX7_sit 8 = .ok (.aload_n 0, 1) := by decide +kernel
theorem dX7_sit_9 : decode cX7_sit 9 = .ok (.iload_n 2, 1) := by decide +kernel
theorem dX7_sit_10 : decode cX7_sit 10 = .ok (.iload_n 3, 1) := by decide +kernel
theorem dX7_sit_11 : decode cX7_sit 11 = .ok (.invokevirtual 107, 3) := by decide +kernel
theorem dX7_sit_14 : decode cX7_sit 14 = .ok (.ifCond .eq 7, 3) := by decide +kernel
theorem dX7_sit_17 : decode cX7_sit 17 = .ok (.iconst 1, 1) := by decide +kernel
theorem dX7_sit_18 : decode cX7_sit 18 = .ok (.goto 4, 3) := by decide +kernel
theorem dX7_sit_21 : decode cX7_sit 21 = .ok (.iconst 0, 1) := by decide +kernel
theorem dX7_sit_22 : decode cX7_sit 22 = .ok (.istore 4, 2) := by decide +kernel
theorem dX7_sit_24 : decode cX7_sit 24 = .ok (.aload_n 0, 1) := by decide +kernel
theorem dX7_sit_25 : decode cX7_sit 25 = .ok (.iload 4, 2) := by decide +kernel
theorem dX7_sit_27 : decode cX7_sit 27 = .ok (.ifCond .ne 7, 3) := by decide +kernel
theorem dX7_sit_30 : decode cX7_sit 30 = .ok (.iconst 1, 1) := by decide +kernel
theorem dX7_sit_31 : decode cX7_sit 31 = .ok (.goto 19, 3) := by decide +kernel
theorem dX7_sit_34 : decode cX7_sit 34 = .ok (.aload_n 0, 1) := by decide +kernel
theorem dX7_sit_35 : decode cX7_sit 35 = .ok (.iconst 0, 1) := by decide +kernel
theorem dX7_sit_36 : decode cX7_sit 36 = .ok (.iload_n 1, 1) := by decide +kernel
theorem dX7_sit_37 : decode cX7_sit 37 = .ok (.iload_n 2, 1) := by decide +kernel
theorem dX7_sit_38 : decode cX7_sit 38 = .ok (.iload_n 3, 1) := by decide +kernel
theorem dX7_sit_39 : decode cX7_sit 39 = .ok (.invokevirtual 61, 3) := by decide +kernel
theorem dX7_sit_42 : decode cX7_sit 42 = .ok (.ifCond .le 7, 3) := by decide +kernel
theorem dX7_sit_45 : decode cX7_sit 45 = .ok (.iconst 2, 1) := by decide +kernel
theorem dX7_sit_46 : decode cX7_sit 46 = .ok (.goto 4, 3) := by decide +kernel
theorem dX7_sit_49 : decode cX7_sit 49 = .ok (.iconst 0, 1) := by decide +kernel
theorem dX7_sit_50 : decode cX7_sit 50 = .ok (.invokevirtual 90, 3) := by decide +kernel
theorem dX7_sit_53 : decode cX7_sit 53 = .ok (.ifCond .ne 5, 3) := by decide +kernel
theorem dX7_sit_56 : decode cX7_sit 56 = .ok (.iconst 0, 1) := by decide +kernel
theorem dX7_sit_57 : decode cX7_sit 57 = .ok (.ireturn, 1) := by decide +kernel
theorem dX7_sit_58 : decode cX7_sit 58 = .ok (.aload_n 0, 1) := by decide +kernel
theorem dX7_sit_59 : decode cX7_sit 59 = .ok (.invokevirtual 93, 3) := by decide +kernel
theorem dX7_sit_62 : decode cX7_sit 62 = .ok (.aload_n 0, 1) := by decide +kernel
theorem dX7_sit_63 : decode cX7_sit 63 = .ok (.iconst 0, 1) := by decide +kernel
theorem dX7_sit_64 : decode cX7_sit 64 = .ok (.iload_n 1, 1) := by decide +kernel
theorem dX7_sit_65 : decode cX7_sit 65 = .ok (.iload_n 2, 1) := by decide +kernel
theorem dX7_sit_66 : decode cX7_sit 66 = .ok (.iload_n 3, 1) := by decide +kernel
theorem dX7_sit_67 : decode cX7_sit 67 = .ok (.invokevirtual 75, 3) := by decide +kernel
theorem dX7_sit_70 : decode cX7_sit 70 = .ok (.aload_n 0, 1) := by decide +kernel
theorem dX7_sit_71 : decode cX7_sit 71 = .ok (.iconst 0, 1) := by decide +kernel
theorem dX7_sit_72 : decode cX7_sit 72 = .ok (.iconst (-1), 1) := by decide +kernel
theorem dX7_sit_73 : decode cX7_sit 73 = .ok (.invokevirtual 58, 3) := by decide +kernel
theorem dX7_sit_76 : decode cX7_sit 76 = .ok (.ireturn, 1) := by decide +kernel
theorem dX7_rise_0 : decode cX7_rise 0 = .ok (.aload_n 0, 1) := by decide +kernel
theorem dX7_rise_1 : decode cX7_rise 1 = .ok (.iload_n 1, 1) := by decide +kernel
theorem dX7_rise_2 : decode cX7_rise 2 = .ok (.invokevirtual 96, 3) := by decide +kernel
theorem dX7_rise_5 : decode cX7_rise 5 = .ok (.istore_n 2, 1) := by decide +kernel
theorem dX7_rise_6 : decode cX7_rise 6 = .ok (.aload_n 0, 1) := by decide +kernel
theorem dX7_rise_7 : decode cX7_rise 7 = .ok (.iload_n 2, 1) := by decide +kernel
theorem dX7_rise_8 : decode cX7_rise 8 = .ok (.ifCond .ne 7, 3) := by decide +kernel
theorem dX7_rise_11 : decode cX7_rise 11 = .ok (.iconst 1, 1) := by decide +kernel
theorem dX7_rise_12 : decode cX7_rise 12 = .ok (.goto 19, 3) := by decide +kernel
theorem dX7_rise_15 : decode cX7_rise 15 = .ok (.aload_n 0, 1) := by decide +kernel
theorem dX7_rise_16 : decode cX7_rise 16 = .ok (.iconst 0, 1) := by decide +kernel
theorem dX7_rise_17 : decode cX7_rise 17 = .ok (.iload_n 1, 1) := by decide +kernel
theorem dX7_rise_18 : decode cX7_rise 18 = .ok (.iconst 3, 1) := by decide +kernel
theorem dX7_rise_19 : decode cX7_rise 19 = .ok (.invokevirtual 31, 3) := by decide +kernel
theorem dX7_rise_22 : decode cX7_rise 22 = .ok (.iconst (-1), 1) := by decide +kernel
theorem dX7_rise_23 : decode cX7_rise 23 = .ok (.if_icmp .ne 7, 3) := by decide +kernel
theorem dX7_rise_26 : decode cX7_rise 26 = .ok (.iconst 2, 1) := by decide +kernel
theorem dX7_rise_27 : decode cX7_rise 27 = .ok (.goto 4, 3) := by decide +kernel
theorem dX7_rise_30 : decode cX7_rise 30 = .ok (.iconst 0, 1) := by decide +kernel
theorem dX7_rise_31 : decode cX7_rise 31 = .ok (.invokevirtual 90, 3) := by decide +kernel
theorem dX7_rise_34 : decode cX7_rise 34 = .ok (.ifCond .ne 5, 3) := by decide +kernel
theorem dX7_rise_37 : decode cX7_rise 37 = .ok (.iconst 0, 1) := by decide +kernel
theorem dX7_rise_38 : decode cX7_rise 38 = .ok (.ireturn, 1) := by decide +kernel
theorem dX7_rise_39 : decode cX7_rise 39 = .ok (.aload_n 0, 1) := by decide +kernel
theorem dX7_rise_40 : decode cX7_rise 40 = .ok (.invokevirtual 93, 3) := by decide +kernel
theorem dX7_rise_43 : decode cX7_rise 43 = .ok (.aload_n 0, 1) := by decide +kernel
theorem dX7_rise_44 : decode cX7_rise 44 = .ok (.iconst 0, 1) := by decide +kernel
theorem dX7_rise_45 : decode cX7_rise 45 = .ok (.iload_n 1, 1) := by decide +kernel
theorem dX7_rise_46 : decode cX7_rise 46 = .ok (.invokevirtual 68, 3) := by decide +kernel
theorem dX7_rise_49 : decode cX7_rise 49 = .ok (.aload_n 0, 1) := by decide +kernel
theorem dX7_rise_50 : decode cX7_rise 50 = .ok (.iconst 0, 1) := by decide +kernel
theorem dX7_rise_51 : decode cX7_rise 51 = .ok (.iconst (-1), 1) := by decide +kernel
theorem dX7_rise_52 : decode cX7_rise 52 = .ok (.invokevirtual 58, 3) := by decide +kernel
theorem dX7_rise_55 : decode cX7_rise 55 = .ok (.ireturn, 1) := by decide +kernel
theorem dX7_canSwap_0 : decode cX7_canSwap 0 = .ok (.aload_n 0, 1) := by decide +kernel
theorem dX7_canSwap_1 : decode cX7_canSwap 1 = .ok (.iconst 0, 1) := by decide +kernel
theorem dX7_canSwap_2 : decode cX7_canSwap 2 = .ok (.iload_n 1, 1) := by decide +kernel
theorem dX7_canSwap_3 : decode cX7_canSwap 3 = .ok (.iconst 3, 1) := by decide +kernel
theorem dX7_canSwap_4 : decode cX7_canSwap 4 = .ok (.invokevirtual 31, 3) := by decide +kernel
theorem dX7_canSwap_7 : decode cX7_canSwap 7 = .ok (.istore_n 3, 1) := by decide +kernel
theorem dX7_canSwap_8 : decode cX7_canSwap 8 = .ok (.aload_n 0, 1) := by decide +kernel
theorem dX7_canSwap_9 : decode cX7_canSwap 9 = .ok (.iconst 0, 1) := by decide +kernel
theorem dX7_canSwap_10 : decode cX7_canSwap 10 = .ok (.iload_n 1, 1) := by decide +kernel
theorem dX7_canSwap_11 : decode cX7_canSwap 11 = .ok (.iconst 4, 1) := by decide +kernel
theorem dX7_canSwap_12 : decode cX7_canSwap 12 = .ok (.invokevirtual 31, 3) := by decide +kernel
theorem dX7_canSwap_15 : decode cX7_canSwap 15 = .ok (.istore 4, 2) := by decide +kernel
theorem dX7_canSwap_17 : decode cX7_canSwap 17 = .ok (.aload_n 0, 1) := by decide +kernel
theorem dX7_canSwap_18 : decode cX7_canSwap 18 = .ok (.iconst 0, 1) := by decide +kernel
theorem dX7_canSwap_19 : decode cX7_canSwap 19 = .ok (.iload_n 2, 1) := by decide +kernel
theorem dX7_canSwap_20 : decode cX7_canSwap 20 = .ok (.iconst 3, 1) := by decide +kernel
theorem dX7_canSwap_21 : decode cX7_canSwap 21 = .ok (.invokevirtual 31, 3) := by decide +kernel
theorem dX7_canSwap_24 : decode cX7_canSwap 24 = .ok (.istore 5, 2) := by decide +kernel
theorem dX7_canSwap_26 : decode cX7_canSwap 26 = .ok (.aload_n 0, 1) := by decide +kernel
theorem dX7_canSwap_27 : decode cX7_canSwap 27 = .ok (.iconst 0, 1) := by decide +kernel
theorem dX7_canSwap_28 : decode cX7_canSwap 28 = .ok (.iload_n 2, 1) := by decide +kernel
theorem dX7_canSwap_29 : decode cX7_canSwap 29 = .ok (.iconst 4, 1) := by decide +kernel
theorem dX7_canSwap_30 : decode cX7_canSwap 30 = .ok (.invokevirtual 31, 3) := by decide +kernel
theorem dX7_canSwap_33 : decode cX7_canSwap 33 = .ok (.istore 6, 2) := by decide +kernel
theorem dX7_canSwap_35 : decode cX7_canSwap 35 = .ok (.aload_n 0, 1) := by decide +kernel
theorem dX7_canSwap_36 : decode cX7_canSwap 36 = .ok (.iconst 0, 1) := by decide +kernel
theorem dX7_canSwap_37 : decode cX7_canSwap 37 = .ok (.bipush 8, 2) := by decide +kernel
theorem dX7_canSwap_39 : decode cX7_canSwap 39 = .ok (.invokevirtual 87, 3) := by decide +kernel
theorem dX7_canSwap_42 : decode cX7_canSwap 42 = .ok (.aload_n 0, 1) := by decide +kernel
theorem dX7_canSwap_43 : decode cX7_canSwap 43 = .ok (.sipush 944, 3) := by decide +kernel
theorem dX7_canSwap_46 : decode cX7_canSwap 46 = .ok (.iload_n 1, 1) := by decide +kernel
theorem dX7_canSwap_47 : decode cX7_canSwap 47 = .ok (.invokevirtual 68, 3) := by decide +kernel
theorem dX7_canSwap_50 : decode cX7_canSwap 50 = .ok (.aload_n 0, 1) := by decide +kernel
theorem dX7_canSwap_51 : decode cX7_canSwap 51 = .ok (.sipush 944, 3) := by decide +kernel
theorem dX7_canSwap_54 : decode cX7_canSwap 54 = .ok (.iload_n 2, 1) := by decide +kernel
theorem dX7_canSwap_55 : decode cX7_canSwap 55 = .ok (.invokevirtual 68, 3) := by decide +kernel
theorem dX7_canSwap_58 : decode cX7_canSwap 58 = .ok (.aload_n 0, 1) := by decide +kernel
theorem dX7_canSwap_59 : decode cX7_canSwap 59 = .ok (.sipush 944, 3) := by decide +kernel
theorem dX7_canSwap_62 : decode cX7_canSwap 62 = .ok (.iload_n 1, 1) := by decide +kernel
theorem dX7_canSwap_63 : decode cX7_canSwap 63 = .ok (.iload 5, 2) := by decide +kernel
theorem dX7_canSwap_65 : decode cX7_canSwap 65 = .ok (.iload 6, 2) := by decide +kernel
theorem dX7_canSwap_67 : decode cX7_canSwap 67 = .ok (.invokevirtual 61, 3) := by decide +kernel
theorem dX7_canSwap_70 : decode cX7_canSwap 70 = .ok (.ifCond .ne 7, 3) := by decide +kernel
theorem dX7_canSwap_73 : decode cX7_canSwap 73 = .ok (.iconst 1, 1) := by decide +kernel
theorem dX7_canSwap_74 : decode cX7_canSwap 74 = .ok (.goto 4, 3) := by decide +kernel
theorem dX7_canSwap_77 : decode cX7_canSwap 77 = .ok (.iconst 0, 1) := by decide +kernel
theorem dX7_canSwap_78 : decode cX7_canSwap 78 = .ok (.istore 7, 2) := by decide +kernel
theorem dX7_canSwap_80 : decode cX7_canSwap 80 = .ok (.aload_n 0, 1) := by decide +kernel
theorem dX7_canSwap_81 : decode cX7_canSwap 81 = .ok (.sipush 944, 3) := by decide +kernel
theorem dX7_canSwap_84 : decode cX7_canSwap 84 = .ok (.iload_n 1, 1) := by decide +kernel
theorem dX7_canSwap_85 : decode cX7_canSwap 85 = .ok (.iload 5, 2) := by decide +kernel
theorem dX7_canSwap_87 : decode cX7_canSwap 87 = .ok (.iload 6, 2) := by decide +kernel
theorem dX7_canSwap_89 : decode cX7_canSwap 89 = .ok (.invokevirtual 75, 3) := by decide +kernel
theorem dX7_canSwap_92 : decode cX7_canSwap 92 = .ok (.iload 7, 2) := by decide +kernel
theorem dX7_canSwap_94 : decode cX7_canSwap 94 = .ok (.ifCond .eq 21, 3) := by decide +kernel
theorem dX7_canSwap_97 : decode cX7_canSwap 97 = .ok (.aload_n 0, 1) := by decide +kernel
theorem dX7_canSwap_98 : decode cX7_canSwap 98 = .ok (.sipush 944, 3) := by decide +kernel
theorem dX7_canSwap_101 : decode cX7_canSwap 101 = .ok (.iload_n 2, 1) := by decide +kernel
theorem dX7_canSwap_102 : decode cX7_canSwap 102 = .ok (.iload_n 3, 1) := by decide +kernel
theorem dX7_canSwap_103 : decode cX7_canSwap 103 = .ok (.iload 4, 2) := by decide +kernel
theorem dX7_canSwap_105 : decode cX7_canSwap 105 = .ok (.invokevirtual 61, 3) := by decide +kernel
theorem dX7_canSwap_108 : decode cX7_canSwap 108 = .ok (.ifCond .ne 7, 3) := by decide +kernel
theorem dX7_canSwap_111 : decode cX7_canSwap 111 = .ok (.iconst 1, 1) := by decide +kernel
theorem dX7_canSwap_112 : decode cX7_canSwap 112 = .ok (.goto 4, 3) := by decide +kernel
theorem dX7_canSwap_115 : decode cX7_canSwap 115 = .ok (.iconst 0, 1) := by decide +kernel
theorem dX7_canSwap_116 : decode cX7_canSwap 116 = .ok (.istore 7, 2) := by decide +kernel
theorem dX7_canSwap_118 : decode cX7_canSwap 118 = .ok (.aload_n 0, 1) := by decide +kernel
theorem dX7_canSwap_119 : decode cX7_canSwap 119 = .ok (.sipush 944, 3) := by decide +kernel
theorem dX7_canSwap_122 : decode cX7_canSwap 122 = .ok (.iload_n 2, 1) := by decide +kernel
theorem dX7_canSwap_123 : decode cX7_canSwap 123 = .ok (.iload_n 3, 1) := by decide +kernel
theorem dX7_canSwap_124 : decode cX7_canSwap 124 = .ok (.iload 4, 2) := by decide +kernel
theorem dX7_canSwap_126 : decode cX7_canSwap 126 = .ok (.invokevirtual 75, 3) := by decide +kernel
theorem dX7_canSwap_129 : decode cX7_canSwap 129 = .ok (.iload 7, 2) := by decide +kernel
theorem dX7_canSwap_131 : decode cX7_canSwap 131 = .ok (.ireturn, 1) := by decide +kernel
theorem dX7_swap_0 : decode cX7_swap 0 = .ok (.aload_n 0, 1) := by decide +kernel
theorem dX7_swap_1 : decode cX7_swap 1 = .ok (.iload_n 1, 1) := by decide +kernel
theorem dX7_swap_2 : decode cX7_swap 2 = .ok (.invokevirtual 96, 3) := by decide +kernel
theorem dX7_swap_5 : decode cX7_swap 5 = .ok (.ifCond .eq 15, 3) := by decide +kernel
theorem dX7_swap_8 : decode cX7_swap 8 = .ok (.aload_n 0, 1) := by decide +kernel
theorem dX7_swap_9 : decode cX7_swap 9 = .ok (.iload_n 2, 1) := by decide +kernel
theorem dX7_swap_10 : decode cX7_swap 10 = .ok (.invokevirtual 96, 3) := by decide +kernel
theorem dX7_swap_13 : decode cX7_swap 13 = .ok (.ifCond .eq 7, 3) := by decide +kernel
theorem dX7_swap_16 : decode cX7_swap 16 = .ok (.iconst 1, 1) := by decide +kernel
theorem dX7_swap_17 : decode cX7_swap 17 = .ok (.goto 4, 3) := by decide +kernel
theorem dX7_swap_20 : decode cX7_swap 20 = .ok (.iconst 0, 1) := by decide +kernel
theorem dX7_swap_21 : decode cX7_swap 21 = .ok (.istore_n 3, 1) := by decide +kernel
theorem dX7_swap_22 : decode cX7_swap 22 = .ok (.iload_n 3, 1) := by decide +kernel
theorem dX7_swap_23 : decode cX7_swap 23 = .ok (.ifCond .eq 43, 3) := by decide +kernel
theorem dX7_swap_26 : decode cX7_swap 26 = .ok (.iload_n 1, 1) := by decide +kernel
theorem dX7_swap_27 : decode cX7_swap 27 = .ok (.iload_n 2, 1) := by decide +kernel
theorem dX7_swap_28 : decode cX7_swap 28 = .ok (.if_icmp .eq 38, 3) := by decide +kernel
theorem dX7_swap_31 : decode cX7_swap 31 = .ok (.aload_n 0, 1) := by decide +kernel
theorem dX7_swap_32 : decode cX7_swap 32 = .ok (.iconst 0, 1) := by decide +kernel
theorem dX7_swap_33 : decode cX7_swap 33 = .ok (.iload_n 1, 1) := by decide +kernel
theorem dX7_swap_34 : decode cX7_swap 34 = .ok (.iconst 3, 1) := by decide +kernel
theorem dX7_swap_35 : decode cX7_swap 35 = .ok (.invokevirtual 31, 3) := by decide +kernel
theorem dX7_swap_38 : decode cX7_swap 38 = .ok (.iconst (-1), 1) := by decide +kernel
theorem dX7_swap_39 : decode cX7_swap 39 = .ok (.if_icmp .eq 27, 3) := by decide +kernel
theorem dX7_swap_42 : decode cX7_swap 42 = .ok (.aload_n 0, 1) := by decide +kernel
theorem dX7_swap_43 : decode cX7_swap 43 = .ok (.iconst 0, 1) := by decide +kernel
theorem dX7_swap_44 : decode cX7_swap 44 = .ok (.iload_n 2, 1) := by decide +kernel
theorem dX7_swap_45 : decode cX7_swap 45 = .ok (.iconst 3, 1) := by decide +kernel
theorem dX7_swap_46 : decode cX7_swap 46 = .ok (.invokevirtual 31, 3) := by decide +kernel
theorem dX7_swap_49 : decode cX7_swap 49 = .ok (.iconst (-1), 1) := by decide +kernel
theorem dX7_swap_50 : decode cX7_swap 50 = .ok (.if_icmp .eq 16, 3) := by decide +kernel
theorem dX7_swap_53 : decode cX7_swap 53 = .ok (.aload_n 0, 1) := by decide +kernel
theorem dX7_swap_54 : decode cX7_swap 54 = .ok (.iload_n 1, 1) := by decide +kernel
theorem dX7_swap_55 : decode cX7_swap 55 = .ok (.iload_n 2, 1) := by decide +kernel
theorem dX7_swap_56 : decode cX7_swap 56 = .ok (.invokevirtual 110, 3) := by decide +kernel
theorem dX7_swap_59 : decode cX7_swap 59 = .ok (.ifCond .eq 7, 3) := by decide +kernel
theorem dX7_swap_62 : decode cX7_swap 62 = .ok (.iconst 1, 1) := by decide +kernel
theorem dX7_swap_63 : decode cX7_swap 63 = .ok (.goto 4, 3) := by decide +kernel
theorem dX7_swap_66 : decode cX7_swap 66 = .ok (.iconst 0, 1) := by decide +kernel
theorem dX7_swap_67 : decode cX7_swap 67 = .ok (.istore 4, 2) := by decide +kernel
theorem dX7_swap_69 : decode cX7_swap 69 = .ok (.aload_n 0, 1) := by decide +kernel
theorem dX7_swap_70 : decode cX7_swap 70 = .ok (.iload_n 3, 1) := by decide +kernel
theorem dX7_swap_71 : decode cX7_swap 71 = .ok (.ifCond .ne 7, 3) := by decide +kernel
theorem dX7_swap_74 : decode cX7_swap 74 = .ok (.iconst 1, 1) := by decide +kernel
theorem dX7_swap_75 : decode cX7_swap 75 = .ok (.goto 22, 3) := by decide +kernel
theorem dX7_swap_78 : decode cX7_swap 78 = .ok (.iload_n 1, 1) := by decide +kernel
theorem dX7_swap_79 : decode cX7_swap 79 = .ok (.iload_n 2, 1) := by decide +kernel
theorem dX7_swap_80 : decode cX7_swap 80 = .ok (.if_icmp .ne 7, 3) := by decide +kernel
theorem dX7_swap_83 : decode cX7_swap 83 = .ok (.iconst 2, 1) := by decide +kernel
theorem dX7_swap_84 : decode cX7_swap 84 = .ok (.goto 13, 3) := by decide +kernel
theorem dX7_swap_87 : decode cX7_swap 87 = .ok (.iload 4, 2) := by decide +kernel
theorem dX7_swap_89 : decode cX7_swap 89 = .ok (.ifCond .ne 7, 3) := by decide +kernel
theorem dX7_swap_92 : decode cX7_swap 92 = .ok (.iconst 3, 1) := by decide +kernel
theorem dX7_swap_93 : decode cX7_swap 93 = .ok (.goto 4, 3) := by decide +kernel
theorem dX7_swap_96 : decode cX7_swap 96 = .ok (.iconst 0, 1) := by decide +kernel
theorem dX7_swap_97 : decode cX7_swap 97 = .ok (.invokevirtual 90, 3) := by decide +kernel
theorem dX7_swap_100 : decode cX7_swap 100 = .ok (.ifCond .ne 5, 3) := by decide +kernel
theorem dX7_swap_103 : decode cX7_swap 103 = .ok (.iconst 0, 1) := by decide +kernel
theorem dX7_swap_104 : decode cX7_swap 104 = .ok (.ireturn, 1) := by decide +kernel
theorem dX7_swap_105 : decode cX7_swap 105 = .ok (.aload_n 0, 1) := by decide +kernel
theorem dX7_swap_106 : decode cX7_swap 106 = .ok (.invokevirtual 93, 3) := by decide +kernel
theorem dX7_swap_109 : decode cX7_swap 109 = .ok (.aload_n 0, 1) := by decide +kernel
theorem dX7_swap_110 : decode cX7_swap 110 = .ok (.bipush 8, 2) := by decide +kernel
theorem dX7_swap_112 : decode cX7_swap 112 = .ok (.iconst 0, 1) := by decide +kernel
theorem dX7_swap_113 : decode cX7_swap 113 = .ok (.invokevirtual 87, 3) := by decide +kernel
theorem dX7_swap_116 : decode cX7_swap 116 = .ok (.aload_n 0, 1) := by decide +kernel
theorem dX7_swap_117 : decode cX7_swap 117 = .ok (.iconst 0, 1) := by decide +kernel
theorem dX7_swap_118 : decode cX7_swap 118 = .ok (.iconst (-1), 1) := by decide +kernel
theorem dX7_swap_119 : decode cX7_swap 119 = .ok (.invokevirtual 58, 3) := by decide +kernel
theorem dX7_swap_122 : decode cX7_swap 122 = .ok (.ireturn, 1) := by decide +kernel
theorem dX7_seatAll_0 : decode cX7_seatAll 0 = .ok (.aload_n 0, 1) := by decide +kernel
theorem dX7_seatAll_1 : decode cX7_seatAll 1 = .ok (.iconst 0, 1) := by decide +kernel
theorem dX7_seatAll_2 : decode cX7_seatAll 2 = .ok (.putfield 16, 3) := by decide +kernel
theorem dX7_seatAll_5 : decode cX7_seatAll 5 = .ok (.aload_n 0, 1) := by decide +kernel
theorem dX7_seatAll_6 : decode cX7_seatAll 6 = .ok (.invokevirtual 93, 3) := by decide +kernel
theorem dX7_seatAll_9 : decode cX7_seatAll 9 = .ok (.aload_n 0, 1) := by decide +kernel
theorem dX7_seatAll_10 : decode cX7_seatAll 10 = .ok (.iconst 0, 1) := by decide +kernel
theorem dX7_seatAll_11 : decode cX7_seatAll 11 = .ok (.invokevirtual 113, 3) := by decide +kernel
theorem dX7_seatAll_14 : decode cX7_seatAll 14 = .ok (.ireturn, 1) := by decide +kernel
theorem dX7_append_0 : decode cX7_append 0 = .ok (.aload_n 0, 1) := by decide +kernel
theorem dX7_append_1 : decode cX7_append 1 = .ok (.iload_n 1, 1) := by decide +kernel
theorem dX7_append_2 : decode cX7_append 2 = .ok (.bipush 33, 2) := by decide +kernel
theorem dX7_append_4 : decode cX7_append 4 = .ok (.bipush 126, 2) := by decide +kernel
theorem dX7_append_6 : decode cX7_append 6 = .ok (.invokestatic 20, 3) := by decide +kernel
theorem dX7_append_9 : decode cX7_append 9 = .ok (.ifCond .ne 7, 3) := by decide +kernel
theorem dX7_append_12 : decode cX7_append 12 = .ok (.iconst 1, 1) := by decide +kernel
theorem dX7_append_13 : decode cX7_append 13 = .ok (.goto 17, 3) := by decide +kernel
theorem dX7_append_16 : decode cX7_append 16 = .ok (.aload_n 0, 1) := by decide +kernel
theorem dX7_append_17 : decode cX7_append 17 = .ok (.getfield 116, 3) := by decide +kernel
theorem dX7_append_20 : decode cX7_append 20 = .ok (.bipush 60, 2) := by decide +kernel
theorem dX7_append_22 : decode cX7_append 22 = .ok (.if_icmp .ne 7, 3) := by decide +kernel
theorem dX7_append_25 : decode cX7_append 25 = .ok (.iconst 2, 1) := by decide +kernel
theorem dX7_append_26 : decode cX7_append 26 = .ok (.goto 4, 3) := by decide +kernel
theorem dX7_append_29 : decode cX7_append 29 = .ok (.iconst 0, 1) := by decide +kernel
theorem dX7_append_30 : decode cX7_append 30 = .ok (.invokevirtual 90, 3) := by decide +kernel
theorem dX7_append_33 : decode cX7_append 33 = .ok (.ifCond .ne 5, 3) := by decide +kernel
theorem dX7_append_36 : decode cX7_append 36 = .ok (.iconst 0, 1) := by decide +kernel
theorem dX7_append_37 : decode cX7_append 37 = .ok (.ireturn, 1) := by decide +kernel
theorem dX7_append_38 : decode cX7_append 38 = .ok (.aload_n 0, 1) := by decide +kernel
theorem dX7_append_39 : decode cX7_append 39 = .ok (.getfield 13, 3) := by decide +kernel
theorem dX7_append_42 : decode cX7_append 42 = .ok (.aload_n 0, 1) := by decide +kernel
theorem dX7_append_43 : decode cX7_append 43 = .ok (.getfield 116, 3) := by decide +kernel
theorem dX7_append_46 : decode cX7_append 46 = .ok (.iload_n 1, 1) := by decide +kernel
theorem dX7_append_47 : decode cX7_append 47 = .ok (.iastore, 1) := by decide +kernel
theorem dX7_append_48 : decode cX7_append 48 = .ok (.aload_n 0, 1) := by decide +kernel
theorem dX7_append_49 : decode cX7_append 49 = .ok (.dup, 1) := by decide +kernel
theorem dX7_append_50 : decode cX7_append 50 = .ok (.getfield 116, 3) := by decide +kernel
theorem dX7_append_53 : decode cX7_append 53 = .ok (.iconst 1, 1) := by decide +kernel
theorem dX7_append_54 : decode cX7_append 54 = .ok (.iadd, 1) := by decide +kernel
theorem dX7_append_55 : decode cX7_append 55 = .ok (.putfield 116, 3) := by decide +kernel
theorem dX7_append_58 : decode cX7_append 58 = .ok (.aload_n 0, 1) := by decide +kernel
theorem dX7_append_59 : decode cX7_append 59 = .ok (.getfield 116, 3) := by decide +kernel
theorem dX7_append_62 : decode cX7_append 62 = .ok (.ireturn, 1) := by decide +kernel
theorem dX7_clearBuffer_0 : decode cX7_clearBuffer 0 = .ok (.aload_n 0, 1) := by decide +kernel
theorem dX7_clearBuffer_1 : decode cX7_clearBuffer 1 = .ok (.iconst 0, 1) := by decide +kernel
theorem dX7_clearBuffer_2 : decode cX7_clearBuffer 2 = .ok (.putfield 16, 3) := by decide +kernel
theorem dX7_clearBuffer_5 : decode cX7_clearBuffer 5 = .ok (.aload_n 0, 1) := by decide +kernel
theorem dX7_clearBuffer_6 : decode cX7_clearBuffer 6 = .ok (.getfield 116, 3) := by decide +kernel
theorem dX7_clearBuffer_9 : decode cX7_clearBuffer 9 = .ok (.istore_n 1, 1) := by decide +kernel
theorem dX7_clearBuffer_10 : decode cX7_clearBuffer 10 = .ok (.aload_n 0, 1) := by decide +kernel
theorem dX7_clearBuffer_11 : decode cX7_clearBuffer 11 = .ok (.iconst 0, 1) := by decide +kernel
theorem dX7_clearBuffer_12 : decode cX7_clearBuffer 12 = .ok (.putfield 116, 3) := by decide +kernel
theorem dX7_clearBuffer_15 : decode cX7_clearBuffer 15 = .ok (.iload_n 1, 1) := by decide +kernel
theorem dX7_clearBuffer_16 : decode cX7_clearBuffer 16 = .ok (.ireturn, 1) := by decide +kernel
theorem dX7_sign_0 : decode cX7_sign 0 = .ok (.aload_n 0, 1) := by decide +kernel
theorem dX7_sign_1 : decode cX7_sign 1 = .ok (.getfield 119, 3) := by decide +kernel
theorem dX7_sign_4 : decode cX7_sign 4 = .ok (.aload_n 0, 1) := by decide +kernel
theorem dX7_sign_5 : decode cX7_sign 5 = .ok (.getfield 116, 3) := by decide +kernel
theorem dX7_sign_8 : decode cX7_sign 8 = .ok (.if_icmp .ge 15, 3) := by decide +kernel
theorem dX7_sign_11 : decode cX7_sign 11 = .ok (.aload_n 0, 1) := by decide +kernel
theorem dX7_sign_12 : decode cX7_sign 12 = .ok (.getfield 13, 3) := by decide +kernel
theorem dX7_sign_15 : decode cX7_sign 15 = .ok (.aload_n 0, 1) := by decide +kernel
theorem dX7_sign_16 : decode cX7_sign 16 = .ok (.getfield 119, 3) := by decide +kernel
theorem dX7_sign_19 : decode cX7_sign 19 = .ok (.iaload, 1) := by decide +kernel
theorem dX7_sign_20 : decode cX7_sign 20 = .ok (.goto 4, 3) := by decide +kernel
theorem dX7_sign_23 : decode cX7_sign 23 = .ok (.iconst 0, 1) := by decide +kernel
theorem dX7_sign_24 : decode cX7_sign 24 = .ok (.ireturn, 1) := by decide +kernel
theorem dX7_takes_0 : decode cX7_takes 0 = .ok (.aload_n 0, 1) := by decide +kernel
theorem dX7_takes_1 : decode cX7_takes 1 = .ok (.invokevirtual 122, 3) := by decide +kernel
theorem dX7_takes_4 : decode cX7_takes 4 = .ok (.iload_n 1, 1) := by decide +kernel
theorem dX7_takes_5 : decode cX7_takes 5 = .ok (.if_icmp .ne 7, 3) := by decide +kernel
theorem dX7_takes_8 : decode cX7_takes 8 = .ok (.iconst 1, 1) := by decide +kernel
theorem dX7_takes_9 : decode cX7_takes 9 = .ok (.goto 4, 3) := by decide +kernel
theorem dX7_takes_12 : decode cX7_takes 12 = .ok (.iconst 0, 1) := by decide +kernel
theorem dX7_takes_13 : decode cX7_takes 13 = .ok (.istore_n 2, 1) := by decide +kernel
theorem dX7_takes_14 : decode cX7_takes 14 = .ok (.aload_n 0, 1) := by decide +kernel
theorem dX7_takes_15 : decode cX7_takes 15 = .ok (.dup, 1) := by decide +kernel
theorem dX7_takes_16 : decode cX7_takes 16 = .ok (.getfield 119, 3) := by decide +kernel
theorem dX7_takes_19 : decode cX7_takes 19 = .ok (.iload_n 2, 1) := by decide +kernel
theorem dX7_takes_20 : decode cX7_takes 20 = .ok (.ifCond .eq 7, 3) := by decide +kernel
theorem dX7_takes_23 : decode cX7_takes 23 = .ok (.iconst 1, 1) := by decide +kernel
theorem dX7_takes_24 : decode cX7_takes 24 = .ok (.goto 4, 3) := by decide +kernel
theorem dX7_takes_27 : decode cX7_takes 27 = .ok (.iconst 0, 1) := by decide +kernel
theorem dX7_takes_28 : decode cX7_takes 28 = .ok (.iadd, 1) := by decide +kernel
theorem dX7_takes_29 : decode cX7_takes 29 = .ok (.putfield 119, 3) := by decide +kernel
theorem dX7_takes_32 : decode cX7_takes 32 = .ok (.iload_n 2, 1) := by decide +kernel
theorem dX7_takes_33 : decode cX7_takes 33 = .ok (.ireturn, 1) := by decide +kernel
theorem dX7_readsOne_0 : decode cX7_readsOne 0 = .ok (.aload_n 0, 1) := by decide +kernel
theorem dX7_readsOne_1 : decode cX7_readsOne 1 = .ok (.invokevirtual 122, 3) := by decide +kernel
theorem dX7_readsOne_4 : decode cX7_readsOne 4 = .ok (.iload_n 1, 1) := by decide +kernel
theorem dX7_readsOne_5 : decode cX7_readsOne 5 = .ok (.iload_n 2, 1) := by decide +kernel
theorem dX7_readsOne_6 : decode cX7_readsOne 6 = .ok (.invokestatic 20, 3) := by decide +kernel
theorem dX7_readsOne_9 : decode cX7_readsOne 9 = .ok (.ifCond .eq 12, 3) := by decide +kernel
theorem dX7_readsOne_12 : decode cX7_readsOne 12 = .ok (.aload_n 0, 1) := by decide +kernel
theorem dX7_readsOne_13 : decode cX7_readsOne 13 = .ok (.invokevirtual 122, 3) := by decide +kernel
theorem dX7_readsOne_16 : decode cX7_readsOne 16 = .ok (.iload_n 1, 1) := by decide +kernel
theorem dX7_readsOne_17 : decode cX7_readsOne 17 = .ok (.isub, 1) := by decide +kernel
theorem dX7_readsOne_18 : decode cX7_readsOne 18 = .ok (.goto 4, 3) := by decide +kernel
theorem dX7_readsOne_21 : decode cX7_readsOne 21 = .ok (.iconst (-1), 1) := by decide +kernel
theorem dX7_readsOne_22 : decode cX7_readsOne 22 = .ok (.istore_n 3, 1) := by decide +kernel
theorem dX7_readsOne_23 : decode cX7_readsOne 23 = .ok (.aload_n 0, 1) := by decide +kernel
theorem dX7_readsOne_24 : decode cX7_readsOne 24 = .ok (.dup, 1) := by decide +kernel
theorem dX7_readsOne_25 : decode cX7_readsOne 25 = .ok (.getfield 119, 3) := by decide +kernel
theorem dX7_readsOne_28 : decode cX7_readsOne 28 = .ok (.iload_n 3, 1) := by decide +kernel
theorem dX7_readsOne_29 : decode cX7_readsOne 29 = .ok (.iconst (-1), 1) := by decide +kernel
theorem dX7_readsOne_30 : decode cX7_readsOne 30 = .ok (.if_icmp .ne 7, 3) := by decide +kernel
theorem dX7_readsOne_33 : decode cX7_readsOne 33 = .ok (.iconst 0, 1) := by decide +kernel
theorem dX7_readsOne_34 : decode cX7_readsOne 34 = .ok (.goto 4, 3) := by decide +kernel
theorem dX7_readsOne_37 : decode cX7_readsOne 37 = .ok (.iconst 1, 1) := by decide +kernel
theorem dX7_readsOne_38 : decode cX7_readsOne 38 = .ok (.iadd, 1) := by decide +kernel
theorem dX7_readsOne_39 : decode cX7_readsOne 39 = .ok (.putfield 119, 3) := by decide +kernel
theorem dX7_readsOne_42 : decode cX7_readsOne 42 = .ok (.iload_n 3, 1) := by decide +kernel
theorem dX7_readsOne_43 : decode cX7_readsOne 43 = .ok (.ireturn, 1) := by decide +kernel
theorem dX7_readsGuest_0 : decode cX7_readsGuest 0 = .ok (.aload_n 0, 1) := by decide +kernel
theorem dX7_readsGuest_1 : decode cX7_readsGuest 1 = .ok (.aload_n 0, 1) := by decide +kernel
theorem dX7_readsGuest_2 : decode cX7_readsGuest 2 = .ok (.bipush 48, 2) := by decide +kernel
theorem dX7_readsGuest_4 : decode cX7_readsGuest 4 = .ok (.bipush 57, 2) := by decide +kernel
theorem dX7_readsGuest_6 : decode cX7_readsGuest 6 = .ok (.invokevirtual 126, 3) := by decide +kernel
theorem dX7_readsGuest_9 : decode cX7_readsGuest 9 = .ok (.putfield 129, 3) := by decide +kernel
theorem dX7_readsGuest_12 : decode cX7_readsGuest 12 = .ok (.aload_n 0, 1) := by decide +kernel
theorem dX7_readsGuest_13 : decode cX7_readsGuest 13 = .ok (.getfield 129, 3) := by decide +kernel
theorem dX7_readsGuest_16 : decode cX7_readsGuest 16 = .ok (.iconst 1, 1) := by decide +kernel
theorem dX7_readsGuest_17 : decode cX7_readsGuest 17 = .ok (.if_icmp .ne 32, 3) := by decide +kernel
theorem dX7_readsGuest_20 : decode cX7_readsGuest 20 = .ok (.aload_n 0, 1) := by decide +kernel
theorem dX7_readsGuest_21 : decode cX7_readsGuest 21 = .ok (.invokevirtual 122, 3) := by decide +kernel
theorem dX7_readsGuest_24 : decode cX7_readsGuest 24 = .ok (.bipush 48, 2) := by decide +kernel
theorem dX7_readsGuest_26 : decode cX7_readsGuest 26 = .ok (.bipush 53, 2) := by decide +kernel
theorem dX7_readsGuest_28 : decode cX7_readsGuest 28 = .ok (.invokestatic 20, 3) := by decide +kernel
theorem dX7_readsGuest_31 : decode cX7_readsGuest 31 = .ok (.ifCond .eq 18, 3) := by decide +kernel
theorem dX7_readsGuest_34 : decode cX7_readsGuest 34 = .ok (.aload_n 0, 1) := by decide +kernel
theorem dX7_readsGuest_35 : decode cX7_readsGuest 35 = .ok (.bipush 10, 2) := by decide +kernel
theorem dX7_readsGuest_37 : decode cX7_readsGuest 37 = .ok (.aload_n 0, 1) := by decide +kernel
theorem dX7_readsGuest_38 : decode cX7_readsGuest 38 = .ok (.bipush 48, 2) := by decide +kernel
theorem dX7_readsGuest_40 : decode cX7_readsGuest 40 = .ok (.bipush 53, 2) := by decide +kernel
theorem dX7_readsGuest_42 : decode cX7_readsGuest 42 = .ok (.invokevirtual 126, 3) := by decide +kernel
theorem dX7_readsGuest_45 : decode cX7_readsGuest 45 = .ok (.iadd, 1) := by decide +kernel
theorem dX7_readsGuest_46 : decode cX7_readsGuest 46 = .ok (.putfield 129, 3) := by decide +kernel
theorem dX7_readsGuest_49 : decode cX7_readsGuest 49 = .ok (.aload_n 0, 1) := by decide +kernel
theorem dX7_readsGuest_50 : decode cX7_readsGuest 50 = .ok (.getfield 129, 3) := by decide +kernel
theorem dX7_readsGuest_53 : decode cX7_readsGuest 53 = .ok (.iconst (-1), 1) := by decide +kernel
theorem dX7_readsGuest_54 : decode cX7_readsGuest 54 = .ok (.if_icmp .eq 7, 3) := by decide +kernel
theorem dX7_readsGuest_57 : decode cX7_readsGuest 57 = .ok (.iconst 1, 1) := by decide +kernel
theorem dX7_readsGuest_58 : decode cX7_readsGuest 58 = .ok (.goto 4, 3) := by decide +kernel
theorem dX7_readsGuest_61 : decode cX7_readsGuest 61 = .ok (.iconst 0, 1) := by decide +kernel
theorem dX7_readsGuest_62 : decode cX7_readsGuest 62 = .ok (.ireturn, 1) := by decide +kernel
theorem dX7_readsPart_0 : decode cX7_readsPart 0 = .ok (.aload_n 0, 1) := by decide +kernel
theorem dX7_readsPart_1 : decode cX7_readsPart 1 = .ok (.aload_n 0, 1) := by decide +kernel
theorem dX7_readsPart_2 : decode cX7_readsPart 2 = .ok (.bipush 45, 2) := by decide +kernel
theorem dX7_readsPart_4 : decode cX7_readsPart 4 = .ok (.invokevirtual 132, 3) := by decide +kernel
theorem dX7_readsPart_7 : decode cX7_readsPart 7 = .ok (.putfield 135, 3) := by decide +kernel
theorem dX7_readsPart_10 : decode cX7_readsPart 10 = .ok (.aload_n 0, 1) := by decide +kernel
theorem dX7_readsPart_11 : decode cX7_readsPart 11 = .ok (.invokevirtual 139, 3) := by decide +kernel
theorem dX7_readsPart_14 : decode cX7_readsPart 14 = .ok (.ifCond .eq 10, 3) := by decide +kernel
theorem dX7_readsPart_17 : decode cX7_readsPart 17 = .ok (.aload_n 0, 1) := by decide +kernel
theorem dX7_readsPart_18 : decode cX7_readsPart 18 = .ok (.getfield 135, 3) := by decide +kernel
theorem dX7_readsPart_21 : decode cX7_readsPart 21 = .ok (.ifCond .eq 24, 3) := by decide +kernel
theorem dX7_readsPart_24 : decode cX7_readsPart 24 = .ok (.aload_n 0, 1) := by decide +kernel
theorem dX7_readsPart_25 : decode cX7_readsPart 25 = .ok (.getfield 135, 3) := by decide +kernel
theorem dX7_readsPart_28 : decode cX7_readsPart 28 = .ok (.ifCond .eq 15, 3) := by decide +kernel
theorem dX7_readsPart_31 : decode cX7_readsPart 31 = .ok (.aload_n 0, 1) := by decide +kernel
theorem dX7_readsPart_32 : decode cX7_readsPart 32 = .ok (.getfield 129, 3) := by decide +kernel
theorem dX7_readsPart_35 : decode cX7_readsPart 35 = .ok (.iconst (-1), 1) := by decide +kernel
theorem dX7_readsPart_36 : decode cX7_readsPart 36 = .ok (.if_icmp .eq 7, 3) := by decide +kernel
theorem dX7_readsPart_39 : decode cX7_readsPart 39 = .ok (.iconst 1, 1) := by decide +kernel
theorem dX7_readsPart_40 : decode cX7_readsPart 40 = .ok (.goto 4, 3) := by decide +kernel
theorem dX7_readsPart_43 : decode cX7_readsPart 43 = .ok (.iconst 0, 1) := by decide +kernel
theorem dX7_readsPart_44 : decode cX7_readsPart 44 = .ok (.ireturn, 1) := by decide +kernel
theorem dX7_readsPart_45 : decode cX7_readsPart 45 = .ok (.aload_n 0, 1) := by decide +kernel
theorem dX7_readsPart_46 : decode cX7_readsPart 46 = .ok (.aload_n 0, 1) := by decide +kernel
theorem dX7_readsPart_47 : decode cX7_readsPart 47 = .ok (.bipush 64, 2) := by decide +kernel
theorem dX7_readsPart_49 : decode cX7_readsPart 49 = .ok (.invokevirtual 132, 3) := by decide +kernel
theorem dX7_readsPart_52 : decode cX7_readsPart 52 = .ok (.ifCond .eq 14, 3) := by decide +kernel
theorem dX7_readsPart_55 : decode cX7_readsPart 55 = .ok (.aload_n 0, 1) := by decide +kernel
theorem dX7_readsPart_56 : decode cX7_readsPart 56 = .ok (.bipush 48, 2) := by decide +kernel
theorem dX7_readsPart_58 : decode cX7_readsPart 58 = .ok (.bipush 51, 2) := by decide +kernel
theorem dX7_readsPart_60 : decode cX7_readsPart 60 = .ok (.invokevirtual 126, 3) := by decide +kernel
theorem dX7_readsPart_63 : decode cX7_readsPart 63 = .ok (.goto 4, 3) := by decide +kernel
theorem dX7_readsPart_66 : decode cX7_readsPart 66 = .ok (.iconst (-1), 1) := by decide +kernel
theorem dX7_readsPart_67 : decode cX7_readsPart 67 = .ok (.putfield 143, 3) := by decide +kernel
theorem dX7_readsPart_70 : decode cX7_readsPart 70 = .ok (.aload_n 0, 1) := by decide +kernel
theorem dX7_readsPart_71 : decode cX7_readsPart 71 = .ok (.aload_n 0, 1) := by decide +kernel
theorem dX7_readsPart_72 : decode cX7_readsPart 72 = .ok (.getfield 143, 3) := by decide +kernel
theorem dX7_readsPart_75 : decode cX7_readsPart 75 = .ok (.iconst (-1), 1) := by decide +kernel
theorem dX7_readsPart_76 : decode cX7_readsPart 76 = .ok (.if_icmp .eq 14, 3) := by decide +kernel
theorem dX7_readsPart_79 : decode cX7_readsPart 79 = .ok (.aload_n 0, 1) := by decide +kernel
theorem dX7_readsPart_80 : decode cX7_readsPart 80 = .ok (.bipush 97, 2) := by decide +kernel
theorem dX7_readsPart_82 : decode cX7_readsPart 82 = .ok (.bipush 104, 2) := by decide +kernel
theorem dX7_readsPart_84 : decode cX7_readsPart 84 = .ok (.invokevirtual 126, 3) := by decide +kernel
theorem dX7_readsPart_87 : decode cX7_readsPart 87 = .ok (.goto 4, 3) := by decide +kernel
theorem dX7_readsPart_90 : decode cX7_readsPart 90 = .ok (.iconst (-1), 1) := by decide +kernel
theorem dX7_readsPart_91 : decode cX7_readsPart 91 = .ok (.putfield 146, 3) := by decide +kernel
theorem dX7_readsPart_94 : decode cX7_readsPart 94 = .ok (.aload_n 0, 1) := by decide +kernel
theorem dX7_readsPart_95 : decode cX7_readsPart 95 = .ok (.getfield 146, 3) := by decide +kernel
theorem dX7_readsPart_98 : decode cX7_readsPart 98 = .ok (.iconst (-1), 1) := by decide +kernel
theorem dX7_readsPart_99 : decode cX7_readsPart 99 = .ok (.if_icmp .eq 7, 3) := by decide +kernel
theorem dX7_readsPart_102 : decode cX7_readsPart 102 = .ok (.iconst 1, 1) := by decide +kernel
theorem dX7_readsPart_103 : decode cX7_readsPart 103 = .ok (.goto 4, 3) := by decide +kernel
theorem dX7_readsPart_106 : decode cX7_readsPart 106 = .ok (.iconst 0, 1) := by decide +kernel
theorem dX7_readsPart_107 : decode cX7_readsPart 107 = .ok (.ireturn, 1) := by decide +kernel
theorem dX7_areSeats_0 : decode cX7_areSeats 0 = .ok (.aload_n 0, 1) := by decide +kernel
theorem dX7_areSeats_1 : decode cX7_areSeats 1 = .ok (.iconst 0, 1) := by decide +kernel
theorem dX7_areSeats_2 : decode cX7_areSeats 2 = .ok (.putfield 119, 3) := by decide +kernel
theorem dX7_areSeats_5 : decode cX7_areSeats 5 = .ok (.aload_n 0, 1) := by decide +kernel
theorem dX7_areSeats_6 : decode cX7_areSeats 6 = .ok (.invokevirtual 149, 3) := by decide +kernel
theorem dX7_areSeats_9 : decode cX7_areSeats 9 = .ok (.ifCond .eq 27, 3) := by decide +kernel
theorem dX7_areSeats_12 : decode cX7_areSeats 12 = .ok (.aload_n 0, 1) := by decide +kernel
theorem dX7_areSeats_13 : decode cX7_areSeats 13 = .ok (.getfield 119, 3) := by decide +kernel
theorem dX7_areSeats_16 : decode cX7_areSeats 16 = .ok (.aload_n 0, 1) := by decide +kernel
theorem dX7_areSeats_17 : decode cX7_areSeats 17 = .ok (.getfield 116, 3) := by decide +kernel
theorem dX7_areSeats_20 : decode cX7_areSeats 20 = .ok (.if_icmp .ne 5, 3) := by decide +kernel
theorem dX7_areSeats_23 : decode cX7_areSeats 23 = .ok (.iconst 1, 1) := by decide +kernel
theorem dX7_areSeats_24 : decode cX7_areSeats 24 = .ok (.ireturn, 1) := by decide +kernel
theorem dX7_areSeats_25 : decode cX7_areSeats 25 = .ok (.aload_n 0, 1) := by decide +kernel
theorem dX7_areSeats_26 : decode cX7_areSeats 26 = .ok (.bipush 59, 2) := by decide +kernel
theorem dX7_areSeats_28 : decode cX7_areSeats 28 = .ok (.invokevirtual 132, 3) := by decide +kernel
theorem dX7_areSeats_31 : decode cX7_areSeats 31 = .ok (.ifCond .ne (-26), 3) := by decide +kernel
theorem dX7_areSeats_34 : decode cX7_areSeats 34 = .ok (.iconst 0, 1) := by decide +kernel
theorem dX7_areSeats_35 : decode cX7_areSeats 35 = .ok (.ireturn, 1) := by decide +kernel
theorem dX7_areSeats_36 : decode cX7_areSeats 36 = .ok (.iconst 0, 1) := by decide +kernel
theorem dX7_areSeats_37 : decode cX7_areSeats 37 = .ok (.ireturn, 1) := by decide +kernel
theorem dX7_firstError_0 : decode cX7_firstError 0 = .ok (.aload_n 0, 1) := by decide +kernel
theorem dX7_firstError_1 : decode cX7_firstError 1 = .ok (.iconst 0, 1) := by decide +kernel
theorem dX7_firstError_2 : decode cX7_firstError 2 = .ok (.putfield 16, 3) := by decide +kernel
theorem dX7_firstError_5 : decode cX7_firstError 5 = .ok (.aload_n 0, 1) := by decide +kernel
theorem dX7_firstError_6 : decode cX7_firstError 6 = .ok (.invokevirtual 152, 3) := by decide +kernel
theorem dX7_firstError_9 : decode cX7_firstError 9 = .ok (.pop, 1) := by decide +kernel
theorem dX7_firstError_10 : decode cX7_firstError 10 = .ok (.aload_n 0, 1) := by decide +kernel
theorem dX7_firstError_11 : decode cX7_firstError 11 = .ok (.getfield 119, 3) := by decide +kernel
theorem dX7_firstError_14 : decode cX7_firstError 14 = .ok (.ireturn, 1) := by decide +kernel
theorem dX7_isDone_0 : decode cX7_isDone 0 = .ok (.aload_n 0, 1) := by decide +kernel
theorem dX7_isDone_1 : decode cX7_isDone 1 = .ok (.aload_n 0, 1) := by decide +kernel
theorem dX7_isDone_2 : decode cX7_isDone 2 = .ok (.getfield 129, 3) := by decide +kernel
theorem dX7_isDone_5 : decode cX7_isDone 5 = .ok (.invokevirtual 96, 3) := by decide +kernel
theorem dX7_isDone_8 : decode cX7_isDone 8 = .ok (.ifCond .ne 5, 3) := by decide +kernel
theorem dX7_isDone_11 : decode cX7_isDone 11 = .ok (.iconst 0, 1) := by decide +kernel
theorem dX7_isDone_12 : decode cX7_isDone 12 = .ok (.ireturn, 1) := by decide +kernel
theorem dX7_isDone_13 : decode cX7_isDone 13 = .ok (.aload_n 0, 1) := by decide +kernel
theorem dX7_isDone_14 : decode cX7_isDone 14 = .ok (.getfield 135, 3) := by decide +kernel
theorem dX7_isDone_17 : decode cX7_isDone 17 = .ok (.ifCond .eq 38, 3) := by decide +kernel
theorem dX7_isDone_20 : decode cX7_isDone 20 = .ok (.aload_n 0, 1) := by decide +kernel
theorem dX7_isDone_21 : decode cX7_isDone 21 = .ok (.iconst 0, 1) := by decide +kernel
theorem dX7_isDone_22 : decode cX7_isDone 22 = .ok (.aload_n 0, 1) := by decide +kernel
theorem dX7_isDone_23 : decode cX7_isDone 23 = .ok (.getfield 129, 3) := by decide +kernel
theorem dX7_isDone_26 : decode cX7_isDone 26 = .ok (.iconst 3, 1) := by decide +kernel
theorem dX7_isDone_27 : decode cX7_isDone 27 = .ok (.invokevirtual 31, 3) := by decide +kernel
theorem dX7_isDone_30 : decode cX7_isDone 30 = .ok (.iconst (-1), 1) := by decide +kernel
theorem dX7_isDone_31 : decode cX7_isDone 31 = .ok (.if_icmp .eq 7, 3) := by decide +kernel
theorem dX7_isDone_34 : decode cX7_isDone 34 = .ok (.iconst 1, 1) := by decide +kernel
theorem dX7_isDone_35 : decode cX7_isDone 35 = .ok (.goto 4, 3) := by decide +kernel
theorem dX7_isDone_38 : decode cX7_isDone 38 = .ok (.iconst 0, 1) := by decide +kernel
theorem dX7_isDone_39 : decode cX7_isDone 39 = .ok (.istore_n 1, 1) := by decide +kernel
theorem dX7_isDone_40 : decode cX7_isDone 40 = .ok (.iload_n 1, 1) := by decide +kernel
theorem dX7_isDone_41 : decode cX7_isDone 41 = .ok (.ifCond .eq 12, 3) := by decide +kernel
theorem dX7_isDone_44 : decode cX7_isDone 44 = .ok (.aload_n 0, 1) := by decide +kernel
theorem dX7_isDone_45 : decode cX7_isDone 45 = .ok (.iconst 0, 1) := by decide +kernel
theorem dX7_isDone_46 : decode cX7_isDone 46 = .ok (.aload_n 0, 1) := by decide +kernel
theorem dX7_isDone_47 : decode cX7_isDone 47 = .ok (.getfield 129, 3) := by decide +kernel
theorem dX7_isDone_50 : decode cX7_isDone 50 = .ok (.invokevirtual 68, 3) := by decide +kernel
theorem dX7_isDone_53 : decode cX7_isDone 53 = .ok (.iload_n 1, 1) := by decide +kernel
theorem dX7_isDone_54 : decode cX7_isDone 54 = .ok (.ireturn, 1) := by decide +kernel
theorem dX7_isDone_55 : decode cX7_isDone 55 = .ok (.aload_n 0, 1) := by decide +kernel
theorem dX7_isDone_56 : decode cX7_isDone 56 = .ok (.aload_n 0, 1) := by decide +kernel
theorem dX7_isDone_57 : decode cX7_isDone 57 = .ok (.getfield 143, 3) := by decide +kernel
theorem dX7_isDone_60 : decode cX7_isDone 60 = .ok (.aload_n 0, 1) := by decide +kernel
theorem dX7_isDone_61 : decode cX7_isDone 61 = .ok (.getfield 146, 3) := by decide +kernel
theorem dX7_isDone_64 : decode cX7_isDone 64 = .ok (.invokevirtual 107, 3) := by decide +kernel
theorem dX7_isDone_67 : decode cX7_isDone 67 = .ok (.ifCond .eq 27, 3) := by decide +kernel
theorem dX7_isDone_70 : decode cX7_isDone 70 = .ok (.aload_n 0, 1) := by decide +kernel
theorem dX7_isDone_71 : decode cX7_isDone 71 = .ok (.iconst 0, 1) := by decide +kernel
theorem dX7_isDone_72 : decode cX7_isDone 72 = .ok (.aload_n 0, 1) := by decide +kernel
theorem dX7_isDone_73 : decode cX7_isDone 73 = .ok (.getfield 129, 3) := by decide +kernel
theorem dX7_isDone_76 : decode cX7_isDone 76 = .ok (.aload_n 0, 1) := by decide +kernel
theorem dX7_isDone_77 : decode cX7_isDone 77 = .ok (.getfield 143, 3) := by decide +kernel
theorem dX7_isDone_80 : decode cX7_isDone 80 = .ok (.aload_n 0, 1) := by decide +kernel
theorem dX7_isDone_81 : decode cX7_isDone 81 = .ok (.getfield 146, 3) := by decide +kernel
theorem dX7_isDone_84 : decode cX7_isDone 84 = .ok (.invokevirtual 61, 3) := by decide +kernel
theorem dX7_isDone_87 : decode cX7_isDone 87 = .ok (.ifCond .ne 7, 3) := by decide +kernel
theorem dX7_isDone_90 : decode cX7_isDone 90 = .ok (.iconst 1, 1) := by decide +kernel
theorem dX7_isDone_91 : decode cX7_isDone 91 = .ok (.goto 4, 3) := by decide +kernel
theorem dX7_isDone_94 : decode cX7_isDone 94 = .ok (.iconst 0, 1) := by decide +kernel
theorem dX7_isDone_95 : decode cX7_isDone 95 = .ok (.istore_n 1, 1) := by decide +kernel
theorem dX7_isDone_96 : decode cX7_isDone 96 = .ok (.iload_n 1, 1) := by decide +kernel
theorem dX7_isDone_97 : decode cX7_isDone 97 = .ok (.ifCond .eq 20, 3) := by decide +kernel
theorem dX7_isDone_100 : decode cX7_isDone 100 = .ok (.aload_n 0, 1) := by decide +kernel
theorem dX7_isDone_101 : decode cX7_isDone 101 = .ok (.iconst 0, 1) := by decide +kernel
theorem dX7_isDone_102 : decode cX7_isDone 102 = .ok (.aload_n 0, 1) := by decide +kernel
theorem dX7_isDone_103 : decode cX7_isDone 103 = .ok (.getfield 129, 3) := by decide +kernel
theorem dX7_isDone_106 : decode cX7_isDone 106 = .ok (.aload_n 0, 1) := by decide +kernel
theorem dX7_isDone_107 : decode cX7_isDone 107 = .ok (.getfield 143, 3) := by decide +kernel
theorem dX7_isDone_110 : decode cX7_isDone 110 = .ok (.aload_n 0, 1) := by decide +kernel
theorem dX7_isDone_111 : decode cX7_isDone 111 = .ok (.getfield 146, 3) := by decide +kernel
theorem dX7_isDone_114 : decode cX7_isDone 114 = .ok (.invokevirtual 75, 3) := by decide +kernel
theorem dX7_isDone_117 : decode cX7_isDone 117 = .ok (.iload_n 1, 1) := by decide +kernel
theorem dX7_isDone_118 : decode cX7_isDone 118 = .ok (.ireturn, 1) := by decide +kernel
theorem dX7_seats_0 : decode cX7_seats 0 = .ok (.aload_n 0, 1) := by decide +kernel
theorem dX7_seats_1 : decode cX7_seats 1 = .ok (.aload_n 0, 1) := by decide +kernel
theorem dX7_seats_2 : decode cX7_seats 2 = .ok (.invokevirtual 152, 3) := by decide +kernel
theorem dX7_seats_5 : decode cX7_seats 5 = .ok (.ifCond .eq 7, 3) := by decide +kernel
theorem dX7_seats_8 : decode cX7_seats 8 = .ok (.iconst 0, 1) := by decide +kernel
theorem dX7_seats_9 : decode cX7_seats 9 = .ok (.goto 4, 3) := by decide +kernel
theorem dX7_seats_12 : decode cX7_seats 12 = .ok (.iconst 1, 1) := by decide +kernel
theorem dX7_seats_13 : decode cX7_seats 13 = .ok (.invokevirtual 90, 3) := by decide +kernel
theorem dX7_seats_16 : decode cX7_seats 16 = .ok (.ifCond .ne 5, 3) := by decide +kernel
theorem dX7_seats_19 : decode cX7_seats 19 = .ok (.iconst 0, 1) := by decide +kernel
theorem dX7_seats_20 : decode cX7_seats 20 = .ok (.ireturn, 1) := by decide +kernel
theorem dX7_seats_21 : decode cX7_seats 21 = .ok (.aload_n 0, 1) := by decide +kernel
theorem dX7_seats_22 : decode cX7_seats 22 = .ok (.invokevirtual 93, 3) := by decide +kernel
theorem dX7_seats_25 : decode cX7_seats 25 = .ok (.aload_n 0, 1) := by decide +kernel
theorem dX7_seats_26 : decode cX7_seats 26 = .ok (.iconst 0, 1) := by decide +kernel
theorem dX7_seats_27 : decode cX7_seats 27 = .ok (.putfield 119, 3) := by decide +kernel
theorem dX7_seats_30 : decode cX7_seats 30 = .ok (.iconst 0, 1) := by decide +kernel
theorem dX7_seats_31 : decode cX7_seats 31 = .ok (.istore_n 1, 1) := by decide +kernel
theorem dX7_seats_32 : decode cX7_seats 32 = .ok (.aload_n 0, 1) := by decide +kernel
theorem dX7_seats_33 : decode cX7_seats 33 = .ok (.invokevirtual 149, 3) := by decide +kernel
theorem dX7_seats_36 : decode cX7_seats 36 = .ok (.ifCond .eq 28, 3) := by decide +kernel
theorem dX7_seats_39 : decode cX7_seats 39 = .ok (.iload_n 1, 1) := by decide +kernel
theorem dX7_seats_40 : decode cX7_seats 40 = .ok (.aload_n 0, 1) := by decide +kernel
theorem dX7_seats_41 : decode cX7_seats 41 = .ok (.invokevirtual 155, 3) := by decide +kernel
theorem dX7_seats_44 : decode cX7_seats 44 = .ok (.ifCond .eq 7, 3) := by decide +kernel
theorem dX7_seats_47 : decode cX7_seats 47 = .ok (.iconst 1, 1) := by decide +kernel
theorem dX7_seats_48 : decode cX7_seats 48 = .ok (.goto 4, 3) := by decide +kernel
theorem dX7_seats_51 : decode cX7_seats 51 = .ok (.iconst 0, 1) := by decide +kernel
theorem dX7_seats_52 : decode cX7_seats 52 = .ok (.iadd, 1) := by decide +kernel
theorem dX7_seats_53 : decode cX7_seats 53 = .ok (.istore_n 1, 1) := by decide +kernel
theorem dX7_seats_54 : decode cX7_seats 54 = .ok (.aload_n 0, 1) := by decide +kernel
theorem dX7_seats_55 : decode cX7_seats 55 = .ok (.bipush 59, 2) := by decide +kernel
theorem dX7_seats_57 : decode cX7_seats 57 = .ok (.invokevirtual 132, 3) := by decide +kernel
theorem dX7_seats_60 : decode cX7_seats 60 = .ok (.pop, 1) := by decide +kernel
theorem dX7_seats_61 : decode cX7_seats 61 = .ok (.goto (-29), 3) := by decide +kernel
theorem dX7_seats_64 : decode cX7_seats 64 = .ok (.aload_n 0, 1) := by decide +kernel
theorem dX7_seats_65 : decode cX7_seats 65 = .ok (.iconst 0, 1) := by decide +kernel
theorem dX7_seats_66 : decode cX7_seats 66 = .ok (.putfield 116, 3) := by decide +kernel
theorem dX7_seats_69 : decode cX7_seats 69 = .ok (.iload_n 1, 1) := by decide +kernel
theorem dX7_seats_70 : decode cX7_seats 70 = .ok (.ireturn, 1) := by decide +kernel
theorem dX7_character_0 : decode cX7_character 0 = .ok (.iload_n 2, 1) := by decide +kernel
theorem dX7_character_1 : decode cX7_character 1 = .ok (.istore_n 3, 1) := by decide +kernel
theorem dX7_character_2 : decode cX7_character 2 = .ok (.iconst 0, 1) := by decide +kernel
theorem dX7_character_3 : decode cX7_character 3 = .ok (.istore 4, 2) := by decide +kernel
theorem dX7_character_5 : decode cX7_character 5 = .ok (.iload 4, 2) := by decide +kernel
theorem dX7_character_7 : decode cX7_character 7 = .ok (.aload_n 0, 1) := by decide +kernel
theorem dX7_character_8 : decode cX7_character 8 = .ok (.getfield 7, 3) := by decide +kernel
theorem dX7_character_11 : decode cX7_character 11 = .ok (.bipush 18, 2) := by decide +kernel
theorem dX7_character_13 : decode cX7_character 13 = .ok (.iload_n 1, 1) := by decide +kernel
theorem dX7_character_14 : decode cX7_character 14 = .ok (.iadd, 1) := by decide +kernel
theorem dX7_character_15 : decode cX7_character 15 = .ok (.iaload, 1) := by decide +kernel
theorem dX7_character_16 : decode cX7_character 16 = .ok (.if_icmp .ge 67, 3) := by decide +kernel
theorem dX7_character_19 : decode cX7_character 19 = .ok (.aload_n 0, 1) := by decide +kernel
theorem dX7_character_20 : decode cX7_character 20 = .ok (.iconst 0, 1) := by decide +kernel
theorem dX7_character_21 : decode cX7_character 21 = .ok (.iload_n 1, 1) := by decide +kernel
theorem dX7_character_22 : decode cX7_character 22 = .ok (.iload 4, 2) := by decide +kernel
theorem dX7_character_24 : decode cX7_character 24 = .ok (.invokevirtual 35, 3) := by decide +kernel
theorem dX7_character_27 : decode cX7_character 27 = .ok (.istore 5, 2) := by decide +kernel
theorem dX7_character_29 : decode cX7_character 29 = .ok (.iload_n 3, 1) := by decide +kernel
theorem dX7_character_30 : decode cX7_character 30 = .ok (.ifCond .ne 26, 3) := by decide +kernel
theorem dX7_character_33 : decode cX7_character 33 = .ok (.iload 5, 2) := by decide +kernel
theorem dX7_character_35 : decode cX7_character 35 = .ok (.iconst (-1), 1) := by decide +kernel
theorem dX7_character_36 : decode cX7_character 36 = .ok (.if_icmp .ne 8, 3) := by decide +kernel
theorem dX7_character_39 : decode cX7_character 39 = .ok (.bipush 46, 2) := by decide +kernel
theorem dX7_character_41 : decode cX7_character 41 = .ok (.goto 14, 3) := by decide +kernel
theorem dX7_character_44 : decode cX7_character 44 = .ok (.bipush 65, 2) := by decide +kernel
theorem dX7_character_46 : decode cX7_character 46 = .ok (.aload_n 0, 1) := by decide +kernel
theorem dX7_character_47 : decode cX7_character 47 = .ok (.iconst 0, 1) := by decide +kernel
theorem dX7_character_48 : decode cX7_character 48 = .ok (.iload 5, 2) := by decide +kernel
theorem dX7_character_50 : decode cX7_character 50 = .ok (.iconst 0, 1) := by decide +kernel
theorem dX7_character_51 : decode cX7_character 51 = .ok (.invokevirtual 31, 3) := by decide +kernel
theorem dX7_character_54 : decode cX7_character 54 = .ok (.iadd, 1) := by decide +kernel
theorem dX7_character_55 : decode cX7_character 55 = .ok (.ireturn, 1) := by decide +kernel
theorem dX7_character_56 : decode cX7_character 56 = .ok (.iinc 3 (-1), 3) := by decide +kernel
theorem dX7_character_59 : decode cX7_character 59 = .ok (.iload 4, 2) := by decide +kernel
theorem dX7_character_61 : decode cX7_character 61 = .ok (.invokestatic 38, 3) := by decide +kernel
theorem dX7_character_64 : decode cX7_character 64 = .ok (.ifCond .eq 13, 3) := by decide +kernel
theorem dX7_character_67 : decode cX7_character 67 = .ok (.iload_n 3, 1) := by decide +kernel
theorem dX7_character_68 : decode cX7_character 68 = .ok (.ifCond .ne 6, 3) := by decide +kernel
theorem dX7_character_71 : decode cX7_character 71 = .ok (.bipush 124, 2) := by decide +kernel
theorem dX7_character_73 : decode cX7_character 73 = .ok (.ireturn, 1) := by decide +kernel
theorem dX7_character_74 : decode cX7_character 74 = .ok (.iinc 3 (-1), 3) := by decide +kernel
theorem dX7_character_77 : decode cX7_character 77 = .ok (.iinc 4 1, 3) := by decide +kernel
theorem dX7_character_80 : decode cX7_character 80 = .ok (.goto (-75), 3) := by decide +kernel
theorem dX7_character_83 : decode cX7_character 83 = .ok (.iconst (-1), 1) := by decide +kernel
theorem dX7_character_84 : decode cX7_character 84 = .ok (.ireturn, 1) := by decide +kernel
theorem dX7_told_0 : decode cX7_told 0 = .ok (.aload_n 0, 1) := by decide +kernel
theorem dX7_told_1 : decode cX7_told 1 = .ok (.aload_n 0, 1) := by decide +kernel
theorem dX7_told_2 : decode cX7_told 2 = .ok (.iload_n 1, 1) := by decide +kernel
theorem dX7_told_3 : decode cX7_told 3 = .ok (.invokevirtual 28, 3) := by decide +kernel
theorem dX7_told_6 : decode cX7_told 6 = .ok (.ifCond .ne 7, 3) := by decide +kernel
theorem dX7_told_9 : decode cX7_told 9 = .ok (.iconst 1, 1) := by decide +kernel
theorem dX7_told_10 : decode cX7_told 10 = .ok (.goto 12, 3) := by decide +kernel
theorem dX7_told_13 : decode cX7_told 13 = .ok (.iload_n 2, 1) := by decide +kernel
theorem dX7_told_14 : decode cX7_told 14 = .ok (.ifCond .ge 7, 3) := by decide +kernel
theorem dX7_told_17 : decode cX7_told 17 = .ok (.iconst 2, 1) := by decide +kernel
theorem dX7_told_18 : decode cX7_told 18 = .ok (.goto 4, 3) := by decide +kernel
theorem dX7_told_21 : decode cX7_told 21 = .ok (.iconst 0, 1) := by decide +kernel
theorem dX7_told_22 : decode cX7_told 22 = .ok (.invokevirtual 90, 3) := by decide +kernel
theorem dX7_told_25 : decode cX7_told 25 = .ok (.ifCond .eq 12, 3) := by decide +kernel
theorem dX7_told_28 : decode cX7_told 28 = .ok (.aload_n 0, 1) := by decide +kernel
theorem dX7_told_29 : decode cX7_told 29 = .ok (.iload_n 1, 1) := by decide +kernel
theorem dX7_told_30 : decode cX7_told 30 = .ok (.iload_n 2, 1) := by decide +kernel
theorem dX7_told_31 : decode cX7_told 31 = .ok (.invokevirtual 158, 3) := by decide +kernel
theorem dX7_told_34 : decode cX7_told 34 = .ok (.goto 4, 3) := by decide +kernel
theorem dX7_told_37 : decode cX7_told 37 = .ok (.iconst 0, 1) := by decide +kernel
theorem dX7_told_38 : decode cX7_told 38 = .ok (.ireturn, 1) := by decide +kernel
theorem dX7_undo_0 : decode cX7_undo 0 = .ok (.aload_n 0, 1) := by decide +kernel
theorem dX7_undo_1 : decode cX7_undo 1 = .ok (.aload_n 0, 1) := by decide +kernel
theorem dX7_undo_2 : decode cX7_undo 2 = .ok (.getfield 84, 3) := by decide +kernel
theorem dX7_undo_5 : decode cX7_undo 5 = .ok (.ifCond .le 7, 3) := by decide +kernel
theorem dX7_undo_8 : decode cX7_undo 8 = .ok (.iconst 0, 1) := by decide +kernel
theorem dX7_undo_9 : decode cX7_undo 9 = .ok (.goto 4, 3) := by decide +kernel
theorem dX7_undo_12 : decode cX7_undo 12 = .ok (.iconst 1, 1) := by decide +kernel
theorem dX7_undo_13 : decode cX7_undo 13 = .ok (.invokevirtual 90, 3) := by decide +kernel
theorem dX7_undo_16 : decode cX7_undo 16 = .ok (.ifCond .ne 5, 3) := by decide +kernel
theorem dX7_undo_19 : decode cX7_undo 19 = .ok (.iconst 0, 1) := by decide +kernel
theorem dX7_undo_20 : decode cX7_undo 20 = .ok (.ireturn, 1) := by decide +kernel
theorem dX7_undo_21 : decode cX7_undo 21 = .ok (.aload_n 0, 1) := by decide +kernel
theorem dX7_undo_22 : decode cX7_undo 22 = .ok (.aload_n 0, 1) := by decide +kernel
theorem dX7_undo_23 : decode cX7_undo 23 = .ok (.getfield 84, 3) := by decide +kernel
theorem dX7_undo_26 : decode cX7_undo 26 = .ok (.iconst 0, 1) := by decide +kernel
theorem dX7_undo_27 : decode cX7_undo 27 = .ok (.invokevirtual 87, 3) := by decide +kernel
theorem dX7_undo_30 : decode cX7_undo 30 = .ok (.aload_n 0, 1) := by decide +kernel
theorem dX7_undo_31 : decode cX7_undo 31 = .ok (.dup, 1) := by decide +kernel
theorem dX7_undo_32 : decode cX7_undo 32 = .ok (.getfield 84, 3) := by decide +kernel
theorem dX7_undo_35 : decode cX7_undo 35 = .ok (.iconst 1, 1) := by decide +kernel
theorem dX7_undo_36 : decode cX7_undo 36 = .ok (.isub, 1) := by decide +kernel
theorem dX7_undo_37 : decode cX7_undo 37 = .ok (.putfield 84, 3) := by decide +kernel
theorem dX7_undo_40 : decode cX7_undo 40 = .ok (.aload_n 0, 1) := by decide +kernel
theorem dX7_undo_41 : decode cX7_undo 41 = .ok (.getfield 84, 3) := by decide +kernel
theorem dX7_undo_44 : decode cX7_undo 44 = .ok (.ireturn, 1) := by decide +kernel
theorem dX7_keep_0 : decode cX7_keep 0 = .ok (.aload_n 0, 1) := by decide +kernel
theorem dX7_keep_1 : decode cX7_keep 1 = .ok (.iconst 0, 1) := by decide +kernel
theorem dX7_keep_2 : decode cX7_keep 2 = .ok (.putfield 16, 3) := by decide +kernel
theorem dX7_keep_5 : decode cX7_keep 5 = .ok (.aload_n 0, 1) := by decide +kernel
theorem dX7_keep_6 : decode cX7_keep 6 = .ok (.iconst 0, 1) := by decide +kernel
theorem dX7_keep_7 : decode cX7_keep 7 = .ok (.bipush 7, 2) := by decide +kernel
theorem dX7_keep_9 : decode cX7_keep 9 = .ok (.invokevirtual 87, 3) := by decide +kernel
theorem dX7_keep_12 : decode cX7_keep 12 = .ok (.aload_n 0, 1) := by decide +kernel
theorem dX7_keep_13 : decode cX7_keep 13 = .ok (.iconst 1, 1) := by decide +kernel
theorem dX7_keep_14 : decode cX7_keep 14 = .ok (.putfield 161, 3) := by decide +kernel
theorem dX7_keep_17 : decode cX7_keep 17 = .ok (.aload_n 0, 1) := by decide +kernel
theorem dX7_keep_18 : decode cX7_keep 18 = .ok (.getfield 7, 3) := by decide +kernel
theorem dX7_keep_21 : decode cX7_keep 21 = .ok (.iconst 3, 1) := by decide +kernel
theorem dX7_keep_22 : decode cX7_keep 22 = .ok (.iaload, 1) := by decide +kernel
theorem dX7_keep_23 : decode cX7_keep 23 = .ok (.ireturn, 1) := by decide +kernel
theorem dX7_restore_0 : decode cX7_restore 0 = .ok (.aload_n 0, 1) := by decide +kernel
theorem dX7_restore_1 : decode cX7_restore 1 = .ok (.aload_n 0, 1) := by decide +kernel
theorem dX7_restore_2 : decode cX7_restore 2 = .ok (.getfield 161, 3) := by decide +kernel
theorem dX7_restore_5 : decode cX7_restore 5 = .ok (.ifCond .eq 7, 3) := by decide +kernel
theorem dX7_restore_8 : decode cX7_restore 8 = .ok (.iconst 0, 1) := by decide +kernel
theorem dX7_restore_9 : decode cX7_restore 9 = .ok (.goto 4, 3) := by decide +kernel
theorem dX7_restore_12 : decode cX7_restore 12 = .ok (.iconst 1, 1) := by decide +kernel
theorem dX7_restore_13 : decode cX7_restore 13 = .ok (.invokevirtual 90, 3) := by decide +kernel
theorem dX7_restore_16 : decode cX7_restore 16 = .ok (.ifCond .ne 5, 3) := by decide +kernel
theorem dX7_restore_19 : decode cX7_restore 19 = .ok (.iconst 0, 1) := by decide +kernel
theorem dX7_restore_20 : decode cX7_restore 20 = .ok (.ireturn, 1) := by decide +kernel
theorem dX7_restore_21 : decode cX7_restore 21 = .ok (.aload_n 0, 1) := by decide +kernel
theorem dX7_restore_22 : decode cX7_restore 22 = .ok (.invokevirtual 93, 3) := by decide +kernel
theorem dX7_restore_25 : decode cX7_restore 25 = .ok (.aload_n 0, 1) := by decide +kernel
theorem dX7_restore_26 : decode cX7_restore 26 = .ok (.bipush 7, 2) := by decide +kernel
theorem dX7_restore_28 : decode cX7_restore 28 = .ok (.iconst 0, 1) := by decide +kernel
theorem dX7_restore_29 : decode cX7_restore 29 = .ok (.invokevirtual 87, 3) := by decide +kernel
theorem dX7_restore_32 : decode cX7_restore 32 = .ok (.aload_n 0, 1) := by decide +kernel
theorem dX7_restore_33 : decode cX7_restore 33 = .ok (.getfield 7, 3) := by decide +kernel
theorem dX7_restore_36 : decode cX7_restore 36 = .ok (.iconst 3, 1) := by decide +kernel
theorem dX7_restore_37 : decode cX7_restore 37 = .ok (.iaload, 1) := by decide +kernel
theorem dX7_restore_38 : decode cX7_restore 38 = .ok (.ireturn, 1) := by decide +kernel
theorem dX7_ofGuest_0 : decode cX7_ofGuest 0 = .ok (.iload_n 2, 1) := by decide +kernel
theorem dX7_ofGuest_1 : decode cX7_ofGuest 1 = .ok (.iconst 5, 1) := by decide +kernel
theorem dX7_ofGuest_2 : decode cX7_ofGuest 2 = .ok (.if_icmp .ge 13, 3) := by decide +kernel
theorem dX7_ofGuest_5 : decode cX7_ofGuest 5 = .ok (.aload_n 0, 1) := by decide +kernel
theorem dX7_ofGuest_6 : decode cX7_ofGuest 6 = .ok (.iconst 0, 1) := by decide +kernel
theorem dX7_ofGuest_7 : decode cX7_ofGuest 7 = .ok (.iload_n 1, 1) := by decide +kernel
theorem dX7_ofGuest_8 : decode cX7_ofGuest 8 = .ok (.iload_n 2, 1) := by decide +kernel
theorem dX7_ofGuest_9 : decode cX7_ofGuest 9 = .ok (.invokevirtual 31, 3) := by decide +kernel
theorem dX7_ofGuest_12 : decode cX7_ofGuest 12 = .ok (.goto 23, 3) := by decide +kernel
theorem dX7_ofGuest_15 : decode cX7_ofGuest 15 = .ok (.iload_n 2, 1) := by decide +kernel
theorem dX7_ofGuest_16 : decode cX7_ofGuest 16 = .ok (.iconst 5, 1) := by decide +kernel
theorem dX7_ofGuest_17 : decode cX7_ofGuest 17 = .ok (.if_icmp .ne 12, 3) := by decide +kernel
theorem dX7_ofGuest_20 : decode cX7_ofGuest 20 = .ok (.aload_n 0, 1) := by decide +kernel
theorem dX7_ofGuest_21 : decode cX7_ofGuest 21 = .ok (.iconst 0, 1) := by decide +kernel
theorem dX7_ofGuest_22 : decode cX7_ofGuest 22 = .ok (.iload_n 1, 1) := by decide +kernel
theorem dX7_ofGuest_23 : decode cX7_ofGuest 23 = .ok (.invokevirtual 48, 3) := by decide +kernel
theorem dX7_ofGuest_26 : decode cX7_ofGuest 26 = .ok (.goto 9, 3) := by decide +kernel
theorem dX7_ofGuest_29 : decode cX7_ofGuest 29 = .ok (.aload_n 0, 1) := by decide +kernel
theorem dX7_ofGuest_30 : decode cX7_ofGuest 30 = .ok (.iconst 0, 1) := by decide +kernel
theorem dX7_ofGuest_31 : decode cX7_ofGuest 31 = .ok (.iload_n 1, 1) := by decide +kernel
theorem dX7_ofGuest_32 : decode cX7_ofGuest 32 = .ok (.invokevirtual 51, 3) := by decide +kernel
theorem dX7_ofGuest_35 : decode cX7_ofGuest 35 = .ok (.ireturn, 1) := by decide +kernel
theorem dX7_guestOf_0 : decode cX7_guestOf 0 = .ok (.aload_n 0, 1) := by decide +kernel
theorem dX7_guestOf_1 : decode cX7_guestOf 1 = .ok (.aload_n 0, 1) := by decide +kernel
theorem dX7_guestOf_2 : decode cX7_guestOf 2 = .ok (.iload_n 1, 1) := by decide +kernel
theorem dX7_guestOf_3 : decode cX7_guestOf 3 = .ok (.invokevirtual 96, 3) := by decide +kernel
theorem dX7_guestOf_6 : decode cX7_guestOf 6 = .ok (.ifCond .ne 7, 3) := by decide +kernel
theorem dX7_guestOf_9 : decode cX7_guestOf 9 = .ok (.iconst 1, 1) := by decide +kernel
theorem dX7_guestOf_10 : decode cX7_guestOf 10 = .ok (.goto 18, 3) := by decide +kernel
theorem dX7_guestOf_13 : decode cX7_guestOf 13 = .ok (.iload_n 2, 1) := by decide +kernel
theorem dX7_guestOf_14 : decode cX7_guestOf 14 = .ok (.iconst 0, 1) := by decide +kernel
theorem dX7_guestOf_15 : decode cX7_guestOf 15 = .ok (.bipush 6, 2) := by decide +kernel
theorem dX7_guestOf_17 : decode cX7_guestOf 17 = .ok (.invokestatic 20, 3) := by decide +kernel
theorem dX7_guestOf_20 : decode cX7_guestOf 20 = .ok (.ifCond .ne 7, 3) := by decide +kernel
theorem dX7_guestOf_23 : decode cX7_guestOf 23 = .ok (.iconst 2, 1) := by decide +kernel
theorem dX7_guestOf_24 : decode cX7_guestOf 24 = .ok (.goto 4, 3) := by decide +kernel
theorem dX7_guestOf_27 : decode cX7_guestOf 27 = .ok (.iconst 0, 1) := by decide +kernel
theorem dX7_guestOf_28 : decode cX7_guestOf 28 = .ok (.invokevirtual 90, 3) := by decide +kernel
theorem dX7_guestOf_31 : decode cX7_guestOf 31 = .ok (.ifCond .eq 12, 3) := by decide +kernel
theorem dX7_guestOf_34 : decode cX7_guestOf 34 = .ok (.aload_n 0, 1) := by decide +kernel
theorem dX7_guestOf_35 : decode cX7_guestOf 35 = .ok (.iload_n 1, 1) := by decide +kernel
theorem dX7_guestOf_36 : decode cX7_guestOf 36 = .ok (.iload_n 2, 1) := by decide +kernel
theorem dX7_guestOf_37 : decode cX7_guestOf 37 = .ok (.invokevirtual 164, 3) := by decide +kernel
theorem dX7_guestOf_40 : decode cX7_guestOf 40 = .ok (.goto 4, 3) := by decide +kernel
theorem dX7_guestOf_43 : decode cX7_guestOf 43 = .ok (.iconst 0, 1) := by decide +kernel
theorem dX7_guestOf_44 : decode cX7_guestOf 44 = .ok (.ireturn, 1) := by decide +kernel
theorem dX7_ofTable_0 : decode cX7_ofTable 0 = .ok (.iconst 0, 1) := by decide +kernel
theorem dX7_ofTable_1 : decode cX7_ofTable 1 = .ok (.istore_n 3, 1) := by decide +kernel
theorem dX7_ofTable_2 : decode cX7_ofTable 2 = .ok (.iconst 0, 1) := by decide +kernel
theorem dX7_ofTable_3 : decode cX7_ofTable 3 = .ok (.istore 4, 2) := by decide +kernel
theorem dX7_ofTable_5 : decode cX7_ofTable 5 = .ok (.iconst 0, 1) := by decide +kernel
theorem dX7_ofTable_6 : decode cX7_ofTable 6 = .ok (.istore 5, 2) := by decide +kernel
theorem dX7_ofTable_8 : decode cX7_ofTable 8 = .ok (.iconst 0, 1) := by decide +kernel
theorem dX7_ofTable_9 : decode cX7_ofTable 9 = .ok (.istore 6, 2) := by decide +kernel
theorem dX7_ofTable_11 : decode cX7_ofTable 11 = .ok (.iload 6, 2) := by decide +kernel
theorem dX7_ofTable_13 : decode cX7_ofTable 13 = .ok (.aload_n 0, 1) := by decide +kernel
theorem dX7_ofTable_14 : decode cX7_ofTable 14 = .ok (.getfield 7, 3) := by decide +kernel
theorem dX7_ofTable_17 : decode cX7_ofTable 17 = .ok (.bipush 18, 2) := by decide +kernel
theorem dX7_ofTable_19 : decode cX7_ofTable 19 = .ok (.iload_n 1, 1) := by decide +kernel
theorem dX7_ofTable_20 : decode cX7_ofTable 20 = .ok (.iadd, 1) := by decide +kernel
theorem dX7_ofTable_21 : decode cX7_ofTable 21 = .ok (.iaload, 1) := by decide +kernel
theorem dX7_ofTable_22 : decode cX7_ofTable 22 = .ok (.if_icmp .ge 82, 3) := by decide +kernel
theorem dX7_ofTable_25 : decode cX7_ofTable 25 = .ok (.aload_n 0, 1) := by decide +kernel
theorem dX7_ofTable_26 : decode cX7_ofTable 26 = .ok (.iconst 0, 1) := by decide +kernel
theorem dX7_ofTable_27 : decode cX7_ofTable 27 = .ok (.iload_n 1, 1) := by decide +kernel
theorem dX7_ofTable_28 : decode cX7_ofTable 28 = .ok (.iload 6, 2) := by decide +kernel
theorem dX7_ofTable_30 : decode cX7_ofTable 30 = .ok (.invokevirtual 35, 3) := by decide +kernel
theorem dX7_ofTable_33 : decode cX7_ofTable 33 = .ok (.istore 7, 2) := by decide +kernel
theorem dX7_ofTable_35 : decode cX7_ofTable 35 = .ok (.iload_n 3, 1) := by decide +kernel
theorem dX7_ofTable_36 : decode cX7_ofTable 36 = .ok (.iload 7, 2) := by decide +kernel
theorem dX7_ofTable_38 : decode cX7_ofTable 38 = .ok (.iconst (-1), 1) := by decide +kernel
theorem dX7_ofTable_39 : decode cX7_ofTable 39 = .ok (.if_icmp .ne 7, 3) := by decide +kernel
theorem dX7_ofTable_42 : decode cX7_ofTable 42 = .ok (.iconst 0, 1) := by decide +kernel
theorem dX7_ofTable_43 : decode cX7_ofTable 43 = .ok (.goto 4, 3) := by decide +kernel
theorem dX7_ofTable_46 : decode cX7_ofTable 46 = .ok (.iconst 1, 1) := by decide +kernel
theorem dX7_ofTable_47 : decode cX7_ofTable 47 = .ok (.iadd, 1) := by decide +kernel
theorem dX7_ofTable_48 : decode cX7_ofTable 48 = .ok (.istore_n 3, 1) := by decide +kernel
theorem dX7_ofTable_49 : decode cX7_ofTable 49 = .ok (.iload 4, 2) := by decide +kernel
theorem dX7_ofTable_51 : decode cX7_ofTable 51 = .ok (.iload 7, 2) := by decide +kernel
theorem dX7_ofTable_53 : decode cX7_ofTable 53 = .ok (.iconst (-1), 1) := by decide +kernel
theorem dX7_ofTable_54 : decode cX7_ofTable 54 = .ok (.if_icmp .ne 7, 3) := by decide +kernel
theorem dX7_ofTable_57 : decode cX7_ofTable 57 = .ok (.iconst 0, 1) := by decide +kernel
theorem dX7_ofTable_58 : decode cX7_ofTable 58 = .ok (.goto 13, 3) := by decide +kernel
theorem dX7_ofTable_61 : decode cX7_ofTable 61 = .ok (.iconst 1, 1) := by decide +kernel
theorem dX7_ofTable_62 : decode cX7_ofTable 62 = .ok (.aload_n 0, 1) := by decide +kernel
theorem dX7_ofTable_63 : decode cX7_ofTable 63 = .ok (.iconst 0, 1) := by decide +kernel
theorem dX7_ofTable_64 : decode cX7_ofTable 64 = .ok (.iload 7, 2) := by decide +kernel
theorem dX7_ofTable_66 : decode cX7_ofTable 66 = .ok (.iconst 0, 1) := by decide +kernel
theorem dX7_ofTable_67 : decode cX7_ofTable 67 = .ok (.invokevirtual 31, 3) := by decide +kernel
theorem dX7_ofTable_70 : decode cX7_ofTable 70 = .ok (.ishl, 1) := by decide +kernel
theorem dX7_ofTable_71 : decode cX7_ofTable 71 = .ok (.ior, 1) := by decide +kernel
theorem dX7_ofTable_72 : decode cX7_ofTable 72 = .ok (.istore 4, 2) := by decide +kernel
theorem dX7_ofTable_74 : decode cX7_ofTable 74 = .ok (.iload 5, 2) := by decide +kernel
theorem dX7_ofTable_76 : decode cX7_ofTable 76 = .ok (.iload 7, 2) := by decide +kernel
theorem dX7_ofTable_78 : decode cX7_ofTable 78 = .ok (.iconst (-1), 1) := by decide +kernel
theorem dX7_ofTable_79 : decode cX7_ofTable 79 = .ok (.if_icmp .ne 15, 3) := by decide +kernel
theorem dX7_ofTable_82 : decode cX7_ofTable 82 = .ok (.iload 6, 2) := by decide +kernel
theorem dX7_ofTable_84 : decode cX7_ofTable 84 = .ok (.invokestatic 38, 3) := by decide +kernel
theorem dX7_ofTable_87 : decode cX7_ofTable 87 = .ok (.ifCond .ne 7, 3) := by decide +kernel
theorem dX7_ofTable_90 : decode cX7_ofTable 90 = .ok (.iconst 1, 1) := by decide +kernel
theorem dX7_ofTable_91 : decode cX7_ofTable 91 = .ok (.goto 4, 3) := by decide +kernel
theorem dX7_ofTable_94 : decode cX7_ofTable 94 = .ok (.iconst 0, 1) := by decide +kernel
theorem dX7_ofTable_95 : decode cX7_ofTable 95 = .ok (.iadd, 1) := by decide +kernel
theorem dX7_ofTable_96 : decode cX7_ofTable 96 = .ok (.istore 5, 2) := by decide +kernel
theorem dX7_ofTable_98 : decode cX7_ofTable 98 = .ok (.iinc 6 1, 3) := by decide +kernel
theorem dX7_ofTable_101 : decode cX7_ofTable 101 = .ok (.goto (-90), 3) := by decide +kernel
theorem dX7_ofTable_104 : decode cX7_ofTable 104 = .ok (.iload_n 2, 1) := by decide +kernel
theorem dX7_ofTable_105 : decode cX7_ofTable 105 = .ok (.tableswitch 53 0 3 #[31, 41, 43, 46], 31) := by decide +kernel
theorem dX7_ofTable_136 : decode cX7_ofTable 136 = .ok (.aload_n 0, 1) := by decide +kernel
theorem dX7_ofTable_137 : decode cX7_ofTable 137 = .ok (.getfield 7, 3) := by decide +kernel
theorem dX7_ofTable_140 : decode cX7_ofTable 140 = .ok (.bipush 18, 2) := by decide +kernel
theorem dX7_ofTable_142 : decode cX7_ofTable 142 = .ok (.iload_n 1, 1) := by decide +kernel
theorem dX7_ofTable_143 : decode cX7_ofTable 143 = .ok (.iadd, 1) := by decide +kernel
theorem dX7_ofTable_144 : decode cX7_ofTable 144 = .ok (.iaload, 1) := by decide +kernel
theorem dX7_ofTable_145 : decode cX7_ofTable 145 = .ok (.ireturn, 1) := by decide +kernel
theorem dX7_ofTable_146 : decode cX7_ofTable 146 = .ok (.iload_n 3, 1) := by decide +kernel
theorem dX7_ofTable_147 : decode cX7_ofTable 147 = .ok (.ireturn, 1) := by decide +kernel
theorem dX7_ofTable_148 : decode cX7_ofTable 148 = .ok (.iload 4, 2) := by decide +kernel
theorem dX7_ofTable_150 : decode cX7_ofTable 150 = .ok (.ireturn, 1) := by decide +kernel
theorem dX7_ofTable_151 : decode cX7_ofTable 151 = .ok (.aload_n 0, 1) := by decide +kernel
theorem dX7_ofTable_152 : decode cX7_ofTable 152 = .ok (.iconst 0, 1) := by decide +kernel
theorem dX7_ofTable_153 : decode cX7_ofTable 153 = .ok (.iload_n 1, 1) := by decide +kernel
theorem dX7_ofTable_154 : decode cX7_ofTable 154 = .ok (.invokevirtual 58, 3) := by decide +kernel
theorem dX7_ofTable_157 : decode cX7_ofTable 157 = .ok (.ireturn, 1) := by decide +kernel
theorem dX7_ofTable_158 : decode cX7_ofTable 158 = .ok (.iload 5, 2) := by decide +kernel
theorem dX7_ofTable_160 : decode cX7_ofTable 160 = .ok (.ireturn, 1) := by decide +kernel
theorem dX7_tableOf_0 : decode cX7_tableOf 0 = .ok (.aload_n 0, 1) := by decide +kernel
theorem dX7_tableOf_1 : decode cX7_tableOf 1 = .ok (.aload_n 0, 1) := by decide +kernel
theorem dX7_tableOf_2 : decode cX7_tableOf 2 = .ok (.iload_n 1, 1) := by decide +kernel
theorem dX7_tableOf_3 : decode cX7_tableOf 3 = .ok (.invokevirtual 28, 3) := by decide +kernel
theorem dX7_tableOf_6 : decode cX7_tableOf 6 = .ok (.ifCond .ne 7, 3) := by decide +kernel
theorem dX7_tableOf_9 : decode cX7_tableOf 9 = .ok (.iconst 1, 1) := by decide +kernel
theorem dX7_tableOf_10 : decode cX7_tableOf 10 = .ok (.goto 17, 3) := by decide +kernel
theorem dX7_tableOf_13 : decode cX7_tableOf 13 = .ok (.iload_n 2, 1) := by decide +kernel
theorem dX7_tableOf_14 : decode cX7_tableOf 14 = .ok (.iconst 0, 1) := by decide +kernel
theorem dX7_tableOf_15 : decode cX7_tableOf 15 = .ok (.iconst 4, 1) := by decide +kernel
theorem dX7_tableOf_16 : decode cX7_tableOf 16 = .ok (.invokestatic 20, 3) := by decide +kernel
theorem dX7_tableOf_19 : decode cX7_tableOf 19 = .ok (.ifCond .ne 7, 3) := by decide +kernel
theorem dX7_tableOf_22 : decode cX7_tableOf 22 = .ok (.iconst 2, 1) := by decide +kernel
theorem dX7_tableOf_23 : decode cX7_tableOf 23 = .ok (.goto 4, 3) := by decide +kernel
theorem dX7_tableOf_26 : decode cX7_tableOf 26 = .ok (.iconst 0, 1) := by decide +kernel
theorem dX7_tableOf_27 : decode cX7_tableOf 27 = .ok (.invokevirtual 90, 3) := by decide +kernel
theorem dX7_tableOf_30 : decode cX7_tableOf 30 = .ok (.ifCond .eq 12, 3) := by decide +kernel
theorem dX7_tableOf_33 : decode cX7_tableOf 33 = .ok (.aload_n 0, 1) := by decide +kernel
theorem dX7_tableOf_34 : decode cX7_tableOf 34 = .ok (.iload_n 1, 1) := by decide +kernel
theorem dX7_tableOf_35 : decode cX7_tableOf 35 = .ok (.iload_n 2, 1) := by decide +kernel
theorem dX7_tableOf_36 : decode cX7_tableOf 36 = .ok (.invokevirtual 167, 3) := by decide +kernel
theorem dX7_tableOf_39 : decode cX7_tableOf 39 = .ok (.goto 4, 3) := by decide +kernel
theorem dX7_tableOf_42 : decode cX7_tableOf 42 = .ok (.iconst 0, 1) := by decide +kernel
theorem dX7_tableOf_43 : decode cX7_tableOf 43 = .ok (.ireturn, 1) := by decide +kernel
theorem dX7_who_0 : decode cX7_who 0 = .ok (.aload_n 0, 1) := by decide +kernel
theorem dX7_who_1 : decode cX7_who 1 = .ok (.aload_n 0, 1) := by decide +kernel
theorem dX7_who_2 : decode cX7_who 2 = .ok (.iload_n 1, 1) := by decide +kernel
theorem dX7_who_3 : decode cX7_who 3 = .ok (.iload_n 2, 1) := by decide +kernel
theorem dX7_who_4 : decode cX7_who 4 = .ok (.invokevirtual 107, 3) := by decide +kernel
theorem dX7_who_7 : decode cX7_who 7 = .ok (.ifCond .eq 7, 3) := by decide +kernel
theorem dX7_who_10 : decode cX7_who 10 = .ok (.iconst 0, 1) := by decide +kernel
theorem dX7_who_11 : decode cX7_who 11 = .ok (.goto 4, 3) := by decide +kernel
theorem dX7_who_14 : decode cX7_who 14 = .ok (.iconst 1, 1) := by decide +kernel
theorem dX7_who_15 : decode cX7_who 15 = .ok (.invokevirtual 90, 3) := by decide +kernel
theorem dX7_who_18 : decode cX7_who 18 = .ok (.ifCond .eq 13, 3) := by decide +kernel
theorem dX7_who_21 : decode cX7_who 21 = .ok (.aload_n 0, 1) := by decide +kernel
theorem dX7_who_22 : decode cX7_who 22 = .ok (.iconst 0, 1) := by decide +kernel
theorem dX7_who_23 : decode cX7_who 23 = .ok (.iload_n 1, 1) := by decide +kernel
theorem dX7_who_24 : decode cX7_who 24 = .ok (.iload_n 2, 1) := by decide +kernel
theorem dX7_who_25 : decode cX7_who 25 = .ok (.invokevirtual 35, 3) := by decide +kernel
theorem dX7_who_28 : decode cX7_who 28 = .ok (.goto 4, 3) := by decide +kernel
theorem dX7_who_31 : decode cX7_who 31 = .ok (.iconst 0, 1) := by decide +kernel
theorem dX7_who_32 : decode cX7_who 32 = .ok (.ireturn, 1) := by decide +kernel
theorem dX7_seated_0 : decode cX7_seated 0 = .ok (.aload_n 0, 1) := by decide +kernel
theorem dX7_seated_1 : decode cX7_seated 1 = .ok (.iload_n 1, 1) := by decide +kernel
theorem dX7_seated_2 : decode cX7_seated 2 = .ok (.ifCond .ge 7, 3) := by decide +kernel
theorem dX7_seated_5 : decode cX7_seated 5 = .ok (.iconst 1, 1) := by decide +kernel
theorem dX7_seated_6 : decode cX7_seated 6 = .ok (.goto 4, 3) := by decide +kernel
theorem dX7_seated_9 : decode cX7_seated 9 = .ok (.iconst 0, 1) := by decide +kernel
theorem dX7_seated_10 : decode cX7_seated 10 = .ok (.invokevirtual 90, 3) := by decide +kernel
theorem dX7_seated_13 : decode cX7_seated 13 = .ok (.ifCond .ne 5, 3) := by decide +kernel
theorem dX7_seated_16 : decode cX7_seated 16 = .ok (.iconst 0, 1) := by decide +kernel
theorem dX7_seated_17 : decode cX7_seated 17 = .ok (.ireturn, 1) := by decide +kernel
theorem dX7_seated_18 : decode cX7_seated 18 = .ok (.iload_n 1, 1) := by decide +kernel
theorem dX7_seated_19 : decode cX7_seated 19 = .ok (.aload_n 0, 1) := by decide +kernel
theorem dX7_seated_20 : decode cX7_seated 20 = .ok (.getfield 7, 3) := by decide +kernel
theorem dX7_seated_23 : decode cX7_seated 23 = .ok (.iconst 3, 1) := by decide +kernel
theorem dX7_seated_24 : decode cX7_seated 24 = .ok (.iaload, 1) := by decide +kernel
theorem dX7_seated_25 : decode cX7_seated 25 = .ok (.if_icmp .ge 15, 3) := by decide +kernel
theorem dX7_seated_28 : decode cX7_seated 28 = .ok (.aload_n 0, 1) := by decide +kernel
theorem dX7_seated_29 : decode cX7_seated 29 = .ok (.getfield 7, 3) := by decide +kernel
theorem dX7_seated_32 : decode cX7_seated 32 = .ok (.bipush 22, 2) := by decide +kernel
theorem dX7_seated_34 : decode cX7_seated 34 = .ok (.iload_n 1, 1) := by decide +kernel
theorem dX7_seated_35 : decode cX7_seated 35 = .ok (.iadd, 1) := by decide +kernel
theorem dX7_seated_36 : decode cX7_seated 36 = .ok (.iaload, 1) := by decide +kernel
theorem dX7_seated_37 : decode cX7_seated 37 = .ok (.goto 4, 3) := by decide +kernel
theorem dX7_seated_40 : decode cX7_seated 40 = .ok (.iconst (-1), 1) := by decide +kernel
theorem dX7_seated_41 : decode cX7_seated 41 = .ok (.ireturn, 1) := by decide +kernel
theorem dX7_feudAt_0 : decode cX7_feudAt 0 = .ok (.aload_n 0, 1) := by decide +kernel
theorem dX7_feudAt_1 : decode cX7_feudAt 1 = .ok (.iload_n 1, 1) := by decide +kernel
theorem dX7_feudAt_2 : decode cX7_feudAt 2 = .ok (.ifCond .ge 7, 3) := by decide +kernel
theorem dX7_feudAt_5 : decode cX7_feudAt 5 = .ok (.iconst 1, 1) := by decide +kernel
theorem dX7_feudAt_6 : decode cX7_feudAt 6 = .ok (.goto 4, 3) := by decide +kernel
theorem dX7_feudAt_9 : decode cX7_feudAt 9 = .ok (.iconst 0, 1) := by decide +kernel
theorem dX7_feudAt_10 : decode cX7_feudAt 10 = .ok (.invokevirtual 90, 3) := by decide +kernel
theorem dX7_feudAt_13 : decode cX7_feudAt 13 = .ok (.ifCond .ne 5, 3) := by decide +kernel
theorem dX7_feudAt_16 : decode cX7_feudAt 16 = .ok (.iconst 0, 1) := by decide +kernel
theorem dX7_feudAt_17 : decode cX7_feudAt 17 = .ok (.ireturn, 1) := by decide +kernel
theorem dX7_feudAt_18 : decode cX7_feudAt 18 = .ok (.iload_n 1, 1) := by decide +kernel
theorem dX7_feudAt_19 : decode cX7_feudAt 19 = .ok (.aload_n 0, 1) := by decide +kernel
theorem dX7_feudAt_20 : decode cX7_feudAt 20 = .ok (.getfield 7, 3) := by decide +kernel
theorem dX7_feudAt_23 : decode cX7_feudAt 23 = .ok (.iconst 2, 1) := by decide +kernel
theorem dX7_feudAt_24 : decode cX7_feudAt 24 = .ok (.iaload, 1) := by decide +kernel
theorem dX7_feudAt_25 : decode cX7_feudAt 25 = .ok (.if_icmp .ge 15, 3) := by decide +kernel
theorem dX7_feudAt_28 : decode cX7_feudAt 28 = .ok (.aload_n 0, 1) := by decide +kernel
theorem dX7_feudAt_29 : decode cX7_feudAt 29 = .ok (.getfield 7, 3) := by decide +kernel
theorem dX7_feudAt_32 : decode cX7_feudAt 32 = .ok (.bipush 10, 2) := by decide +kernel
theorem dX7_feudAt_34 : decode cX7_feudAt 34 = .ok (.iload_n 1, 1) := by decide +kernel
theorem dX7_feudAt_35 : decode cX7_feudAt 35 = .ok (.iadd, 1) := by decide +kernel
theorem dX7_feudAt_36 : decode cX7_feudAt 36 = .ok (.iaload, 1) := by decide +kernel
theorem dX7_feudAt_37 : decode cX7_feudAt 37 = .ok (.goto 4, 3) := by decide +kernel
theorem dX7_feudAt_40 : decode cX7_feudAt 40 = .ok (.iconst (-1), 1) := by decide +kernel
theorem dX7_feudAt_41 : decode cX7_feudAt 41 = .ok (.ireturn, 1) := by decide +kernel
theorem dX7_wishes_0 : decode cX7_wishes 0 = .ok (.iconst 0, 1) := by decide +kernel
theorem dX7_wishes_1 : decode cX7_wishes 1 = .ok (.istore_n 2, 1) := by decide +kernel
theorem dX7_wishes_2 : decode cX7_wishes 2 = .ok (.iconst 0, 1) := by decide +kernel
theorem dX7_wishes_3 : decode cX7_wishes 3 = .ok (.istore_n 3, 1) := by decide +kernel
theorem dX7_wishes_4 : decode cX7_wishes 4 = .ok (.iload_n 3, 1) := by decide +kernel
theorem dX7_wishes_5 : decode cX7_wishes 5 = .ok (.aload_n 0, 1) := by decide +kernel
theorem dX7_wishes_6 : decode cX7_wishes 6 = .ok (.getfield 7, 3) := by decide +kernel
theorem dX7_wishes_9 : decode cX7_wishes 9 = .ok (.iconst 0, 1) := by decide +kernel
theorem dX7_wishes_10 : decode cX7_wishes 10 = .ok (.iaload, 1) := by decide +kernel
theorem dX7_wishes_11 : decode cX7_wishes 11 = .ok (.if_icmp .ge 61, 3) := by decide +kernel
theorem dX7_wishes_14 : decode cX7_wishes 14 = .ok (.iload_n 1, 1) := by decide +kernel
theorem dX7_wishes_15 : decode cX7_wishes 15 = .ok (.ifCond .eq 20, 3) := by decide +kernel
theorem dX7_wishes_18 : decode cX7_wishes 18 = .ok (.aload_n 0, 1) := by decide +kernel
theorem dX7_wishes_19 : decode cX7_wishes 19 = .ok (.iconst 0, 1) := by decide +kernel
theorem dX7_wishes_20 : decode cX7_wishes 20 = .ok (.iload_n 3, 1) := by decide +kernel
theorem dX7_wishes_21 : decode cX7_wishes 21 = .ok (.invokevirtual 48, 3) := by decide +kernel
theorem dX7_wishes_24 : decode cX7_wishes 24 = .ok (.ifCond .le 7, 3) := by decide +kernel
theorem dX7_wishes_27 : decode cX7_wishes 27 = .ok (.iconst 1, 1) := by decide +kernel
theorem dX7_wishes_28 : decode cX7_wishes 28 = .ok (.goto 23, 3) := by decide +kernel
theorem dX7_wishes_31 : decode cX7_wishes 31 = .ok (.iconst 0, 1) := by decide +kernel
theorem dX7_wishes_32 : decode cX7_wishes 32 = .ok (.goto 19, 3) := by decide +kernel
theorem dX7_wishes_35 : decode cX7_wishes 35 = .ok (.aload_n 0, 1) := by decide +kernel
theorem dX7_wishes_36 : decode cX7_wishes 36 = .ok (.iconst 0, 1) := by decide +kernel
theorem dX7_wishes_37 : decode cX7_wishes 37 = .ok (.iload_n 3, 1) := by decide +kernel
theorem dX7_wishes_38 : decode cX7_wishes 38 = .ok (.iconst 2, 1) := by decide +kernel
theorem dX7_wishes_39 : decode cX7_wishes 39 = .ok (.invokevirtual 31, 3) := by decide +kernel
theorem dX7_wishes_42 : decode cX7_wishes 42 = .ok (.iconst (-1), 1) := by decide +kernel
theorem dX7_wishes_43 : decode cX7_wishes 43 = .ok (.if_icmp .eq 7, 3) := by decide +kernel
theorem dX7_wishes_46 : decode cX7_wishes 46 = .ok (.iconst 1, 1) := by decide +kernel
theorem dX7_wishes_47 : decode cX7_wishes 47 = .ok (.goto 4, 3) := by decide +kernel
theorem dX7_wishes_50 : decode cX7_wishes 50 = .ok (.iconst 0, 1) := by decide +kernel
theorem dX7_wishes_51 : decode cX7_wishes 51 = .ok (.istore 4, 2) := by decide +kernel
theorem dX7_wishes_53 : decode cX7_wishes 53 = .ok (.iload_n 2, 1) := by decide +kernel
theorem dX7_wishes_54 : decode cX7_wishes 54 = .ok (.iload 4, 2) := by decide +kernel
theorem dX7_wishes_56 : decode cX7_wishes 56 = .ok (.ifCond .eq 7, 3) := by decide +kernel
theorem dX7_wishes_59 : decode cX7_wishes 59 = .ok (.iconst 1, 1) := by decide +kernel
theorem dX7_wishes_60 : decode cX7_wishes 60 = .ok (.goto 4, 3) := by decide +kernel
theorem dX7_wishes_63 : decode cX7_wishes 63 = .ok (.iconst 0, 1) := by decide +kernel
theorem dX7_wishes_64 : decode cX7_wishes 64 = .ok (.iadd, 1) := by decide +kernel
theorem dX7_wishes_65 : decode cX7_wishes 65 = .ok (.istore_n 2, 1) := by decide +kernel
theorem dX7_wishes_66 : decode cX7_wishes 66 = .ok (.iinc 3 1, 3) := by decide +kernel
theorem dX7_wishes_69 : decode cX7_wishes 69 = .ok (.goto (-65), 3) := by decide +kernel
theorem dX7_wishes_72 : decode cX7_wishes 72 = .ok (.iload_n 2, 1) := by decide +kernel
theorem dX7_wishes_73 : decode cX7_wishes 73 = .ok (.ireturn, 1) := by decide +kernel
theorem dX7_counted_0 : decode cX7_counted 0 = .ok (.iload_n 1, 1) := by decide +kernel
theorem dX7_counted_1 : decode cX7_counted 1 = .ok (.tableswitch 85 4 13 #[55, 55, 62, 68, 68, 85, 85, 85, 85, 80], 55) := by decide +kernel
theorem dX7_counted_56 : decode cX7_counted 56 = .ok (.aload_n 0, 1) := by decide +kernel
theorem dX7_counted_57 : decode cX7_counted 57 = .ok (.iconst 0, 1) := by decide +kernel
theorem dX7_counted_58 : decode cX7_counted 58 = .ok (.iconst (-1), 1) := by decide +kernel
theorem dX7_counted_59 : decode cX7_counted 59 = .ok (.invokevirtual 58, 3) := by decide +kernel
theorem dX7_counted_62 : decode cX7_counted 62 = .ok (.ireturn, 1) := by decide +kernel
theorem dX7_counted_63 : decode cX7_counted 63 = .ok (.aload_n 0, 1) := by decide +kernel
theorem dX7_counted_64 : decode cX7_counted 64 = .ok (.iconst 1, 1) := by decide +kernel
theorem dX7_counted_65 : decode cX7_counted 65 = .ok (.invokevirtual 170, 3) := by decide +kernel
theorem dX7_counted_68 : decode cX7_counted 68 = .ok (.ireturn, 1) := by decide +kernel
theorem dX7_counted_69 : decode cX7_counted 69 = .ok (.aload_n 0, 1) := by decide +kernel
theorem dX7_counted_70 : decode cX7_counted 70 = .ok (.getfield 7, 3) := by decide +kernel
theorem dX7_counted_73 : decode cX7_counted 73 = .ok (.iconst 4, 1) := by decide +kernel
theorem dX7_counted_74 : decode cX7_counted 74 = .ok (.iload_n 1, 1) := by decide +kernel
theorem dX7_counted_75 : decode cX7_counted 75 = .ok (.iadd, 1) := by decide +kernel
theorem dX7_counted_76 : decode cX7_counted 76 = .ok (.bipush 7, 2) := by decide +kernel
theorem dX7_counted_78 : decode cX7_counted 78 = .ok (.isub, 1) := by decide +kernel
theorem dX7_counted_79 : decode cX7_counted 79 = .ok (.iaload, 1) := by decide +kernel
theorem dX7_counted_80 : decode cX7_counted 80 = .ok (.ireturn, 1) := by decide +kernel
theorem dX7_counted_81 : decode cX7_counted 81 = .ok (.aload_n 0, 1) := by decide +kernel
theorem dX7_counted_82 : decode cX7_counted 82 = .ok (.getfield 84, 3) := by decide +kernel
theorem dX7_counted_85 : decode cX7_counted 85 = .ok (.ireturn, 1) := by decide +kernel
theorem dX7_counted_86 : decode cX7_counted 86 = .ok (.iload_n 1, 1) := by decide +kernel
theorem dX7_counted_87 : decode cX7_counted 87 = .ok (.iconst 4, 1) := by decide +kernel
theorem dX7_counted_88 : decode cX7_counted 88 = .ok (.if_icmp .ge 12, 3) := by decide +kernel
theorem dX7_counted_91 : decode cX7_counted 91 = .ok (.aload_n 0, 1) := by decide +kernel
theorem dX7_counted_92 : decode cX7_counted 92 = .ok (.getfield 7, 3) := by decide +kernel
theorem dX7_counted_95 : decode cX7_counted 95 = .ok (.iload_n 1, 1) := by decide +kernel
theorem dX7_counted_96 : decode cX7_counted 96 = .ok (.iaload, 1) := by decide +kernel
theorem dX7_counted_97 : decode cX7_counted 97 = .ok (.goto 15, 3) := by decide +kernel
theorem dX7_counted_100 : decode cX7_counted 100 = .ok (.aload_n 0, 1) := by decide +kernel
theorem dX7_counted_101 : decode cX7_counted 101 = .ok (.getfield 7, 3) := by decide +kernel
theorem dX7_counted_104 : decode cX7_counted 104 = .ok (.bipush 6, 2) := by decide +kernel
theorem dX7_counted_106 : decode cX7_counted 106 = .ok (.iload_n 1, 1) := by decide +kernel
theorem dX7_counted_107 : decode cX7_counted 107 = .ok (.iadd, 1) := by decide +kernel
theorem dX7_counted_108 : decode cX7_counted 108 = .ok (.bipush 9, 2) := by decide +kernel
theorem dX7_counted_110 : decode cX7_counted 110 = .ok (.isub, 1) := by decide +kernel
theorem dX7_counted_111 : decode cX7_counted 111 = .ok (.iaload, 1) := by decide +kernel
theorem dX7_counted_112 : decode cX7_counted 112 = .ok (.ireturn, 1) := by decide +kernel
theorem dX7_count_0 : decode cX7_count 0 = .ok (.aload_n 0, 1) := by decide +kernel
theorem dX7_count_1 : decode cX7_count 1 = .ok (.iload_n 1, 1) := by decide +kernel
theorem dX7_count_2 : decode cX7_count 2 = .ok (.iconst 0, 1) := by decide +kernel
theorem dX7_count_3 : decode cX7_count 3 = .ok (.bipush 13, 2) := by decide +kernel
theorem dX7_count_5 : decode cX7_count 5 = .ok (.invokestatic 20, 3) := by decide +kernel
theorem dX7_count_8 : decode cX7_count 8 = .ok (.ifCond .eq 7, 3) := by decide +kernel
theorem dX7_count_11 : decode cX7_count 11 = .ok (.iconst 0, 1) := by decide +kernel
theorem dX7_count_12 : decode cX7_count 12 = .ok (.goto 4, 3) := by decide +kernel
theorem dX7_count_15 : decode cX7_count 15 = .ok (.iconst 1, 1) := by decide +kernel
theorem dX7_count_16 : decode cX7_count 16 = .ok (.invokevirtual 90, 3) := by decide +kernel
theorem dX7_count_19 : decode cX7_count 19 = .ok (.ifCond .eq 11, 3) := by decide +kernel
theorem dX7_count_22 : decode cX7_count 22 = .ok (.aload_n 0, 1) := by decide +kernel
theorem dX7_count_23 : decode cX7_count 23 = .ok (.iload_n 1, 1) := by decide +kernel
theorem dX7_count_24 : decode cX7_count 24 = .ok (.invokevirtual 174, 3) := by decide +kernel
theorem dX7_count_27 : decode cX7_count 27 = .ok (.goto 4, 3) := by decide +kernel
theorem dX7_count_30 : decode cX7_count 30 = .ok (.iconst 0, 1) := by decide +kernel
theorem dX7_count_31 : decode cX7_count 31 = .ok (.ireturn, 1) := by decide +kernel
theorem dX7_whyNot_0 : decode cX7_whyNot 0 = .ok (.aload_n 0, 1) := by decide +kernel
theorem dX7_whyNot_1 : decode cX7_whyNot 1 = .ok (.aload_n 0, 1) := by decide +kernel
theorem dX7_whyNot_2 : decode cX7_whyNot 2 = .ok (.iload_n 1, 1) := by decide +kernel
theorem dX7_whyNot_3 : decode cX7_whyNot 3 = .ok (.invokevirtual 96, 3) := by decide +kernel
theorem dX7_whyNot_6 : decode cX7_whyNot 6 = .ok (.ifCond .eq 16, 3) := by decide +kernel
theorem dX7_whyNot_9 : decode cX7_whyNot 9 = .ok (.aload_n 0, 1) := by decide +kernel
theorem dX7_whyNot_10 : decode cX7_whyNot 10 = .ok (.iload_n 2, 1) := by decide +kernel
theorem dX7_whyNot_11 : decode cX7_whyNot 11 = .ok (.iload_n 3, 1) := by decide +kernel
theorem dX7_whyNot_12 : decode cX7_whyNot 12 = .ok (.invokevirtual 107, 3) := by decide +kernel
theorem dX7_whyNot_15 : decode cX7_whyNot 15 = .ok (.ifCond .eq 7, 3) := by decide +kernel
theorem dX7_whyNot_18 : decode cX7_whyNot 18 = .ok (.iconst 0, 1) := by decide +kernel
theorem dX7_whyNot_19 : decode cX7_whyNot 19 = .ok (.goto 4, 3) := by decide +kernel
theorem dX7_whyNot_22 : decode cX7_whyNot 22 = .ok (.iconst 1, 1) := by decide +kernel
theorem dX7_whyNot_23 : decode cX7_whyNot 23 = .ok (.invokevirtual 90, 3) := by decide +kernel
theorem dX7_whyNot_26 : decode cX7_whyNot 26 = .ok (.ifCond .eq 14, 3) := by decide +kernel
theorem dX7_whyNot_29 : decode cX7_whyNot 29 = .ok (.aload_n 0, 1) := by decide +kernel
theorem dX7_whyNot_30 : decode cX7_whyNot 30 = .ok (.iconst 0, 1) := by decide +kernel
theorem dX7_whyNot_31 : decode cX7_whyNot 31 = .ok (.iload_n 1, 1) := by decide +kernel
theorem dX7_whyNot_32 : decode cX7_whyNot 32 = .ok (.iload_n 2, 1) := by decide +kernel
theorem dX7_whyNot_33 : decode cX7_whyNot 33 = .ok (.iload_n 3, 1) := by decide +kernel
theorem dX7_whyNot_34 : decode cX7_whyNot 34 = .ok (.invokevirtual 61, 3) := by decide +kernel
theorem dX7_whyNot_37 : decode cX7_whyNot 37 = .ok (.goto 4, 3) := by decide +kernel
theorem dX7_whyNot_40 : decode cX7_whyNot 40 = .ok (.iconst 0, 1) := by decide +kernel
theorem dX7_whyNot_41 : decode cX7_whyNot 41 = .ok (.ireturn, 1) := by decide +kernel
theorem dX7_ifSat_0 : decode cX7_ifSat 0 = .ok (.aload_n 0, 1) := by decide +kernel
theorem dX7_ifSat_1 : decode cX7_ifSat 1 = .ok (.aload_n 0, 1) := by decide +kernel
theorem dX7_ifSat_2 : decode cX7_ifSat 2 = .ok (.iload_n 1, 1) := by decide +kernel
theorem dX7_ifSat_3 : decode cX7_ifSat 3 = .ok (.invokevirtual 96, 3) := by decide +kernel
theorem dX7_ifSat_6 : decode cX7_ifSat 6 = .ok (.ifCond .eq 16, 3) := by decide +kernel
theorem dX7_ifSat_9 : decode cX7_ifSat 9 = .ok (.aload_n 0, 1) := by decide +kernel
theorem dX7_ifSat_10 : decode cX7_ifSat 10 = .ok (.iload_n 2, 1) := by decide +kernel
theorem dX7_ifSat_11 : decode cX7_ifSat 11 = .ok (.iload_n 3, 1) := by decide +kernel
theorem dX7_ifSat_12 : decode cX7_ifSat 12 = .ok (.invokevirtual 107, 3) := by decide +kernel
theorem dX7_ifSat_15 : decode cX7_ifSat 15 = .ok (.ifCond .eq 7, 3) := by decide +kernel
theorem dX7_ifSat_18 : decode cX7_ifSat 18 = .ok (.iconst 0, 1) := by decide +kernel
theorem dX7_ifSat_19 : decode cX7_ifSat 19 = .ok (.goto 4, 3) := by decide +kernel
theorem dX7_ifSat_22 : decode cX7_ifSat 22 = .ok (.iconst 1, 1) := by decide +kernel
theorem dX7_ifSat_23 : decode cX7_ifSat 23 = .ok (.invokevirtual 90, 3) := by decide +kernel
theorem dX7_ifSat_26 : decode cX7_ifSat 26 = .ok (.ifCond .ne 5, 3) := by decide +kernel
theorem dX7_ifSat_29 : decode cX7_ifSat 29 = .ok (.iconst 0, 1) := by decide +kernel
theorem dX7_ifSat_30 : decode cX7_ifSat 30 = .ok (.ireturn, 1) := by decide +kernel
theorem dX7_ifSat_31 : decode cX7_ifSat 31 = .ok (.aload_n 0, 1) := by decide +kernel
theorem dX7_ifSat_32 : decode cX7_ifSat 32 = .ok (.iconst 0, 1) := by decide +kernel
theorem dX7_ifSat_33 : decode cX7_ifSat 33 = .ok (.iload_n 1, 1) := by decide +kernel
theorem dX7_ifSat_34 : decode cX7_ifSat 34 = .ok (.iload_n 2, 1) := by decide +kernel
theorem dX7_ifSat_35 : decode cX7_ifSat 35 = .ok (.iload_n 3, 1) := by decide +kernel
theorem dX7_ifSat_36 : decode cX7_ifSat 36 = .ok (.invokevirtual 61, 3) := by decide +kernel
theorem dX7_ifSat_39 : decode cX7_ifSat 39 = .ok (.ifCond .le 7, 3) := by decide +kernel
theorem dX7_ifSat_42 : decode cX7_ifSat 42 = .ok (.iconst (-1), 1) := by decide +kernel
theorem dX7_ifSat_43 : decode cX7_ifSat 43 = .ok (.goto 15, 3) := by decide +kernel
theorem dX7_ifSat_46 : decode cX7_ifSat 46 = .ok (.aload_n 0, 1) := by decide +kernel
theorem dX7_ifSat_47 : decode cX7_ifSat 47 = .ok (.iconst 0, 1) := by decide +kernel
theorem dX7_ifSat_48 : decode cX7_ifSat 48 = .ok (.iload_n 1, 1) := by decide +kernel
theorem dX7_ifSat_49 : decode cX7_ifSat 49 = .ok (.iload_n 2, 1) := by decide +kernel
theorem dX7_ifSat_50 : decode cX7_ifSat 50 = .ok (.iload_n 3, 1) := by decide +kernel
theorem dX7_ifSat_51 : decode cX7_ifSat 51 = .ok (.invokevirtual 65, 3) := by decide +kernel
theorem dX7_ifSat_54 : decode cX7_ifSat 54 = .ok (.sipush 1000, 3) := by decide +kernel
theorem dX7_ifSat_57 : decode cX7_ifSat 57 = .ok (.iadd, 1) := by decide +kernel
theorem dX7_ifSat_58 : decode cX7_ifSat 58 = .ok (.ireturn, 1) := by decide +kernel
theorem dX7_bestSeat_0 : decode cX7_bestSeat 0 = .ok (.aload_n 0, 1) := by decide +kernel
theorem dX7_bestSeat_1 : decode cX7_bestSeat 1 = .ok (.aload_n 0, 1) := by decide +kernel
theorem dX7_bestSeat_2 : decode cX7_bestSeat 2 = .ok (.iload_n 1, 1) := by decide +kernel
theorem dX7_bestSeat_3 : decode cX7_bestSeat 3 = .ok (.invokevirtual 96, 3) := by decide +kernel
theorem dX7_bestSeat_6 : decode cX7_bestSeat 6 = .ok (.ifCond .eq 7, 3) := by decide +kernel
theorem dX7_bestSeat_9 : decode cX7_bestSeat 9 = .ok (.iconst 0, 1) := by decide +kernel
theorem dX7_bestSeat_10 : decode cX7_bestSeat 10 = .ok (.goto 4, 3) := by decide +kernel
theorem dX7_bestSeat_13 : decode cX7_bestSeat 13 = .ok (.iconst 1, 1) := by decide +kernel
theorem dX7_bestSeat_14 : decode cX7_bestSeat 14 = .ok (.invokevirtual 90, 3) := by decide +kernel
theorem dX7_bestSeat_17 : decode cX7_bestSeat 17 = .ok (.ifCond .eq 12, 3) := by decide +kernel
theorem dX7_bestSeat_20 : decode cX7_bestSeat 20 = .ok (.aload_n 0, 1) := by decide +kernel
theorem dX7_bestSeat_21 : decode cX7_bestSeat 21 = .ok (.iconst 0, 1) := by decide +kernel
theorem dX7_bestSeat_22 : decode cX7_bestSeat 22 = .ok (.iload_n 1, 1) := by decide +kernel
theorem dX7_bestSeat_23 : decode cX7_bestSeat 23 = .ok (.invokevirtual 72, 3) := by decide +kernel
theorem dX7_bestSeat_26 : decode cX7_bestSeat 26 = .ok (.goto 4, 3) := by decide +kernel
theorem dX7_bestSeat_29 : decode cX7_bestSeat 29 = .ok (.iconst 0, 1) := by decide +kernel
theorem dX7_bestSeat_30 : decode cX7_bestSeat 30 = .ok (.ireturn, 1) := by decide +kernel
theorem dX7_standing_0 : decode cX7_standing 0 = .ok (.aload_n 0, 1) := by decide +kernel
theorem dX7_standing_1 : decode cX7_standing 1 = .ok (.iconst 0, 1) := by decide +kernel
theorem dX7_standing_2 : decode cX7_standing 2 = .ok (.iload_n 1, 1) := by decide +kernel
theorem dX7_standing_3 : decode cX7_standing 3 = .ok (.iload_n 2, 1) := by decide +kernel
theorem dX7_standing_4 : decode cX7_standing 4 = .ok (.invokestatic 41, 3) := by decide +kernel
theorem dX7_standing_7 : decode cX7_standing 7 = .ok (.invokevirtual 45, 3) := by decide +kernel
theorem dX7_standing_10 : decode cX7_standing 10 = .ok (.iconst (-1), 1) := by decide +kernel
theorem dX7_standing_11 : decode cX7_standing 11 = .ok (.if_icmp .eq 7, 3) := by decide +kernel
theorem dX7_standing_14 : decode cX7_standing 14 = .ok (.iconst 0, 1) := by decide +kernel
theorem dX7_standing_15 : decode cX7_standing 15 = .ok (.goto 9, 3) := by decide +kernel
theorem dX7_standing_18 : decode cX7_standing 18 = .ok (.aload_n 0, 1) := by decide +kernel
theorem dX7_standing_19 : decode cX7_standing 19 = .ok (.iload_n 1, 1) := by decide +kernel
theorem dX7_standing_20 : decode cX7_standing 20 = .ok (.iload_n 2, 1) := by decide +kernel
theorem dX7_standing_21 : decode cX7_standing 21 = .ok (.invokevirtual 177, 3) := by decide +kernel
theorem dX7_standing_24 : decode cX7_standing 24 = .ok (.ireturn, 1) := by decide +kernel
theorem dX7_ifFeud_0 : decode cX7_ifFeud 0 = .ok (.aload_n 0, 1) := by decide +kernel
theorem dX7_ifFeud_1 : decode cX7_ifFeud 1 = .ok (.iload_n 1, 1) := by decide +kernel
theorem dX7_ifFeud_2 : decode cX7_ifFeud 2 = .ok (.iload_n 2, 1) := by decide +kernel
theorem dX7_ifFeud_3 : decode cX7_ifFeud 3 = .ok (.invokestatic 99, 3) := by decide +kernel
theorem dX7_ifFeud_6 : decode cX7_ifFeud 6 = .ok (.ifCond .eq 7, 3) := by decide +kernel
theorem dX7_ifFeud_9 : decode cX7_ifFeud 9 = .ok (.iconst 0, 1) := by decide +kernel
theorem dX7_ifFeud_10 : decode cX7_ifFeud 10 = .ok (.goto 4, 3) := by decide +kernel
theorem dX7_ifFeud_13 : decode cX7_ifFeud 13 = .ok (.iconst 1, 1) := by decide +kernel
theorem dX7_ifFeud_14 : decode cX7_ifFeud 14 = .ok (.invokevirtual 90, 3) := by decide +kernel
theorem dX7_ifFeud_17 : decode cX7_ifFeud 17 = .ok (.ifCond .eq 12, 3) := by decide +kernel
theorem dX7_ifFeud_20 : decode cX7_ifFeud 20 = .ok (.aload_n 0, 1) := by decide +kernel
theorem dX7_ifFeud_21 : decode cX7_ifFeud 21 = .ok (.iload_n 1, 1) := by decide +kernel
theorem dX7_ifFeud_22 : decode cX7_ifFeud 22 = .ok (.iload_n 2, 1) := by decide +kernel
theorem dX7_ifFeud_23 : decode cX7_ifFeud 23 = .ok (.invokevirtual 180, 3) := by decide +kernel
theorem dX7_ifFeud_26 : decode cX7_ifFeud 26 = .ok (.goto 4, 3) := by decide +kernel
theorem dX7_ifFeud_29 : decode cX7_ifFeud 29 = .ok (.iconst 0, 1) := by decide +kernel
theorem dX7_ifFeud_30 : decode cX7_ifFeud 30 = .ok (.ireturn, 1) := by decide +kernel
theorem dX7_seatedIf_0 : decode cX7_seatedIf 0 = .ok (.aload_n 0, 1) := by decide +kernel
theorem dX7_seatedIf_1 : decode cX7_seatedIf 1 = .ok (.iconst 0, 1) := by decide +kernel
theorem dX7_seatedIf_2 : decode cX7_seatedIf 2 = .ok (.bipush 8, 2) := by decide +kernel
theorem dX7_seatedIf_4 : decode cX7_seatedIf 4 = .ok (.invokevirtual 87, 3) := by decide +kernel
theorem dX7_seatedIf_7 : decode cX7_seatedIf 7 = .ok (.aload_n 0, 1) := by decide +kernel
theorem dX7_seatedIf_8 : decode cX7_seatedIf 8 = .ok (.sipush 944, 3) := by decide +kernel
theorem dX7_seatedIf_11 : decode cX7_seatedIf 11 = .ok (.invokevirtual 113, 3) := by decide +kernel
theorem dX7_seatedIf_14 : decode cX7_seatedIf 14 = .ok (.istore_n 2, 1) := by decide +kernel
theorem dX7_seatedIf_15 : decode cX7_seatedIf 15 = .ok (.iload_n 1, 1) := by decide +kernel
theorem dX7_seatedIf_16 : decode cX7_seatedIf 16 = .ok (.ifCond .ne 7, 3) := by decide +kernel
theorem dX7_seatedIf_19 : decode cX7_seatedIf 19 = .ok (.iload_n 2, 1) := by decide +kernel
theorem dX7_seatedIf_20 : decode cX7_seatedIf 20 = .ok (.goto 15, 3) := by decide +kernel
theorem dX7_seatedIf_23 : decode cX7_seatedIf 23 = .ok (.aload_n 0, 1) := by decide +kernel
theorem dX7_seatedIf_24 : decode cX7_seatedIf 24 = .ok (.sipush 944, 3) := by decide +kernel
theorem dX7_seatedIf_27 : decode cX7_seatedIf 27 = .ok (.iconst (-1), 1) := by decide +kernel
theorem dX7_seatedIf_28 : decode cX7_seatedIf 28 = .ok (.invokevirtual 58, 3) := by decide +kernel
theorem dX7_seatedIf_31 : decode cX7_seatedIf 31 = .ok (.sipush 1000, 3) := by decide +kernel
theorem dX7_seatedIf_34 : decode cX7_seatedIf 34 = .ok (.iadd, 1) := by decide +kernel
theorem dX7_seatedIf_35 : decode cX7_seatedIf 35 = .ok (.ireturn, 1) := by decide +kernel
theorem dX7_ifSeated_0 : decode cX7_ifSeated 0 = .ok (.aload_n 0, 1) := by decide +kernel
theorem dX7_ifSeated_1 : decode cX7_ifSeated 1 = .ok (.iload_n 1, 1) := by decide +kernel
theorem dX7_ifSeated_2 : decode cX7_ifSeated 2 = .ok (.iconst 0, 1) := by decide +kernel
theorem dX7_ifSeated_3 : decode cX7_ifSeated 3 = .ok (.iconst 1, 1) := by decide +kernel
theorem dX7_ifSeated_4 : decode cX7_ifSeated 4 = .ok (.invokestatic 20, 3) := by decide +kernel
theorem dX7_ifSeated_7 : decode cX7_ifSeated 7 = .ok (.ifCond .eq 7, 3) := by decide +kernel
theorem dX7_ifSeated_10 : decode cX7_ifSeated 10 = .ok (.iconst 0, 1) := by decide +kernel
theorem dX7_ifSeated_11 : decode cX7_ifSeated 11 = .ok (.goto 4, 3) := by decide +kernel
theorem dX7_ifSeated_14 : decode cX7_ifSeated 14 = .ok (.iconst 1, 1) := by decide +kernel
theorem dX7_ifSeated_15 : decode cX7_ifSeated 15 = .ok (.invokevirtual 90, 3) := by decide +kernel
theorem dX7_ifSeated_18 : decode cX7_ifSeated 18 = .ok (.ifCond .eq 11, 3) := by decide +kernel
theorem dX7_ifSeated_21 : decode cX7_ifSeated 21 = .ok (.aload_n 0, 1) := by decide +kernel
theorem dX7_ifSeated_22 : decode cX7_ifSeated 22 = .ok (.iload_n 1, 1) := by decide +kernel
theorem dX7_ifSeated_23 : decode cX7_ifSeated 23 = .ok (.invokevirtual 183, 3) := by decide +kernel
theorem dX7_ifSeated_26 : decode cX7_ifSeated 26 = .ok (.goto 4, 3) := by decide +kernel
theorem dX7_ifSeated_29 : decode cX7_ifSeated 29 = .ok (.iconst 0, 1) := by decide +kernel
theorem dX7_ifSeated_30 : decode cX7_ifSeated 30 = .ok (.ireturn, 1) := by decide +kernel
theorem dX7_share_0 : decode cX7_share 0 = .ok (.aload_n 0, 1) := by decide +kernel
theorem dX7_share_1 : decode cX7_share 1 = .ok (.iconst 0, 1) := by decide +kernel
theorem dX7_share_2 : decode cX7_share 2 = .ok (.invokevirtual 170, 3) := by decide +kernel
theorem dX7_share_5 : decode cX7_share 5 = .ok (.istore_n 1, 1) := by decide +kernel
theorem dX7_share_6 : decode cX7_share 6 = .ok (.iload_n 1, 1) := by decide +kernel
theorem dX7_share_7 : decode cX7_share 7 = .ok (.ifCond .ne 7, 3) := by decide +kernel
theorem dX7_share_10 : decode cX7_share 10 = .ok (.dconst 1, 1) := by decide +kernel
theorem dX7_share_11 : decode cX7_share 11 = .ok (.goto 12, 3) := by decide +kernel
theorem dX7_share_14 : decode cX7_share 14 = .ok (.aload_n 0, 1) := by decide +kernel
theorem dX7_share_15 : decode cX7_share 15 = .ok (.iconst 1, 1) := by decide +kernel
theorem dX7_share_16 : decode cX7_share 16 = .ok (.invokevirtual 170, 3) := by decide +kernel
theorem dX7_share_19 : decode cX7_share 19 = .ok (.i2d, 1) := by decide +kernel
theorem dX7_share_20 : decode cX7_share 20 = .ok (.iload_n 1, 1) := by decide +kernel
theorem dX7_share_21 : decode cX7_share 21 = .ok (.i2d, 1) := by decide +kernel
theorem dX7_share_22 : decode cX7_share 22 = .ok (.ddiv, 1) := by decide +kernel
theorem dX7_share_23 : decode cX7_share 23 = .ok (.dreturn, 1) := by decide +kernel
theorem dX7_met_0 : decode cX7_met 0 = .ok (.aload_n 0, 1) := by decide +kernel
theorem dX7_met_1 : decode cX7_met 1 = .ok (.iconst 0, 1) := by decide +kernel
theorem dX7_met_2 : decode cX7_met 2 = .ok (.putfield 16, 3) := by decide +kernel
theorem dX7_met_5 : decode cX7_met 5 = .ok (.aload_n 0, 1) := by decide +kernel
theorem dX7_met_6 : decode cX7_met 6 = .ok (.invokevirtual 186, 3) := by decide +kernel
theorem dX7_met_9 : decode cX7_met 9 = .ok (.dreturn, 1) := by decide +kernel
theorem dX7_mix_0 : decode cX7_mix 0 = .ok (.aload_n 0, 1) := by decide +kernel
theorem dX7_mix_1 : decode cX7_mix 1 = .ok (.ldc2_w 190, 3) := by decide +kernel
theorem dX7_mix_4 : decode cX7_mix 4 = .ok (.aload_n 0, 1) := by decide +kernel
theorem dX7_mix_5 : decode cX7_mix 5 = .ok (.getfield 192, 3) := by decide +kernel
theorem dX7_mix_8 : decode cX7_mix 8 = .ok (.lmul, 1) := by decide +kernel
theorem dX7_mix_9 : decode cX7_mix 9 = .ok (.lload_n 1, 1) := by decide +kernel
theorem dX7_mix_10 : decode cX7_mix 10 = .ok (.ladd, 1) := by decide +kernel
theorem dX7_mix_11 : decode cX7_mix 11 = .ok (.putfield 192, 3) := by decide +kernel
theorem dX7_mix_14 : decode cX7_mix 14 = .ok (.return_, 1) := by decide +kernel
theorem dX7_bits_0 : decode cX7_bits 0 = .ok (.dload_n 0, 1) := by decide +kernel
theorem dX7_bits_1 : decode cX7_bits 1 = .ok (.dconst 0, 1) := by decide +kernel
theorem dX7_bits_2 : decode cX7_bits 2 = .ok (.dcmp .l, 1) := by decide +kernel
theorem dX7_bits_3 : decode cX7_bits 3 = .ok (.ifCond .ne 5, 3) := by decide +kernel
theorem dX7_bits_6 : decode cX7_bits 6 = .ok (.lconst 0, 1) := by decide +kernel
theorem dX7_bits_7 : decode cX7_bits 7 = .ok (.lreturn, 1) := by decide +kernel
theorem dX7_bits_8 : decode cX7_bits 8 = .ok (.dload_n 0, 1) := by decide +kernel
theorem dX7_bits_9 : decode cX7_bits 9 = .ok (.dstore_n 2, 1) := by decide +kernel
theorem dX7_bits_10 : decode cX7_bits 10 = .ok (.ldc2_w 196, 3) := by decide +kernel
theorem dX7_bits_13 : decode cX7_bits 13 = .ok (.lstore 4, 2) := by decide +kernel
theorem dX7_bits_15 : decode cX7_bits 15 = .ok (.dload_n 2, 1) := by decide +kernel
theorem dX7_bits_16 : decode cX7_bits 16 = .ok (.dconst 1, 1) := by decide +kernel
theorem dX7_bits_17 : decode cX7_bits 17 = .ok (.dcmp .g, 1) := by decide +kernel
theorem dX7_bits_18 : decode cX7_bits 18 = .ok (.ifCond .ge 18, 3) := by decide +kernel
theorem dX7_bits_21 : decode cX7_bits 21 = .ok (.dload_n 2, 1) := by decide +kernel
theorem dX7_bits_22 : decode cX7_bits 22 = .ok (.ldc2_w 198, 3) := by decide +kernel
theorem dX7_bits_25 : decode cX7_bits 25 = .ok (.dmul, 1) := by decide +kernel
theorem dX7_bits_26 : decode cX7_bits 26 = .ok (.dstore_n 2, 1) := by decide +kernel
theorem dX7_bits_27 : decode cX7_bits 27 = .ok (.lload 4, 2) := by decide +kernel
theorem dX7_bits_29 : decode cX7_bits 29 = .ok (.lconst 1, 1) := by decide +kernel
theorem dX7_bits_30 : decode cX7_bits 30 = .ok (.lsub, 1) := by decide +kernel
theorem dX7_bits_31 : decode cX7_bits 31 = .ok (.lstore 4, 2) := by decide +kernel
theorem dX7_bits_33 : decode cX7_bits 33 = .ok (.goto (-18), 3) := by decide +kernel
theorem dX7_bits_36 : decode cX7_bits 36 = .ok (.lload 4, 2) := by decide +kernel
theorem dX7_bits_38 : decode cX7_bits 38 = .ok (.ldc2_w 200, 3) := by decide +kernel
theorem dX7_bits_41 : decode cX7_bits 41 = .ok (.lmul, 1) := by decide +kernel
theorem dX7_bits_42 : decode cX7_bits 42 = .ok (.dload_n 2, 1) := by decide +kernel
theorem dX7_bits_43 : decode cX7_bits 43 = .ok (.dconst 1, 1) := by decide +kernel
theorem dX7_bits_44 : decode cX7_bits 44 = .ok (.dsub, 1) := by decide +kernel
theorem dX7_bits_45 : decode cX7_bits 45 = .ok (.ldc2_w 202, 3) := by decide +kernel
theorem dX7_bits_48 : decode cX7_bits 48 = .ok (.dmul, 1) := by decide +kernel
theorem dX7_bits_49 : decode cX7_bits 49 = .ok (.d2l, 1) := by decide +kernel
theorem dX7_bits_50 : decode cX7_bits 50 = .ok (.ladd, 1) := by decide +kernel
theorem dX7_bits_51 : decode cX7_bits 51 = .ok (.lreturn, 1) := by decide +kernel
theorem dX7_mixTable_0 : decode cX7_mixTable 0 = .ok (.iconst 0, 1) := by decide +kernel
theorem dX7_mixTable_1 : decode cX7_mixTable 1 = .ok (.istore_n 2, 1) := by decide +kernel
theorem dX7_mixTable_2 : decode cX7_mixTable 2 = .ok (.iload_n 2, 1) := by decide +kernel
theorem dX7_mixTable_3 : decode cX7_mixTable 3 = .ok (.iconst 5, 1) := by decide +kernel
theorem dX7_mixTable_4 : decode cX7_mixTable 4 = .ok (.if_icmp .ge 20, 3) := by decide +kernel
theorem dX7_mixTable_7 : decode cX7_mixTable 7 = .ok (.aload_n 0, 1) := by decide +kernel
theorem dX7_mixTable_8 : decode cX7_mixTable 8 = .ok (.aload_n 0, 1) := by decide +kernel
theorem dX7_mixTable_9 : decode cX7_mixTable 9 = .ok (.iload_n 1, 1) := by decide +kernel
theorem dX7_mixTable_10 : decode cX7_mixTable 10 = .ok (.iload_n 2, 1) := by decide +kernel
theorem dX7_mixTable_11 : decode cX7_mixTable 11 = .ok (.invokevirtual 167, 3) := by decide +kernel
theorem dX7_mixTable_14 : decode cX7_mixTable 14 = .ok (.i2l, 1) := by decide +kernel
theorem dX7_mixTable_15 : decode cX7_mixTable 15 = .ok (.invokevirtual 204, 3) := by decide +kernel
theorem dX7_mixTable_18 : decode cX7_mixTable 18 = .ok (.iinc 2 1, 3) := by decide +kernel
theorem dX7_mixTable_21 : decode cX7_mixTable 21 = .ok (.goto (-19), 3) := by decide +kernel
theorem dX7_mixTable_24 : decode cX7_mixTable 24 = .ok (.iconst 0, 1) := by decide +kernel
theorem dX7_mixTable_25 : decode cX7_mixTable 25 = .ok (.istore_n 2, 1) := by decide +kernel
theorem dX7_mixTable_26 : decode cX7_mixTable 26 = .ok (.iload_n 2, 1) := by decide +kernel
theorem dX7_mixTable_27 : decode cX7_mixTable 27 = .ok (.aload_n 0, 1) := by decide +kernel
theorem dX7_mixTable_28 : decode cX7_mixTable 28 = .ok (.getfield 7, 3) := by decide +kernel
theorem dX7_mixTable_31 : decode cX7_mixTable 31 = .ok (.bipush 18, 2) := by decide +kernel
theorem dX7_mixTable_33 : decode cX7_mixTable 33 = .ok (.iload_n 1, 1) := by decide +kernel
theorem dX7_mixTable_34 : decode cX7_mixTable 34 = .ok (.iadd, 1) := by decide +kernel
theorem dX7_mixTable_35 : decode cX7_mixTable 35 = .ok (.iaload, 1) := by decide +kernel
theorem dX7_mixTable_36 : decode cX7_mixTable 36 = .ok (.if_icmp .ge 21, 3) := by decide +kernel
theorem dX7_mixTable_39 : decode cX7_mixTable 39 = .ok (.aload_n 0, 1) := by decide +kernel
theorem dX7_mixTable_40 : decode cX7_mixTable 40 = .ok (.aload_n 0, 1) := by decide +kernel
theorem dX7_mixTable_41 : decode cX7_mixTable 41 = .ok (.iconst 0, 1) := by decide +kernel
theorem dX7_mixTable_42 : decode cX7_mixTable 42 = .ok (.iload_n 1, 1) := by decide +kernel
theorem dX7_mixTable_43 : decode cX7_mixTable 43 = .ok (.iload_n 2, 1) := by decide +kernel
theorem dX7_mixTable_44 : decode cX7_mixTable 44 = .ok (.invokevirtual 35, 3) := by decide +kernel
theorem dX7_mixTable_47 : decode cX7_mixTable 47 = .ok (.i2l, 1) := by decide +kernel
theorem dX7_mixTable_48 : decode cX7_mixTable 48 = .ok (.invokevirtual 204, 3) := by decide +kernel
theorem dX7_mixTable_51 : decode cX7_mixTable 51 = .ok (.iinc 2 1, 3) := by decide +kernel
theorem dX7_mixTable_54 : decode cX7_mixTable 54 = .ok (.goto (-28), 3) := by decide +kernel
theorem dX7_mixTable_57 : decode cX7_mixTable 57 = .ok (.iconst 0, 1) := by decide +kernel
theorem dX7_mixTable_58 : decode cX7_mixTable 58 = .ok (.istore_n 2, 1) := by decide +kernel
theorem dX7_mixTable_59 : decode cX7_mixTable 59 = .ok (.aload_n 0, 1) := by decide +kernel
theorem dX7_mixTable_60 : decode cX7_mixTable 60 = .ok (.iload_n 1, 1) := by decide +kernel
theorem dX7_mixTable_61 : decode cX7_mixTable 61 = .ok (.iload_n 2, 1) := by decide +kernel
theorem dX7_mixTable_62 : decode cX7_mixTable 62 = .ok (.invokevirtual 158, 3) := by decide +kernel
theorem dX7_mixTable_65 : decode cX7_mixTable 65 = .ok (.iconst (-1), 1) := by decide +kernel
theorem dX7_mixTable_66 : decode cX7_mixTable 66 = .ok (.if_icmp .eq 20, 3) := by decide +kernel
theorem dX7_mixTable_69 : decode cX7_mixTable 69 = .ok (.aload_n 0, 1) := by decide +kernel
theorem dX7_mixTable_70 : decode cX7_mixTable 70 = .ok (.aload_n 0, 1) := by decide +kernel
theorem dX7_mixTable_71 : decode cX7_mixTable 71 = .ok (.iload_n 1, 1) := by decide +kernel
theorem dX7_mixTable_72 : decode cX7_mixTable 72 = .ok (.iload_n 2, 1) := by decide +kernel
theorem dX7_mixTable_73 : decode cX7_mixTable 73 = .ok (.invokevirtual 158, 3) := by decide +kernel
theorem dX7_mixTable_76 : decode cX7_mixTable 76 = .ok (.i2l, 1) := by decide +kernel
theorem dX7_mixTable_77 : decode cX7_mixTable 77 = .ok (.invokevirtual 204, 3) := by decide +kernel
theorem dX7_mixTable_80 : decode cX7_mixTable 80 = .ok (.iinc 2 1, 3) := by decide +kernel
theorem dX7_mixTable_83 : decode cX7_mixTable 83 = .ok (.goto (-24), 3) := by decide +kernel
theorem dX7_mixTable_86 : decode cX7_mixTable 86 = .ok (.return_, 1) := by decide +kernel
theorem dX7_digest_0 : decode cX7_digest 0 = .ok (.aload_n 0, 1) := by decide +kernel
theorem dX7_digest_1 : decode cX7_digest 1 = .ok (.iconst 0, 1) := by decide +kernel
theorem dX7_digest_2 : decode cX7_digest 2 = .ok (.putfield 16, 3) := by decide +kernel
theorem dX7_digest_5 : decode cX7_digest 5 = .ok (.aload_n 0, 1) := by decide +kernel
theorem dX7_digest_6 : decode cX7_digest 6 = .ok (.ldc2_w 208, 3) := by decide +kernel
theorem dX7_digest_9 : decode cX7_digest 9 = .ok (.putfield 192, 3) := by decide +kernel
theorem dX7_digest_12 : decode cX7_digest 12 = .ok (.iconst 0, 1) := by decide +kernel
theorem dX7_digest_13 : decode cX7_digest 13 = .ok (.istore_n 1, 1) := by decide +kernel
theorem dX7_digest_14 : decode cX7_digest 14 = .ok (.iload_n 1, 1) := by decide +kernel
theorem dX7_digest_15 : decode cX7_digest 15 = .ok (.bipush 14, 2) := by decide +kernel
theorem dX7_digest_17 : decode cX7_digest 17 = .ok (.if_icmp .ge 19, 3) := by decide +kernel
theorem dX7_digest_20 : decode cX7_digest 20 = .ok (.aload_n 0, 1) := by decide +kernel
theorem dX7_digest_21 : decode cX7_digest 21 = .ok (.aload_n 0, 1) := by decide +kernel
theorem dX7_digest_22 : decode cX7_digest 22 = .ok (.iload_n 1, 1) := by decide +kernel
theorem dX7_digest_23 : decode cX7_digest 23 = .ok (.invokevirtual 174, 3) := by decide +kernel
theorem dX7_digest_26 : decode cX7_digest 26 = .ok (.i2l, 1) := by decide +kernel
theorem dX7_digest_27 : decode cX7_digest 27 = .ok (.invokevirtual 204, 3) := by decide +kernel
theorem dX7_digest_30 : decode cX7_digest 30 = .ok (.iinc 1 1, 3) := by decide +kernel
theorem dX7_digest_33 : decode cX7_digest 33 = .ok (.goto (-19), 3) := by decide +kernel
theorem dX7_digest_36 : decode cX7_digest 36 = .ok (.iconst 0, 1) := by decide +kernel
theorem dX7_digest_37 : decode cX7_digest 37 = .ok (.istore_n 1, 1) := by decide +kernel
theorem dX7_digest_38 : decode cX7_digest 38 = .ok (.iload_n 1, 1) := by decide +kernel
theorem dX7_digest_39 : decode cX7_digest 39 = .ok (.aload_n 0, 1) := by decide +kernel
theorem dX7_digest_40 : decode cX7_digest 40 = .ok (.getfield 7, 3) := by decide +kernel
theorem dX7_digest_43 : decode cX7_digest 43 = .ok (.iconst 0, 1) := by decide +kernel
theorem dX7_digest_44 : decode cX7_digest 44 = .ok (.iaload, 1) := by decide +kernel
theorem dX7_digest_45 : decode cX7_digest 45 = .ok (.if_icmp .ge 45, 3) := by decide +kernel
theorem dX7_digest_48 : decode cX7_digest 48 = .ok (.iconst 0, 1) := by decide +kernel
theorem dX7_digest_49 : decode cX7_digest 49 = .ok (.istore_n 2, 1) := by decide +kernel
theorem dX7_digest_50 : decode cX7_digest 50 = .ok (.iload_n 2, 1) := by decide +kernel
theorem dX7_digest_51 : decode cX7_digest 51 = .ok (.bipush 7, 2) := by decide +kernel
theorem dX7_digest_53 : decode cX7_digest 53 = .ok (.if_icmp .ge 20, 3) := by decide +kernel
theorem dX7_digest_56 : decode cX7_digest 56 = .ok (.aload_n 0, 1) := by decide +kernel
theorem dX7_digest_57 : decode cX7_digest 57 = .ok (.aload_n 0, 1) := by decide +kernel
theorem dX7_digest_58 : decode cX7_digest 58 = .ok (.iload_n 1, 1) := by decide +kernel
theorem dX7_digest_59 : decode cX7_digest 59 = .ok (.iload_n 2, 1) := by decide +kernel
theorem dX7_digest_60 : decode cX7_digest 60 = .ok (.invokevirtual 164, 3) := by decide +kernel
theorem dX7_digest_63 : decode cX7_digest 63 = .ok (.i2l, 1) := by decide +kernel
theorem dX7_digest_64 : decode cX7_digest 64 = .ok (.invokevirtual 204, 3) := by decide +kernel
theorem dX7_digest_67 : decode cX7_digest 67 = .ok (.iinc 2 1, 3) := by decide +kernel
theorem dX7_digest_70 : decode cX7_digest 70 = .ok (.goto (-20), 3) := by decide +kernel
theorem dX7_digest_73 : decode cX7_digest 73 = .ok (.aload_n 0, 1) := by decide +kernel
theorem dX7_digest_74 : decode cX7_digest 74 = .ok (.aload_n 0, 1) := by decide +kernel
theorem dX7_digest_75 : decode cX7_digest 75 = .ok (.iconst 0, 1) := by decide +kernel
theorem dX7_digest_76 : decode cX7_digest 76 = .ok (.iload_n 1, 1) := by decide +kernel
theorem dX7_digest_77 : decode cX7_digest 77 = .ok (.invokevirtual 72, 3) := by decide +kernel
theorem dX7_digest_80 : decode cX7_digest 80 = .ok (.i2l, 1) := by decide +kernel
theorem dX7_digest_81 : decode cX7_digest 81 = .ok (.invokevirtual 204, 3) := by decide +kernel
theorem dX7_digest_84 : decode cX7_digest 84 = .ok (.iinc 1 1, 3) := by decide +kernel
theorem dX7_digest_87 : decode cX7_digest 87 = .ok (.goto (-49), 3) := by decide +kernel
theorem dX7_digest_90 : decode cX7_digest 90 = .ok (.iconst 0, 1) := by decide +kernel
theorem dX7_digest_91 : decode cX7_digest 91 = .ok (.istore_n 1, 1) := by decide +kernel
theorem dX7_digest_92 : decode cX7_digest 92 = .ok (.iload_n 1, 1) := by decide +kernel
theorem dX7_digest_93 : decode cX7_digest 93 = .ok (.aload_n 0, 1) := by decide +kernel
theorem dX7_digest_94 : decode cX7_digest 94 = .ok (.getfield 7, 3) := by decide +kernel
theorem dX7_digest_97 : decode cX7_digest 97 = .ok (.iconst 1, 1) := by decide +kernel
theorem dX7_digest_98 : decode cX7_digest 98 = .ok (.iaload, 1) := by decide +kernel
theorem dX7_digest_99 : decode cX7_digest 99 = .ok (.if_icmp .ge 14, 3) := by decide +kernel
theorem dX7_digest_102 : decode cX7_digest 102 = .ok (.aload_n 0, 1) := by decide +kernel
theorem dX7_digest_103 : decode cX7_digest 103 = .ok (.iload_n 1, 1) := by decide +kernel
theorem dX7_digest_104 : decode cX7_digest 104 = .ok (.invokevirtual 210, 3) := by decide +kernel
theorem dX7_digest_107 : decode cX7_digest 107 = .ok (.iinc 1 1, 3) := by decide +kernel
theorem dX7_digest_110 : decode cX7_digest 110 = .ok (.goto (-18), 3) := by decide +kernel
theorem dX7_digest_113 : decode cX7_digest 113 = .ok (.iconst 0, 1) := by decide +kernel
theorem dX7_digest_114 : decode cX7_digest 114 = .ok (.istore_n 1, 1) := by decide +kernel
theorem dX7_digest_115 : decode cX7_digest 115 = .ok (.iload_n 1, 1) := by decide +kernel
theorem dX7_digest_116 : decode cX7_digest 116 = .ok (.aload_n 0, 1) := by decide +kernel
theorem dX7_digest_117 : decode cX7_digest 117 = .ok (.getfield 7, 3) := by decide +kernel
theorem dX7_digest_120 : decode cX7_digest 120 = .ok (.iconst 3, 1) := by decide +kernel
theorem dX7_digest_121 : decode cX7_digest 121 = .ok (.iaload, 1) := by decide +kernel
theorem dX7_digest_122 : decode cX7_digest 122 = .ok (.if_icmp .ge 23, 3) := by decide +kernel
theorem dX7_digest_125 : decode cX7_digest 125 = .ok (.aload_n 0, 1) := by decide +kernel
theorem dX7_digest_126 : decode cX7_digest 126 = .ok (.aload_n 0, 1) := by decide +kernel
theorem dX7_digest_127 : decode cX7_digest 127 = .ok (.getfield 7, 3) := by decide +kernel
theorem dX7_digest_130 : decode cX7_digest 130 = .ok (.bipush 22, 2) := by decide +kernel
theorem dX7_digest_132 : decode cX7_digest 132 = .ok (.iload_n 1, 1) := by decide +kernel
theorem dX7_digest_133 : decode cX7_digest 133 = .ok (.iadd, 1) := by decide +kernel
theorem dX7_digest_134 : decode cX7_digest 134 = .ok (.iaload, 1) := by decide +kernel
theorem dX7_digest_135 : decode cX7_digest 135 = .ok (.i2l, 1) := by decide +kernel
theorem dX7_digest_136 : decode cX7_digest 136 = .ok (.invokevirtual 204, 3) := by decide +kernel
theorem dX7_digest_139 : decode cX7_digest 139 = .ok (.iinc 1 1, 3) := by decide +kernel
theorem dX7_digest_142 : decode cX7_digest 142 = .ok (.goto (-27), 3) := by decide +kernel
theorem dX7_digest_145 : decode cX7_digest 145 = .ok (.iconst 0, 1) := by decide +kernel
theorem dX7_digest_146 : decode cX7_digest 146 = .ok (.istore_n 1, 1) := by decide +kernel
theorem dX7_digest_147 : decode cX7_digest 147 = .ok (.iload_n 1, 1) := by decide +kernel
theorem dX7_digest_148 : decode cX7_digest 148 = .ok (.aload_n 0, 1) := by decide +kernel
theorem dX7_digest_149 : decode cX7_digest 149 = .ok (.getfield 7, 3) := by decide +kernel
theorem dX7_digest_152 : decode cX7_digest 152 = .ok (.iconst 2, 1) := by decide +kernel
theorem dX7_digest_153 : decode cX7_digest 153 = .ok (.iaload, 1) := by decide +kernel
theorem dX7_digest_154 : decode cX7_digest 154 = .ok (.if_icmp .ge 23, 3) := by decide +kernel
theorem dX7_digest_157 : decode cX7_digest 157 = .ok (.aload_n 0, 1) := by decide +kernel
theorem dX7_digest_158 : decode cX7_digest 158 = .ok (.aload_n 0, 1) := by decide +kernel
theorem dX7_digest_159 : decode cX7_digest 159 = .ok (.getfield 7, 3) := by decide +kernel
theorem dX7_digest_162 : decode cX7_digest 162 = .ok (.bipush 10, 2) := by decide +kernel
theorem dX7_digest_164 : decode cX7_digest 164 = .ok (.iload_n 1, 1) := by decide +kernel
theorem dX7_digest_165 : decode cX7_digest 165 = .ok (.iadd, 1) := by decide +kernel
theorem dX7_digest_166 : decode cX7_digest 166 = .ok (.iaload, 1) := by decide +kernel
theorem dX7_digest_167 : decode cX7_digest 167 = .ok (.i2l, 1) := by decide +kernel
theorem dX7_digest_168 : decode cX7_digest 168 = .ok (.invokevirtual 204, 3) := by decide +kernel
theorem dX7_digest_171 : decode cX7_digest 171 = .ok (.iinc 1 1, 3) := by decide +kernel
theorem dX7_digest_174 : decode cX7_digest 174 = .ok (.goto (-27), 3) := by decide +kernel
theorem dX7_digest_177 : decode cX7_digest 177 = .ok (.aload_n 0, 1) := by decide +kernel
theorem dX7_digest_178 : decode cX7_digest 178 = .ok (.aload_n 0, 1) := by decide +kernel
theorem dX7_digest_179 : decode cX7_digest 179 = .ok (.iconst 0, 1) := by decide +kernel
theorem dX7_digest_180 : decode cX7_digest 180 = .ok (.iconst 1, 1) := by decide +kernel
theorem dX7_digest_181 : decode cX7_digest 181 = .ok (.invokevirtual 180, 3) := by decide +kernel
theorem dX7_digest_184 : decode cX7_digest 184 = .ok (.i2l, 1) := by decide +kernel
theorem dX7_digest_185 : decode cX7_digest 185 = .ok (.invokevirtual 204, 3) := by decide +kernel
theorem dX7_digest_188 : decode cX7_digest 188 = .ok (.aload_n 0, 1) := by decide +kernel
theorem dX7_digest_189 : decode cX7_digest 189 = .ok (.aload_n 0, 1) := by decide +kernel
theorem dX7_digest_190 : decode cX7_digest 190 = .ok (.iconst 2, 1) := by decide +kernel
theorem dX7_digest_191 : decode cX7_digest 191 = .ok (.iconst 3, 1) := by decide +kernel
theorem dX7_digest_192 : decode cX7_digest 192 = .ok (.invokevirtual 180, 3) := by decide +kernel
theorem dX7_digest_195 : decode cX7_digest 195 = .ok (.i2l, 1) := by decide +kernel
theorem dX7_digest_196 : decode cX7_digest 196 = .ok (.invokevirtual 204, 3) := by decide +kernel
theorem dX7_digest_199 : decode cX7_digest 199 = .ok (.aload_n 0, 1) := by decide +kernel
theorem dX7_digest_200 : decode cX7_digest 200 = .ok (.aload_n 0, 1) := by decide +kernel
theorem dX7_digest_201 : decode cX7_digest 201 = .ok (.iconst 0, 1) := by decide +kernel
theorem dX7_digest_202 : decode cX7_digest 202 = .ok (.invokevirtual 183, 3) := by decide +kernel
theorem dX7_digest_205 : decode cX7_digest 205 = .ok (.i2l, 1) := by decide +kernel
theorem dX7_digest_206 : decode cX7_digest 206 = .ok (.invokevirtual 204, 3) := by decide +kernel
theorem dX7_digest_209 : decode cX7_digest 209 = .ok (.aload_n 0, 1) := by decide +kernel
theorem dX7_digest_210 : decode cX7_digest 210 = .ok (.aload_n 0, 1) := by decide +kernel
theorem dX7_digest_211 : decode cX7_digest 211 = .ok (.iconst 1, 1) := by decide +kernel
theorem dX7_digest_212 : decode cX7_digest 212 = .ok (.invokevirtual 183, 3) := by decide +kernel
theorem dX7_digest_215 : decode cX7_digest 215 = .ok (.i2l, 1) := by decide +kernel
theorem dX7_digest_216 : decode cX7_digest 216 = .ok (.invokevirtual 204, 3) := by decide +kernel
theorem dX7_digest_219 : decode cX7_digest 219 = .ok (.aload_n 0, 1) := by decide +kernel
theorem dX7_digest_220 : decode cX7_digest 220 = .ok (.aload_n 0, 1) := by decide +kernel
theorem dX7_digest_221 : decode cX7_digest 221 = .ok (.invokevirtual 186, 3) := by decide +kernel
theorem dX7_digest_224 : decode cX7_digest 224 = .ok (.invokestatic 214, 3) := by decide +kernel
theorem dX7_digest_227 : decode cX7_digest 227 = .ok (.invokevirtual 204, 3) := by decide +kernel
theorem dX7_digest_230 : decode cX7_digest 230 = .ok (.aload_n 0, 1) := by decide +kernel
theorem dX7_digest_231 : decode cX7_digest 231 = .ok (.aload_n 0, 1) := by decide +kernel
theorem dX7_digest_232 : decode cX7_digest 232 = .ok (.getfield 116, 3) := by decide +kernel
theorem dX7_digest_235 : decode cX7_digest 235 = .ok (.i2l, 1) := by decide +kernel
theorem dX7_digest_236 : decode cX7_digest 236 = .ok (.invokevirtual 204, 3) := by decide +kernel
theorem dX7_digest_239 : decode cX7_digest 239 = .ok (.iconst 0, 1) := by decide +kernel
theorem dX7_digest_240 : decode cX7_digest 240 = .ok (.istore_n 1, 1) := by decide +kernel
theorem dX7_digest_241 : decode cX7_digest 241 = .ok (.iload_n 1, 1) := by decide +kernel
theorem dX7_digest_242 : decode cX7_digest 242 = .ok (.aload_n 0, 1) := by decide +kernel
theorem dX7_digest_243 : decode cX7_digest 243 = .ok (.getfield 116, 3) := by decide +kernel
theorem dX7_digest_246 : decode cX7_digest 246 = .ok (.if_icmp .ge 20, 3) := by decide +kernel
theorem dX7_digest_249 : decode cX7_digest 249 = .ok (.aload_n 0, 1) := by decide +kernel
theorem dX7_digest_250 : decode cX7_digest 250 = .ok (.aload_n 0, 1) := by decide +kernel
theorem dX7_digest_251 : decode cX7_digest 251 = .ok (.getfield 13, 3) := by decide +kernel
theorem dX7_digest_254 : decode cX7_digest 254 = .ok (.iload_n 1, 1) := by decide +kernel
theorem dX7_digest_255 : decode cX7_digest 255 = .ok (.iaload, 1) := by decide +kernel
theorem dX7_digest_256 : decode cX7_digest 256 = .ok (.i2l, 1) := by decide +kernel
theorem dX7_digest_257 : decode cX7_digest 257 = .ok (.invokevirtual 204, 3) := by decide +kernel
theorem dX7_digest_260 : decode cX7_digest 260 = .ok (.iinc 1 1, 3) := by decide +kernel
theorem dX7_digest_263 : decode cX7_digest 263 = .ok (.goto (-22), 3) := by decide +kernel
theorem dX7_digest_266 : decode cX7_digest 266 = .ok (.aload_n 0, 1) := by decide +kernel
theorem dX7_digest_267 : decode cX7_digest 267 = .ok (.getfield 192, 3) := by decide +kernel
theorem dX7_digest_270 : decode cX7_digest 270 = .ok (.lreturn, 1) := by decide +kernel
theorem dL_guest_0 : decode cL_guest 0 = .ok (.aload_n 3, 1) := by decide +kernel
theorem dL_guest_1 : decode cL_guest 1 = .ok (.iconst 0, 1) := by decide +kernel
theorem dL_guest_2 : decode cL_guest 2 = .ok (.aload_n 0, 1) := by decide +kernel
theorem dL_guest_3 : decode cL_guest 3 = .ok (.iload_n 1, 1) := by decide +kernel
theorem dL_guest_4 : decode cL_guest 4 = .ok (.iload_n 2, 1) := by decide +kernel
theorem dL_guest_5 : decode cL_guest 5 = .ok (.invokevirtual 7, 3) := by decide +kernel
theorem dL_guest_8 : decode cL_guest 8 = .ok (.i2l, 1) := by decide +kernel
theorem dL_guest_9 : decode cL_guest 9 = .ok (.lastore, 1) := by decide +kernel
theorem dL_guest_10 : decode cL_guest 10 = .ok (.goto 11, 3) := by decide +kernel
theorem dL_guest_13 : decode cL_guest 13 = .ok (.astore 4, 2) := by decide +kernel
theorem dL_guest_15 : decode cL_guest 15 = .ok (.iconst 1, 1) := by decide +kernel
theorem dL_guest_16 : decode cL_guest 16 = .ok (.ireturn, 1) := by decide +kernel
theorem dL_guest_17 : decode cL_guest 17 = .ok (.astore 4, 2) := by decide +kernel
theorem dL_guest_19 : decode cL_guest 19 = .ok (.iconst 2, 1) := by decide +kernel
theorem dL_guest_20 : decode cL_guest 20 = .ok (.ireturn, 1) := by decide +kernel
theorem dL_guest_21 : decode cL_guest 21 = .ok (.iconst 0, 1) := by decide +kernel
theorem dL_guest_22 : decode cL_guest 22 = .ok (.ireturn, 1) := by decide +kernel
theorem dL_wish_0 : decode cL_wish 0 = .ok (.aload_n 3, 1) := by decide +kernel
theorem dL_wish_1 : decode cL_wish 1 = .ok (.iconst 0, 1) := by decide +kernel
theorem dL_wish_2 : decode cL_wish 2 = .ok (.aload_n 0, 1) := by decide +kernel
theorem dL_wish_3 : decode cL_wish 3 = .ok (.iload_n 1, 1) := by decide +kernel
theorem dL_wish_4 : decode cL_wish 4 = .ok (.iload_n 2, 1) := by decide +kernel
theorem dL_wish_5 : decode cL_wish 5 = .ok (.invokevirtual 17, 3) := by decide +kernel
theorem dL_wish_8 : decode cL_wish 8 = .ok (.i2l, 1) := by decide +kernel
theorem dL_wish_9 : decode cL_wish 9 = .ok (.lastore, 1) := by decide +kernel
theorem dL_wish_10 : decode cL_wish 10 = .ok (.goto 11, 3) := by decide +kernel
theorem dL_wish_13 : decode cL_wish 13 = .ok (.astore 4, 2) := by decide +kernel
theorem dL_wish_15 : decode cL_wish 15 = .ok (.iconst 1, 1) := by decide +kernel
theorem dL_wish_16 : decode cL_wish 16 = .ok (.ireturn, 1) := by decide +kernel
theorem dL_wish_17 : decode cL_wish 17 = .ok (.astore 4, 2) := by decide +kernel
theorem dL_wish_19 : decode cL_wish 19 = .ok (.iconst 2, 1) := by decide +kernel
theorem dL_wish_20 : decode cL_wish 20 = .ok (.ireturn, 1) := by decide +kernel
theorem dL_wish_21 : decode cL_wish 21 = .ok (.iconst 0, 1) := by decide +kernel
theorem dL_wish_22 : decode cL_wish 22 = .ok (.ireturn, 1) := by decide +kernel
theorem dL_table_0 : decode cL_table 0 = .ok (.aload_n 2, 1) := by decide +kernel
theorem dL_table_1 : decode cL_table 1 = .ok (.iconst 0, 1) := by decide +kernel
theorem dL_table_2 : decode cL_table 2 = .ok (.aload_n 0, 1) := by decide +kernel
theorem dL_table_3 : decode cL_table 3 = .ok (.iload_n 1, 1) := by decide +kernel
theorem dL_table_4 : decode cL_table 4 = .ok (.invokevirtual 22, 3) := by decide +kernel
theorem dL_table_7 : decode cL_table 7 = .ok (.i2l, 1) := by decide +kernel
theorem dL_table_8 : decode cL_table 8 = .ok (.lastore, 1) := by decide +kernel
theorem dL_table_9 : decode cL_table 9 = .ok (.goto 9, 3) := by decide +kernel
theorem dL_table_12 : decode cL_table 12 = .ok (.astore_n 3, 1) := by decide +kernel
theorem dL_table_13 : decode cL_table 13 = .ok (.iconst 1, 1) := by decide +kernel
theorem dL_table_14 : decode cL_table 14 = .ok (.ireturn, 1) := by decide +kernel
theorem dL_table_15 : decode cL_table 15 = .ok (.astore_n 3, 1) := by decide +kernel
theorem dL_table_16 : decode cL_table 16 = .ok (.iconst 2, 1) := by decide +kernel
theorem dL_table_17 : decode cL_table 17 = .ok (.ireturn, 1) := by decide +kernel
theorem dL_table_18 : decode cL_table 18 = .ok (.iconst 0, 1) := by decide +kernel
theorem dL_table_19 : decode cL_table 19 = .ok (.ireturn, 1) := by decide +kernel
theorem dL_feud_0 : decode cL_feud 0 = .ok (.aload_n 3, 1) := by decide +kernel
theorem dL_feud_1 : decode cL_feud 1 = .ok (.iconst 0, 1) := by decide +kernel
theorem dL_feud_2 : decode cL_feud 2 = .ok (.aload_n 0, 1) := by decide +kernel
theorem dL_feud_3 : decode cL_feud 3 = .ok (.iload_n 1, 1) := by decide +kernel
theorem dL_feud_4 : decode cL_feud 4 = .ok (.iload_n 2, 1) := by decide +kernel
theorem dL_feud_5 : decode cL_feud 5 = .ok (.invokevirtual 26, 3) := by decide +kernel
theorem dL_feud_8 : decode cL_feud 8 = .ok (.i2l, 1) := by decide +kernel
theorem dL_feud_9 : decode cL_feud 9 = .ok (.lastore, 1) := by decide +kernel
theorem dL_feud_10 : decode cL_feud 10 = .ok (.goto 11, 3) := by decide +kernel
theorem dL_feud_13 : decode cL_feud 13 = .ok (.astore 4, 2) := by decide +kernel
theorem dL_feud_15 : decode cL_feud 15 = .ok (.iconst 1, 1) := by decide +kernel
theorem dL_feud_16 : decode cL_feud 16 = .ok (.ireturn, 1) := by decide +kernel
theorem dL_feud_17 : decode cL_feud 17 = .ok (.astore 4, 2) := by decide +kernel
theorem dL_feud_19 : decode cL_feud 19 = .ok (.iconst 2, 1) := by decide +kernel
theorem dL_feud_20 : decode cL_feud 20 = .ok (.ireturn, 1) := by decide +kernel
theorem dL_feud_21 : decode cL_feud 21 = .ok (.iconst 0, 1) := by decide +kernel
theorem dL_feud_22 : decode cL_feud 22 = .ok (.ireturn, 1) := by decide +kernel
theorem dL_peace_0 : decode cL_peace 0 = .ok (.aload_n 3, 1) := by decide +kernel
theorem dL_peace_1 : decode cL_peace 1 = .ok (.iconst 0, 1) := by decide +kernel
theorem dL_peace_2 : decode cL_peace 2 = .ok (.aload_n 0, 1) := by decide +kernel
theorem dL_peace_3 : decode cL_peace 3 = .ok (.iload_n 1, 1) := by decide +kernel
theorem dL_peace_4 : decode cL_peace 4 = .ok (.iload_n 2, 1) := by decide +kernel
theorem dL_peace_5 : decode cL_peace 5 = .ok (.invokevirtual 29, 3) := by decide +kernel
theorem dL_peace_8 : decode cL_peace 8 = .ok (.i2l, 1) := by decide +kernel
theorem dL_peace_9 : decode cL_peace 9 = .ok (.lastore, 1) := by decide +kernel
theorem dL_peace_10 : decode cL_peace 10 = .ok (.goto 11, 3) := by decide +kernel
theorem dL_peace_13 : decode cL_peace 13 = .ok (.astore 4, 2) := by decide +kernel
theorem dL_peace_15 : decode cL_peace 15 = .ok (.iconst 1, 1) := by decide +kernel
theorem dL_peace_16 : decode cL_peace 16 = .ok (.ireturn, 1) := by decide +kernel
theorem dL_peace_17 : decode cL_peace 17 = .ok (.astore 4, 2) := by decide +kernel
theorem dL_peace_19 : decode cL_peace 19 = .ok (.iconst 2, 1) := by decide +kernel
theorem dL_peace_20 : decode cL_peace 20 = .ok (.ireturn, 1) := by decide +kernel
theorem dL_peace_21 : decode cL_peace 21 = .ok (.iconst 0, 1) := by decide +kernel
theorem dL_peace_22 : decode cL_peace 22 = .ok (.ireturn, 1) := by decide +kernel
theorem dL_set_0 : decode cL_set 0 = .ok (.aload_n 3, 1) := by decide +kernel
theorem dL_set_1 : decode cL_set 1 = .ok (.iconst 0, 1) := by decide +kernel
theorem dL_set_2 : decode cL_set 2 = .ok (.aload_n 0, 1) := by decide +kernel
theorem dL_set_3 : decode cL_set 3 = .ok (.iload_n 1, 1) := by decide +kernel
theorem dL_set_4 : decode cL_set 4 = .ok (.iload_n 2, 1) := by decide +kernel
theorem dL_set_5 : decode cL_set 5 = .ok (.invokevirtual 32, 3) := by decide +kernel
theorem dL_set_8 : decode cL_set 8 = .ok (.i2l, 1) := by decide +kernel
theorem dL_set_9 : decode cL_set 9 = .ok (.lastore, 1) := by decide +kernel
theorem dL_set_10 : decode cL_set 10 = .ok (.goto 11, 3) := by decide +kernel
theorem dL_set_13 : decode cL_set 13 = .ok (.astore 4, 2) := by decide +kernel
theorem dL_set_15 : decode cL_set 15 = .ok (.iconst 1, 1) := by decide +kernel
theorem dL_set_16 : decode cL_set 16 = .ok (.ireturn, 1) := by decide +kernel
theorem dL_set_17 : decode cL_set 17 = .ok (.astore 4, 2) := by decide +kernel
theorem dL_set_19 : decode cL_set 19 = .ok (.iconst 2, 1) := by decide +kernel
theorem dL_set_20 : decode cL_set 20 = .ok (.ireturn, 1) := by decide +kernel
theorem dL_set_21 : decode cL_set 21 = .ok (.iconst 0, 1) := by decide +kernel
theorem dL_set_22 : decode cL_set 22 = .ok (.ireturn, 1) := by decide +kernel
theorem dL_sit_0 : decode cL_sit 0 = .ok (.aload 4, 2) := by decide +kernel
theorem dL_sit_2 : decode cL_sit 2 = .ok (.iconst 0, 1) := by decide +kernel
theorem dL_sit_3 : decode cL_sit 3 = .ok (.aload_n 0, 1) := by decide +kernel
theorem dL_sit_4 : decode cL_sit 4 = .ok (.iload_n 1, 1) := by decide +kernel
theorem dL_sit_5 : decode cL_sit 5 = .ok (.iload_n 2, 1) := by decide +kernel
theorem dL_sit_6 : decode cL_sit 6 = .ok (.iload_n 3, 1) := by decide +kernel
theorem dL_sit_7 : decode cL_sit 7 = .ok (.invokevirtual 35, 3) := by decide +kernel
theorem dL_sit_10 : decode cL_sit 10 = .ok (.i2l, 1) := by decide +kernel
theorem dL_sit_11 : decode cL_sit 11 = .ok (.lastore, 1) := by decide +kernel
theorem dL_sit_12 : decode cL_sit 12 = .ok (.goto 11, 3) := by decide +kernel
theorem dL_sit_15 : decode cL_sit 15 = .ok (.astore 5, 2) := by decide +kernel
theorem dL_sit_17 : decode cL_sit 17 = .ok (.iconst 1, 1) := by decide +kernel
theorem dL_sit_18 : decode cL_sit 18 = .ok (.ireturn, 1) := by decide +kernel
theorem dL_sit_19 : decode cL_sit 19 = .ok (.astore 5, 2) := by decide +kernel
theorem dL_sit_21 : decode cL_sit 21 = .ok (.iconst 2, 1) := by decide +kernel
theorem dL_sit_22 : decode cL_sit 22 = .ok (.ireturn, 1) := by decide +kernel
theorem dL_sit_23 : decode cL_sit 23 = .ok (.iconst 0, 1) := by decide +kernel
theorem dL_sit_24 : decode cL_sit 24 = .ok (.ireturn, 1) := by decide +kernel
theorem dL_rise_0 : decode cL_rise 0 = .ok (.aload_n 2, 1) := by decide +kernel
theorem dL_rise_1 : decode cL_rise 1 = .ok (.iconst 0, 1) := by decide +kernel
theorem dL_rise_2 : decode cL_rise 2 = .ok (.aload_n 0, 1) := by decide +kernel
theorem dL_rise_3 : decode cL_rise 3 = .ok (.iload_n 1, 1) := by decide +kernel
theorem dL_rise_4 : decode cL_rise 4 = .ok (.invokevirtual 39, 3) := by decide +kernel
theorem dL_rise_7 : decode cL_rise 7 = .ok (.i2l, 1) := by decide +kernel
theorem dL_rise_8 : decode cL_rise 8 = .ok (.lastore, 1) := by decide +kernel
theorem dL_rise_9 : decode cL_rise 9 = .ok (.goto 9, 3) := by decide +kernel
theorem dL_rise_12 : decode cL_rise 12 = .ok (.astore_n 3, 1) := by decide +kernel
theorem dL_rise_13 : decode cL_rise 13 = .ok (.iconst 1, 1) := by decide +kernel
theorem dL_rise_14 : decode cL_rise 14 = .ok (.ireturn, 1) := by decide +kernel
theorem dL_rise_15 : decode cL_rise 15 = .ok (.astore_n 3, 1) := by decide +kernel
theorem dL_rise_16 : decode cL_rise 16 = .ok (.iconst 2, 1) := by decide +kernel
theorem dL_rise_17 : decode cL_rise 17 = .ok (.ireturn, 1) := by decide +kernel
theorem dL_rise_18 : decode cL_rise 18 = .ok (.iconst 0, 1) := by decide +kernel
theorem dL_rise_19 : decode cL_rise 19 = .ok (.ireturn, 1) := by decide +kernel
theorem dL_swap_0 : decode cL_swap 0 = .ok (.aload_n 3, 1) := by decide +kernel
theorem dL_swap_1 : decode cL_swap 1 = .ok (.iconst 0, 1) := by decide +kernel
theorem dL_swap_2 : decode cL_swap 2 = .ok (.aload_n 0, 1) := by decide +kernel
theorem dL_swap_3 : decode cL_swap 3 = .ok (.iload_n 1, 1) := by decide +kernel
theorem dL_swap_4 : decode cL_swap 4 = .ok (.iload_n 2, 1) := by decide +kernel
theorem dL_swap_5 : decode cL_swap 5 = .ok (.invokevirtual 42, 3) := by decide +kernel
theorem dL_swap_8 : decode cL_swap 8 = .ok (.i2l, 1) := by decide +kernel
theorem dL_swap_9 : decode cL_swap 9 = .ok (.lastore, 1) := by decide +kernel
theorem dL_swap_10 : decode cL_swap 10 = .ok (.goto 15, 3) := by decide +kernel
theorem dL_swap_13 : decode cL_swap 13 = .ok (.astore 4, 2) := by decide +kernel
theorem dL_swap_15 : decode cL_swap 15 = .ok (.iconst 1, 1) := by decide +kernel
theorem dL_swap_16 : decode cL_swap 16 = .ok (.ireturn, 1) := by decide +kernel
theorem dL_swap_17 : decode cL_swap 17 = .ok (.astore 4, 2) := by decide +kernel
theorem dL_swap_19 : decode cL_swap 19 = .ok (.iconst 2, 1) := by decide +kernel
theorem dL_swap_20 : decode cL_swap 20 = .ok (.ireturn, 1) := by decide +kernel
theorem dL_swap_21 : decode cL_swap 21 = .ok (.astore 4, 2) := by decide +kernel
theorem dL_swap_23 : decode cL_swap 23 = .ok (.iconst 3, 1) := by decide +kernel
theorem dL_swap_24 : decode cL_swap 24 = .ok (.ireturn, 1) := by decide +kernel
theorem dL_swap_25 : decode cL_swap 25 = .ok (.iconst 0, 1) := by decide +kernel
theorem dL_swap_26 : decode cL_swap 26 = .ok (.ireturn, 1) := by decide +kernel
theorem dL_append_0 : decode cL_append 0 = .ok (.aload_n 2, 1) := by decide +kernel
theorem dL_append_1 : decode cL_append 1 = .ok (.iconst 0, 1) := by decide +kernel
theorem dL_append_2 : decode cL_append 2 = .ok (.aload_n 0, 1) := by decide +kernel
theorem dL_append_3 : decode cL_append 3 = .ok (.iload_n 1, 1) := by decide +kernel
theorem dL_append_4 : decode cL_append 4 = .ok (.invokevirtual 45, 3) := by decide +kernel
theorem dL_append_7 : decode cL_append 7 = .ok (.i2l, 1) := by decide +kernel
theorem dL_append_8 : decode cL_append 8 = .ok (.lastore, 1) := by decide +kernel
theorem dL_append_9 : decode cL_append 9 = .ok (.goto 9, 3) := by decide +kernel
theorem dL_append_12 : decode cL_append 12 = .ok (.astore_n 3, 1) := by decide +kernel
theorem dL_append_13 : decode cL_append 13 = .ok (.iconst 1, 1) := by decide +kernel
theorem dL_append_14 : decode cL_append 14 = .ok (.ireturn, 1) := by decide +kernel
theorem dL_append_15 : decode cL_append 15 = .ok (.astore_n 3, 1) := by decide +kernel
theorem dL_append_16 : decode cL_append 16 = .ok (.iconst 2, 1) := by decide +kernel
theorem dL_append_17 : decode cL_append 17 = .ok (.ireturn, 1) := by decide +kernel
theorem dL_append_18 : decode cL_append 18 = .ok (.iconst 0, 1) := by decide +kernel
theorem dL_append_19 : decode cL_append 19 = .ok (.ireturn, 1) := by decide +kernel
theorem dL_seats_0 : decode cL_seats 0 = .ok (.aload_n 1, 1) := by decide +kernel
theorem dL_seats_1 : decode cL_seats 1 = .ok (.iconst 0, 1) := by decide +kernel
theorem dL_seats_2 : decode cL_seats 2 = .ok (.aload_n 0, 1) := by decide +kernel
theorem dL_seats_3 : decode cL_seats 3 = .ok (.invokevirtual 48, 3) := by decide +kernel
theorem dL_seats_6 : decode cL_seats 6 = .ok (.i2l, 1) := by decide +kernel
theorem dL_seats_7 : decode cL_seats 7 = .ok (.lastore, 1) := by decide +kernel
theorem dL_seats_8 : decode cL_seats 8 = .ok (.goto 6, 3) := by decide +kernel
theorem dL_seats_11 : decode cL_seats 11 = .ok (.astore_n 2, 1) := by decide +kernel
theorem dL_seats_12 : decode cL_seats 12 = .ok (.iconst 1, 1) := by decide +kernel
theorem dL_seats_13 : decode cL_seats 13 = .ok (.ireturn, 1) := by decide +kernel
theorem dL_seats_14 : decode cL_seats 14 = .ok (.iconst 0, 1) := by decide +kernel
theorem dL_seats_15 : decode cL_seats 15 = .ok (.ireturn, 1) := by decide +kernel
theorem dL_told_0 : decode cL_told 0 = .ok (.aload_n 3, 1) := by decide +kernel
theorem dL_told_1 : decode cL_told 1 = .ok (.iconst 0, 1) := by decide +kernel
theorem dL_told_2 : decode cL_told 2 = .ok (.aload_n 0, 1) := by decide +kernel
theorem dL_told_3 : decode cL_told 3 = .ok (.iload_n 1, 1) := by decide +kernel
theorem dL_told_4 : decode cL_told 4 = .ok (.iload_n 2, 1) := by decide +kernel
theorem dL_told_5 : decode cL_told 5 = .ok (.invokevirtual 52, 3) := by decide +kernel
theorem dL_told_8 : decode cL_told 8 = .ok (.i2l, 1) := by decide +kernel
theorem dL_told_9 : decode cL_told 9 = .ok (.lastore, 1) := by decide +kernel
theorem dL_told_10 : decode cL_told 10 = .ok (.goto 11, 3) := by decide +kernel
theorem dL_told_13 : decode cL_told 13 = .ok (.astore 4, 2) := by decide +kernel
theorem dL_told_15 : decode cL_told 15 = .ok (.iconst 1, 1) := by decide +kernel
theorem dL_told_16 : decode cL_told 16 = .ok (.ireturn, 1) := by decide +kernel
theorem dL_told_17 : decode cL_told 17 = .ok (.astore 4, 2) := by decide +kernel
theorem dL_told_19 : decode cL_told 19 = .ok (.iconst 2, 1) := by decide +kernel
theorem dL_told_20 : decode cL_told 20 = .ok (.ireturn, 1) := by decide +kernel
theorem dL_told_21 : decode cL_told 21 = .ok (.iconst 0, 1) := by decide +kernel
theorem dL_told_22 : decode cL_told 22 = .ok (.ireturn, 1) := by decide +kernel
theorem dL_undo_0 : decode cL_undo 0 = .ok (.aload_n 1, 1) := by decide +kernel
theorem dL_undo_1 : decode cL_undo 1 = .ok (.iconst 0, 1) := by decide +kernel
theorem dL_undo_2 : decode cL_undo 2 = .ok (.aload_n 0, 1) := by decide +kernel
theorem dL_undo_3 : decode cL_undo 3 = .ok (.invokevirtual 55, 3) := by decide +kernel
theorem dL_undo_6 : decode cL_undo 6 = .ok (.i2l, 1) := by decide +kernel
theorem dL_undo_7 : decode cL_undo 7 = .ok (.lastore, 1) := by decide +kernel
theorem dL_undo_8 : decode cL_undo 8 = .ok (.goto 6, 3) := by decide +kernel
theorem dL_undo_11 : decode cL_undo 11 = .ok (.astore_n 2, 1) := by decide +kernel
theorem dL_undo_12 : decode cL_undo 12 = .ok (.iconst 1, 1) := by decide +kernel
theorem dL_undo_13 : decode cL_undo 13 = .ok (.ireturn, 1) := by decide +kernel
theorem dL_undo_14 : decode cL_undo 14 = .ok (.iconst 0, 1) := by decide +kernel
theorem dL_undo_15 : decode cL_undo 15 = .ok (.ireturn, 1) := by decide +kernel
theorem dL_restore_0 : decode cL_restore 0 = .ok (.aload_n 1, 1) := by decide +kernel
theorem dL_restore_1 : decode cL_restore 1 = .ok (.iconst 0, 1) := by decide +kernel
theorem dL_restore_2 : decode cL_restore 2 = .ok (.aload_n 0, 1) := by decide +kernel
theorem dL_restore_3 : decode cL_restore 3 = .ok (.invokevirtual 58, 3) := by decide +kernel
theorem dL_restore_6 : decode cL_restore 6 = .ok (.i2l, 1) := by decide +kernel
theorem dL_restore_7 : decode cL_restore 7 = .ok (.lastore, 1) := by decide +kernel
theorem dL_restore_8 : decode cL_restore 8 = .ok (.goto 6, 3) := by decide +kernel
theorem dL_restore_11 : decode cL_restore 11 = .ok (.astore_n 2, 1) := by decide +kernel
theorem dL_restore_12 : decode cL_restore 12 = .ok (.iconst 1, 1) := by decide +kernel
theorem dL_restore_13 : decode cL_restore 13 = .ok (.ireturn, 1) := by decide +kernel
theorem dL_restore_14 : decode cL_restore 14 = .ok (.iconst 0, 1) := by decide +kernel
theorem dL_restore_15 : decode cL_restore 15 = .ok (.ireturn, 1) := by decide +kernel
theorem dL_guestOf_0 : decode cL_guestOf 0 = .ok (.aload_n 3, 1) := by decide +kernel
theorem dL_guestOf_1 : decode cL_guestOf 1 = .ok (.iconst 0, 1) := by decide +kernel
theorem dL_guestOf_2 : decode cL_guestOf 2 = .ok (.aload_n 0, 1) := by decide +kernel
theorem dL_guestOf_3 : decode cL_guestOf 3 = .ok (.iload_n 1, 1) := by decide +kernel
theorem dL_guestOf_4 : decode cL_guestOf 4 = .ok (.iload_n 2, 1) := by decide +kernel
theorem dL_guestOf_5 : decode cL_guestOf 5 = .ok (.invokevirtual 61, 3) := by decide +kernel
theorem dL_guestOf_8 : decode cL_guestOf 8 = .ok (.i2l, 1) := by decide +kernel
theorem dL_guestOf_9 : decode cL_guestOf 9 = .ok (.lastore, 1) := by decide +kernel
theorem dL_guestOf_10 : decode cL_guestOf 10 = .ok (.goto 11, 3) := by decide +kernel
theorem dL_guestOf_13 : decode cL_guestOf 13 = .ok (.astore 4, 2) := by decide +kernel
theorem dL_guestOf_15 : decode cL_guestOf 15 = .ok (.iconst 1, 1) := by decide +kernel
theorem dL_guestOf_16 : decode cL_guestOf 16 = .ok (.ireturn, 1) := by decide +kernel
theorem dL_guestOf_17 : decode cL_guestOf 17 = .ok (.astore 4, 2) := by decide +kernel
theorem dL_guestOf_19 : decode cL_guestOf 19 = .ok (.iconst 2, 1) := by decide +kernel
theorem dL_guestOf_20 : decode cL_guestOf 20 = .ok (.ireturn, 1) := by decide +kernel
theorem dL_guestOf_21 : decode cL_guestOf 21 = .ok (.iconst 0, 1) := by decide +kernel
theorem dL_guestOf_22 : decode cL_guestOf 22 = .ok (.ireturn, 1) := by decide +kernel
theorem dL_tableOf_0 : decode cL_tableOf 0 = .ok (.aload_n 3, 1) := by decide +kernel
theorem dL_tableOf_1 : decode cL_tableOf 1 = .ok (.iconst 0, 1) := by decide +kernel
theorem dL_tableOf_2 : decode cL_tableOf 2 = .ok (.aload_n 0, 1) := by decide +kernel
theorem dL_tableOf_3 : decode cL_tableOf 3 = .ok (.iload_n 1, 1) := by decide +kernel
theorem dL_tableOf_4 : decode cL_tableOf 4 = .ok (.iload_n 2, 1) := by decide +kernel
theorem dL_tableOf_5 : decode cL_tableOf 5 = .ok (.invokevirtual 64, 3) := by decide +kernel
theorem dL_tableOf_8 : decode cL_tableOf 8 = .ok (.i2l, 1) := by decide +kernel
theorem dL_tableOf_9 : decode cL_tableOf 9 = .ok (.lastore, 1) := by decide +kernel
theorem dL_tableOf_10 : decode cL_tableOf 10 = .ok (.goto 11, 3) := by decide +kernel
theorem dL_tableOf_13 : decode cL_tableOf 13 = .ok (.astore 4, 2) := by decide +kernel
theorem dL_tableOf_15 : decode cL_tableOf 15 = .ok (.iconst 1, 1) := by decide +kernel
theorem dL_tableOf_16 : decode cL_tableOf 16 = .ok (.ireturn, 1) := by decide +kernel
theorem dL_tableOf_17 : decode cL_tableOf 17 = .ok (.astore 4, 2) := by decide +kernel
theorem dL_tableOf_19 : decode cL_tableOf 19 = .ok (.iconst 2, 1) := by decide +kernel
theorem dL_tableOf_20 : decode cL_tableOf 20 = .ok (.ireturn, 1) := by decide +kernel
theorem dL_tableOf_21 : decode cL_tableOf 21 = .ok (.iconst 0, 1) := by decide +kernel
theorem dL_tableOf_22 : decode cL_tableOf 22 = .ok (.ireturn, 1) := by decide +kernel
theorem dL_who_0 : decode cL_who 0 = .ok (.aload_n 3, 1) := by decide +kernel
theorem dL_who_1 : decode cL_who 1 = .ok (.iconst 0, 1) := by decide +kernel
theorem dL_who_2 : decode cL_who 2 = .ok (.aload_n 0, 1) := by decide +kernel
theorem dL_who_3 : decode cL_who 3 = .ok (.iload_n 1, 1) := by decide +kernel
theorem dL_who_4 : decode cL_who 4 = .ok (.iload_n 2, 1) := by decide +kernel
theorem dL_who_5 : decode cL_who 5 = .ok (.invokevirtual 67, 3) := by decide +kernel
theorem dL_who_8 : decode cL_who 8 = .ok (.i2l, 1) := by decide +kernel
theorem dL_who_9 : decode cL_who 9 = .ok (.lastore, 1) := by decide +kernel
theorem dL_who_10 : decode cL_who 10 = .ok (.goto 7, 3) := by decide +kernel
theorem dL_who_13 : decode cL_who 13 = .ok (.astore 4, 2) := by decide +kernel
theorem dL_who_15 : decode cL_who 15 = .ok (.iconst 1, 1) := by decide +kernel
theorem dL_who_16 : decode cL_who 16 = .ok (.ireturn, 1) := by decide +kernel
theorem dL_who_17 : decode cL_who 17 = .ok (.iconst 0, 1) := by decide +kernel
theorem dL_who_18 : decode cL_who 18 = .ok (.ireturn, 1) := by decide +kernel
theorem dL_seated_0 : decode cL_seated 0 = .ok (.aload_n 2, 1) := by decide +kernel
theorem dL_seated_1 : decode cL_seated 1 = .ok (.iconst 0, 1) := by decide +kernel
theorem dL_seated_2 : decode cL_seated 2 = .ok (.aload_n 0, 1) := by decide +kernel
theorem dL_seated_3 : decode cL_seated 3 = .ok (.iload_n 1, 1) := by decide +kernel
theorem dL_seated_4 : decode cL_seated 4 = .ok (.invokevirtual 70, 3) := by decide +kernel
theorem dL_seated_7 : decode cL_seated 7 = .ok (.i2l, 1) := by decide +kernel
theorem dL_seated_8 : decode cL_seated 8 = .ok (.lastore, 1) := by decide +kernel
theorem dL_seated_9 : decode cL_seated 9 = .ok (.goto 6, 3) := by decide +kernel
theorem dL_seated_12 : decode cL_seated 12 = .ok (.astore_n 3, 1) := by decide +kernel
theorem dL_seated_13 : decode cL_seated 13 = .ok (.iconst 1, 1) := by decide +kernel
theorem dL_seated_14 : decode cL_seated 14 = .ok (.ireturn, 1) := by decide +kernel
theorem dL_seated_15 : decode cL_seated 15 = .ok (.iconst 0, 1) := by decide +kernel
theorem dL_seated_16 : decode cL_seated 16 = .ok (.ireturn, 1) := by decide +kernel
theorem dL_feudAt_0 : decode cL_feudAt 0 = .ok (.aload_n 2, 1) := by decide +kernel
theorem dL_feudAt_1 : decode cL_feudAt 1 = .ok (.iconst 0, 1) := by decide +kernel
theorem dL_feudAt_2 : decode cL_feudAt 2 = .ok (.aload_n 0, 1) := by decide +kernel
theorem dL_feudAt_3 : decode cL_feudAt 3 = .ok (.iload_n 1, 1) := by decide +kernel
theorem dL_feudAt_4 : decode cL_feudAt 4 = .ok (.invokevirtual 73, 3) := by decide +kernel
theorem dL_feudAt_7 : decode cL_feudAt 7 = .ok (.i2l, 1) := by decide +kernel
theorem dL_feudAt_8 : decode cL_feudAt 8 = .ok (.lastore, 1) := by decide +kernel
theorem dL_feudAt_9 : decode cL_feudAt 9 = .ok (.goto 6, 3) := by decide +kernel
theorem dL_feudAt_12 : decode cL_feudAt 12 = .ok (.astore_n 3, 1) := by decide +kernel
theorem dL_feudAt_13 : decode cL_feudAt 13 = .ok (.iconst 1, 1) := by decide +kernel
theorem dL_feudAt_14 : decode cL_feudAt 14 = .ok (.ireturn, 1) := by decide +kernel
theorem dL_feudAt_15 : decode cL_feudAt 15 = .ok (.iconst 0, 1) := by decide +kernel
theorem dL_feudAt_16 : decode cL_feudAt 16 = .ok (.ireturn, 1) := by decide +kernel
theorem dL_count_0 : decode cL_count 0 = .ok (.aload_n 2, 1) := by decide +kernel
theorem dL_count_1 : decode cL_count 1 = .ok (.iconst 0, 1) := by decide +kernel
theorem dL_count_2 : decode cL_count 2 = .ok (.aload_n 0, 1) := by decide +kernel
theorem dL_count_3 : decode cL_count 3 = .ok (.iload_n 1, 1) := by decide +kernel
theorem dL_count_4 : decode cL_count 4 = .ok (.invokevirtual 76, 3) := by decide +kernel
theorem dL_count_7 : decode cL_count 7 = .ok (.i2l, 1) := by decide +kernel
theorem dL_count_8 : decode cL_count 8 = .ok (.lastore, 1) := by decide +kernel
theorem dL_count_9 : decode cL_count 9 = .ok (.goto 6, 3) := by decide +kernel
theorem dL_count_12 : decode cL_count 12 = .ok (.astore_n 3, 1) := by decide +kernel
theorem dL_count_13 : decode cL_count 13 = .ok (.iconst 1, 1) := by decide +kernel
theorem dL_count_14 : decode cL_count 14 = .ok (.ireturn, 1) := by decide +kernel
theorem dL_count_15 : decode cL_count 15 = .ok (.iconst 0, 1) := by decide +kernel
theorem dL_count_16 : decode cL_count 16 = .ok (.ireturn, 1) := by decide +kernel
theorem dL_whyNot_0 : decode cL_whyNot 0 = .ok (.aload 4, 2) := by decide +kernel
theorem dL_whyNot_2 : decode cL_whyNot 2 = .ok (.iconst 0, 1) := by decide +kernel
theorem dL_whyNot_3 : decode cL_whyNot 3 = .ok (.aload_n 0, 1) := by decide +kernel
theorem dL_whyNot_4 : decode cL_whyNot 4 = .ok (.iload_n 1, 1) := by decide +kernel
theorem dL_whyNot_5 : decode cL_whyNot 5 = .ok (.iload_n 2, 1) := by decide +kernel
theorem dL_whyNot_6 : decode cL_whyNot 6 = .ok (.iload_n 3, 1) := by decide +kernel
theorem dL_whyNot_7 : decode cL_whyNot 7 = .ok (.invokevirtual 79, 3) := by decide +kernel
theorem dL_whyNot_10 : decode cL_whyNot 10 = .ok (.i2l, 1) := by decide +kernel
theorem dL_whyNot_11 : decode cL_whyNot 11 = .ok (.lastore, 1) := by decide +kernel
theorem dL_whyNot_12 : decode cL_whyNot 12 = .ok (.goto 7, 3) := by decide +kernel
theorem dL_whyNot_15 : decode cL_whyNot 15 = .ok (.astore 5, 2) := by decide +kernel
theorem dL_whyNot_17 : decode cL_whyNot 17 = .ok (.iconst 1, 1) := by decide +kernel
theorem dL_whyNot_18 : decode cL_whyNot 18 = .ok (.ireturn, 1) := by decide +kernel
theorem dL_whyNot_19 : decode cL_whyNot 19 = .ok (.iconst 0, 1) := by decide +kernel
theorem dL_whyNot_20 : decode cL_whyNot 20 = .ok (.ireturn, 1) := by decide +kernel
theorem dL_ifSat_0 : decode cL_ifSat 0 = .ok (.aload 4, 2) := by decide +kernel
theorem dL_ifSat_2 : decode cL_ifSat 2 = .ok (.iconst 0, 1) := by decide +kernel
theorem dL_ifSat_3 : decode cL_ifSat 3 = .ok (.aload_n 0, 1) := by decide +kernel
theorem dL_ifSat_4 : decode cL_ifSat 4 = .ok (.iload_n 1, 1) := by decide +kernel
theorem dL_ifSat_5 : decode cL_ifSat 5 = .ok (.iload_n 2, 1) := by decide +kernel
theorem dL_ifSat_6 : decode cL_ifSat 6 = .ok (.iload_n 3, 1) := by decide +kernel
theorem dL_ifSat_7 : decode cL_ifSat 7 = .ok (.invokevirtual 82, 3) := by decide +kernel
theorem dL_ifSat_10 : decode cL_ifSat 10 = .ok (.i2l, 1) := by decide +kernel
theorem dL_ifSat_11 : decode cL_ifSat 11 = .ok (.lastore, 1) := by decide +kernel
theorem dL_ifSat_12 : decode cL_ifSat 12 = .ok (.goto 7, 3) := by decide +kernel
theorem dL_ifSat_15 : decode cL_ifSat 15 = .ok (.astore 5, 2) := by decide +kernel
theorem dL_ifSat_17 : decode cL_ifSat 17 = .ok (.iconst 1, 1) := by decide +kernel
theorem dL_ifSat_18 : decode cL_ifSat 18 = .ok (.ireturn, 1) := by decide +kernel
theorem dL_ifSat_19 : decode cL_ifSat 19 = .ok (.iconst 0, 1) := by decide +kernel
theorem dL_ifSat_20 : decode cL_ifSat 20 = .ok (.ireturn, 1) := by decide +kernel
theorem dL_bestSeat_0 : decode cL_bestSeat 0 = .ok (.aload_n 2, 1) := by decide +kernel
theorem dL_bestSeat_1 : decode cL_bestSeat 1 = .ok (.iconst 0, 1) := by decide +kernel
theorem dL_bestSeat_2 : decode cL_bestSeat 2 = .ok (.aload_n 0, 1) := by decide +kernel
theorem dL_bestSeat_3 : decode cL_bestSeat 3 = .ok (.iload_n 1, 1) := by decide +kernel
theorem dL_bestSeat_4 : decode cL_bestSeat 4 = .ok (.invokevirtual 85, 3) := by decide +kernel
theorem dL_bestSeat_7 : decode cL_bestSeat 7 = .ok (.i2l, 1) := by decide +kernel
theorem dL_bestSeat_8 : decode cL_bestSeat 8 = .ok (.lastore, 1) := by decide +kernel
theorem dL_bestSeat_9 : decode cL_bestSeat 9 = .ok (.goto 6, 3) := by decide +kernel
theorem dL_bestSeat_12 : decode cL_bestSeat 12 = .ok (.astore_n 3, 1) := by decide +kernel
theorem dL_bestSeat_13 : decode cL_bestSeat 13 = .ok (.iconst 1, 1) := by decide +kernel
theorem dL_bestSeat_14 : decode cL_bestSeat 14 = .ok (.ireturn, 1) := by decide +kernel
theorem dL_bestSeat_15 : decode cL_bestSeat 15 = .ok (.iconst 0, 1) := by decide +kernel
theorem dL_bestSeat_16 : decode cL_bestSeat 16 = .ok (.ireturn, 1) := by decide +kernel
theorem dL_ifFeud_0 : decode cL_ifFeud 0 = .ok (.aload_n 3, 1) := by decide +kernel
theorem dL_ifFeud_1 : decode cL_ifFeud 1 = .ok (.iconst 0, 1) := by decide +kernel
theorem dL_ifFeud_2 : decode cL_ifFeud 2 = .ok (.aload_n 0, 1) := by decide +kernel
theorem dL_ifFeud_3 : decode cL_ifFeud 3 = .ok (.iload_n 1, 1) := by decide +kernel
theorem dL_ifFeud_4 : decode cL_ifFeud 4 = .ok (.iload_n 2, 1) := by decide +kernel
theorem dL_ifFeud_5 : decode cL_ifFeud 5 = .ok (.invokevirtual 88, 3) := by decide +kernel
theorem dL_ifFeud_8 : decode cL_ifFeud 8 = .ok (.i2l, 1) := by decide +kernel
theorem dL_ifFeud_9 : decode cL_ifFeud 9 = .ok (.lastore, 1) := by decide +kernel
theorem dL_ifFeud_10 : decode cL_ifFeud 10 = .ok (.goto 7, 3) := by decide +kernel
theorem dL_ifFeud_13 : decode cL_ifFeud 13 = .ok (.astore 4, 2) := by decide +kernel
theorem dL_ifFeud_15 : decode cL_ifFeud 15 = .ok (.iconst 1, 1) := by decide +kernel
theorem dL_ifFeud_16 : decode cL_ifFeud 16 = .ok (.ireturn, 1) := by decide +kernel
theorem dL_ifFeud_17 : decode cL_ifFeud 17 = .ok (.iconst 0, 1) := by decide +kernel
theorem dL_ifFeud_18 : decode cL_ifFeud 18 = .ok (.ireturn, 1) := by decide +kernel
theorem dL_ifSeated_0 : decode cL_ifSeated 0 = .ok (.aload_n 2, 1) := by decide +kernel
theorem dL_ifSeated_1 : decode cL_ifSeated 1 = .ok (.iconst 0, 1) := by decide +kernel
theorem dL_ifSeated_2 : decode cL_ifSeated 2 = .ok (.aload_n 0, 1) := by decide +kernel
theorem dL_ifSeated_3 : decode cL_ifSeated 3 = .ok (.iload_n 1, 1) := by decide +kernel
theorem dL_ifSeated_4 : decode cL_ifSeated 4 = .ok (.invokevirtual 91, 3) := by decide +kernel
theorem dL_ifSeated_7 : decode cL_ifSeated 7 = .ok (.i2l, 1) := by decide +kernel
theorem dL_ifSeated_8 : decode cL_ifSeated 8 = .ok (.lastore, 1) := by decide +kernel
theorem dL_ifSeated_9 : decode cL_ifSeated 9 = .ok (.goto 6, 3) := by decide +kernel
theorem dL_ifSeated_12 : decode cL_ifSeated 12 = .ok (.astore_n 3, 1) := by decide +kernel
theorem dL_ifSeated_13 : decode cL_ifSeated 13 = .ok (.iconst 1, 1) := by decide +kernel
theorem dL_ifSeated_14 : decode cL_ifSeated 14 = .ok (.ireturn, 1) := by decide +kernel
theorem dL_ifSeated_15 : decode cL_ifSeated 15 = .ok (.iconst 0, 1) := by decide +kernel
theorem dL_ifSeated_16 : decode cL_ifSeated 16 = .ok (.ireturn, 1) := by decide +kernel
theorem dL_law_0 : decode cL_law 0 = .ok (.new 8, 3) := by decide +kernel
theorem dL_law_3 : decode cL_law 3 = .ok (.dup, 1) := by decide +kernel
theorem dL_law_4 : decode cL_law 4 = .ok (.invokespecial 94, 3) := by decide +kernel
theorem dL_law_7 : decode cL_law 7 = .ok (.astore_n 1, 1) := by decide +kernel
theorem dL_law_8 : decode cL_law 8 = .ok (.new 95, 3) := by decide +kernel
theorem dL_law_11 : decode cL_law 11 = .ok (.dup, 1) := by decide +kernel
theorem dL_law_12 : decode cL_law 12 = .ok (.invokespecial 97, 3) := by decide +kernel
theorem dL_law_15 : decode cL_law 15 = .ok (.astore_n 2, 1) := by decide +kernel
theorem dL_law_16 : decode cL_law 16 = .ok (.iconst 1, 1) := by decide +kernel
theorem dL_law_17 : decode cL_law 17 = .ok (.newarray .long, 2) := by decide +kernel
theorem dL_law_19 : decode cL_law 19 = .ok (.astore_n 3, 1) := by decide +kernel
theorem dL_law_20 : decode cL_law 20 = .ok (.iconst 0, 1) := by decide +kernel
theorem dL_law_21 : decode cL_law 21 = .ok (.istore 4, 2) := by decide +kernel
theorem dL_law_23 : decode cL_law 23 = .ok (.iload 4, 2) := by decide +kernel
theorem dL_law_25 : decode cL_law 25 = .ok (.aload_n 0, 1) := by decide +kernel
theorem dL_law_26 : decode cL_law 26 = .ok (.arraylength, 1) := by decide +kernel
theorem dL_law_27 : decode cL_law 27 = .ok (.iconst 4, 1) := by decide +kernel
theorem dL_law_28 : decode cL_law 28 = .ok (.isub, 1) := by decide +kernel
theorem dL_law_29 : decode cL_law 29 = .ok (.if_icmp .gt 1828, 3) := by decide +kernel
theorem dL_law_32 : decode cL_law 32 = .ok (.aload_n 0, 1) := by decide +kernel
theorem dL_law_33 : decode cL_law 33 = .ok (.iload 4, 2) := by decide +kernel
theorem dL_law_35 : decode cL_law 35 = .ok (.iaload, 1) := by decide +kernel
theorem dL_law_36 : decode cL_law 36 = .ok (.bipush 31, 2) := by decide +kernel
theorem dL_law_38 : decode cL_law 38 = .ok (.iand, 1) := by decide +kernel
theorem dL_law_39 : decode cL_law 39 = .ok (.tableswitch 1812 0 30 #[137, 205, 273, 329, 397, 465, 533, 613, 669, 737, 750, 806, 819, 832, 876, 944, 988, 1001, 1045, 1113, 1181, 1249, 1305, 1361, 1417, 1497, 1577, 1633, 1701, 1757, 1798], 137) := by decide +kernel
theorem dL_law_176 : decode cL_law 176 = .ok (.aload_n 1, 1) := by decide +kernel
theorem dL_law_177 : decode cL_law 177 = .ok (.aload_n 0, 1) := by decide +kernel
theorem dL_law_178 : decode cL_law 178 = .ok (.iload 4, 2) := by decide +kernel
theorem dL_law_180 : decode cL_law 180 = .ok (.iconst 1, 1) := by decide +kernel
theorem dL_law_181 : decode cL_law 181 = .ok (.iadd, 1) := by decide +kernel
theorem dL_law_182 : decode cL_law 182 = .ok (.iaload, 1) := by decide +kernel
theorem dL_law_183 : decode cL_law 183 = .ok (.aload_n 0, 1) := by decide +kernel
theorem dL_law_184 : decode cL_law 184 = .ok (.iload 4, 2) := by decide +kernel
theorem dL_law_186 : decode cL_law 186 = .ok (.iconst 2, 1) := by decide +kernel
theorem dL_law_187 : decode cL_law 187 = .ok (.iadd, 1) := by decide +kernel
theorem dL_law_188 : decode cL_law 188 = .ok (.iaload, 1) := by decide +kernel
theorem dL_law_189 : decode cL_law 189 = .ok (.aload_n 3, 1) := by decide +kernel
theorem dL_law_190 : decode cL_law 190 = .ok (.invokestatic 98, 3) := by decide +kernel
theorem dL_law_193 : decode cL_law 193 = .ok (.istore 5, 2) := by decide +kernel
theorem dL_law_195 : decode cL_law 195 = .ok (.aload_n 2, 1) := by decide +kernel
theorem dL_law_196 : decode cL_law 196 = .ok (.aload_n 0, 1) := by decide +kernel
theorem dL_law_197 : decode cL_law 197 = .ok (.iload 4, 2) := by decide +kernel
theorem dL_law_199 : decode cL_law 199 = .ok (.iconst 1, 1) := by decide +kernel
theorem dL_law_200 : decode cL_law 200 = .ok (.iadd, 1) := by decide +kernel
theorem dL_law_201 : decode cL_law 201 = .ok (.iaload, 1) := by decide +kernel
theorem dL_law_202 : decode cL_law 202 = .ok (.aload_n 0, 1) := by decide +kernel
theorem dL_law_203 : decode cL_law 203 = .ok (.iload 4, 2) := by decide +kernel
theorem dL_law_205 : decode cL_law 205 = .ok (.iconst 2, 1) := by decide +kernel
theorem dL_law_206 : decode cL_law 206 = .ok (.iadd, 1) := by decide +kernel
theorem dL_law_207 : decode cL_law 207 = .ok (.iaload, 1) := by decide +kernel
theorem dL_law_208 : decode cL_law 208 = .ok (.invokevirtual 103, 3) := by decide +kernel
theorem dL_law_211 : decode cL_law 211 = .ok (.istore 6, 2) := by decide +kernel
theorem dL_law_213 : decode cL_law 213 = .ok (.aload_n 2, 1) := by decide +kernel
theorem dL_law_214 : decode cL_law 214 = .ok (.invokevirtual 104, 3) := by decide +kernel
theorem dL_law_217 : decode cL_law 217 = .ok (.iload 5, 2) := by decide +kernel
theorem dL_law_219 : decode cL_law 219 = .ok (.if_icmp .eq 5, 3) := by decide +kernel
theorem dL_law_222 : decode cL_law 222 = .ok (.iconst 0, 1) := by decide +kernel
theorem dL_law_223 : decode cL_law 223 = .ok (.ireturn, 1) := by decide +kernel
theorem dL_law_224 : decode cL_law 224 = .ok (.iload 5, 2) := by decide +kernel
theorem dL_law_226 : decode cL_law 226 = .ok (.ifCond .ne 15, 3) := by decide +kernel
theorem dL_law_229 : decode cL_law 229 = .ok (.aload_n 3, 1) := by decide +kernel
theorem dL_law_230 : decode cL_law 230 = .ok (.iconst 0, 1) := by decide +kernel
theorem dL_law_231 : decode cL_law 231 = .ok (.laload, 1) := by decide +kernel
theorem dL_law_232 : decode cL_law 232 = .ok (.iload 6, 2) := by decide +kernel
theorem dL_law_234 : decode cL_law 234 = .ok (.i2l, 1) := by decide +kernel
theorem dL_law_235 : decode cL_law 235 = .ok (.lcmp, 1) := by decide +kernel
theorem dL_law_236 : decode cL_law 236 = .ok (.ifCond .eq 5, 3) := by decide +kernel
theorem dL_law_239 : decode cL_law 239 = .ok (.iconst 0, 1) := by decide +kernel
theorem dL_law_240 : decode cL_law 240 = .ok (.ireturn, 1) := by decide +kernel
theorem dL_law_241 : decode cL_law 241 = .ok (.goto 1610, 3) := by decide +kernel
theorem dL_law_244 : decode cL_law 244 = .ok (.aload_n 1, 1) := by decide +kernel
theorem dL_law_245 : decode cL_law 245 = .ok (.aload_n 0, 1) := by decide +kernel
theorem dL_law_246 : decode cL_law 246 = .ok (.iload 4, 2) := by decide +kernel
theorem dL_law_248 : decode cL_law 248 = .ok (.iconst 1, 1) := by decide +kernel
theorem dL_law_249 : decode cL_law 249 = .ok (.iadd, 1) := by decide +kernel
theorem dL_law_250 : decode cL_law 250 = .ok (.iaload, 1) := by decide +kernel
theorem dL_law_251 : decode cL_law 251 = .ok (.aload_n 0, 1) := by decide +kernel
theorem dL_law_252 : decode cL_law 252 = .ok (.iload 4, 2) := by decide +kernel
theorem dL_law_254 : decode cL_law 254 = .ok (.iconst 2, 1) := by decide +kernel
theorem dL_law_255 : decode cL_law 255 = .ok (.iadd, 1) := by decide +kernel
theorem dL_law_256 : decode cL_law 256 = .ok (.iaload, 1) := by decide +kernel
theorem dL_law_257 : decode cL_law 257 = .ok (.aload_n 3, 1) := by decide +kernel
theorem dL_law_258 : decode cL_law 258 = .ok (.invokestatic 107, 3) := by decide +kernel
theorem dL_law_261 : decode cL_law 261 = .ok (.istore 5, 2) := by decide +kernel
theorem dL_law_263 : decode cL_law 263 = .ok (.aload_n 2, 1) := by decide +kernel
theorem dL_law_264 : decode cL_law 264 = .ok (.aload_n 0, 1) := by decide +kernel
theorem dL_law_265 : decode cL_law 265 = .ok (.iload 4, 2) := by decide +kernel
theorem dL_law_267 : decode cL_law 267 = .ok (.iconst 1, 1) := by decide +kernel
theorem dL_law_268 : decode cL_law 268 = .ok (.iadd, 1) := by decide +kernel
theorem dL_law_269 : decode cL_law 269 = .ok (.iaload, 1) := by decide +kernel
theorem dL_law_270 : decode cL_law 270 = .ok (.aload_n 0, 1) := by decide +kernel
theorem dL_law_271 : decode cL_law 271 = .ok (.iload 4, 2) := by decide +kernel
theorem dL_law_273 : decode cL_law 273 = .ok (.iconst 2, 1) := by decide +kernel
theorem dL_law_274 : decode cL_law 274 = .ok (.iadd, 1) := by decide +kernel
theorem dL_law_275 : decode cL_law 275 = .ok (.iaload, 1) := by decide +kernel
theorem dL_law_276 : decode cL_law 276 = .ok (.invokevirtual 109, 3) := by decide +kernel
theorem dL_law_279 : decode cL_law 279 = .ok (.istore 6, 2) := by decide +kernel
theorem dL_law_281 : decode cL_law 281 = .ok (.aload_n 2, 1) := by decide +kernel
theorem dL_law_282 : decode cL_law 282 = .ok (.invokevirtual 104, 3) := by decide +kernel
theorem dL_law_285 : decode cL_law 285 = .ok (.iload 5, 2) := by decide +kernel
theorem dL_law_287 : decode cL_law 287 = .ok (.if_icmp .eq 5, 3) := by decide +kernel
theorem dL_law_290 : decode cL_law 290 = .ok (.iconst 0, 1) := by decide +kernel
theorem dL_law_291 : decode cL_law 291 = .ok (.ireturn, 1) := by decide +kernel
theorem dL_law_292 : decode cL_law 292 = .ok (.iload 5, 2) := by decide +kernel
theorem dL_law_294 : decode cL_law 294 = .ok (.ifCond .ne 15, 3) := by decide +kernel
theorem dL_law_297 : decode cL_law 297 = .ok (.aload_n 3, 1) := by decide +kernel
theorem dL_law_298 : decode cL_law 298 = .ok (.iconst 0, 1) := by decide +kernel
theorem dL_law_299 : decode cL_law 299 = .ok (.laload, 1) := by decide +kernel
theorem dL_law_300 : decode cL_law 300 = .ok (.iload 6, 2) := by decide +kernel
theorem dL_law_302 : decode cL_law 302 = .ok (.i2l, 1) := by decide +kernel
theorem dL_law_303 : decode cL_law 303 = .ok (.lcmp, 1) := by decide +kernel
theorem dL_law_304 : decode cL_law 304 = .ok (.ifCond .eq 5, 3) := by decide +kernel
theorem dL_law_307 : decode cL_law 307 = .ok (.iconst 0, 1) := by decide +kernel
theorem dL_law_308 : decode cL_law 308 = .ok (.ireturn, 1) := by decide +kernel
theorem dL_law_309 : decode cL_law 309 = .ok (.goto 1542, 3) := by decide +kernel
theorem dL_law_312 : decode cL_law 312 = .ok (.aload_n 1, 1) := by decide +kernel
theorem dL_law_313 : decode cL_law 313 = .ok (.aload_n 0, 1) := by decide +kernel
theorem dL_law_314 : decode cL_law 314 = .ok (.iload 4, 2) := by decide +kernel
theorem dL_law_316 : decode cL_law 316 = .ok (.iconst 1, 1) := by decide +kernel
theorem dL_law_317 : decode cL_law 317 = .ok (.iadd, 1) := by decide +kernel
theorem dL_law_318 : decode cL_law 318 = .ok (.iaload, 1) := by decide +kernel
theorem dL_law_319 : decode cL_law 319 = .ok (.aload_n 3, 1) := by decide +kernel
theorem dL_law_320 : decode cL_law 320 = .ok (.invokestatic 110, 3) := by decide +kernel
theorem dL_law_323 : decode cL_law 323 = .ok (.istore 5, 2) := by decide +kernel
theorem dL_law_325 : decode cL_law 325 = .ok (.aload_n 2, 1) := by decide +kernel
theorem dL_law_326 : decode cL_law 326 = .ok (.aload_n 0, 1) := by decide +kernel
theorem dL_law_327 : decode cL_law 327 = .ok (.iload 4, 2) := by decide +kernel
theorem dL_law_329 : decode cL_law 329 = .ok (.iconst 1, 1) := by decide +kernel
theorem dL_law_330 : decode cL_law 330 = .ok (.iadd, 1) := by decide +kernel
theorem dL_law_331 : decode cL_law 331 = .ok (.iaload, 1) := by decide +kernel
theorem dL_law_332 : decode cL_law 332 = .ok (.invokevirtual 113, 3) := by decide +kernel
theorem dL_law_335 : decode cL_law 335 = .ok (.istore 6, 2) := by decide +kernel
theorem dL_law_337 : decode cL_law 337 = .ok (.aload_n 2, 1) := by decide +kernel
theorem dL_law_338 : decode cL_law 338 = .ok (.invokevirtual 104, 3) := by decide +kernel
theorem dL_law_341 : decode cL_law 341 = .ok (.iload 5, 2) := by decide +kernel
theorem dL_law_343 : decode cL_law 343 = .ok (.if_icmp .eq 5, 3) := by decide +kernel
theorem dL_law_346 : decode cL_law 346 = .ok (.iconst 0, 1) := by decide +kernel
theorem dL_law_347 : decode cL_law 347 = .ok (.ireturn, 1) := by decide +kernel
theorem dL_law_348 : decode cL_law 348 = .ok (.iload 5, 2) := by decide +kernel
theorem dL_law_350 : decode cL_law 350 = .ok (.ifCond .ne 15, 3) := by decide +kernel
theorem dL_law_353 : decode cL_law 353 = .ok (.aload_n 3, 1) := by decide +kernel
theorem dL_law_354 : decode cL_law 354 = .ok (.iconst 0, 1) := by decide +kernel
theorem dL_law_355 : decode cL_law 355 = .ok (.laload, 1) := by decide +kernel
theorem dL_law_356 : decode cL_law 356 = .ok (.iload 6, 2) := by decide +kernel
theorem dL_law_358 : decode cL_law 358 = .ok (.i2l, 1) := by decide +kernel
theorem dL_law_359 : decode cL_law 359 = .ok (.lcmp, 1) := by decide +kernel
theorem dL_law_360 : decode cL_law 360 = .ok (.ifCond .eq 5, 3) := by decide +kernel
theorem dL_law_363 : decode cL_law 363 = .ok (.iconst 0, 1) := by decide +kernel
theorem dL_law_364 : decode cL_law 364 = .ok (.ireturn, 1) := by decide +kernel
theorem dL_law_365 : decode cL_law 365 = .ok (.goto 1486, 3) := by decide +kernel
theorem dL_law_368 : decode cL_law 368 = .ok (.aload_n 1, 1) := by decide +kernel
theorem dL_law_369 : decode cL_law 369 = .ok (.aload_n 0, 1) := by decide +kernel
theorem dL_law_370 : decode cL_law 370 = .ok (.iload 4, 2) := by decide +kernel
theorem dL_law_372 : decode cL_law 372 = .ok (.iconst 1, 1) := by decide +kernel
theorem dL_law_373 : decode cL_law 373 = .ok (.iadd, 1) := by decide +kernel
theorem dL_law_374 : decode cL_law 374 = .ok (.iaload, 1) := by decide +kernel
theorem dL_law_375 : decode cL_law 375 = .ok (.aload_n 0, 1) := by decide +kernel
theorem dL_law_376 : decode cL_law 376 = .ok (.iload 4, 2) := by decide +kernel
theorem dL_law_378 : decode cL_law 378 = .ok (.iconst 2, 1) := by decide +kernel
theorem dL_law_379 : decode cL_law 379 = .ok (.iadd, 1) := by decide +kernel
theorem dL_law_380 : decode cL_law 380 = .ok (.iaload, 1) := by decide +kernel
theorem dL_law_381 : decode cL_law 381 = .ok (.aload_n 3, 1) := by decide +kernel
theorem dL_law_382 : decode cL_law 382 = .ok (.invokestatic 114, 3) := by decide +kernel
theorem dL_law_385 : decode cL_law 385 = .ok (.istore 5, 2) := by decide +kernel
theorem dL_law_387 : decode cL_law 387 = .ok (.aload_n 2, 1) := by decide +kernel
theorem dL_law_388 : decode cL_law 388 = .ok (.aload_n 0, 1) := by decide +kernel
theorem dL_law_389 : decode cL_law 389 = .ok (.iload 4, 2) := by decide +kernel
theorem dL_law_391 : decode cL_law 391 = .ok (.iconst 1, 1) := by decide +kernel
theorem dL_law_392 : decode cL_law 392 = .ok (.iadd, 1) := by decide +kernel
theorem dL_law_393 : decode cL_law 393 = .ok (.iaload, 1) := by decide +kernel
theorem dL_law_394 : decode cL_law 394 = .ok (.aload_n 0, 1) := by decide +kernel
theorem dL_law_395 : decode cL_law 395 = .ok (.iload 4, 2) := by decide +kernel
theorem dL_law_397 : decode cL_law 397 = .ok (.iconst 2, 1) := by decide +kernel
theorem dL_law_398 : decode cL_law 398 = .ok (.iadd, 1) := by decide +kernel
theorem dL_law_399 : decode cL_law 399 = .ok (.iaload, 1) := by decide +kernel
theorem dL_law_400 : decode cL_law 400 = .ok (.invokevirtual 116, 3) := by decide +kernel
theorem dL_law_403 : decode cL_law 403 = .ok (.istore 6, 2) := by decide +kernel
theorem dL_law_405 : decode cL_law 405 = .ok (.aload_n 2, 1) := by decide +kernel
theorem dL_law_406 : decode cL_law 406 = .ok (.invokevirtual 104, 3) := by decide +kernel
theorem dL_law_409 : decode cL_law 409 = .ok (.iload 5, 2) := by decide +kernel
theorem dL_law_411 : decode cL_law 411 = .ok (.if_icmp .eq 5, 3) := by decide +kernel
theorem dL_law_414 : decode cL_law 414 = .ok (.iconst 0, 1) := by decide +kernel
theorem dL_law_415 : decode cL_law 415 = .ok (.ireturn, 1) := by decide +kernel
theorem dL_law_416 : decode cL_law 416 = .ok (.iload 5, 2) := by decide +kernel
theorem dL_law_418 : decode cL_law 418 = .ok (.ifCond .ne 15, 3) := by decide +kernel
theorem dL_law_421 : decode cL_law 421 = .ok (.aload_n 3, 1) := by decide +kernel
theorem dL_law_422 : decode cL_law 422 = .ok (.iconst 0, 1) := by decide +kernel
theorem dL_law_423 : decode cL_law 423 = .ok (.laload, 1) := by decide +kernel
theorem dL_law_424 : decode cL_law 424 = .ok (.iload 6, 2) := by decide +kernel
theorem dL_law_426 : decode cL_law 426 = .ok (.i2l, 1) := by decide +kernel
theorem dL_law_427 : decode cL_law 427 = .ok (.lcmp, 1) := by decide +kernel
theorem dL_law_428 : decode cL_law 428 = .ok (.ifCond .eq 5, 3) := by decide +kernel
theorem dL_law_431 : decode cL_law 431 = .ok (.iconst 0, 1) := by decide +kernel
theorem dL_law_432 : decode cL_law 432 = .ok (.ireturn, 1) := by decide +kernel
theorem dL_law_433 : decode cL_law 433 = .ok (.goto 1418, 3) := by decide +kernel
theorem dL_law_436 : decode cL_law 436 = .ok (.aload_n 1, 1) := by decide +kernel
theorem dL_law_437 : decode cL_law 437 = .ok (.aload_n 0, 1) := by decide +kernel
theorem dL_law_438 : decode cL_law 438 = .ok (.iload 4, 2) := by decide +kernel
theorem dL_law_440 : decode cL_law 440 = .ok (.iconst 1, 1) := by decide +kernel
theorem dL_law_441 : decode cL_law 441 = .ok (.iadd, 1) := by decide +kernel
theorem dL_law_442 : decode cL_law 442 = .ok (.iaload, 1) := by decide +kernel
theorem dL_law_443 : decode cL_law 443 = .ok (.aload_n 0, 1) := by decide +kernel
theorem dL_law_444 : decode cL_law 444 = .ok (.iload 4, 2) := by decide +kernel
theorem dL_law_446 : decode cL_law 446 = .ok (.iconst 2, 1) := by decide +kernel
theorem dL_law_447 : decode cL_law 447 = .ok (.iadd, 1) := by decide +kernel
theorem dL_law_448 : decode cL_law 448 = .ok (.iaload, 1) := by decide +kernel
theorem dL_law_449 : decode cL_law 449 = .ok (.aload_n 3, 1) := by decide +kernel
theorem dL_law_450 : decode cL_law 450 = .ok (.invokestatic 117, 3) := by decide +kernel
theorem dL_law_453 : decode cL_law 453 = .ok (.istore 5, 2) := by decide +kernel
theorem dL_law_455 : decode cL_law 455 = .ok (.aload_n 2, 1) := by decide +kernel
theorem dL_law_456 : decode cL_law 456 = .ok (.aload_n 0, 1) := by decide +kernel
theorem dL_law_457 : decode cL_law 457 = .ok (.iload 4, 2) := by decide +kernel
theorem dL_law_459 : decode cL_law 459 = .ok (.iconst 1, 1) := by decide +kernel
theorem dL_law_460 : decode cL_law 460 = .ok (.iadd, 1) := by decide +kernel
theorem dL_law_461 : decode cL_law 461 = .ok (.iaload, 1) := by decide +kernel
theorem dL_law_462 : decode cL_law 462 = .ok (.aload_n 0, 1) := by decide +kernel
theorem dL_law_463 : decode cL_law 463 = .ok (.iload 4, 2) := by decide +kernel
theorem dL_law_465 : decode cL_law 465 = .ok (.iconst 2, 1) := by decide +kernel
theorem dL_law_466 : decode cL_law 466 = .ok (.iadd, 1) := by decide +kernel
theorem dL_law_467 : decode cL_law 467 = .ok (.iaload, 1) := by decide +kernel
theorem dL_law_468 : decode cL_law 468 = .ok (.invokevirtual 119, 3) := by decide +kernel
theorem dL_law_471 : decode cL_law 471 = .ok (.istore 6, 2) := by decide +kernel
theorem dL_law_473 : decode cL_law 473 = .ok (.aload_n 2, 1) := by decide +kernel
theorem dL_law_474 : decode cL_law 474 = .ok (.invokevirtual 104, 3) := by decide +kernel
theorem dL_law_477 : decode cL_law 477 = .ok (.iload 5, 2) := by decide +kernel
theorem dL_law_479 : decode cL_law 479 = .ok (.if_icmp .eq 5, 3) := by decide +kernel
theorem dL_law_482 : decode cL_law 482 = .ok (.iconst 0, 1) := by decide +kernel
theorem dL_law_483 : decode cL_law 483 = .ok (.ireturn, 1) := by decide +kernel
theorem dL_law_484 : decode cL_law 484 = .ok (.iload 5, 2) := by decide +kernel
theorem dL_law_486 : decode cL_law 486 = .ok (.ifCond .ne 15, 3) := by decide +kernel
theorem dL_law_489 : decode cL_law 489 = .ok (.aload_n 3, 1) := by decide +kernel
theorem dL_law_490 : decode cL_law 490 = .ok (.iconst 0, 1) := by decide +kernel
theorem dL_law_491 : decode cL_law 491 = .ok (.laload, 1) := by decide +kernel
theorem dL_law_492 : decode cL_law 492 = .ok (.iload 6, 2) := by decide +kernel
theorem dL_law_494 : decode cL_law 494 = .ok (.i2l, 1) := by decide +kernel
theorem dL_law_495 : decode cL_law 495 = .ok (.lcmp, 1) := by decide +kernel
theorem dL_law_496 : decode cL_law 496 = .ok (.ifCond .eq 5, 3) := by decide +kernel
theorem dL_law_499 : decode cL_law 499 = .ok (.iconst 0, 1) := by decide +kernel
theorem dL_law_500 : decode cL_law 500 = .ok (.ireturn, 1) := by decide +kernel
theorem dL_law_501 : decode cL_law 501 = .ok (.goto 1350, 3) := by decide +kernel
theorem dL_law_504 : decode cL_law 504 = .ok (.aload_n 1, 1) := by decide +kernel
theorem dL_law_505 : decode cL_law 505 = .ok (.aload_n 0, 1) := by decide +kernel
theorem dL_law_506 : decode cL_law 506 = .ok (.iload 4, 2) := by decide +kernel
theorem dL_law_508 : decode cL_law 508 = .ok (.iconst 1, 1) := by decide +kernel
theorem dL_law_509 : decode cL_law 509 = .ok (.iadd, 1) := by decide +kernel
theorem dL_law_510 : decode cL_law 510 = .ok (.iaload, 1) := by decide +kernel
theorem dL_law_511 : decode cL_law 511 = .ok (.aload_n 0, 1) := by decide +kernel
theorem dL_law_512 : decode cL_law 512 = .ok (.iload 4, 2) := by decide +kernel
theorem dL_law_514 : decode cL_law 514 = .ok (.iconst 2, 1) := by decide +kernel
theorem dL_law_515 : decode cL_law 515 = .ok (.iadd, 1) := by decide +kernel
theorem dL_law_516 : decode cL_law 516 = .ok (.iaload, 1) := by decide +kernel
theorem dL_law_517 : decode cL_law 517 = .ok (.aload_n 3, 1) := by decide +kernel
theorem dL_law_518 : decode cL_law 518 = .ok (.invokestatic 120, 3) := by decide +kernel
theorem dL_law_521 : decode cL_law 521 = .ok (.istore 5, 2) := by decide +kernel
theorem dL_law_523 : decode cL_law 523 = .ok (.aload_n 2, 1) := by decide +kernel
theorem dL_law_524 : decode cL_law 524 = .ok (.aload_n 0, 1) := by decide +kernel
theorem dL_law_525 : decode cL_law 525 = .ok (.iload 4, 2) := by decide +kernel
theorem dL_law_527 : decode cL_law 527 = .ok (.iconst 1, 1) := by decide +kernel
theorem dL_law_528 : decode cL_law 528 = .ok (.iadd, 1) := by decide +kernel
theorem dL_law_529 : decode cL_law 529 = .ok (.iaload, 1) := by decide +kernel
theorem dL_law_530 : decode cL_law 530 = .ok (.aload_n 0, 1) := by decide +kernel
theorem dL_law_531 : decode cL_law 531 = .ok (.iload 4, 2) := by decide +kernel
theorem dL_law_533 : decode cL_law 533 = .ok (.iconst 2, 1) := by decide +kernel
theorem dL_law_534 : decode cL_law 534 = .ok (.iadd, 1) := by decide +kernel
theorem dL_law_535 : decode cL_law 535 = .ok (.iaload, 1) := by decide +kernel
theorem dL_law_536 : decode cL_law 536 = .ok (.invokevirtual 122, 3) := by decide +kernel
theorem dL_law_539 : decode cL_law 539 = .ok (.istore 6, 2) := by decide +kernel
theorem dL_law_541 : decode cL_law 541 = .ok (.aload_n 2, 1) := by decide +kernel
theorem dL_law_542 : decode cL_law 542 = .ok (.invokevirtual 104, 3) := by decide +kernel
theorem dL_law_545 : decode cL_law 545 = .ok (.iload 5, 2) := by decide +kernel
theorem dL_law_547 : decode cL_law 547 = .ok (.if_icmp .eq 5, 3) := by decide +kernel
theorem dL_law_550 : decode cL_law 550 = .ok (.iconst 0, 1) := by decide +kernel
theorem dL_law_551 : decode cL_law 551 = .ok (.ireturn, 1) := by decide +kernel
theorem dL_law_552 : decode cL_law 552 = .ok (.iload 5, 2) := by decide +kernel
theorem dL_law_554 : decode cL_law 554 = .ok (.ifCond .ne 15, 3) := by decide +kernel
theorem dL_law_557 : decode cL_law 557 = .ok (.aload_n 3, 1) := by decide +kernel
theorem dL_law_558 : decode cL_law 558 = .ok (.iconst 0, 1) := by decide +kernel
theorem dL_law_559 : decode cL_law 559 = .ok (.laload, 1) := by decide +kernel
theorem dL_law_560 : decode cL_law 560 = .ok (.iload 6, 2) := by decide +kernel
theorem dL_law_562 : decode cL_law 562 = .ok (.i2l, 1) := by decide +kernel
theorem dL_law_563 : decode cL_law 563 = .ok (.lcmp, 1) := by decide +kernel
theorem dL_law_564 : decode cL_law 564 = .ok (.ifCond .eq 5, 3) := by decide +kernel
theorem dL_law_567 : decode cL_law 567 = .ok (.iconst 0, 1) := by decide +kernel
theorem dL_law_568 : decode cL_law 568 = .ok (.ireturn, 1) := by decide +kernel
theorem dL_law_569 : decode cL_law 569 = .ok (.goto 1282, 3) := by decide +kernel
theorem dL_law_572 : decode cL_law 572 = .ok (.aload_n 1, 1) := by decide +kernel
theorem dL_law_573 : decode cL_law 573 = .ok (.aload_n 0, 1) := by decide +kernel
theorem dL_law_574 : decode cL_law 574 = .ok (.iload 4, 2) := by decide +kernel
theorem dL_law_576 : decode cL_law 576 = .ok (.iconst 1, 1) := by decide +kernel
theorem dL_law_577 : decode cL_law 577 = .ok (.iadd, 1) := by decide +kernel
theorem dL_law_578 : decode cL_law 578 = .ok (.iaload, 1) := by decide +kernel
theorem dL_law_579 : decode cL_law 579 = .ok (.aload_n 0, 1) := by decide +kernel
theorem dL_law_580 : decode cL_law 580 = .ok (.iload 4, 2) := by decide +kernel
theorem dL_law_582 : decode cL_law 582 = .ok (.iconst 2, 1) := by decide +kernel
theorem dL_law_583 : decode cL_law 583 = .ok (.iadd, 1) := by decide +kernel
theorem dL_law_584 : decode cL_law 584 = .ok (.iaload, 1) := by decide +kernel
theorem dL_law_585 : decode cL_law 585 = .ok (.aload_n 0, 1) := by decide +kernel
theorem dL_law_586 : decode cL_law 586 = .ok (.iload 4, 2) := by decide +kernel
theorem dL_law_588 : decode cL_law 588 = .ok (.iconst 3, 1) := by decide +kernel
theorem dL_law_589 : decode cL_law 589 = .ok (.iadd, 1) := by decide +kernel
theorem dL_law_590 : decode cL_law 590 = .ok (.iaload, 1) := by decide +kernel
theorem dL_law_591 : decode cL_law 591 = .ok (.aload_n 3, 1) := by decide +kernel
theorem dL_law_592 : decode cL_law 592 = .ok (.invokestatic 123, 3) := by decide +kernel
theorem dL_law_595 : decode cL_law 595 = .ok (.istore 5, 2) := by decide +kernel
theorem dL_law_597 : decode cL_law 597 = .ok (.aload_n 2, 1) := by decide +kernel
theorem dL_law_598 : decode cL_law 598 = .ok (.aload_n 0, 1) := by decide +kernel
theorem dL_law_599 : decode cL_law 599 = .ok (.iload 4, 2) := by decide +kernel
theorem dL_law_601 : decode cL_law 601 = .ok (.iconst 1, 1) := by decide +kernel
theorem dL_law_602 : decode cL_law 602 = .ok (.iadd, 1) := by decide +kernel
theorem dL_law_603 : decode cL_law 603 = .ok (.iaload, 1) := by decide +kernel
theorem dL_law_604 : decode cL_law 604 = .ok (.aload_n 0, 1) := by decide +kernel
theorem dL_law_605 : decode cL_law 605 = .ok (.iload 4, 2) := by decide +kernel
theorem dL_law_607 : decode cL_law 607 = .ok (.iconst 2, 1) := by decide +kernel
theorem dL_law_608 : decode cL_law 608 = .ok (.iadd, 1) := by decide +kernel
theorem dL_law_609 : decode cL_law 609 = .ok (.iaload, 1) := by decide +kernel
theorem dL_law_610 : decode cL_law 610 = .ok (.aload_n 0, 1) := by decide +kernel
theorem dL_law_611 : decode cL_law 611 = .ok (.iload 4, 2) := by decide +kernel
theorem dL_law_613 : decode cL_law 613 = .ok (.iconst 3, 1) := by decide +kernel
theorem dL_law_614 : decode cL_law 614 = .ok (.iadd, 1) := by decide +kernel
theorem dL_law_615 : decode cL_law 615 = .ok (.iaload, 1) := by decide +kernel
theorem dL_law_616 : decode cL_law 616 = .ok (.invokevirtual 126, 3) := by decide +kernel
theorem dL_law_619 : decode cL_law 619 = .ok (.istore 6, 2) := by decide +kernel
theorem dL_law_621 : decode cL_law 621 = .ok (.aload_n 2, 1) := by decide +kernel
theorem dL_law_622 : decode cL_law 622 = .ok (.invokevirtual 104, 3) := by decide +kernel
theorem dL_law_625 : decode cL_law 625 = .ok (.iload 5, 2) := by decide +kernel
theorem dL_law_627 : decode cL_law 627 = .ok (.if_icmp .eq 5, 3) := by decide +kernel
theorem dL_law_630 : decode cL_law 630 = .ok (.iconst 0, 1) := by decide +kernel
theorem dL_law_631 : decode cL_law 631 = .ok (.ireturn, 1) := by decide +kernel
theorem dL_law_632 : decode cL_law 632 = .ok (.iload 5, 2) := by decide +kernel
theorem dL_law_634 : decode cL_law 634 = .ok (.ifCond .ne 15, 3) := by decide +kernel
theorem dL_law_637 : decode cL_law 637 = .ok (.aload_n 3, 1) := by decide +kernel
theorem dL_law_638 : decode cL_law 638 = .ok (.iconst 0, 1) := by decide +kernel
theorem dL_law_639 : decode cL_law 639 = .ok (.laload, 1) := by decide +kernel
theorem dL_law_640 : decode cL_law 640 = .ok (.iload 6, 2) := by decide +kernel
theorem dL_law_642 : decode cL_law 642 = .ok (.i2l, 1) := by decide +kernel
theorem dL_law_643 : decode cL_law 643 = .ok (.lcmp, 1) := by decide +kernel
theorem dL_law_644 : decode cL_law 644 = .ok (.ifCond .eq 5, 3) := by decide +kernel
theorem dL_law_647 : decode cL_law 647 = .ok (.iconst 0, 1) := by decide +kernel
theorem dL_law_648 : decode cL_law 648 = .ok (.ireturn, 1) := by decide +kernel
theorem dL_law_649 : decode cL_law 649 = .ok (.goto 1202, 3) := by decide +kernel
theorem dL_law_652 : decode cL_law 652 = .ok (.aload_n 1, 1) := by decide +kernel
theorem dL_law_653 : decode cL_law 653 = .ok (.aload_n 0, 1) := by decide +kernel
theorem dL_law_654 : decode cL_law 654 = .ok (.iload 4, 2) := by decide +kernel
theorem dL_law_656 : decode cL_law 656 = .ok (.iconst 1, 1) := by decide +kernel
theorem dL_law_657 : decode cL_law 657 = .ok (.iadd, 1) := by decide +kernel
theorem dL_law_658 : decode cL_law 658 = .ok (.iaload, 1) := by decide +kernel
theorem dL_law_659 : decode cL_law 659 = .ok (.aload_n 3, 1) := by decide +kernel
theorem dL_law_660 : decode cL_law 660 = .ok (.invokestatic 127, 3) := by decide +kernel
theorem dL_law_663 : decode cL_law 663 = .ok (.istore 5, 2) := by decide +kernel
theorem dL_law_665 : decode cL_law 665 = .ok (.aload_n 2, 1) := by decide +kernel
theorem dL_law_666 : decode cL_law 666 = .ok (.aload_n 0, 1) := by decide +kernel
theorem dL_law_667 : decode cL_law 667 = .ok (.iload 4, 2) := by decide +kernel
theorem dL_law_669 : decode cL_law 669 = .ok (.iconst 1, 1) := by decide +kernel
theorem dL_law_670 : decode cL_law 670 = .ok (.iadd, 1) := by decide +kernel
theorem dL_law_671 : decode cL_law 671 = .ok (.iaload, 1) := by decide +kernel
theorem dL_law_672 : decode cL_law 672 = .ok (.invokevirtual 129, 3) := by decide +kernel
theorem dL_law_675 : decode cL_law 675 = .ok (.istore 6, 2) := by decide +kernel
theorem dL_law_677 : decode cL_law 677 = .ok (.aload_n 2, 1) := by decide +kernel
theorem dL_law_678 : decode cL_law 678 = .ok (.invokevirtual 104, 3) := by decide +kernel
theorem dL_law_681 : decode cL_law 681 = .ok (.iload 5, 2) := by decide +kernel
theorem dL_law_683 : decode cL_law 683 = .ok (.if_icmp .eq 5, 3) := by decide +kernel
theorem dL_law_686 : decode cL_law 686 = .ok (.iconst 0, 1) := by decide +kernel
theorem dL_law_687 : decode cL_law 687 = .ok (.ireturn, 1) := by decide +kernel
theorem dL_law_688 : decode cL_law 688 = .ok (.iload 5, 2) := by decide +kernel
theorem dL_law_690 : decode cL_law 690 = .ok (.ifCond .ne 15, 3) := by decide +kernel
theorem dL_law_693 : decode cL_law 693 = .ok (.aload_n 3, 1) := by decide +kernel
theorem dL_law_694 : decode cL_law 694 = .ok (.iconst 0, 1) := by decide +kernel
theorem dL_law_695 : decode cL_law 695 = .ok (.laload, 1) := by decide +kernel
theorem dL_law_696 : decode cL_law 696 = .ok (.iload 6, 2) := by decide +kernel
theorem dL_law_698 : decode cL_law 698 = .ok (.i2l, 1) := by decide +kernel
theorem dL_law_699 : decode cL_law 699 = .ok (.lcmp, 1) := by decide +kernel
theorem dL_law_700 : decode cL_law 700 = .ok (.ifCond .eq 5, 3) := by decide +kernel
theorem dL_law_703 : decode cL_law 703 = .ok (.iconst 0, 1) := by decide +kernel
theorem dL_law_704 : decode cL_law 704 = .ok (.ireturn, 1) := by decide +kernel
theorem dL_law_705 : decode cL_law 705 = .ok (.goto 1146, 3) := by decide +kernel
theorem dL_law_708 : decode cL_law 708 = .ok (.aload_n 1, 1) := by decide +kernel
theorem dL_law_709 : decode cL_law 709 = .ok (.aload_n 0, 1) := by decide +kernel
theorem dL_law_710 : decode cL_law 710 = .ok (.iload 4, 2) := by decide +kernel
theorem dL_law_712 : decode cL_law 712 = .ok (.iconst 1, 1) := by decide +kernel
theorem dL_law_713 : decode cL_law 713 = .ok (.iadd, 1) := by decide +kernel
theorem dL_law_714 : decode cL_law 714 = .ok (.iaload, 1) := by decide +kernel
theorem dL_law_715 : decode cL_law 715 = .ok (.aload_n 0, 1) := by decide +kernel
theorem dL_law_716 : decode cL_law 716 = .ok (.iload 4, 2) := by decide +kernel
theorem dL_law_718 : decode cL_law 718 = .ok (.iconst 2, 1) := by decide +kernel
theorem dL_law_719 : decode cL_law 719 = .ok (.iadd, 1) := by decide +kernel
theorem dL_law_720 : decode cL_law 720 = .ok (.iaload, 1) := by decide +kernel
theorem dL_law_721 : decode cL_law 721 = .ok (.aload_n 3, 1) := by decide +kernel
theorem dL_law_722 : decode cL_law 722 = .ok (.invokestatic 130, 3) := by decide +kernel
theorem dL_law_725 : decode cL_law 725 = .ok (.istore 5, 2) := by decide +kernel
theorem dL_law_727 : decode cL_law 727 = .ok (.aload_n 2, 1) := by decide +kernel
theorem dL_law_728 : decode cL_law 728 = .ok (.aload_n 0, 1) := by decide +kernel
theorem dL_law_729 : decode cL_law 729 = .ok (.iload 4, 2) := by decide +kernel
theorem dL_law_731 : decode cL_law 731 = .ok (.iconst 1, 1) := by decide +kernel
theorem dL_law_732 : decode cL_law 732 = .ok (.iadd, 1) := by decide +kernel
theorem dL_law_733 : decode cL_law 733 = .ok (.iaload, 1) := by decide +kernel
theorem dL_law_734 : decode cL_law 734 = .ok (.aload_n 0, 1) := by decide +kernel
theorem dL_law_735 : decode cL_law 735 = .ok (.iload 4, 2) := by decide +kernel
theorem dL_law_737 : decode cL_law 737 = .ok (.iconst 2, 1) := by decide +kernel
theorem dL_law_738 : decode cL_law 738 = .ok (.iadd, 1) := by decide +kernel
theorem dL_law_739 : decode cL_law 739 = .ok (.iaload, 1) := by decide +kernel
theorem dL_law_740 : decode cL_law 740 = .ok (.invokevirtual 132, 3) := by decide +kernel
theorem dL_law_743 : decode cL_law 743 = .ok (.istore 6, 2) := by decide +kernel
theorem dL_law_745 : decode cL_law 745 = .ok (.aload_n 2, 1) := by decide +kernel
theorem dL_law_746 : decode cL_law 746 = .ok (.invokevirtual 104, 3) := by decide +kernel
theorem dL_law_749 : decode cL_law 749 = .ok (.iload 5, 2) := by decide +kernel
theorem dL_law_751 : decode cL_law 751 = .ok (.if_icmp .eq 5, 3) := by decide +kernel
theorem dL_law_754 : decode cL_law 754 = .ok (.iconst 0, 1) := by decide +kernel
theorem dL_law_755 : decode cL_law 755 = .ok (.ireturn, 1) := by decide +kernel
theorem dL_law_756 : decode cL_law 756 = .ok (.iload 5, 2) := by decide +kernel
theorem dL_law_758 : decode cL_law 758 = .ok (.ifCond .ne 15, 3) := by decide +kernel
theorem dL_law_761 : decode cL_law 761 = .ok (.aload_n 3, 1) := by decide +kernel
theorem dL_law_762 : decode cL_law 762 = .ok (.iconst 0, 1) := by decide +kernel
theorem dL_law_763 : decode cL_law 763 = .ok (.laload, 1) := by decide +kernel
theorem dL_law_764 : decode cL_law 764 = .ok (.iload 6, 2) := by decide +kernel
theorem dL_law_766 : decode cL_law 766 = .ok (.i2l, 1) := by decide +kernel
theorem dL_law_767 : decode cL_law 767 = .ok (.lcmp, 1) := by decide +kernel
theorem dL_law_768 : decode cL_law 768 = .ok (.ifCond .eq 5, 3) := by decide +kernel
theorem dL_law_771 : decode cL_law 771 = .ok (.iconst 0, 1) := by decide +kernel
theorem dL_law_772 : decode cL_law 772 = .ok (.ireturn, 1) := by decide +kernel
theorem dL_law_773 : decode cL_law 773 = .ok (.goto 1078, 3) := by decide +kernel
theorem dL_law_776 : decode cL_law 776 = .ok (.aload_n 1, 1) := by decide +kernel
theorem dL_law_777 : decode cL_law 777 = .ok (.invokevirtual 133, 3) := by decide +kernel
theorem dL_law_780 : decode cL_law 780 = .ok (.aload_n 2, 1) := by decide +kernel
theorem dL_law_781 : decode cL_law 781 = .ok (.invokevirtual 136, 3) := by decide +kernel
theorem dL_law_784 : decode cL_law 784 = .ok (.if_icmp .eq 1067, 3) := by decide +kernel
theorem dL_law_787 : decode cL_law 787 = .ok (.iconst 0, 1) := by decide +kernel
theorem dL_law_788 : decode cL_law 788 = .ok (.ireturn, 1) := by decide +kernel
theorem dL_law_789 : decode cL_law 789 = .ok (.aload_n 1, 1) := by decide +kernel
theorem dL_law_790 : decode cL_law 790 = .ok (.aload_n 0, 1) := by decide +kernel
theorem dL_law_791 : decode cL_law 791 = .ok (.iload 4, 2) := by decide +kernel
theorem dL_law_793 : decode cL_law 793 = .ok (.iconst 1, 1) := by decide +kernel
theorem dL_law_794 : decode cL_law 794 = .ok (.iadd, 1) := by decide +kernel
theorem dL_law_795 : decode cL_law 795 = .ok (.iaload, 1) := by decide +kernel
theorem dL_law_796 : decode cL_law 796 = .ok (.aload_n 3, 1) := by decide +kernel
theorem dL_law_797 : decode cL_law 797 = .ok (.invokestatic 137, 3) := by decide +kernel
theorem dL_law_800 : decode cL_law 800 = .ok (.istore 5, 2) := by decide +kernel
theorem dL_law_802 : decode cL_law 802 = .ok (.aload_n 2, 1) := by decide +kernel
theorem dL_law_803 : decode cL_law 803 = .ok (.aload_n 0, 1) := by decide +kernel
theorem dL_law_804 : decode cL_law 804 = .ok (.iload 4, 2) := by decide +kernel
theorem dL_law_806 : decode cL_law 806 = .ok (.iconst 1, 1) := by decide +kernel
theorem dL_law_807 : decode cL_law 807 = .ok (.iadd, 1) := by decide +kernel
theorem dL_law_808 : decode cL_law 808 = .ok (.iaload, 1) := by decide +kernel
theorem dL_law_809 : decode cL_law 809 = .ok (.invokevirtual 139, 3) := by decide +kernel
theorem dL_law_812 : decode cL_law 812 = .ok (.istore 6, 2) := by decide +kernel
theorem dL_law_814 : decode cL_law 814 = .ok (.aload_n 2, 1) := by decide +kernel
theorem dL_law_815 : decode cL_law 815 = .ok (.invokevirtual 104, 3) := by decide +kernel
theorem dL_law_818 : decode cL_law 818 = .ok (.iload 5, 2) := by decide +kernel
theorem dL_law_820 : decode cL_law 820 = .ok (.if_icmp .eq 5, 3) := by decide +kernel
theorem dL_law_823 : decode cL_law 823 = .ok (.iconst 0, 1) := by decide +kernel
theorem dL_law_824 : decode cL_law 824 = .ok (.ireturn, 1) := by decide +kernel
theorem dL_law_825 : decode cL_law 825 = .ok (.iload 5, 2) := by decide +kernel
theorem dL_law_827 : decode cL_law 827 = .ok (.ifCond .ne 15, 3) := by decide +kernel
theorem dL_law_830 : decode cL_law 830 = .ok (.aload_n 3, 1) := by decide +kernel
theorem dL_law_831 : decode cL_law 831 = .ok (.iconst 0, 1) := by decide +kernel
theorem dL_law_832 : decode cL_law 832 = .ok (.laload, 1) := by decide +kernel
theorem dL_law_833 : decode cL_law 833 = .ok (.iload 6, 2) := by decide +kernel
theorem dL_law_835 : decode cL_law 835 = .ok (.i2l, 1) := by decide +kernel
theorem dL_law_836 : decode cL_law 836 = .ok (.lcmp, 1) := by decide +kernel
theorem dL_law_837 : decode cL_law 837 = .ok (.ifCond .eq 5, 3) := by decide +kernel
theorem dL_law_840 : decode cL_law 840 = .ok (.iconst 0, 1) := by decide +kernel
theorem dL_law_841 : decode cL_law 841 = .ok (.ireturn, 1) := by decide +kernel
theorem dL_law_842 : decode cL_law 842 = .ok (.goto 1009, 3) := by decide +kernel
theorem dL_law_845 : decode cL_law 845 = .ok (.aload_n 1, 1) := by decide +kernel
theorem dL_law_846 : decode cL_law 846 = .ok (.invokevirtual 140, 3) := by decide +kernel
theorem dL_law_849 : decode cL_law 849 = .ok (.aload_n 2, 1) := by decide +kernel
theorem dL_law_850 : decode cL_law 850 = .ok (.invokevirtual 143, 3) := by decide +kernel
theorem dL_law_853 : decode cL_law 853 = .ok (.if_icmp .eq 998, 3) := by decide +kernel
theorem dL_law_856 : decode cL_law 856 = .ok (.iconst 0, 1) := by decide +kernel
theorem dL_law_857 : decode cL_law 857 = .ok (.ireturn, 1) := by decide +kernel
theorem dL_law_858 : decode cL_law 858 = .ok (.aload_n 1, 1) := by decide +kernel
theorem dL_law_859 : decode cL_law 859 = .ok (.invokevirtual 144, 3) := by decide +kernel
theorem dL_law_862 : decode cL_law 862 = .ok (.aload_n 2, 1) := by decide +kernel
theorem dL_law_863 : decode cL_law 863 = .ok (.invokevirtual 147, 3) := by decide +kernel
theorem dL_law_866 : decode cL_law 866 = .ok (.if_icmp .eq 985, 3) := by decide +kernel
theorem dL_law_869 : decode cL_law 869 = .ok (.iconst 0, 1) := by decide +kernel
theorem dL_law_870 : decode cL_law 870 = .ok (.ireturn, 1) := by decide +kernel
theorem dL_law_871 : decode cL_law 871 = .ok (.aload_n 1, 1) := by decide +kernel
theorem dL_law_872 : decode cL_law 872 = .ok (.aload_n 3, 1) := by decide +kernel
theorem dL_law_873 : decode cL_law 873 = .ok (.invokestatic 148, 3) := by decide +kernel
theorem dL_law_876 : decode cL_law 876 = .ok (.istore 5, 2) := by decide +kernel
theorem dL_law_878 : decode cL_law 878 = .ok (.aload_n 2, 1) := by decide +kernel
theorem dL_law_879 : decode cL_law 879 = .ok (.invokevirtual 151, 3) := by decide +kernel
theorem dL_law_882 : decode cL_law 882 = .ok (.istore 6, 2) := by decide +kernel
theorem dL_law_884 : decode cL_law 884 = .ok (.aload_n 2, 1) := by decide +kernel
theorem dL_law_885 : decode cL_law 885 = .ok (.invokevirtual 104, 3) := by decide +kernel
theorem dL_law_888 : decode cL_law 888 = .ok (.iload 5, 2) := by decide +kernel
theorem dL_law_890 : decode cL_law 890 = .ok (.if_icmp .eq 5, 3) := by decide +kernel
theorem dL_law_893 : decode cL_law 893 = .ok (.iconst 0, 1) := by decide +kernel
theorem dL_law_894 : decode cL_law 894 = .ok (.ireturn, 1) := by decide +kernel
theorem dL_law_895 : decode cL_law 895 = .ok (.iload 5, 2) := by decide +kernel
theorem dL_law_897 : decode cL_law 897 = .ok (.ifCond .ne 15, 3) := by decide +kernel
theorem dL_law_900 : decode cL_law 900 = .ok (.aload_n 3, 1) := by decide +kernel
theorem dL_law_901 : decode cL_law 901 = .ok (.iconst 0, 1) := by decide +kernel
theorem dL_law_902 : decode cL_law 902 = .ok (.laload, 1) := by decide +kernel
theorem dL_law_903 : decode cL_law 903 = .ok (.iload 6, 2) := by decide +kernel
theorem dL_law_905 : decode cL_law 905 = .ok (.i2l, 1) := by decide +kernel
theorem dL_law_906 : decode cL_law 906 = .ok (.lcmp, 1) := by decide +kernel
theorem dL_law_907 : decode cL_law 907 = .ok (.ifCond .eq 5, 3) := by decide +kernel
theorem dL_law_910 : decode cL_law 910 = .ok (.iconst 0, 1) := by decide +kernel
theorem dL_law_911 : decode cL_law 911 = .ok (.ireturn, 1) := by decide +kernel
theorem dL_law_912 : decode cL_law 912 = .ok (.goto 939, 3) := by decide +kernel
theorem dL_law_915 : decode cL_law 915 = .ok (.aload_n 1, 1) := by decide +kernel
theorem dL_law_916 : decode cL_law 916 = .ok (.aload_n 0, 1) := by decide +kernel
theorem dL_law_917 : decode cL_law 917 = .ok (.iload 4, 2) := by decide +kernel
theorem dL_law_919 : decode cL_law 919 = .ok (.iconst 1, 1) := by decide +kernel
theorem dL_law_920 : decode cL_law 920 = .ok (.iadd, 1) := by decide +kernel
theorem dL_law_921 : decode cL_law 921 = .ok (.iaload, 1) := by decide +kernel
theorem dL_law_922 : decode cL_law 922 = .ok (.aload_n 0, 1) := by decide +kernel
theorem dL_law_923 : decode cL_law 923 = .ok (.iload 4, 2) := by decide +kernel
theorem dL_law_925 : decode cL_law 925 = .ok (.iconst 2, 1) := by decide +kernel
theorem dL_law_926 : decode cL_law 926 = .ok (.iadd, 1) := by decide +kernel
theorem dL_law_927 : decode cL_law 927 = .ok (.iaload, 1) := by decide +kernel
theorem dL_law_928 : decode cL_law 928 = .ok (.aload_n 3, 1) := by decide +kernel
theorem dL_law_929 : decode cL_law 929 = .ok (.invokestatic 152, 3) := by decide +kernel
theorem dL_law_932 : decode cL_law 932 = .ok (.istore 5, 2) := by decide +kernel
theorem dL_law_934 : decode cL_law 934 = .ok (.aload_n 2, 1) := by decide +kernel
theorem dL_law_935 : decode cL_law 935 = .ok (.aload_n 0, 1) := by decide +kernel
theorem dL_law_936 : decode cL_law 936 = .ok (.iload 4, 2) := by decide +kernel
theorem dL_law_938 : decode cL_law 938 = .ok (.iconst 1, 1) := by decide +kernel
theorem dL_law_939 : decode cL_law 939 = .ok (.iadd, 1) := by decide +kernel
theorem dL_law_940 : decode cL_law 940 = .ok (.iaload, 1) := by decide +kernel
theorem dL_law_941 : decode cL_law 941 = .ok (.aload_n 0, 1) := by decide +kernel
theorem dL_law_942 : decode cL_law 942 = .ok (.iload 4, 2) := by decide +kernel
theorem dL_law_944 : decode cL_law 944 = .ok (.iconst 2, 1) := by decide +kernel
theorem dL_law_945 : decode cL_law 945 = .ok (.iadd, 1) := by decide +kernel
theorem dL_law_946 : decode cL_law 946 = .ok (.iaload, 1) := by decide +kernel
theorem dL_law_947 : decode cL_law 947 = .ok (.invokevirtual 154, 3) := by decide +kernel
theorem dL_law_950 : decode cL_law 950 = .ok (.istore 6, 2) := by decide +kernel
theorem dL_law_952 : decode cL_law 952 = .ok (.aload_n 2, 1) := by decide +kernel
theorem dL_law_953 : decode cL_law 953 = .ok (.invokevirtual 104, 3) := by decide +kernel
theorem dL_law_956 : decode cL_law 956 = .ok (.iload 5, 2) := by decide +kernel
theorem dL_law_958 : decode cL_law 958 = .ok (.if_icmp .eq 5, 3) := by decide +kernel
theorem dL_law_961 : decode cL_law 961 = .ok (.iconst 0, 1) := by decide +kernel
theorem dL_law_962 : decode cL_law 962 = .ok (.ireturn, 1) := by decide +kernel
theorem dL_law_963 : decode cL_law 963 = .ok (.iload 5, 2) := by decide +kernel
theorem dL_law_965 : decode cL_law 965 = .ok (.ifCond .ne 15, 3) := by decide +kernel
theorem dL_law_968 : decode cL_law 968 = .ok (.aload_n 3, 1) := by decide +kernel
theorem dL_law_969 : decode cL_law 969 = .ok (.iconst 0, 1) := by decide +kernel
theorem dL_law_970 : decode cL_law 970 = .ok (.laload, 1) := by decide +kernel
theorem dL_law_971 : decode cL_law 971 = .ok (.iload 6, 2) := by decide +kernel
theorem dL_law_973 : decode cL_law 973 = .ok (.i2l, 1) := by decide +kernel
theorem dL_law_974 : decode cL_law 974 = .ok (.lcmp, 1) := by decide +kernel
theorem dL_law_975 : decode cL_law 975 = .ok (.ifCond .eq 5, 3) := by decide +kernel
theorem dL_law_978 : decode cL_law 978 = .ok (.iconst 0, 1) := by decide +kernel
theorem dL_law_979 : decode cL_law 979 = .ok (.ireturn, 1) := by decide +kernel
theorem dL_law_980 : decode cL_law 980 = .ok (.goto 871, 3) := by decide +kernel
theorem dL_law_983 : decode cL_law 983 = .ok (.aload_n 1, 1) := by decide +kernel
theorem dL_law_984 : decode cL_law 984 = .ok (.aload_n 3, 1) := by decide +kernel
theorem dL_law_985 : decode cL_law 985 = .ok (.invokestatic 155, 3) := by decide +kernel
theorem dL_law_988 : decode cL_law 988 = .ok (.istore 5, 2) := by decide +kernel
theorem dL_law_990 : decode cL_law 990 = .ok (.aload_n 2, 1) := by decide +kernel
theorem dL_law_991 : decode cL_law 991 = .ok (.invokevirtual 157, 3) := by decide +kernel
theorem dL_law_994 : decode cL_law 994 = .ok (.istore 6, 2) := by decide +kernel
theorem dL_law_996 : decode cL_law 996 = .ok (.aload_n 2, 1) := by decide +kernel
theorem dL_law_997 : decode cL_law 997 = .ok (.invokevirtual 104, 3) := by decide +kernel
theorem dL_law_1000 : decode cL_law 1000 = .ok (.iload 5, 2) := by decide +kernel
theorem dL_law_1002 : decode cL_law 1002 = .ok (.if_icmp .eq 5, 3) := by decide +kernel
theorem dL_law_1005 : decode cL_law 1005 = .ok (.iconst 0, 1) := by decide +kernel
theorem dL_law_1006 : decode cL_law 1006 = .ok (.ireturn, 1) := by decide +kernel
theorem dL_law_1007 : decode cL_law 1007 = .ok (.iload 5, 2) := by decide +kernel
theorem dL_law_1009 : decode cL_law 1009 = .ok (.ifCond .ne 15, 3) := by decide +kernel
theorem dL_law_1012 : decode cL_law 1012 = .ok (.aload_n 3, 1) := by decide +kernel
theorem dL_law_1013 : decode cL_law 1013 = .ok (.iconst 0, 1) := by decide +kernel
theorem dL_law_1014 : decode cL_law 1014 = .ok (.laload, 1) := by decide +kernel
theorem dL_law_1015 : decode cL_law 1015 = .ok (.iload 6, 2) := by decide +kernel
theorem dL_law_1017 : decode cL_law 1017 = .ok (.i2l, 1) := by decide +kernel
theorem dL_law_1018 : decode cL_law 1018 = .ok (.lcmp, 1) := by decide +kernel
theorem dL_law_1019 : decode cL_law 1019 = .ok (.ifCond .eq 5, 3) := by decide +kernel
theorem dL_law_1022 : decode cL_law 1022 = .ok (.iconst 0, 1) := by decide +kernel
theorem dL_law_1023 : decode cL_law 1023 = .ok (.ireturn, 1) := by decide +kernel
theorem dL_law_1024 : decode cL_law 1024 = .ok (.goto 827, 3) := by decide +kernel
theorem dL_law_1027 : decode cL_law 1027 = .ok (.aload_n 1, 1) := by decide +kernel
theorem dL_law_1028 : decode cL_law 1028 = .ok (.invokevirtual 158, 3) := by decide +kernel
theorem dL_law_1031 : decode cL_law 1031 = .ok (.aload_n 2, 1) := by decide +kernel
theorem dL_law_1032 : decode cL_law 1032 = .ok (.invokevirtual 161, 3) := by decide +kernel
theorem dL_law_1035 : decode cL_law 1035 = .ok (.if_icmp .eq 816, 3) := by decide +kernel
theorem dL_law_1038 : decode cL_law 1038 = .ok (.iconst 0, 1) := by decide +kernel
theorem dL_law_1039 : decode cL_law 1039 = .ok (.ireturn, 1) := by decide +kernel
theorem dL_law_1040 : decode cL_law 1040 = .ok (.aload_n 1, 1) := by decide +kernel
theorem dL_law_1041 : decode cL_law 1041 = .ok (.aload_n 3, 1) := by decide +kernel
theorem dL_law_1042 : decode cL_law 1042 = .ok (.invokestatic 162, 3) := by decide +kernel
theorem dL_law_1045 : decode cL_law 1045 = .ok (.istore 5, 2) := by decide +kernel
theorem dL_law_1047 : decode cL_law 1047 = .ok (.aload_n 2, 1) := by decide +kernel
theorem dL_law_1048 : decode cL_law 1048 = .ok (.invokevirtual 164, 3) := by decide +kernel
theorem dL_law_1051 : decode cL_law 1051 = .ok (.istore 6, 2) := by decide +kernel
theorem dL_law_1053 : decode cL_law 1053 = .ok (.aload_n 2, 1) := by decide +kernel
theorem dL_law_1054 : decode cL_law 1054 = .ok (.invokevirtual 104, 3) := by decide +kernel
theorem dL_law_1057 : decode cL_law 1057 = .ok (.iload 5, 2) := by decide +kernel
theorem dL_law_1059 : decode cL_law 1059 = .ok (.if_icmp .eq 5, 3) := by decide +kernel
theorem dL_law_1062 : decode cL_law 1062 = .ok (.iconst 0, 1) := by decide +kernel
theorem dL_law_1063 : decode cL_law 1063 = .ok (.ireturn, 1) := by decide +kernel
theorem dL_law_1064 : decode cL_law 1064 = .ok (.iload 5, 2) := by decide +kernel
theorem dL_law_1066 : decode cL_law 1066 = .ok (.ifCond .ne 15, 3) := by decide +kernel
theorem dL_law_1069 : decode cL_law 1069 = .ok (.aload_n 3, 1) := by decide +kernel
theorem dL_law_1070 : decode cL_law 1070 = .ok (.iconst 0, 1) := by decide +kernel
theorem dL_law_1071 : decode cL_law 1071 = .ok (.laload, 1) := by decide +kernel
theorem dL_law_1072 : decode cL_law 1072 = .ok (.iload 6, 2) := by decide +kernel
theorem dL_law_1074 : decode cL_law 1074 = .ok (.i2l, 1) := by decide +kernel
theorem dL_law_1075 : decode cL_law 1075 = .ok (.lcmp, 1) := by decide +kernel
theorem dL_law_1076 : decode cL_law 1076 = .ok (.ifCond .eq 5, 3) := by decide +kernel
theorem dL_law_1079 : decode cL_law 1079 = .ok (.iconst 0, 1) := by decide +kernel
theorem dL_law_1080 : decode cL_law 1080 = .ok (.ireturn, 1) := by decide +kernel
theorem dL_law_1081 : decode cL_law 1081 = .ok (.goto 770, 3) := by decide +kernel
theorem dL_law_1084 : decode cL_law 1084 = .ok (.aload_n 1, 1) := by decide +kernel
theorem dL_law_1085 : decode cL_law 1085 = .ok (.aload_n 0, 1) := by decide +kernel
theorem dL_law_1086 : decode cL_law 1086 = .ok (.iload 4, 2) := by decide +kernel
theorem dL_law_1088 : decode cL_law 1088 = .ok (.iconst 1, 1) := by decide +kernel
theorem dL_law_1089 : decode cL_law 1089 = .ok (.iadd, 1) := by decide +kernel
theorem dL_law_1090 : decode cL_law 1090 = .ok (.iaload, 1) := by decide +kernel
theorem dL_law_1091 : decode cL_law 1091 = .ok (.aload_n 0, 1) := by decide +kernel
theorem dL_law_1092 : decode cL_law 1092 = .ok (.iload 4, 2) := by decide +kernel
theorem dL_law_1094 : decode cL_law 1094 = .ok (.iconst 2, 1) := by decide +kernel
theorem dL_law_1095 : decode cL_law 1095 = .ok (.iadd, 1) := by decide +kernel
theorem dL_law_1096 : decode cL_law 1096 = .ok (.iaload, 1) := by decide +kernel
theorem dL_law_1097 : decode cL_law 1097 = .ok (.aload_n 3, 1) := by decide +kernel
theorem dL_law_1098 : decode cL_law 1098 = .ok (.invokestatic 165, 3) := by decide +kernel
theorem dL_law_1101 : decode cL_law 1101 = .ok (.istore 5, 2) := by decide +kernel
theorem dL_law_1103 : decode cL_law 1103 = .ok (.aload_n 2, 1) := by decide +kernel
theorem dL_law_1104 : decode cL_law 1104 = .ok (.aload_n 0, 1) := by decide +kernel
theorem dL_law_1105 : decode cL_law 1105 = .ok (.iload 4, 2) := by decide +kernel
theorem dL_law_1107 : decode cL_law 1107 = .ok (.iconst 1, 1) := by decide +kernel
theorem dL_law_1108 : decode cL_law 1108 = .ok (.iadd, 1) := by decide +kernel
theorem dL_law_1109 : decode cL_law 1109 = .ok (.iaload, 1) := by decide +kernel
theorem dL_law_1110 : decode cL_law 1110 = .ok (.aload_n 0, 1) := by decide +kernel
theorem dL_law_1111 : decode cL_law 1111 = .ok (.iload 4, 2) := by decide +kernel
theorem dL_law_1113 : decode cL_law 1113 = .ok (.iconst 2, 1) := by decide +kernel
theorem dL_law_1114 : decode cL_law 1114 = .ok (.iadd, 1) := by decide +kernel
theorem dL_law_1115 : decode cL_law 1115 = .ok (.iaload, 1) := by decide +kernel
theorem dL_law_1116 : decode cL_law 1116 = .ok (.invokevirtual 167, 3) := by decide +kernel
theorem dL_law_1119 : decode cL_law 1119 = .ok (.istore 6, 2) := by decide +kernel
theorem dL_law_1121 : decode cL_law 1121 = .ok (.aload_n 2, 1) := by decide +kernel
theorem dL_law_1122 : decode cL_law 1122 = .ok (.invokevirtual 104, 3) := by decide +kernel
theorem dL_law_1125 : decode cL_law 1125 = .ok (.iload 5, 2) := by decide +kernel
theorem dL_law_1127 : decode cL_law 1127 = .ok (.if_icmp .eq 5, 3) := by decide +kernel
theorem dL_law_1130 : decode cL_law 1130 = .ok (.iconst 0, 1) := by decide +kernel
theorem dL_law_1131 : decode cL_law 1131 = .ok (.ireturn, 1) := by decide +kernel
theorem dL_law_1132 : decode cL_law 1132 = .ok (.iload 5, 2) := by decide +kernel
theorem dL_law_1134 : decode cL_law 1134 = .ok (.ifCond .ne 15, 3) := by decide +kernel
theorem dL_law_1137 : decode cL_law 1137 = .ok (.aload_n 3, 1) := by decide +kernel
theorem dL_law_1138 : decode cL_law 1138 = .ok (.iconst 0, 1) := by decide +kernel
theorem dL_law_1139 : decode cL_law 1139 = .ok (.laload, 1) := by decide +kernel
theorem dL_law_1140 : decode cL_law 1140 = .ok (.iload 6, 2) := by decide +kernel
theorem dL_law_1142 : decode cL_law 1142 = .ok (.i2l, 1) := by decide +kernel
theorem dL_law_1143 : decode cL_law 1143 = .ok (.lcmp, 1) := by decide +kernel
theorem dL_law_1144 : decode cL_law 1144 = .ok (.ifCond .eq 5, 3) := by decide +kernel
theorem dL_law_1147 : decode cL_law 1147 = .ok (.iconst 0, 1) := by decide +kernel
theorem dL_law_1148 : decode cL_law 1148 = .ok (.ireturn, 1) := by decide +kernel
theorem dL_law_1149 : decode cL_law 1149 = .ok (.goto 702, 3) := by decide +kernel
theorem dL_law_1152 : decode cL_law 1152 = .ok (.aload_n 1, 1) := by decide +kernel
theorem dL_law_1153 : decode cL_law 1153 = .ok (.aload_n 0, 1) := by decide +kernel
theorem dL_law_1154 : decode cL_law 1154 = .ok (.iload 4, 2) := by decide +kernel
theorem dL_law_1156 : decode cL_law 1156 = .ok (.iconst 1, 1) := by decide +kernel
theorem dL_law_1157 : decode cL_law 1157 = .ok (.iadd, 1) := by decide +kernel
theorem dL_law_1158 : decode cL_law 1158 = .ok (.iaload, 1) := by decide +kernel
theorem dL_law_1159 : decode cL_law 1159 = .ok (.aload_n 0, 1) := by decide +kernel
theorem dL_law_1160 : decode cL_law 1160 = .ok (.iload 4, 2) := by decide +kernel
theorem dL_law_1162 : decode cL_law 1162 = .ok (.iconst 2, 1) := by decide +kernel
theorem dL_law_1163 : decode cL_law 1163 = .ok (.iadd, 1) := by decide +kernel
theorem dL_law_1164 : decode cL_law 1164 = .ok (.iaload, 1) := by decide +kernel
theorem dL_law_1165 : decode cL_law 1165 = .ok (.aload_n 3, 1) := by decide +kernel
theorem dL_law_1166 : decode cL_law 1166 = .ok (.invokestatic 168, 3) := by decide +kernel
theorem dL_law_1169 : decode cL_law 1169 = .ok (.istore 5, 2) := by decide +kernel
theorem dL_law_1171 : decode cL_law 1171 = .ok (.aload_n 2, 1) := by decide +kernel
theorem dL_law_1172 : decode cL_law 1172 = .ok (.aload_n 0, 1) := by decide +kernel
theorem dL_law_1173 : decode cL_law 1173 = .ok (.iload 4, 2) := by decide +kernel
theorem dL_law_1175 : decode cL_law 1175 = .ok (.iconst 1, 1) := by decide +kernel
theorem dL_law_1176 : decode cL_law 1176 = .ok (.iadd, 1) := by decide +kernel
theorem dL_law_1177 : decode cL_law 1177 = .ok (.iaload, 1) := by decide +kernel
theorem dL_law_1178 : decode cL_law 1178 = .ok (.aload_n 0, 1) := by decide +kernel
theorem dL_law_1179 : decode cL_law 1179 = .ok (.iload 4, 2) := by decide +kernel
theorem dL_law_1181 : decode cL_law 1181 = .ok (.iconst 2, 1) := by decide +kernel
theorem dL_law_1182 : decode cL_law 1182 = .ok (.iadd, 1) := by decide +kernel
theorem dL_law_1183 : decode cL_law 1183 = .ok (.iaload, 1) := by decide +kernel
theorem dL_law_1184 : decode cL_law 1184 = .ok (.invokevirtual 170, 3) := by decide +kernel
theorem dL_law_1187 : decode cL_law 1187 = .ok (.istore 6, 2) := by decide +kernel
theorem dL_law_1189 : decode cL_law 1189 = .ok (.aload_n 2, 1) := by decide +kernel
theorem dL_law_1190 : decode cL_law 1190 = .ok (.invokevirtual 104, 3) := by decide +kernel
theorem dL_law_1193 : decode cL_law 1193 = .ok (.iload 5, 2) := by decide +kernel
theorem dL_law_1195 : decode cL_law 1195 = .ok (.if_icmp .eq 5, 3) := by decide +kernel
theorem dL_law_1198 : decode cL_law 1198 = .ok (.iconst 0, 1) := by decide +kernel
theorem dL_law_1199 : decode cL_law 1199 = .ok (.ireturn, 1) := by decide +kernel
theorem dL_law_1200 : decode cL_law 1200 = .ok (.iload 5, 2) := by decide +kernel
theorem dL_law_1202 : decode cL_law 1202 = .ok (.ifCond .ne 15, 3) := by decide +kernel
theorem dL_law_1205 : decode cL_law 1205 = .ok (.aload_n 3, 1) := by decide +kernel
theorem dL_law_1206 : decode cL_law 1206 = .ok (.iconst 0, 1) := by decide +kernel
theorem dL_law_1207 : decode cL_law 1207 = .ok (.laload, 1) := by decide +kernel
theorem dL_law_1208 : decode cL_law 1208 = .ok (.iload 6, 2) := by decide +kernel
theorem dL_law_1210 : decode cL_law 1210 = .ok (.i2l, 1) := by decide +kernel
theorem dL_law_1211 : decode cL_law 1211 = .ok (.lcmp, 1) := by decide +kernel
theorem dL_law_1212 : decode cL_law 1212 = .ok (.ifCond .eq 5, 3) := by decide +kernel
theorem dL_law_1215 : decode cL_law 1215 = .ok (.iconst 0, 1) := by decide +kernel
theorem dL_law_1216 : decode cL_law 1216 = .ok (.ireturn, 1) := by decide +kernel
theorem dL_law_1217 : decode cL_law 1217 = .ok (.goto 634, 3) := by decide +kernel
theorem dL_law_1220 : decode cL_law 1220 = .ok (.aload_n 1, 1) := by decide +kernel
theorem dL_law_1221 : decode cL_law 1221 = .ok (.aload_n 0, 1) := by decide +kernel
theorem dL_law_1222 : decode cL_law 1222 = .ok (.iload 4, 2) := by decide +kernel
theorem dL_law_1224 : decode cL_law 1224 = .ok (.iconst 1, 1) := by decide +kernel
theorem dL_law_1225 : decode cL_law 1225 = .ok (.iadd, 1) := by decide +kernel
theorem dL_law_1226 : decode cL_law 1226 = .ok (.iaload, 1) := by decide +kernel
theorem dL_law_1227 : decode cL_law 1227 = .ok (.aload_n 0, 1) := by decide +kernel
theorem dL_law_1228 : decode cL_law 1228 = .ok (.iload 4, 2) := by decide +kernel
theorem dL_law_1230 : decode cL_law 1230 = .ok (.iconst 2, 1) := by decide +kernel
theorem dL_law_1231 : decode cL_law 1231 = .ok (.iadd, 1) := by decide +kernel
theorem dL_law_1232 : decode cL_law 1232 = .ok (.iaload, 1) := by decide +kernel
theorem dL_law_1233 : decode cL_law 1233 = .ok (.aload_n 3, 1) := by decide +kernel
theorem dL_law_1234 : decode cL_law 1234 = .ok (.invokestatic 171, 3) := by decide +kernel
theorem dL_law_1237 : decode cL_law 1237 = .ok (.istore 5, 2) := by decide +kernel
theorem dL_law_1239 : decode cL_law 1239 = .ok (.aload_n 2, 1) := by decide +kernel
theorem dL_law_1240 : decode cL_law 1240 = .ok (.aload_n 0, 1) := by decide +kernel
theorem dL_law_1241 : decode cL_law 1241 = .ok (.iload 4, 2) := by decide +kernel
theorem dL_law_1243 : decode cL_law 1243 = .ok (.iconst 1, 1) := by decide +kernel
theorem dL_law_1244 : decode cL_law 1244 = .ok (.iadd, 1) := by decide +kernel
theorem dL_law_1245 : decode cL_law 1245 = .ok (.iaload, 1) := by decide +kernel
theorem dL_law_1246 : decode cL_law 1246 = .ok (.aload_n 0, 1) := by decide +kernel
theorem dL_law_1247 : decode cL_law 1247 = .ok (.iload 4, 2) := by decide +kernel
theorem dL_law_1249 : decode cL_law 1249 = .ok (.iconst 2, 1) := by decide +kernel
theorem dL_law_1250 : decode cL_law 1250 = .ok (.iadd, 1) := by decide +kernel
theorem dL_law_1251 : decode cL_law 1251 = .ok (.iaload, 1) := by decide +kernel
theorem dL_law_1252 : decode cL_law 1252 = .ok (.invokevirtual 173, 3) := by decide +kernel
theorem dL_law_1255 : decode cL_law 1255 = .ok (.istore 6, 2) := by decide +kernel
theorem dL_law_1257 : decode cL_law 1257 = .ok (.aload_n 2, 1) := by decide +kernel
theorem dL_law_1258 : decode cL_law 1258 = .ok (.invokevirtual 104, 3) := by decide +kernel
theorem dL_law_1261 : decode cL_law 1261 = .ok (.iload 5, 2) := by decide +kernel
theorem dL_law_1263 : decode cL_law 1263 = .ok (.if_icmp .eq 5, 3) := by decide +kernel
theorem dL_law_1266 : decode cL_law 1266 = .ok (.iconst 0, 1) := by decide +kernel
theorem dL_law_1267 : decode cL_law 1267 = .ok (.ireturn, 1) := by decide +kernel
theorem dL_law_1268 : decode cL_law 1268 = .ok (.iload 5, 2) := by decide +kernel
theorem dL_law_1270 : decode cL_law 1270 = .ok (.ifCond .ne 15, 3) := by decide +kernel
theorem dL_law_1273 : decode cL_law 1273 = .ok (.aload_n 3, 1) := by decide +kernel
theorem dL_law_1274 : decode cL_law 1274 = .ok (.iconst 0, 1) := by decide +kernel
theorem dL_law_1275 : decode cL_law 1275 = .ok (.laload, 1) := by decide +kernel
theorem dL_law_1276 : decode cL_law 1276 = .ok (.iload 6, 2) := by decide +kernel
theorem dL_law_1278 : decode cL_law 1278 = .ok (.i2l, 1) := by decide +kernel
theorem dL_law_1279 : decode cL_law 1279 = .ok (.lcmp, 1) := by decide +kernel
theorem dL_law_1280 : decode cL_law 1280 = .ok (.ifCond .eq 5, 3) := by decide +kernel
theorem dL_law_1283 : decode cL_law 1283 = .ok (.iconst 0, 1) := by decide +kernel
theorem dL_law_1284 : decode cL_law 1284 = .ok (.ireturn, 1) := by decide +kernel
theorem dL_law_1285 : decode cL_law 1285 = .ok (.goto 566, 3) := by decide +kernel
theorem dL_law_1288 : decode cL_law 1288 = .ok (.aload_n 1, 1) := by decide +kernel
theorem dL_law_1289 : decode cL_law 1289 = .ok (.aload_n 0, 1) := by decide +kernel
theorem dL_law_1290 : decode cL_law 1290 = .ok (.iload 4, 2) := by decide +kernel
theorem dL_law_1292 : decode cL_law 1292 = .ok (.iconst 1, 1) := by decide +kernel
theorem dL_law_1293 : decode cL_law 1293 = .ok (.iadd, 1) := by decide +kernel
theorem dL_law_1294 : decode cL_law 1294 = .ok (.iaload, 1) := by decide +kernel
theorem dL_law_1295 : decode cL_law 1295 = .ok (.aload_n 3, 1) := by decide +kernel
theorem dL_law_1296 : decode cL_law 1296 = .ok (.invokestatic 174, 3) := by decide +kernel
theorem dL_law_1299 : decode cL_law 1299 = .ok (.istore 5, 2) := by decide +kernel
theorem dL_law_1301 : decode cL_law 1301 = .ok (.aload_n 2, 1) := by decide +kernel
theorem dL_law_1302 : decode cL_law 1302 = .ok (.aload_n 0, 1) := by decide +kernel
theorem dL_law_1303 : decode cL_law 1303 = .ok (.iload 4, 2) := by decide +kernel
theorem dL_law_1305 : decode cL_law 1305 = .ok (.iconst 1, 1) := by decide +kernel
theorem dL_law_1306 : decode cL_law 1306 = .ok (.iadd, 1) := by decide +kernel
theorem dL_law_1307 : decode cL_law 1307 = .ok (.iaload, 1) := by decide +kernel
theorem dL_law_1308 : decode cL_law 1308 = .ok (.invokevirtual 176, 3) := by decide +kernel
theorem dL_law_1311 : decode cL_law 1311 = .ok (.istore 6, 2) := by decide +kernel
theorem dL_law_1313 : decode cL_law 1313 = .ok (.aload_n 2, 1) := by decide +kernel
theorem dL_law_1314 : decode cL_law 1314 = .ok (.invokevirtual 104, 3) := by decide +kernel
theorem dL_law_1317 : decode cL_law 1317 = .ok (.iload 5, 2) := by decide +kernel
theorem dL_law_1319 : decode cL_law 1319 = .ok (.if_icmp .eq 5, 3) := by decide +kernel
theorem dL_law_1322 : decode cL_law 1322 = .ok (.iconst 0, 1) := by decide +kernel
theorem dL_law_1323 : decode cL_law 1323 = .ok (.ireturn, 1) := by decide +kernel
theorem dL_law_1324 : decode cL_law 1324 = .ok (.iload 5, 2) := by decide +kernel
theorem dL_law_1326 : decode cL_law 1326 = .ok (.ifCond .ne 15, 3) := by decide +kernel
theorem dL_law_1329 : decode cL_law 1329 = .ok (.aload_n 3, 1) := by decide +kernel
theorem dL_law_1330 : decode cL_law 1330 = .ok (.iconst 0, 1) := by decide +kernel
theorem dL_law_1331 : decode cL_law 1331 = .ok (.laload, 1) := by decide +kernel
theorem dL_law_1332 : decode cL_law 1332 = .ok (.iload 6, 2) := by decide +kernel
theorem dL_law_1334 : decode cL_law 1334 = .ok (.i2l, 1) := by decide +kernel
theorem dL_law_1335 : decode cL_law 1335 = .ok (.lcmp, 1) := by decide +kernel
theorem dL_law_1336 : decode cL_law 1336 = .ok (.ifCond .eq 5, 3) := by decide +kernel
theorem dL_law_1339 : decode cL_law 1339 = .ok (.iconst 0, 1) := by decide +kernel
theorem dL_law_1340 : decode cL_law 1340 = .ok (.ireturn, 1) := by decide +kernel
theorem dL_law_1341 : decode cL_law 1341 = .ok (.goto 510, 3) := by decide +kernel
theorem dL_law_1344 : decode cL_law 1344 = .ok (.aload_n 1, 1) := by decide +kernel
theorem dL_law_1345 : decode cL_law 1345 = .ok (.aload_n 0, 1) := by decide +kernel
theorem dL_law_1346 : decode cL_law 1346 = .ok (.iload 4, 2) := by decide +kernel
theorem dL_law_1348 : decode cL_law 1348 = .ok (.iconst 1, 1) := by decide +kernel
theorem dL_law_1349 : decode cL_law 1349 = .ok (.iadd, 1) := by decide +kernel
theorem dL_law_1350 : decode cL_law 1350 = .ok (.iaload, 1) := by decide +kernel
theorem dL_law_1351 : decode cL_law 1351 = .ok (.aload_n 3, 1) := by decide +kernel
theorem dL_law_1352 : decode cL_law 1352 = .ok (.invokestatic 177, 3) := by decide +kernel
theorem dL_law_1355 : decode cL_law 1355 = .ok (.istore 5, 2) := by decide +kernel
theorem dL_law_1357 : decode cL_law 1357 = .ok (.aload_n 2, 1) := by decide +kernel
theorem dL_law_1358 : decode cL_law 1358 = .ok (.aload_n 0, 1) := by decide +kernel
theorem dL_law_1359 : decode cL_law 1359 = .ok (.iload 4, 2) := by decide +kernel
theorem dL_law_1361 : decode cL_law 1361 = .ok (.iconst 1, 1) := by decide +kernel
theorem dL_law_1362 : decode cL_law 1362 = .ok (.iadd, 1) := by decide +kernel
theorem dL_law_1363 : decode cL_law 1363 = .ok (.iaload, 1) := by decide +kernel
theorem dL_law_1364 : decode cL_law 1364 = .ok (.invokevirtual 179, 3) := by decide +kernel
theorem dL_law_1367 : decode cL_law 1367 = .ok (.istore 6, 2) := by decide +kernel
theorem dL_law_1369 : decode cL_law 1369 = .ok (.aload_n 2, 1) := by decide +kernel
theorem dL_law_1370 : decode cL_law 1370 = .ok (.invokevirtual 104, 3) := by decide +kernel
theorem dL_law_1373 : decode cL_law 1373 = .ok (.iload 5, 2) := by decide +kernel
theorem dL_law_1375 : decode cL_law 1375 = .ok (.if_icmp .eq 5, 3) := by decide +kernel
theorem dL_law_1378 : decode cL_law 1378 = .ok (.iconst 0, 1) := by decide +kernel
theorem dL_law_1379 : decode cL_law 1379 = .ok (.ireturn, 1) := by decide +kernel
theorem dL_law_1380 : decode cL_law 1380 = .ok (.iload 5, 2) := by decide +kernel
theorem dL_law_1382 : decode cL_law 1382 = .ok (.ifCond .ne 15, 3) := by decide +kernel
theorem dL_law_1385 : decode cL_law 1385 = .ok (.aload_n 3, 1) := by decide +kernel
theorem dL_law_1386 : decode cL_law 1386 = .ok (.iconst 0, 1) := by decide +kernel
theorem dL_law_1387 : decode cL_law 1387 = .ok (.laload, 1) := by decide +kernel
theorem dL_law_1388 : decode cL_law 1388 = .ok (.iload 6, 2) := by decide +kernel
theorem dL_law_1390 : decode cL_law 1390 = .ok (.i2l, 1) := by decide +kernel
theorem dL_law_1391 : decode cL_law 1391 = .ok (.lcmp, 1) := by decide +kernel
theorem dL_law_1392 : decode cL_law 1392 = .ok (.ifCond .eq 5, 3) := by decide +kernel
theorem dL_law_1395 : decode cL_law 1395 = .ok (.iconst 0, 1) := by decide +kernel
theorem dL_law_1396 : decode cL_law 1396 = .ok (.ireturn, 1) := by decide +kernel
theorem dL_law_1397 : decode cL_law 1397 = .ok (.goto 454, 3) := by decide +kernel
theorem dL_law_1400 : decode cL_law 1400 = .ok (.aload_n 1, 1) := by decide +kernel
theorem dL_law_1401 : decode cL_law 1401 = .ok (.aload_n 0, 1) := by decide +kernel
theorem dL_law_1402 : decode cL_law 1402 = .ok (.iload 4, 2) := by decide +kernel
theorem dL_law_1404 : decode cL_law 1404 = .ok (.iconst 1, 1) := by decide +kernel
theorem dL_law_1405 : decode cL_law 1405 = .ok (.iadd, 1) := by decide +kernel
theorem dL_law_1406 : decode cL_law 1406 = .ok (.iaload, 1) := by decide +kernel
theorem dL_law_1407 : decode cL_law 1407 = .ok (.aload_n 3, 1) := by decide +kernel
theorem dL_law_1408 : decode cL_law 1408 = .ok (.invokestatic 180, 3) := by decide +kernel
theorem dL_law_1411 : decode cL_law 1411 = .ok (.istore 5, 2) := by decide +kernel
theorem dL_law_1413 : decode cL_law 1413 = .ok (.aload_n 2, 1) := by decide +kernel
theorem dL_law_1414 : decode cL_law 1414 = .ok (.aload_n 0, 1) := by decide +kernel
theorem dL_law_1415 : decode cL_law 1415 = .ok (.iload 4, 2) := by decide +kernel
theorem dL_law_1417 : decode cL_law 1417 = .ok (.iconst 1, 1) := by decide +kernel
theorem dL_law_1418 : decode cL_law 1418 = .ok (.iadd, 1) := by decide +kernel
theorem dL_law_1419 : decode cL_law 1419 = .ok (.iaload, 1) := by decide +kernel
theorem dL_law_1420 : decode cL_law 1420 = .ok (.invokevirtual 182, 3) := by decide +kernel
theorem dL_law_1423 : decode cL_law 1423 = .ok (.istore 6, 2) := by decide +kernel
theorem dL_law_1425 : decode cL_law 1425 = .ok (.aload_n 2, 1) := by decide +kernel
theorem dL_law_1426 : decode cL_law 1426 = .ok (.invokevirtual 104, 3) := by decide +kernel
theorem dL_law_1429 : decode cL_law 1429 = .ok (.iload 5, 2) := by decide +kernel
theorem dL_law_1431 : decode cL_law 1431 = .ok (.if_icmp .eq 5, 3) := by decide +kernel
theorem dL_law_1434 : decode cL_law 1434 = .ok (.iconst 0, 1) := by decide +kernel
theorem dL_law_1435 : decode cL_law 1435 = .ok (.ireturn, 1) := by decide +kernel
theorem dL_law_1436 : decode cL_law 1436 = .ok (.iload 5, 2) := by decide +kernel
theorem dL_law_1438 : decode cL_law 1438 = .ok (.ifCond .ne 15, 3) := by decide +kernel
theorem dL_law_1441 : decode cL_law 1441 = .ok (.aload_n 3, 1) := by decide +kernel
theorem dL_law_1442 : decode cL_law 1442 = .ok (.iconst 0, 1) := by decide +kernel
theorem dL_law_1443 : decode cL_law 1443 = .ok (.laload, 1) := by decide +kernel
theorem dL_law_1444 : decode cL_law 1444 = .ok (.iload 6, 2) := by decide +kernel
theorem dL_law_1446 : decode cL_law 1446 = .ok (.i2l, 1) := by decide +kernel
theorem dL_law_1447 : decode cL_law 1447 = .ok (.lcmp, 1) := by decide +kernel
theorem dL_law_1448 : decode cL_law 1448 = .ok (.ifCond .eq 5, 3) := by decide +kernel
theorem dL_law_1451 : decode cL_law 1451 = .ok (.iconst 0, 1) := by decide +kernel
theorem dL_law_1452 : decode cL_law 1452 = .ok (.ireturn, 1) := by decide +kernel
theorem dL_law_1453 : decode cL_law 1453 = .ok (.goto 398, 3) := by decide +kernel
theorem dL_law_1456 : decode cL_law 1456 = .ok (.aload_n 1, 1) := by decide +kernel
theorem dL_law_1457 : decode cL_law 1457 = .ok (.aload_n 0, 1) := by decide +kernel
theorem dL_law_1458 : decode cL_law 1458 = .ok (.iload 4, 2) := by decide +kernel
theorem dL_law_1460 : decode cL_law 1460 = .ok (.iconst 1, 1) := by decide +kernel
theorem dL_law_1461 : decode cL_law 1461 = .ok (.iadd, 1) := by decide +kernel
theorem dL_law_1462 : decode cL_law 1462 = .ok (.iaload, 1) := by decide +kernel
theorem dL_law_1463 : decode cL_law 1463 = .ok (.aload_n 0, 1) := by decide +kernel
theorem dL_law_1464 : decode cL_law 1464 = .ok (.iload 4, 2) := by decide +kernel
theorem dL_law_1466 : decode cL_law 1466 = .ok (.iconst 2, 1) := by decide +kernel
theorem dL_law_1467 : decode cL_law 1467 = .ok (.iadd, 1) := by decide +kernel
theorem dL_law_1468 : decode cL_law 1468 = .ok (.iaload, 1) := by decide +kernel
theorem dL_law_1469 : decode cL_law 1469 = .ok (.aload_n 0, 1) := by decide +kernel
theorem dL_law_1470 : decode cL_law 1470 = .ok (.iload 4, 2) := by decide +kernel
theorem dL_law_1472 : decode cL_law 1472 = .ok (.iconst 3, 1) := by decide +kernel
theorem dL_law_1473 : decode cL_law 1473 = .ok (.iadd, 1) := by decide +kernel
theorem dL_law_1474 : decode cL_law 1474 = .ok (.iaload, 1) := by decide +kernel
theorem dL_law_1475 : decode cL_law 1475 = .ok (.aload_n 3, 1) := by decide +kernel
theorem dL_law_1476 : decode cL_law 1476 = .ok (.invokestatic 183, 3) := by decide +kernel
theorem dL_law_1479 : decode cL_law 1479 = .ok (.istore 5, 2) := by decide +kernel
theorem dL_law_1481 : decode cL_law 1481 = .ok (.aload_n 2, 1) := by decide +kernel
theorem dL_law_1482 : decode cL_law 1482 = .ok (.aload_n 0, 1) := by decide +kernel
theorem dL_law_1483 : decode cL_law 1483 = .ok (.iload 4, 2) := by decide +kernel
theorem dL_law_1485 : decode cL_law 1485 = .ok (.iconst 1, 1) := by decide +kernel
theorem dL_law_1486 : decode cL_law 1486 = .ok (.iadd, 1) := by decide +kernel
theorem dL_law_1487 : decode cL_law 1487 = .ok (.iaload, 1) := by decide +kernel
theorem dL_law_1488 : decode cL_law 1488 = .ok (.aload_n 0, 1) := by decide +kernel
theorem dL_law_1489 : decode cL_law 1489 = .ok (.iload 4, 2) := by decide +kernel
theorem dL_law_1491 : decode cL_law 1491 = .ok (.iconst 2, 1) := by decide +kernel
theorem dL_law_1492 : decode cL_law 1492 = .ok (.iadd, 1) := by decide +kernel
theorem dL_law_1493 : decode cL_law 1493 = .ok (.iaload, 1) := by decide +kernel
theorem dL_law_1494 : decode cL_law 1494 = .ok (.aload_n 0, 1) := by decide +kernel
theorem dL_law_1495 : decode cL_law 1495 = .ok (.iload 4, 2) := by decide +kernel
theorem dL_law_1497 : decode cL_law 1497 = .ok (.iconst 3, 1) := by decide +kernel
theorem dL_law_1498 : decode cL_law 1498 = .ok (.iadd, 1) := by decide +kernel
theorem dL_law_1499 : decode cL_law 1499 = .ok (.iaload, 1) := by decide +kernel
theorem dL_law_1500 : decode cL_law 1500 = .ok (.invokevirtual 185, 3) := by decide +kernel
theorem dL_law_1503 : decode cL_law 1503 = .ok (.istore 6, 2) := by decide +kernel
theorem dL_law_1505 : decode cL_law 1505 = .ok (.aload_n 2, 1) := by decide +kernel
theorem dL_law_1506 : decode cL_law 1506 = .ok (.invokevirtual 104, 3) := by decide +kernel
theorem dL_law_1509 : decode cL_law 1509 = .ok (.iload 5, 2) := by decide +kernel
theorem dL_law_1511 : decode cL_law 1511 = .ok (.if_icmp .eq 5, 3) := by decide +kernel
theorem dL_law_1514 : decode cL_law 1514 = .ok (.iconst 0, 1) := by decide +kernel
theorem dL_law_1515 : decode cL_law 1515 = .ok (.ireturn, 1) := by decide +kernel
theorem dL_law_1516 : decode cL_law 1516 = .ok (.iload 5, 2) := by decide +kernel
theorem dL_law_1518 : decode cL_law 1518 = .ok (.ifCond .ne 15, 3) := by decide +kernel
theorem dL_law_1521 : decode cL_law 1521 = .ok (.aload_n 3, 1) := by decide +kernel
theorem dL_law_1522 : decode cL_law 1522 = .ok (.iconst 0, 1) := by decide +kernel
theorem dL_law_1523 : decode cL_law 1523 = .ok (.laload, 1) := by decide +kernel
theorem dL_law_1524 : decode cL_law 1524 = .ok (.iload 6, 2) := by decide +kernel
theorem dL_law_1526 : decode cL_law 1526 = .ok (.i2l, 1) := by decide +kernel
theorem dL_law_1527 : decode cL_law 1527 = .ok (.lcmp, 1) := by decide +kernel
theorem dL_law_1528 : decode cL_law 1528 = .ok (.ifCond .eq 5, 3) := by decide +kernel
theorem dL_law_1531 : decode cL_law 1531 = .ok (.iconst 0, 1) := by decide +kernel
theorem dL_law_1532 : decode cL_law 1532 = .ok (.ireturn, 1) := by decide +kernel
theorem dL_law_1533 : decode cL_law 1533 = .ok (.goto 318, 3) := by decide +kernel
theorem dL_law_1536 : decode cL_law 1536 = .ok (.aload_n 1, 1) := by decide +kernel
theorem dL_law_1537 : decode cL_law 1537 = .ok (.aload_n 0, 1) := by decide +kernel
theorem dL_law_1538 : decode cL_law 1538 = .ok (.iload 4, 2) := by decide +kernel
theorem dL_law_1540 : decode cL_law 1540 = .ok (.iconst 1, 1) := by decide +kernel
theorem dL_law_1541 : decode cL_law 1541 = .ok (.iadd, 1) := by decide +kernel
theorem dL_law_1542 : decode cL_law 1542 = .ok (.iaload, 1) := by decide +kernel
theorem dL_law_1543 : decode cL_law 1543 = .ok (.aload_n 0, 1) := by decide +kernel
theorem dL_law_1544 : decode cL_law 1544 = .ok (.iload 4, 2) := by decide +kernel
theorem dL_law_1546 : decode cL_law 1546 = .ok (.iconst 2, 1) := by decide +kernel
theorem dL_law_1547 : decode cL_law 1547 = .ok (.iadd, 1) := by decide +kernel
theorem dL_law_1548 : decode cL_law 1548 = .ok (.iaload, 1) := by decide +kernel
theorem dL_law_1549 : decode cL_law 1549 = .ok (.aload_n 0, 1) := by decide +kernel
theorem dL_law_1550 : decode cL_law 1550 = .ok (.iload 4, 2) := by decide +kernel
theorem dL_law_1552 : decode cL_law 1552 = .ok (.iconst 3, 1) := by decide +kernel
theorem dL_law_1553 : decode cL_law 1553 = .ok (.iadd, 1) := by decide +kernel
theorem dL_law_1554 : decode cL_law 1554 = .ok (.iaload, 1) := by decide +kernel
theorem dL_law_1555 : decode cL_law 1555 = .ok (.aload_n 3, 1) := by decide +kernel
theorem dL_law_1556 : decode cL_law 1556 = .ok (.invokestatic 186, 3) := by decide +kernel
theorem dL_law_1559 : decode cL_law 1559 = .ok (.istore 5, 2) := by decide +kernel
theorem dL_law_1561 : decode cL_law 1561 = .ok (.aload_n 2, 1) := by decide +kernel
theorem dL_law_1562 : decode cL_law 1562 = .ok (.aload_n 0, 1) := by decide +kernel
theorem dL_law_1563 : decode cL_law 1563 = .ok (.iload 4, 2) := by decide +kernel
theorem dL_law_1565 : decode cL_law 1565 = .ok (.iconst 1, 1) := by decide +kernel
theorem dL_law_1566 : decode cL_law 1566 = .ok (.iadd, 1) := by decide +kernel
theorem dL_law_1567 : decode cL_law 1567 = .ok (.iaload, 1) := by decide +kernel
theorem dL_law_1568 : decode cL_law 1568 = .ok (.aload_n 0, 1) := by decide +kernel
theorem dL_law_1569 : decode cL_law 1569 = .ok (.iload 4, 2) := by decide +kernel
theorem dL_law_1571 : decode cL_law 1571 = .ok (.iconst 2, 1) := by decide +kernel
theorem dL_law_1572 : decode cL_law 1572 = .ok (.iadd, 1) := by decide +kernel
theorem dL_law_1573 : decode cL_law 1573 = .ok (.iaload, 1) := by decide +kernel
theorem dL_law_1574 : decode cL_law 1574 = .ok (.aload_n 0, 1) := by decide +kernel
theorem dL_law_1575 : decode cL_law 1575 = .ok (.iload 4, 2) := by decide +kernel
theorem dL_law_1577 : decode cL_law 1577 = .ok (.iconst 3, 1) := by decide +kernel
theorem dL_law_1578 : decode cL_law 1578 = .ok (.iadd, 1) := by decide +kernel
theorem dL_law_1579 : decode cL_law 1579 = .ok (.iaload, 1) := by decide +kernel
theorem dL_law_1580 : decode cL_law 1580 = .ok (.invokevirtual 188, 3) := by decide +kernel
theorem dL_law_1583 : decode cL_law 1583 = .ok (.istore 6, 2) := by decide +kernel
theorem dL_law_1585 : decode cL_law 1585 = .ok (.aload_n 2, 1) := by decide +kernel
theorem dL_law_1586 : decode cL_law 1586 = .ok (.invokevirtual 104, 3) := by decide +kernel
theorem dL_law_1589 : decode cL_law 1589 = .ok (.iload 5, 2) := by decide +kernel
theorem dL_law_1591 : decode cL_law 1591 = .ok (.if_icmp .eq 5, 3) := by decide +kernel
theorem dL_law_1594 : decode cL_law 1594 = .ok (.iconst 0, 1) := by decide +kernel
theorem dL_law_1595 : decode cL_law 1595 = .ok (.ireturn, 1) := by decide +kernel
theorem dL_law_1596 : decode cL_law 1596 = .ok (.iload 5, 2) := by decide +kernel
theorem dL_law_1598 : decode cL_law 1598 = .ok (.ifCond .ne 15, 3) := by decide +kernel
theorem dL_law_1601 : decode cL_law 1601 = .ok (.aload_n 3, 1) := by decide +kernel
theorem dL_law_1602 : decode cL_law 1602 = .ok (.iconst 0, 1) := by decide +kernel
theorem dL_law_1603 : decode cL_law 1603 = .ok (.laload, 1) := by decide +kernel
theorem dL_law_1604 : decode cL_law 1604 = .ok (.iload 6, 2) := by decide +kernel
theorem dL_law_1606 : decode cL_law 1606 = .ok (.i2l, 1) := by decide +kernel
theorem dL_law_1607 : decode cL_law 1607 = .ok (.lcmp, 1) := by decide +kernel
theorem dL_law_1608 : decode cL_law 1608 = .ok (.ifCond .eq 5, 3) := by decide +kernel
theorem dL_law_1611 : decode cL_law 1611 = .ok (.iconst 0, 1) := by decide +kernel
theorem dL_law_1612 : decode cL_law 1612 = .ok (.ireturn, 1) := by decide +kernel
theorem dL_law_1613 : decode cL_law 1613 = .ok (.goto 238, 3) := by decide +kernel
theorem dL_law_1616 : decode cL_law 1616 = .ok (.aload_n 1, 1) := by decide +kernel
theorem dL_law_1617 : decode cL_law 1617 = .ok (.aload_n 0, 1) := by decide +kernel
theorem dL_law_1618 : decode cL_law 1618 = .ok (.iload 4, 2) := by decide +kernel
theorem dL_law_1620 : decode cL_law 1620 = .ok (.iconst 1, 1) := by decide +kernel
theorem dL_law_1621 : decode cL_law 1621 = .ok (.iadd, 1) := by decide +kernel
theorem dL_law_1622 : decode cL_law 1622 = .ok (.iaload, 1) := by decide +kernel
theorem dL_law_1623 : decode cL_law 1623 = .ok (.aload_n 3, 1) := by decide +kernel
theorem dL_law_1624 : decode cL_law 1624 = .ok (.invokestatic 189, 3) := by decide +kernel
theorem dL_law_1627 : decode cL_law 1627 = .ok (.istore 5, 2) := by decide +kernel
theorem dL_law_1629 : decode cL_law 1629 = .ok (.aload_n 2, 1) := by decide +kernel
theorem dL_law_1630 : decode cL_law 1630 = .ok (.aload_n 0, 1) := by decide +kernel
theorem dL_law_1631 : decode cL_law 1631 = .ok (.iload 4, 2) := by decide +kernel
theorem dL_law_1633 : decode cL_law 1633 = .ok (.iconst 1, 1) := by decide +kernel
theorem dL_law_1634 : decode cL_law 1634 = .ok (.iadd, 1) := by decide +kernel
theorem dL_law_1635 : decode cL_law 1635 = .ok (.iaload, 1) := by decide +kernel
theorem dL_law_1636 : decode cL_law 1636 = .ok (.invokevirtual 191, 3) := by decide +kernel
theorem dL_law_1639 : decode cL_law 1639 = .ok (.istore 6, 2) := by decide +kernel
theorem dL_law_1641 : decode cL_law 1641 = .ok (.aload_n 2, 1) := by decide +kernel
theorem dL_law_1642 : decode cL_law 1642 = .ok (.invokevirtual 104, 3) := by decide +kernel
theorem dL_law_1645 : decode cL_law 1645 = .ok (.iload 5, 2) := by decide +kernel
theorem dL_law_1647 : decode cL_law 1647 = .ok (.if_icmp .eq 5, 3) := by decide +kernel
theorem dL_law_1650 : decode cL_law 1650 = .ok (.iconst 0, 1) := by decide +kernel
theorem dL_law_1651 : decode cL_law 1651 = .ok (.ireturn, 1) := by decide +kernel
theorem dL_law_1652 : decode cL_law 1652 = .ok (.iload 5, 2) := by decide +kernel
theorem dL_law_1654 : decode cL_law 1654 = .ok (.ifCond .ne 15, 3) := by decide +kernel
theorem dL_law_1657 : decode cL_law 1657 = .ok (.aload_n 3, 1) := by decide +kernel
theorem dL_law_1658 : decode cL_law 1658 = .ok (.iconst 0, 1) := by decide +kernel
theorem dL_law_1659 : decode cL_law 1659 = .ok (.laload, 1) := by decide +kernel
theorem dL_law_1660 : decode cL_law 1660 = .ok (.iload 6, 2) := by decide +kernel
theorem dL_law_1662 : decode cL_law 1662 = .ok (.i2l, 1) := by decide +kernel
theorem dL_law_1663 : decode cL_law 1663 = .ok (.lcmp, 1) := by decide +kernel
theorem dL_law_1664 : decode cL_law 1664 = .ok (.ifCond .eq 5, 3) := by decide +kernel
theorem dL_law_1667 : decode cL_law 1667 = .ok (.iconst 0, 1) := by decide +kernel
theorem dL_law_1668 : decode cL_law 1668 = .ok (.ireturn, 1) := by decide +kernel
theorem dL_law_1669 : decode cL_law 1669 = .ok (.goto 182, 3) := by decide +kernel
theorem dL_law_1672 : decode cL_law 1672 = .ok (.aload_n 1, 1) := by decide +kernel
theorem dL_law_1673 : decode cL_law 1673 = .ok (.aload_n 0, 1) := by decide +kernel
theorem dL_law_1674 : decode cL_law 1674 = .ok (.iload 4, 2) := by decide +kernel
theorem dL_law_1676 : decode cL_law 1676 = .ok (.iconst 1, 1) := by decide +kernel
theorem dL_law_1677 : decode cL_law 1677 = .ok (.iadd, 1) := by decide +kernel
theorem dL_law_1678 : decode cL_law 1678 = .ok (.iaload, 1) := by decide +kernel
theorem dL_law_1679 : decode cL_law 1679 = .ok (.aload_n 0, 1) := by decide +kernel
theorem dL_law_1680 : decode cL_law 1680 = .ok (.iload 4, 2) := by decide +kernel
theorem dL_law_1682 : decode cL_law 1682 = .ok (.iconst 2, 1) := by decide +kernel
theorem dL_law_1683 : decode cL_law 1683 = .ok (.iadd, 1) := by decide +kernel
theorem dL_law_1684 : decode cL_law 1684 = .ok (.iaload, 1) := by decide +kernel
theorem dL_law_1685 : decode cL_law 1685 = .ok (.aload_n 3, 1) := by decide +kernel
theorem dL_law_1686 : decode cL_law 1686 = .ok (.invokestatic 192, 3) := by decide +kernel
theorem dL_law_1689 : decode cL_law 1689 = .ok (.istore 5, 2) := by decide +kernel
theorem dL_law_1691 : decode cL_law 1691 = .ok (.aload_n 2, 1) := by decide +kernel
theorem dL_law_1692 : decode cL_law 1692 = .ok (.aload_n 0, 1) := by decide +kernel
theorem dL_law_1693 : decode cL_law 1693 = .ok (.iload 4, 2) := by decide +kernel
theorem dL_law_1695 : decode cL_law 1695 = .ok (.iconst 1, 1) := by decide +kernel
theorem dL_law_1696 : decode cL_law 1696 = .ok (.iadd, 1) := by decide +kernel
theorem dL_law_1697 : decode cL_law 1697 = .ok (.iaload, 1) := by decide +kernel
theorem dL_law_1698 : decode cL_law 1698 = .ok (.aload_n 0, 1) := by decide +kernel
theorem dL_law_1699 : decode cL_law 1699 = .ok (.iload 4, 2) := by decide +kernel
theorem dL_law_1701 : decode cL_law 1701 = .ok (.iconst 2, 1) := by decide +kernel
theorem dL_law_1702 : decode cL_law 1702 = .ok (.iadd, 1) := by decide +kernel
theorem dL_law_1703 : decode cL_law 1703 = .ok (.iaload, 1) := by decide +kernel
theorem dL_law_1704 : decode cL_law 1704 = .ok (.invokevirtual 194, 3) := by decide +kernel
theorem dL_law_1707 : decode cL_law 1707 = .ok (.istore 6, 2) := by decide +kernel
theorem dL_law_1709 : decode cL_law 1709 = .ok (.aload_n 2, 1) := by decide +kernel
theorem dL_law_1710 : decode cL_law 1710 = .ok (.invokevirtual 104, 3) := by decide +kernel
theorem dL_law_1713 : decode cL_law 1713 = .ok (.iload 5, 2) := by decide +kernel
theorem dL_law_1715 : decode cL_law 1715 = .ok (.if_icmp .eq 5, 3) := by decide +kernel
theorem dL_law_1718 : decode cL_law 1718 = .ok (.iconst 0, 1) := by decide +kernel
theorem dL_law_1719 : decode cL_law 1719 = .ok (.ireturn, 1) := by decide +kernel
theorem dL_law_1720 : decode cL_law 1720 = .ok (.iload 5, 2) := by decide +kernel
theorem dL_law_1722 : decode cL_law 1722 = .ok (.ifCond .ne 15, 3) := by decide +kernel
theorem dL_law_1725 : decode cL_law 1725 = .ok (.aload_n 3, 1) := by decide +kernel
theorem dL_law_1726 : decode cL_law 1726 = .ok (.iconst 0, 1) := by decide +kernel
theorem dL_law_1727 : decode cL_law 1727 = .ok (.laload, 1) := by decide +kernel
theorem dL_law_1728 : decode cL_law 1728 = .ok (.iload 6, 2) := by decide +kernel
theorem dL_law_1730 : decode cL_law 1730 = .ok (.i2l, 1) := by decide +kernel
theorem dL_law_1731 : decode cL_law 1731 = .ok (.lcmp, 1) := by decide +kernel
theorem dL_law_1732 : decode cL_law 1732 = .ok (.ifCond .eq 5, 3) := by decide +kernel
theorem dL_law_1735 : decode cL_law 1735 = .ok (.iconst 0, 1) := by decide +kernel
theorem dL_law_1736 : decode cL_law 1736 = .ok (.ireturn, 1) := by decide +kernel
theorem dL_law_1737 : decode cL_law 1737 = .ok (.goto 114, 3) := by decide +kernel
theorem dL_law_1740 : decode cL_law 1740 = .ok (.aload_n 1, 1) := by decide +kernel
theorem dL_law_1741 : decode cL_law 1741 = .ok (.aload_n 0, 1) := by decide +kernel
theorem dL_law_1742 : decode cL_law 1742 = .ok (.iload 4, 2) := by decide +kernel
theorem dL_law_1744 : decode cL_law 1744 = .ok (.iconst 1, 1) := by decide +kernel
theorem dL_law_1745 : decode cL_law 1745 = .ok (.iadd, 1) := by decide +kernel
theorem dL_law_1746 : decode cL_law 1746 = .ok (.iaload, 1) := by decide +kernel
theorem dL_law_1747 : decode cL_law 1747 = .ok (.aload_n 3, 1) := by decide +kernel
theorem dL_law_1748 : decode cL_law 1748 = .ok (.invokestatic 195, 3) := by decide +kernel
theorem dL_law_1751 : decode cL_law 1751 = .ok (.istore 5, 2) := by decide +kernel
theorem dL_law_1753 : decode cL_law 1753 = .ok (.aload_n 2, 1) := by decide +kernel
theorem dL_law_1754 : decode cL_law 1754 = .ok (.aload_n 0, 1) := by decide +kernel
theorem dL_law_1755 : decode cL_law 1755 = .ok (.iload 4, 2) := by decide +kernel
theorem dL_law_1757 : decode cL_law 1757 = .ok (.iconst 1, 1) := by decide +kernel
theorem dL_law_1758 : decode cL_law 1758 = .ok (.iadd, 1) := by decide +kernel
theorem dL_law_1759 : decode cL_law 1759 = .ok (.iaload, 1) := by decide +kernel
theorem dL_law_1760 : decode cL_law 1760 = .ok (.invokevirtual 197, 3) := by decide +kernel
theorem dL_law_1763 : decode cL_law 1763 = .ok (.istore 6, 2) := by decide +kernel
theorem dL_law_1765 : decode cL_law 1765 = .ok (.aload_n 2, 1) := by decide +kernel
theorem dL_law_1766 : decode cL_law 1766 = .ok (.invokevirtual 104, 3) := by decide +kernel
theorem dL_law_1769 : decode cL_law 1769 = .ok (.iload 5, 2) := by decide +kernel
theorem dL_law_1771 : decode cL_law 1771 = .ok (.if_icmp .eq 5, 3) := by decide +kernel
theorem dL_law_1774 : decode cL_law 1774 = .ok (.iconst 0, 1) := by decide +kernel
theorem dL_law_1775 : decode cL_law 1775 = .ok (.ireturn, 1) := by decide +kernel
theorem dL_law_1776 : decode cL_law 1776 = .ok (.iload 5, 2) := by decide +kernel
theorem dL_law_1778 : decode cL_law 1778 = .ok (.ifCond .ne 15, 3) := by decide +kernel
theorem dL_law_1781 : decode cL_law 1781 = .ok (.aload_n 3, 1) := by decide +kernel
theorem dL_law_1782 : decode cL_law 1782 = .ok (.iconst 0, 1) := by decide +kernel
theorem dL_law_1783 : decode cL_law 1783 = .ok (.laload, 1) := by decide +kernel
theorem dL_law_1784 : decode cL_law 1784 = .ok (.iload 6, 2) := by decide +kernel
theorem dL_law_1786 : decode cL_law 1786 = .ok (.i2l, 1) := by decide +kernel
theorem dL_law_1787 : decode cL_law 1787 = .ok (.lcmp, 1) := by decide +kernel
theorem dL_law_1788 : decode cL_law 1788 = .ok (.ifCond .eq 5, 3) := by decide +kernel
theorem dL_law_1791 : decode cL_law 1791 = .ok (.iconst 0, 1) := by decide +kernel
theorem dL_law_1792 : decode cL_law 1792 = .ok (.ireturn, 1) := by decide +kernel
theorem dL_law_1793 : decode cL_law 1793 = .ok (.goto 58, 3) := by decide +kernel
theorem dL_law_1796 : decode cL_law 1796 = .ok (.aload_n 1, 1) := by decide +kernel
theorem dL_law_1797 : decode cL_law 1797 = .ok (.invokevirtual 198, 3) := by decide +kernel
theorem dL_law_1800 : decode cL_law 1800 = .ok (.dstore 5, 2) := by decide +kernel
theorem dL_law_1802 : decode cL_law 1802 = .ok (.aload_n 2, 1) := by decide +kernel
theorem dL_law_1803 : decode cL_law 1803 = .ok (.invokevirtual 202, 3) := by decide +kernel
theorem dL_law_1806 : decode cL_law 1806 = .ok (.dstore 7, 2) := by decide +kernel
theorem dL_law_1808 : decode cL_law 1808 = .ok (.dload 5, 2) := by decide +kernel
theorem dL_law_1810 : decode cL_law 1810 = .ok (.dload 7, 2) := by decide +kernel
theorem dL_law_1812 : decode cL_law 1812 = .ok (.dcmp .l, 1) := by decide +kernel
theorem dL_law_1813 : decode cL_law 1813 = .ok (.ifCond .eq 21, 3) := by decide +kernel
theorem dL_law_1816 : decode cL_law 1816 = .ok (.dload 5, 2) := by decide +kernel
theorem dL_law_1818 : decode cL_law 1818 = .ok (.dload 5, 2) := by decide +kernel
theorem dL_law_1820 : decode cL_law 1820 = .ok (.dcmp .l, 1) := by decide +kernel
theorem dL_law_1821 : decode cL_law 1821 = .ok (.ifCond .eq 11, 3) := by decide +kernel
theorem dL_law_1824 : decode cL_law 1824 = .ok (.dload 7, 2) := by decide +kernel
theorem dL_law_1826 : decode cL_law 1826 = .ok (.dload 7, 2) := by decide +kernel
theorem dL_law_1828 : decode cL_law 1828 = .ok (.dcmp .l, 1) := by decide +kernel
theorem dL_law_1829 : decode cL_law 1829 = .ok (.ifCond .ne 5, 3) := by decide +kernel
theorem dL_law_1832 : decode cL_law 1832 = .ok (.iconst 0, 1) := by decide +kernel
theorem dL_law_1833 : decode cL_law 1833 = .ok (.ireturn, 1) := by decide +kernel
theorem dL_law_1834 : decode cL_law 1834 = .ok (.goto 17, 3) := by decide +kernel
theorem dL_law_1837 : decode cL_law 1837 = .ok (.aload_n 1, 1) := by decide +kernel
theorem dL_law_1838 : decode cL_law 1838 = .ok (.invokevirtual 203, 3) := by decide +kernel
theorem dL_law_1841 : decode cL_law 1841 = .ok (.aload_n 2, 1) := by decide +kernel
theorem dL_law_1842 : decode cL_law 1842 = .ok (.invokevirtual 207, 3) := by decide +kernel
theorem dL_law_1845 : decode cL_law 1845 = .ok (.lcmp, 1) := by decide +kernel
theorem dL_law_1846 : decode cL_law 1846 = .ok (.ifCond .eq 5, 3) := by decide +kernel
theorem dL_law_1849 : decode cL_law 1849 = .ok (.iconst 0, 1) := by decide +kernel
theorem dL_law_1850 : decode cL_law 1850 = .ok (.ireturn, 1) := by decide +kernel
theorem dL_law_1851 : decode cL_law 1851 = .ok (.iinc 4 4, 3) := by decide +kernel
theorem dL_law_1854 : decode cL_law 1854 = .ok (.goto (-1831), 3) := by decide +kernel
theorem dL_law_1857 : decode cL_law 1857 = .ok (.iconst 1, 1) := by decide +kernel
theorem dL_law_1858 : decode cL_law 1858 = .ok (.ireturn, 1) := by decide +kernel
