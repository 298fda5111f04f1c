theorem dX6_findRooms_28 : decode cX6_findRooms 28 = .ok (.iload_n 2, 1) := by decide +kernel
theorem dX6_findRooms_29 : decode cX6_findRooms 29 = .ok (.iaload, 1) := by decide +kernel
theorem dX6_findRooms_30 : decode cX6_findRooms 30 = .ok (.iconst 0, 1) := by decide +kernel
theorem dX6_findRooms_31 : decode cX6_findRooms 31 = .ok (.invokevirtual 147, 3) := by decide +kernel
theorem dX6_findRooms_34 : decode cX6_findRooms 34 = .ok (.aload_n 0, 1) := by decide +kernel
theorem dX6_findRooms_35 : decode cX6_findRooms 35 = .ok (.getfield 30, 3) := by decide +kernel
theorem dX6_findRooms_38 : decode cX6_findRooms 38 = .ok (.aload_n 0, 1) := by decide +kernel
theorem dX6_findRooms_39 : decode cX6_findRooms 39 = .ok (.getfield 10, 3) := by decide +kernel
theorem dX6_findRooms_42 : decode cX6_findRooms 42 = .ok (.iload_n 1, 1) := by decide +kernel
theorem dX6_findRooms_43 : decode cX6_findRooms 43 = .ok (.invokevirtual 161, 3) := by decide +kernel
theorem dX6_findRooms_46 : decode cX6_findRooms 46 = .ok (.aload_n 0, 1) := by decide +kernel
theorem dX6_findRooms_47 : decode cX6_findRooms 47 = .ok (.getfield 54, 3) := by decide +kernel
theorem dX6_findRooms_50 : decode cX6_findRooms 50 = .ok (.iload_n 2, 1) := by decide +kernel
theorem dX6_findRooms_51 : decode cX6_findRooms 51 = .ok (.aload_n 0, 1) := by decide +kernel
theorem dX6_findRooms_52 : decode cX6_findRooms 52 = .ok (.getfield 30, 3) := by decide +kernel
theorem dX6_findRooms_55 : decode cX6_findRooms 55 = .ok (.getfield 151, 3) := by decide +kernel
theorem dX6_findRooms_58 : decode cX6_findRooms 58 = .ok (.iastore, 1) := by decide +kernel
theorem dX6_findRooms_59 : decode cX6_findRooms 59 = .ok (.iinc 2 1, 3) := by decide +kernel
theorem dX6_findRooms_62 : decode cX6_findRooms 62 = .ok (.goto (-60), 3) := by decide +kernel
theorem dX6_findRooms_65 : decode cX6_findRooms 65 = .ok (.return_, 1) := by decide +kernel
theorem dX6_waysWithNames_0 : decode cX6_waysWithNames 0 = .ok (.lconst 0, 1) := by decide +kernel
theorem dX6_waysWithNames_1 : decode cX6_waysWithNames 1 = .ok (.lstore_n 1, 1) := by decide +kernel
theorem dX6_waysWithNames_2 : decode cX6_waysWithNames 2 = .ok (.iconst 0, 1) := by decide +kernel
theorem dX6_waysWithNames_3 : decode cX6_waysWithNames 3 = .ok (.istore_n 3, 1) := by decide +kernel
theorem dX6_waysWithNames_4 : decode cX6_waysWithNames 4 = .ok (.iload_n 3, 1) := by decide +kernel
theorem dX6_waysWithNames_5 : decode cX6_waysWithNames 5 = .ok (.iconst 1, 1) := by decide +kernel
theorem dX6_waysWithNames_6 : decode cX6_waysWithNames 6 = .ok (.aload_n 0, 1) := by decide +kernel
theorem dX6_waysWithNames_7 : decode cX6_waysWithNames 7 = .ok (.getfield 10, 3) := by decide +kernel
theorem dX6_waysWithNames_10 : decode cX6_waysWithNames 10 = .ok (.getfield 179, 3) := by decide +kernel
theorem dX6_waysWithNames_13 : decode cX6_waysWithNames 13 = .ok (.ishl, 1) := by decide +kernel
theorem dX6_waysWithNames_14 : decode cX6_waysWithNames 14 = .ok (.if_icmp .ge 25, 3) := by decide +kernel
theorem dX6_waysWithNames_17 : decode cX6_waysWithNames 17 = .ok (.aload_n 0, 1) := by decide +kernel
theorem dX6_waysWithNames_18 : decode cX6_waysWithNames 18 = .ok (.iload_n 3, 1) := by decide +kernel
theorem dX6_waysWithNames_19 : decode cX6_waysWithNames 19 = .ok (.invokevirtual 191, 3) := by decide +kernel
theorem dX6_waysWithNames_22 : decode cX6_waysWithNames 22 = .ok (.ifCond .eq 11, 3) := by decide +kernel
theorem dX6_waysWithNames_25 : decode cX6_waysWithNames 25 = .ok (.lload_n 1, 1) := by decide +kernel
theorem dX6_waysWithNames_26 : decode cX6_waysWithNames 26 = .ok (.aload_n 0, 1) := by decide +kernel
theorem dX6_waysWithNames_27 : decode cX6_waysWithNames 27 = .ok (.iload_n 3, 1) := by decide +kernel
theorem dX6_waysWithNames_28 : decode cX6_waysWithNames 28 = .ok (.invokevirtual 194, 3) := by decide +kernel
theorem dX6_waysWithNames_31 : decode cX6_waysWithNames 31 = .ok (.ladd, 1) := by decide +kernel
theorem dX6_waysWithNames_32 : decode cX6_waysWithNames 32 = .ok (.lstore_n 1, 1) := by decide +kernel
theorem dX6_waysWithNames_33 : decode cX6_waysWithNames 33 = .ok (.iinc 3 1, 3) := by decide +kernel
theorem dX6_waysWithNames_36 : decode cX6_waysWithNames 36 = .ok (.goto (-32), 3) := by decide +kernel
theorem dX6_waysWithNames_39 : decode cX6_waysWithNames 39 = .ok (.lload_n 1, 1) := by decide +kernel
theorem dX6_waysWithNames_40 : decode cX6_waysWithNames 40 = .ok (.lreturn, 1) := by decide +kernel
theorem dX6_allHaveNames_0 : decode cX6_allHaveNames 0 = .ok (.iconst 0, 1) := by decide +kernel
theorem dX6_allHaveNames_1 : decode cX6_allHaveNames 1 = .ok (.istore_n 2, 1) := by decide +kernel
theorem dX6_allHaveNames_2 : decode cX6_allHaveNames 2 = .ok (.iload_n 2, 1) := by decide +kernel
theorem dX6_allHaveNames_3 : decode cX6_allHaveNames 3 = .ok (.aload_n 0, 1) := by decide +kernel
theorem dX6_allHaveNames_4 : decode cX6_allHaveNames 4 = .ok (.getfield 10, 3) := by decide +kernel
theorem dX6_allHaveNames_7 : decode cX6_allHaveNames 7 = .ok (.getfield 179, 3) := by decide +kernel
theorem dX6_allHaveNames_10 : decode cX6_allHaveNames 10 = .ok (.if_icmp .ge 34, 3) := by decide +kernel
theorem dX6_allHaveNames_13 : decode cX6_allHaveNames 13 = .ok (.iload_n 1, 1) := by decide +kernel
theorem dX6_allHaveNames_14 : decode cX6_allHaveNames 14 = .ok (.iload_n 2, 1) := by decide +kernel
theorem dX6_allHaveNames_15 : decode cX6_allHaveNames 15 = .ok (.ishr, 1) := by decide +kernel
theorem dX6_allHaveNames_16 : decode cX6_allHaveNames 16 = .ok (.iconst 1, 1) := by decide +kernel
theorem dX6_allHaveNames_17 : decode cX6_allHaveNames 17 = .ok (.iand, 1) := by decide +kernel
theorem dX6_allHaveNames_18 : decode cX6_allHaveNames 18 = .ok (.ifCond .eq 20, 3) := by decide +kernel
theorem dX6_allHaveNames_21 : decode cX6_allHaveNames 21 = .ok (.aload_n 0, 1) := by decide +kernel
theorem dX6_allHaveNames_22 : decode cX6_allHaveNames 22 = .ok (.iload_n 1, 1) := by decide +kernel
theorem dX6_allHaveNames_23 : decode cX6_allHaveNames 23 = .ok (.iload_n 2, 1) := by decide +kernel
theorem dX6_allHaveNames_24 : decode cX6_allHaveNames 24 = .ok (.invokevirtual 198, 3) := by decide +kernel
theorem dX6_allHaveNames_27 : decode cX6_allHaveNames 27 = .ok (.aload_n 0, 1) := by decide +kernel
theorem dX6_allHaveNames_28 : decode cX6_allHaveNames 28 = .ok (.getfield 54, 3) := by decide +kernel
theorem dX6_allHaveNames_31 : decode cX6_allHaveNames 31 = .ok (.iload_n 2, 1) := by decide +kernel
theorem dX6_allHaveNames_32 : decode cX6_allHaveNames 32 = .ok (.iaload, 1) := by decide +kernel
theorem dX6_allHaveNames_33 : decode cX6_allHaveNames 33 = .ok (.if_icmp .le 5, 3) := by decide +kernel
theorem dX6_allHaveNames_36 : decode cX6_allHaveNames 36 = .ok (.iconst 0, 1) := by decide +kernel
theorem dX6_allHaveNames_37 : decode cX6_allHaveNames 37 = .ok (.ireturn, 1) := by decide +kernel
theorem dX6_allHaveNames_38 : decode cX6_allHaveNames 38 = .ok (.iinc 2 1, 3) := by decide +kernel
theorem dX6_allHaveNames_41 : decode cX6_allHaveNames 41 = .ok (.goto (-39), 3) := by decide +kernel
theorem dX6_allHaveNames_44 : decode cX6_allHaveNames 44 = .ok (.iconst 1, 1) := by decide +kernel
theorem dX6_allHaveNames_45 : decode cX6_allHaveNames 45 = .ok (.ireturn, 1) := by decide +kernel
theorem dX6_comingWith_0 : decode cX6_comingWith 0 = .ok (.iconst 0, 1) := by decide +kernel
theorem dX6_comingWith_1 : decode cX6_comingWith 1 = .ok (.istore_n 3, 1) := by decide +kernel
theorem dX6_comingWith_2 : decode cX6_comingWith 2 = .ok (.iconst 0, 1) := by decide +kernel
theorem dX6_comingWith_3 : decode cX6_comingWith 3 = .ok (.istore 4, 2) := by decide +kernel
theorem dX6_comingWith_5 : decode cX6_comingWith 5 = .ok (.iload 4, 2) := by decide +kernel
theorem dX6_comingWith_7 : decode cX6_comingWith 7 = .ok (.aload_n 0, 1) := by decide +kernel
theorem dX6_comingWith_8 : decode cX6_comingWith 8 = .ok (.getfield 10, 3) := by decide +kernel
theorem dX6_comingWith_11 : decode cX6_comingWith 11 = .ok (.getfield 179, 3) := by decide +kernel
theorem dX6_comingWith_14 : decode cX6_comingWith 14 = .ok (.if_icmp .ge 43, 3) := by decide +kernel
theorem dX6_comingWith_17 : decode cX6_comingWith 17 = .ok (.iload_n 1, 1) := by decide +kernel
theorem dX6_comingWith_18 : decode cX6_comingWith 18 = .ok (.iload 4, 2) := by decide +kernel
theorem dX6_comingWith_20 : decode cX6_comingWith 20 = .ok (.ishr, 1) := by decide +kernel
theorem dX6_comingWith_21 : decode cX6_comingWith 21 = .ok (.iconst 1, 1) := by decide +kernel
theorem dX6_comingWith_22 : decode cX6_comingWith 22 = .ok (.iand, 1) := by decide +kernel
theorem dX6_comingWith_23 : decode cX6_comingWith 23 = .ok (.ifCond .eq 28, 3) := by decide +kernel
theorem dX6_comingWith_26 : decode cX6_comingWith 26 = .ok (.aload_n 0, 1) := by decide +kernel
theorem dX6_comingWith_27 : decode cX6_comingWith 27 = .ok (.getfield 10, 3) := by decide +kernel
theorem dX6_comingWith_30 : decode cX6_comingWith 30 = .ok (.getfield 188, 3) := by decide +kernel
theorem dX6_comingWith_33 : decode cX6_comingWith 33 = .ok (.iload 4, 2) := by decide +kernel
theorem dX6_comingWith_35 : decode cX6_comingWith 35 = .ok (.iaload, 1) := by decide +kernel
theorem dX6_comingWith_36 : decode cX6_comingWith 36 = .ok (.aload_n 0, 1) := by decide +kernel
theorem dX6_comingWith_37 : decode cX6_comingWith 37 = .ok (.getfield 10, 3) := by decide +kernel
theorem dX6_comingWith_40 : decode cX6_comingWith 40 = .ok (.getfield 188, 3) := by decide +kernel
theorem dX6_comingWith_43 : decode cX6_comingWith 43 = .ok (.iload_n 2, 1) := by decide +kernel
theorem dX6_comingWith_44 : decode cX6_comingWith 44 = .ok (.iaload, 1) := by decide +kernel
theorem dX6_comingWith_45 : decode cX6_comingWith 45 = .ok (.if_icmp .ne 6, 3) := by decide +kernel
theorem dX6_comingWith_48 : decode cX6_comingWith 48 = .ok (.iinc 3 1, 3) := by decide +kernel
theorem dX6_comingWith_51 : decode cX6_comingWith 51 = .ok (.iinc 4 1, 3) := by decide +kernel
theorem dX6_comingWith_54 : decode cX6_comingWith 54 = .ok (.goto (-49), 3) := by decide +kernel
theorem dX6_comingWith_57 : decode cX6_comingWith 57 = .ok (.iload_n 3, 1) := by decide +kernel
theorem dX6_comingWith_58 : decode cX6_comingWith 58 = .ok (.ireturn, 1) := by decide +kernel
theorem dX6_waysOfComing_0 : decode cX6_waysOfComing 0 = .ok (.lconst 1, 1) := by decide +kernel
theorem dX6_waysOfComing_1 : decode cX6_waysOfComing 1 = .ok (.lstore_n 2, 1) := by decide +kernel
theorem dX6_waysOfComing_2 : decode cX6_waysOfComing 2 = .ok (.iconst 0, 1) := by decide +kernel
theorem dX6_waysOfComing_3 : decode cX6_waysOfComing 3 = .ok (.istore 4, 2) := by decide +kernel
theorem dX6_waysOfComing_5 : decode cX6_waysOfComing 5 = .ok (.iload 4, 2) := by decide +kernel
theorem dX6_waysOfComing_7 : decode cX6_waysOfComing 7 = .ok (.aload_n 0, 1) := by decide +kernel
theorem dX6_waysOfComing_8 : decode cX6_waysOfComing 8 = .ok (.getfield 10, 3) := by decide +kernel
theorem dX6_waysOfComing_11 : decode cX6_waysOfComing 11 = .ok (.getfield 179, 3) := by decide +kernel
theorem dX6_waysOfComing_14 : decode cX6_waysOfComing 14 = .ok (.if_icmp .ge 45, 3) := by decide +kernel
theorem dX6_waysOfComing_17 : decode cX6_waysOfComing 17 = .ok (.aload_n 0, 1) := by decide +kernel
theorem dX6_waysOfComing_18 : decode cX6_waysOfComing 18 = .ok (.getfield 10, 3) := by decide +kernel
theorem dX6_waysOfComing_21 : decode cX6_waysOfComing 21 = .ok (.getfield 201, 3) := by decide +kernel
theorem dX6_waysOfComing_24 : decode cX6_waysOfComing 24 = .ok (.iload 4, 2) := by decide +kernel
theorem dX6_waysOfComing_26 : decode cX6_waysOfComing 26 = .ok (.iaload, 1) := by decide +kernel
theorem dX6_waysOfComing_27 : decode cX6_waysOfComing 27 = .ok (.istore 5, 2) := by decide +kernel
theorem dX6_waysOfComing_29 : decode cX6_waysOfComing 29 = .ok (.lload_n 2, 1) := by decide +kernel
theorem dX6_waysOfComing_30 : decode cX6_waysOfComing 30 = .ok (.iload_n 1, 1) := by decide +kernel
theorem dX6_waysOfComing_31 : decode cX6_waysOfComing 31 = .ok (.iload 4, 2) := by decide +kernel
theorem dX6_waysOfComing_33 : decode cX6_waysOfComing 33 = .ok (.ishr, 1) := by decide +kernel
theorem dX6_waysOfComing_34 : decode cX6_waysOfComing 34 = .ok (.iconst 1, 1) := by decide +kernel
theorem dX6_waysOfComing_35 : decode cX6_waysOfComing 35 = .ok (.iand, 1) := by decide +kernel
theorem dX6_waysOfComing_36 : decode cX6_waysOfComing 36 = .ok (.ifCond .eq 9, 3) := by decide +kernel
theorem dX6_waysOfComing_39 : decode cX6_waysOfComing 39 = .ok (.iload 5, 2) := by decide +kernel
theorem dX6_waysOfComing_41 : decode cX6_waysOfComing 41 = .ok (.i2l, 1) := by decide +kernel
theorem dX6_waysOfComing_42 : decode cX6_waysOfComing 42 = .ok (.goto 9, 3) := by decide +kernel
theorem dX6_waysOfComing_45 : decode cX6_waysOfComing 45 = .ok (.bipush 10, 2) := by decide +kernel
theorem dX6_waysOfComing_47 : decode cX6_waysOfComing 47 = .ok (.iload 5, 2) := by decide +kernel
theorem dX6_waysOfComing_49 : decode cX6_waysOfComing 49 = .ok (.isub, 1) := by decide +kernel
theorem dX6_waysOfComing_50 : decode cX6_waysOfComing 50 = .ok (.i2l, 1) := by decide +kernel
theorem dX6_waysOfComing_51 : decode cX6_waysOfComing 51 = .ok (.lmul, 1) := by decide +kernel
theorem dX6_waysOfComing_52 : decode cX6_waysOfComing 52 = .ok (.lstore_n 2, 1) := by decide +kernel
theorem dX6_waysOfComing_53 : decode cX6_waysOfComing 53 = .ok (.iinc 4 1, 3) := by decide +kernel
theorem dX6_waysOfComing_56 : decode cX6_waysOfComing 56 = .ok (.goto (-51), 3) := by decide +kernel
theorem dX6_waysOfComing_59 : decode cX6_waysOfComing 59 = .ok (.lload_n 2, 1) := by decide +kernel
theorem dX6_waysOfComing_60 : decode cX6_waysOfComing 60 = .ok (.lreturn, 1) := by decide +kernel
theorem dX6_without_0 : decode cX6_without 0 = .ok (.iload_n 1, 1) := by decide +kernel
theorem dX6_without_1 : decode cX6_without 1 = .ok (.iload_n 2, 1) := by decide +kernel
theorem dX6_without_2 : decode cX6_without 2 = .ok (.invokestatic 204, 3) := by decide +kernel
theorem dX6_without_5 : decode cX6_without 5 = .ok (.ifCond .eq 10, 3) := by decide +kernel
theorem dX6_without_8 : decode cX6_without 8 = .ok (.iload_n 3, 1) := by decide +kernel
theorem dX6_without_9 : decode cX6_without 9 = .ok (.invokestatic 165, 3) := by decide +kernel
theorem dX6_without_12 : decode cX6_without 12 = .ok (.ifCond .ne 6, 3) := by decide +kernel
theorem dX6_without_15 : decode cX6_without 15 = .ok (.bipush (-3), 2) := by decide +kernel
theorem dX6_without_17 : decode cX6_without 17 = .ok (.ireturn, 1) := by decide +kernel
theorem dX6_without_18 : decode cX6_without 18 = .ok (.aload_n 0, 1) := by decide +kernel
theorem dX6_without_19 : decode cX6_without 19 = .ok (.getfield 37, 3) := by decide +kernel
theorem dX6_without_22 : decode cX6_without 22 = .ok (.aload_n 0, 1) := by decide +kernel
theorem dX6_without_23 : decode cX6_without 23 = .ok (.getfield 10, 3) := by decide +kernel
theorem dX6_without_26 : decode cX6_without 26 = .ok (.invokevirtual 207, 3) := by decide +kernel
theorem dX6_without_29 : decode cX6_without 29 = .ok (.iload_n 3, 1) := by decide +kernel
theorem dX6_without_30 : decode cX6_without 30 = .ok (.ifCond .ne 15, 3) := by decide +kernel
theorem dX6_without_33 : decode cX6_without 33 = .ok (.aload_n 0, 1) := by decide +kernel
theorem dX6_without_34 : decode cX6_without 34 = .ok (.getfield 37, 3) := by decide +kernel
theorem dX6_without_37 : decode cX6_without 37 = .ok (.iload_n 1, 1) := by decide +kernel
theorem dX6_without_38 : decode cX6_without 38 = .ok (.iload_n 2, 1) := by decide +kernel
theorem dX6_without_39 : decode cX6_without 39 = .ok (.invokevirtual 210, 3) := by decide +kernel
theorem dX6_without_42 : decode cX6_without 42 = .ok (.goto 12, 3) := by decide +kernel
theorem dX6_without_45 : decode cX6_without 45 = .ok (.aload_n 0, 1) := by decide +kernel
theorem dX6_without_46 : decode cX6_without 46 = .ok (.getfield 37, 3) := by decide +kernel
theorem dX6_without_49 : decode cX6_without 49 = .ok (.iload_n 1, 1) := by decide +kernel
theorem dX6_without_50 : decode cX6_without 50 = .ok (.iload_n 2, 1) := by decide +kernel
theorem dX6_without_51 : decode cX6_without 51 = .ok (.invokevirtual 213, 3) := by decide +kernel
theorem dX6_without_54 : decode cX6_without 54 = .ok (.ireturn, 1) := by decide +kernel
theorem dX6_mend_0 : decode cX6_mend 0 = .ok (.iload_n 1, 1) := by decide +kernel
theorem dX6_mend_1 : decode cX6_mend 1 = .ok (.iload_n 2, 1) := by decide +kernel
theorem dX6_mend_2 : decode cX6_mend 2 = .ok (.invokestatic 204, 3) := by decide +kernel
theorem dX6_mend_5 : decode cX6_mend 5 = .ok (.ifCond .ne 7, 3) := by decide +kernel
theorem dX6_mend_8 : decode cX6_mend 8 = .ok (.ldc2_w 157, 3) := by decide +kernel
theorem dX6_mend_11 : decode cX6_mend 11 = .ok (.lreturn, 1) := by decide +kernel
theorem dX6_mend_12 : decode cX6_mend 12 = .ok (.aload_n 0, 1) := by decide +kernel
theorem dX6_mend_13 : decode cX6_mend 13 = .ok (.getfield 37, 3) := by decide +kernel
theorem dX6_mend_16 : decode cX6_mend 16 = .ok (.aload_n 0, 1) := by decide +kernel
theorem dX6_mend_17 : decode cX6_mend 17 = .ok (.getfield 10, 3) := by decide +kernel
theorem dX6_mend_20 : decode cX6_mend 20 = .ok (.invokevirtual 207, 3) := by decide +kernel
theorem dX6_mend_23 : decode cX6_mend 23 = .ok (.aload_n 0, 1) := by decide +kernel
theorem dX6_mend_24 : decode cX6_mend 24 = .ok (.getfield 37, 3) := by decide +kernel
theorem dX6_mend_27 : decode cX6_mend 27 = .ok (.iload_n 1, 1) := by decide +kernel
theorem dX6_mend_28 : decode cX6_mend 28 = .ok (.iload_n 2, 1) := by decide +kernel
theorem dX6_mend_29 : decode cX6_mend 29 = .ok (.invokevirtual 213, 3) := by decide +kernel
theorem dX6_mend_32 : decode cX6_mend 32 = .ok (.iconst (-1), 1) := by decide +kernel
theorem dX6_mend_33 : decode cX6_mend 33 = .ok (.if_icmp .ne 5, 3) := by decide +kernel
theorem dX6_mend_36 : decode cX6_mend 36 = .ok (.lconst 0, 1) := by decide +kernel
theorem dX6_mend_37 : decode cX6_mend 37 = .ok (.lreturn, 1) := by decide +kernel
theorem dX6_mend_38 : decode cX6_mend 38 = .ok (.aload_n 0, 1) := by decide +kernel
theorem dX6_mend_39 : decode cX6_mend 39 = .ok (.getfield 10, 3) := by decide +kernel
theorem dX6_mend_42 : decode cX6_mend 42 = .ok (.getfield 216, 3) := by decide +kernel
theorem dX6_mend_45 : decode cX6_mend 45 = .ok (.bipush 10, 2) := by decide +kernel
theorem dX6_mend_47 : decode cX6_mend 47 = .ok (.if_icmp .lt 9, 3) := by decide +kernel
theorem dX6_mend_50 : decode cX6_mend 50 = .ok (.ldc2_w 219, 3) := by decide +kernel
theorem dX6_mend_53 : decode cX6_mend 53 = .ok (.goto 16, 3) := by decide +kernel
theorem dX6_mend_56 : decode cX6_mend 56 = .ok (.aload_n 0, 1) := by decide +kernel
theorem dX6_mend_57 : decode cX6_mend 57 = .ok (.getfield 37, 3) := by decide +kernel
theorem dX6_mend_60 : decode cX6_mend 60 = .ok (.aload_n 0, 1) := by decide +kernel
theorem dX6_mend_61 : decode cX6_mend 61 = .ok (.getfield 10, 3) := by decide +kernel
theorem dX6_mend_64 : decode cX6_mend 64 = .ok (.iload_n 1, 1) := by decide +kernel
theorem dX6_mend_65 : decode cX6_mend 65 = .ok (.iload_n 2, 1) := by decide +kernel
theorem dX6_mend_66 : decode cX6_mend 66 = .ok (.invokevirtual 221, 3) := by decide +kernel
theorem dX6_mend_69 : decode cX6_mend 69 = .ok (.lreturn, 1) := by decide +kernel
theorem dX6_old_0 : decode cX6_old 0 = .ok (.iload_n 2, 1) := by decide +kernel
theorem dX6_old_1 : decode cX6_old 1 = .ok (.iconst (-1), 1) := by decide +kernel
theorem dX6_old_2 : decode cX6_old 2 = .ok (.if_icmp .eq 13, 3) := by decide +kernel
theorem dX6_old_5 : decode cX6_old 5 = .ok (.iload_n 2, 1) := by decide +kernel
theorem dX6_old_6 : decode cX6_old 6 = .ok (.invokestatic 81, 3) := by decide +kernel
theorem dX6_old_9 : decode cX6_old 9 = .ok (.ifCond .ne 6, 3) := by decide +kernel
theorem dX6_old_12 : decode cX6_old 12 = .ok (.bipush (-2), 2) := by decide +kernel
theorem dX6_old_14 : decode cX6_old 14 = .ok (.ireturn, 1) := by decide +kernel
theorem dX6_old_15 : decode cX6_old 15 = .ok (.iload_n 1, 1) := by decide +kernel
theorem dX6_old_16 : decode cX6_old 16 = .ok (.iconst 1, 1) := by decide +kernel
theorem dX6_old_17 : decode cX6_old 17 = .ok (.if_icmp .lt 9, 3) := by decide +kernel
theorem dX6_old_20 : decode cX6_old 20 = .ok (.iload_n 1, 1) := by decide +kernel
theorem dX6_old_21 : decode cX6_old 21 = .ok (.bipush 9, 2) := by decide +kernel
theorem dX6_old_23 : decode cX6_old 23 = .ok (.if_icmp .le 6, 3) := by decide +kernel
theorem dX6_old_26 : decode cX6_old 26 = .ok (.bipush (-3), 2) := by decide +kernel
theorem dX6_old_28 : decode cX6_old 28 = .ok (.ireturn, 1) := by decide +kernel
theorem dX6_old_29 : decode cX6_old 29 = .ok (.aload_n 0, 1) := by decide +kernel
theorem dX6_old_30 : decode cX6_old 30 = .ok (.getfield 44, 3) := by decide +kernel
theorem dX6_old_33 : decode cX6_old 33 = .ok (.aload_n 0, 1) := by decide +kernel
theorem dX6_old_34 : decode cX6_old 34 = .ok (.getfield 10, 3) := by decide +kernel
theorem dX6_old_37 : decode cX6_old 37 = .ok (.iload_n 1, 1) := by decide +kernel
theorem dX6_old_38 : decode cX6_old 38 = .ok (.invokevirtual 225, 3) := by decide +kernel
theorem dX6_old_41 : decode cX6_old 41 = .ok (.ifCond .ne 6, 3) := by decide +kernel
theorem dX6_old_44 : decode cX6_old 44 = .ok (.bipush (-4), 2) := by decide +kernel
theorem dX6_old_46 : decode cX6_old 46 = .ok (.ireturn, 1) := by decide +kernel
theorem dX6_old_47 : decode cX6_old 47 = .ok (.iload_n 2, 1) := by decide +kernel
theorem dX6_old_48 : decode cX6_old 48 = .ok (.iconst (-1), 1) := by decide +kernel
theorem dX6_old_49 : decode cX6_old 49 = .ok (.if_icmp .ne 13, 3) := by decide +kernel
theorem dX6_old_52 : decode cX6_old 52 = .ok (.aload_n 0, 1) := by decide +kernel
theorem dX6_old_53 : decode cX6_old 53 = .ok (.getfield 44, 3) := by decide +kernel
theorem dX6_old_56 : decode cX6_old 56 = .ok (.getfield 229, 3) := by decide +kernel
theorem dX6_old_59 : decode cX6_old 59 = .ok (.goto 11, 3) := by decide +kernel
theorem dX6_old_62 : decode cX6_old 62 = .ok (.aload_n 0, 1) := by decide +kernel
theorem dX6_old_63 : decode cX6_old 63 = .ok (.getfield 44, 3) := by decide +kernel
theorem dX6_old_66 : decode cX6_old 66 = .ok (.iload_n 2, 1) := by decide +kernel
theorem dX6_old_67 : decode cX6_old 67 = .ok (.invokevirtual 232, 3) := by decide +kernel
theorem dX6_old_70 : decode cX6_old 70 = .ok (.ireturn, 1) := by decide +kernel
theorem dX6_reform_0 : decode cX6_reform 0 = .ok (.aload_n 0, 1) := by decide +kernel
theorem dX6_reform_1 : decode cX6_reform 1 = .ok (.getfield 10, 3) := by decide +kernel
theorem dX6_reform_4 : decode cX6_reform 4 = .ok (.iload_n 1, 1) := by decide +kernel
theorem dX6_reform_5 : decode cX6_reform 5 = .ok (.invokevirtual 88, 3) := by decide +kernel
theorem dX6_reform_8 : decode cX6_reform 8 = .ok (.ifCond .ne 6, 3) := by decide +kernel
theorem dX6_reform_11 : decode cX6_reform 11 = .ok (.bipush (-2), 2) := by decide +kernel
theorem dX6_reform_13 : decode cX6_reform 13 = .ok (.ireturn, 1) := by decide +kernel
theorem dX6_reform_14 : decode cX6_reform 14 = .ok (.iload_n 2, 1) := by decide +kernel
theorem dX6_reform_15 : decode cX6_reform 15 = .ok (.ifCond .lt 8, 3) := by decide +kernel
theorem dX6_reform_18 : decode cX6_reform 18 = .ok (.iload_n 2, 1) := by decide +kernel
theorem dX6_reform_19 : decode cX6_reform 19 = .ok (.iconst 2, 1) := by decide +kernel
theorem dX6_reform_20 : decode cX6_reform 20 = .ok (.if_icmp .le 6, 3) := by decide +kernel
theorem dX6_reform_23 : decode cX6_reform 23 = .ok (.bipush (-3), 2) := by decide +kernel
theorem dX6_reform_25 : decode cX6_reform 25 = .ok (.ireturn, 1) := by decide +kernel
theorem dX6_reform_26 : decode cX6_reform 26 = .ok (.aload_n 0, 1) := by decide +kernel
theorem dX6_reform_27 : decode cX6_reform 27 = .ok (.getfield 10, 3) := by decide +kernel
theorem dX6_reform_30 : decode cX6_reform 30 = .ok (.getfield 107, 3) := by decide +kernel
theorem dX6_reform_33 : decode cX6_reform 33 = .ok (.iload_n 1, 1) := by decide +kernel
theorem dX6_reform_34 : decode cX6_reform 34 = .ok (.laload, 1) := by decide +kernel
theorem dX6_reform_35 : decode cX6_reform 35 = .ok (.lconst 0, 1) := by decide +kernel
theorem dX6_reform_36 : decode cX6_reform 36 = .ok (.lcmp, 1) := by decide +kernel
theorem dX6_reform_37 : decode cX6_reform 37 = .ok (.ifCond .ne 6, 3) := by decide +kernel
theorem dX6_reform_40 : decode cX6_reform 40 = .ok (.bipush (-4), 2) := by decide +kernel
theorem dX6_reform_42 : decode cX6_reform 42 = .ok (.ireturn, 1) := by decide +kernel
theorem dX6_reform_43 : decode cX6_reform 43 = .ok (.aload_n 0, 1) := by decide +kernel
theorem dX6_reform_44 : decode cX6_reform 44 = .ok (.iload_n 1, 1) := by decide +kernel
theorem dX6_reform_45 : decode cX6_reform 45 = .ok (.invokevirtual 235, 3) := by decide +kernel
theorem dX6_reform_48 : decode cX6_reform 48 = .ok (.istore_n 3, 1) := by decide +kernel
theorem dX6_reform_49 : decode cX6_reform 49 = .ok (.iload_n 3, 1) := by decide +kernel
theorem dX6_reform_50 : decode cX6_reform 50 = .ok (.iconst (-1), 1) := by decide +kernel
theorem dX6_reform_51 : decode cX6_reform 51 = .ok (.if_icmp .eq 7, 3) := by decide +kernel
theorem dX6_reform_54 : decode cX6_reform 54 = .ok (.iload_n 2, 1) := by decide +kernel
theorem dX6_reform_55 : decode cX6_reform 55 = .ok (.ifCond .ne 5, 3) := by decide +kernel
theorem dX6_reform_58 : decode cX6_reform 58 = .ok (.iload_n 3, 1) := by decide +kernel
theorem dX6_reform_59 : decode cX6_reform 59 = .ok (.ireturn, 1) := by decide +kernel
theorem dX6_reform_60 : decode cX6_reform 60 = .ok (.iload_n 2, 1) := by decide +kernel
theorem dX6_reform_61 : decode cX6_reform 61 = .ok (.iconst 1, 1) := by decide +kernel
theorem dX6_reform_62 : decode cX6_reform 62 = .ok (.if_icmp .ne 12, 3) := by decide +kernel
theorem dX6_reform_65 : decode cX6_reform 65 = .ok (.aload_n 0, 1) := by decide +kernel
theorem dX6_reform_66 : decode cX6_reform 66 = .ok (.iload_n 1, 1) := by decide +kernel
theorem dX6_reform_67 : decode cX6_reform 67 = .ok (.iload_n 3, 1) := by decide +kernel
theorem dX6_reform_68 : decode cX6_reform 68 = .ok (.invokevirtual 238, 3) := by decide +kernel
theorem dX6_reform_71 : decode cX6_reform 71 = .ok (.goto 9, 3) := by decide +kernel
theorem dX6_reform_74 : decode cX6_reform 74 = .ok (.aload_n 0, 1) := by decide +kernel
theorem dX6_reform_75 : decode cX6_reform 75 = .ok (.iload_n 1, 1) := by decide +kernel
theorem dX6_reform_76 : decode cX6_reform 76 = .ok (.iload_n 3, 1) := by decide +kernel
theorem dX6_reform_77 : decode cX6_reform 77 = .ok (.invokevirtual 241, 3) := by decide +kernel
theorem dX6_reform_80 : decode cX6_reform 80 = .ok (.ireturn, 1) := by decide +kernel
theorem dX6_bestReformedLetter_0 : decode cX6_bestReformedLetter 0 = .ok (.iconst (-1), 1) := by decide +kernel
theorem dX6_bestReformedLetter_1 : decode cX6_bestReformedLetter 1 = .ok (.istore_n 2, 1) := by decide +kernel
theorem dX6_bestReformedLetter_2 : decode cX6_bestReformedLetter 2 = .ok (.bipush 16, 2) := by decide +kernel
theorem dX6_bestReformedLetter_4 : decode cX6_bestReformedLetter 4 = .ok (.istore_n 3, 1) := by decide +kernel
theorem dX6_bestReformedLetter_5 : decode cX6_bestReformedLetter 5 = .ok (.iconst 0, 1) := by decide +kernel
theorem dX6_bestReformedLetter_6 : decode cX6_bestReformedLetter 6 = .ok (.istore 4, 2) := by decide +kernel
theorem dX6_bestReformedLetter_8 : decode cX6_bestReformedLetter 8 = .ok (.iload 4, 2) := by decide +kernel
theorem dX6_bestReformedLetter_10 : decode cX6_bestReformedLetter 10 = .ok (.bipush 26, 2) := by decide +kernel
theorem dX6_bestReformedLetter_12 : decode cX6_bestReformedLetter 12 = .ok (.if_icmp .ge 42, 3) := by decide +kernel
theorem dX6_bestReformedLetter_15 : decode cX6_bestReformedLetter 15 = .ok (.aload_n 0, 1) := by decide +kernel
theorem dX6_bestReformedLetter_16 : decode cX6_bestReformedLetter 16 = .ok (.iload_n 1, 1) := by decide +kernel
theorem dX6_bestReformedLetter_17 : decode cX6_bestReformedLetter 17 = .ok (.iload 4, 2) := by decide +kernel
theorem dX6_bestReformedLetter_19 : decode cX6_bestReformedLetter 19 = .ok (.invokevirtual 238, 3) := by decide +kernel
theorem dX6_bestReformedLetter_22 : decode cX6_bestReformedLetter 22 = .ok (.iconst (-1), 1) := by decide +kernel
theorem dX6_bestReformedLetter_23 : decode cX6_bestReformedLetter 23 = .ok (.if_icmp .eq 25, 3) := by decide +kernel
theorem dX6_bestReformedLetter_26 : decode cX6_bestReformedLetter 26 = .ok (.aload_n 0, 1) := by decide +kernel
theorem dX6_bestReformedLetter_27 : decode cX6_bestReformedLetter 27 = .ok (.iload_n 1, 1) := by decide +kernel
theorem dX6_bestReformedLetter_28 : decode cX6_bestReformedLetter 28 = .ok (.iload 4, 2) := by decide +kernel
theorem dX6_bestReformedLetter_30 : decode cX6_bestReformedLetter 30 = .ok (.invokevirtual 241, 3) := by decide +kernel
theorem dX6_bestReformedLetter_33 : decode cX6_bestReformedLetter 33 = .ok (.iload_n 3, 1) := by decide +kernel
theorem dX6_bestReformedLetter_34 : decode cX6_bestReformedLetter 34 = .ok (.if_icmp .ge 14, 3) := by decide +kernel
theorem dX6_bestReformedLetter_37 : decode cX6_bestReformedLetter 37 = .ok (.iload 4, 2) := by decide +kernel
theorem dX6_bestReformedLetter_39 : decode cX6_bestReformedLetter 39 = .ok (.istore_n 2, 1) := by decide +kernel
theorem dX6_bestReformedLetter_40 : decode cX6_bestReformedLetter 40 = .ok (.aload_n 0, 1) := by decide +kernel
theorem dX6_bestReformedLetter_41 : decode cX6_bestReformedLetter 41 = .ok (.iload_n 1, 1) := by decide +kernel
theorem dX6_bestReformedLetter_42 : decode cX6_bestReformedLetter 42 = .ok (.iload 4, 2) := by decide +kernel
theorem dX6_bestReformedLetter_44 : decode cX6_bestReformedLetter 44 = .ok (.invokevirtual 241, 3) := by decide +kernel
theorem dX6_bestReformedLetter_47 : decode cX6_bestReformedLetter 47 = .ok (.istore_n 3, 1) := by decide +kernel
theorem dX6_bestReformedLetter_48 : decode cX6_bestReformedLetter 48 = .ok (.iinc 4 1, 3) := by decide +kernel
theorem dX6_bestReformedLetter_51 : decode cX6_bestReformedLetter 51 = .ok (.goto (-43), 3) := by decide +kernel
theorem dX6_bestReformedLetter_54 : decode cX6_bestReformedLetter 54 = .ok (.iload_n 2, 1) := by decide +kernel
theorem dX6_bestReformedLetter_55 : decode cX6_bestReformedLetter 55 = .ok (.ireturn, 1) := by decide +kernel
theorem dX6_reformedNumber_0 : decode cX6_reformedNumber 0 = .ok (.aload_n 0, 1) := by decide +kernel
theorem dX6_reformedNumber_1 : decode cX6_reformedNumber 1 = .ok (.getfield 10, 3) := by decide +kernel
theorem dX6_reformedNumber_4 : decode cX6_reformedNumber 4 = .ok (.getfield 85, 3) := by decide +kernel
theorem dX6_reformedNumber_7 : decode cX6_reformedNumber 7 = .ok (.iload_n 2, 1) := by decide +kernel
theorem dX6_reformedNumber_8 : decode cX6_reformedNumber 8 = .ok (.iaload, 1) := by decide +kernel
theorem dX6_reformedNumber_9 : decode cX6_reformedNumber 9 = .ok (.istore_n 3, 1) := by decide +kernel
theorem dX6_reformedNumber_10 : decode cX6_reformedNumber 10 = .ok (.aload_n 0, 1) := by decide +kernel
theorem dX6_reformedNumber_11 : decode cX6_reformedNumber 11 = .ok (.getfield 10, 3) := by decide +kernel
theorem dX6_reformedNumber_14 : decode cX6_reformedNumber 14 = .ok (.getfield 107, 3) := by decide +kernel
theorem dX6_reformedNumber_17 : decode cX6_reformedNumber 17 = .ok (.iload_n 1, 1) := by decide +kernel
theorem dX6_reformedNumber_18 : decode cX6_reformedNumber 18 = .ok (.laload, 1) := by decide +kernel
theorem dX6_reformedNumber_19 : decode cX6_reformedNumber 19 = .ok (.iload_n 2, 1) := by decide +kernel
theorem dX6_reformedNumber_20 : decode cX6_reformedNumber 20 = .ok (.invokestatic 244, 3) := by decide +kernel
theorem dX6_reformedNumber_23 : decode cX6_reformedNumber 23 = .ok (.istore 4, 2) := by decide +kernel
theorem dX6_reformedNumber_25 : decode cX6_reformedNumber 25 = .ok (.aload_n 0, 1) := by decide +kernel
theorem dX6_reformedNumber_26 : decode cX6_reformedNumber 26 = .ok (.getfield 10, 3) := by decide +kernel
theorem dX6_reformedNumber_29 : decode cX6_reformedNumber 29 = .ok (.getfield 91, 3) := by decide +kernel
theorem dX6_reformedNumber_32 : decode cX6_reformedNumber 32 = .ok (.iload_n 1, 1) := by decide +kernel
theorem dX6_reformedNumber_33 : decode cX6_reformedNumber 33 = .ok (.iaload, 1) := by decide +kernel
theorem dX6_reformedNumber_34 : decode cX6_reformedNumber 34 = .ok (.aload_n 0, 1) := by decide +kernel
theorem dX6_reformedNumber_35 : decode cX6_reformedNumber 35 = .ok (.getfield 10, 3) := by decide +kernel
theorem dX6_reformedNumber_38 : decode cX6_reformedNumber 38 = .ok (.aload_n 0, 1) := by decide +kernel
theorem dX6_reformedNumber_39 : decode cX6_reformedNumber 39 = .ok (.getfield 10, 3) := by decide +kernel
theorem dX6_reformedNumber_42 : decode cX6_reformedNumber 42 = .ok (.getfield 107, 3) := by decide +kernel
theorem dX6_reformedNumber_45 : decode cX6_reformedNumber 45 = .ok (.iload_n 1, 1) := by decide +kernel
theorem dX6_reformedNumber_46 : decode cX6_reformedNumber 46 = .ok (.laload, 1) := by decide +kernel
theorem dX6_reformedNumber_47 : decode cX6_reformedNumber 47 = .ok (.invokevirtual 130, 3) := by decide +kernel
theorem dX6_reformedNumber_50 : decode cX6_reformedNumber 50 = .ok (.isub, 1) := by decide +kernel
theorem dX6_reformedNumber_51 : decode cX6_reformedNumber 51 = .ok (.istore 5, 2) := by decide +kernel
theorem dX6_reformedNumber_53 : decode cX6_reformedNumber 53 = .ok (.iload 4, 2) := by decide +kernel
theorem dX6_reformedNumber_55 : decode cX6_reformedNumber 55 = .ok (.ifCond .ne 23, 3) := by decide +kernel
theorem dX6_reformedNumber_58 : decode cX6_reformedNumber 58 = .ok (.iload 5, 2) := by decide +kernel
theorem dX6_reformedNumber_60 : decode cX6_reformedNumber 60 = .ok (.ifCond .eq 7, 3) := by decide +kernel
theorem dX6_reformedNumber_63 : decode cX6_reformedNumber 63 = .ok (.iconst (-1), 1) := by decide +kernel
theorem dX6_reformedNumber_64 : decode cX6_reformedNumber 64 = .ok (.goto 13, 3) := by decide +kernel
theorem dX6_reformedNumber_67 : decode cX6_reformedNumber 67 = .ok (.iload_n 3, 1) := by decide +kernel
theorem dX6_reformedNumber_68 : decode cX6_reformedNumber 68 = .ok (.iconst 1, 1) := by decide +kernel
theorem dX6_reformedNumber_69 : decode cX6_reformedNumber 69 = .ok (.if_icmp .ne 7, 3) := by decide +kernel
theorem dX6_reformedNumber_72 : decode cX6_reformedNumber 72 = .ok (.iconst 2, 1) := by decide +kernel
theorem dX6_reformedNumber_73 : decode cX6_reformedNumber 73 = .ok (.goto 4, 3) := by decide +kernel
theorem dX6_reformedNumber_76 : decode cX6_reformedNumber 76 = .ok (.iconst 1, 1) := by decide +kernel
theorem dX6_reformedNumber_77 : decode cX6_reformedNumber 77 = .ok (.ireturn, 1) := by decide +kernel
theorem dX6_reformedNumber_78 : decode cX6_reformedNumber 78 = .ok (.iload 5, 2) := by decide +kernel
theorem dX6_reformedNumber_80 : decode cX6_reformedNumber 80 = .ok (.ifCond .eq 11, 3) := by decide +kernel
theorem dX6_reformedNumber_83 : decode cX6_reformedNumber 83 = .ok (.iload 5, 2) := by decide +kernel
theorem dX6_reformedNumber_85 : decode cX6_reformedNumber 85 = .ok (.iload 4, 2) := by decide +kernel
theorem dX6_reformedNumber_87 : decode cX6_reformedNumber 87 = .ok (.irem, 1) := by decide +kernel
theorem dX6_reformedNumber_88 : decode cX6_reformedNumber 88 = .ok (.ifCond .eq 5, 3) := by decide +kernel
theorem dX6_reformedNumber_91 : decode cX6_reformedNumber 91 = .ok (.iconst (-1), 1) := by decide +kernel
theorem dX6_reformedNumber_92 : decode cX6_reformedNumber 92 = .ok (.ireturn, 1) := by decide +kernel
theorem dX6_reformedNumber_93 : decode cX6_reformedNumber 93 = .ok (.iload_n 3, 1) := by decide +kernel
theorem dX6_reformedNumber_94 : decode cX6_reformedNumber 94 = .ok (.iload 5, 2) := by decide +kernel
theorem dX6_reformedNumber_96 : decode cX6_reformedNumber 96 = .ok (.iload 4, 2) := by decide +kernel
theorem dX6_reformedNumber_98 : decode cX6_reformedNumber 98 = .ok (.idiv, 1) := by decide +kernel
theorem dX6_reformedNumber_99 : decode cX6_reformedNumber 99 = .ok (.iadd, 1) := by decide +kernel
theorem dX6_reformedNumber_100 : decode cX6_reformedNumber 100 = .ok (.istore 6, 2) := by decide +kernel
theorem dX6_reformedNumber_102 : decode cX6_reformedNumber 102 = .ok (.iload 6, 2) := by decide +kernel
theorem dX6_reformedNumber_104 : decode cX6_reformedNumber 104 = .ok (.iconst 1, 1) := by decide +kernel
theorem dX6_reformedNumber_105 : decode cX6_reformedNumber 105 = .ok (.if_icmp .lt 15, 3) := by decide +kernel
theorem dX6_reformedNumber_108 : decode cX6_reformedNumber 108 = .ok (.iload 6, 2) := by decide +kernel
theorem dX6_reformedNumber_110 : decode cX6_reformedNumber 110 = .ok (.bipush 99, 2) := by decide +kernel
theorem dX6_reformedNumber_112 : decode cX6_reformedNumber 112 = .ok (.if_icmp .gt 8, 3) := by decide +kernel
theorem dX6_reformedNumber_115 : decode cX6_reformedNumber 115 = .ok (.iload 6, 2) := by decide +kernel
theorem dX6_reformedNumber_117 : decode cX6_reformedNumber 117 = .ok (.goto 4, 3) := by decide +kernel
theorem dX6_reformedNumber_120 : decode cX6_reformedNumber 120 = .ok (.iconst (-1), 1) := by decide +kernel
theorem dX6_reformedNumber_121 : decode cX6_reformedNumber 121 = .ok (.ireturn, 1) := by decide +kernel
theorem dX6_calledAnew_0 : decode cX6_calledAnew 0 = .ok (.iconst 0, 1) := by decide +kernel
theorem dX6_calledAnew_1 : decode cX6_calledAnew 1 = .ok (.istore_n 3, 1) := by decide +kernel
theorem dX6_calledAnew_2 : decode cX6_calledAnew 2 = .ok (.iconst 0, 1) := by decide +kernel
theorem dX6_calledAnew_3 : decode cX6_calledAnew 3 = .ok (.istore 4, 2) := by decide +kernel
theorem dX6_calledAnew_5 : decode cX6_calledAnew 5 = .ok (.iload 4, 2) := by decide +kernel
theorem dX6_calledAnew_7 : decode cX6_calledAnew 7 = .ok (.aload_n 0, 1) := by decide +kernel
theorem dX6_calledAnew_8 : decode cX6_calledAnew 8 = .ok (.getfield 10, 3) := by decide +kernel
theorem dX6_calledAnew_11 : decode cX6_calledAnew 11 = .ok (.getfield 247, 3) := by decide +kernel
theorem dX6_calledAnew_14 : decode cX6_calledAnew 14 = .ok (.if_icmp .ge 47, 3) := by decide +kernel
theorem dX6_calledAnew_17 : decode cX6_calledAnew 17 = .ok (.iload 4, 2) := by decide +kernel
theorem dX6_calledAnew_19 : decode cX6_calledAnew 19 = .ok (.iload_n 1, 1) := by decide +kernel
theorem dX6_calledAnew_20 : decode cX6_calledAnew 20 = .ok (.if_icmp .eq 35, 3) := by decide +kernel
theorem dX6_calledAnew_23 : decode cX6_calledAnew 23 = .ok (.aload_n 0, 1) := by decide +kernel
theorem dX6_calledAnew_24 : decode cX6_calledAnew 24 = .ok (.getfield 10, 3) := by decide +kernel
theorem dX6_calledAnew_27 : decode cX6_calledAnew 27 = .ok (.iload 4, 2) := by decide +kernel
theorem dX6_calledAnew_29 : decode cX6_calledAnew 29 = .ok (.invokevirtual 250, 3) := by decide +kernel
theorem dX6_calledAnew_32 : decode cX6_calledAnew 32 = .ok (.ifCond .eq 23, 3) := by decide +kernel
theorem dX6_calledAnew_35 : decode cX6_calledAnew 35 = .ok (.aload_n 0, 1) := by decide +kernel
theorem dX6_calledAnew_36 : decode cX6_calledAnew 36 = .ok (.getfield 10, 3) := by decide +kernel
theorem dX6_calledAnew_39 : decode cX6_calledAnew 39 = .ok (.getfield 107, 3) := by decide +kernel
theorem dX6_calledAnew_42 : decode cX6_calledAnew 42 = .ok (.iload 4, 2) := by decide +kernel
theorem dX6_calledAnew_44 : decode cX6_calledAnew 44 = .ok (.laload, 1) := by decide +kernel
theorem dX6_calledAnew_45 : decode cX6_calledAnew 45 = .ok (.iload_n 2, 1) := by decide +kernel
theorem dX6_calledAnew_46 : decode cX6_calledAnew 46 = .ok (.invokestatic 244, 3) := by decide +kernel
theorem dX6_calledAnew_49 : decode cX6_calledAnew 49 = .ok (.ifCond .le 6, 3) := by decide +kernel
theorem dX6_calledAnew_52 : decode cX6_calledAnew 52 = .ok (.iinc 3 1, 3) := by decide +kernel
theorem dX6_calledAnew_55 : decode cX6_calledAnew 55 = .ok (.iinc 4 1, 3) := by decide +kernel
theorem dX6_calledAnew_58 : decode cX6_calledAnew 58 = .ok (.goto (-53), 3) := by decide +kernel
theorem dX6_calledAnew_61 : decode cX6_calledAnew 61 = .ok (.iload_n 3, 1) := by decide +kernel
theorem dX6_calledAnew_62 : decode cX6_calledAnew 62 = .ok (.ireturn, 1) := by decide +kernel
theorem dX6_nicknames_0 : decode cX6_nicknames 0 = .ok (.aload_n 0, 1) := by decide +kernel
theorem dX6_nicknames_1 : decode cX6_nicknames 1 = .ok (.getfield 10, 3) := by decide +kernel
theorem dX6_nicknames_4 : decode cX6_nicknames 4 = .ok (.iload_n 1, 1) := by decide +kernel
theorem dX6_nicknames_5 : decode cX6_nicknames 5 = .ok (.invokevirtual 88, 3) := by decide +kernel
theorem dX6_nicknames_8 : decode cX6_nicknames 8 = .ok (.ifCond .ne 7, 3) := by decide +kernel
theorem dX6_nicknames_11 : decode cX6_nicknames 11 = .ok (.ldc2_w 111, 3) := by decide +kernel
theorem dX6_nicknames_14 : decode cX6_nicknames 14 = .ok (.lreturn, 1) := by decide +kernel
theorem dX6_nicknames_15 : decode cX6_nicknames 15 = .ok (.iload_n 2, 1) := by decide +kernel
theorem dX6_nicknames_16 : decode cX6_nicknames 16 = .ok (.invokestatic 165, 3) := by decide +kernel
theorem dX6_nicknames_19 : decode cX6_nicknames 19 = .ok (.ifCond .ne 7, 3) := by decide +kernel
theorem dX6_nicknames_22 : decode cX6_nicknames 22 = .ok (.ldc2_w 157, 3) := by decide +kernel
theorem dX6_nicknames_25 : decode cX6_nicknames 25 = .ok (.lreturn, 1) := by decide +kernel
theorem dX6_nicknames_26 : decode cX6_nicknames 26 = .ok (.aload_n 0, 1) := by decide +kernel
theorem dX6_nicknames_27 : decode cX6_nicknames 27 = .ok (.getfield 10, 3) := by decide +kernel
theorem dX6_nicknames_30 : decode cX6_nicknames 30 = .ok (.getfield 107, 3) := by decide +kernel
theorem dX6_nicknames_33 : decode cX6_nicknames 33 = .ok (.iload_n 1, 1) := by decide +kernel
theorem dX6_nicknames_34 : decode cX6_nicknames 34 = .ok (.laload, 1) := by decide +kernel
theorem dX6_nicknames_35 : decode cX6_nicknames 35 = .ok (.lconst 0, 1) := by decide +kernel
theorem dX6_nicknames_36 : decode cX6_nicknames 36 = .ok (.lcmp, 1) := by decide +kernel
theorem dX6_nicknames_37 : decode cX6_nicknames 37 = .ok (.ifCond .ne 7, 3) := by decide +kernel
theorem dX6_nicknames_40 : decode cX6_nicknames 40 = .ok (.ldc2_w 219, 3) := by decide +kernel
theorem dX6_nicknames_43 : decode cX6_nicknames 43 = .ok (.lreturn, 1) := by decide +kernel
theorem dX6_nicknames_44 : decode cX6_nicknames 44 = .ok (.aload_n 0, 1) := by decide +kernel
theorem dX6_nicknames_45 : decode cX6_nicknames 45 = .ok (.getfield 30, 3) := by decide +kernel
theorem dX6_nicknames_48 : decode cX6_nicknames 48 = .ok (.aload_n 0, 1) := by decide +kernel
theorem dX6_nicknames_49 : decode cX6_nicknames 49 = .ok (.getfield 10, 3) := by decide +kernel
theorem dX6_nicknames_52 : decode cX6_nicknames 52 = .ok (.aload_n 0, 1) := by decide +kernel
theorem dX6_nicknames_53 : decode cX6_nicknames 53 = .ok (.getfield 10, 3) := by decide +kernel
theorem dX6_nicknames_56 : decode cX6_nicknames 56 = .ok (.getfield 91, 3) := by decide +kernel
theorem dX6_nicknames_59 : decode cX6_nicknames 59 = .ok (.iload_n 1, 1) := by decide +kernel
theorem dX6_nicknames_60 : decode cX6_nicknames 60 = .ok (.iaload, 1) := by decide +kernel
theorem dX6_nicknames_61 : decode cX6_nicknames 61 = .ok (.iconst 1, 1) := by decide +kernel
theorem dX6_nicknames_62 : decode cX6_nicknames 62 = .ok (.invokevirtual 147, 3) := by decide +kernel
theorem dX6_nicknames_65 : decode cX6_nicknames 65 = .ok (.aload_n 0, 1) := by decide +kernel
theorem dX6_nicknames_66 : decode cX6_nicknames 66 = .ok (.getfield 30, 3) := by decide +kernel
theorem dX6_nicknames_69 : decode cX6_nicknames 69 = .ok (.aload_n 0, 1) := by decide +kernel
theorem dX6_nicknames_70 : decode cX6_nicknames 70 = .ok (.getfield 10, 3) := by decide +kernel
theorem dX6_nicknames_73 : decode cX6_nicknames 73 = .ok (.getfield 107, 3) := by decide +kernel
theorem dX6_nicknames_76 : decode cX6_nicknames 76 = .ok (.iload_n 1, 1) := by decide +kernel
theorem dX6_nicknames_77 : decode cX6_nicknames 77 = .ok (.laload, 1) := by decide +kernel
theorem dX6_nicknames_78 : decode cX6_nicknames 78 = .ok (.invokevirtual 253, 3) := by decide +kernel
theorem dX6_nicknames_81 : decode cX6_nicknames 81 = .ok (.iload_n 2, 1) := by decide +kernel
theorem dX6_nicknames_82 : decode cX6_nicknames 82 = .ok (.ifCond .ne 12, 3) := by decide +kernel
theorem dX6_nicknames_85 : decode cX6_nicknames 85 = .ok (.aload_n 0, 1) := by decide +kernel
theorem dX6_nicknames_86 : decode cX6_nicknames 86 = .ok (.getfield 30, 3) := by decide +kernel
theorem dX6_nicknames_89 : decode cX6_nicknames 89 = .ok (.getfield 151, 3) := by decide +kernel
theorem dX6_nicknames_92 : decode cX6_nicknames 92 = .ok (.i2l, 1) := by decide +kernel
theorem dX6_nicknames_93 : decode cX6_nicknames 93 = .ok (.lreturn, 1) := by decide +kernel
theorem dX6_nicknames_94 : decode cX6_nicknames 94 = .ok (.aload_n 0, 1) := by decide +kernel
theorem dX6_nicknames_95 : decode cX6_nicknames 95 = .ok (.getfield 30, 3) := by decide +kernel
theorem dX6_nicknames_98 : decode cX6_nicknames 98 = .ok (.getfield 151, 3) := by decide +kernel
theorem dX6_nicknames_101 : decode cX6_nicknames 101 = .ok (.ifCond .le 15, 3) := by decide +kernel
theorem dX6_nicknames_104 : decode cX6_nicknames 104 = .ok (.aload_n 0, 1) := by decide +kernel
theorem dX6_nicknames_105 : decode cX6_nicknames 105 = .ok (.getfield 30, 3) := by decide +kernel
theorem dX6_nicknames_108 : decode cX6_nicknames 108 = .ok (.getfield 154, 3) := by decide +kernel
theorem dX6_nicknames_111 : decode cX6_nicknames 111 = .ok (.iconst 0, 1) := by decide +kernel
theorem dX6_nicknames_112 : decode cX6_nicknames 112 = .ok (.laload, 1) := by decide +kernel
theorem dX6_nicknames_113 : decode cX6_nicknames 113 = .ok (.goto 6, 3) := by decide +kernel
theorem dX6_nicknames_116 : decode cX6_nicknames 116 = .ok (.ldc2_w 159, 3) := by decide +kernel
theorem dX6_nicknames_119 : decode cX6_nicknames 119 = .ok (.lreturn, 1) := by decide +kernel
theorem dX6_page_0 : decode cX6_page 0 = .ok (.iload_n 1, 1) := by decide +kernel
theorem dX6_page_1 : decode cX6_page 1 = .ok (.iconst (-1), 1) := by decide +kernel
theorem dX6_page_2 : decode cX6_page 2 = .ok (.aload_n 0, 1) := by decide +kernel
theorem dX6_page_3 : decode cX6_page 3 = .ok (.getfield 10, 3) := by decide +kernel
theorem dX6_page_6 : decode cX6_page 6 = .ok (.getfield 247, 3) := by decide +kernel
theorem dX6_page_9 : decode cX6_page 9 = .ok (.ishl, 1) := by decide +kernel
theorem dX6_page_10 : decode cX6_page 10 = .ok (.iand, 1) := by decide +kernel
theorem dX6_page_11 : decode cX6_page 11 = .ok (.ifCond .ne 21, 3) := by decide +kernel
theorem dX6_page_14 : decode cX6_page 14 = .ok (.iload_n 2, 1) := by decide +kernel
theorem dX6_page_15 : decode cX6_page 15 = .ok (.ifCond .lt 17, 3) := by decide +kernel
theorem dX6_page_18 : decode cX6_page 18 = .ok (.iload_n 2, 1) := by decide +kernel
theorem dX6_page_19 : decode cX6_page 19 = .ok (.sipush 9999, 3) := by decide +kernel
theorem dX6_page_22 : decode cX6_page 22 = .ok (.if_icmp .gt 10, 3) := by decide +kernel
theorem dX6_page_25 : decode cX6_page 25 = .ok (.iload_n 3, 1) := by decide +kernel
theorem dX6_page_26 : decode cX6_page 26 = .ok (.invokestatic 165, 3) := by decide +kernel
theorem dX6_page_29 : decode cX6_page 29 = .ok (.ifCond .ne 6, 3) := by decide +kernel
theorem dX6_page_32 : decode cX6_page 32 = .ok (.bipush (-3), 2) := by decide +kernel
theorem dX6_page_34 : decode cX6_page 34 = .ok (.ireturn, 1) := by decide +kernel
theorem dX6_page_35 : decode cX6_page 35 = .ok (.aload_n 0, 1) := by decide +kernel
theorem dX6_page_36 : decode cX6_page 36 = .ok (.getfield 10, 3) := by decide +kernel
theorem dX6_page_39 : decode cX6_page 39 = .ok (.lconst 0, 1) := by decide +kernel
theorem dX6_page_40 : decode cX6_page 40 = .ok (.iload_n 1, 1) := by decide +kernel
theorem dX6_page_41 : decode cX6_page 41 = .ok (.invokevirtual 140, 3) := by decide +kernel
theorem dX6_page_44 : decode cX6_page 44 = .ok (.iconst (-1), 1) := by decide +kernel
theorem dX6_page_45 : decode cX6_page 45 = .ok (.if_icmp .eq 6, 3) := by decide +kernel
theorem dX6_page_48 : decode cX6_page 48 = .ok (.bipush (-4), 2) := by decide +kernel
theorem dX6_page_50 : decode cX6_page 50 = .ok (.ireturn, 1) := by decide +kernel
theorem dX6_page_51 : decode cX6_page 51 = .ok (.iload_n 2, 1) := by decide +kernel
theorem dX6_page_52 : decode cX6_page 52 = .ok (.aload_n 0, 1) := by decide +kernel
theorem dX6_page_53 : decode cX6_page 53 = .ok (.getfield 10, 3) := by decide +kernel
theorem dX6_page_56 : decode cX6_page 56 = .ok (.iload_n 1, 1) := by decide +kernel
theorem dX6_page_57 : decode cX6_page 57 = .ok (.invokevirtual 257, 3) := by decide +kernel
theorem dX6_page_60 : decode cX6_page 60 = .ok (.isub, 1) := by decide +kernel
theorem dX6_page_61 : decode cX6_page 61 = .ok (.istore 4, 2) := by decide +kernel
theorem dX6_page_63 : decode cX6_page 63 = .ok (.iconst 0, 1) := by decide +kernel
theorem dX6_page_64 : decode cX6_page 64 = .ok (.istore 5, 2) := by decide +kernel
theorem dX6_page_66 : decode cX6_page 66 = .ok (.iconst 0, 1) := by decide +kernel
theorem dX6_page_67 : decode cX6_page 67 = .ok (.istore 6, 2) := by decide +kernel
theorem dX6_page_69 : decode cX6_page 69 = .ok (.iload 6, 2) := by decide +kernel
theorem dX6_page_71 : decode cX6_page 71 = .ok (.aload_n 0, 1) := by decide +kernel
theorem dX6_page_72 : decode cX6_page 72 = .ok (.getfield 10, 3) := by decide +kernel
theorem dX6_page_75 : decode cX6_page 75 = .ok (.getfield 247, 3) := by decide +kernel
theorem dX6_page_78 : decode cX6_page 78 = .ok (.if_icmp .ge 63, 3) := by decide +kernel
theorem dX6_page_81 : decode cX6_page 81 = .ok (.iload_n 1, 1) := by decide +kernel
theorem dX6_page_82 : decode cX6_page 82 = .ok (.iload 6, 2) := by decide +kernel
theorem dX6_page_84 : decode cX6_page 84 = .ok (.ishr, 1) := by decide +kernel
theorem dX6_page_85 : decode cX6_page 85 = .ok (.iconst 1, 1) := by decide +kernel
theorem dX6_page_86 : decode cX6_page 86 = .ok (.iand, 1) := by decide +kernel
theorem dX6_page_87 : decode cX6_page 87 = .ok (.ifCond .eq 25, 3) := by decide +kernel
theorem dX6_page_90 : decode cX6_page 90 = .ok (.aload_n 0, 1) := by decide +kernel
theorem dX6_page_91 : decode cX6_page 91 = .ok (.getfield 10, 3) := by decide +kernel
theorem dX6_page_94 : decode cX6_page 94 = .ok (.aload_n 0, 1) := by decide +kernel
theorem dX6_page_95 : decode cX6_page 95 = .ok (.getfield 10, 3) := by decide +kernel
theorem dX6_page_98 : decode cX6_page 98 = .ok (.getfield 107, 3) := by decide +kernel
theorem dX6_page_101 : decode cX6_page 101 = .ok (.iload 6, 2) := by decide +kernel
theorem dX6_page_103 : decode cX6_page 103 = .ok (.laload, 1) := by decide +kernel
theorem dX6_page_104 : decode cX6_page 104 = .ok (.iload 4, 2) := by decide +kernel
theorem dX6_page_106 : decode cX6_page 106 = .ok (.invokevirtual 260, 3) := by decide +kernel
theorem dX6_page_109 : decode cX6_page 109 = .ok (.goto 4, 3) := by decide +kernel
theorem dX6_page_112 : decode cX6_page 112 = .ok (.iconst 0, 1) := by decide +kernel
theorem dX6_page_113 : decode cX6_page 113 = .ok (.istore 7, 2) := by decide +kernel
theorem dX6_page_115 : decode cX6_page 115 = .ok (.iload 7, 2) := by decide +kernel
theorem dX6_page_117 : decode cX6_page 117 = .ok (.ifCond .le 11, 3) := by decide +kernel
theorem dX6_page_120 : decode cX6_page 120 = .ok (.iload_n 3, 1) := by decide +kernel
theorem dX6_page_121 : decode cX6_page 121 = .ok (.iconst 1, 1) := by decide +kernel
theorem dX6_page_122 : decode cX6_page 122 = .ok (.if_icmp .ne 6, 3) := by decide +kernel
theorem dX6_page_125 : decode cX6_page 125 = .ok (.iload 6, 2) := by decide +kernel
theorem dX6_page_127 : decode cX6_page 127 = .ok (.ireturn, 1) := by decide +kernel
theorem dX6_page_128 : decode cX6_page 128 = .ok (.iload 5, 2) := by decide +kernel
theorem dX6_page_130 : decode cX6_page 130 = .ok (.iload 7, 2) := by decide +kernel
theorem dX6_page_132 : decode cX6_page 132 = .ok (.iadd, 1) := by decide +kernel
theorem dX6_page_133 : decode cX6_page 133 = .ok (.istore 5, 2) := by decide +kernel
theorem dX6_page_135 : decode cX6_page 135 = .ok (.iinc 6 1, 3) := by decide +kernel
theorem dX6_page_138 : decode cX6_page 138 = .ok (.goto (-69), 3) := by decide +kernel
theorem dX6_page_141 : decode cX6_page 141 = .ok (.iload_n 3, 1) := by decide +kernel
theorem dX6_page_142 : decode cX6_page 142 = .ok (.ifCond .ne 8, 3) := by decide +kernel
theorem dX6_page_145 : decode cX6_page 145 = .ok (.iload 5, 2) := by decide +kernel
theorem dX6_page_147 : decode cX6_page 147 = .ok (.goto 4, 3) := by decide +kernel
theorem dX6_page_150 : decode cX6_page 150 = .ok (.iconst (-1), 1) := by decide +kernel
theorem dX6_page_151 : decode cX6_page 151 = .ok (.ireturn, 1) := by decide +kernel
theorem dX6_sheet_0 : decode cX6_sheet 0 = .ok (.iload_n 1, 1) := by decide +kernel
theorem dX6_sheet_1 : decode cX6_sheet 1 = .ok (.invokestatic 263, 3) := by decide +kernel
theorem dX6_sheet_4 : decode cX6_sheet 4 = .ok (.ifCond .ne 6, 3) := by decide +kernel
theorem dX6_sheet_7 : decode cX6_sheet 7 = .ok (.bipush (-2), 2) := by decide +kernel
theorem dX6_sheet_9 : decode cX6_sheet 9 = .ok (.ireturn, 1) := by decide +kernel
theorem dX6_sheet_10 : decode cX6_sheet 10 = .ok (.iload_n 2, 1) := by decide +kernel
theorem dX6_sheet_11 : decode cX6_sheet 11 = .ok (.invokestatic 266, 3) := by decide +kernel
theorem dX6_sheet_14 : decode cX6_sheet 14 = .ok (.ifCond .eq 9, 3) := by decide +kernel
theorem dX6_sheet_17 : decode cX6_sheet 17 = .ok (.iload_n 3, 1) := by decide +kernel
theorem dX6_sheet_18 : decode cX6_sheet 18 = .ok (.bipush 20, 2) := by decide +kernel
theorem dX6_sheet_20 : decode cX6_sheet 20 = .ok (.if_icmp .le 6, 3) := by decide +kernel
theorem dX6_sheet_23 : decode cX6_sheet 23 = .ok (.bipush (-3), 2) := by decide +kernel
theorem dX6_sheet_25 : decode cX6_sheet 25 = .ok (.ireturn, 1) := by decide +kernel
theorem dX6_sheet_26 : decode cX6_sheet 26 = .ok (.iload_n 3, 1) := by decide +kernel
theorem dX6_sheet_27 : decode cX6_sheet 27 = .ok (.ifCond .ge 6, 3) := by decide +kernel
theorem dX6_sheet_30 : decode cX6_sheet 30 = .ok (.bipush (-14), 2) := by decide +kernel
theorem dX6_sheet_32 : decode cX6_sheet 32 = .ok (.ireturn, 1) := by decide +kernel
theorem dX6_sheet_33 : decode cX6_sheet 33 = .ok (.aload_n 0, 1) := by decide +kernel
theorem dX6_sheet_34 : decode cX6_sheet 34 = .ok (.getfield 50, 3) := by decide +kernel
theorem dX6_sheet_37 : decode cX6_sheet 37 = .ok (.iload_n 1, 1) := by decide +kernel
theorem dX6_sheet_38 : decode cX6_sheet 38 = .ok (.aaload, 1) := by decide +kernel
theorem dX6_sheet_39 : decode cX6_sheet 39 = .ok (.iload_n 2, 1) := by decide +kernel
theorem dX6_sheet_40 : decode cX6_sheet 40 = .ok (.iload_n 3, 1) := by decide +kernel
theorem dX6_sheet_41 : decode cX6_sheet 41 = .ok (.invokevirtual 269, 3) := by decide +kernel
theorem dX6_sheet_44 : decode cX6_sheet 44 = .ok (.iconst 1, 1) := by decide +kernel
theorem dX6_sheet_45 : decode cX6_sheet 45 = .ok (.ireturn, 1) := by decide +kernel
theorem dX6_tear_0 : decode cX6_tear 0 = .ok (.iload_n 1, 1) := by decide +kernel
theorem dX6_tear_1 : decode cX6_tear 1 = .ok (.invokestatic 263, 3) := by decide +kernel
theorem dX6_tear_4 : decode cX6_tear 4 = .ok (.ifCond .ne 6, 3) := by decide +kernel
theorem dX6_tear_7 : decode cX6_tear 7 = .ok (.bipush (-2), 2) := by decide +kernel
theorem dX6_tear_9 : decode cX6_tear 9 = .ok (.ireturn, 1) := by decide +kernel
theorem dX6_tear_10 : decode cX6_tear 10 = .ok (.aload_n 0, 1) := by decide +kernel
theorem dX6_tear_11 : decode cX6_tear 11 = .ok (.getfield 50, 3) := by decide +kernel
theorem dX6_tear_14 : decode cX6_tear 14 = .ok (.iload_n 1, 1) := by decide +kernel
theorem dX6_tear_15 : decode cX6_tear 15 = .ok (.aaload, 1) := by decide +kernel
theorem dX6_tear_16 : decode cX6_tear 16 = .ok (.iconst (-1), 1) := by decide +kernel
theorem dX6_tear_17 : decode cX6_tear 17 = .ok (.putfield 273, 3) := by decide +kernel
theorem dX6_tear_20 : decode cX6_tear 20 = .ok (.iconst 1, 1) := by decide +kernel
theorem dX6_tear_21 : decode cX6_tear 21 = .ok (.ireturn, 1) := by decide +kernel
theorem dX6_lay_0 : decode cX6_lay 0 = .ok (.iload_n 1, 1) := by decide +kernel
theorem dX6_lay_1 : decode cX6_lay 1 = .ok (.invokestatic 263, 3) := by decide +kernel
theorem dX6_lay_4 : decode cX6_lay 4 = .ok (.ifCond .ne 6, 3) := by decide +kernel
theorem dX6_lay_7 : decode cX6_lay 7 = .ok (.bipush (-2), 2) := by decide +kernel
theorem dX6_lay_9 : decode cX6_lay 9 = .ok (.ireturn, 1) := by decide +kernel
theorem dX6_lay_10 : decode cX6_lay 10 = .ok (.aload_n 0, 1) := by decide +kernel
theorem dX6_lay_11 : decode cX6_lay 11 = .ok (.getfield 50, 3) := by decide +kernel
theorem dX6_lay_14 : decode cX6_lay 14 = .ok (.iload_n 1, 1) := by decide +kernel
theorem dX6_lay_15 : decode cX6_lay 15 = .ok (.aaload, 1) := by decide +kernel
theorem dX6_lay_16 : decode cX6_lay 16 = .ok (.invokevirtual 274, 3) := by decide +kernel
theorem dX6_lay_19 : decode cX6_lay 19 = .ok (.ifCond .eq 6, 3) := by decide +kernel
theorem dX6_lay_22 : decode cX6_lay 22 = .ok (.bipush (-11), 2) := by decide +kernel
theorem dX6_lay_24 : decode cX6_lay 24 = .ok (.ireturn, 1) := by decide +kernel
theorem dX6_lay_25 : decode cX6_lay 25 = .ok (.aload_n 0, 1) := by decide +kernel
theorem dX6_lay_26 : decode cX6_lay 26 = .ok (.getfield 50, 3) := by decide +kernel
theorem dX6_lay_29 : decode cX6_lay 29 = .ok (.iload_n 1, 1) := by decide +kernel
theorem dX6_lay_30 : decode cX6_lay 30 = .ok (.aaload, 1) := by decide +kernel
theorem dX6_lay_31 : decode cX6_lay 31 = .ok (.iload_n 2, 1) := by decide +kernel
theorem dX6_lay_32 : decode cX6_lay 32 = .ok (.iconst 1, 1) := by decide +kernel
theorem dX6_lay_33 : decode cX6_lay 33 = .ok (.invokevirtual 278, 3) := by decide +kernel
theorem dX6_lay_36 : decode cX6_lay 36 = .ok (.ifCond .ne 6, 3) := by decide +kernel
theorem dX6_lay_39 : decode cX6_lay 39 = .ok (.bipush (-13), 2) := by decide +kernel
theorem dX6_lay_41 : decode cX6_lay 41 = .ok (.ireturn, 1) := by decide +kernel
theorem dX6_lay_42 : decode cX6_lay 42 = .ok (.aload_n 0, 1) := by decide +kernel
theorem dX6_lay_43 : decode cX6_lay 43 = .ok (.getfield 50, 3) := by decide +kernel
theorem dX6_lay_46 : decode cX6_lay 46 = .ok (.iload_n 1, 1) := by decide +kernel
theorem dX6_lay_47 : decode cX6_lay 47 = .ok (.aaload, 1) := by decide +kernel
theorem dX6_lay_48 : decode cX6_lay 48 = .ok (.iload_n 2, 1) := by decide +kernel
theorem dX6_lay_49 : decode cX6_lay 49 = .ok (.iload_n 3, 1) := by decide +kernel
theorem dX6_lay_50 : decode cX6_lay 50 = .ok (.invokevirtual 281, 3) := by decide +kernel
theorem dX6_lay_53 : decode cX6_lay 53 = .ok (.iconst 1, 1) := by decide +kernel
theorem dX6_lay_54 : decode cX6_lay 54 = .ok (.ireturn, 1) := by decide +kernel
theorem dX6_copy_0 : decode cX6_copy 0 = .ok (.iload_n 1, 1) := by decide +kernel
theorem dX6_copy_1 : decode cX6_copy 1 = .ok (.invokestatic 263, 3) := by decide +kernel
theorem dX6_copy_4 : decode cX6_copy 4 = .ok (.ifCond .eq 10, 3) := by decide +kernel
theorem dX6_copy_7 : decode cX6_copy 7 = .ok (.iload_n 3, 1) := by decide +kernel
theorem dX6_copy_8 : decode cX6_copy 8 = .ok (.invokestatic 263, 3) := by decide +kernel
theorem dX6_copy_11 : decode cX6_copy 11 = .ok (.ifCond .ne 6, 3) := by decide +kernel
theorem dX6_copy_14 : decode cX6_copy 14 = .ok (.bipush (-2), 2) := by decide +kernel
theorem dX6_copy_16 : decode cX6_copy 16 = .ok (.ireturn, 1) := by decide +kernel
theorem dX6_copy_17 : decode cX6_copy 17 = .ok (.aload_n 0, 1) := by decide +kernel
theorem dX6_copy_18 : decode cX6_copy 18 = .ok (.getfield 50, 3) := by decide +kernel
theorem dX6_copy_21 : decode cX6_copy 21 = .ok (.iload_n 1, 1) := by decide +kernel
theorem dX6_copy_22 : decode cX6_copy 22 = .ok (.aaload, 1) := by decide +kernel
theorem dX6_copy_23 : decode cX6_copy 23 = .ok (.astore 6, 2) := by decide +kernel
theorem dX6_copy_25 : decode cX6_copy 25 = .ok (.aload_n 0, 1) := by decide +kernel
theorem dX6_copy_26 : decode cX6_copy 26 = .ok (.getfield 50, 3) := by decide +kernel
theorem dX6_copy_29 : decode cX6_copy 29 = .ok (.iload_n 3, 1) := by decide +kernel
theorem dX6_copy_30 : decode cX6_copy 30 = .ok (.aaload, 1) := by decide +kernel
theorem dX6_copy_31 : decode cX6_copy 31 = .ok (.astore 7, 2) := by decide +kernel
theorem dX6_copy_33 : decode cX6_copy 33 = .ok (.aload 6, 2) := by decide +kernel
theorem dX6_copy_35 : decode cX6_copy 35 = .ok (.invokevirtual 274, 3) := by decide +kernel
theorem dX6_copy_38 : decode cX6_copy 38 = .ok (.ifCond .ne 11, 3) := by decide +kernel
theorem dX6_copy_41 : decode cX6_copy 41 = .ok (.aload 7, 2) := by decide +kernel
theorem dX6_copy_43 : decode cX6_copy 43 = .ok (.invokevirtual 274, 3) := by decide +kernel
theorem dX6_copy_46 : decode cX6_copy 46 = .ok (.ifCond .eq 6, 3) := by decide +kernel
theorem dX6_copy_49 : decode cX6_copy 49 = .ok (.bipush (-11), 2) := by decide +kernel
theorem dX6_copy_51 : decode cX6_copy 51 = .ok (.ireturn, 1) := by decide +kernel
theorem dX6_copy_52 : decode cX6_copy 52 = .ok (.aload 6, 2) := by decide +kernel
theorem dX6_copy_54 : decode cX6_copy 54 = .ok (.getfield 284, 3) := by decide +kernel
theorem dX6_copy_57 : decode cX6_copy 57 = .ok (.aload 7, 2) := by decide +kernel
theorem dX6_copy_59 : decode cX6_copy 59 = .ok (.getfield 284, 3) := by decide +kernel
theorem dX6_copy_62 : decode cX6_copy 62 = .ok (.if_icmp .eq 6, 3) := by decide +kernel
theorem dX6_copy_65 : decode cX6_copy 65 = .ok (.bipush (-12), 2) := by decide +kernel
theorem dX6_copy_67 : decode cX6_copy 67 = .ok (.ireturn, 1) := by decide +kernel
theorem dX6_copy_68 : decode cX6_copy 68 = .ok (.aload 6, 2) := by decide +kernel
theorem dX6_copy_70 : decode cX6_copy 70 = .ok (.iload_n 2, 1) := by decide +kernel
theorem dX6_copy_71 : decode cX6_copy 71 = .ok (.iload 5, 2) := by decide +kernel
theorem dX6_copy_73 : decode cX6_copy 73 = .ok (.invokevirtual 278, 3) := by decide +kernel
theorem dX6_copy_76 : decode cX6_copy 76 = .ok (.ifCond .eq 15, 3) := by decide +kernel
theorem dX6_copy_79 : decode cX6_copy 79 = .ok (.aload 7, 2) := by decide +kernel
theorem dX6_copy_81 : decode cX6_copy 81 = .ok (.iload 4, 2) := by decide +kernel
theorem dX6_copy_83 : decode cX6_copy 83 = .ok (.iload 5, 2) := by decide +kernel
theorem dX6_copy_85 : decode cX6_copy 85 = .ok (.invokevirtual 278, 3) := by decide +kernel
theorem dX6_copy_88 : decode cX6_copy 88 = .ok (.ifCond .ne 6, 3) := by decide +kernel
theorem dX6_copy_91 : decode cX6_copy 91 = .ok (.bipush (-13), 2) := by decide +kernel
theorem dX6_copy_93 : decode cX6_copy 93 = .ok (.ireturn, 1) := by decide +kernel
theorem dX6_copy_94 : decode cX6_copy 94 = .ok (.aload 6, 2) := by decide +kernel
theorem dX6_copy_96 : decode cX6_copy 96 = .ok (.getfield 287, 3) := by decide +kernel
theorem dX6_copy_99 : decode cX6_copy 99 = .ok (.iload_n 2, 1) := by decide +kernel
theorem dX6_copy_100 : decode cX6_copy 100 = .ok (.aload 7, 2) := by decide +kernel
theorem dX6_copy_102 : decode cX6_copy 102 = .ok (.getfield 287, 3) := by decide +kernel
theorem dX6_copy_105 : decode cX6_copy 105 = .ok (.iload 4, 2) := by decide +kernel
theorem dX6_copy_107 : decode cX6_copy 107 = .ok (.iload 5, 2) := by decide +kernel
theorem dX6_copy_109 : decode cX6_copy 109 = .ok (.invokestatic 290, 3) := by decide +kernel
theorem dX6_copy_112 : decode cX6_copy 112 = .ok (.iconst 1, 1) := by decide +kernel
theorem dX6_copy_113 : decode cX6_copy 113 = .ok (.ireturn, 1) := by decide +kernel
theorem dX6_hope_0 : decode cX6_hope 0 = .ok (.iload_n 1, 1) := by decide +kernel
theorem dX6_hope_1 : decode cX6_hope 1 = .ok (.invokestatic 263, 3) := by decide +kernel
theorem dX6_hope_4 : decode cX6_hope 4 = .ok (.ifCond .ne 6, 3) := by decide +kernel
theorem dX6_hope_7 : decode cX6_hope 7 = .ok (.bipush (-2), 2) := by decide +kernel
theorem dX6_hope_9 : decode cX6_hope 9 = .ok (.ireturn, 1) := by decide +kernel
theorem dX6_hope_10 : decode cX6_hope 10 = .ok (.iload_n 2, 1) := by decide +kernel
theorem dX6_hope_11 : decode cX6_hope 11 = .ok (.invokestatic 266, 3) := by decide +kernel
theorem dX6_hope_14 : decode cX6_hope 14 = .ok (.ifCond .eq 28, 3) := by decide +kernel
theorem dX6_hope_17 : decode cX6_hope 17 = .ok (.iload 4, 2) := by decide +kernel
theorem dX6_hope_19 : decode cX6_hope 19 = .ok (.iconst 1, 1) := by decide +kernel
theorem dX6_hope_20 : decode cX6_hope 20 = .ok (.if_icmp .lt 22, 3) := by decide +kernel
theorem dX6_hope_23 : decode cX6_hope 23 = .ok (.iload 4, 2) := by decide +kernel
theorem dX6_hope_25 : decode cX6_hope 25 = .ok (.bipush 6, 2) := by decide +kernel
theorem dX6_hope_27 : decode cX6_hope 27 = .ok (.if_icmp .gt 15, 3) := by decide +kernel
theorem dX6_hope_30 : decode cX6_hope 30 = .ok (.iload 5, 2) := by decide +kernel
theorem dX6_hope_32 : decode cX6_hope 32 = .ok (.ifCond .lt 10, 3) := by decide +kernel
theorem dX6_hope_35 : decode cX6_hope 35 = .ok (.iload 5, 2) := by decide +kernel
theorem dX6_hope_37 : decode cX6_hope 37 = .ok (.bipush 10, 2) := by decide +kernel
theorem dX6_hope_39 : decode cX6_hope 39 = .ok (.if_icmp .le 6, 3) := by decide +kernel
theorem dX6_hope_42 : decode cX6_hope 42 = .ok (.bipush (-3), 2) := by decide +kernel
theorem dX6_hope_44 : decode cX6_hope 44 = .ok (.ireturn, 1) := by decide +kernel
theorem dX6_hope_45 : decode cX6_hope 45 = .ok (.aload_n 0, 1) := by decide +kernel
theorem dX6_hope_46 : decode cX6_hope 46 = .ok (.getfield 50, 3) := by decide +kernel
theorem dX6_hope_49 : decode cX6_hope 49 = .ok (.iload_n 1, 1) := by decide +kernel
theorem dX6_hope_50 : decode cX6_hope 50 = .ok (.aaload, 1) := by decide +kernel
theorem dX6_hope_51 : decode cX6_hope 51 = .ok (.astore 6, 2) := by decide +kernel
theorem dX6_hope_53 : decode cX6_hope 53 = .ok (.aload 6, 2) := by decide +kernel
theorem dX6_hope_55 : decode cX6_hope 55 = .ok (.invokevirtual 274, 3) := by decide +kernel
theorem dX6_hope_58 : decode cX6_hope 58 = .ok (.ifCond .eq 6, 3) := by decide +kernel
theorem dX6_hope_61 : decode cX6_hope 61 = .ok (.bipush (-11), 2) := by decide +kernel
theorem dX6_hope_63 : decode cX6_hope 63 = .ok (.ireturn, 1) := by decide +kernel
theorem dX6_hope_64 : decode cX6_hope 64 = .ok (.aload 6, 2) := by decide +kernel
theorem dX6_hope_66 : decode cX6_hope 66 = .ok (.getfield 284, 3) := by decide +kernel
theorem dX6_hope_69 : decode cX6_hope 69 = .ok (.iload_n 2, 1) := by decide +kernel
theorem dX6_hope_70 : decode cX6_hope 70 = .ok (.if_icmp .eq 6, 3) := by decide +kernel
theorem dX6_hope_73 : decode cX6_hope 73 = .ok (.bipush (-12), 2) := by decide +kernel
theorem dX6_hope_75 : decode cX6_hope 75 = .ok (.ireturn, 1) := by decide +kernel
theorem dX6_hope_76 : decode cX6_hope 76 = .ok (.aload 6, 2) := by decide +kernel
theorem dX6_hope_78 : decode cX6_hope 78 = .ok (.iload_n 3, 1) := by decide +kernel
theorem dX6_hope_79 : decode cX6_hope 79 = .ok (.iload 4, 2) := by decide +kernel
theorem dX6_hope_81 : decode cX6_hope 81 = .ok (.invokevirtual 278, 3) := by decide +kernel
theorem dX6_hope_84 : decode cX6_hope 84 = .ok (.ifCond .ne 6, 3) := by decide +kernel
theorem dX6_hope_87 : decode cX6_hope 87 = .ok (.bipush (-13), 2) := by decide +kernel
theorem dX6_hope_89 : decode cX6_hope 89 = .ok (.ireturn, 1) := by decide +kernel
theorem dX6_hope_90 : decode cX6_hope 90 = .ok (.aload 6, 2) := by decide +kernel
theorem dX6_hope_92 : decode cX6_hope 92 = .ok (.iload_n 3, 1) := by decide +kernel
theorem dX6_hope_93 : decode cX6_hope 93 = .ok (.iload 4, 2) := by decide +kernel
theorem dX6_hope_95 : decode cX6_hope 95 = .ok (.invokevirtual 296, 3) := by decide +kernel
theorem dX6_hope_98 : decode cX6_hope 98 = .ok (.ifCond .ne 6, 3) := by decide +kernel
theorem dX6_hope_101 : decode cX6_hope 101 = .ok (.bipush (-4), 2) := by decide +kernel
theorem dX6_hope_103 : decode cX6_hope 103 = .ok (.ireturn, 1) := by decide +kernel
theorem dX6_hope_104 : decode cX6_hope 104 = .ok (.iload 4, 2) := by decide +kernel
theorem dX6_hope_106 : decode cX6_hope 106 = .ok (.bipush 6, 2) := by decide +kernel
theorem dX6_hope_108 : decode cX6_hope 108 = .ok (.aload_n 0, 1) := by decide +kernel
theorem dX6_hope_109 : decode cX6_hope 109 = .ok (.getfield 10, 3) := by decide +kernel
theorem dX6_hope_112 : decode cX6_hope 112 = .ok (.getfield 179, 3) := by decide +kernel
theorem dX6_hope_115 : decode cX6_hope 115 = .ok (.isub, 1) := by decide +kernel
theorem dX6_hope_116 : decode cX6_hope 116 = .ok (.if_icmp .le 6, 3) := by decide +kernel
theorem dX6_hope_119 : decode cX6_hope 119 = .ok (.bipush (-5), 2) := by decide +kernel
theorem dX6_hope_121 : decode cX6_hope 121 = .ok (.ireturn, 1) := by decide +kernel
theorem dX6_hope_122 : decode cX6_hope 122 = .ok (.iconst 0, 1) := by decide +kernel
theorem dX6_hope_123 : decode cX6_hope 123 = .ok (.istore 7, 2) := by decide +kernel
theorem dX6_hope_125 : decode cX6_hope 125 = .ok (.iload 7, 2) := by decide +kernel
theorem dX6_hope_127 : decode cX6_hope 127 = .ok (.iload 4, 2) := by decide +kernel
theorem dX6_hope_129 : decode cX6_hope 129 = .ok (.if_icmp .ge 28, 3) := by decide +kernel
theorem dX6_hope_132 : decode cX6_hope 132 = .ok (.aload_n 0, 1) := by decide +kernel
theorem dX6_hope_133 : decode cX6_hope 133 = .ok (.getfield 10, 3) := by decide +kernel
theorem dX6_hope_136 : decode cX6_hope 136 = .ok (.aload 6, 2) := by decide +kernel
theorem dX6_hope_138 : decode cX6_hope 138 = .ok (.getfield 287, 3) := by decide +kernel
theorem dX6_hope_141 : decode cX6_hope 141 = .ok (.iload_n 3, 1) := by decide +kernel
theorem dX6_hope_142 : decode cX6_hope 142 = .ok (.iload 7, 2) := by decide +kernel
theorem dX6_hope_144 : decode cX6_hope 144 = .ok (.iadd, 1) := by decide +kernel
theorem dX6_hope_145 : decode cX6_hope 145 = .ok (.iaload, 1) := by decide +kernel
theorem dX6_hope_146 : decode cX6_hope 146 = .ok (.iload 5, 2) := by decide +kernel
theorem dX6_hope_148 : decode cX6_hope 148 = .ok (.invokevirtual 299, 3) := by decide +kernel
theorem dX6_hope_151 : decode cX6_hope 151 = .ok (.iinc 7 1, 3) := by decide +kernel
theorem dX6_hope_154 : decode cX6_hope 154 = .ok (.goto (-29), 3) := by decide +kernel
theorem dX6_hope_157 : decode cX6_hope 157 = .ok (.aload_n 0, 1) := by decide +kernel
theorem dX6_hope_158 : decode cX6_hope 158 = .ok (.getfield 10, 3) := by decide +kernel
theorem dX6_hope_161 : decode cX6_hope 161 = .ok (.getfield 179, 3) := by decide +kernel
theorem dX6_hope_164 : decode cX6_hope 164 = .ok (.ireturn, 1) := by decide +kernel
theorem dX6_keep_0 : decode cX6_keep 0 = .ok (.iload_n 1, 1) := by decide +kernel
theorem dX6_keep_1 : decode cX6_keep 1 = .ok (.invokestatic 302, 3) := by decide +kernel
theorem dX6_keep_4 : decode cX6_keep 4 = .ok (.ifCond .ne 6, 3) := by decide +kernel
theorem dX6_keep_7 : decode cX6_keep 7 = .ok (.bipush (-2), 2) := by decide +kernel
theorem dX6_keep_9 : decode cX6_keep 9 = .ok (.ireturn, 1) := by decide +kernel
theorem dX6_keep_10 : decode cX6_keep 10 = .ok (.aload_n 0, 1) := by decide +kernel
theorem dX6_keep_11 : decode cX6_keep 11 = .ok (.getfield 16, 3) := by decide +kernel
theorem dX6_keep_14 : decode cX6_keep 14 = .ok (.iload_n 1, 1) := by decide +kernel
theorem dX6_keep_15 : decode cX6_keep 15 = .ok (.aaload, 1) := by decide +kernel
theorem dX6_keep_16 : decode cX6_keep 16 = .ok (.ifnonnull 16, 3) := by decide +kernel
theorem dX6_keep_19 : decode cX6_keep 19 = .ok (.aload_n 0, 1) := by decide +kernel
theorem dX6_keep_20 : decode cX6_keep 20 = .ok (.getfield 16, 3) := by decide +kernel
theorem dX6_keep_23 : decode cX6_keep 23 = .ok (.iload_n 1, 1) := by decide +kernel
theorem dX6_keep_24 : decode cX6_keep 24 = .ok (.new 7, 3) := by decide +kernel
theorem dX6_keep_27 : decode cX6_keep 27 = .ok (.dup, 1) := by decide +kernel
theorem dX6_keep_28 : decode cX6_keep 28 = .ok (.invokespecial 9, 3) := by decide +kernel
theorem dX6_keep_31 : decode cX6_keep 31 = .ok (.aastore, 1) := by decide +kernel
theorem dX6_keep_32 : decode cX6_keep 32 = .ok (.aload_n 0, 1) := by decide +kernel
theorem dX6_keep_33 : decode cX6_keep 33 = .ok (.getfield 16, 3) := by decide +kernel
theorem dX6_keep_36 : decode cX6_keep 36 = .ok (.iload_n 1, 1) := by decide +kernel
theorem dX6_keep_37 : decode cX6_keep 37 = .ok (.aaload, 1) := by decide +kernel
theorem dX6_keep_38 : decode cX6_keep 38 = .ok (.aload_n 0, 1) := by decide +kernel
theorem dX6_keep_39 : decode cX6_keep 39 = .ok (.getfield 10, 3) := by decide +kernel
theorem dX6_keep_42 : decode cX6_keep 42 = .ok (.invokevirtual 74, 3) := by decide +kernel
theorem dX6_keep_45 : decode cX6_keep 45 = .ok (.aload_n 0, 1) := by decide +kernel
theorem dX6_keep_46 : decode cX6_keep 46 = .ok (.getfield 10, 3) := by decide +kernel
theorem dX6_keep_49 : decode cX6_keep 49 = .ok (.getfield 247, 3) := by decide +kernel
theorem dX6_keep_52 : decode cX6_keep 52 = .ok (.ireturn, 1) := by decide +kernel
theorem dX6_back_0 : decode cX6_back 0 = .ok (.iload_n 1, 1) := by decide +kernel
theorem dX6_back_1 : decode cX6_back 1 = .ok (.invokestatic 302, 3) := by decide +kernel
theorem dX6_back_4 : decode cX6_back 4 = .ok (.ifCond .ne 6, 3) := by decide +kernel
theorem dX6_back_7 : decode cX6_back 7 = .ok (.bipush (-2), 2) := by decide +kernel
theorem dX6_back_9 : decode cX6_back 9 = .ok (.ireturn, 1) := by decide +kernel
theorem dX6_back_10 : decode cX6_back 10 = .ok (.aload_n 0, 1) := by decide +kernel
theorem dX6_back_11 : decode cX6_back 11 = .ok (.getfield 16, 3) := by decide +kernel
theorem dX6_back_14 : decode cX6_back 14 = .ok (.iload_n 1, 1) := by decide +kernel
theorem dX6_back_15 : decode cX6_back 15 = .ok (.aaload, 1) := by decide +kernel
theorem dX6_back_16 : decode cX6_back 16 = .ok (.ifnonnull 6, 3) := by decide +kernel
theorem dX6_back_19 : decode cX6_back 19 = .ok (.bipush (-4), 2) := by decide +kernel
theorem dX6_back_21 : decode cX6_back 21 = .ok (.ireturn, 1) := by decide +kernel
theorem dX6_back_22 : decode cX6_back 22 = .ok (.aload_n 0, 1) := by decide +kernel
theorem dX6_back_23 : decode cX6_back 23 = .ok (.getfield 10, 3) := by decide +kernel
theorem dX6_back_26 : decode cX6_back 26 = .ok (.aload_n 0, 1) := by decide +kernel
theorem dX6_back_27 : decode cX6_back 27 = .ok (.getfield 16, 3) := by decide +kernel
theorem dX6_back_30 : decode cX6_back 30 = .ok (.iload_n 1, 1) := by decide +kernel
theorem dX6_back_31 : decode cX6_back 31 = .ok (.aaload, 1) := by decide +kernel
theorem dX6_back_32 : decode cX6_back 32 = .ok (.invokevirtual 74, 3) := by decide +kernel
theorem dX6_back_35 : decode cX6_back 35 = .ok (.aload_n 0, 1) := by decide +kernel
theorem dX6_back_36 : decode cX6_back 36 = .ok (.getfield 10, 3) := by decide +kernel
theorem dX6_back_39 : decode cX6_back 39 = .ok (.getfield 247, 3) := by decide +kernel
theorem dX6_back_42 : decode cX6_back 42 = .ok (.ireturn, 1) := by decide +kernel
theorem dX6_count_0 : decode cX6_count 0 = .ok (.iload_n 1, 1) := by decide +kernel
theorem dX6_count_1 : decode cX6_count 1 = .ok (.tableswitch 99 0 7 #[47, 55, 63, 71, 79, 87, 87, 87], 47) := by decide +kernel
theorem dX6_count_48 : decode cX6_count 48 = .ok (.aload_n 0, 1) := by decide +kernel
theorem dX6_count_49 : decode cX6_count 49 = .ok (.getfield 10, 3) := by decide +kernel
theorem dX6_count_52 : decode cX6_count 52 = .ok (.getfield 247, 3) := by decide +kernel
theorem dX6_count_55 : decode cX6_count 55 = .ok (.ireturn, 1) := by decide +kernel
theorem dX6_count_56 : decode cX6_count 56 = .ok (.aload_n 0, 1) := by decide +kernel
theorem dX6_count_57 : decode cX6_count 57 = .ok (.getfield 10, 3) := by decide +kernel
theorem dX6_count_60 : decode cX6_count 60 = .ok (.getfield 216, 3) := by decide +kernel
theorem dX6_count_63 : decode cX6_count 63 = .ok (.ireturn, 1) := by decide +kernel
theorem dX6_count_64 : decode cX6_count 64 = .ok (.aload_n 0, 1) := by decide +kernel
theorem dX6_count_65 : decode cX6_count 65 = .ok (.getfield 10, 3) := by decide +kernel
theorem dX6_count_68 : decode cX6_count 68 = .ok (.getfield 179, 3) := by decide +kernel
theorem dX6_count_71 : decode cX6_count 71 = .ok (.ireturn, 1) := by decide +kernel
theorem dX6_count_72 : decode cX6_count 72 = .ok (.aload_n 0, 1) := by decide +kernel
theorem dX6_count_73 : decode cX6_count 73 = .ok (.getfield 10, 3) := by decide +kernel
theorem dX6_count_76 : decode cX6_count 76 = .ok (.getfield 305, 3) := by decide +kernel
theorem dX6_count_79 : decode cX6_count 79 = .ok (.ireturn, 1) := by decide +kernel
theorem dX6_count_80 : decode cX6_count 80 = .ok (.aload_n 0, 1) := by decide +kernel
theorem dX6_count_81 : decode cX6_count 81 = .ok (.getfield 23, 3) := by decide +kernel
theorem dX6_count_84 : decode cX6_count 84 = .ok (.getfield 63, 3) := by decide +kernel
theorem dX6_count_87 : decode cX6_count 87 = .ok (.ireturn, 1) := by decide +kernel
theorem dX6_count_88 : decode cX6_count 88 = .ok (.aload_n 0, 1) := by decide +kernel
theorem dX6_count_89 : decode cX6_count 89 = .ok (.getfield 50, 3) := by decide +kernel
theorem dX6_count_92 : decode cX6_count 92 = .ok (.iload_n 1, 1) := by decide +kernel
theorem dX6_count_93 : decode cX6_count 93 = .ok (.iconst 5, 1) := by decide +kernel
theorem dX6_count_94 : decode cX6_count 94 = .ok (.isub, 1) := by decide +kernel
theorem dX6_count_95 : decode cX6_count 95 = .ok (.aaload, 1) := by decide +kernel
theorem dX6_count_96 : decode cX6_count 96 = .ok (.getfield 273, 3) := by decide +kernel
theorem dX6_count_99 : decode cX6_count 99 = .ok (.ireturn, 1) := by decide +kernel
theorem dX6_count_100 : decode cX6_count 100 = .ok (.bipush (-3), 2) := by decide +kernel
theorem dX6_count_102 : decode cX6_count 102 = .ok (.ireturn, 1) := by decide +kernel
theorem dX6_isLetter_0 : decode cX6_isLetter 0 = .ok (.iload_n 0, 1) := by decide +kernel
theorem dX6_isLetter_1 : decode cX6_isLetter 1 = .ok (.ifCond .lt 13, 3) := by decide +kernel
theorem dX6_isLetter_4 : decode cX6_isLetter 4 = .ok (.iload_n 0, 1) := by decide +kernel
theorem dX6_isLetter_5 : decode cX6_isLetter 5 = .ok (.bipush 26, 2) := by decide +kernel
theorem dX6_isLetter_7 : decode cX6_isLetter 7 = .ok (.if_icmp .ge 7, 3) := by decide +kernel
theorem dX6_isLetter_10 : decode cX6_isLetter 10 = .ok (.iconst 1, 1) := by decide +kernel
theorem dX6_isLetter_11 : decode cX6_isLetter 11 = .ok (.goto 4, 3) := by decide +kernel
theorem dX6_isLetter_14 : decode cX6_isLetter 14 = .ok (.iconst 0, 1) := by decide +kernel
theorem dX6_isLetter_15 : decode cX6_isLetter 15 = .ok (.ireturn, 1) := by decide +kernel
theorem dX6_isDay_0 : decode cX6_isDay 0 = .ok (.iload_n 0, 1) := by decide +kernel
theorem dX6_isDay_1 : decode cX6_isDay 1 = .ok (.iconst 1, 1) := by decide +kernel
theorem dX6_isDay_2 : decode cX6_isDay 2 = .ok (.if_icmp .lt 14, 3) := by decide +kernel
theorem dX6_isDay_5 : decode cX6_isDay 5 = .ok (.iload_n 0, 1) := by decide +kernel
theorem dX6_isDay_6 : decode cX6_isDay 6 = .ok (.sipush 400, 3) := by decide +kernel
theorem dX6_isDay_9 : decode cX6_isDay 9 = .ok (.if_icmp .gt 7, 3) := by decide +kernel
theorem dX6_isDay_12 : decode cX6_isDay 12 = .ok (.iconst 1, 1) := by decide +kernel
theorem dX6_isDay_13 : decode cX6_isDay 13 = .ok (.goto 4, 3) := by decide +kernel
theorem dX6_isDay_16 : decode cX6_isDay 16 = .ok (.iconst 0, 1) := by decide +kernel
theorem dX6_isDay_17 : decode cX6_isDay 17 = .ok (.ireturn, 1) := by decide +kernel
theorem dX6_areDays_0 : decode cX6_areDays 0 = .ok (.iload_n 0, 1) := by decide +kernel
theorem dX6_areDays_1 : decode cX6_areDays 1 = .ok (.invokestatic 144, 3) := by decide +kernel
theorem dX6_areDays_4 : decode cX6_areDays 4 = .ok (.ifCond .eq 19, 3) := by decide +kernel
theorem dX6_areDays_7 : decode cX6_areDays 7 = .ok (.iload_n 1, 1) := by decide +kernel
theorem dX6_areDays_8 : decode cX6_areDays 8 = .ok (.invokestatic 144, 3) := by decide +kernel
theorem dX6_areDays_11 : decode cX6_areDays 11 = .ok (.ifCond .eq 12, 3) := by decide +kernel
theorem dX6_areDays_14 : decode cX6_areDays 14 = .ok (.iload_n 0, 1) := by decide +kernel
theorem dX6_areDays_15 : decode cX6_areDays 15 = .ok (.iload_n 1, 1) := by decide +kernel
theorem dX6_areDays_16 : decode cX6_areDays 16 = .ok (.if_icmp .gt 7, 3) := by decide +kernel
theorem dX6_areDays_19 : decode cX6_areDays 19 = .ok (.iconst 1, 1) := by decide +kernel
theorem dX6_areDays_20 : decode cX6_areDays 20 = .ok (.goto 4, 3) := by decide +kernel
theorem dX6_areDays_23 : decode cX6_areDays 23 = .ok (.iconst 0, 1) := by decide +kernel
theorem dX6_areDays_24 : decode cX6_areDays 24 = .ok (.ireturn, 1) := by decide +kernel
theorem dX6_isZeroOrOne_0 : decode cX6_isZeroOrOne 0 = .ok (.iload_n 0, 1) := by decide +kernel
theorem dX6_isZeroOrOne_1 : decode cX6_isZeroOrOne 1 = .ok (.ifCond .eq 8, 3) := by decide +kernel
theorem dX6_isZeroOrOne_4 : decode cX6_isZeroOrOne 4 = .ok (.iload_n 0, 1) := by decide +kernel
theorem dX6_isZeroOrOne_5 : decode cX6_isZeroOrOne 5 = .ok (.iconst 1, 1) := by decide +kernel
theorem dX6_isZeroOrOne_6 : decode cX6_isZeroOrOne 6 = .ok (.if_icmp .ne 7, 3) := by decide +kernel
theorem dX6_isZeroOrOne_9 : decode cX6_isZeroOrOne 9 = .ok (.iconst 1, 1) := by decide +kernel
theorem dX6_isZeroOrOne_10 : decode cX6_isZeroOrOne 10 = .ok (.goto 4, 3) := by decide +kernel
theorem dX6_isZeroOrOne_13 : decode cX6_isZeroOrOne 13 = .ok (.iconst 0, 1) := by decide +kernel
theorem dX6_isZeroOrOne_14 : decode cX6_isZeroOrOne 14 = .ok (.ireturn, 1) := by decide +kernel
theorem dX6_isSheet_0 : decode cX6_isSheet 0 = .ok (.iload_n 0, 1) := by decide +kernel
theorem dX6_isSheet_1 : decode cX6_isSheet 1 = .ok (.ifCond .lt 12, 3) := by decide +kernel
theorem dX6_isSheet_4 : decode cX6_isSheet 4 = .ok (.iload_n 0, 1) := by decide +kernel
theorem dX6_isSheet_5 : decode cX6_isSheet 5 = .ok (.iconst 3, 1) := by decide +kernel
theorem dX6_isSheet_6 : decode cX6_isSheet 6 = .ok (.if_icmp .ge 7, 3) := by decide +kernel
theorem dX6_isSheet_9 : decode cX6_isSheet 9 = .ok (.iconst 1, 1) := by decide +kernel
theorem dX6_isSheet_10 : decode cX6_isSheet 10 = .ok (.goto 4, 3) := by decide +kernel
theorem dX6_isSheet_13 : decode cX6_isSheet 13 = .ok (.iconst 0, 1) := by decide +kernel
theorem dX6_isSheet_14 : decode cX6_isSheet 14 = .ok (.ireturn, 1) := by decide +kernel
theorem dX6_isLane_0 : decode cX6_isLane 0 = .ok (.iload_n 0, 1) := by decide +kernel
theorem dX6_isLane_1 : decode cX6_isLane 1 = .ok (.ifCond .lt 12, 3) := by decide +kernel
theorem dX6_isLane_4 : decode cX6_isLane 4 = .ok (.iload_n 0, 1) := by decide +kernel
theorem dX6_isLane_5 : decode cX6_isLane 5 = .ok (.iconst 2, 1) := by decide +kernel
theorem dX6_isLane_6 : decode cX6_isLane 6 = .ok (.if_icmp .gt 7, 3) := by decide +kernel
theorem dX6_isLane_9 : decode cX6_isLane 9 = .ok (.iconst 1, 1) := by decide +kernel
theorem dX6_isLane_10 : decode cX6_isLane 10 = .ok (.goto 4, 3) := by decide +kernel
theorem dX6_isLane_13 : decode cX6_isLane 13 = .ok (.iconst 0, 1) := by decide +kernel
theorem dX6_isLane_14 : decode cX6_isLane 14 = .ok (.ireturn, 1) := by decide +kernel
theorem dX6_isImage_0 : decode cX6_isImage 0 = .ok (.iload_n 0, 1) := by decide +kernel
theorem dX6_isImage_1 : decode cX6_isImage 1 = .ok (.ifCond .lt 12, 3) := by decide +kernel
theorem dX6_isImage_4 : decode cX6_isImage 4 = .ok (.iload_n 0, 1) := by decide +kernel
theorem dX6_isImage_5 : decode cX6_isImage 5 = .ok (.iconst 2, 1) := by decide +kernel
theorem dX6_isImage_6 : decode cX6_isImage 6 = .ok (.if_icmp .ge 7, 3) := by decide +kernel
theorem dX6_isImage_9 : decode cX6_isImage 9 = .ok (.iconst 1, 1) := by decide +kernel
theorem dX6_isImage_10 : decode cX6_isImage 10 = .ok (.goto 4, 3) := by decide +kernel
theorem dX6_isImage_13 : decode cX6_isImage 13 = .ok (.iconst 0, 1) := by decide +kernel
theorem dX6_isImage_14 : decode cX6_isImage 14 = .ok (.ireturn, 1) := by decide +kernel
theorem dX6_lettersOf_0 : decode cX6_lettersOf 0 = .ok (.lload_n 0, 1) := by decide +kernel
theorem dX6_lettersOf_1 : decode cX6_lettersOf 1 = .ok (.lconst 1, 1) := by decide +kernel
theorem dX6_lettersOf_2 : decode cX6_lettersOf 2 = .ok (.lcmp, 1) := by decide +kernel
theorem dX6_lettersOf_3 : decode cX6_lettersOf 3 = .ok (.ifCond .lt 11, 3) := by decide +kernel
theorem dX6_lettersOf_6 : decode cX6_lettersOf 6 = .ok (.lload_n 0, 1) := by decide +kernel
theorem dX6_lettersOf_7 : decode cX6_lettersOf 7 = .ok (.ldc2_w 308, 3) := by decide +kernel
theorem dX6_lettersOf_10 : decode cX6_lettersOf 10 = .ok (.lcmp, 1) := by decide +kernel
theorem dX6_lettersOf_11 : decode cX6_lettersOf 11 = .ok (.ifCond .le 5, 3) := by decide +kernel
theorem dX6_lettersOf_14 : decode cX6_lettersOf 14 = .ok (.iconst 0, 1) := by decide +kernel
theorem dX6_lettersOf_15 : decode cX6_lettersOf 15 = .ok (.ireturn, 1) := by decide +kernel
theorem dX6_lettersOf_16 : decode cX6_lettersOf 16 = .ok (.iconst 0, 1) := by decide +kernel
theorem dX6_lettersOf_17 : decode cX6_lettersOf 17 = .ok (.istore_n 2, 1) := by decide +kernel
theorem dX6_lettersOf_18 : decode cX6_lettersOf 18 = .ok (.lload_n 0, 1) := by decide +kernel
theorem dX6_lettersOf_19 : decode cX6_lettersOf 19 = .ok (.lstore_n 3, 1) := by decide +kernel
theorem dX6_lettersOf_20 : decode cX6_lettersOf 20 = .ok (.iload_n 2, 1) := by decide +kernel
theorem dX6_lettersOf_21 : decode cX6_lettersOf 21 = .ok (.bipush 9, 2) := by decide +kernel
theorem dX6_lettersOf_23 : decode cX6_lettersOf 23 = .ok (.if_icmp .ge 33, 3) := by decide +kernel
theorem dX6_lettersOf_26 : decode cX6_lettersOf 26 = .ok (.lload_n 3, 1) := by decide +kernel
theorem dX6_lettersOf_27 : decode cX6_lettersOf 27 = .ok (.lconst 0, 1) := by decide +kernel
theorem dX6_lettersOf_28 : decode cX6_lettersOf 28 = .ok (.lcmp, 1) := by decide +kernel
theorem dX6_lettersOf_29 : decode cX6_lettersOf 29 = .ok (.ifCond .le 27, 3) := by decide +kernel
theorem dX6_lettersOf_32 : decode cX6_lettersOf 32 = .ok (.lload_n 3, 1) := by decide +kernel
theorem dX6_lettersOf_33 : decode cX6_lettersOf 33 = .ok (.ldc2_w 310, 3) := by decide +kernel
theorem dX6_lettersOf_36 : decode cX6_lettersOf 36 = .ok (.lrem, 1) := by decide +kernel
theorem dX6_lettersOf_37 : decode cX6_lettersOf 37 = .ok (.lconst 0, 1) := by decide +kernel
theorem dX6_lettersOf_38 : decode cX6_lettersOf 38 = .ok (.lcmp, 1) := by decide +kernel
theorem dX6_lettersOf_39 : decode cX6_lettersOf 39 = .ok (.ifCond .ne 5, 3) := by decide +kernel
theorem dX6_lettersOf_42 : decode cX6_lettersOf 42 = .ok (.iconst 0, 1) := by decide +kernel
theorem dX6_lettersOf_43 : decode cX6_lettersOf 43 = .ok (.ireturn, 1) := by decide +kernel
theorem dX6_lettersOf_44 : decode cX6_lettersOf 44 = .ok (.lload_n 3, 1) := by decide +kernel
theorem dX6_lettersOf_45 : decode cX6_lettersOf 45 = .ok (.ldc2_w 310, 3) := by decide +kernel
theorem dX6_lettersOf_48 : decode cX6_lettersOf 48 = .ok (.ldiv, 1) := by decide +kernel
theorem dX6_lettersOf_49 : decode cX6_lettersOf 49 = .ok (.lstore_n 3, 1) := by decide +kernel
theorem dX6_lettersOf_50 : decode cX6_lettersOf 50 = .ok (.iinc 2 1, 3) := by decide +kernel
theorem dX6_lettersOf_53 : decode cX6_lettersOf 53 = .ok (.goto (-33), 3) := by decide +kernel
theorem dX6_lettersOf_56 : decode cX6_lettersOf 56 = .ok (.iload_n 2, 1) := by decide +kernel
theorem dX6_lettersOf_57 : decode cX6_lettersOf 57 = .ok (.ireturn, 1) := by decide +kernel
theorem dX6_lastLetter_0 : decode cX6_lastLetter 0 = .ok (.lload_n 0, 1) := by decide +kernel
theorem dX6_lastLetter_1 : decode cX6_lastLetter 1 = .ok (.ldc2_w 310, 3) := by decide +kernel
theorem dX6_lastLetter_4 : decode cX6_lastLetter 4 = .ok (.lrem, 1) := by decide +kernel
theorem dX6_lastLetter_5 : decode cX6_lastLetter 5 = .ok (.l2i, 1) := by decide +kernel
theorem dX6_lastLetter_6 : decode cX6_lastLetter 6 = .ok (.iconst 1, 1) := by decide +kernel
theorem dX6_lastLetter_7 : decode cX6_lastLetter 7 = .ok (.isub, 1) := by decide +kernel
theorem dX6_lastLetter_8 : decode cX6_lastLetter 8 = .ok (.ireturn, 1) := by decide +kernel
theorem dX6_timesIn_0 : decode cX6_timesIn 0 = .ok (.iconst 0, 1) := by decide +kernel
theorem dX6_timesIn_1 : decode cX6_timesIn 1 = .ok (.istore_n 3, 1) := by decide +kernel
theorem dX6_timesIn_2 : decode cX6_timesIn 2 = .ok (.lload_n 0, 1) := by decide +kernel
theorem dX6_timesIn_3 : decode cX6_timesIn 3 = .ok (.lstore 4, 2) := by decide +kernel
theorem dX6_timesIn_5 : decode cX6_timesIn 5 = .ok (.iconst 0, 1) := by decide +kernel
theorem dX6_timesIn_6 : decode cX6_timesIn 6 = .ok (.istore 6, 2) := by decide +kernel
theorem dX6_timesIn_8 : decode cX6_timesIn 8 = .ok (.iload 6, 2) := by decide +kernel
theorem dX6_timesIn_10 : decode cX6_timesIn 10 = .ok (.bipush 9, 2) := by decide +kernel
theorem dX6_timesIn_12 : decode cX6_timesIn 12 = .ok (.if_icmp .ge 36, 3) := by decide +kernel
theorem dX6_timesIn_15 : decode cX6_timesIn 15 = .ok (.lload 4, 2) := by decide +kernel
theorem dX6_timesIn_17 : decode cX6_timesIn 17 = .ok (.lconst 0, 1) := by decide +kernel
theorem dX6_timesIn_18 : decode cX6_timesIn 18 = .ok (.lcmp, 1) := by decide +kernel
theorem dX6_timesIn_19 : decode cX6_timesIn 19 = .ok (.ifCond .le 29, 3) := by decide +kernel
theorem dX6_timesIn_22 : decode cX6_timesIn 22 = .ok (.lload 4, 2) := by decide +kernel
theorem dX6_timesIn_24 : decode cX6_timesIn 24 = .ok (.invokestatic 312, 3) := by decide +kernel
theorem dX6_timesIn_27 : decode cX6_timesIn 27 = .ok (.iload_n 2, 1) := by decide +kernel
theorem dX6_timesIn_28 : decode cX6_timesIn 28 = .ok (.if_icmp .ne 6, 3) := by decide +kernel
theorem dX6_timesIn_31 : decode cX6_timesIn 31 = .ok (.iinc 3 1, 3) := by decide +kernel
theorem dX6_timesIn_34 : decode cX6_timesIn 34 = .ok (.lload 4, 2) := by decide +kernel
theorem dX6_timesIn_36 : decode cX6_timesIn 36 = .ok (.ldc2_w 310, 3) := by decide +kernel
theorem dX6_timesIn_39 : decode cX6_timesIn 39 = .ok (.ldiv, 1) := by decide +kernel
theorem dX6_timesIn_40 : decode cX6_timesIn 40 = .ok (.lstore 4, 2) := by decide +kernel
theorem dX6_timesIn_42 : decode cX6_timesIn 42 = .ok (.iinc 6 1, 3) := by decide +kernel
theorem dX6_timesIn_45 : decode cX6_timesIn 45 = .ok (.goto (-37), 3) := by decide +kernel
theorem dX6_timesIn_48 : decode cX6_timesIn 48 = .ok (.iload_n 3, 1) := by decide +kernel
theorem dX6_timesIn_49 : decode cX6_timesIn 49 = .ok (.ireturn, 1) := by decide +kernel
theorem dX6_isLeftOf_0 : decode cX6_isLeftOf 0 = .ok (.lload_n 0, 1) := by decide +kernel
theorem dX6_isLeftOf_1 : decode cX6_isLeftOf 1 = .ok (.lstore 4, 2) := by decide +kernel
theorem dX6_isLeftOf_3 : decode cX6_isLeftOf 3 = .ok (.lload_n 2, 1) := by decide +kernel
theorem dX6_isLeftOf_4 : decode cX6_isLeftOf 4 = .ok (.lstore 6, 2) := by decide +kernel
theorem dX6_isLeftOf_6 : decode cX6_isLeftOf 6 = .ok (.iconst 0, 1) := by decide +kernel
theorem dX6_isLeftOf_7 : decode cX6_isLeftOf 7 = .ok (.istore 8, 2) := by decide +kernel
theorem dX6_isLeftOf_9 : decode cX6_isLeftOf 9 = .ok (.iload 8, 2) := by decide +kernel
theorem dX6_isLeftOf_11 : decode cX6_isLeftOf 11 = .ok (.bipush 9, 2) := by decide +kernel
theorem dX6_isLeftOf_13 : decode cX6_isLeftOf 13 = .ok (.if_icmp .ge 52, 3) := by decide +kernel
theorem dX6_isLeftOf_16 : decode cX6_isLeftOf 16 = .ok (.lload 6, 2) := by decide +kernel
theorem dX6_isLeftOf_18 : decode cX6_isLeftOf 18 = .ok (.lconst 0, 1) := by decide +kernel
theorem dX6_isLeftOf_19 : decode cX6_isLeftOf 19 = .ok (.lcmp, 1) := by decide +kernel
theorem dX6_isLeftOf_20 : decode cX6_isLeftOf 20 = .ok (.ifCond .le 45, 3) := by decide +kernel
theorem dX6_isLeftOf_23 : decode cX6_isLeftOf 23 = .ok (.lload 4, 2) := by decide +kernel
theorem dX6_isLeftOf_25 : decode cX6_isLeftOf 25 = .ok (.lconst 0, 1) := by decide +kernel
theorem dX6_isLeftOf_26 : decode cX6_isLeftOf 26 = .ok (.lcmp, 1) := by decide +kernel
theorem dX6_isLeftOf_27 : decode cX6_isLeftOf 27 = .ok (.ifCond .le 24, 3) := by decide +kernel
theorem dX6_isLeftOf_30 : decode cX6_isLeftOf 30 = .ok (.lload 4, 2) := by decide +kernel
theorem dX6_isLeftOf_32 : decode cX6_isLeftOf 32 = .ok (.invokestatic 312, 3) := by decide +kernel
theorem dX6_isLeftOf_35 : decode cX6_isLeftOf 35 = .ok (.lload 6, 2) := by decide +kernel
theorem dX6_isLeftOf_37 : decode cX6_isLeftOf 37 = .ok (.invokestatic 312, 3) := by decide +kernel
theorem dX6_isLeftOf_40 : decode cX6_isLeftOf 40 = .ok (.if_icmp .ne 11, 3) := by decide +kernel
theorem dX6_isLeftOf_43 : decode cX6_isLeftOf 43 = .ok (.lload 4, 2) := by decide +kernel
theorem dX6_isLeftOf_45 : decode cX6_isLeftOf 45 = .ok (.ldc2_w 310, 3) := by decide +kernel
theorem dX6_isLeftOf_48 : decode cX6_isLeftOf 48 = .ok (.ldiv, 1) := by decide +kernel
theorem dX6_isLeftOf_49 : decode cX6_isLeftOf 49 = .ok (.lstore 4, 2) := by decide +kernel
theorem dX6_isLeftOf_51 : decode cX6_isLeftOf 51 = .ok (.lload 6, 2) := by decide +kernel
theorem dX6_isLeftOf_53 : decode cX6_isLeftOf 53 = .ok (.ldc2_w 310, 3) := by decide +kernel
theorem dX6_isLeftOf_56 : decode cX6_isLeftOf 56 = .ok (.ldiv, 1) := by decide +kernel
theorem dX6_isLeftOf_57 : decode cX6_isLeftOf 57 = .ok (.lstore 6, 2) := by decide +kernel
theorem dX6_isLeftOf_59 : decode cX6_isLeftOf 59 = .ok (.iinc 8 1, 3) := by decide +kernel
theorem dX6_isLeftOf_62 : decode cX6_isLeftOf 62 = .ok (.goto (-53), 3) := by decide +kernel
theorem dX6_isLeftOf_65 : decode cX6_isLeftOf 65 = .ok (.lload 4, 2) := by decide +kernel
theorem dX6_isLeftOf_67 : decode cX6_isLeftOf 67 = .ok (.lconst 0, 1) := by decide +kernel
theorem dX6_isLeftOf_68 : decode cX6_isLeftOf 68 = .ok (.lcmp, 1) := by decide +kernel
theorem dX6_isLeftOf_69 : decode cX6_isLeftOf 69 = .ok (.ifCond .ne 7, 3) := by decide +kernel
theorem dX6_isLeftOf_72 : decode cX6_isLeftOf 72 = .ok (.iconst 1, 1) := by decide +kernel
theorem dX6_isLeftOf_73 : decode cX6_isLeftOf 73 = .ok (.goto 4, 3) := by decide +kernel
theorem dX6_isLeftOf_76 : decode cX6_isLeftOf 76 = .ok (.iconst 0, 1) := by decide +kernel
theorem dX6_isLeftOf_77 : decode cX6_isLeftOf 77 = .ok (.ireturn, 1) := by decide +kernel
theorem dX6_commonDivisor_0 : decode cX6_commonDivisor 0 = .ok (.lload_n 0, 1) := by decide +kernel
theorem dX6_commonDivisor_1 : decode cX6_commonDivisor 1 = .ok (.lstore 4, 2) := by decide +kernel
theorem dX6_commonDivisor_3 : decode cX6_commonDivisor 3 = .ok (.lload_n 2, 1) := by decide +kernel
theorem dX6_commonDivisor_4 : decode cX6_commonDivisor 4 = .ok (.lstore 6, 2) := by decide +kernel
theorem dX6_commonDivisor_6 : decode cX6_commonDivisor 6 = .ok (.iconst 0, 1) := by decide +kernel
theorem dX6_commonDivisor_7 : decode cX6_commonDivisor 7 = .ok (.istore 8, 2) := by decide +kernel
theorem dX6_commonDivisor_9 : decode cX6_commonDivisor 9 = .ok (.iload 8, 2) := by decide +kernel
theorem dX6_commonDivisor_11 : decode cX6_commonDivisor 11 = .ok (.bipush 100, 2) := by decide +kernel
theorem dX6_commonDivisor_13 : decode cX6_commonDivisor 13 = .ok (.if_icmp .ge 31, 3) := by decide +kernel
theorem dX6_commonDivisor_16 : decode cX6_commonDivisor 16 = .ok (.lload 6, 2) := by decide +kernel
theorem dX6_commonDivisor_18 : decode cX6_commonDivisor 18 = .ok (.lconst 0, 1) := by decide +kernel
theorem dX6_commonDivisor_19 : decode cX6_commonDivisor 19 = .ok (.lcmp, 1) := by decide +kernel
theorem dX6_commonDivisor_20 : decode cX6_commonDivisor 20 = .ok (.ifCond .eq 24, 3) := by decide +kernel
theorem dX6_commonDivisor_23 : decode cX6_commonDivisor 23 = .ok (.lload 4, 2) := by decide +kernel
theorem dX6_commonDivisor_25 : decode cX6_commonDivisor 25 = .ok (.lload 6, 2) := by decide +kernel
theorem dX6_commonDivisor_27 : decode cX6_commonDivisor 27 = .ok (.lrem, 1) := by decide +kernel
theorem dX6_commonDivisor_28 : decode cX6_commonDivisor 28 = .ok (.lstore 9, 2) := by decide +kernel
theorem dX6_commonDivisor_30 : decode cX6_commonDivisor 30 = .ok (.lload 6, 2) := by decide +kernel
theorem dX6_commonDivisor_32 : decode cX6_commonDivisor 32 = .ok (.lstore 4, 2) := by decide +kernel
theorem dX6_commonDivisor_34 : decode cX6_commonDivisor 34 = .ok (.lload 9, 2) := by decide +kernel
theorem dX6_commonDivisor_36 : decode cX6_commonDivisor 36 = .ok (.lstore 6, 2) := by decide +kernel
theorem dX6_commonDivisor_38 : decode cX6_commonDivisor 38 = .ok (.iinc 8 1, 3) := by decide +kernel
theorem dX6_commonDivisor_41 : decode cX6_commonDivisor 41 = .ok (.goto (-32), 3) := by decide +kernel
theorem dX6_commonDivisor_44 : decode cX6_commonDivisor 44 = .ok (.lconst 1, 1) := by decide +kernel
theorem dX6_commonDivisor_45 : decode cX6_commonDivisor 45 = .ok (.lload 4, 2) := by decide +kernel
theorem dX6_commonDivisor_47 : decode cX6_commonDivisor 47 = .ok (.invokestatic 315, 3) := by decide +kernel
theorem dX6_commonDivisor_50 : decode cX6_commonDivisor 50 = .ok (.lreturn, 1) := by decide +kernel
theorem dX7_init_0 : decode cX7_init 0 = .ok (.aload_n 0, 1) := by decide +kernel
theorem dX7_init_1 : decode cX7_init 1 = .ok (.invokespecial 1, 3) := by decide +kernel
theorem dX7_init_4 : decode cX7_init 4 = .ok (.aload_n 0, 1) := by decide +kernel
theorem dX7_init_5 : decode cX7_init 5 = .ok (.sipush 300, 3) := by decide +kernel
theorem dX7_init_8 : decode cX7_init 8 = .ok (.newarray .int, 2) := by decide +kernel
theorem dX7_init_10 : decode cX7_init 10 = .ok (.putfield 7, 3) := by decide +kernel
theorem dX7_init_13 : decode cX7_init 13 = .ok (.aload_n 0, 1) := by decide +kernel
theorem dX7_init_14 : decode cX7_init 14 = .ok (.bipush 48, 2) := by decide +kernel
theorem dX7_init_16 : decode cX7_init 16 = .ok (.newarray .long, 2) := by decide +kernel
theorem dX7_init_18 : decode cX7_init 18 = .ok (.putfield 13, 3) := by decide +kernel
theorem dX7_init_21 : decode cX7_init 21 = .ok (.aload_n 0, 1) := by decide +kernel
theorem dX7_init_22 : decode cX7_init 22 = .ok (.iconst 2, 1) := by decide +kernel
theorem dX7_init_23 : decode cX7_init 23 = .ok (.newarray .boolean, 2) := by decide +kernel
theorem dX7_init_25 : decode cX7_init 25 = .ok (.putfield 17, 3) := by decide +kernel
theorem dX7_init_28 : decode cX7_init 28 = .ok (.aload_n 0, 1) := by decide +kernel
theorem dX7_init_29 : decode cX7_init 29 = .ok (.sipush 200, 3) := by decide +kernel
theorem dX7_init_32 : decode cX7_init 32 = .ok (.newarray .int, 2) := by decide +kernel
theorem dX7_init_34 : decode cX7_init 34 = .ok (.putfield 21, 3) := by decide +kernel
theorem dX7_init_37 : decode cX7_init 37 = .ok (.aload_n 0, 1) := by decide +kernel
theorem dX7_init_38 : decode cX7_init 38 = .ok (.bipush 40, 2) := by decide +kernel
theorem dX7_init_40 : decode cX7_init 40 = .ok (.newarray .int, 2) := by decide +kernel
theorem dX7_init_42 : decode cX7_init 42 = .ok (.putfield 24, 3) := by decide +kernel
theorem dX7_init_45 : decode cX7_init 45 = .ok (.aload_n 0, 1) := by decide +kernel
theorem dX7_init_46 : decode cX7_init 46 = .ok (.bipush 8, 2) := by decide +kernel
theorem dX7_init_48 : decode cX7_init 48 = .ok (.newarray .long, 2) := by decide +kernel
theorem dX7_init_50 : decode cX7_init 50 = .ok (.putfield 27, 3) := by decide +kernel
theorem dX7_init_53 : decode cX7_init 53 = .ok (.aload_n 0, 1) := by decide +kernel
theorem dX7_init_54 : decode cX7_init 54 = .ok (.iconst 3, 1) := by decide +kernel
theorem dX7_init_55 : decode cX7_init 55 = .ok (.newarray .int, 2) := by decide +kernel
theorem dX7_init_57 : decode cX7_init 57 = .ok (.dup, 1) := by decide +kernel
theorem dX7_init_58 : decode cX7_init 58 = .ok (.iconst 0, 1) := by decide +kernel
theorem dX7_init_59 : decode cX7_init 59 = .ok (.iconst (-1), 1) := by decide +kernel
theorem dX7_init_60 : decode cX7_init 60 = .ok (.iastore, 1) := by decide +kernel
theorem dX7_init_61 : decode cX7_init 61 = .ok (.dup, 1) := by decide +kernel
theorem dX7_init_62 : decode cX7_init 62 = .ok (.iconst 1, 1) := by decide +kernel
theorem dX7_init_63 : decode cX7_init 63 = .ok (.iconst (-1), 1) := by decide +kernel
theorem dX7_init_64 : decode cX7_init 64 = .ok (.iastore, 1) := by decide +kernel
theorem dX7_init_65 : decode cX7_init 65 = .ok (.dup, 1) := by decide +kernel
theorem dX7_init_66 : decode cX7_init 66 = .ok (.iconst 2, 1) := by decide +kernel
theorem dX7_init_67 : decode cX7_init 67 = .ok (.iconst (-1), 1) := by decide +kernel
theorem dX7_init_68 : decode cX7_init 68 = .ok (.iastore, 1) := by decide +kernel
theorem dX7_init_69 : decode cX7_init 69 = .ok (.putfield 30, 3) := by decide +kernel
theorem dX7_init_72 : decode cX7_init 72 = .ok (.aload_n 0, 1) := by decide +kernel
theorem dX7_init_73 : decode cX7_init 73 = .ok (.iconst 3, 1) := by decide +kernel
theorem dX7_init_74 : decode cX7_init 74 = .ok (.newarray .int, 2) := by decide +kernel
theorem dX7_init_76 : decode cX7_init 76 = .ok (.putfield 33, 3) := by decide +kernel
theorem dX7_init_79 : decode cX7_init 79 = .ok (.aload_n 0, 1) := by decide +kernel
theorem dX7_init_80 : decode cX7_init 80 = .ok (.bipush 60, 2) := by decide +kernel
theorem dX7_init_82 : decode cX7_init 82 = .ok (.newarray .int, 2) := by decide +kernel
theorem dX7_init_84 : decode cX7_init 84 = .ok (.putfield 36, 3) := by decide +kernel
theorem dX7_init_87 : decode cX7_init 87 = .ok (.aload_n 0, 1) := by decide +kernel
theorem dX7_init_88 : decode cX7_init 88 = .ok (.bipush 18, 2) := by decide +kernel
theorem dX7_init_90 : decode cX7_init 90 = .ok (.newarray .int, 2) := by decide +kernel
theorem dX7_init_92 : decode cX7_init 92 = .ok (.putfield 39, 3) := by decide +kernel
theorem dX7_init_95 : decode cX7_init 95 = .ok (.aload_n 0, 1) := by decide +kernel
theorem dX7_init_96 : decode cX7_init 96 = .ok (.bipush 16, 2) := by decide +kernel
theorem dX7_init_98 : decode cX7_init 98 = .ok (.newarray .int, 2) := by decide +kernel
theorem dX7_init_100 : decode cX7_init 100 = .ok (.putfield 42, 3) := by decide +kernel
theorem dX7_init_103 : decode cX7_init 103 = .ok (.aload_n 0, 1) := by decide +kernel
theorem dX7_init_104 : decode cX7_init 104 = .ok (.sipush 1110, 3) := by decide +kernel
theorem dX7_init_107 : decode cX7_init 107 = .ok (.newarray .long, 2) := by decide +kernel
theorem dX7_init_109 : decode cX7_init 109 = .ok (.putfield 45, 3) := by decide +kernel
theorem dX7_init_112 : decode cX7_init 112 = .ok (.aload_n 0, 1) := by decide +kernel
theorem dX7_init_113 : decode cX7_init 113 = .ok (.bipush 6, 2) := by decide +kernel
theorem dX7_init_115 : decode cX7_init 115 = .ok (.newarray .int, 2) := by decide +kernel
theorem dX7_init_117 : decode cX7_init 117 = .ok (.putfield 48, 3) := by decide +kernel
theorem dX7_init_120 : decode cX7_init 120 = .ok (.aload_n 0, 1) := by decide +kernel
theorem dX7_init_121 : decode cX7_init 121 = .ok (.bipush 11, 2) := by decide +kernel
theorem dX7_init_123 : decode cX7_init 123 = .ok (.newarray .int, 2) := by decide +kernel
theorem dX7_init_125 : decode cX7_init 125 = .ok (.putfield 51, 3) := by decide +kernel
theorem dX7_init_128 : decode cX7_init 128 = .ok (.aload_n 0, 1) := by decide +kernel
theorem dX7_init_129 : decode cX7_init 129 = .ok (.sipush 401, 3) := by decide +kernel
theorem dX7_init_132 : decode cX7_init 132 = .ok (.newarray .boolean, 2) := by decide +kernel
theorem dX7_init_134 : decode cX7_init 134 = .ok (.putfield 54, 3) := by decide +kernel
theorem dX7_init_137 : decode cX7_init 137 = .ok (.aload_n 0, 1) := by decide +kernel
theorem dX7_init_138 : decode cX7_init 138 = .ok (.iconst 5, 1) := by decide +kernel
theorem dX7_init_139 : decode cX7_init 139 = .ok (.newarray .int, 2) := by decide +kernel
theorem dX7_init_141 : decode cX7_init 141 = .ok (.putfield 57, 3) := by decide +kernel
theorem dX7_init_144 : decode cX7_init 144 = .ok (.aload_n 0, 1) := by decide +kernel
theorem dX7_init_145 : decode cX7_init 145 = .ok (.bipush 26, 2) := by decide +kernel
theorem dX7_init_147 : decode cX7_init 147 = .ok (.newarray .int, 2) := by decide +kernel
theorem dX7_init_149 : decode cX7_init 149 = .ok (.putfield 60, 3) := by decide +kernel
theorem dX7_init_152 : decode cX7_init 152 = .ok (.aload_n 0, 1) := by decide +kernel
theorem dX7_init_153 : decode cX7_init 153 = .ok (.sipush 512, 3) := by decide +kernel
theorem dX7_init_156 : decode cX7_init 156 = .ok (.newarray .long, 2) := by decide +kernel
theorem dX7_init_158 : decode cX7_init 158 = .ok (.putfield 63, 3) := by decide +kernel
theorem dX7_init_161 : decode cX7_init 161 = .ok (.iconst 0, 1) := by decide +kernel
theorem dX7_init_162 : decode cX7_init 162 = .ok (.istore_n 1, 1) := by decide +kernel
theorem dX7_init_163 : decode cX7_init 163 = .ok (.iload_n 1, 1) := by decide +kernel
theorem dX7_init_164 : decode cX7_init 164 = .ok (.bipush 26, 2) := by decide +kernel
theorem dX7_init_166 : decode cX7_init 166 = .ok (.if_icmp .ge 18, 3) := by decide +kernel
theorem dX7_init_169 : decode cX7_init 169 = .ok (.aload_n 0, 1) := by decide +kernel
theorem dX7_init_170 : decode cX7_init 170 = .ok (.getfield 7, 3) := by decide +kernel
theorem dX7_init_173 : decode cX7_init 173 = .ok (.iload_n 1, 1) := by decide +kernel
theorem dX7_init_174 : decode cX7_init 174 = .ok (.iload_n 1, 1) := by decide +kernel
theorem dX7_init_175 : decode cX7_init 175 = .ok (.iconst 1, 1) := by decide +kernel
theorem dX7_init_176 : decode cX7_init 176 = .ok (.iadd, 1) := by decide +kernel
theorem dX7_init_177 : decode cX7_init 177 = .ok (.iastore, 1) := by decide +kernel
theorem dX7_init_178 : decode cX7_init 178 = .ok (.iinc 1 1, 3) := by decide +kernel
theorem dX7_init_181 : decode cX7_init 181 = .ok (.goto (-18), 3) := by decide +kernel
theorem dX7_init_184 : decode cX7_init 184 = .ok (.aload_n 0, 1) := by decide +kernel
theorem dX7_init_185 : decode cX7_init 185 = .ok (.getfield 7, 3) := by decide +kernel
theorem dX7_init_188 : decode cX7_init 188 = .ok (.bipush 37, 2) := by decide +kernel
theorem dX7_init_190 : decode cX7_init 190 = .ok (.iconst 3, 1) := by decide +kernel
theorem dX7_init_191 : decode cX7_init 191 = .ok (.iastore, 1) := by decide +kernel
theorem dX7_init_192 : decode cX7_init 192 = .ok (.return_, 1) := by decide +kernel
theorem dX7_in_0 : decode cX7_in 0 = .ok (.lload_n 0, 1) := by decide +kernel
theorem dX7_in_1 : decode cX7_in 1 = .ok (.lload_n 2, 1) := by decide +kernel
theorem dX7_in_2 : decode cX7_in 2 = .ok (.lcmp, 1) := by decide +kernel
theorem dX7_in_3 : decode cX7_in 3 = .ok (.ifCond .lt 14, 3) := by decide +kernel
theorem dX7_in_6 : decode cX7_in 6 = .ok (.lload_n 0, 1) := by decide +kernel
theorem dX7_in_7 : decode cX7_in 7 = .ok (.lload 4, 2) := by decide +kernel
theorem dX7_in_9 : decode cX7_in 9 = .ok (.lcmp, 1) := by decide +kernel
theorem dX7_in_10 : decode cX7_in 10 = .ok (.ifCond .gt 7, 3) := by decide +kernel
theorem dX7_in_13 : decode cX7_in 13 = .ok (.iconst 1, 1) := by decide +kernel
theorem dX7_in_14 : decode cX7_in 14 = .ok (.goto 4, 3) := by decide +kernel
theorem dX7_in_17 : decode cX7_in 17 = .ok (.iconst 0, 1) := by decide +kernel
theorem dX7_in_18 : decode cX7_in 18 = .ok (.ireturn, 1) := by decide +kernel
theorem dX7_has_0 : decode cX7_has 0 = .ok (.iload_n 0, 1) := by decide +kernel
theorem dX7_has_1 : decode cX7_has 1 = .ok (.iload_n 1, 1) := by decide +kernel
theorem dX7_has_2 : decode cX7_has 2 = .ok (.ishr, 1) := by decide +kernel
theorem dX7_has_3 : decode cX7_has 3 = .ok (.iconst 1, 1) := by decide +kernel
theorem dX7_has_4 : decode cX7_has 4 = .ok (.iand, 1) := by decide +kernel
theorem dX7_has_5 : decode cX7_has 5 = .ok (.iconst 1, 1) := by decide +kernel
theorem dX7_has_6 : decode cX7_has 6 = .ok (.if_icmp .ne 7, 3) := by decide +kernel
theorem dX7_has_9 : decode cX7_has 9 = .ok (.iconst 1, 1) := by decide +kernel
theorem dX7_has_10 : decode cX7_has 10 = .ok (.goto 4, 3) := by decide +kernel
theorem dX7_has_13 : decode cX7_has 13 = .ok (.iconst 0, 1) := by decide +kernel
theorem dX7_has_14 : decode cX7_has 14 = .ok (.ireturn, 1) := by decide +kernel
theorem dX7_write_0 : decode cX7_write 0 = .ok (.iload_n 3, 1) := by decide +kernel
theorem dX7_write_1 : decode cX7_write 1 = .ok (.i2l, 1) := by decide +kernel
theorem dX7_write_2 : decode cX7_write 2 = .ok (.lconst 1, 1) := by decide +kernel
theorem dX7_write_3 : decode cX7_write 3 = .ok (.ldc2_w 66, 3) := by decide +kernel
theorem dX7_write_6 : decode cX7_write 6 = .ok (.invokestatic 68, 3) := by decide +kernel
theorem dX7_write_9 : decode cX7_write 9 = .ok (.ifCond .ne 6, 3) := by decide +kernel
theorem dX7_write_12 : decode cX7_write 12 = .ok (.bipush (-3), 2) := by decide +kernel
theorem dX7_write_14 : decode cX7_write 14 = .ok (.ireturn, 1) := by decide +kernel
theorem dX7_write_15 : decode cX7_write 15 = .ok (.aload_n 0, 1) := by decide +kernel
theorem dX7_write_16 : decode cX7_write 16 = .ok (.getfield 72, 3) := by decide +kernel
theorem dX7_write_19 : decode cX7_write 19 = .ok (.iload_n 3, 1) := by decide +kernel
theorem dX7_write_20 : decode cX7_write 20 = .ok (.iadd, 1) := by decide +kernel
theorem dX7_write_21 : decode cX7_write 21 = .ok (.sipush 200, 3) := by decide +kernel
theorem dX7_write_24 : decode cX7_write 24 = .ok (.if_icmp .le 6, 3) := by decide +kernel
theorem dX7_write_27 : decode cX7_write 27 = .ok (.bipush (-5), 2) := by decide +kernel
theorem dX7_write_29 : decode cX7_write 29 = .ok (.ireturn, 1) := by decide +kernel
theorem dX7_write_30 : decode cX7_write 30 = .ok (.iconst 0, 1) := by decide +kernel
theorem dX7_write_31 : decode cX7_write 31 = .ok (.istore 4, 2) := by decide +kernel
theorem dX7_write_33 : decode cX7_write 33 = .ok (.iload 4, 2) := by decide +kernel
theorem dX7_write_35 : decode cX7_write 35 = .ok (.iload_n 3, 1) := by decide +kernel
theorem dX7_write_36 : decode cX7_write 36 = .ok (.if_icmp .ge 40, 3) := by decide +kernel
theorem dX7_write_39 : decode cX7_write 39 = .ok (.aload_n 0, 1) := by decide +kernel
theorem dX7_write_40 : decode cX7_write 40 = .ok (.getfield 21, 3) := by decide +kernel
theorem dX7_write_43 : decode cX7_write 43 = .ok (.aload_n 0, 1) := by decide +kernel
theorem dX7_write_44 : decode cX7_write 44 = .ok (.getfield 72, 3) := by decide +kernel
theorem dX7_write_47 : decode cX7_write 47 = .ok (.lload_n 1, 1) := by decide +kernel
theorem dX7_write_48 : decode cX7_write 48 = .ok (.bipush 8, 2) := by decide +kernel
theorem dX7_write_50 : decode cX7_write 50 = .ok (.iload 4, 2) := by decide +kernel
theorem dX7_write_52 : decode cX7_write 52 = .ok (.imul, 1) := by decide +kernel
theorem dX7_write_53 : decode cX7_write 53 = .ok (.lshr, 1) := by decide +kernel
theorem dX7_write_54 : decode cX7_write 54 = .ok (.ldc2_w 76, 3) := by decide +kernel
theorem dX7_write_57 : decode cX7_write 57 = .ok (.land, 1) := by decide +kernel
theorem dX7_write_58 : decode cX7_write 58 = .ok (.l2i, 1) := by decide +kernel
theorem dX7_write_59 : decode cX7_write 59 = .ok (.iastore, 1) := by decide +kernel
theorem dX7_write_60 : decode cX7_write 60 = .ok (.aload_n 0, 1) := by decide +kernel
theorem dX7_write_61 : decode cX7_write 61 = .ok (.dup, 1) := by decide +kernel
theorem dX7_write_62 : decode cX7_write 62 = .ok (.getfield 72, 3) := by decide +kernel
theorem dX7_write_65 : decode cX7_write 65 = .ok (.iconst 1, 1) := by decide +kernel
theorem dX7_write_66 : decode cX7_write 66 = .ok (.iadd, 1) := by decide +kernel
theorem dX7_write_67 : decode cX7_write 67 = .ok (.putfield 72, 3) := by decide +kernel
theorem dX7_write_70 : decode cX7_write 70 = .ok (.iinc 4 1, 3) := by decide +kernel
theorem dX7_write_73 : decode cX7_write 73 = .ok (.goto (-40), 3) := by decide +kernel
theorem dX7_write_76 : decode cX7_write 76 = .ok (.aload_n 0, 1) := by decide +kernel
theorem dX7_write_77 : decode cX7_write 77 = .ok (.getfield 72, 3) := by decide +kernel
theorem dX7_write_80 : decode cX7_write 80 = .ok (.ireturn, 1) := by decide +kernel
theorem dX7_erase_0 : decode cX7_erase 0 = .ok (.aload_n 0, 1) := by decide +kernel
theorem dX7_erase_1 : decode cX7_erase 1 = .ok (.getfield 72, 3) := by decide +kernel
theorem dX7_erase_4 : decode cX7_erase 4 = .ok (.istore_n 1, 1) := by decide +kernel
theorem dX7_erase_5 : decode cX7_erase 5 = .ok (.aload_n 0, 1) := by decide +kernel
theorem dX7_erase_6 : decode cX7_erase 6 = .ok (.iconst 0, 1) := by decide +kernel
theorem dX7_erase_7 : decode cX7_erase 7 = .ok (.putfield 72, 3) := by decide +kernel
theorem dX7_erase_10 : decode cX7_erase 10 = .ok (.iload_n 1, 1) := by decide +kernel
theorem dX7_erase_11 : decode cX7_erase 11 = .ok (.ireturn, 1) := by decide +kernel
theorem dX7_sort_0 : decode cX7_sort 0 = .ok (.iload_n 0, 1) := by decide +kernel
theorem dX7_sort_1 : decode cX7_sort 1 = .ok (.bipush 97, 2) := by decide +kernel
theorem dX7_sort_3 : decode cX7_sort 3 = .ok (.if_icmp .lt 13, 3) := by decide +kernel
theorem dX7_sort_6 : decode cX7_sort 6 = .ok (.iload_n 0, 1) := by decide +kernel
theorem dX7_sort_7 : decode cX7_sort 7 = .ok (.bipush 122, 2) := by decide +kernel
theorem dX7_sort_9 : decode cX7_sort 9 = .ok (.if_icmp .gt 7, 3) := by decide +kernel
theorem dX7_sort_12 : decode cX7_sort 12 = .ok (.iconst 1, 1) := by decide +kernel
theorem dX7_sort_13 : decode cX7_sort 13 = .ok (.goto 20, 3) := by decide +kernel
theorem dX7_sort_16 : decode cX7_sort 16 = .ok (.iload_n 0, 1) := by decide +kernel
theorem dX7_sort_17 : decode cX7_sort 17 = .ok (.bipush 48, 2) := by decide +kernel
theorem dX7_sort_19 : decode cX7_sort 19 = .ok (.if_icmp .lt 13, 3) := by decide +kernel
theorem dX7_sort_22 : decode cX7_sort 22 = .ok (.iload_n 0, 1) := by decide +kernel
theorem dX7_sort_23 : decode cX7_sort 23 = .ok (.bipush 57, 2) := by decide +kernel
theorem dX7_sort_25 : decode cX7_sort 25 = .ok (.if_icmp .gt 7, 3) := by decide +kernel
theorem dX7_sort_28 : decode cX7_sort 28 = .ok (.iconst 2, 1) := by decide +kernel
theorem dX7_sort_29 : decode cX7_sort 29 = .ok (.goto 4, 3) := by decide +kernel
theorem dX7_sort_32 : decode cX7_sort 32 = .ok (.iconst 0, 1) := by decide +kernel
theorem dX7_sort_33 : decode cX7_sort 33 = .ok (.ireturn, 1) := by decide +kernel
theorem dX7_token_0 : decode cX7_token 0 = .ok (.aload_n 0, 1) := by decide +kernel
theorem dX7_token_1 : decode cX7_token 1 = .ok (.getfield 78, 3) := by decide +kernel
theorem dX7_token_4 : decode cX7_token 4 = .ok (.aload_n 0, 1) := by decide +kernel
theorem dX7_token_5 : decode cX7_token 5 = .ok (.getfield 72, 3) := by decide +kernel
theorem dX7_token_8 : decode cX7_token 8 = .ok (.if_icmp .ge 30, 3) := by decide +kernel
theorem dX7_token_11 : decode cX7_token 11 = .ok (.aload_n 0, 1) := by decide +kernel
theorem dX7_token_12 : decode cX7_token 12 = .ok (.getfield 21, 3) := by decide +kernel
theorem dX7_token_15 : decode cX7_token 15 = .ok (.aload_n 0, 1) := by decide +kernel
theorem dX7_token_16 : decode cX7_token 16 = .ok (.getfield 78, 3) := by decide +kernel
theorem dX7_token_19 : decode cX7_token 19 = .ok (.iaload, 1) := by decide +kernel
theorem dX7_token_20 : decode cX7_token 20 = .ok (.bipush 32, 2) := by decide +kernel
theorem dX7_token_22 : decode cX7_token 22 = .ok (.if_icmp .ne 16, 3) := by decide +kernel
theorem dX7_token_25 : decode cX7_token 25 = .ok (.aload_n 0, 1) := by decide +kernel
theorem dX7_token_26 : decode cX7_token 26 = .ok (.dup, 1) := by decide +kernel
theorem dX7_token_27 : decode cX7_token 27 = .ok (.getfield 78, 3) := by decide +kernel
theorem dX7_token_30 : decode cX7_token 30 = .ok (.iconst 1, 1) := by decide +kernel
theorem dX7_token_31 : decode cX7_token 31 = .ok (.iadd, 1) := by decide +kernel
theorem dX7_token_32 : decode cX7_token 32 = .ok (.putfield 78, 3) := by decide +kernel
theorem dX7_token_35 : decode cX7_token 35 = .ok (.goto (-35), 3) := by decide +kernel
theorem dX7_token_38 : decode cX7_token 38 = .ok (.aload_n 0, 1) := by decide +kernel
theorem dX7_token_39 : decode cX7_token 39 = .ok (.aload_n 0, 1) := by decide +kernel
theorem dX7_token_40 : decode cX7_token 40 = .ok (.getfield 78, 3) := by decide +kernel
theorem dX7_token_43 : decode cX7_token 43 = .ok (.putfield 81, 3) := by decide +kernel
theorem dX7_token_46 : decode cX7_token 46 = .ok (.aload_n 0, 1) := by decide +kernel
theorem dX7_token_47 : decode cX7_token 47 = .ok (.dup, 1) := by decide +kernel
theorem dX7_token_48 : decode cX7_token 48 = .ok (.getfield 78, 3) := by decide +kernel
theorem dX7_token_51 : decode cX7_token 51 = .ok (.aload_n 0, 1) := by decide +kernel
theorem dX7_token_52 : decode cX7_token 52 = .ok (.getfield 78, 3) := by decide +kernel
theorem dX7_token_55 : decode cX7_token 55 = .ok (.aload_n 0, 1) := by decide +kernel
theorem dX7_token_56 : decode cX7_token 56 = .ok (.getfield 72, 3) := by decide +kernel
theorem dX7_token_59 : decode cX7_token 59 = .ok (.if_icmp .ge 7, 3) := by decide +kernel
theorem dX7_token_62 : decode cX7_token 62 = .ok (.iconst 1, 1) := by decide +kernel
theorem dX7_token_63 : decode cX7_token 63 = .ok (.goto 4, 3) := by decide +kernel
theorem dX7_token_66 : decode cX7_token 66 = .ok (.iconst 0, 1) := by decide +kernel
theorem dX7_token_67 : decode cX7_token 67 = .ok (.iadd, 1) := by decide +kernel
theorem dX7_token_68 : decode cX7_token 68 = .ok (.putfield 78, 3) := by decide +kernel
theorem dX7_token_71 : decode cX7_token 71 = .ok (.aload_n 0, 1) := by decide +kernel
theorem dX7_token_72 : decode cX7_token 72 = .ok (.getfield 78, 3) := by decide +kernel
theorem dX7_token_75 : decode cX7_token 75 = .ok (.aload_n 0, 1) := by decide +kernel
theorem dX7_token_76 : decode cX7_token 76 = .ok (.getfield 72, 3) := by decide +kernel
theorem dX7_token_79 : decode cX7_token 79 = .ok (.if_icmp .ge 58, 3) := by decide +kernel
theorem dX7_token_82 : decode cX7_token 82 = .ok (.aload_n 0, 1) := by decide +kernel
theorem dX7_token_83 : decode cX7_token 83 = .ok (.getfield 21, 3) := by decide +kernel
theorem dX7_token_86 : decode cX7_token 86 = .ok (.aload_n 0, 1) := by decide +kernel
theorem dX7_token_87 : decode cX7_token 87 = .ok (.getfield 81, 3) := by decide +kernel
theorem dX7_token_90 : decode cX7_token 90 = .ok (.iaload, 1) := by decide +kernel
theorem dX7_token_91 : decode cX7_token 91 = .ok (.invokestatic 84, 3) := by decide +kernel
theorem dX7_token_94 : decode cX7_token 94 = .ok (.ifCond .le 43, 3) := by decide +kernel
theorem dX7_token_97 : decode cX7_token 97 = .ok (.aload_n 0, 1) := by decide +kernel
theorem dX7_token_98 : decode cX7_token 98 = .ok (.getfield 21, 3) := by decide +kernel
theorem dX7_token_101 : decode cX7_token 101 = .ok (.aload_n 0, 1) := by decide +kernel
theorem dX7_token_102 : decode cX7_token 102 = .ok (.getfield 78, 3) := by decide +kernel
theorem dX7_token_105 : decode cX7_token 105 = .ok (.iaload, 1) := by decide +kernel
theorem dX7_token_106 : decode cX7_token 106 = .ok (.invokestatic 84, 3) := by decide +kernel
theorem dX7_token_109 : decode cX7_token 109 = .ok (.aload_n 0, 1) := by decide +kernel
theorem dX7_token_110 : decode cX7_token 110 = .ok (.getfield 21, 3) := by decide +kernel
theorem dX7_token_113 : decode cX7_token 113 = .ok (.aload_n 0, 1) := by decide +kernel
theorem dX7_token_114 : decode cX7_token 114 = .ok (.getfield 81, 3) := by decide +kernel
theorem dX7_token_117 : decode cX7_token 117 = .ok (.iaload, 1) := by decide +kernel
theorem dX7_token_118 : decode cX7_token 118 = .ok (.invokestatic 84, 3) := by decide +kernel
theorem dX7_token_121 : decode cX7_token 121 = .ok (.if_icmp .ne 16, 3) := by decide +kernel
theorem dX7_token_124 : decode cX7_token 124 = .ok (.aload_n 0, 1) := by decide +kernel
theorem dX7_token_125 : decode cX7_token 125 = .ok (.dup, 1) := by decide +kernel
theorem dX7_token_126 : decode cX7_token 126 = .ok (.getfield 78, 3) := by decide +kernel
theorem dX7_token_129 : decode cX7_token 129 = .ok (.iconst 1, 1) := by decide +kernel
theorem dX7_token_130 : decode cX7_token 130 = .ok (.iadd, 1) := by decide +kernel
theorem dX7_token_131 : decode cX7_token 131 = .ok (.putfield 78, 3) := by decide +kernel
theorem dX7_token_134 : decode cX7_token 134 = .ok (.goto (-63), 3) := by decide +kernel
theorem dX7_token_137 : decode cX7_token 137 = .ok (.aload_n 0, 1) := by decide +kernel
theorem dX7_token_138 : decode cX7_token 138 = .ok (.aload_n 0, 1) := by decide +kernel
theorem dX7_token_139 : decode cX7_token 139 = .ok (.getfield 78, 3) := by decide +kernel
theorem dX7_token_142 : decode cX7_token 142 = .ok (.putfield 88, 3) := by decide +kernel
theorem dX7_token_145 : decode cX7_token 145 = .ok (.return_, 1) := by decide +kernel
theorem dX7_isWord_0 : decode cX7_isWord 0 = .ok (.aload_n 0, 1) := by decide +kernel
theorem dX7_isWord_1 : decode cX7_isWord 1 = .ok (.getfield 88, 3) := by decide +kernel
theorem dX7_isWord_4 : decode cX7_isWord 4 = .ok (.aload_n 0, 1) := by decide +kernel
theorem dX7_isWord_5 : decode cX7_isWord 5 = .ok (.getfield 81, 3) := by decide +kernel
theorem dX7_isWord_8 : decode cX7_isWord 8 = .ok (.isub, 1) := by decide +kernel
theorem dX7_isWord_9 : decode cX7_isWord 9 = .ok (.iload_n 3, 1) := by decide +kernel
theorem dX7_isWord_10 : decode cX7_isWord 10 = .ok (.if_icmp .ne 7, 3) := by decide +kernel
theorem dX7_isWord_13 : decode cX7_isWord 13 = .ok (.iconst 1, 1) := by decide +kernel
theorem dX7_isWord_14 : decode cX7_isWord 14 = .ok (.goto 4, 3) := by decide +kernel
theorem dX7_isWord_17 : decode cX7_isWord 17 = .ok (.iconst 0, 1) := by decide +kernel
theorem dX7_isWord_18 : decode cX7_isWord 18 = .ok (.istore 4, 2) := by decide +kernel
theorem dX7_isWord_20 : decode cX7_isWord 20 = .ok (.iconst 0, 1) := by decide +kernel
theorem dX7_isWord_21 : decode cX7_isWord 21 = .ok (.istore 5, 2) := by decide +kernel
theorem dX7_isWord_23 : decode cX7_isWord 23 = .ok (.iload 4, 2) := by decide +kernel
theorem dX7_isWord_25 : decode cX7_isWord 25 = .ok (.ifCond .eq 51, 3) := by decide +kernel
theorem dX7_isWord_28 : decode cX7_isWord 28 = .ok (.iload 5, 2) := by decide +kernel
theorem dX7_isWord_30 : decode cX7_isWord 30 = .ok (.iload_n 3, 1) := by decide +kernel
theorem dX7_isWord_31 : decode cX7_isWord 31 = .ok (.if_icmp .ge 45, 3) := by decide +kernel
theorem dX7_isWord_34 : decode cX7_isWord 34 = .ok (.aload_n 0, 1) := by decide +kernel
theorem dX7_isWord_35 : decode cX7_isWord 35 = .ok (.getfield 21, 3) := by decide +kernel
theorem dX7_isWord_38 : decode cX7_isWord 38 = .ok (.aload_n 0, 1) := by decide +kernel
theorem dX7_isWord_39 : decode cX7_isWord 39 = .ok (.getfield 81, 3) := by decide +kernel
theorem dX7_isWord_42 : decode cX7_isWord 42 = .ok (.iload 5, 2) := by decide +kernel
theorem dX7_isWord_44 : decode cX7_isWord 44 = .ok (.iadd, 1) := by decide +kernel
theorem dX7_isWord_45 : decode cX7_isWord 45 = .ok (.iaload, 1) := by decide +kernel
theorem dX7_isWord_46 : decode cX7_isWord 46 = .ok (.bipush 96, 2) := by decide +kernel
theorem dX7_isWord_48 : decode cX7_isWord 48 = .ok (.lload_n 1, 1) := by decide +kernel
theorem dX7_isWord_49 : decode cX7_isWord 49 = .ok (.iconst 5, 1) := by decide +kernel
theorem dX7_isWord_50 : decode cX7_isWord 50 = .ok (.iload 5, 2) := by decide +kernel
theorem dX7_isWord_52 : decode cX7_isWord 52 = .ok (.imul, 1) := by decide +kernel
theorem dX7_isWord_53 : decode cX7_isWord 53 = .ok (.lshr, 1) := by decide +kernel
theorem dX7_isWord_54 : decode cX7_isWord 54 = .ok (.ldc2_w 91, 3) := by decide +kernel
theorem dX7_isWord_57 : decode cX7_isWord 57 = .ok (.land, 1) := by decide +kernel
theorem dX7_isWord_58 : decode cX7_isWord 58 = .ok (.l2i, 1) := by decide +kernel
theorem dX7_isWord_59 : decode cX7_isWord 59 = .ok (.iadd, 1) := by decide +kernel
theorem dX7_isWord_60 : decode cX7_isWord 60 = .ok (.if_icmp .ne 7, 3) := by decide +kernel
theorem dX7_isWord_63 : decode cX7_isWord 63 = .ok (.iconst 1, 1) := by decide +kernel
theorem dX7_isWord_64 : decode cX7_isWord 64 = .ok (.goto 4, 3) := by decide +kernel
theorem dX7_isWord_67 : decode cX7_isWord 67 = .ok (.iconst 0, 1) := by decide +kernel
theorem dX7_isWord_68 : decode cX7_isWord 68 = .ok (.istore 4, 2) := by decide +kernel
theorem dX7_isWord_70 : decode cX7_isWord 70 = .ok (.iinc 5 1, 3) := by decide +kernel
theorem dX7_isWord_73 : decode cX7_isWord 73 = .ok (.goto (-50), 3) := by decide +kernel
theorem dX7_isWord_76 : decode cX7_isWord 76 = .ok (.iload 4, 2) := by decide +kernel
theorem dX7_isWord_78 : decode cX7_isWord 78 = .ok (.ireturn, 1) := by decide +kernel
theorem dX7_wordOf_0 : decode cX7_wordOf 0 = .ok (.aload_n 0, 1) := by decide +kernel
theorem dX7_wordOf_1 : decode cX7_wordOf 1 = .ok (.ldc2_w 93, 3) := by decide +kernel
theorem dX7_wordOf_4 : decode cX7_wordOf 4 = .ok (.bipush 6, 2) := by decide +kernel
theorem dX7_wordOf_6 : decode cX7_wordOf 6 = .ok (.invokevirtual 95, 3) := by decide +kernel
theorem dX7_wordOf_9 : decode cX7_wordOf 9 = .ok (.ifCond .eq 7, 3) := by decide +kernel
theorem dX7_wordOf_12 : decode cX7_wordOf 12 = .ok (.iconst 0, 1) := by decide +kernel
theorem dX7_wordOf_13 : decode cX7_wordOf 13 = .ok (.goto 113, 3) := by decide +kernel
theorem dX7_wordOf_16 : decode cX7_wordOf 16 = .ok (.aload_n 0, 1) := by decide +kernel
theorem dX7_wordOf_17 : decode cX7_wordOf 17 = .ok (.ldc2_w 99, 3) := by decide +kernel
theorem dX7_wordOf_20 : decode cX7_wordOf 20 = .ok (.iconst 3, 1) := by decide +kernel
theorem dX7_wordOf_21 : decode cX7_wordOf 21 = .ok (.invokevirtual 95, 3) := by decide +kernel
theorem dX7_wordOf_24 : decode cX7_wordOf 24 = .ok (.ifCond .eq 7, 3) := by decide +kernel
theorem dX7_wordOf_27 : decode cX7_wordOf 27 = .ok (.iconst 1, 1) := by decide +kernel
theorem dX7_wordOf_28 : decode cX7_wordOf 28 = .ok (.goto 98, 3) := by decide +kernel
theorem dX7_wordOf_31 : decode cX7_wordOf 31 = .ok (.aload_n 0, 1) := by decide +kernel
theorem dX7_wordOf_32 : decode cX7_wordOf 32 = .ok (.ldc2_w 101, 3) := by decide +kernel
theorem dX7_wordOf_35 : decode cX7_wordOf 35 = .ok (.iconst 5, 1) := by decide +kernel
theorem dX7_wordOf_36 : decode cX7_wordOf 36 = .ok (.invokevirtual 95, 3) := by decide +kernel
theorem dX7_wordOf_39 : decode cX7_wordOf 39 = .ok (.ifCond .eq 7, 3) := by decide +kernel
theorem dX7_wordOf_42 : decode cX7_wordOf 42 = .ok (.iconst 2, 1) := by decide +kernel
theorem dX7_wordOf_43 : decode cX7_wordOf 43 = .ok (.goto 83, 3) := by decide +kernel
theorem dX7_wordOf_46 : decode cX7_wordOf 46 = .ok (.aload_n 0, 1) := by decide +kernel
theorem dX7_wordOf_47 : decode cX7_wordOf 47 = .ok (.ldc2_w 103, 3) := by decide +kernel
theorem dX7_wordOf_50 : decode cX7_wordOf 50 = .ok (.iconst 5, 1) := by decide +kernel
theorem dX7_wordOf_51 : decode cX7_wordOf 51 = .ok (.invokevirtual 95, 3) := by decide +kernel
theorem dX7_wordOf_54 : decode cX7_wordOf 54 = .ok (.ifCond .eq 7, 3) := by decide +kernel
theorem dX7_wordOf_57 : decode cX7_wordOf 57 = .ok (.iconst 3, 1) := by decide +kernel
theorem dX7_wordOf_58 : decode cX7_wordOf 58 = .ok (.goto 68, 3) := by decide +kernel
theorem dX7_wordOf_61 : decode cX7_wordOf 61 = .ok (.aload_n 0, 1) := by decide +kernel
theorem dX7_wordOf_62 : decode cX7_wordOf 62 = .ok (.ldc2_w 105, 3) := by decide +kernel
theorem dX7_wordOf_65 : decode cX7_wordOf 65 = .ok (.iconst 4, 1) := by decide +kernel
theorem dX7_wordOf_66 : decode cX7_wordOf 66 = .ok (.invokevirtual 95, 3) := by decide +kernel
theorem dX7_wordOf_69 : decode cX7_wordOf 69 = .ok (.ifCond .eq 7, 3) := by decide +kernel
theorem dX7_wordOf_72 : decode cX7_wordOf 72 = .ok (.iconst 4, 1) := by decide +kernel
theorem dX7_wordOf_73 : decode cX7_wordOf 73 = .ok (.goto 53, 3) := by decide +kernel
theorem dX7_wordOf_76 : decode cX7_wordOf 76 = .ok (.aload_n 0, 1) := by decide +kernel
theorem dX7_wordOf_77 : decode cX7_wordOf 77 = .ok (.ldc2_w 107, 3) := by decide +kernel
theorem dX7_wordOf_80 : decode cX7_wordOf 80 = .ok (.iconst 4, 1) := by decide +kernel
theorem dX7_wordOf_81 : decode cX7_wordOf 81 = .ok (.invokevirtual 95, 3) := by decide +kernel
theorem dX7_wordOf_84 : decode cX7_wordOf 84 = .ok (.ifCond .eq 7, 3) := by decide +kernel
theorem dX7_wordOf_87 : decode cX7_wordOf 87 = .ok (.iconst 5, 1) := by decide +kernel
theorem dX7_wordOf_88 : decode cX7_wordOf 88 = .ok (.goto 38, 3) := by decide +kernel
theorem dX7_wordOf_91 : decode cX7_wordOf 91 = .ok (.aload_n 0, 1) := by decide +kernel
theorem dX7_wordOf_92 : decode cX7_wordOf 92 = .ok (.ldc2_w 109, 3) := by decide +kernel
theorem dX7_wordOf_95 : decode cX7_wordOf 95 = .ok (.bipush 7, 2) := by decide +kernel
theorem dX7_wordOf_97 : decode cX7_wordOf 97 = .ok (.invokevirtual 95, 3) := by decide +kernel
theorem dX7_wordOf_100 : decode cX7_wordOf 100 = .ok (.ifCond .eq 8, 3) := by decide +kernel
theorem dX7_wordOf_103 : decode cX7_wordOf 103 = .ok (.bipush 6, 2) := by decide +kernel
theorem dX7_wordOf_105 : decode cX7_wordOf 105 = .ok (.goto 21, 3) := by decide +kernel
theorem dX7_wordOf_108 : decode cX7_wordOf 108 = .ok (.aload_n 0, 1) := by decide +kernel
theorem dX7_wordOf_109 : decode cX7_wordOf 109 = .ok (.ldc2_w 111, 3) := by decide +kernel
theorem dX7_wordOf_112 : decode cX7_wordOf 112 = .ok (.bipush 6, 2) := by decide +kernel
theorem dX7_wordOf_114 : decode cX7_wordOf 114 = .ok (.invokevirtual 95, 3) := by decide +kernel
theorem dX7_wordOf_117 : decode cX7_wordOf 117 = .ok (.ifCond .eq 8, 3) := by decide +kernel
theorem dX7_wordOf_120 : decode cX7_wordOf 120 = .ok (.bipush 7, 2) := by decide +kernel
theorem dX7_wordOf_122 : decode cX7_wordOf 122 = .ok (.goto 4, 3) := by decide +kernel
theorem dX7_wordOf_125 : decode cX7_wordOf 125 = .ok (.iconst (-1), 1) := by decide +kernel
theorem dX7_wordOf_126 : decode cX7_wordOf 126 = .ok (.ireturn, 1) := by decide +kernel
theorem dX7_reads_0 : decode cX7_reads 0 = .ok (.aload_n 0, 1) := by decide +kernel
theorem dX7_reads_1 : decode cX7_reads 1 = .ok (.getfield 81, 3) := by decide +kernel
theorem dX7_reads_4 : decode cX7_reads 4 = .ok (.aload_n 0, 1) := by decide +kernel
theorem dX7_reads_5 : decode cX7_reads 5 = .ok (.getfield 72, 3) := by decide +kernel
theorem dX7_reads_8 : decode cX7_reads 8 = .ok (.if_icmp .eq 32, 3) := by decide +kernel
theorem dX7_reads_11 : decode cX7_reads 11 = .ok (.aload_n 0, 1) := by decide +kernel
theorem dX7_reads_12 : decode cX7_reads 12 = .ok (.getfield 21, 3) := by decide +kernel
theorem dX7_reads_15 : decode cX7_reads 15 = .ok (.aload_n 0, 1) := by decide +kernel
theorem dX7_reads_16 : decode cX7_reads 16 = .ok (.getfield 81, 3) := by decide +kernel
theorem dX7_reads_19 : decode cX7_reads 19 = .ok (.iaload, 1) := by decide +kernel
theorem dX7_reads_20 : decode cX7_reads 20 = .ok (.invokestatic 84, 3) := by decide +kernel
theorem dX7_reads_23 : decode cX7_reads 23 = .ok (.iconst 2, 1) := by decide +kernel
theorem dX7_reads_24 : decode cX7_reads 24 = .ok (.if_icmp .ne 16, 3) := by decide +kernel
theorem dX7_reads_27 : decode cX7_reads 27 = .ok (.aload_n 0, 1) := by decide +kernel
theorem dX7_reads_28 : decode cX7_reads 28 = .ok (.getfield 88, 3) := by decide +kernel
theorem dX7_reads_31 : decode cX7_reads 31 = .ok (.aload_n 0, 1) := by decide +kernel
theorem dX7_reads_32 : decode cX7_reads 32 = .ok (.getfield 81, 3) := by decide +kernel
theorem dX7_reads_35 : decode cX7_reads 35 = .ok (.isub, 1) := by decide +kernel
theorem dX7_reads_36 : decode cX7_reads 36 = .ok (.iconst 3, 1) := by decide +kernel
theorem dX7_reads_37 : decode cX7_reads 37 = .ok (.if_icmp .le 5, 3) := by decide +kernel
theorem dX7_reads_40 : decode cX7_reads 40 = .ok (.iconst 0, 1) := by decide +kernel
theorem dX7_reads_41 : decode cX7_reads 41 = .ok (.ireturn, 1) := by decide +kernel
theorem dX7_reads_42 : decode cX7_reads 42 = .ok (.iconst 0, 1) := by decide +kernel
theorem dX7_reads_43 : decode cX7_reads 43 = .ok (.istore 5, 2) := by decide +kernel
theorem dX7_reads_45 : decode cX7_reads 45 = .ok (.aload_n 0, 1) := by decide +kernel
theorem dX7_reads_46 : decode cX7_reads 46 = .ok (.getfield 81, 3) := by decide +kernel
theorem dX7_reads_49 : decode cX7_reads 49 = .ok (.istore 6, 2) := by decide +kernel
theorem dX7_reads_51 : decode cX7_reads 51 = .ok (.iload 6, 2) := by decide +kernel
theorem dX7_reads_53 : decode cX7_reads 53 = .ok (.aload_n 0, 1) := by decide +kernel
theorem dX7_reads_54 : decode cX7_reads 54 = .ok (.getfield 88, 3) := by decide +kernel
theorem dX7_reads_57 : decode cX7_reads 57 = .ok (.if_icmp .ge 27, 3) := by decide +kernel
theorem dX7_reads_60 : decode cX7_reads 60 = .ok (.bipush 10, 2) := by decide +kernel
theorem dX7_reads_62 : decode cX7_reads 62 = .ok (.iload 5, 2) := by decide +kernel
theorem dX7_reads_64 : decode cX7_reads 64 = .ok (.imul, 1) := by decide +kernel
theorem dX7_reads_65 : decode cX7_reads 65 = .ok (.aload_n 0, 1) := by decide +kernel
theorem dX7_reads_66 : decode cX7_reads 66 = .ok (.getfield 21, 3) := by decide +kernel
theorem dX7_reads_69 : decode cX7_reads 69 = .ok (.iload 6, 2) := by decide +kernel
theorem dX7_reads_71 : decode cX7_reads 71 = .ok (.iaload, 1) := by decide +kernel
theorem dX7_reads_72 : decode cX7_reads 72 = .ok (.iadd, 1) := by decide +kernel
theorem dX7_reads_73 : decode cX7_reads 73 = .ok (.bipush 48, 2) := by decide +kernel
theorem dX7_reads_75 : decode cX7_reads 75 = .ok (.isub, 1) := by decide +kernel
theorem dX7_reads_76 : decode cX7_reads 76 = .ok (.istore 5, 2) := by decide +kernel
theorem dX7_reads_78 : decode cX7_reads 78 = .ok (.iinc 6 1, 3) := by decide +kernel
theorem dX7_reads_81 : decode cX7_reads 81 = .ok (.goto (-30), 3) := by decide +kernel
theorem dX7_reads_84 : decode cX7_reads 84 = .ok (.iload 5, 2) := by decide +kernel
theorem dX7_reads_86 : decode cX7_reads 86 = .ok (.i2l, 1) := by decide +kernel
theorem dX7_reads_87 : decode cX7_reads 87 = .ok (.iload_n 2, 1) := by decide +kernel
theorem dX7_reads_88 : decode cX7_reads 88 = .ok (.i2l, 1) := by decide +kernel
theorem dX7_reads_89 : decode cX7_reads 89 = .ok (.iload_n 3, 1) := by decide +kernel
theorem dX7_reads_90 : decode cX7_reads 90 = .ok (.i2l, 1) := by decide +kernel
theorem dX7_reads_91 : decode cX7_reads 91 = .ok (.invokestatic 68, 3) := by decide +kernel
theorem dX7_reads_94 : decode cX7_reads 94 = .ok (.ifCond .eq 10, 3) := by decide +kernel
theorem dX7_reads_97 : decode cX7_reads 97 = .ok (.iload 5, 2) := by decide +kernel
theorem dX7_reads_99 : decode cX7_reads 99 = .ok (.iload 4, 2) := by decide +kernel
theorem dX7_reads_101 : decode cX7_reads 101 = .ok (.if_icmp .ne 5, 3) := by decide +kernel
theorem dX7_reads_104 : decode cX7_reads 104 = .ok (.iconst 0, 1) := by decide +kernel
theorem dX7_reads_105 : decode cX7_reads 105 = .ok (.ireturn, 1) := by decide +kernel
theorem dX7_reads_106 : decode cX7_reads 106 = .ok (.aload_n 0, 1) := by decide +kernel
theorem dX7_reads_107 : decode cX7_reads 107 = .ok (.getfield 24, 3) := by decide +kernel
theorem dX7_reads_110 : decode cX7_reads 110 = .ok (.iconst 5, 1) := by decide +kernel
theorem dX7_reads_111 : decode cX7_reads 111 = .ok (.aload_n 0, 1) := by decide +kernel
theorem dX7_reads_112 : decode cX7_reads 112 = .ok (.getfield 113, 3) := by decide +kernel
theorem dX7_reads_115 : decode cX7_reads 115 = .ok (.imul, 1) := by decide +kernel
theorem dX7_reads_116 : decode cX7_reads 116 = .ok (.iconst 1, 1) := by decide +kernel
theorem dX7_reads_117 : decode cX7_reads 117 = .ok (.iadd, 1) := by decide +kernel
theorem dX7_reads_118 : decode cX7_reads 118 = .ok (.iload_n 1, 1) := by decide +kernel
theorem dX7_reads_119 : decode cX7_reads 119 = .ok (.iadd, 1) := by decide +kernel
theorem dX7_reads_120 : decode cX7_reads 120 = .ok (.iload 5, 2) := by decide +kernel
theorem dX7_reads_122 : decode cX7_reads 122 = .ok (.iastore, 1) := by decide +kernel
theorem dX7_reads_123 : decode cX7_reads 123 = .ok (.aload_n 0, 1) := by decide +kernel
theorem dX7_reads_124 : decode cX7_reads 124 = .ok (.invokevirtual 116, 3) := by decide +kernel
theorem dX7_reads_127 : decode cX7_reads 127 = .ok (.iconst 1, 1) := by decide +kernel
theorem dX7_reads_128 : decode cX7_reads 128 = .ok (.ireturn, 1) := by decide +kernel
theorem dX7_codeHere_0 : decode cX7_codeHere 0 = .ok (.aload_n 0, 1) := by decide +kernel
theorem dX7_codeHere_1 : decode cX7_codeHere 1 = .ok (.getfield 81, 3) := by decide +kernel
