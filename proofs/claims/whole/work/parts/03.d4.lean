theorem dX7_takerOf_38 : decode cX7_takerOf 38 = .ok (.laload, 1) := by decide +kernel
theorem dX7_takerOf_39 : decode cX7_takerOf 39 = .ok (.lcmp, 1) := by decide +kernel
theorem dX7_takerOf_40 : decode cX7_takerOf 40 = .ok (.ifCond .ne 5, 3) := by decide +kernel
theorem dX7_takerOf_43 : decode cX7_takerOf 43 = .ok (.iload_n 3, 1) := by decide +kernel
theorem dX7_takerOf_44 : decode cX7_takerOf 44 = .ok (.ireturn, 1) := by decide +kernel
theorem dX7_takerOf_45 : decode cX7_takerOf 45 = .ok (.iinc 3 1, 3) := by decide +kernel
theorem dX7_takerOf_48 : decode cX7_takerOf 48 = .ok (.goto (-40), 3) := by decide +kernel
theorem dX7_takerOf_51 : decode cX7_takerOf 51 = .ok (.iconst (-1), 1) := by decide +kernel
theorem dX7_takerOf_52 : decode cX7_takerOf 52 = .ok (.ireturn, 1) := by decide +kernel
theorem dX7_judge_0 : decode cX7_judge 0 = .ok (.aload_n 0, 1) := by decide +kernel
theorem dX7_judge_1 : decode cX7_judge 1 = .ok (.iload_n 1, 1) := by decide +kernel
theorem dX7_judge_2 : decode cX7_judge 2 = .ok (.invokevirtual 191, 3) := by decide +kernel
theorem dX7_judge_5 : decode cX7_judge 5 = .ok (.ifCond .ne 6, 3) := by decide +kernel
theorem dX7_judge_8 : decode cX7_judge 8 = .ok (.bipush (-2), 2) := by decide +kernel
theorem dX7_judge_10 : decode cX7_judge 10 = .ok (.ireturn, 1) := by decide +kernel
theorem dX7_judge_11 : decode cX7_judge 11 = .ok (.aload_n 0, 1) := by decide +kernel
theorem dX7_judge_12 : decode cX7_judge 12 = .ok (.getfield 13, 3) := by decide +kernel
theorem dX7_judge_15 : decode cX7_judge 15 = .ok (.iload_n 1, 1) := by decide +kernel
theorem dX7_judge_16 : decode cX7_judge 16 = .ok (.laload, 1) := by decide +kernel
theorem dX7_judge_17 : decode cX7_judge 17 = .ok (.lconst 0, 1) := by decide +kernel
theorem dX7_judge_18 : decode cX7_judge 18 = .ok (.lcmp, 1) := by decide +kernel
theorem dX7_judge_19 : decode cX7_judge 19 = .ok (.ifCond .ne 7, 3) := by decide +kernel
theorem dX7_judge_22 : decode cX7_judge 22 = .ok (.iconst 1, 1) := by decide +kernel
theorem dX7_judge_23 : decode cX7_judge 23 = .ok (.goto 60, 3) := by decide +kernel
theorem dX7_judge_26 : decode cX7_judge 26 = .ok (.aload_n 0, 1) := by decide +kernel
theorem dX7_judge_27 : decode cX7_judge 27 = .ok (.aload_n 0, 1) := by decide +kernel
theorem dX7_judge_28 : decode cX7_judge 28 = .ok (.getfield 13, 3) := by decide +kernel
theorem dX7_judge_31 : decode cX7_judge 31 = .ok (.iload_n 1, 1) := by decide +kernel
theorem dX7_judge_32 : decode cX7_judge 32 = .ok (.laload, 1) := by decide +kernel
theorem dX7_judge_33 : decode cX7_judge 33 = .ok (.invokevirtual 232, 3) := by decide +kernel
theorem dX7_judge_36 : decode cX7_judge 36 = .ok (.ifCond .ne 7, 3) := by decide +kernel
theorem dX7_judge_39 : decode cX7_judge 39 = .ok (.iconst 2, 1) := by decide +kernel
theorem dX7_judge_40 : decode cX7_judge 40 = .ok (.goto 43, 3) := by decide +kernel
theorem dX7_judge_43 : decode cX7_judge 43 = .ok (.aload_n 0, 1) := by decide +kernel
theorem dX7_judge_44 : decode cX7_judge 44 = .ok (.aload_n 0, 1) := by decide +kernel
theorem dX7_judge_45 : decode cX7_judge 45 = .ok (.getfield 13, 3) := by decide +kernel
theorem dX7_judge_48 : decode cX7_judge 48 = .ok (.iload_n 1, 1) := by decide +kernel
theorem dX7_judge_49 : decode cX7_judge 49 = .ok (.laload, 1) := by decide +kernel
theorem dX7_judge_50 : decode cX7_judge 50 = .ok (.invokevirtual 229, 3) := by decide +kernel
theorem dX7_judge_53 : decode cX7_judge 53 = .ok (.aload_n 0, 1) := by decide +kernel
theorem dX7_judge_54 : decode cX7_judge 54 = .ok (.getfield 7, 3) := by decide +kernel
theorem dX7_judge_57 : decode cX7_judge 57 = .ok (.bipush 39, 2) := by decide +kernel
theorem dX7_judge_59 : decode cX7_judge 59 = .ok (.iload_n 1, 1) := by decide +kernel
theorem dX7_judge_60 : decode cX7_judge 60 = .ok (.iadd, 1) := by decide +kernel
theorem dX7_judge_61 : decode cX7_judge 61 = .ok (.iaload, 1) := by decide +kernel
theorem dX7_judge_62 : decode cX7_judge 62 = .ok (.if_icmp .eq 7, 3) := by decide +kernel
theorem dX7_judge_65 : decode cX7_judge 65 = .ok (.iconst 3, 1) := by decide +kernel
theorem dX7_judge_66 : decode cX7_judge 66 = .ok (.goto 17, 3) := by decide +kernel
theorem dX7_judge_69 : decode cX7_judge 69 = .ok (.aload_n 0, 1) := by decide +kernel
theorem dX7_judge_70 : decode cX7_judge 70 = .ok (.iload_n 1, 1) := by decide +kernel
theorem dX7_judge_71 : decode cX7_judge 71 = .ok (.invokevirtual 238, 3) := by decide +kernel
theorem dX7_judge_74 : decode cX7_judge 74 = .ok (.iconst (-1), 1) := by decide +kernel
theorem dX7_judge_75 : decode cX7_judge 75 = .ok (.if_icmp .eq 7, 3) := by decide +kernel
theorem dX7_judge_78 : decode cX7_judge 78 = .ok (.iconst 4, 1) := by decide +kernel
theorem dX7_judge_79 : decode cX7_judge 79 = .ok (.goto 4, 3) := by decide +kernel
theorem dX7_judge_82 : decode cX7_judge 82 = .ok (.iconst 0, 1) := by decide +kernel
theorem dX7_judge_83 : decode cX7_judge 83 = .ok (.ireturn, 1) := by decide +kernel
theorem dX7_taker_0 : decode cX7_taker 0 = .ok (.aload_n 0, 1) := by decide +kernel
theorem dX7_taker_1 : decode cX7_taker 1 = .ok (.iload_n 1, 1) := by decide +kernel
theorem dX7_taker_2 : decode cX7_taker 2 = .ok (.invokevirtual 191, 3) := by decide +kernel
theorem dX7_taker_5 : decode cX7_taker 5 = .ok (.ifCond .ne 6, 3) := by decide +kernel
theorem dX7_taker_8 : decode cX7_taker 8 = .ok (.bipush (-2), 2) := by decide +kernel
theorem dX7_taker_10 : decode cX7_taker 10 = .ok (.ireturn, 1) := by decide +kernel
theorem dX7_taker_11 : decode cX7_taker 11 = .ok (.aload_n 0, 1) := by decide +kernel
theorem dX7_taker_12 : decode cX7_taker 12 = .ok (.iload_n 1, 1) := by decide +kernel
theorem dX7_taker_13 : decode cX7_taker 13 = .ok (.invokevirtual 241, 3) := by decide +kernel
theorem dX7_taker_16 : decode cX7_taker 16 = .ok (.iconst 4, 1) := by decide +kernel
theorem dX7_taker_17 : decode cX7_taker 17 = .ok (.if_icmp .ne 11, 3) := by decide +kernel
theorem dX7_taker_20 : decode cX7_taker 20 = .ok (.aload_n 0, 1) := by decide +kernel
theorem dX7_taker_21 : decode cX7_taker 21 = .ok (.iload_n 1, 1) := by decide +kernel
theorem dX7_taker_22 : decode cX7_taker 22 = .ok (.invokevirtual 238, 3) := by decide +kernel
theorem dX7_taker_25 : decode cX7_taker 25 = .ok (.goto 4, 3) := by decide +kernel
theorem dX7_taker_28 : decode cX7_taker 28 = .ok (.iconst (-1), 1) := by decide +kernel
theorem dX7_taker_29 : decode cX7_taker 29 = .ok (.ireturn, 1) := by decide +kernel
theorem dX7_isDay_0 : decode cX7_isDay 0 = .ok (.iload_n 0, 1) := by decide +kernel
theorem dX7_isDay_1 : decode cX7_isDay 1 = .ok (.i2l, 1) := by decide +kernel
theorem dX7_isDay_2 : decode cX7_isDay 2 = .ok (.lconst 1, 1) := by decide +kernel
theorem dX7_isDay_3 : decode cX7_isDay 3 = .ok (.ldc2_w 244, 3) := by decide +kernel
theorem dX7_isDay_6 : decode cX7_isDay 6 = .ok (.invokestatic 68, 3) := by decide +kernel
theorem dX7_isDay_9 : decode cX7_isDay 9 = .ok (.ireturn, 1) := by decide +kernel
theorem dX7_names_0 : decode cX7_names 0 = .ok (.iload_n 1, 1) := by decide +kernel
theorem dX7_names_1 : decode cX7_names 1 = .ok (.invokestatic 246, 3) := by decide +kernel
theorem dX7_names_4 : decode cX7_names 4 = .ok (.ifCond .eq 15, 3) := by decide +kernel
theorem dX7_names_7 : decode cX7_names 7 = .ok (.iload_n 2, 1) := by decide +kernel
theorem dX7_names_8 : decode cX7_names 8 = .ok (.i2l, 1) := by decide +kernel
theorem dX7_names_9 : decode cX7_names 9 = .ok (.lconst 0, 1) := by decide +kernel
theorem dX7_names_10 : decode cX7_names 10 = .ok (.ldc2_w 249, 3) := by decide +kernel
theorem dX7_names_13 : decode cX7_names 13 = .ok (.invokestatic 68, 3) := by decide +kernel
theorem dX7_names_16 : decode cX7_names 16 = .ok (.ifCond .ne 6, 3) := by decide +kernel
theorem dX7_names_19 : decode cX7_names 19 = .ok (.bipush (-3), 2) := by decide +kernel
theorem dX7_names_21 : decode cX7_names 21 = .ok (.ireturn, 1) := by decide +kernel
theorem dX7_names_22 : decode cX7_names 22 = .ok (.aload_n 0, 1) := by decide +kernel
theorem dX7_names_23 : decode cX7_names 23 = .ok (.invokevirtual 251, 3) := by decide +kernel
theorem dX7_names_26 : decode cX7_names 26 = .ok (.iconst 0, 1) := by decide +kernel
theorem dX7_names_27 : decode cX7_names 27 = .ok (.istore_n 3, 1) := by decide +kernel
theorem dX7_names_28 : decode cX7_names 28 = .ok (.iconst 0, 1) := by decide +kernel
theorem dX7_names_29 : decode cX7_names 29 = .ok (.istore 4, 2) := by decide +kernel
theorem dX7_names_31 : decode cX7_names 31 = .ok (.iload 4, 2) := by decide +kernel
theorem dX7_names_33 : decode cX7_names 33 = .ok (.aload_n 0, 1) := by decide +kernel
theorem dX7_names_34 : decode cX7_names 34 = .ok (.getfield 211, 3) := by decide +kernel
theorem dX7_names_37 : decode cX7_names 37 = .ok (.if_icmp .ge 50, 3) := by decide +kernel
theorem dX7_names_40 : decode cX7_names 40 = .ok (.iload_n 3, 1) := by decide +kernel
theorem dX7_names_41 : decode cX7_names 41 = .ok (.aload_n 0, 1) := by decide +kernel
theorem dX7_names_42 : decode cX7_names 42 = .ok (.aload_n 0, 1) := by decide +kernel
theorem dX7_names_43 : decode cX7_names 43 = .ok (.getfield 45, 3) := by decide +kernel
theorem dX7_names_46 : decode cX7_names 46 = .ok (.iload 4, 2) := by decide +kernel
theorem dX7_names_48 : decode cX7_names 48 = .ok (.laload, 1) := by decide +kernel
theorem dX7_names_49 : decode cX7_names 49 = .ok (.invokevirtual 229, 3) := by decide +kernel
theorem dX7_names_52 : decode cX7_names 52 = .ok (.iload_n 1, 1) := by decide +kernel
theorem dX7_names_53 : decode cX7_names 53 = .ok (.if_icmp .ne 25, 3) := by decide +kernel
theorem dX7_names_56 : decode cX7_names 56 = .ok (.iload_n 2, 1) := by decide +kernel
theorem dX7_names_57 : decode cX7_names 57 = .ok (.ifCond .eq 17, 3) := by decide +kernel
theorem dX7_names_60 : decode cX7_names 60 = .ok (.aload_n 0, 1) := by decide +kernel
theorem dX7_names_61 : decode cX7_names 61 = .ok (.getfield 45, 3) := by decide +kernel
theorem dX7_names_64 : decode cX7_names 64 = .ok (.iload 4, 2) := by decide +kernel
theorem dX7_names_66 : decode cX7_names 66 = .ok (.laload, 1) := by decide +kernel
theorem dX7_names_67 : decode cX7_names 67 = .ok (.invokestatic 207, 3) := by decide +kernel
theorem dX7_names_70 : decode cX7_names 70 = .ok (.iload_n 2, 1) := by decide +kernel
theorem dX7_names_71 : decode cX7_names 71 = .ok (.if_icmp .ne 7, 3) := by decide +kernel
theorem dX7_names_74 : decode cX7_names 74 = .ok (.iconst 1, 1) := by decide +kernel
theorem dX7_names_75 : decode cX7_names 75 = .ok (.goto 4, 3) := by decide +kernel
theorem dX7_names_78 : decode cX7_names 78 = .ok (.iconst 0, 1) := by decide +kernel
theorem dX7_names_79 : decode cX7_names 79 = .ok (.iadd, 1) := by decide +kernel
theorem dX7_names_80 : decode cX7_names 80 = .ok (.istore_n 3, 1) := by decide +kernel
theorem dX7_names_81 : decode cX7_names 81 = .ok (.iinc 4 1, 3) := by decide +kernel
theorem dX7_names_84 : decode cX7_names 84 = .ok (.goto (-53), 3) := by decide +kernel
theorem dX7_names_87 : decode cX7_names 87 = .ok (.iload_n 3, 1) := by decide +kernel
theorem dX7_names_88 : decode cX7_names 88 = .ok (.ireturn, 1) := by decide +kernel
theorem dX7_which_0 : decode cX7_which 0 = .ok (.iload_n 1, 1) := by decide +kernel
theorem dX7_which_1 : decode cX7_which 1 = .ok (.invokestatic 246, 3) := by decide +kernel
theorem dX7_which_4 : decode cX7_which 4 = .ok (.ifCond .eq 7, 3) := by decide +kernel
theorem dX7_which_7 : decode cX7_which 7 = .ok (.iload_n 2, 1) := by decide +kernel
theorem dX7_which_8 : decode cX7_which 8 = .ok (.ifCond .ge 7, 3) := by decide +kernel
theorem dX7_which_11 : decode cX7_which 11 = .ok (.ldc2_w 254, 3) := by decide +kernel
theorem dX7_which_14 : decode cX7_which 14 = .ok (.lreturn, 1) := by decide +kernel
theorem dX7_which_15 : decode cX7_which 15 = .ok (.aload_n 0, 1) := by decide +kernel
theorem dX7_which_16 : decode cX7_which 16 = .ok (.invokevirtual 251, 3) := by decide +kernel
theorem dX7_which_19 : decode cX7_which 19 = .ok (.iconst 0, 1) := by decide +kernel
theorem dX7_which_20 : decode cX7_which 20 = .ok (.istore_n 3, 1) := by decide +kernel
theorem dX7_which_21 : decode cX7_which 21 = .ok (.iconst 0, 1) := by decide +kernel
theorem dX7_which_22 : decode cX7_which 22 = .ok (.istore 4, 2) := by decide +kernel
theorem dX7_which_24 : decode cX7_which 24 = .ok (.iload 4, 2) := by decide +kernel
theorem dX7_which_26 : decode cX7_which 26 = .ok (.aload_n 0, 1) := by decide +kernel
theorem dX7_which_27 : decode cX7_which 27 = .ok (.getfield 211, 3) := by decide +kernel
theorem dX7_which_30 : decode cX7_which 30 = .ok (.if_icmp .ge 40, 3) := by decide +kernel
theorem dX7_which_33 : decode cX7_which 33 = .ok (.aload_n 0, 1) := by decide +kernel
theorem dX7_which_34 : decode cX7_which 34 = .ok (.aload_n 0, 1) := by decide +kernel
theorem dX7_which_35 : decode cX7_which 35 = .ok (.getfield 45, 3) := by decide +kernel
theorem dX7_which_38 : decode cX7_which 38 = .ok (.iload 4, 2) := by decide +kernel
theorem dX7_which_40 : decode cX7_which 40 = .ok (.laload, 1) := by decide +kernel
theorem dX7_which_41 : decode cX7_which 41 = .ok (.invokevirtual 229, 3) := by decide +kernel
theorem dX7_which_44 : decode cX7_which 44 = .ok (.iload_n 1, 1) := by decide +kernel
theorem dX7_which_45 : decode cX7_which 45 = .ok (.if_icmp .ne 19, 3) := by decide +kernel
theorem dX7_which_48 : decode cX7_which 48 = .ok (.iload_n 3, 1) := by decide +kernel
theorem dX7_which_49 : decode cX7_which 49 = .ok (.iload_n 2, 1) := by decide +kernel
theorem dX7_which_50 : decode cX7_which 50 = .ok (.if_icmp .ne 11, 3) := by decide +kernel
theorem dX7_which_53 : decode cX7_which 53 = .ok (.aload_n 0, 1) := by decide +kernel
theorem dX7_which_54 : decode cX7_which 54 = .ok (.getfield 45, 3) := by decide +kernel
theorem dX7_which_57 : decode cX7_which 57 = .ok (.iload 4, 2) := by decide +kernel
theorem dX7_which_59 : decode cX7_which 59 = .ok (.laload, 1) := by decide +kernel
theorem dX7_which_60 : decode cX7_which 60 = .ok (.lreturn, 1) := by decide +kernel
theorem dX7_which_61 : decode cX7_which 61 = .ok (.iinc 3 1, 3) := by decide +kernel
theorem dX7_which_64 : decode cX7_which 64 = .ok (.iinc 4 1, 3) := by decide +kernel
theorem dX7_which_67 : decode cX7_which 67 = .ok (.goto (-43), 3) := by decide +kernel
theorem dX7_which_70 : decode cX7_which 70 = .ok (.ldc2_w 119, 3) := by decide +kernel
theorem dX7_which_73 : decode cX7_which 73 = .ok (.lreturn, 1) := by decide +kernel
theorem dX7_isFree_0 : decode cX7_isFree 0 = .ok (.iconst 1, 1) := by decide +kernel
theorem dX7_isFree_1 : decode cX7_isFree 1 = .ok (.istore 4, 2) := by decide +kernel
theorem dX7_isFree_3 : decode cX7_isFree 3 = .ok (.iconst 0, 1) := by decide +kernel
theorem dX7_isFree_4 : decode cX7_isFree 4 = .ok (.istore 5, 2) := by decide +kernel
theorem dX7_isFree_6 : decode cX7_isFree 6 = .ok (.iload 5, 2) := by decide +kernel
theorem dX7_isFree_8 : decode cX7_isFree 8 = .ok (.aload_n 0, 1) := by decide +kernel
theorem dX7_isFree_9 : decode cX7_isFree 9 = .ok (.getfield 7, 3) := by decide +kernel
theorem dX7_isFree_12 : decode cX7_isFree 12 = .ok (.bipush 38, 2) := by decide +kernel
theorem dX7_isFree_14 : decode cX7_isFree 14 = .ok (.iaload, 1) := by decide +kernel
theorem dX7_isFree_15 : decode cX7_isFree 15 = .ok (.if_icmp .ge 42, 3) := by decide +kernel
theorem dX7_isFree_18 : decode cX7_isFree 18 = .ok (.iload 4, 2) := by decide +kernel
theorem dX7_isFree_20 : decode cX7_isFree 20 = .ok (.ifCond .eq 28, 3) := by decide +kernel
theorem dX7_isFree_23 : decode cX7_isFree 23 = .ok (.iload_n 3, 1) := by decide +kernel
theorem dX7_isFree_24 : decode cX7_isFree 24 = .ok (.iload 5, 2) := by decide +kernel
theorem dX7_isFree_26 : decode cX7_isFree 26 = .ok (.invokestatic 235, 3) := by decide +kernel
theorem dX7_isFree_29 : decode cX7_isFree 29 = .ok (.ifCond .eq 15, 3) := by decide +kernel
theorem dX7_isFree_32 : decode cX7_isFree 32 = .ok (.aload_n 0, 1) := by decide +kernel
theorem dX7_isFree_33 : decode cX7_isFree 33 = .ok (.getfield 13, 3) := by decide +kernel
theorem dX7_isFree_36 : decode cX7_isFree 36 = .ok (.iload 5, 2) := by decide +kernel
theorem dX7_isFree_38 : decode cX7_isFree 38 = .ok (.laload, 1) := by decide +kernel
theorem dX7_isFree_39 : decode cX7_isFree 39 = .ok (.lload_n 1, 1) := by decide +kernel
theorem dX7_isFree_40 : decode cX7_isFree 40 = .ok (.lcmp, 1) := by decide +kernel
theorem dX7_isFree_41 : decode cX7_isFree 41 = .ok (.ifCond .eq 7, 3) := by decide +kernel
theorem dX7_isFree_44 : decode cX7_isFree 44 = .ok (.iconst 1, 1) := by decide +kernel
theorem dX7_isFree_45 : decode cX7_isFree 45 = .ok (.goto 4, 3) := by decide +kernel
theorem dX7_isFree_48 : decode cX7_isFree 48 = .ok (.iconst 0, 1) := by decide +kernel
theorem dX7_isFree_49 : decode cX7_isFree 49 = .ok (.istore 4, 2) := by decide +kernel
theorem dX7_isFree_51 : decode cX7_isFree 51 = .ok (.iinc 5 1, 3) := by decide +kernel
theorem dX7_isFree_54 : decode cX7_isFree 54 = .ok (.goto (-48), 3) := by decide +kernel
theorem dX7_isFree_57 : decode cX7_isFree 57 = .ok (.iload 4, 2) := by decide +kernel
theorem dX7_isFree_59 : decode cX7_isFree 59 = .ok (.ireturn, 1) := by decide +kernel
theorem dX7_free_0 : decode cX7_free 0 = .ok (.aload_n 0, 1) := by decide +kernel
theorem dX7_free_1 : decode cX7_free 1 = .ok (.iload_n 1, 1) := by decide +kernel
theorem dX7_free_2 : decode cX7_free 2 = .ok (.invokevirtual 191, 3) := by decide +kernel
theorem dX7_free_5 : decode cX7_free 5 = .ok (.ifCond .ne 7, 3) := by decide +kernel
theorem dX7_free_8 : decode cX7_free 8 = .ok (.ldc2_w 200, 3) := by decide +kernel
theorem dX7_free_11 : decode cX7_free 11 = .ok (.lreturn, 1) := by decide +kernel
theorem dX7_free_12 : decode cX7_free 12 = .ok (.iload_n 2, 1) := by decide +kernel
theorem dX7_free_13 : decode cX7_free 13 = .ok (.iconst (-1), 1) := by decide +kernel
theorem dX7_free_14 : decode cX7_free 14 = .ok (.if_icmp .ge 7, 3) := by decide +kernel
theorem dX7_free_17 : decode cX7_free 17 = .ok (.ldc2_w 254, 3) := by decide +kernel
theorem dX7_free_20 : decode cX7_free 20 = .ok (.lreturn, 1) := by decide +kernel
theorem dX7_free_21 : decode cX7_free 21 = .ok (.aload_n 0, 1) := by decide +kernel
theorem dX7_free_22 : decode cX7_free 22 = .ok (.invokevirtual 251, 3) := by decide +kernel
theorem dX7_free_25 : decode cX7_free 25 = .ok (.aload_n 0, 1) := by decide +kernel
theorem dX7_free_26 : decode cX7_free 26 = .ok (.iload_n 1, 1) := by decide +kernel
theorem dX7_free_27 : decode cX7_free 27 = .ok (.invokevirtual 197, 3) := by decide +kernel
theorem dX7_free_30 : decode cX7_free 30 = .ok (.istore_n 3, 1) := by decide +kernel
theorem dX7_free_31 : decode cX7_free 31 = .ok (.iconst 0, 1) := by decide +kernel
theorem dX7_free_32 : decode cX7_free 32 = .ok (.istore 4, 2) := by decide +kernel
theorem dX7_free_34 : decode cX7_free 34 = .ok (.iconst 0, 1) := by decide +kernel
theorem dX7_free_35 : decode cX7_free 35 = .ok (.istore 5, 2) := by decide +kernel
theorem dX7_free_37 : decode cX7_free 37 = .ok (.iload 5, 2) := by decide +kernel
theorem dX7_free_39 : decode cX7_free 39 = .ok (.aload_n 0, 1) := by decide +kernel
theorem dX7_free_40 : decode cX7_free 40 = .ok (.getfield 211, 3) := by decide +kernel
theorem dX7_free_43 : decode cX7_free 43 = .ok (.if_icmp .ge 64, 3) := by decide +kernel
theorem dX7_free_46 : decode cX7_free 46 = .ok (.aload_n 0, 1) := by decide +kernel
theorem dX7_free_47 : decode cX7_free 47 = .ok (.aload_n 0, 1) := by decide +kernel
theorem dX7_free_48 : decode cX7_free 48 = .ok (.getfield 45, 3) := by decide +kernel
theorem dX7_free_51 : decode cX7_free 51 = .ok (.iload 5, 2) := by decide +kernel
theorem dX7_free_53 : decode cX7_free 53 = .ok (.laload, 1) := by decide +kernel
theorem dX7_free_54 : decode cX7_free 54 = .ok (.invokevirtual 229, 3) := by decide +kernel
theorem dX7_free_57 : decode cX7_free 57 = .ok (.aload_n 0, 1) := by decide +kernel
theorem dX7_free_58 : decode cX7_free 58 = .ok (.getfield 7, 3) := by decide +kernel
theorem dX7_free_61 : decode cX7_free 61 = .ok (.bipush 39, 2) := by decide +kernel
theorem dX7_free_63 : decode cX7_free 63 = .ok (.iload_n 1, 1) := by decide +kernel
theorem dX7_free_64 : decode cX7_free 64 = .ok (.iadd, 1) := by decide +kernel
theorem dX7_free_65 : decode cX7_free 65 = .ok (.iaload, 1) := by decide +kernel
theorem dX7_free_66 : decode cX7_free 66 = .ok (.if_icmp .ne 35, 3) := by decide +kernel
theorem dX7_free_69 : decode cX7_free 69 = .ok (.aload_n 0, 1) := by decide +kernel
theorem dX7_free_70 : decode cX7_free 70 = .ok (.aload_n 0, 1) := by decide +kernel
theorem dX7_free_71 : decode cX7_free 71 = .ok (.getfield 45, 3) := by decide +kernel
theorem dX7_free_74 : decode cX7_free 74 = .ok (.iload 5, 2) := by decide +kernel
theorem dX7_free_76 : decode cX7_free 76 = .ok (.laload, 1) := by decide +kernel
theorem dX7_free_77 : decode cX7_free 77 = .ok (.iload_n 3, 1) := by decide +kernel
theorem dX7_free_78 : decode cX7_free 78 = .ok (.invokevirtual 256, 3) := by decide +kernel
theorem dX7_free_81 : decode cX7_free 81 = .ok (.ifCond .eq 20, 3) := by decide +kernel
theorem dX7_free_84 : decode cX7_free 84 = .ok (.iload 4, 2) := by decide +kernel
theorem dX7_free_86 : decode cX7_free 86 = .ok (.iload_n 2, 1) := by decide +kernel
theorem dX7_free_87 : decode cX7_free 87 = .ok (.if_icmp .ne 11, 3) := by decide +kernel
theorem dX7_free_90 : decode cX7_free 90 = .ok (.aload_n 0, 1) := by decide +kernel
theorem dX7_free_91 : decode cX7_free 91 = .ok (.getfield 45, 3) := by decide +kernel
theorem dX7_free_94 : decode cX7_free 94 = .ok (.iload 5, 2) := by decide +kernel
theorem dX7_free_96 : decode cX7_free 96 = .ok (.laload, 1) := by decide +kernel
theorem dX7_free_97 : decode cX7_free 97 = .ok (.lreturn, 1) := by decide +kernel
theorem dX7_free_98 : decode cX7_free 98 = .ok (.iinc 4 1, 3) := by decide +kernel
theorem dX7_free_101 : decode cX7_free 101 = .ok (.iinc 5 1, 3) := by decide +kernel
theorem dX7_free_104 : decode cX7_free 104 = .ok (.goto (-67), 3) := by decide +kernel
theorem dX7_free_107 : decode cX7_free 107 = .ok (.iload_n 2, 1) := by decide +kernel
theorem dX7_free_108 : decode cX7_free 108 = .ok (.iconst (-1), 1) := by decide +kernel
theorem dX7_free_109 : decode cX7_free 109 = .ok (.if_icmp .ne 9, 3) := by decide +kernel
theorem dX7_free_112 : decode cX7_free 112 = .ok (.iload 4, 2) := by decide +kernel
theorem dX7_free_114 : decode cX7_free 114 = .ok (.i2l, 1) := by decide +kernel
theorem dX7_free_115 : decode cX7_free 115 = .ok (.goto 6, 3) := by decide +kernel
theorem dX7_free_118 : decode cX7_free 118 = .ok (.ldc2_w 119, 3) := by decide +kernel
theorem dX7_free_121 : decode cX7_free 121 = .ok (.lreturn, 1) := by decide +kernel
theorem dX7_divisor_0 : decode cX7_divisor 0 = .ok (.lload_n 0, 1) := by decide +kernel
theorem dX7_divisor_1 : decode cX7_divisor 1 = .ok (.lstore 4, 2) := by decide +kernel
theorem dX7_divisor_3 : decode cX7_divisor 3 = .ok (.lload_n 2, 1) := by decide +kernel
theorem dX7_divisor_4 : decode cX7_divisor 4 = .ok (.lstore 6, 2) := by decide +kernel
theorem dX7_divisor_6 : decode cX7_divisor 6 = .ok (.lload 6, 2) := by decide +kernel
theorem dX7_divisor_8 : decode cX7_divisor 8 = .ok (.lconst 0, 1) := by decide +kernel
theorem dX7_divisor_9 : decode cX7_divisor 9 = .ok (.lcmp, 1) := by decide +kernel
theorem dX7_divisor_10 : decode cX7_divisor 10 = .ok (.ifCond .eq 21, 3) := by decide +kernel
theorem dX7_divisor_13 : decode cX7_divisor 13 = .ok (.lload 4, 2) := by decide +kernel
theorem dX7_divisor_15 : decode cX7_divisor 15 = .ok (.lload 6, 2) := by decide +kernel
theorem dX7_divisor_17 : decode cX7_divisor 17 = .ok (.lrem, 1) := by decide +kernel
theorem dX7_divisor_18 : decode cX7_divisor 18 = .ok (.lstore 8, 2) := by decide +kernel
theorem dX7_divisor_20 : decode cX7_divisor 20 = .ok (.lload 6, 2) := by decide +kernel
theorem dX7_divisor_22 : decode cX7_divisor 22 = .ok (.lstore 4, 2) := by decide +kernel
theorem dX7_divisor_24 : decode cX7_divisor 24 = .ok (.lload 8, 2) := by decide +kernel
theorem dX7_divisor_26 : decode cX7_divisor 26 = .ok (.lstore 6, 2) := by decide +kernel
theorem dX7_divisor_28 : decode cX7_divisor 28 = .ok (.goto (-22), 3) := by decide +kernel
theorem dX7_divisor_31 : decode cX7_divisor 31 = .ok (.lload 4, 2) := by decide +kernel
theorem dX7_divisor_33 : decode cX7_divisor 33 = .ok (.lreturn, 1) := by decide +kernel
theorem dX7_allNamed_0 : decode cX7_allNamed 0 = .ok (.iconst 1, 1) := by decide +kernel
theorem dX7_allNamed_1 : decode cX7_allNamed 1 = .ok (.istore_n 2, 1) := by decide +kernel
theorem dX7_allNamed_2 : decode cX7_allNamed 2 = .ok (.iconst 0, 1) := by decide +kernel
theorem dX7_allNamed_3 : decode cX7_allNamed 3 = .ok (.istore_n 3, 1) := by decide +kernel
theorem dX7_allNamed_4 : decode cX7_allNamed 4 = .ok (.iload_n 3, 1) := by decide +kernel
theorem dX7_allNamed_5 : decode cX7_allNamed 5 = .ok (.aload_n 0, 1) := by decide +kernel
theorem dX7_allNamed_6 : decode cX7_allNamed 6 = .ok (.getfield 7, 3) := by decide +kernel
theorem dX7_allNamed_9 : decode cX7_allNamed 9 = .ok (.bipush 87, 2) := by decide +kernel
theorem dX7_allNamed_11 : decode cX7_allNamed 11 = .ok (.iaload, 1) := by decide +kernel
theorem dX7_allNamed_12 : decode cX7_allNamed 12 = .ok (.if_icmp .ge 95, 3) := by decide +kernel
theorem dX7_allNamed_15 : decode cX7_allNamed 15 = .ok (.iconst 0, 1) := by decide +kernel
theorem dX7_allNamed_16 : decode cX7_allNamed 16 = .ok (.istore 4, 2) := by decide +kernel
theorem dX7_allNamed_18 : decode cX7_allNamed 18 = .ok (.iconst 0, 1) := by decide +kernel
theorem dX7_allNamed_19 : decode cX7_allNamed 19 = .ok (.istore 5, 2) := by decide +kernel
theorem dX7_allNamed_21 : decode cX7_allNamed 21 = .ok (.iload 5, 2) := by decide +kernel
theorem dX7_allNamed_23 : decode cX7_allNamed 23 = .ok (.aload_n 0, 1) := by decide +kernel
theorem dX7_allNamed_24 : decode cX7_allNamed 24 = .ok (.getfield 7, 3) := by decide +kernel
theorem dX7_allNamed_27 : decode cX7_allNamed 27 = .ok (.bipush 87, 2) := by decide +kernel
theorem dX7_allNamed_29 : decode cX7_allNamed 29 = .ok (.iaload, 1) := by decide +kernel
theorem dX7_allNamed_30 : decode cX7_allNamed 30 = .ok (.if_icmp .ge 50, 3) := by decide +kernel
theorem dX7_allNamed_33 : decode cX7_allNamed 33 = .ok (.iload 4, 2) := by decide +kernel
theorem dX7_allNamed_35 : decode cX7_allNamed 35 = .ok (.iload_n 1, 1) := by decide +kernel
theorem dX7_allNamed_36 : decode cX7_allNamed 36 = .ok (.iload 5, 2) := by decide +kernel
theorem dX7_allNamed_38 : decode cX7_allNamed 38 = .ok (.invokestatic 235, 3) := by decide +kernel
theorem dX7_allNamed_41 : decode cX7_allNamed 41 = .ok (.ifCond .eq 29, 3) := by decide +kernel
theorem dX7_allNamed_44 : decode cX7_allNamed 44 = .ok (.aload_n 0, 1) := by decide +kernel
theorem dX7_allNamed_45 : decode cX7_allNamed 45 = .ok (.getfield 7, 3) := by decide +kernel
theorem dX7_allNamed_48 : decode cX7_allNamed 48 = .ok (.bipush 88, 2) := by decide +kernel
theorem dX7_allNamed_50 : decode cX7_allNamed 50 = .ok (.iload 5, 2) := by decide +kernel
theorem dX7_allNamed_52 : decode cX7_allNamed 52 = .ok (.iadd, 1) := by decide +kernel
theorem dX7_allNamed_53 : decode cX7_allNamed 53 = .ok (.iaload, 1) := by decide +kernel
theorem dX7_allNamed_54 : decode cX7_allNamed 54 = .ok (.aload_n 0, 1) := by decide +kernel
theorem dX7_allNamed_55 : decode cX7_allNamed 55 = .ok (.getfield 7, 3) := by decide +kernel
theorem dX7_allNamed_58 : decode cX7_allNamed 58 = .ok (.bipush 88, 2) := by decide +kernel
theorem dX7_allNamed_60 : decode cX7_allNamed 60 = .ok (.iload_n 3, 1) := by decide +kernel
theorem dX7_allNamed_61 : decode cX7_allNamed 61 = .ok (.iadd, 1) := by decide +kernel
theorem dX7_allNamed_62 : decode cX7_allNamed 62 = .ok (.iaload, 1) := by decide +kernel
theorem dX7_allNamed_63 : decode cX7_allNamed 63 = .ok (.if_icmp .ne 7, 3) := by decide +kernel
theorem dX7_allNamed_66 : decode cX7_allNamed 66 = .ok (.iconst 1, 1) := by decide +kernel
theorem dX7_allNamed_67 : decode cX7_allNamed 67 = .ok (.goto 4, 3) := by decide +kernel
theorem dX7_allNamed_70 : decode cX7_allNamed 70 = .ok (.iconst 0, 1) := by decide +kernel
theorem dX7_allNamed_71 : decode cX7_allNamed 71 = .ok (.iadd, 1) := by decide +kernel
theorem dX7_allNamed_72 : decode cX7_allNamed 72 = .ok (.istore 4, 2) := by decide +kernel
theorem dX7_allNamed_74 : decode cX7_allNamed 74 = .ok (.iinc 5 1, 3) := by decide +kernel
theorem dX7_allNamed_77 : decode cX7_allNamed 77 = .ok (.goto (-56), 3) := by decide +kernel
theorem dX7_allNamed_80 : decode cX7_allNamed 80 = .ok (.iload_n 2, 1) := by decide +kernel
theorem dX7_allNamed_81 : decode cX7_allNamed 81 = .ok (.ifCond .eq 18, 3) := by decide +kernel
theorem dX7_allNamed_84 : decode cX7_allNamed 84 = .ok (.iload 4, 2) := by decide +kernel
theorem dX7_allNamed_86 : decode cX7_allNamed 86 = .ok (.aload_n 0, 1) := by decide +kernel
theorem dX7_allNamed_87 : decode cX7_allNamed 87 = .ok (.getfield 48, 3) := by decide +kernel
theorem dX7_allNamed_90 : decode cX7_allNamed 90 = .ok (.iload_n 3, 1) := by decide +kernel
theorem dX7_allNamed_91 : decode cX7_allNamed 91 = .ok (.iaload, 1) := by decide +kernel
theorem dX7_allNamed_92 : decode cX7_allNamed 92 = .ok (.if_icmp .gt 7, 3) := by decide +kernel
theorem dX7_allNamed_95 : decode cX7_allNamed 95 = .ok (.iconst 1, 1) := by decide +kernel
theorem dX7_allNamed_96 : decode cX7_allNamed 96 = .ok (.goto 4, 3) := by decide +kernel
theorem dX7_allNamed_99 : decode cX7_allNamed 99 = .ok (.iconst 0, 1) := by decide +kernel
theorem dX7_allNamed_100 : decode cX7_allNamed 100 = .ok (.istore_n 2, 1) := by decide +kernel
theorem dX7_allNamed_101 : decode cX7_allNamed 101 = .ok (.iinc 3 1, 3) := by decide +kernel
theorem dX7_allNamed_104 : decode cX7_allNamed 104 = .ok (.goto (-100), 3) := by decide +kernel
theorem dX7_allNamed_107 : decode cX7_allNamed 107 = .ok (.iload_n 2, 1) := by decide +kernel
theorem dX7_allNamed_108 : decode cX7_allNamed 108 = .ok (.ireturn, 1) := by decide +kernel
theorem dX7_hopes_0 : decode cX7_hopes 0 = .ok (.aload_n 0, 1) := by decide +kernel
theorem dX7_hopes_1 : decode cX7_hopes 1 = .ok (.iload_n 1, 1) := by decide +kernel
theorem dX7_hopes_2 : decode cX7_hopes 2 = .ok (.invokevirtual 191, 3) := by decide +kernel
theorem dX7_hopes_5 : decode cX7_hopes 5 = .ok (.ifCond .eq 11, 3) := by decide +kernel
theorem dX7_hopes_8 : decode cX7_hopes 8 = .ok (.aload_n 0, 1) := by decide +kernel
theorem dX7_hopes_9 : decode cX7_hopes 9 = .ok (.iload_n 2, 1) := by decide +kernel
theorem dX7_hopes_10 : decode cX7_hopes 10 = .ok (.invokevirtual 191, 3) := by decide +kernel
theorem dX7_hopes_13 : decode cX7_hopes 13 = .ok (.ifCond .ne 7, 3) := by decide +kernel
theorem dX7_hopes_16 : decode cX7_hopes 16 = .ok (.ldc2_w 200, 3) := by decide +kernel
theorem dX7_hopes_19 : decode cX7_hopes 19 = .ok (.lreturn, 1) := by decide +kernel
theorem dX7_hopes_20 : decode cX7_hopes 20 = .ok (.iload_n 1, 1) := by decide +kernel
theorem dX7_hopes_21 : decode cX7_hopes 21 = .ok (.iload_n 2, 1) := by decide +kernel
theorem dX7_hopes_22 : decode cX7_hopes 22 = .ok (.if_icmp .eq 13, 3) := by decide +kernel
theorem dX7_hopes_25 : decode cX7_hopes 25 = .ok (.iload_n 3, 1) := by decide +kernel
theorem dX7_hopes_26 : decode cX7_hopes 26 = .ok (.i2l, 1) := by decide +kernel
theorem dX7_hopes_27 : decode cX7_hopes 27 = .ok (.lconst 0, 1) := by decide +kernel
theorem dX7_hopes_28 : decode cX7_hopes 28 = .ok (.lconst 1, 1) := by decide +kernel
theorem dX7_hopes_29 : decode cX7_hopes 29 = .ok (.invokestatic 68, 3) := by decide +kernel
theorem dX7_hopes_32 : decode cX7_hopes 32 = .ok (.ifCond .ne 7, 3) := by decide +kernel
theorem dX7_hopes_35 : decode cX7_hopes 35 = .ok (.ldc2_w 254, 3) := by decide +kernel
theorem dX7_hopes_38 : decode cX7_hopes 38 = .ok (.lreturn, 1) := by decide +kernel
theorem dX7_hopes_39 : decode cX7_hopes 39 = .ok (.aload_n 0, 1) := by decide +kernel
theorem dX7_hopes_40 : decode cX7_hopes 40 = .ok (.iload_n 1, 1) := by decide +kernel
theorem dX7_hopes_41 : decode cX7_hopes 41 = .ok (.aload_n 0, 1) := by decide +kernel
theorem dX7_hopes_42 : decode cX7_hopes 42 = .ok (.getfield 7, 3) := by decide +kernel
theorem dX7_hopes_45 : decode cX7_hopes 45 = .ok (.bipush 37, 2) := by decide +kernel
theorem dX7_hopes_47 : decode cX7_hopes 47 = .ok (.iaload, 1) := by decide +kernel
theorem dX7_hopes_48 : decode cX7_hopes 48 = .ok (.iconst 1, 1) := by decide +kernel
theorem dX7_hopes_49 : decode cX7_hopes 49 = .ok (.isub, 1) := by decide +kernel
theorem dX7_hopes_50 : decode cX7_hopes 50 = .ok (.invokevirtual 187, 3) := by decide +kernel
theorem dX7_hopes_53 : decode cX7_hopes 53 = .ok (.istore 4, 2) := by decide +kernel
theorem dX7_hopes_55 : decode cX7_hopes 55 = .ok (.iload 4, 2) := by decide +kernel
theorem dX7_hopes_57 : decode cX7_hopes 57 = .ok (.aload_n 0, 1) := by decide +kernel
theorem dX7_hopes_58 : decode cX7_hopes 58 = .ok (.iload_n 2, 1) := by decide +kernel
theorem dX7_hopes_59 : decode cX7_hopes 59 = .ok (.aload_n 0, 1) := by decide +kernel
theorem dX7_hopes_60 : decode cX7_hopes 60 = .ok (.getfield 7, 3) := by decide +kernel
theorem dX7_hopes_63 : decode cX7_hopes 63 = .ok (.bipush 37, 2) := by decide +kernel
theorem dX7_hopes_65 : decode cX7_hopes 65 = .ok (.iaload, 1) := by decide +kernel
theorem dX7_hopes_66 : decode cX7_hopes 66 = .ok (.iconst 1, 1) := by decide +kernel
theorem dX7_hopes_67 : decode cX7_hopes 67 = .ok (.isub, 1) := by decide +kernel
theorem dX7_hopes_68 : decode cX7_hopes 68 = .ok (.invokevirtual 187, 3) := by decide +kernel
theorem dX7_hopes_71 : decode cX7_hopes 71 = .ok (.ior, 1) := by decide +kernel
theorem dX7_hopes_72 : decode cX7_hopes 72 = .ok (.istore 4, 2) := by decide +kernel
theorem dX7_hopes_74 : decode cX7_hopes 74 = .ok (.aload_n 0, 1) := by decide +kernel
theorem dX7_hopes_75 : decode cX7_hopes 75 = .ok (.invokevirtual 251, 3) := by decide +kernel
theorem dX7_hopes_78 : decode cX7_hopes 78 = .ok (.iconst 0, 1) := by decide +kernel
theorem dX7_hopes_79 : decode cX7_hopes 79 = .ok (.istore 5, 2) := by decide +kernel
theorem dX7_hopes_81 : decode cX7_hopes 81 = .ok (.iload 5, 2) := by decide +kernel
theorem dX7_hopes_83 : decode cX7_hopes 83 = .ok (.aload_n 0, 1) := by decide +kernel
theorem dX7_hopes_84 : decode cX7_hopes 84 = .ok (.getfield 7, 3) := by decide +kernel
theorem dX7_hopes_87 : decode cX7_hopes 87 = .ok (.bipush 87, 2) := by decide +kernel
theorem dX7_hopes_89 : decode cX7_hopes 89 = .ok (.iaload, 1) := by decide +kernel
theorem dX7_hopes_90 : decode cX7_hopes 90 = .ok (.if_icmp .ge 90, 3) := by decide +kernel
theorem dX7_hopes_93 : decode cX7_hopes 93 = .ok (.aload_n 0, 1) := by decide +kernel
theorem dX7_hopes_94 : decode cX7_hopes 94 = .ok (.getfield 48, 3) := by decide +kernel
theorem dX7_hopes_97 : decode cX7_hopes 97 = .ok (.iload 5, 2) := by decide +kernel
theorem dX7_hopes_99 : decode cX7_hopes 99 = .ok (.iconst 0, 1) := by decide +kernel
theorem dX7_hopes_100 : decode cX7_hopes 100 = .ok (.iastore, 1) := by decide +kernel
theorem dX7_hopes_101 : decode cX7_hopes 101 = .ok (.iconst 0, 1) := by decide +kernel
theorem dX7_hopes_102 : decode cX7_hopes 102 = .ok (.istore 6, 2) := by decide +kernel
theorem dX7_hopes_104 : decode cX7_hopes 104 = .ok (.iload 6, 2) := by decide +kernel
theorem dX7_hopes_106 : decode cX7_hopes 106 = .ok (.aload_n 0, 1) := by decide +kernel
theorem dX7_hopes_107 : decode cX7_hopes 107 = .ok (.getfield 211, 3) := by decide +kernel
theorem dX7_hopes_110 : decode cX7_hopes 110 = .ok (.if_icmp .ge 64, 3) := by decide +kernel
theorem dX7_hopes_113 : decode cX7_hopes 113 = .ok (.aload_n 0, 1) := by decide +kernel
theorem dX7_hopes_114 : decode cX7_hopes 114 = .ok (.getfield 48, 3) := by decide +kernel
theorem dX7_hopes_117 : decode cX7_hopes 117 = .ok (.iload 5, 2) := by decide +kernel
theorem dX7_hopes_119 : decode cX7_hopes 119 = .ok (.dup2, 1) := by decide +kernel
theorem dX7_hopes_120 : decode cX7_hopes 120 = .ok (.iaload, 1) := by decide +kernel
theorem dX7_hopes_121 : decode cX7_hopes 121 = .ok (.aload_n 0, 1) := by decide +kernel
theorem dX7_hopes_122 : decode cX7_hopes 122 = .ok (.aload_n 0, 1) := by decide +kernel
theorem dX7_hopes_123 : decode cX7_hopes 123 = .ok (.getfield 45, 3) := by decide +kernel
theorem dX7_hopes_126 : decode cX7_hopes 126 = .ok (.iload 6, 2) := by decide +kernel
theorem dX7_hopes_128 : decode cX7_hopes 128 = .ok (.laload, 1) := by decide +kernel
theorem dX7_hopes_129 : decode cX7_hopes 129 = .ok (.invokevirtual 229, 3) := by decide +kernel
theorem dX7_hopes_132 : decode cX7_hopes 132 = .ok (.aload_n 0, 1) := by decide +kernel
theorem dX7_hopes_133 : decode cX7_hopes 133 = .ok (.getfield 7, 3) := by decide +kernel
theorem dX7_hopes_136 : decode cX7_hopes 136 = .ok (.bipush 88, 2) := by decide +kernel
theorem dX7_hopes_138 : decode cX7_hopes 138 = .ok (.iload 5, 2) := by decide +kernel
theorem dX7_hopes_140 : decode cX7_hopes 140 = .ok (.iadd, 1) := by decide +kernel
theorem dX7_hopes_141 : decode cX7_hopes 141 = .ok (.iaload, 1) := by decide +kernel
theorem dX7_hopes_142 : decode cX7_hopes 142 = .ok (.if_icmp .ne 23, 3) := by decide +kernel
theorem dX7_hopes_145 : decode cX7_hopes 145 = .ok (.aload_n 0, 1) := by decide +kernel
theorem dX7_hopes_146 : decode cX7_hopes 146 = .ok (.aload_n 0, 1) := by decide +kernel
theorem dX7_hopes_147 : decode cX7_hopes 147 = .ok (.getfield 45, 3) := by decide +kernel
theorem dX7_hopes_150 : decode cX7_hopes 150 = .ok (.iload 6, 2) := by decide +kernel
theorem dX7_hopes_152 : decode cX7_hopes 152 = .ok (.laload, 1) := by decide +kernel
theorem dX7_hopes_153 : decode cX7_hopes 153 = .ok (.iload 4, 2) := by decide +kernel
theorem dX7_hopes_155 : decode cX7_hopes 155 = .ok (.invokevirtual 256, 3) := by decide +kernel
theorem dX7_hopes_158 : decode cX7_hopes 158 = .ok (.ifCond .eq 7, 3) := by decide +kernel
theorem dX7_hopes_161 : decode cX7_hopes 161 = .ok (.iconst 1, 1) := by decide +kernel
theorem dX7_hopes_162 : decode cX7_hopes 162 = .ok (.goto 4, 3) := by decide +kernel
theorem dX7_hopes_165 : decode cX7_hopes 165 = .ok (.iconst 0, 1) := by decide +kernel
theorem dX7_hopes_166 : decode cX7_hopes 166 = .ok (.iadd, 1) := by decide +kernel
theorem dX7_hopes_167 : decode cX7_hopes 167 = .ok (.iastore, 1) := by decide +kernel
theorem dX7_hopes_168 : decode cX7_hopes 168 = .ok (.iinc 6 1, 3) := by decide +kernel
theorem dX7_hopes_171 : decode cX7_hopes 171 = .ok (.goto (-67), 3) := by decide +kernel
theorem dX7_hopes_174 : decode cX7_hopes 174 = .ok (.iinc 5 1, 3) := by decide +kernel
theorem dX7_hopes_177 : decode cX7_hopes 177 = .ok (.goto (-96), 3) := by decide +kernel
theorem dX7_hopes_180 : decode cX7_hopes 180 = .ok (.lconst 0, 1) := by decide +kernel
theorem dX7_hopes_181 : decode cX7_hopes 181 = .ok (.lstore 5, 2) := by decide +kernel
theorem dX7_hopes_183 : decode cX7_hopes 183 = .ok (.lconst 1, 1) := by decide +kernel
theorem dX7_hopes_184 : decode cX7_hopes 184 = .ok (.lstore 7, 2) := by decide +kernel
theorem dX7_hopes_186 : decode cX7_hopes 186 = .ok (.iconst 0, 1) := by decide +kernel
theorem dX7_hopes_187 : decode cX7_hopes 187 = .ok (.istore 9, 2) := by decide +kernel
theorem dX7_hopes_189 : decode cX7_hopes 189 = .ok (.iload 9, 2) := by decide +kernel
theorem dX7_hopes_191 : decode cX7_hopes 191 = .ok (.aload_n 0, 1) := by decide +kernel
theorem dX7_hopes_192 : decode cX7_hopes 192 = .ok (.getfield 7, 3) := by decide +kernel
theorem dX7_hopes_195 : decode cX7_hopes 195 = .ok (.bipush 87, 2) := by decide +kernel
theorem dX7_hopes_197 : decode cX7_hopes 197 = .ok (.iaload, 1) := by decide +kernel
theorem dX7_hopes_198 : decode cX7_hopes 198 = .ok (.if_icmp .ge 17, 3) := by decide +kernel
theorem dX7_hopes_201 : decode cX7_hopes 201 = .ok (.lload 7, 2) := by decide +kernel
theorem dX7_hopes_203 : decode cX7_hopes 203 = .ok (.ldc2_w 259, 3) := by decide +kernel
theorem dX7_hopes_206 : decode cX7_hopes 206 = .ok (.lmul, 1) := by decide +kernel
theorem dX7_hopes_207 : decode cX7_hopes 207 = .ok (.lstore 7, 2) := by decide +kernel
theorem dX7_hopes_209 : decode cX7_hopes 209 = .ok (.iinc 9 1, 3) := by decide +kernel
theorem dX7_hopes_212 : decode cX7_hopes 212 = .ok (.goto (-23), 3) := by decide +kernel
theorem dX7_hopes_215 : decode cX7_hopes 215 = .ok (.iconst 0, 1) := by decide +kernel
theorem dX7_hopes_216 : decode cX7_hopes 216 = .ok (.istore 9, 2) := by decide +kernel
theorem dX7_hopes_218 : decode cX7_hopes 218 = .ok (.iload 9, 2) := by decide +kernel
theorem dX7_hopes_220 : decode cX7_hopes 220 = .ok (.iconst 1, 1) := by decide +kernel
theorem dX7_hopes_221 : decode cX7_hopes 221 = .ok (.aload_n 0, 1) := by decide +kernel
theorem dX7_hopes_222 : decode cX7_hopes 222 = .ok (.getfield 7, 3) := by decide +kernel
theorem dX7_hopes_225 : decode cX7_hopes 225 = .ok (.bipush 87, 2) := by decide +kernel
theorem dX7_hopes_227 : decode cX7_hopes 227 = .ok (.iaload, 1) := by decide +kernel
theorem dX7_hopes_228 : decode cX7_hopes 228 = .ok (.ishl, 1) := by decide +kernel
theorem dX7_hopes_229 : decode cX7_hopes 229 = .ok (.if_icmp .ge 96, 3) := by decide +kernel
theorem dX7_hopes_232 : decode cX7_hopes 232 = .ok (.lconst 1, 1) := by decide +kernel
theorem dX7_hopes_233 : decode cX7_hopes 233 = .ok (.lstore 10, 2) := by decide +kernel
theorem dX7_hopes_235 : decode cX7_hopes 235 = .ok (.iconst 0, 1) := by decide +kernel
theorem dX7_hopes_236 : decode cX7_hopes 236 = .ok (.istore 12, 2) := by decide +kernel
theorem dX7_hopes_238 : decode cX7_hopes 238 = .ok (.iload 12, 2) := by decide +kernel
theorem dX7_hopes_240 : decode cX7_hopes 240 = .ok (.aload_n 0, 1) := by decide +kernel
theorem dX7_hopes_241 : decode cX7_hopes 241 = .ok (.getfield 7, 3) := by decide +kernel
theorem dX7_hopes_244 : decode cX7_hopes 244 = .ok (.bipush 87, 2) := by decide +kernel
theorem dX7_hopes_246 : decode cX7_hopes 246 = .ok (.iaload, 1) := by decide +kernel
theorem dX7_hopes_247 : decode cX7_hopes 247 = .ok (.if_icmp .ge 52, 3) := by decide +kernel
theorem dX7_hopes_250 : decode cX7_hopes 250 = .ok (.lload 10, 2) := by decide +kernel
theorem dX7_hopes_252 : decode cX7_hopes 252 = .ok (.iload 9, 2) := by decide +kernel
theorem dX7_hopes_254 : decode cX7_hopes 254 = .ok (.iload 12, 2) := by decide +kernel
theorem dX7_hopes_256 : decode cX7_hopes 256 = .ok (.invokestatic 235, 3) := by decide +kernel
theorem dX7_hopes_259 : decode cX7_hopes 259 = .ok (.ifCond .eq 17, 3) := by decide +kernel
theorem dX7_hopes_262 : decode cX7_hopes 262 = .ok (.aload_n 0, 1) := by decide +kernel
theorem dX7_hopes_263 : decode cX7_hopes 263 = .ok (.getfield 7, 3) := by decide +kernel
theorem dX7_hopes_266 : decode cX7_hopes 266 = .ok (.bipush 94, 2) := by decide +kernel
theorem dX7_hopes_268 : decode cX7_hopes 268 = .ok (.iload 12, 2) := by decide +kernel
theorem dX7_hopes_270 : decode cX7_hopes 270 = .ok (.iadd, 1) := by decide +kernel
theorem dX7_hopes_271 : decode cX7_hopes 271 = .ok (.iaload, 1) := by decide +kernel
theorem dX7_hopes_272 : decode cX7_hopes 272 = .ok (.i2l, 1) := by decide +kernel
theorem dX7_hopes_273 : decode cX7_hopes 273 = .ok (.goto 17, 3) := by decide +kernel
theorem dX7_hopes_276 : decode cX7_hopes 276 = .ok (.bipush 10, 2) := by decide +kernel
theorem dX7_hopes_278 : decode cX7_hopes 278 = .ok (.aload_n 0, 1) := by decide +kernel
theorem dX7_hopes_279 : decode cX7_hopes 279 = .ok (.getfield 7, 3) := by decide +kernel
theorem dX7_hopes_282 : decode cX7_hopes 282 = .ok (.bipush 94, 2) := by decide +kernel
theorem dX7_hopes_284 : decode cX7_hopes 284 = .ok (.iload 12, 2) := by decide +kernel
theorem dX7_hopes_286 : decode cX7_hopes 286 = .ok (.iadd, 1) := by decide +kernel
theorem dX7_hopes_287 : decode cX7_hopes 287 = .ok (.iaload, 1) := by decide +kernel
theorem dX7_hopes_288 : decode cX7_hopes 288 = .ok (.isub, 1) := by decide +kernel
theorem dX7_hopes_289 : decode cX7_hopes 289 = .ok (.i2l, 1) := by decide +kernel
theorem dX7_hopes_290 : decode cX7_hopes 290 = .ok (.lmul, 1) := by decide +kernel
theorem dX7_hopes_291 : decode cX7_hopes 291 = .ok (.lstore 10, 2) := by decide +kernel
theorem dX7_hopes_293 : decode cX7_hopes 293 = .ok (.iinc 12 1, 3) := by decide +kernel
theorem dX7_hopes_296 : decode cX7_hopes 296 = .ok (.goto (-58), 3) := by decide +kernel
theorem dX7_hopes_299 : decode cX7_hopes 299 = .ok (.lload 5, 2) := by decide +kernel
theorem dX7_hopes_301 : decode cX7_hopes 301 = .ok (.aload_n 0, 1) := by decide +kernel
theorem dX7_hopes_302 : decode cX7_hopes 302 = .ok (.iload 9, 2) := by decide +kernel
theorem dX7_hopes_304 : decode cX7_hopes 304 = .ok (.invokevirtual 261, 3) := by decide +kernel
theorem dX7_hopes_307 : decode cX7_hopes 307 = .ok (.ifCond .eq 8, 3) := by decide +kernel
theorem dX7_hopes_310 : decode cX7_hopes 310 = .ok (.lload 10, 2) := by decide +kernel
theorem dX7_hopes_312 : decode cX7_hopes 312 = .ok (.goto 4, 3) := by decide +kernel
theorem dX7_hopes_315 : decode cX7_hopes 315 = .ok (.lconst 0, 1) := by decide +kernel
theorem dX7_hopes_316 : decode cX7_hopes 316 = .ok (.ladd, 1) := by decide +kernel
theorem dX7_hopes_317 : decode cX7_hopes 317 = .ok (.lstore 5, 2) := by decide +kernel
theorem dX7_hopes_319 : decode cX7_hopes 319 = .ok (.iinc 9 1, 3) := by decide +kernel
theorem dX7_hopes_322 : decode cX7_hopes 322 = .ok (.goto (-104), 3) := by decide +kernel
theorem dX7_hopes_325 : decode cX7_hopes 325 = .ok (.lload 5, 2) := by decide +kernel
theorem dX7_hopes_327 : decode cX7_hopes 327 = .ok (.lload 7, 2) := by decide +kernel
theorem dX7_hopes_329 : decode cX7_hopes 329 = .ok (.invokestatic 264, 3) := by decide +kernel
theorem dX7_hopes_332 : decode cX7_hopes 332 = .ok (.lstore 9, 2) := by decide +kernel
theorem dX7_hopes_334 : decode cX7_hopes 334 = .ok (.iload_n 3, 1) := by decide +kernel
theorem dX7_hopes_335 : decode cX7_hopes 335 = .ok (.ifCond .ne 11, 3) := by decide +kernel
theorem dX7_hopes_338 : decode cX7_hopes 338 = .ok (.lload 5, 2) := by decide +kernel
theorem dX7_hopes_340 : decode cX7_hopes 340 = .ok (.lload 9, 2) := by decide +kernel
theorem dX7_hopes_342 : decode cX7_hopes 342 = .ok (.ldiv, 1) := by decide +kernel
theorem dX7_hopes_343 : decode cX7_hopes 343 = .ok (.goto 8, 3) := by decide +kernel
theorem dX7_hopes_346 : decode cX7_hopes 346 = .ok (.lload 7, 2) := by decide +kernel
theorem dX7_hopes_348 : decode cX7_hopes 348 = .ok (.lload 9, 2) := by decide +kernel
theorem dX7_hopes_350 : decode cX7_hopes 350 = .ok (.ldiv, 1) := by decide +kernel
theorem dX7_hopes_351 : decode cX7_hopes 351 = .ok (.lreturn, 1) := by decide +kernel
theorem dX7_mark_0 : decode cX7_mark 0 = .ok (.iload_n 1, 1) := by decide +kernel
theorem dX7_mark_1 : decode cX7_mark 1 = .ok (.sipush 401, 3) := by decide +kernel
theorem dX7_mark_4 : decode cX7_mark 4 = .ok (.if_icmp .ge 10, 3) := by decide +kernel
theorem dX7_mark_7 : decode cX7_mark 7 = .ok (.aload_n 0, 1) := by decide +kernel
theorem dX7_mark_8 : decode cX7_mark 8 = .ok (.getfield 54, 3) := by decide +kernel
theorem dX7_mark_11 : decode cX7_mark 11 = .ok (.iload_n 1, 1) := by decide +kernel
theorem dX7_mark_12 : decode cX7_mark 12 = .ok (.iconst 1, 1) := by decide +kernel
theorem dX7_mark_13 : decode cX7_mark 13 = .ok (.bastore, 1) := by decide +kernel
theorem dX7_mark_14 : decode cX7_mark 14 = .ok (.return_, 1) := by decide +kernel
theorem dX7_layNamed_0 : decode cX7_layNamed 0 = .ok (.iconst 0, 1) := by decide +kernel
theorem dX7_layNamed_1 : decode cX7_layNamed 1 = .ok (.istore_n 1, 1) := by decide +kernel
theorem dX7_layNamed_2 : decode cX7_layNamed 2 = .ok (.iload_n 1, 1) := by decide +kernel
theorem dX7_layNamed_3 : decode cX7_layNamed 3 = .ok (.sipush 401, 3) := by decide +kernel
theorem dX7_layNamed_6 : decode cX7_layNamed 6 = .ok (.if_icmp .ge 16, 3) := by decide +kernel
theorem dX7_layNamed_9 : decode cX7_layNamed 9 = .ok (.aload_n 0, 1) := by decide +kernel
theorem dX7_layNamed_10 : decode cX7_layNamed 10 = .ok (.getfield 54, 3) := by decide +kernel
theorem dX7_layNamed_13 : decode cX7_layNamed 13 = .ok (.iload_n 1, 1) := by decide +kernel
theorem dX7_layNamed_14 : decode cX7_layNamed 14 = .ok (.iconst 0, 1) := by decide +kernel
theorem dX7_layNamed_15 : decode cX7_layNamed 15 = .ok (.bastore, 1) := by decide +kernel
theorem dX7_layNamed_16 : decode cX7_layNamed 16 = .ok (.iinc 1 1, 3) := by decide +kernel
theorem dX7_layNamed_19 : decode cX7_layNamed 19 = .ok (.goto (-17), 3) := by decide +kernel
theorem dX7_layNamed_22 : decode cX7_layNamed 22 = .ok (.iconst 0, 1) := by decide +kernel
theorem dX7_layNamed_23 : decode cX7_layNamed 23 = .ok (.istore_n 1, 1) := by decide +kernel
theorem dX7_layNamed_24 : decode cX7_layNamed 24 = .ok (.iload_n 1, 1) := by decide +kernel
theorem dX7_layNamed_25 : decode cX7_layNamed 25 = .ok (.aload_n 0, 1) := by decide +kernel
theorem dX7_layNamed_26 : decode cX7_layNamed 26 = .ok (.getfield 267, 3) := by decide +kernel
theorem dX7_layNamed_29 : decode cX7_layNamed 29 = .ok (.if_icmp .ge 86, 3) := by decide +kernel
theorem dX7_layNamed_32 : decode cX7_layNamed 32 = .ok (.aload_n 0, 1) := by decide +kernel
theorem dX7_layNamed_33 : decode cX7_layNamed 33 = .ok (.aload_n 0, 1) := by decide +kernel
theorem dX7_layNamed_34 : decode cX7_layNamed 34 = .ok (.getfield 51, 3) := by decide +kernel
theorem dX7_layNamed_37 : decode cX7_layNamed 37 = .ok (.iload_n 1, 1) := by decide +kernel
theorem dX7_layNamed_38 : decode cX7_layNamed 38 = .ok (.iaload, 1) := by decide +kernel
theorem dX7_layNamed_39 : decode cX7_layNamed 39 = .ok (.invokevirtual 270, 3) := by decide +kernel
theorem dX7_layNamed_42 : decode cX7_layNamed 42 = .ok (.iconst 0, 1) := by decide +kernel
theorem dX7_layNamed_43 : decode cX7_layNamed 43 = .ok (.istore_n 2, 1) := by decide +kernel
theorem dX7_layNamed_44 : decode cX7_layNamed 44 = .ok (.iload_n 2, 1) := by decide +kernel
theorem dX7_layNamed_45 : decode cX7_layNamed 45 = .ok (.iload_n 1, 1) := by decide +kernel
theorem dX7_layNamed_46 : decode cX7_layNamed 46 = .ok (.if_icmp .gt 63, 3) := by decide +kernel
theorem dX7_layNamed_49 : decode cX7_layNamed 49 = .ok (.aload_n 0, 1) := by decide +kernel
theorem dX7_layNamed_50 : decode cX7_layNamed 50 = .ok (.aload_n 0, 1) := by decide +kernel
theorem dX7_layNamed_51 : decode cX7_layNamed 51 = .ok (.getfield 51, 3) := by decide +kernel
theorem dX7_layNamed_54 : decode cX7_layNamed 54 = .ok (.iload_n 1, 1) := by decide +kernel
theorem dX7_layNamed_55 : decode cX7_layNamed 55 = .ok (.iaload, 1) := by decide +kernel
theorem dX7_layNamed_56 : decode cX7_layNamed 56 = .ok (.aload_n 0, 1) := by decide +kernel
theorem dX7_layNamed_57 : decode cX7_layNamed 57 = .ok (.getfield 51, 3) := by decide +kernel
theorem dX7_layNamed_60 : decode cX7_layNamed 60 = .ok (.iload_n 2, 1) := by decide +kernel
theorem dX7_layNamed_61 : decode cX7_layNamed 61 = .ok (.iaload, 1) := by decide +kernel
theorem dX7_layNamed_62 : decode cX7_layNamed 62 = .ok (.iadd, 1) := by decide +kernel
theorem dX7_layNamed_63 : decode cX7_layNamed 63 = .ok (.invokevirtual 270, 3) := by decide +kernel
theorem dX7_layNamed_66 : decode cX7_layNamed 66 = .ok (.iconst 0, 1) := by decide +kernel
theorem dX7_layNamed_67 : decode cX7_layNamed 67 = .ok (.istore_n 3, 1) := by decide +kernel
theorem dX7_layNamed_68 : decode cX7_layNamed 68 = .ok (.iload_n 3, 1) := by decide +kernel
theorem dX7_layNamed_69 : decode cX7_layNamed 69 = .ok (.iload_n 2, 1) := by decide +kernel
theorem dX7_layNamed_70 : decode cX7_layNamed 70 = .ok (.if_icmp .gt 33, 3) := by decide +kernel
theorem dX7_layNamed_73 : decode cX7_layNamed 73 = .ok (.aload_n 0, 1) := by decide +kernel
theorem dX7_layNamed_74 : decode cX7_layNamed 74 = .ok (.aload_n 0, 1) := by decide +kernel
theorem dX7_layNamed_75 : decode cX7_layNamed 75 = .ok (.getfield 51, 3) := by decide +kernel
theorem dX7_layNamed_78 : decode cX7_layNamed 78 = .ok (.iload_n 1, 1) := by decide +kernel
theorem dX7_layNamed_79 : decode cX7_layNamed 79 = .ok (.iaload, 1) := by decide +kernel
theorem dX7_layNamed_80 : decode cX7_layNamed 80 = .ok (.aload_n 0, 1) := by decide +kernel
theorem dX7_layNamed_81 : decode cX7_layNamed 81 = .ok (.getfield 51, 3) := by decide +kernel
theorem dX7_layNamed_84 : decode cX7_layNamed 84 = .ok (.iload_n 2, 1) := by decide +kernel
theorem dX7_layNamed_85 : decode cX7_layNamed 85 = .ok (.iaload, 1) := by decide +kernel
theorem dX7_layNamed_86 : decode cX7_layNamed 86 = .ok (.iadd, 1) := by decide +kernel
theorem dX7_layNamed_87 : decode cX7_layNamed 87 = .ok (.aload_n 0, 1) := by decide +kernel
theorem dX7_layNamed_88 : decode cX7_layNamed 88 = .ok (.getfield 51, 3) := by decide +kernel
theorem dX7_layNamed_91 : decode cX7_layNamed 91 = .ok (.iload_n 3, 1) := by decide +kernel
theorem dX7_layNamed_92 : decode cX7_layNamed 92 = .ok (.iaload, 1) := by decide +kernel
theorem dX7_layNamed_93 : decode cX7_layNamed 93 = .ok (.iadd, 1) := by decide +kernel
theorem dX7_layNamed_94 : decode cX7_layNamed 94 = .ok (.invokevirtual 270, 3) := by decide +kernel
theorem dX7_layNamed_97 : decode cX7_layNamed 97 = .ok (.iinc 3 1, 3) := by decide +kernel
theorem dX7_layNamed_100 : decode cX7_layNamed 100 = .ok (.goto (-32), 3) := by decide +kernel
theorem dX7_layNamed_103 : decode cX7_layNamed 103 = .ok (.iinc 2 1, 3) := by decide +kernel
theorem dX7_layNamed_106 : decode cX7_layNamed 106 = .ok (.goto (-62), 3) := by decide +kernel
theorem dX7_layNamed_109 : decode cX7_layNamed 109 = .ok (.iinc 1 1, 3) := by decide +kernel
theorem dX7_layNamed_112 : decode cX7_layNamed 112 = .ok (.goto (-88), 3) := by decide +kernel
theorem dX7_layNamed_115 : decode cX7_layNamed 115 = .ok (.return_, 1) := by decide +kernel
theorem dX7_laySums_0 : decode cX7_laySums 0 = .ok (.aload_n 0, 1) := by decide +kernel
theorem dX7_laySums_1 : decode cX7_laySums 1 = .ok (.iconst 0, 1) := by decide +kernel
theorem dX7_laySums_2 : decode cX7_laySums 2 = .ok (.putfield 267, 3) := by decide +kernel
theorem dX7_laySums_5 : decode cX7_laySums 5 = .ok (.iconst 0, 1) := by decide +kernel
theorem dX7_laySums_6 : decode cX7_laySums 6 = .ok (.istore_n 1, 1) := by decide +kernel
theorem dX7_laySums_7 : decode cX7_laySums 7 = .ok (.iload_n 1, 1) := by decide +kernel
theorem dX7_laySums_8 : decode cX7_laySums 8 = .ok (.aload_n 0, 1) := by decide +kernel
theorem dX7_laySums_9 : decode cX7_laySums 9 = .ok (.getfield 7, 3) := by decide +kernel
theorem dX7_laySums_12 : decode cX7_laySums 12 = .ok (.bipush 26, 2) := by decide +kernel
theorem dX7_laySums_14 : decode cX7_laySums 14 = .ok (.iaload, 1) := by decide +kernel
theorem dX7_laySums_15 : decode cX7_laySums 15 = .ok (.if_icmp .ge 59, 3) := by decide +kernel
theorem dX7_laySums_18 : decode cX7_laySums 18 = .ok (.aload_n 0, 1) := by decide +kernel
theorem dX7_laySums_19 : decode cX7_laySums 19 = .ok (.aload_n 0, 1) := by decide +kernel
theorem dX7_laySums_20 : decode cX7_laySums 20 = .ok (.getfield 7, 3) := by decide +kernel
theorem dX7_laySums_23 : decode cX7_laySums 23 = .ok (.bipush 27, 2) := by decide +kernel
theorem dX7_laySums_25 : decode cX7_laySums 25 = .ok (.iload_n 1, 1) := by decide +kernel
theorem dX7_laySums_26 : decode cX7_laySums 26 = .ok (.iadd, 1) := by decide +kernel
theorem dX7_laySums_27 : decode cX7_laySums 27 = .ok (.iaload, 1) := by decide +kernel
theorem dX7_laySums_28 : decode cX7_laySums 28 = .ok (.i2l, 1) := by decide +kernel
theorem dX7_laySums_29 : decode cX7_laySums 29 = .ok (.invokevirtual 214, 3) := by decide +kernel
theorem dX7_laySums_32 : decode cX7_laySums 32 = .ok (.ifCond .eq 36, 3) := by decide +kernel
theorem dX7_laySums_35 : decode cX7_laySums 35 = .ok (.aload_n 0, 1) := by decide +kernel
theorem dX7_laySums_36 : decode cX7_laySums 36 = .ok (.getfield 51, 3) := by decide +kernel
theorem dX7_laySums_39 : decode cX7_laySums 39 = .ok (.aload_n 0, 1) := by decide +kernel
theorem dX7_laySums_40 : decode cX7_laySums 40 = .ok (.getfield 267, 3) := by decide +kernel
theorem dX7_laySums_43 : decode cX7_laySums 43 = .ok (.aload_n 0, 1) := by decide +kernel
theorem dX7_laySums_44 : decode cX7_laySums 44 = .ok (.aload_n 0, 1) := by decide +kernel
theorem dX7_laySums_45 : decode cX7_laySums 45 = .ok (.getfield 7, 3) := by decide +kernel
theorem dX7_laySums_48 : decode cX7_laySums 48 = .ok (.bipush 27, 2) := by decide +kernel
theorem dX7_laySums_50 : decode cX7_laySums 50 = .ok (.iload_n 1, 1) := by decide +kernel
theorem dX7_laySums_51 : decode cX7_laySums 51 = .ok (.iadd, 1) := by decide +kernel
theorem dX7_laySums_52 : decode cX7_laySums 52 = .ok (.iaload, 1) := by decide +kernel
theorem dX7_laySums_53 : decode cX7_laySums 53 = .ok (.i2l, 1) := by decide +kernel
theorem dX7_laySums_54 : decode cX7_laySums 54 = .ok (.invokevirtual 229, 3) := by decide +kernel
theorem dX7_laySums_57 : decode cX7_laySums 57 = .ok (.iastore, 1) := by decide +kernel
theorem dX7_laySums_58 : decode cX7_laySums 58 = .ok (.aload_n 0, 1) := by decide +kernel
theorem dX7_laySums_59 : decode cX7_laySums 59 = .ok (.dup, 1) := by decide +kernel
theorem dX7_laySums_60 : decode cX7_laySums 60 = .ok (.getfield 267, 3) := by decide +kernel
theorem dX7_laySums_63 : decode cX7_laySums 63 = .ok (.iconst 1, 1) := by decide +kernel
theorem dX7_laySums_64 : decode cX7_laySums 64 = .ok (.iadd, 1) := by decide +kernel
theorem dX7_laySums_65 : decode cX7_laySums 65 = .ok (.putfield 267, 3) := by decide +kernel
theorem dX7_laySums_68 : decode cX7_laySums 68 = .ok (.iinc 1 1, 3) := by decide +kernel
theorem dX7_laySums_71 : decode cX7_laySums 71 = .ok (.goto (-64), 3) := by decide +kernel
theorem dX7_laySums_74 : decode cX7_laySums 74 = .ok (.aload_n 0, 1) := by decide +kernel
theorem dX7_laySums_75 : decode cX7_laySums 75 = .ok (.invokevirtual 273, 3) := by decide +kernel
theorem dX7_laySums_78 : decode cX7_laySums 78 = .ok (.return_, 1) := by decide +kernel
theorem dX7_bare_0 : decode cX7_bare 0 = .ok (.iconst 0, 1) := by decide +kernel
theorem dX7_bare_1 : decode cX7_bare 1 = .ok (.istore 4, 2) := by decide +kernel
theorem dX7_bare_3 : decode cX7_bare 3 = .ok (.iload_n 1, 1) := by decide +kernel
theorem dX7_bare_4 : decode cX7_bare 4 = .ok (.istore 5, 2) := by decide +kernel
theorem dX7_bare_6 : decode cX7_bare 6 = .ok (.iload 5, 2) := by decide +kernel
theorem dX7_bare_8 : decode cX7_bare 8 = .ok (.iload_n 2, 1) := by decide +kernel
theorem dX7_bare_9 : decode cX7_bare 9 = .ok (.if_icmp .gt 29, 3) := by decide +kernel
theorem dX7_bare_12 : decode cX7_bare 12 = .ok (.aload_n 0, 1) := by decide +kernel
theorem dX7_bare_13 : decode cX7_bare 13 = .ok (.getfield 54, 3) := by decide +kernel
theorem dX7_bare_16 : decode cX7_bare 16 = .ok (.iload 5, 2) := by decide +kernel
theorem dX7_bare_18 : decode cX7_bare 18 = .ok (.baload, 1) := by decide +kernel
theorem dX7_bare_19 : decode cX7_bare 19 = .ok (.ifCond .ne 13, 3) := by decide +kernel
theorem dX7_bare_22 : decode cX7_bare 22 = .ok (.iload_n 3, 1) := by decide +kernel
theorem dX7_bare_23 : decode cX7_bare 23 = .ok (.ifCond .eq 6, 3) := by decide +kernel
theorem dX7_bare_26 : decode cX7_bare 26 = .ok (.iload 5, 2) := by decide +kernel
theorem dX7_bare_28 : decode cX7_bare 28 = .ok (.ireturn, 1) := by decide +kernel
theorem dX7_bare_29 : decode cX7_bare 29 = .ok (.iinc 4 1, 3) := by decide +kernel
theorem dX7_bare_32 : decode cX7_bare 32 = .ok (.iinc 5 1, 3) := by decide +kernel
theorem dX7_bare_35 : decode cX7_bare 35 = .ok (.goto (-29), 3) := by decide +kernel
theorem dX7_bare_38 : decode cX7_bare 38 = .ok (.iload_n 3, 1) := by decide +kernel
theorem dX7_bare_39 : decode cX7_bare 39 = .ok (.ifCond .eq 7, 3) := by decide +kernel
theorem dX7_bare_42 : decode cX7_bare 42 = .ok (.iconst (-1), 1) := by decide +kernel
theorem dX7_bare_43 : decode cX7_bare 43 = .ok (.goto 5, 3) := by decide +kernel
theorem dX7_bare_46 : decode cX7_bare 46 = .ok (.iload 4, 2) := by decide +kernel
theorem dX7_bare_48 : decode cX7_bare 48 = .ok (.ireturn, 1) := by decide +kernel
theorem dX7_areDays_0 : decode cX7_areDays 0 = .ok (.iload_n 0, 1) := by decide +kernel
theorem dX7_areDays_1 : decode cX7_areDays 1 = .ok (.invokestatic 246, 3) := by decide +kernel
theorem dX7_areDays_4 : decode cX7_areDays 4 = .ok (.ifCond .eq 19, 3) := by decide +kernel
theorem dX7_areDays_7 : decode cX7_areDays 7 = .ok (.iload_n 1, 1) := by decide +kernel
theorem dX7_areDays_8 : decode cX7_areDays 8 = .ok (.invokestatic 246, 3) := by decide +kernel
theorem dX7_areDays_11 : decode cX7_areDays 11 = .ok (.ifCond .eq 12, 3) := by decide +kernel
theorem dX7_areDays_14 : decode cX7_areDays 14 = .ok (.iload_n 0, 1) := by decide +kernel
theorem dX7_areDays_15 : decode cX7_areDays 15 = .ok (.iload_n 1, 1) := by decide +kernel
theorem dX7_areDays_16 : decode cX7_areDays 16 = .ok (.if_icmp .gt 7, 3) := by decide +kernel
theorem dX7_areDays_19 : decode cX7_areDays 19 = .ok (.iconst 1, 1) := by decide +kernel
theorem dX7_areDays_20 : decode cX7_areDays 20 = .ok (.goto 4, 3) := by decide +kernel
theorem dX7_areDays_23 : decode cX7_areDays 23 = .ok (.iconst 0, 1) := by decide +kernel
theorem dX7_areDays_24 : decode cX7_areDays 24 = .ok (.ireturn, 1) := by decide +kernel
theorem dX7_without_0 : decode cX7_without 0 = .ok (.iload_n 1, 1) := by decide +kernel
theorem dX7_without_1 : decode cX7_without 1 = .ok (.iload_n 2, 1) := by decide +kernel
theorem dX7_without_2 : decode cX7_without 2 = .ok (.invokestatic 276, 3) := by decide +kernel
theorem dX7_without_5 : decode cX7_without 5 = .ok (.ifCond .eq 13, 3) := by decide +kernel
theorem dX7_without_8 : decode cX7_without 8 = .ok (.iload_n 3, 1) := by decide +kernel
theorem dX7_without_9 : decode cX7_without 9 = .ok (.i2l, 1) := by decide +kernel
theorem dX7_without_10 : decode cX7_without 10 = .ok (.lconst 0, 1) := by decide +kernel
theorem dX7_without_11 : decode cX7_without 11 = .ok (.lconst 1, 1) := by decide +kernel
theorem dX7_without_12 : decode cX7_without 12 = .ok (.invokestatic 68, 3) := by decide +kernel
theorem dX7_without_15 : decode cX7_without 15 = .ok (.ifCond .ne 6, 3) := by decide +kernel
theorem dX7_without_18 : decode cX7_without 18 = .ok (.bipush (-3), 2) := by decide +kernel
theorem dX7_without_20 : decode cX7_without 20 = .ok (.ireturn, 1) := by decide +kernel
theorem dX7_without_21 : decode cX7_without 21 = .ok (.aload_n 0, 1) := by decide +kernel
theorem dX7_without_22 : decode cX7_without 22 = .ok (.invokevirtual 279, 3) := by decide +kernel
theorem dX7_without_25 : decode cX7_without 25 = .ok (.aload_n 0, 1) := by decide +kernel
theorem dX7_without_26 : decode cX7_without 26 = .ok (.iload_n 1, 1) := by decide +kernel
theorem dX7_without_27 : decode cX7_without 27 = .ok (.iload_n 2, 1) := by decide +kernel
theorem dX7_without_28 : decode cX7_without 28 = .ok (.iload_n 3, 1) := by decide +kernel
theorem dX7_without_29 : decode cX7_without 29 = .ok (.iconst 1, 1) := by decide +kernel
theorem dX7_without_30 : decode cX7_without 30 = .ok (.if_icmp .ne 7, 3) := by decide +kernel
theorem dX7_without_33 : decode cX7_without 33 = .ok (.iconst 1, 1) := by decide +kernel
theorem dX7_without_34 : decode cX7_without 34 = .ok (.goto 4, 3) := by decide +kernel
theorem dX7_without_37 : decode cX7_without 37 = .ok (.iconst 0, 1) := by decide +kernel
theorem dX7_without_38 : decode cX7_without 38 = .ok (.invokevirtual 282, 3) := by decide +kernel
theorem dX7_without_41 : decode cX7_without 41 = .ok (.ireturn, 1) := by decide +kernel
theorem dX7_isSyl_0 : decode cX7_isSyl 0 = .ok (.iconst 0, 1) := by decide +kernel
theorem dX7_isSyl_1 : decode cX7_isSyl 1 = .ok (.istore_n 3, 1) := by decide +kernel
theorem dX7_isSyl_2 : decode cX7_isSyl 2 = .ok (.iconst 0, 1) := by decide +kernel
theorem dX7_isSyl_3 : decode cX7_isSyl 3 = .ok (.istore 4, 2) := by decide +kernel
theorem dX7_isSyl_5 : decode cX7_isSyl 5 = .ok (.iload 4, 2) := by decide +kernel
theorem dX7_isSyl_7 : decode cX7_isSyl 7 = .ok (.aload_n 0, 1) := by decide +kernel
theorem dX7_isSyl_8 : decode cX7_isSyl 8 = .ok (.getfield 7, 3) := by decide +kernel
theorem dX7_isSyl_11 : decode cX7_isSyl 11 = .ok (.bipush 26, 2) := by decide +kernel
theorem dX7_isSyl_13 : decode cX7_isSyl 13 = .ok (.iaload, 1) := by decide +kernel
theorem dX7_isSyl_14 : decode cX7_isSyl 14 = .ok (.if_icmp .ge 35, 3) := by decide +kernel
theorem dX7_isSyl_17 : decode cX7_isSyl 17 = .ok (.iload_n 3, 1) := by decide +kernel
theorem dX7_isSyl_18 : decode cX7_isSyl 18 = .ok (.ifCond .ne 19, 3) := by decide +kernel
theorem dX7_isSyl_21 : decode cX7_isSyl 21 = .ok (.aload_n 0, 1) := by decide +kernel
theorem dX7_isSyl_22 : decode cX7_isSyl 22 = .ok (.getfield 7, 3) := by decide +kernel
theorem dX7_isSyl_25 : decode cX7_isSyl 25 = .ok (.bipush 27, 2) := by decide +kernel
theorem dX7_isSyl_27 : decode cX7_isSyl 27 = .ok (.iload 4, 2) := by decide +kernel
theorem dX7_isSyl_29 : decode cX7_isSyl 29 = .ok (.iadd, 1) := by decide +kernel
theorem dX7_isSyl_30 : decode cX7_isSyl 30 = .ok (.iaload, 1) := by decide +kernel
theorem dX7_isSyl_31 : decode cX7_isSyl 31 = .ok (.i2l, 1) := by decide +kernel
theorem dX7_isSyl_32 : decode cX7_isSyl 32 = .ok (.lload_n 1, 1) := by decide +kernel
theorem dX7_isSyl_33 : decode cX7_isSyl 33 = .ok (.lcmp, 1) := by decide +kernel
theorem dX7_isSyl_34 : decode cX7_isSyl 34 = .ok (.ifCond .ne 7, 3) := by decide +kernel
theorem dX7_isSyl_37 : decode cX7_isSyl 37 = .ok (.iconst 1, 1) := by decide +kernel
theorem dX7_isSyl_38 : decode cX7_isSyl 38 = .ok (.goto 4, 3) := by decide +kernel
theorem dX7_isSyl_41 : decode cX7_isSyl 41 = .ok (.iconst 0, 1) := by decide +kernel
theorem dX7_isSyl_42 : decode cX7_isSyl 42 = .ok (.istore_n 3, 1) := by decide +kernel
theorem dX7_isSyl_43 : decode cX7_isSyl 43 = .ok (.iinc 4 1, 3) := by decide +kernel
theorem dX7_isSyl_46 : decode cX7_isSyl 46 = .ok (.goto (-41), 3) := by decide +kernel
theorem dX7_isSyl_49 : decode cX7_isSyl 49 = .ok (.iload_n 3, 1) := by decide +kernel
theorem dX7_isSyl_50 : decode cX7_isSyl 50 = .ok (.ireturn, 1) := by decide +kernel
theorem dX7_mend_0 : decode cX7_mend 0 = .ok (.iload_n 1, 1) := by decide +kernel
theorem dX7_mend_1 : decode cX7_mend 1 = .ok (.iload_n 2, 1) := by decide +kernel
theorem dX7_mend_2 : decode cX7_mend 2 = .ok (.invokestatic 276, 3) := by decide +kernel
theorem dX7_mend_5 : decode cX7_mend 5 = .ok (.ifCond .ne 7, 3) := by decide +kernel
theorem dX7_mend_8 : decode cX7_mend 8 = .ok (.ldc2_w 254, 3) := by decide +kernel
theorem dX7_mend_11 : decode cX7_mend 11 = .ok (.lreturn, 1) := by decide +kernel
theorem dX7_mend_12 : decode cX7_mend 12 = .ok (.aload_n 0, 1) := by decide +kernel
theorem dX7_mend_13 : decode cX7_mend 13 = .ok (.invokevirtual 279, 3) := by decide +kernel
theorem dX7_mend_16 : decode cX7_mend 16 = .ok (.aload_n 0, 1) := by decide +kernel
theorem dX7_mend_17 : decode cX7_mend 17 = .ok (.iload_n 1, 1) := by decide +kernel
theorem dX7_mend_18 : decode cX7_mend 18 = .ok (.iload_n 2, 1) := by decide +kernel
theorem dX7_mend_19 : decode cX7_mend 19 = .ok (.iconst 1, 1) := by decide +kernel
theorem dX7_mend_20 : decode cX7_mend 20 = .ok (.invokevirtual 282, 3) := by decide +kernel
theorem dX7_mend_23 : decode cX7_mend 23 = .ok (.iconst (-1), 1) := by decide +kernel
theorem dX7_mend_24 : decode cX7_mend 24 = .ok (.if_icmp .ne 5, 3) := by decide +kernel
theorem dX7_mend_27 : decode cX7_mend 27 = .ok (.lconst 0, 1) := by decide +kernel
theorem dX7_mend_28 : decode cX7_mend 28 = .ok (.lreturn, 1) := by decide +kernel
theorem dX7_mend_29 : decode cX7_mend 29 = .ok (.aload_n 0, 1) := by decide +kernel
theorem dX7_mend_30 : decode cX7_mend 30 = .ok (.getfield 7, 3) := by decide +kernel
theorem dX7_mend_33 : decode cX7_mend 33 = .ok (.bipush 26, 2) := by decide +kernel
theorem dX7_mend_35 : decode cX7_mend 35 = .ok (.iaload, 1) := by decide +kernel
theorem dX7_mend_36 : decode cX7_mend 36 = .ok (.bipush 10, 2) := by decide +kernel
theorem dX7_mend_38 : decode cX7_mend 38 = .ok (.if_icmp .ne 7, 3) := by decide +kernel
theorem dX7_mend_41 : decode cX7_mend 41 = .ok (.ldc2_w 286, 3) := by decide +kernel
theorem dX7_mend_44 : decode cX7_mend 44 = .ok (.lreturn, 1) := by decide +kernel
theorem dX7_mend_45 : decode cX7_mend 45 = .ok (.aload_n 0, 1) := by decide +kernel
theorem dX7_mend_46 : decode cX7_mend 46 = .ok (.getfield 267, 3) := by decide +kernel
theorem dX7_mend_49 : decode cX7_mend 49 = .ok (.istore_n 3, 1) := by decide +kernel
theorem dX7_mend_50 : decode cX7_mend 50 = .ok (.lconst 1, 1) := by decide +kernel
theorem dX7_mend_51 : decode cX7_mend 51 = .ok (.lstore 4, 2) := by decide +kernel
theorem dX7_mend_53 : decode cX7_mend 53 = .ok (.lload 4, 2) := by decide +kernel
theorem dX7_mend_55 : decode cX7_mend 55 = .ok (.ldc2_w 288, 3) := by decide +kernel
theorem dX7_mend_58 : decode cX7_mend 58 = .ok (.lcmp, 1) := by decide +kernel
theorem dX7_mend_59 : decode cX7_mend 59 = .ok (.ifCond .ge 75, 3) := by decide +kernel
theorem dX7_mend_62 : decode cX7_mend 62 = .ok (.lload 4, 2) := by decide +kernel
theorem dX7_mend_64 : decode cX7_mend 64 = .ok (.invokestatic 226, 3) := by decide +kernel
theorem dX7_mend_67 : decode cX7_mend 67 = .ok (.ifCond .eq 58, 3) := by decide +kernel
theorem dX7_mend_70 : decode cX7_mend 70 = .ok (.aload_n 0, 1) := by decide +kernel
theorem dX7_mend_71 : decode cX7_mend 71 = .ok (.lload 4, 2) := by decide +kernel
theorem dX7_mend_73 : decode cX7_mend 73 = .ok (.invokevirtual 214, 3) := by decide +kernel
theorem dX7_mend_76 : decode cX7_mend 76 = .ok (.ifCond .eq 49, 3) := by decide +kernel
theorem dX7_mend_79 : decode cX7_mend 79 = .ok (.aload_n 0, 1) := by decide +kernel
theorem dX7_mend_80 : decode cX7_mend 80 = .ok (.lload 4, 2) := by decide +kernel
theorem dX7_mend_82 : decode cX7_mend 82 = .ok (.invokevirtual 290, 3) := by decide +kernel
theorem dX7_mend_85 : decode cX7_mend 85 = .ok (.ifCond .ne 40, 3) := by decide +kernel
theorem dX7_mend_88 : decode cX7_mend 88 = .ok (.aload_n 0, 1) := by decide +kernel
theorem dX7_mend_89 : decode cX7_mend 89 = .ok (.getfield 51, 3) := by decide +kernel
theorem dX7_mend_92 : decode cX7_mend 92 = .ok (.iload_n 3, 1) := by decide +kernel
theorem dX7_mend_93 : decode cX7_mend 93 = .ok (.aload_n 0, 1) := by decide +kernel
theorem dX7_mend_94 : decode cX7_mend 94 = .ok (.lload 4, 2) := by decide +kernel
theorem dX7_mend_96 : decode cX7_mend 96 = .ok (.invokevirtual 229, 3) := by decide +kernel
theorem dX7_mend_99 : decode cX7_mend 99 = .ok (.iastore, 1) := by decide +kernel
theorem dX7_mend_100 : decode cX7_mend 100 = .ok (.aload_n 0, 1) := by decide +kernel
theorem dX7_mend_101 : decode cX7_mend 101 = .ok (.iload_n 3, 1) := by decide +kernel
theorem dX7_mend_102 : decode cX7_mend 102 = .ok (.iconst 1, 1) := by decide +kernel
theorem dX7_mend_103 : decode cX7_mend 103 = .ok (.iadd, 1) := by decide +kernel
theorem dX7_mend_104 : decode cX7_mend 104 = .ok (.putfield 267, 3) := by decide +kernel
theorem dX7_mend_107 : decode cX7_mend 107 = .ok (.aload_n 0, 1) := by decide +kernel
theorem dX7_mend_108 : decode cX7_mend 108 = .ok (.invokevirtual 273, 3) := by decide +kernel
theorem dX7_mend_111 : decode cX7_mend 111 = .ok (.aload_n 0, 1) := by decide +kernel
theorem dX7_mend_112 : decode cX7_mend 112 = .ok (.iload_n 1, 1) := by decide +kernel
theorem dX7_mend_113 : decode cX7_mend 113 = .ok (.iload_n 2, 1) := by decide +kernel
theorem dX7_mend_114 : decode cX7_mend 114 = .ok (.iconst 1, 1) := by decide +kernel
theorem dX7_mend_115 : decode cX7_mend 115 = .ok (.invokevirtual 282, 3) := by decide +kernel
theorem dX7_mend_118 : decode cX7_mend 118 = .ok (.iconst (-1), 1) := by decide +kernel
theorem dX7_mend_119 : decode cX7_mend 119 = .ok (.if_icmp .ne 6, 3) := by decide +kernel
theorem dX7_mend_122 : decode cX7_mend 122 = .ok (.lload 4, 2) := by decide +kernel
theorem dX7_mend_124 : decode cX7_mend 124 = .ok (.lreturn, 1) := by decide +kernel
theorem dX7_mend_125 : decode cX7_mend 125 = .ok (.lload 4, 2) := by decide +kernel
theorem dX7_mend_127 : decode cX7_mend 127 = .ok (.lconst 1, 1) := by decide +kernel
theorem dX7_mend_128 : decode cX7_mend 128 = .ok (.ladd, 1) := by decide +kernel
theorem dX7_mend_129 : decode cX7_mend 129 = .ok (.lstore 4, 2) := by decide +kernel
theorem dX7_mend_131 : decode cX7_mend 131 = .ok (.goto (-78), 3) := by decide +kernel
theorem dX7_mend_134 : decode cX7_mend 134 = .ok (.ldc2_w 119, 3) := by decide +kernel
theorem dX7_mend_137 : decode cX7_mend 137 = .ok (.lreturn, 1) := by decide +kernel
theorem dX7_layUsed_0 : decode cX7_layUsed 0 = .ok (.iconst 0, 1) := by decide +kernel
theorem dX7_layUsed_1 : decode cX7_layUsed 1 = .ok (.istore_n 1, 1) := by decide +kernel
theorem dX7_layUsed_2 : decode cX7_layUsed 2 = .ok (.iconst 0, 1) := by decide +kernel
theorem dX7_layUsed_3 : decode cX7_layUsed 3 = .ok (.istore_n 2, 1) := by decide +kernel
theorem dX7_layUsed_4 : decode cX7_layUsed 4 = .ok (.iload_n 2, 1) := by decide +kernel
theorem dX7_layUsed_5 : decode cX7_layUsed 5 = .ok (.aload_n 0, 1) := by decide +kernel
theorem dX7_layUsed_6 : decode cX7_layUsed 6 = .ok (.getfield 7, 3) := by decide +kernel
theorem dX7_layUsed_9 : decode cX7_layUsed 9 = .ok (.bipush 38, 2) := by decide +kernel
theorem dX7_layUsed_11 : decode cX7_layUsed 11 = .ok (.iaload, 1) := by decide +kernel
theorem dX7_layUsed_12 : decode cX7_layUsed 12 = .ok (.if_icmp .ge 44, 3) := by decide +kernel
theorem dX7_layUsed_15 : decode cX7_layUsed 15 = .ok (.aload_n 0, 1) := by decide +kernel
theorem dX7_layUsed_16 : decode cX7_layUsed 16 = .ok (.getfield 13, 3) := by decide +kernel
theorem dX7_layUsed_19 : decode cX7_layUsed 19 = .ok (.iload_n 2, 1) := by decide +kernel
theorem dX7_layUsed_20 : decode cX7_layUsed 20 = .ok (.laload, 1) := by decide +kernel
theorem dX7_layUsed_21 : decode cX7_layUsed 21 = .ok (.lstore_n 3, 1) := by decide +kernel
theorem dX7_layUsed_22 : decode cX7_layUsed 22 = .ok (.lload_n 3, 1) := by decide +kernel
theorem dX7_layUsed_23 : decode cX7_layUsed 23 = .ok (.lconst 0, 1) := by decide +kernel
theorem dX7_layUsed_24 : decode cX7_layUsed 24 = .ok (.lcmp, 1) := by decide +kernel
theorem dX7_layUsed_25 : decode cX7_layUsed 25 = .ok (.ifCond .le 25, 3) := by decide +kernel
theorem dX7_layUsed_28 : decode cX7_layUsed 28 = .ok (.iload_n 1, 1) := by decide +kernel
theorem dX7_layUsed_29 : decode cX7_layUsed 29 = .ok (.iconst 1, 1) := by decide +kernel
theorem dX7_layUsed_30 : decode cX7_layUsed 30 = .ok (.lload_n 3, 1) := by decide +kernel
theorem dX7_layUsed_31 : decode cX7_layUsed 31 = .ok (.ldc2_w 121, 3) := by decide +kernel
theorem dX7_layUsed_34 : decode cX7_layUsed 34 = .ok (.lrem, 1) := by decide +kernel
theorem dX7_layUsed_35 : decode cX7_layUsed 35 = .ok (.l2i, 1) := by decide +kernel
theorem dX7_layUsed_36 : decode cX7_layUsed 36 = .ok (.iconst 1, 1) := by decide +kernel
theorem dX7_layUsed_37 : decode cX7_layUsed 37 = .ok (.isub, 1) := by decide +kernel
theorem dX7_layUsed_38 : decode cX7_layUsed 38 = .ok (.ishl, 1) := by decide +kernel
theorem dX7_layUsed_39 : decode cX7_layUsed 39 = .ok (.ior, 1) := by decide +kernel
theorem dX7_layUsed_40 : decode cX7_layUsed 40 = .ok (.istore_n 1, 1) := by decide +kernel
theorem dX7_layUsed_41 : decode cX7_layUsed 41 = .ok (.lload_n 3, 1) := by decide +kernel
theorem dX7_layUsed_42 : decode cX7_layUsed 42 = .ok (.ldc2_w 121, 3) := by decide +kernel
theorem dX7_layUsed_45 : decode cX7_layUsed 45 = .ok (.ldiv, 1) := by decide +kernel
theorem dX7_layUsed_46 : decode cX7_layUsed 46 = .ok (.lstore_n 3, 1) := by decide +kernel
theorem dX7_layUsed_47 : decode cX7_layUsed 47 = .ok (.goto (-25), 3) := by decide +kernel
theorem dX7_layUsed_50 : decode cX7_layUsed 50 = .ok (.iinc 2 1, 3) := by decide +kernel
theorem dX7_layUsed_53 : decode cX7_layUsed 53 = .ok (.goto (-49), 3) := by decide +kernel
theorem dX7_layUsed_56 : decode cX7_layUsed 56 = .ok (.aload_n 0, 1) := by decide +kernel
theorem dX7_layUsed_57 : decode cX7_layUsed 57 = .ok (.iconst 0, 1) := by decide +kernel
theorem dX7_layUsed_58 : decode cX7_layUsed 58 = .ok (.putfield 293, 3) := by decide +kernel
theorem dX7_layUsed_61 : decode cX7_layUsed 61 = .ok (.iconst 0, 1) := by decide +kernel
theorem dX7_layUsed_62 : decode cX7_layUsed 62 = .ok (.istore_n 2, 1) := by decide +kernel
theorem dX7_layUsed_63 : decode cX7_layUsed 63 = .ok (.iload_n 2, 1) := by decide +kernel
theorem dX7_layUsed_64 : decode cX7_layUsed 64 = .ok (.bipush 26, 2) := by decide +kernel
theorem dX7_layUsed_66 : decode cX7_layUsed 66 = .ok (.if_icmp .ge 47, 3) := by decide +kernel
theorem dX7_layUsed_69 : decode cX7_layUsed 69 = .ok (.iload_n 1, 1) := by decide +kernel
theorem dX7_layUsed_70 : decode cX7_layUsed 70 = .ok (.iload_n 2, 1) := by decide +kernel
theorem dX7_layUsed_71 : decode cX7_layUsed 71 = .ok (.invokestatic 235, 3) := by decide +kernel
theorem dX7_layUsed_74 : decode cX7_layUsed 74 = .ok (.ifCond .eq 33, 3) := by decide +kernel
theorem dX7_layUsed_77 : decode cX7_layUsed 77 = .ok (.aload_n 0, 1) := by decide +kernel
theorem dX7_layUsed_78 : decode cX7_layUsed 78 = .ok (.getfield 293, 3) := by decide +kernel
theorem dX7_layUsed_81 : decode cX7_layUsed 81 = .ok (.iconst 5, 1) := by decide +kernel
theorem dX7_layUsed_82 : decode cX7_layUsed 82 = .ok (.if_icmp .ne 5, 3) := by decide +kernel
theorem dX7_layUsed_85 : decode cX7_layUsed 85 = .ok (.iconst 0, 1) := by decide +kernel
theorem dX7_layUsed_86 : decode cX7_layUsed 86 = .ok (.ireturn, 1) := by decide +kernel
theorem dX7_layUsed_87 : decode cX7_layUsed 87 = .ok (.aload_n 0, 1) := by decide +kernel
theorem dX7_layUsed_88 : decode cX7_layUsed 88 = .ok (.getfield 57, 3) := by decide +kernel
theorem dX7_layUsed_91 : decode cX7_layUsed 91 = .ok (.aload_n 0, 1) := by decide +kernel
theorem dX7_layUsed_92 : decode cX7_layUsed 92 = .ok (.getfield 293, 3) := by decide +kernel
theorem dX7_layUsed_95 : decode cX7_layUsed 95 = .ok (.iload_n 2, 1) := by decide +kernel
theorem dX7_layUsed_96 : decode cX7_layUsed 96 = .ok (.iastore, 1) := by decide +kernel
theorem dX7_layUsed_97 : decode cX7_layUsed 97 = .ok (.aload_n 0, 1) := by decide +kernel
theorem dX7_layUsed_98 : decode cX7_layUsed 98 = .ok (.dup, 1) := by decide +kernel
theorem dX7_layUsed_99 : decode cX7_layUsed 99 = .ok (.getfield 293, 3) := by decide +kernel
theorem dX7_layUsed_102 : decode cX7_layUsed 102 = .ok (.iconst 1, 1) := by decide +kernel
theorem dX7_layUsed_103 : decode cX7_layUsed 103 = .ok (.iadd, 1) := by decide +kernel
theorem dX7_layUsed_104 : decode cX7_layUsed 104 = .ok (.putfield 293, 3) := by decide +kernel
theorem dX7_layUsed_107 : decode cX7_layUsed 107 = .ok (.iinc 2 1, 3) := by decide +kernel
theorem dX7_layUsed_110 : decode cX7_layUsed 110 = .ok (.goto (-47), 3) := by decide +kernel
theorem dX7_layUsed_113 : decode cX7_layUsed 113 = .ok (.iconst 1, 1) := by decide +kernel
theorem dX7_layUsed_114 : decode cX7_layUsed 114 = .ok (.ireturn, 1) := by decide +kernel
theorem dX7_allAdd_0 : decode cX7_allAdd 0 = .ok (.iconst 1, 1) := by decide +kernel
theorem dX7_allAdd_1 : decode cX7_allAdd 1 = .ok (.istore_n 1, 1) := by decide +kernel
theorem dX7_allAdd_2 : decode cX7_allAdd 2 = .ok (.iconst 0, 1) := by decide +kernel
theorem dX7_allAdd_3 : decode cX7_allAdd 3 = .ok (.istore_n 2, 1) := by decide +kernel
theorem dX7_allAdd_4 : decode cX7_allAdd 4 = .ok (.iload_n 2, 1) := by decide +kernel
theorem dX7_allAdd_5 : decode cX7_allAdd 5 = .ok (.aload_n 0, 1) := by decide +kernel
theorem dX7_allAdd_6 : decode cX7_allAdd 6 = .ok (.getfield 7, 3) := by decide +kernel
theorem dX7_allAdd_9 : decode cX7_allAdd 9 = .ok (.bipush 38, 2) := by decide +kernel
theorem dX7_allAdd_11 : decode cX7_allAdd 11 = .ok (.iaload, 1) := by decide +kernel
theorem dX7_allAdd_12 : decode cX7_allAdd 12 = .ok (.if_icmp .ge 88, 3) := by decide +kernel
theorem dX7_allAdd_15 : decode cX7_allAdd 15 = .ok (.iconst 0, 1) := by decide +kernel
theorem dX7_allAdd_16 : decode cX7_allAdd 16 = .ok (.istore_n 3, 1) := by decide +kernel
theorem dX7_allAdd_17 : decode cX7_allAdd 17 = .ok (.aload_n 0, 1) := by decide +kernel
theorem dX7_allAdd_18 : decode cX7_allAdd 18 = .ok (.getfield 13, 3) := by decide +kernel
theorem dX7_allAdd_21 : decode cX7_allAdd 21 = .ok (.iload_n 2, 1) := by decide +kernel
theorem dX7_allAdd_22 : decode cX7_allAdd 22 = .ok (.laload, 1) := by decide +kernel
theorem dX7_allAdd_23 : decode cX7_allAdd 23 = .ok (.lstore 4, 2) := by decide +kernel
theorem dX7_allAdd_25 : decode cX7_allAdd 25 = .ok (.lload 4, 2) := by decide +kernel
theorem dX7_allAdd_27 : decode cX7_allAdd 27 = .ok (.lconst 0, 1) := by decide +kernel
theorem dX7_allAdd_28 : decode cX7_allAdd 28 = .ok (.lcmp, 1) := by decide +kernel
theorem dX7_allAdd_29 : decode cX7_allAdd 29 = .ok (.ifCond .le 31, 3) := by decide +kernel
theorem dX7_allAdd_32 : decode cX7_allAdd 32 = .ok (.iload_n 3, 1) := by decide +kernel
theorem dX7_allAdd_33 : decode cX7_allAdd 33 = .ok (.aload_n 0, 1) := by decide +kernel
theorem dX7_allAdd_34 : decode cX7_allAdd 34 = .ok (.getfield 60, 3) := by decide +kernel
theorem dX7_allAdd_37 : decode cX7_allAdd 37 = .ok (.lload 4, 2) := by decide +kernel
theorem dX7_allAdd_39 : decode cX7_allAdd 39 = .ok (.ldc2_w 121, 3) := by decide +kernel
theorem dX7_allAdd_42 : decode cX7_allAdd 42 = .ok (.lrem, 1) := by decide +kernel
theorem dX7_allAdd_43 : decode cX7_allAdd 43 = .ok (.l2i, 1) := by decide +kernel
theorem dX7_allAdd_44 : decode cX7_allAdd 44 = .ok (.iconst 1, 1) := by decide +kernel
theorem dX7_allAdd_45 : decode cX7_allAdd 45 = .ok (.isub, 1) := by decide +kernel
theorem dX7_allAdd_46 : decode cX7_allAdd 46 = .ok (.iaload, 1) := by decide +kernel
theorem dX7_allAdd_47 : decode cX7_allAdd 47 = .ok (.iadd, 1) := by decide +kernel
theorem dX7_allAdd_48 : decode cX7_allAdd 48 = .ok (.istore_n 3, 1) := by decide +kernel
theorem dX7_allAdd_49 : decode cX7_allAdd 49 = .ok (.lload 4, 2) := by decide +kernel
theorem dX7_allAdd_51 : decode cX7_allAdd 51 = .ok (.ldc2_w 121, 3) := by decide +kernel
theorem dX7_allAdd_54 : decode cX7_allAdd 54 = .ok (.ldiv, 1) := by decide +kernel
theorem dX7_allAdd_55 : decode cX7_allAdd 55 = .ok (.lstore 4, 2) := by decide +kernel
theorem dX7_allAdd_57 : decode cX7_allAdd 57 = .ok (.goto (-32), 3) := by decide +kernel
theorem dX7_allAdd_60 : decode cX7_allAdd 60 = .ok (.iload_n 1, 1) := by decide +kernel
theorem dX7_allAdd_61 : decode cX7_allAdd 61 = .ok (.ifCond .eq 31, 3) := by decide +kernel
theorem dX7_allAdd_64 : decode cX7_allAdd 64 = .ok (.aload_n 0, 1) := by decide +kernel
theorem dX7_allAdd_65 : decode cX7_allAdd 65 = .ok (.getfield 13, 3) := by decide +kernel
theorem dX7_allAdd_68 : decode cX7_allAdd 68 = .ok (.iload_n 2, 1) := by decide +kernel
theorem dX7_allAdd_69 : decode cX7_allAdd 69 = .ok (.laload, 1) := by decide +kernel
theorem dX7_allAdd_70 : decode cX7_allAdd 70 = .ok (.lconst 0, 1) := by decide +kernel
theorem dX7_allAdd_71 : decode cX7_allAdd 71 = .ok (.lcmp, 1) := by decide +kernel
theorem dX7_allAdd_72 : decode cX7_allAdd 72 = .ok (.ifCond .eq 16, 3) := by decide +kernel
theorem dX7_allAdd_75 : decode cX7_allAdd 75 = .ok (.iload_n 3, 1) := by decide +kernel
theorem dX7_allAdd_76 : decode cX7_allAdd 76 = .ok (.aload_n 0, 1) := by decide +kernel
theorem dX7_allAdd_77 : decode cX7_allAdd 77 = .ok (.getfield 7, 3) := by decide +kernel
theorem dX7_allAdd_80 : decode cX7_allAdd 80 = .ok (.bipush 39, 2) := by decide +kernel
theorem dX7_allAdd_82 : decode cX7_allAdd 82 = .ok (.iload_n 2, 1) := by decide +kernel
theorem dX7_allAdd_83 : decode cX7_allAdd 83 = .ok (.iadd, 1) := by decide +kernel
theorem dX7_allAdd_84 : decode cX7_allAdd 84 = .ok (.iaload, 1) := by decide +kernel
theorem dX7_allAdd_85 : decode cX7_allAdd 85 = .ok (.if_icmp .ne 7, 3) := by decide +kernel
theorem dX7_allAdd_88 : decode cX7_allAdd 88 = .ok (.iconst 1, 1) := by decide +kernel
theorem dX7_allAdd_89 : decode cX7_allAdd 89 = .ok (.goto 4, 3) := by decide +kernel
theorem dX7_allAdd_92 : decode cX7_allAdd 92 = .ok (.iconst 0, 1) := by decide +kernel
theorem dX7_allAdd_93 : decode cX7_allAdd 93 = .ok (.istore_n 1, 1) := by decide +kernel
theorem dX7_allAdd_94 : decode cX7_allAdd 94 = .ok (.iinc 2 1, 3) := by decide +kernel
theorem dX7_allAdd_97 : decode cX7_allAdd 97 = .ok (.goto (-93), 3) := by decide +kernel
theorem dX7_allAdd_100 : decode cX7_allAdd 100 = .ok (.iload_n 1, 1) := by decide +kernel
theorem dX7_allAdd_101 : decode cX7_allAdd 101 = .ok (.ireturn, 1) := by decide +kernel
theorem dX7_figure_0 : decode cX7_figure 0 = .ok (.iload_n 1, 1) := by decide +kernel
theorem dX7_figure_1 : decode cX7_figure 1 = .ok (.istore 4, 2) := by decide +kernel
theorem dX7_figure_3 : decode cX7_figure 3 = .ok (.aload_n 0, 1) := by decide +kernel
theorem dX7_figure_4 : decode cX7_figure 4 = .ok (.getfield 293, 3) := by decide +kernel
theorem dX7_figure_7 : decode cX7_figure 7 = .ok (.iconst 1, 1) := by decide +kernel
theorem dX7_figure_8 : decode cX7_figure 8 = .ok (.isub, 1) := by decide +kernel
theorem dX7_figure_9 : decode cX7_figure 9 = .ok (.istore 5, 2) := by decide +kernel
theorem dX7_figure_11 : decode cX7_figure 11 = .ok (.iload 5, 2) := by decide +kernel
theorem dX7_figure_13 : decode cX7_figure 13 = .ok (.iload_n 3, 1) := by decide +kernel
theorem dX7_figure_14 : decode cX7_figure 14 = .ok (.if_icmp .le 15, 3) := by decide +kernel
theorem dX7_figure_17 : decode cX7_figure 17 = .ok (.iload 4, 2) := by decide +kernel
theorem dX7_figure_19 : decode cX7_figure 19 = .ok (.iload_n 2, 1) := by decide +kernel
theorem dX7_figure_20 : decode cX7_figure 20 = .ok (.idiv, 1) := by decide +kernel
theorem dX7_figure_21 : decode cX7_figure 21 = .ok (.istore 4, 2) := by decide +kernel
theorem dX7_figure_23 : decode cX7_figure 23 = .ok (.iinc 5 (-1), 3) := by decide +kernel
theorem dX7_figure_26 : decode cX7_figure 26 = .ok (.goto (-15), 3) := by decide +kernel
theorem dX7_figure_29 : decode cX7_figure 29 = .ok (.iload 4, 2) := by decide +kernel
theorem dX7_figure_31 : decode cX7_figure 31 = .ok (.iload_n 2, 1) := by decide +kernel
theorem dX7_figure_32 : decode cX7_figure 32 = .ok (.irem, 1) := by decide +kernel
theorem dX7_figure_33 : decode cX7_figure 33 = .ok (.iconst 1, 1) := by decide +kernel
theorem dX7_figure_34 : decode cX7_figure 34 = .ok (.iadd, 1) := by decide +kernel
theorem dX7_figure_35 : decode cX7_figure 35 = .ok (.ireturn, 1) := by decide +kernel
theorem dX7_old_0 : decode cX7_old 0 = .ok (.iload_n 2, 1) := by decide +kernel
theorem dX7_old_1 : decode cX7_old 1 = .ok (.iconst (-1), 1) := by decide +kernel
theorem dX7_old_2 : decode cX7_old 2 = .ok (.if_icmp .eq 18, 3) := by decide +kernel
theorem dX7_old_5 : decode cX7_old 5 = .ok (.iload_n 2, 1) := by decide +kernel
theorem dX7_old_6 : decode cX7_old 6 = .ok (.i2l, 1) := by decide +kernel
theorem dX7_old_7 : decode cX7_old 7 = .ok (.lconst 0, 1) := by decide +kernel
theorem dX7_old_8 : decode cX7_old 8 = .ok (.ldc2_w 178, 3) := by decide +kernel
theorem dX7_old_11 : decode cX7_old 11 = .ok (.invokestatic 68, 3) := by decide +kernel
theorem dX7_old_14 : decode cX7_old 14 = .ok (.ifCond .ne 6, 3) := by decide +kernel
theorem dX7_old_17 : decode cX7_old 17 = .ok (.bipush (-2), 2) := by decide +kernel
theorem dX7_old_19 : decode cX7_old 19 = .ok (.ireturn, 1) := by decide +kernel
theorem dX7_old_20 : decode cX7_old 20 = .ok (.iload_n 1, 1) := by decide +kernel
theorem dX7_old_21 : decode cX7_old 21 = .ok (.i2l, 1) := by decide +kernel
theorem dX7_old_22 : decode cX7_old 22 = .ok (.lconst 1, 1) := by decide +kernel
theorem dX7_old_23 : decode cX7_old 23 = .ok (.ldc2_w 249, 3) := by decide +kernel
theorem dX7_old_26 : decode cX7_old 26 = .ok (.invokestatic 68, 3) := by decide +kernel
theorem dX7_old_29 : decode cX7_old 29 = .ok (.ifCond .ne 6, 3) := by decide +kernel
theorem dX7_old_32 : decode cX7_old 32 = .ok (.bipush (-3), 2) := by decide +kernel
theorem dX7_old_34 : decode cX7_old 34 = .ok (.ireturn, 1) := by decide +kernel
theorem dX7_old_35 : decode cX7_old 35 = .ok (.aload_n 0, 1) := by decide +kernel
theorem dX7_old_36 : decode cX7_old 36 = .ok (.invokevirtual 296, 3) := by decide +kernel
theorem dX7_old_39 : decode cX7_old 39 = .ok (.ifCond .ne 6, 3) := by decide +kernel
theorem dX7_old_42 : decode cX7_old 42 = .ok (.bipush (-4), 2) := by decide +kernel
theorem dX7_old_44 : decode cX7_old 44 = .ok (.ireturn, 1) := by decide +kernel
theorem dX7_old_45 : decode cX7_old 45 = .ok (.iconst 1, 1) := by decide +kernel
theorem dX7_old_46 : decode cX7_old 46 = .ok (.istore_n 3, 1) := by decide +kernel
theorem dX7_old_47 : decode cX7_old 47 = .ok (.iconst (-1), 1) := by decide +kernel
theorem dX7_old_48 : decode cX7_old 48 = .ok (.istore 4, 2) := by decide +kernel
theorem dX7_old_50 : decode cX7_old 50 = .ok (.iconst 0, 1) := by decide +kernel
theorem dX7_old_51 : decode cX7_old 51 = .ok (.istore 5, 2) := by decide +kernel
theorem dX7_old_53 : decode cX7_old 53 = .ok (.iload 5, 2) := by decide +kernel
theorem dX7_old_55 : decode cX7_old 55 = .ok (.aload_n 0, 1) := by decide +kernel
theorem dX7_old_56 : decode cX7_old 56 = .ok (.getfield 293, 3) := by decide +kernel
theorem dX7_old_59 : decode cX7_old 59 = .ok (.if_icmp .ge 33, 3) := by decide +kernel
theorem dX7_old_62 : decode cX7_old 62 = .ok (.iload_n 3, 1) := by decide +kernel
theorem dX7_old_63 : decode cX7_old 63 = .ok (.iload_n 1, 1) := by decide +kernel
theorem dX7_old_64 : decode cX7_old 64 = .ok (.imul, 1) := by decide +kernel
theorem dX7_old_65 : decode cX7_old 65 = .ok (.istore_n 3, 1) := by decide +kernel
theorem dX7_old_66 : decode cX7_old 66 = .ok (.aload_n 0, 1) := by decide +kernel
theorem dX7_old_67 : decode cX7_old 67 = .ok (.getfield 57, 3) := by decide +kernel
theorem dX7_old_70 : decode cX7_old 70 = .ok (.iload 5, 2) := by decide +kernel
theorem dX7_old_72 : decode cX7_old 72 = .ok (.iaload, 1) := by decide +kernel
theorem dX7_old_73 : decode cX7_old 73 = .ok (.iload_n 2, 1) := by decide +kernel
theorem dX7_old_74 : decode cX7_old 74 = .ok (.if_icmp .ne 8, 3) := by decide +kernel
theorem dX7_old_77 : decode cX7_old 77 = .ok (.iload 5, 2) := by decide +kernel
theorem dX7_old_79 : decode cX7_old 79 = .ok (.goto 5, 3) := by decide +kernel
theorem dX7_old_82 : decode cX7_old 82 = .ok (.iload 4, 2) := by decide +kernel
theorem dX7_old_84 : decode cX7_old 84 = .ok (.istore 4, 2) := by decide +kernel
theorem dX7_old_86 : decode cX7_old 86 = .ok (.iinc 5 1, 3) := by decide +kernel
theorem dX7_old_89 : decode cX7_old 89 = .ok (.goto (-36), 3) := by decide +kernel
theorem dX7_old_92 : decode cX7_old 92 = .ok (.iconst 0, 1) := by decide +kernel
theorem dX7_old_93 : decode cX7_old 93 = .ok (.istore 5, 2) := by decide +kernel
theorem dX7_old_95 : decode cX7_old 95 = .ok (.iconst (-1), 1) := by decide +kernel
theorem dX7_old_96 : decode cX7_old 96 = .ok (.istore 6, 2) := by decide +kernel
theorem dX7_old_98 : decode cX7_old 98 = .ok (.iconst 0, 1) := by decide +kernel
theorem dX7_old_99 : decode cX7_old 99 = .ok (.istore 7, 2) := by decide +kernel
theorem dX7_old_101 : decode cX7_old 101 = .ok (.iload 7, 2) := by decide +kernel
theorem dX7_old_103 : decode cX7_old 103 = .ok (.iload_n 3, 1) := by decide +kernel
theorem dX7_old_104 : decode cX7_old 104 = .ok (.if_icmp .ge 72, 3) := by decide +kernel
theorem dX7_old_107 : decode cX7_old 107 = .ok (.iconst 0, 1) := by decide +kernel
theorem dX7_old_108 : decode cX7_old 108 = .ok (.istore 8, 2) := by decide +kernel
theorem dX7_old_110 : decode cX7_old 110 = .ok (.iload 8, 2) := by decide +kernel
theorem dX7_old_112 : decode cX7_old 112 = .ok (.aload_n 0, 1) := by decide +kernel
theorem dX7_old_113 : decode cX7_old 113 = .ok (.getfield 293, 3) := by decide +kernel
theorem dX7_old_116 : decode cX7_old 116 = .ok (.if_icmp .ge 30, 3) := by decide +kernel
theorem dX7_old_119 : decode cX7_old 119 = .ok (.aload_n 0, 1) := by decide +kernel
theorem dX7_old_120 : decode cX7_old 120 = .ok (.getfield 60, 3) := by decide +kernel
theorem dX7_old_123 : decode cX7_old 123 = .ok (.aload_n 0, 1) := by decide +kernel
theorem dX7_old_124 : decode cX7_old 124 = .ok (.getfield 57, 3) := by decide +kernel
theorem dX7_old_127 : decode cX7_old 127 = .ok (.iload 8, 2) := by decide +kernel
theorem dX7_old_129 : decode cX7_old 129 = .ok (.iaload, 1) := by decide +kernel
theorem dX7_old_130 : decode cX7_old 130 = .ok (.aload_n 0, 1) := by decide +kernel
theorem dX7_old_131 : decode cX7_old 131 = .ok (.iload 7, 2) := by decide +kernel
theorem dX7_old_133 : decode cX7_old 133 = .ok (.iload_n 1, 1) := by decide +kernel
theorem dX7_old_134 : decode cX7_old 134 = .ok (.iload 8, 2) := by decide +kernel
theorem dX7_old_136 : decode cX7_old 136 = .ok (.invokevirtual 299, 3) := by decide +kernel
theorem dX7_old_139 : decode cX7_old 139 = .ok (.iastore, 1) := by decide +kernel
theorem dX7_old_140 : decode cX7_old 140 = .ok (.iinc 8 1, 3) := by decide +kernel
theorem dX7_old_143 : decode cX7_old 143 = .ok (.goto (-33), 3) := by decide +kernel
theorem dX7_old_146 : decode cX7_old 146 = .ok (.aload_n 0, 1) := by decide +kernel
theorem dX7_old_147 : decode cX7_old 147 = .ok (.invokevirtual 303, 3) := by decide +kernel
theorem dX7_old_150 : decode cX7_old 150 = .ok (.ifCond .eq 20, 3) := by decide +kernel
theorem dX7_old_153 : decode cX7_old 153 = .ok (.iload 5, 2) := by decide +kernel
theorem dX7_old_155 : decode cX7_old 155 = .ok (.ifCond .ne 8, 3) := by decide +kernel
theorem dX7_old_158 : decode cX7_old 158 = .ok (.iload 7, 2) := by decide +kernel
theorem dX7_old_160 : decode cX7_old 160 = .ok (.goto 5, 3) := by decide +kernel
theorem dX7_old_163 : decode cX7_old 163 = .ok (.iload 6, 2) := by decide +kernel
theorem dX7_old_165 : decode cX7_old 165 = .ok (.istore 6, 2) := by decide +kernel
theorem dX7_old_167 : decode cX7_old 167 = .ok (.iinc 5 1, 3) := by decide +kernel
theorem dX7_old_170 : decode cX7_old 170 = .ok (.iinc 7 1, 3) := by decide +kernel
theorem dX7_old_173 : decode cX7_old 173 = .ok (.goto (-72), 3) := by decide +kernel
theorem dX7_old_176 : decode cX7_old 176 = .ok (.iload_n 2, 1) := by decide +kernel
theorem dX7_old_177 : decode cX7_old 177 = .ok (.iconst (-1), 1) := by decide +kernel
theorem dX7_old_178 : decode cX7_old 178 = .ok (.if_icmp .ne 6, 3) := by decide +kernel
theorem dX7_old_181 : decode cX7_old 181 = .ok (.iload 5, 2) := by decide +kernel
theorem dX7_old_183 : decode cX7_old 183 = .ok (.ireturn, 1) := by decide +kernel
theorem dX7_old_184 : decode cX7_old 184 = .ok (.iload 6, 2) := by decide +kernel
theorem dX7_old_186 : decode cX7_old 186 = .ok (.iconst (-1), 1) := by decide +kernel
theorem dX7_old_187 : decode cX7_old 187 = .ok (.if_icmp .ne 7, 3) := by decide +kernel
theorem dX7_old_190 : decode cX7_old 190 = .ok (.iconst (-1), 1) := by decide +kernel
theorem dX7_old_191 : decode cX7_old 191 = .ok (.goto 22, 3) := by decide +kernel
theorem dX7_old_194 : decode cX7_old 194 = .ok (.iload 4, 2) := by decide +kernel
theorem dX7_old_196 : decode cX7_old 196 = .ok (.iconst (-1), 1) := by decide +kernel
theorem dX7_old_197 : decode cX7_old 197 = .ok (.if_icmp .ne 7, 3) := by decide +kernel
theorem dX7_old_200 : decode cX7_old 200 = .ok (.iconst 0, 1) := by decide +kernel
theorem dX7_old_201 : decode cX7_old 201 = .ok (.goto 12, 3) := by decide +kernel
theorem dX7_old_204 : decode cX7_old 204 = .ok (.aload_n 0, 1) := by decide +kernel
theorem dX7_old_205 : decode cX7_old 205 = .ok (.iload 6, 2) := by decide +kernel
theorem dX7_old_207 : decode cX7_old 207 = .ok (.iload_n 1, 1) := by decide +kernel
theorem dX7_old_208 : decode cX7_old 208 = .ok (.iload 4, 2) := by decide +kernel
theorem dX7_old_210 : decode cX7_old 210 = .ok (.invokevirtual 299, 3) := by decide +kernel
theorem dX7_old_213 : decode cX7_old 213 = .ok (.ireturn, 1) := by decide +kernel
theorem dX7_timesIn_0 : decode cX7_timesIn 0 = .ok (.iconst 0, 1) := by decide +kernel
theorem dX7_timesIn_1 : decode cX7_timesIn 1 = .ok (.istore_n 3, 1) := by decide +kernel
theorem dX7_timesIn_2 : decode cX7_timesIn 2 = .ok (.lload_n 0, 1) := by decide +kernel
theorem dX7_timesIn_3 : decode cX7_timesIn 3 = .ok (.lstore 4, 2) := by decide +kernel
theorem dX7_timesIn_5 : decode cX7_timesIn 5 = .ok (.lload 4, 2) := by decide +kernel
theorem dX7_timesIn_7 : decode cX7_timesIn 7 = .ok (.lconst 0, 1) := by decide +kernel
theorem dX7_timesIn_8 : decode cX7_timesIn 8 = .ok (.lcmp, 1) := by decide +kernel
theorem dX7_timesIn_9 : decode cX7_timesIn 9 = .ok (.ifCond .le 35, 3) := by decide +kernel
theorem dX7_timesIn_12 : decode cX7_timesIn 12 = .ok (.iload_n 3, 1) := by decide +kernel
theorem dX7_timesIn_13 : decode cX7_timesIn 13 = .ok (.lload 4, 2) := by decide +kernel
theorem dX7_timesIn_15 : decode cX7_timesIn 15 = .ok (.ldc2_w 121, 3) := by decide +kernel
theorem dX7_timesIn_18 : decode cX7_timesIn 18 = .ok (.lrem, 1) := by decide +kernel
theorem dX7_timesIn_19 : decode cX7_timesIn 19 = .ok (.l2i, 1) := by decide +kernel
theorem dX7_timesIn_20 : decode cX7_timesIn 20 = .ok (.iconst 1, 1) := by decide +kernel
theorem dX7_timesIn_21 : decode cX7_timesIn 21 = .ok (.isub, 1) := by decide +kernel
theorem dX7_timesIn_22 : decode cX7_timesIn 22 = .ok (.iload_n 2, 1) := by decide +kernel
theorem dX7_timesIn_23 : decode cX7_timesIn 23 = .ok (.if_icmp .ne 7, 3) := by decide +kernel
theorem dX7_timesIn_26 : decode cX7_timesIn 26 = .ok (.iconst 1, 1) := by decide +kernel
theorem dX7_timesIn_27 : decode cX7_timesIn 27 = .ok (.goto 4, 3) := by decide +kernel
theorem dX7_timesIn_30 : decode cX7_timesIn 30 = .ok (.iconst 0, 1) := by decide +kernel
theorem dX7_timesIn_31 : decode cX7_timesIn 31 = .ok (.iadd, 1) := by decide +kernel
theorem dX7_timesIn_32 : decode cX7_timesIn 32 = .ok (.istore_n 3, 1) := by decide +kernel
theorem dX7_timesIn_33 : decode cX7_timesIn 33 = .ok (.lload 4, 2) := by decide +kernel
theorem dX7_timesIn_35 : decode cX7_timesIn 35 = .ok (.ldc2_w 121, 3) := by decide +kernel
theorem dX7_timesIn_38 : decode cX7_timesIn 38 = .ok (.ldiv, 1) := by decide +kernel
theorem dX7_timesIn_39 : decode cX7_timesIn 39 = .ok (.lstore 4, 2) := by decide +kernel
theorem dX7_timesIn_41 : decode cX7_timesIn 41 = .ok (.goto (-36), 3) := by decide +kernel
theorem dX7_timesIn_44 : decode cX7_timesIn 44 = .ok (.iload_n 3, 1) := by decide +kernel
theorem dX7_timesIn_45 : decode cX7_timesIn 45 = .ok (.ireturn, 1) := by decide +kernel
theorem dX7_anew_0 : decode cX7_anew 0 = .ok (.iconst 0, 1) := by decide +kernel
theorem dX7_anew_1 : decode cX7_anew 1 = .ok (.istore 4, 2) := by decide +kernel
theorem dX7_anew_3 : decode cX7_anew 3 = .ok (.iconst 0, 1) := by decide +kernel
theorem dX7_anew_4 : decode cX7_anew 4 = .ok (.istore 5, 2) := by decide +kernel
theorem dX7_anew_6 : decode cX7_anew 6 = .ok (.iload 5, 2) := by decide +kernel
theorem dX7_anew_8 : decode cX7_anew 8 = .ok (.aload_n 0, 1) := by decide +kernel
theorem dX7_anew_9 : decode cX7_anew 9 = .ok (.getfield 7, 3) := by decide +kernel
theorem dX7_anew_12 : decode cX7_anew 12 = .ok (.bipush 38, 2) := by decide +kernel
theorem dX7_anew_14 : decode cX7_anew 14 = .ok (.iaload, 1) := by decide +kernel
theorem dX7_anew_15 : decode cX7_anew 15 = .ok (.if_icmp .ge 89, 3) := by decide +kernel
theorem dX7_anew_18 : decode cX7_anew 18 = .ok (.iload 5, 2) := by decide +kernel
theorem dX7_anew_20 : decode cX7_anew 20 = .ok (.iload_n 1, 1) := by decide +kernel
theorem dX7_anew_21 : decode cX7_anew 21 = .ok (.if_icmp .eq 43, 3) := by decide +kernel
theorem dX7_anew_24 : decode cX7_anew 24 = .ok (.aload_n 0, 1) := by decide +kernel
theorem dX7_anew_25 : decode cX7_anew 25 = .ok (.getfield 13, 3) := by decide +kernel
theorem dX7_anew_28 : decode cX7_anew 28 = .ok (.iload 5, 2) := by decide +kernel
theorem dX7_anew_30 : decode cX7_anew 30 = .ok (.laload, 1) := by decide +kernel
theorem dX7_anew_31 : decode cX7_anew 31 = .ok (.lconst 0, 1) := by decide +kernel
theorem dX7_anew_32 : decode cX7_anew 32 = .ok (.lcmp, 1) := by decide +kernel
theorem dX7_anew_33 : decode cX7_anew 33 = .ok (.ifCond .le 31, 3) := by decide +kernel
theorem dX7_anew_36 : decode cX7_anew 36 = .ok (.aload_n 0, 1) := by decide +kernel
theorem dX7_anew_37 : decode cX7_anew 37 = .ok (.aload_n 0, 1) := by decide +kernel
theorem dX7_anew_38 : decode cX7_anew 38 = .ok (.getfield 13, 3) := by decide +kernel
theorem dX7_anew_41 : decode cX7_anew 41 = .ok (.iload 5, 2) := by decide +kernel
theorem dX7_anew_43 : decode cX7_anew 43 = .ok (.laload, 1) := by decide +kernel
theorem dX7_anew_44 : decode cX7_anew 44 = .ok (.invokevirtual 229, 3) := by decide +kernel
theorem dX7_anew_47 : decode cX7_anew 47 = .ok (.aload_n 0, 1) := by decide +kernel
theorem dX7_anew_48 : decode cX7_anew 48 = .ok (.getfield 7, 3) := by decide +kernel
theorem dX7_anew_51 : decode cX7_anew 51 = .ok (.bipush 39, 2) := by decide +kernel
theorem dX7_anew_53 : decode cX7_anew 53 = .ok (.iload 5, 2) := by decide +kernel
theorem dX7_anew_55 : decode cX7_anew 55 = .ok (.iadd, 1) := by decide +kernel
theorem dX7_anew_56 : decode cX7_anew 56 = .ok (.iaload, 1) := by decide +kernel
theorem dX7_anew_57 : decode cX7_anew 57 = .ok (.if_icmp .ne 7, 3) := by decide +kernel
theorem dX7_anew_60 : decode cX7_anew 60 = .ok (.iconst 1, 1) := by decide +kernel
theorem dX7_anew_61 : decode cX7_anew 61 = .ok (.goto 4, 3) := by decide +kernel
theorem dX7_anew_64 : decode cX7_anew 64 = .ok (.iconst 0, 1) := by decide +kernel
theorem dX7_anew_65 : decode cX7_anew 65 = .ok (.istore 6, 2) := by decide +kernel
theorem dX7_anew_67 : decode cX7_anew 67 = .ok (.iload 4, 2) := by decide +kernel
theorem dX7_anew_69 : decode cX7_anew 69 = .ok (.iload 6, 2) := by decide +kernel
theorem dX7_anew_71 : decode cX7_anew 71 = .ok (.ifCond .eq 23, 3) := by decide +kernel
theorem dX7_anew_74 : decode cX7_anew 74 = .ok (.aload_n 0, 1) := by decide +kernel
theorem dX7_anew_75 : decode cX7_anew 75 = .ok (.getfield 13, 3) := by decide +kernel
theorem dX7_anew_78 : decode cX7_anew 78 = .ok (.iload 5, 2) := by decide +kernel
theorem dX7_anew_80 : decode cX7_anew 80 = .ok (.laload, 1) := by decide +kernel
theorem dX7_anew_81 : decode cX7_anew 81 = .ok (.iload_n 2, 1) := by decide +kernel
theorem dX7_anew_82 : decode cX7_anew 82 = .ok (.invokestatic 306, 3) := by decide +kernel
theorem dX7_anew_85 : decode cX7_anew 85 = .ok (.iload_n 3, 1) := by decide +kernel
theorem dX7_anew_86 : decode cX7_anew 86 = .ok (.imul, 1) := by decide +kernel
theorem dX7_anew_87 : decode cX7_anew 87 = .ok (.ifCond .eq 7, 3) := by decide +kernel
theorem dX7_anew_90 : decode cX7_anew 90 = .ok (.iconst 1, 1) := by decide +kernel
theorem dX7_anew_91 : decode cX7_anew 91 = .ok (.goto 4, 3) := by decide +kernel
theorem dX7_anew_94 : decode cX7_anew 94 = .ok (.iconst 0, 1) := by decide +kernel
theorem dX7_anew_95 : decode cX7_anew 95 = .ok (.iadd, 1) := by decide +kernel
theorem dX7_anew_96 : decode cX7_anew 96 = .ok (.istore 4, 2) := by decide +kernel
theorem dX7_anew_98 : decode cX7_anew 98 = .ok (.iinc 5 1, 3) := by decide +kernel
theorem dX7_anew_101 : decode cX7_anew 101 = .ok (.goto (-95), 3) := by decide +kernel
theorem dX7_anew_104 : decode cX7_anew 104 = .ok (.iload 4, 2) := by decide +kernel
theorem dX7_anew_106 : decode cX7_anew 106 = .ok (.ireturn, 1) := by decide +kernel
theorem dX7_reform_0 : decode cX7_reform 0 = .ok (.aload_n 0, 1) := by decide +kernel
theorem dX7_reform_1 : decode cX7_reform 1 = .ok (.iload_n 1, 1) := by decide +kernel
theorem dX7_reform_2 : decode cX7_reform 2 = .ok (.invokevirtual 191, 3) := by decide +kernel
theorem dX7_reform_5 : decode cX7_reform 5 = .ok (.ifCond .ne 6, 3) := by decide +kernel
theorem dX7_reform_8 : decode cX7_reform 8 = .ok (.bipush (-2), 2) := by decide +kernel
theorem dX7_reform_10 : decode cX7_reform 10 = .ok (.ireturn, 1) := by decide +kernel
theorem dX7_reform_11 : decode cX7_reform 11 = .ok (.iload_n 2, 1) := by decide +kernel
theorem dX7_reform_12 : decode cX7_reform 12 = .ok (.i2l, 1) := by decide +kernel
theorem dX7_reform_13 : decode cX7_reform 13 = .ok (.lconst 0, 1) := by decide +kernel
theorem dX7_reform_14 : decode cX7_reform 14 = .ok (.ldc2_w 310, 3) := by decide +kernel
theorem dX7_reform_17 : decode cX7_reform 17 = .ok (.invokestatic 68, 3) := by decide +kernel
theorem dX7_reform_20 : decode cX7_reform 20 = .ok (.ifCond .ne 6, 3) := by decide +kernel
theorem dX7_reform_23 : decode cX7_reform 23 = .ok (.bipush (-3), 2) := by decide +kernel
theorem dX7_reform_25 : decode cX7_reform 25 = .ok (.ireturn, 1) := by decide +kernel
theorem dX7_reform_26 : decode cX7_reform 26 = .ok (.aload_n 0, 1) := by decide +kernel
theorem dX7_reform_27 : decode cX7_reform 27 = .ok (.getfield 13, 3) := by decide +kernel
theorem dX7_reform_30 : decode cX7_reform 30 = .ok (.iload_n 1, 1) := by decide +kernel
theorem dX7_reform_31 : decode cX7_reform 31 = .ok (.laload, 1) := by decide +kernel
theorem dX7_reform_32 : decode cX7_reform 32 = .ok (.lconst 0, 1) := by decide +kernel
theorem dX7_reform_33 : decode cX7_reform 33 = .ok (.lcmp, 1) := by decide +kernel
theorem dX7_reform_34 : decode cX7_reform 34 = .ok (.ifCond .ne 6, 3) := by decide +kernel
theorem dX7_reform_37 : decode cX7_reform 37 = .ok (.bipush (-4), 2) := by decide +kernel
theorem dX7_reform_39 : decode cX7_reform 39 = .ok (.ireturn, 1) := by decide +kernel
theorem dX7_reform_40 : decode cX7_reform 40 = .ok (.aload_n 0, 1) := by decide +kernel
theorem dX7_reform_41 : decode cX7_reform 41 = .ok (.getfield 7, 3) := by decide +kernel
theorem dX7_reform_44 : decode cX7_reform 44 = .ok (.bipush 39, 2) := by decide +kernel
theorem dX7_reform_46 : decode cX7_reform 46 = .ok (.iload_n 1, 1) := by decide +kernel
theorem dX7_reform_47 : decode cX7_reform 47 = .ok (.iadd, 1) := by decide +kernel
theorem dX7_reform_48 : decode cX7_reform 48 = .ok (.iaload, 1) := by decide +kernel
theorem dX7_reform_49 : decode cX7_reform 49 = .ok (.aload_n 0, 1) := by decide +kernel
theorem dX7_reform_50 : decode cX7_reform 50 = .ok (.aload_n 0, 1) := by decide +kernel
theorem dX7_reform_51 : decode cX7_reform 51 = .ok (.getfield 13, 3) := by decide +kernel
theorem dX7_reform_54 : decode cX7_reform 54 = .ok (.iload_n 1, 1) := by decide +kernel
theorem dX7_reform_55 : decode cX7_reform 55 = .ok (.laload, 1) := by decide +kernel
theorem dX7_reform_56 : decode cX7_reform 56 = .ok (.invokevirtual 229, 3) := by decide +kernel
theorem dX7_reform_59 : decode cX7_reform 59 = .ok (.isub, 1) := by decide +kernel
theorem dX7_reform_60 : decode cX7_reform 60 = .ok (.istore_n 3, 1) := by decide +kernel
theorem dX7_reform_61 : decode cX7_reform 61 = .ok (.iconst (-1), 1) := by decide +kernel
theorem dX7_reform_62 : decode cX7_reform 62 = .ok (.istore 4, 2) := by decide +kernel
theorem dX7_reform_64 : decode cX7_reform 64 = .ok (.bipush 99, 2) := by decide +kernel
theorem dX7_reform_66 : decode cX7_reform 66 = .ok (.istore 5, 2) := by decide +kernel
theorem dX7_reform_68 : decode cX7_reform 68 = .ok (.iconst 0, 1) := by decide +kernel
theorem dX7_reform_69 : decode cX7_reform 69 = .ok (.istore 6, 2) := by decide +kernel
theorem dX7_reform_71 : decode cX7_reform 71 = .ok (.iload 6, 2) := by decide +kernel
theorem dX7_reform_73 : decode cX7_reform 73 = .ok (.sipush 2574, 3) := by decide +kernel
theorem dX7_reform_76 : decode cX7_reform 76 = .ok (.if_icmp .ge 99, 3) := by decide +kernel
theorem dX7_reform_79 : decode cX7_reform 79 = .ok (.iload 6, 2) := by decide +kernel
theorem dX7_reform_81 : decode cX7_reform 81 = .ok (.bipush 99, 2) := by decide +kernel
theorem dX7_reform_83 : decode cX7_reform 83 = .ok (.idiv, 1) := by decide +kernel
theorem dX7_reform_84 : decode cX7_reform 84 = .ok (.istore 7, 2) := by decide +kernel
theorem dX7_reform_86 : decode cX7_reform 86 = .ok (.iload 6, 2) := by decide +kernel
theorem dX7_reform_88 : decode cX7_reform 88 = .ok (.bipush 99, 2) := by decide +kernel
theorem dX7_reform_90 : decode cX7_reform 90 = .ok (.irem, 1) := by decide +kernel
theorem dX7_reform_91 : decode cX7_reform 91 = .ok (.iconst 1, 1) := by decide +kernel
theorem dX7_reform_92 : decode cX7_reform 92 = .ok (.iadd, 1) := by decide +kernel
theorem dX7_reform_93 : decode cX7_reform 93 = .ok (.aload_n 0, 1) := by decide +kernel
theorem dX7_reform_94 : decode cX7_reform 94 = .ok (.getfield 7, 3) := by decide +kernel
theorem dX7_reform_97 : decode cX7_reform 97 = .ok (.iload 7, 2) := by decide +kernel
theorem dX7_reform_99 : decode cX7_reform 99 = .ok (.iaload, 1) := by decide +kernel
theorem dX7_reform_100 : decode cX7_reform 100 = .ok (.isub, 1) := by decide +kernel
theorem dX7_reform_101 : decode cX7_reform 101 = .ok (.istore 8, 2) := by decide +kernel
theorem dX7_reform_103 : decode cX7_reform 103 = .ok (.iload 8, 2) := by decide +kernel
theorem dX7_reform_105 : decode cX7_reform 105 = .ok (.ifCond .eq 64, 3) := by decide +kernel
theorem dX7_reform_108 : decode cX7_reform 108 = .ok (.aload_n 0, 1) := by decide +kernel
theorem dX7_reform_109 : decode cX7_reform 109 = .ok (.getfield 13, 3) := by decide +kernel
theorem dX7_reform_112 : decode cX7_reform 112 = .ok (.iload_n 1, 1) := by decide +kernel
theorem dX7_reform_113 : decode cX7_reform 113 = .ok (.laload, 1) := by decide +kernel
theorem dX7_reform_114 : decode cX7_reform 114 = .ok (.iload 7, 2) := by decide +kernel
theorem dX7_reform_116 : decode cX7_reform 116 = .ok (.invokestatic 306, 3) := by decide +kernel
theorem dX7_reform_119 : decode cX7_reform 119 = .ok (.iload 8, 2) := by decide +kernel
theorem dX7_reform_121 : decode cX7_reform 121 = .ok (.imul, 1) := by decide +kernel
theorem dX7_reform_122 : decode cX7_reform 122 = .ok (.iload_n 3, 1) := by decide +kernel
theorem dX7_reform_123 : decode cX7_reform 123 = .ok (.if_icmp .ne 46, 3) := by decide +kernel
theorem dX7_reform_126 : decode cX7_reform 126 = .ok (.aload_n 0, 1) := by decide +kernel
theorem dX7_reform_127 : decode cX7_reform 127 = .ok (.iload_n 1, 1) := by decide +kernel
theorem dX7_reform_128 : decode cX7_reform 128 = .ok (.iload 7, 2) := by decide +kernel
theorem dX7_reform_130 : decode cX7_reform 130 = .ok (.iload 8, 2) := by decide +kernel
theorem dX7_reform_132 : decode cX7_reform 132 = .ok (.invokevirtual 312, 3) := by decide +kernel
theorem dX7_reform_135 : decode cX7_reform 135 = .ok (.istore 9, 2) := by decide +kernel
theorem dX7_reform_137 : decode cX7_reform 137 = .ok (.iload 9, 2) := by decide +kernel
theorem dX7_reform_139 : decode cX7_reform 139 = .ok (.iload 5, 2) := by decide +kernel
theorem dX7_reform_141 : decode cX7_reform 141 = .ok (.if_icmp .ge 8, 3) := by decide +kernel
theorem dX7_reform_144 : decode cX7_reform 144 = .ok (.iload 6, 2) := by decide +kernel
theorem dX7_reform_146 : decode cX7_reform 146 = .ok (.goto 5, 3) := by decide +kernel
theorem dX7_reform_149 : decode cX7_reform 149 = .ok (.iload 4, 2) := by decide +kernel
theorem dX7_reform_151 : decode cX7_reform 151 = .ok (.istore 4, 2) := by decide +kernel
theorem dX7_reform_153 : decode cX7_reform 153 = .ok (.iload 9, 2) := by decide +kernel
theorem dX7_reform_155 : decode cX7_reform 155 = .ok (.iload 5, 2) := by decide +kernel
theorem dX7_reform_157 : decode cX7_reform 157 = .ok (.if_icmp .ge 8, 3) := by decide +kernel
theorem dX7_reform_160 : decode cX7_reform 160 = .ok (.iload 9, 2) := by decide +kernel
theorem dX7_reform_162 : decode cX7_reform 162 = .ok (.goto 5, 3) := by decide +kernel
theorem dX7_reform_165 : decode cX7_reform 165 = .ok (.iload 5, 2) := by decide +kernel
theorem dX7_reform_167 : decode cX7_reform 167 = .ok (.istore 5, 2) := by decide +kernel
theorem dX7_reform_169 : decode cX7_reform 169 = .ok (.iinc 6 1, 3) := by decide +kernel
theorem dX7_reform_172 : decode cX7_reform 172 = .ok (.goto (-101), 3) := by decide +kernel
theorem dX7_reform_175 : decode cX7_reform 175 = .ok (.iload 4, 2) := by decide +kernel
theorem dX7_reform_177 : decode cX7_reform 177 = .ok (.iconst (-1), 1) := by decide +kernel
theorem dX7_reform_178 : decode cX7_reform 178 = .ok (.if_icmp .ne 7, 3) := by decide +kernel
theorem dX7_reform_181 : decode cX7_reform 181 = .ok (.iconst (-1), 1) := by decide +kernel
theorem dX7_reform_182 : decode cX7_reform 182 = .ok (.goto 32, 3) := by decide +kernel
theorem dX7_reform_185 : decode cX7_reform 185 = .ok (.iload_n 2, 1) := by decide +kernel
theorem dX7_reform_186 : decode cX7_reform 186 = .ok (.ifCond .ne 11, 3) := by decide +kernel
theorem dX7_reform_189 : decode cX7_reform 189 = .ok (.iload 4, 2) := by decide +kernel
theorem dX7_reform_191 : decode cX7_reform 191 = .ok (.bipush 99, 2) := by decide +kernel
theorem dX7_reform_193 : decode cX7_reform 193 = .ok (.idiv, 1) := by decide +kernel
theorem dX7_reform_194 : decode cX7_reform 194 = .ok (.goto 20, 3) := by decide +kernel
theorem dX7_reform_197 : decode cX7_reform 197 = .ok (.iload_n 2, 1) := by decide +kernel
theorem dX7_reform_198 : decode cX7_reform 198 = .ok (.iconst 1, 1) := by decide +kernel
theorem dX7_reform_199 : decode cX7_reform 199 = .ok (.if_icmp .ne 13, 3) := by decide +kernel
theorem dX7_reform_202 : decode cX7_reform 202 = .ok (.iload 4, 2) := by decide +kernel
theorem dX7_reform_204 : decode cX7_reform 204 = .ok (.bipush 99, 2) := by decide +kernel
theorem dX7_reform_206 : decode cX7_reform 206 = .ok (.irem, 1) := by decide +kernel
theorem dX7_reform_207 : decode cX7_reform 207 = .ok (.iconst 1, 1) := by decide +kernel
theorem dX7_reform_208 : decode cX7_reform 208 = .ok (.iadd, 1) := by decide +kernel
theorem dX7_reform_209 : decode cX7_reform 209 = .ok (.goto 5, 3) := by decide +kernel
theorem dX7_reform_212 : decode cX7_reform 212 = .ok (.iload 5, 2) := by decide +kernel
theorem dX7_reform_214 : decode cX7_reform 214 = .ok (.ireturn, 1) := by decide +kernel
theorem dX7_nicknames_0 : decode cX7_nicknames 0 = .ok (.aload_n 0, 1) := by decide +kernel
theorem dX7_nicknames_1 : decode cX7_nicknames 1 = .ok (.iload_n 1, 1) := by decide +kernel
theorem dX7_nicknames_2 : decode cX7_nicknames 2 = .ok (.invokevirtual 191, 3) := by decide +kernel
theorem dX7_nicknames_5 : decode cX7_nicknames 5 = .ok (.ifCond .ne 7, 3) := by decide +kernel
theorem dX7_nicknames_8 : decode cX7_nicknames 8 = .ok (.ldc2_w 200, 3) := by decide +kernel
theorem dX7_nicknames_11 : decode cX7_nicknames 11 = .ok (.lreturn, 1) := by decide +kernel
theorem dX7_nicknames_12 : decode cX7_nicknames 12 = .ok (.iload_n 2, 1) := by decide +kernel
theorem dX7_nicknames_13 : decode cX7_nicknames 13 = .ok (.i2l, 1) := by decide +kernel
theorem dX7_nicknames_14 : decode cX7_nicknames 14 = .ok (.lconst 0, 1) := by decide +kernel
theorem dX7_nicknames_15 : decode cX7_nicknames 15 = .ok (.lconst 1, 1) := by decide +kernel
theorem dX7_nicknames_16 : decode cX7_nicknames 16 = .ok (.invokestatic 68, 3) := by decide +kernel
theorem dX7_nicknames_19 : decode cX7_nicknames 19 = .ok (.ifCond .ne 7, 3) := by decide +kernel
theorem dX7_nicknames_22 : decode cX7_nicknames 22 = .ok (.ldc2_w 254, 3) := by decide +kernel
theorem dX7_nicknames_25 : decode cX7_nicknames 25 = .ok (.lreturn, 1) := by decide +kernel
theorem dX7_nicknames_26 : decode cX7_nicknames 26 = .ok (.aload_n 0, 1) := by decide +kernel
theorem dX7_nicknames_27 : decode cX7_nicknames 27 = .ok (.getfield 13, 3) := by decide +kernel
theorem dX7_nicknames_30 : decode cX7_nicknames 30 = .ok (.iload_n 1, 1) := by decide +kernel
theorem dX7_nicknames_31 : decode cX7_nicknames 31 = .ok (.laload, 1) := by decide +kernel
theorem dX7_nicknames_32 : decode cX7_nicknames 32 = .ok (.lconst 0, 1) := by decide +kernel
theorem dX7_nicknames_33 : decode cX7_nicknames 33 = .ok (.lcmp, 1) := by decide +kernel
theorem dX7_nicknames_34 : decode cX7_nicknames 34 = .ok (.ifCond .ne 7, 3) := by decide +kernel
theorem dX7_nicknames_37 : decode cX7_nicknames 37 = .ok (.ldc2_w 286, 3) := by decide +kernel
theorem dX7_nicknames_40 : decode cX7_nicknames 40 = .ok (.lreturn, 1) := by decide +kernel
theorem dX7_nicknames_41 : decode cX7_nicknames 41 = .ok (.aload_n 0, 1) := by decide +kernel
theorem dX7_nicknames_42 : decode cX7_nicknames 42 = .ok (.getfield 13, 3) := by decide +kernel
theorem dX7_nicknames_45 : decode cX7_nicknames 45 = .ok (.iload_n 1, 1) := by decide +kernel
theorem dX7_nicknames_46 : decode cX7_nicknames 46 = .ok (.laload, 1) := by decide +kernel
theorem dX7_nicknames_47 : decode cX7_nicknames 47 = .ok (.invokestatic 207, 3) := by decide +kernel
theorem dX7_nicknames_50 : decode cX7_nicknames 50 = .ok (.istore_n 3, 1) := by decide +kernel
theorem dX7_nicknames_51 : decode cX7_nicknames 51 = .ok (.iconst 0, 1) := by decide +kernel
theorem dX7_nicknames_52 : decode cX7_nicknames 52 = .ok (.istore 4, 2) := by decide +kernel
theorem dX7_nicknames_54 : decode cX7_nicknames 54 = .ok (.ldc2_w 119, 3) := by decide +kernel
theorem dX7_nicknames_57 : decode cX7_nicknames 57 = .ok (.lstore 5, 2) := by decide +kernel
theorem dX7_nicknames_59 : decode cX7_nicknames 59 = .ok (.iconst 1, 1) := by decide +kernel
theorem dX7_nicknames_60 : decode cX7_nicknames 60 = .ok (.istore 7, 2) := by decide +kernel
theorem dX7_nicknames_62 : decode cX7_nicknames 62 = .ok (.iload 7, 2) := by decide +kernel
theorem dX7_nicknames_64 : decode cX7_nicknames 64 = .ok (.iconst 1, 1) := by decide +kernel
theorem dX7_nicknames_65 : decode cX7_nicknames 65 = .ok (.iload_n 3, 1) := by decide +kernel
theorem dX7_nicknames_66 : decode cX7_nicknames 66 = .ok (.ishl, 1) := by decide +kernel
theorem dX7_nicknames_67 : decode cX7_nicknames 67 = .ok (.iconst 1, 1) := by decide +kernel
theorem dX7_nicknames_68 : decode cX7_nicknames 68 = .ok (.isub, 1) := by decide +kernel
theorem dX7_nicknames_69 : decode cX7_nicknames 69 = .ok (.if_icmp .ge 193, 3) := by decide +kernel
theorem dX7_nicknames_72 : decode cX7_nicknames 72 = .ok (.lconst 0, 1) := by decide +kernel
theorem dX7_nicknames_73 : decode cX7_nicknames 73 = .ok (.lstore 8, 2) := by decide +kernel
theorem dX7_nicknames_75 : decode cX7_nicknames 75 = .ok (.aload_n 0, 1) := by decide +kernel
theorem dX7_nicknames_76 : decode cX7_nicknames 76 = .ok (.getfield 13, 3) := by decide +kernel
theorem dX7_nicknames_79 : decode cX7_nicknames 79 = .ok (.iload_n 1, 1) := by decide +kernel
theorem dX7_nicknames_80 : decode cX7_nicknames 80 = .ok (.laload, 1) := by decide +kernel
theorem dX7_nicknames_81 : decode cX7_nicknames 81 = .ok (.lstore 10, 2) := by decide +kernel
theorem dX7_nicknames_83 : decode cX7_nicknames 83 = .ok (.lconst 1, 1) := by decide +kernel
theorem dX7_nicknames_84 : decode cX7_nicknames 84 = .ok (.lstore 12, 2) := by decide +kernel
theorem dX7_nicknames_86 : decode cX7_nicknames 86 = .ok (.iconst 0, 1) := by decide +kernel
theorem dX7_nicknames_87 : decode cX7_nicknames 87 = .ok (.istore 14, 2) := by decide +kernel
theorem dX7_nicknames_89 : decode cX7_nicknames 89 = .ok (.iload 14, 2) := by decide +kernel
theorem dX7_nicknames_91 : decode cX7_nicknames 91 = .ok (.iload_n 3, 1) := by decide +kernel
theorem dX7_nicknames_92 : decode cX7_nicknames 92 = .ok (.if_icmp .ge 49, 3) := by decide +kernel
theorem dX7_nicknames_95 : decode cX7_nicknames 95 = .ok (.iload 7, 2) := by decide +kernel
theorem dX7_nicknames_97 : decode cX7_nicknames 97 = .ok (.iload 14, 2) := by decide +kernel
theorem dX7_nicknames_99 : decode cX7_nicknames 99 = .ok (.invokestatic 235, 3) := by decide +kernel
theorem dX7_nicknames_102 : decode cX7_nicknames 102 = .ok (.ifCond .eq 25, 3) := by decide +kernel
theorem dX7_nicknames_105 : decode cX7_nicknames 105 = .ok (.lload 8, 2) := by decide +kernel
theorem dX7_nicknames_107 : decode cX7_nicknames 107 = .ok (.lload 10, 2) := by decide +kernel
theorem dX7_nicknames_109 : decode cX7_nicknames 109 = .ok (.ldc2_w 121, 3) := by decide +kernel
theorem dX7_nicknames_112 : decode cX7_nicknames 112 = .ok (.lrem, 1) := by decide +kernel
theorem dX7_nicknames_113 : decode cX7_nicknames 113 = .ok (.lload 12, 2) := by decide +kernel
theorem dX7_nicknames_115 : decode cX7_nicknames 115 = .ok (.lmul, 1) := by decide +kernel
theorem dX7_nicknames_116 : decode cX7_nicknames 116 = .ok (.ladd, 1) := by decide +kernel
theorem dX7_nicknames_117 : decode cX7_nicknames 117 = .ok (.lstore 8, 2) := by decide +kernel
theorem dX7_nicknames_119 : decode cX7_nicknames 119 = .ok (.lload 12, 2) := by decide +kernel
theorem dX7_nicknames_121 : decode cX7_nicknames 121 = .ok (.ldc2_w 121, 3) := by decide +kernel
theorem dX7_nicknames_124 : decode cX7_nicknames 124 = .ok (.lmul, 1) := by decide +kernel
theorem dX7_nicknames_125 : decode cX7_nicknames 125 = .ok (.lstore 12, 2) := by decide +kernel
theorem dX7_nicknames_127 : decode cX7_nicknames 127 = .ok (.lload 10, 2) := by decide +kernel
theorem dX7_nicknames_129 : decode cX7_nicknames 129 = .ok (.ldc2_w 121, 3) := by decide +kernel
theorem dX7_nicknames_132 : decode cX7_nicknames 132 = .ok (.ldiv, 1) := by decide +kernel
theorem dX7_nicknames_133 : decode cX7_nicknames 133 = .ok (.lstore 10, 2) := by decide +kernel
theorem dX7_nicknames_135 : decode cX7_nicknames 135 = .ok (.iinc 14 1, 3) := by decide +kernel
theorem dX7_nicknames_138 : decode cX7_nicknames 138 = .ok (.goto (-49), 3) := by decide +kernel
theorem dX7_nicknames_141 : decode cX7_nicknames 141 = .ok (.iconst 1, 1) := by decide +kernel
theorem dX7_nicknames_142 : decode cX7_nicknames 142 = .ok (.istore 14, 2) := by decide +kernel
theorem dX7_nicknames_144 : decode cX7_nicknames 144 = .ok (.iconst 0, 1) := by decide +kernel
theorem dX7_nicknames_145 : decode cX7_nicknames 145 = .ok (.istore 15, 2) := by decide +kernel
theorem dX7_nicknames_147 : decode cX7_nicknames 147 = .ok (.iload 15, 2) := by decide +kernel
theorem dX7_nicknames_149 : decode cX7_nicknames 149 = .ok (.iload 4, 2) := by decide +kernel
theorem dX7_nicknames_151 : decode cX7_nicknames 151 = .ok (.if_icmp .ge 34, 3) := by decide +kernel
theorem dX7_nicknames_154 : decode cX7_nicknames 154 = .ok (.iload 14, 2) := by decide +kernel
theorem dX7_nicknames_156 : decode cX7_nicknames 156 = .ok (.ifCond .eq 29, 3) := by decide +kernel
theorem dX7_nicknames_159 : decode cX7_nicknames 159 = .ok (.aload_n 0, 1) := by decide +kernel
theorem dX7_nicknames_160 : decode cX7_nicknames 160 = .ok (.getfield 63, 3) := by decide +kernel
theorem dX7_nicknames_163 : decode cX7_nicknames 163 = .ok (.iload 15, 2) := by decide +kernel
theorem dX7_nicknames_165 : decode cX7_nicknames 165 = .ok (.laload, 1) := by decide +kernel
theorem dX7_nicknames_166 : decode cX7_nicknames 166 = .ok (.lload 8, 2) := by decide +kernel
theorem dX7_nicknames_168 : decode cX7_nicknames 168 = .ok (.lcmp, 1) := by decide +kernel
theorem dX7_nicknames_169 : decode cX7_nicknames 169 = .ok (.ifCond .eq 7, 3) := by decide +kernel
theorem dX7_nicknames_172 : decode cX7_nicknames 172 = .ok (.iconst 1, 1) := by decide +kernel
theorem dX7_nicknames_173 : decode cX7_nicknames 173 = .ok (.goto 4, 3) := by decide +kernel
theorem dX7_nicknames_176 : decode cX7_nicknames 176 = .ok (.iconst 0, 1) := by decide +kernel
theorem dX7_nicknames_177 : decode cX7_nicknames 177 = .ok (.istore 14, 2) := by decide +kernel
theorem dX7_nicknames_179 : decode cX7_nicknames 179 = .ok (.iinc 15 1, 3) := by decide +kernel
theorem dX7_nicknames_182 : decode cX7_nicknames 182 = .ok (.goto (-35), 3) := by decide +kernel
theorem dX7_nicknames_185 : decode cX7_nicknames 185 = .ok (.iload 14, 2) := by decide +kernel
theorem dX7_nicknames_187 : decode cX7_nicknames 187 = .ok (.ifCond .eq 69, 3) := by decide +kernel
theorem dX7_nicknames_190 : decode cX7_nicknames 190 = .ok (.aload_n 0, 1) := by decide +kernel
theorem dX7_nicknames_191 : decode cX7_nicknames 191 = .ok (.lload 8, 2) := by decide +kernel
theorem dX7_nicknames_193 : decode cX7_nicknames 193 = .ok (.invokevirtual 232, 3) := by decide +kernel
theorem dX7_nicknames_196 : decode cX7_nicknames 196 = .ok (.ifCond .eq 60, 3) := by decide +kernel
theorem dX7_nicknames_199 : decode cX7_nicknames 199 = .ok (.aload_n 0, 1) := by decide +kernel
theorem dX7_nicknames_200 : decode cX7_nicknames 200 = .ok (.getfield 7, 3) := by decide +kernel
theorem dX7_nicknames_203 : decode cX7_nicknames 203 = .ok (.bipush 39, 2) := by decide +kernel
theorem dX7_nicknames_205 : decode cX7_nicknames 205 = .ok (.iload_n 1, 1) := by decide +kernel
theorem dX7_nicknames_206 : decode cX7_nicknames 206 = .ok (.iadd, 1) := by decide +kernel
theorem dX7_nicknames_207 : decode cX7_nicknames 207 = .ok (.iaload, 1) := by decide +kernel
theorem dX7_nicknames_208 : decode cX7_nicknames 208 = .ok (.aload_n 0, 1) := by decide +kernel
theorem dX7_nicknames_209 : decode cX7_nicknames 209 = .ok (.lload 8, 2) := by decide +kernel
theorem dX7_nicknames_211 : decode cX7_nicknames 211 = .ok (.invokevirtual 229, 3) := by decide +kernel
theorem dX7_nicknames_214 : decode cX7_nicknames 214 = .ok (.irem, 1) := by decide +kernel
theorem dX7_nicknames_215 : decode cX7_nicknames 215 = .ok (.ifCond .ne 41, 3) := by decide +kernel
theorem dX7_nicknames_218 : decode cX7_nicknames 218 = .ok (.aload_n 0, 1) := by decide +kernel
theorem dX7_nicknames_219 : decode cX7_nicknames 219 = .ok (.getfield 63, 3) := by decide +kernel
theorem dX7_nicknames_222 : decode cX7_nicknames 222 = .ok (.iload 4, 2) := by decide +kernel
theorem dX7_nicknames_224 : decode cX7_nicknames 224 = .ok (.lload 8, 2) := by decide +kernel
theorem dX7_nicknames_226 : decode cX7_nicknames 226 = .ok (.lastore, 1) := by decide +kernel
theorem dX7_nicknames_227 : decode cX7_nicknames 227 = .ok (.iinc 4 1, 3) := by decide +kernel
theorem dX7_nicknames_230 : decode cX7_nicknames 230 = .ok (.lload 5, 2) := by decide +kernel
theorem dX7_nicknames_232 : decode cX7_nicknames 232 = .ok (.ldc2_w 119, 3) := by decide +kernel
theorem dX7_nicknames_235 : decode cX7_nicknames 235 = .ok (.lcmp, 1) := by decide +kernel
theorem dX7_nicknames_236 : decode cX7_nicknames 236 = .ok (.ifCond .eq 11, 3) := by decide +kernel
theorem dX7_nicknames_239 : decode cX7_nicknames 239 = .ok (.lload 8, 2) := by decide +kernel
theorem dX7_nicknames_241 : decode cX7_nicknames 241 = .ok (.lload 5, 2) := by decide +kernel
theorem dX7_nicknames_243 : decode cX7_nicknames 243 = .ok (.lcmp, 1) := by decide +kernel
theorem dX7_nicknames_244 : decode cX7_nicknames 244 = .ok (.ifCond .ge 8, 3) := by decide +kernel
theorem dX7_nicknames_247 : decode cX7_nicknames 247 = .ok (.lload 8, 2) := by decide +kernel
theorem dX7_nicknames_249 : decode cX7_nicknames 249 = .ok (.goto 5, 3) := by decide +kernel
theorem dX7_nicknames_252 : decode cX7_nicknames 252 = .ok (.lload 5, 2) := by decide +kernel
theorem dX7_nicknames_254 : decode cX7_nicknames 254 = .ok (.lstore 5, 2) := by decide +kernel
theorem dX7_nicknames_256 : decode cX7_nicknames 256 = .ok (.iinc 7 1, 3) := by decide +kernel
theorem dX7_nicknames_259 : decode cX7_nicknames 259 = .ok (.goto (-197), 3) := by decide +kernel
theorem dX7_nicknames_262 : decode cX7_nicknames 262 = .ok (.iload_n 2, 1) := by decide +kernel
theorem dX7_nicknames_263 : decode cX7_nicknames 263 = .ok (.ifCond .ne 9, 3) := by decide +kernel
theorem dX7_nicknames_266 : decode cX7_nicknames 266 = .ok (.iload 4, 2) := by decide +kernel
theorem dX7_nicknames_268 : decode cX7_nicknames 268 = .ok (.i2l, 1) := by decide +kernel
theorem dX7_nicknames_269 : decode cX7_nicknames 269 = .ok (.goto 5, 3) := by decide +kernel
theorem dX7_nicknames_272 : decode cX7_nicknames 272 = .ok (.lload 5, 2) := by decide +kernel
theorem dX7_nicknames_274 : decode cX7_nicknames 274 = .ok (.lreturn, 1) := by decide +kernel
theorem dX7_page_0 : decode cX7_page 0 = .ok (.iload_n 1, 1) := by decide +kernel
theorem dX7_page_1 : decode cX7_page 1 = .ok (.i2l, 1) := by decide +kernel
theorem dX7_page_2 : decode cX7_page 2 = .ok (.lconst 0, 1) := by decide +kernel
theorem dX7_page_3 : decode cX7_page 3 = .ok (.iconst 1, 1) := by decide +kernel
theorem dX7_page_4 : decode cX7_page 4 = .ok (.aload_n 0, 1) := by decide +kernel
theorem dX7_page_5 : decode cX7_page 5 = .ok (.getfield 7, 3) := by decide +kernel
theorem dX7_page_8 : decode cX7_page 8 = .ok (.bipush 38, 2) := by decide +kernel
theorem dX7_page_10 : decode cX7_page 10 = .ok (.iaload, 1) := by decide +kernel
theorem dX7_page_11 : decode cX7_page 11 = .ok (.ishl, 1) := by decide +kernel
theorem dX7_page_12 : decode cX7_page 12 = .ok (.iconst 1, 1) := by decide +kernel
theorem dX7_page_13 : decode cX7_page 13 = .ok (.isub, 1) := by decide +kernel
theorem dX7_page_14 : decode cX7_page 14 = .ok (.i2l, 1) := by decide +kernel
theorem dX7_page_15 : decode cX7_page 15 = .ok (.invokestatic 68, 3) := by decide +kernel
theorem dX7_page_18 : decode cX7_page 18 = .ok (.ifCond .eq 25, 3) := by decide +kernel
theorem dX7_page_21 : decode cX7_page 21 = .ok (.iload_n 2, 1) := by decide +kernel
theorem dX7_page_22 : decode cX7_page 22 = .ok (.i2l, 1) := by decide +kernel
theorem dX7_page_23 : decode cX7_page 23 = .ok (.lconst 0, 1) := by decide +kernel
theorem dX7_page_24 : decode cX7_page 24 = .ok (.ldc2_w 315, 3) := by decide +kernel
theorem dX7_page_27 : decode cX7_page 27 = .ok (.invokestatic 68, 3) := by decide +kernel
theorem dX7_page_30 : decode cX7_page 30 = .ok (.ifCond .eq 13, 3) := by decide +kernel
theorem dX7_page_33 : decode cX7_page 33 = .ok (.iload_n 3, 1) := by decide +kernel
theorem dX7_page_34 : decode cX7_page 34 = .ok (.i2l, 1) := by decide +kernel
theorem dX7_page_35 : decode cX7_page 35 = .ok (.lconst 0, 1) := by decide +kernel
theorem dX7_page_36 : decode cX7_page 36 = .ok (.lconst 1, 1) := by decide +kernel
theorem dX7_page_37 : decode cX7_page 37 = .ok (.invokestatic 68, 3) := by decide +kernel
theorem dX7_page_40 : decode cX7_page 40 = .ok (.ifCond .ne 6, 3) := by decide +kernel
theorem dX7_page_43 : decode cX7_page 43 = .ok (.bipush (-3), 2) := by decide +kernel
theorem dX7_page_45 : decode cX7_page 45 = .ok (.ireturn, 1) := by decide +kernel
theorem dX7_page_46 : decode cX7_page 46 = .ok (.iconst 0, 1) := by decide +kernel
theorem dX7_page_47 : decode cX7_page 47 = .ok (.istore 4, 2) := by decide +kernel
theorem dX7_page_49 : decode cX7_page 49 = .ok (.iconst 1, 1) := by decide +kernel
theorem dX7_page_50 : decode cX7_page 50 = .ok (.istore 5, 2) := by decide +kernel
theorem dX7_page_52 : decode cX7_page 52 = .ok (.iconst 0, 1) := by decide +kernel
theorem dX7_page_53 : decode cX7_page 53 = .ok (.istore 6, 2) := by decide +kernel
theorem dX7_page_55 : decode cX7_page 55 = .ok (.iload 6, 2) := by decide +kernel
theorem dX7_page_57 : decode cX7_page 57 = .ok (.aload_n 0, 1) := by decide +kernel
theorem dX7_page_58 : decode cX7_page 58 = .ok (.getfield 7, 3) := by decide +kernel
theorem dX7_page_61 : decode cX7_page 61 = .ok (.bipush 38, 2) := by decide +kernel
theorem dX7_page_63 : decode cX7_page 63 = .ok (.iaload, 1) := by decide +kernel
theorem dX7_page_64 : decode cX7_page 64 = .ok (.if_icmp .ge 71, 3) := by decide +kernel
theorem dX7_page_67 : decode cX7_page 67 = .ok (.iload 5, 2) := by decide +kernel
theorem dX7_page_69 : decode cX7_page 69 = .ok (.ifCond .eq 28, 3) := by decide +kernel
theorem dX7_page_72 : decode cX7_page 72 = .ok (.iload_n 1, 1) := by decide +kernel
theorem dX7_page_73 : decode cX7_page 73 = .ok (.iload 6, 2) := by decide +kernel
theorem dX7_page_75 : decode cX7_page 75 = .ok (.invokestatic 235, 3) := by decide +kernel
theorem dX7_page_78 : decode cX7_page 78 = .ok (.ifCond .eq 15, 3) := by decide +kernel
theorem dX7_page_81 : decode cX7_page 81 = .ok (.aload_n 0, 1) := by decide +kernel
theorem dX7_page_82 : decode cX7_page 82 = .ok (.getfield 13, 3) := by decide +kernel
theorem dX7_page_85 : decode cX7_page 85 = .ok (.iload 6, 2) := by decide +kernel
theorem dX7_page_87 : decode cX7_page 87 = .ok (.laload, 1) := by decide +kernel
theorem dX7_page_88 : decode cX7_page 88 = .ok (.lconst 0, 1) := by decide +kernel
theorem dX7_page_89 : decode cX7_page 89 = .ok (.lcmp, 1) := by decide +kernel
theorem dX7_page_90 : decode cX7_page 90 = .ok (.ifCond .le 7, 3) := by decide +kernel
theorem dX7_page_93 : decode cX7_page 93 = .ok (.iconst 1, 1) := by decide +kernel
theorem dX7_page_94 : decode cX7_page 94 = .ok (.goto 4, 3) := by decide +kernel
theorem dX7_page_97 : decode cX7_page 97 = .ok (.iconst 0, 1) := by decide +kernel
theorem dX7_page_98 : decode cX7_page 98 = .ok (.istore 5, 2) := by decide +kernel
theorem dX7_page_100 : decode cX7_page 100 = .ok (.iload 4, 2) := by decide +kernel
theorem dX7_page_102 : decode cX7_page 102 = .ok (.iload_n 1, 1) := by decide +kernel
theorem dX7_page_103 : decode cX7_page 103 = .ok (.iload 6, 2) := by decide +kernel
theorem dX7_page_105 : decode cX7_page 105 = .ok (.invokestatic 235, 3) := by decide +kernel
theorem dX7_page_108 : decode cX7_page 108 = .ok (.ifCond .eq 17, 3) := by decide +kernel
