theorem dX0_init_0 : decode cX0_init 0 = .ok (.aload_n 0, 1) := by decide +kernel
theorem dX0_init_1 : decode cX0_init 1 = .ok (.invokespecial 3, 3) := by decide +kernel
theorem dX0_init_4 : decode cX0_init 4 = .ok (.aload_n 0, 1) := by decide +kernel
theorem dX0_init_5 : decode cX0_init 5 = .ok (.sipush 1110, 3) := by decide +kernel
theorem dX0_init_8 : decode cX0_init 8 = .ok (.newarray .long, 2) := by decide +kernel
theorem dX0_init_10 : decode cX0_init 10 = .ok (.putfield 9, 3) := by decide +kernel
theorem dX0_init_13 : decode cX0_init 13 = .ok (.aload_n 0, 1) := by decide +kernel
theorem dX0_init_14 : decode cX0_init 14 = .ok (.iconst 0, 1) := by decide +kernel
theorem dX0_init_15 : decode cX0_init 15 = .ok (.putfield 15, 3) := by decide +kernel
theorem dX0_init_18 : decode cX0_init 18 = .ok (.aload_n 0, 1) := by decide +kernel
theorem dX0_init_19 : decode cX0_init 19 = .ok (.bipush 10, 2) := by decide +kernel
theorem dX0_init_21 : decode cX0_init 21 = .ok (.newarray .long, 2) := by decide +kernel
theorem dX0_init_23 : decode cX0_init 23 = .ok (.putfield 19, 3) := by decide +kernel
theorem dX0_init_26 : decode cX0_init 26 = .ok (.aload_n 0, 1) := by decide +kernel
theorem dX0_init_27 : decode cX0_init 27 = .ok (.bipush 10, 2) := by decide +kernel
theorem dX0_init_29 : decode cX0_init 29 = .ok (.newarray .long, 2) := by decide +kernel
theorem dX0_init_31 : decode cX0_init 31 = .ok (.putfield 22, 3) := by decide +kernel
theorem dX0_init_34 : decode cX0_init 34 = .ok (.aload_n 0, 1) := by decide +kernel
theorem dX0_init_35 : decode cX0_init 35 = .ok (.bipush 10, 2) := by decide +kernel
theorem dX0_init_37 : decode cX0_init 37 = .ok (.newarray .int, 2) := by decide +kernel
theorem dX0_init_39 : decode cX0_init 39 = .ok (.putfield 25, 3) := by decide +kernel
theorem dX0_init_42 : decode cX0_init 42 = .ok (.aload_n 0, 1) := by decide +kernel
theorem dX0_init_43 : decode cX0_init 43 = .ok (.iconst 0, 1) := by decide +kernel
theorem dX0_init_44 : decode cX0_init 44 = .ok (.putfield 29, 3) := by decide +kernel
theorem dX0_init_47 : decode cX0_init 47 = .ok (.aload_n 0, 1) := by decide +kernel
theorem dX0_init_48 : decode cX0_init 48 = .ok (.iconst 0, 1) := by decide +kernel
theorem dX0_init_49 : decode cX0_init 49 = .ok (.putfield 32, 3) := by decide +kernel
theorem dX0_init_52 : decode cX0_init 52 = .ok (.aload_n 0, 1) := by decide +kernel
theorem dX0_init_53 : decode cX0_init 53 = .ok (.iconst 0, 1) := by decide +kernel
theorem dX0_init_54 : decode cX0_init 54 = .ok (.putfield 35, 3) := by decide +kernel
theorem dX0_init_57 : decode cX0_init 57 = .ok (.return_, 1) := by decide +kernel
theorem dX0_gather_0 : decode cX0_gather 0 = .ok (.aload_n 0, 1) := by decide +kernel
theorem dX0_gather_1 : decode cX0_gather 1 = .ok (.iload_n 2, 1) := by decide +kernel
theorem dX0_gather_2 : decode cX0_gather 2 = .ok (.putfield 32, 3) := by decide +kernel
theorem dX0_gather_5 : decode cX0_gather 5 = .ok (.aload_n 0, 1) := by decide +kernel
theorem dX0_gather_6 : decode cX0_gather 6 = .ok (.iload_n 3, 1) := by decide +kernel
theorem dX0_gather_7 : decode cX0_gather 7 = .ok (.putfield 35, 3) := by decide +kernel
theorem dX0_gather_10 : decode cX0_gather 10 = .ok (.aload_n 0, 1) := by decide +kernel
theorem dX0_gather_11 : decode cX0_gather 11 = .ok (.iconst 0, 1) := by decide +kernel
theorem dX0_gather_12 : decode cX0_gather 12 = .ok (.putfield 15, 3) := by decide +kernel
theorem dX0_gather_15 : decode cX0_gather 15 = .ok (.aload_n 0, 1) := by decide +kernel
theorem dX0_gather_16 : decode cX0_gather 16 = .ok (.aload_n 1, 1) := by decide +kernel
theorem dX0_gather_17 : decode cX0_gather 17 = .ok (.invokevirtual 39, 3) := by decide +kernel
theorem dX0_gather_20 : decode cX0_gather 20 = .ok (.aload_n 0, 1) := by decide +kernel
theorem dX0_gather_21 : decode cX0_gather 21 = .ok (.lconst 0, 1) := by decide +kernel
theorem dX0_gather_22 : decode cX0_gather 22 = .ok (.iconst 0, 1) := by decide +kernel
theorem dX0_gather_23 : decode cX0_gather 23 = .ok (.iconst 3, 1) := by decide +kernel
theorem dX0_gather_24 : decode cX0_gather 24 = .ok (.invokevirtual 43, 3) := by decide +kernel
theorem dX0_gather_27 : decode cX0_gather 27 = .ok (.aload_n 0, 1) := by decide +kernel
theorem dX0_gather_28 : decode cX0_gather 28 = .ok (.invokevirtual 47, 3) := by decide +kernel
theorem dX0_gather_31 : decode cX0_gather 31 = .ok (.aload_n 0, 1) := by decide +kernel
theorem dX0_gather_32 : decode cX0_gather 32 = .ok (.invokevirtual 50, 3) := by decide +kernel
theorem dX0_gather_35 : decode cX0_gather 35 = .ok (.return_, 1) := by decide +kernel
theorem dX0_findParts_0 : decode cX0_findParts 0 = .ok (.aload_n 0, 1) := by decide +kernel
theorem dX0_findParts_1 : decode cX0_findParts 1 = .ok (.iconst 0, 1) := by decide +kernel
theorem dX0_findParts_2 : decode cX0_findParts 2 = .ok (.putfield 29, 3) := by decide +kernel
theorem dX0_findParts_5 : decode cX0_findParts 5 = .ok (.iconst 0, 1) := by decide +kernel
theorem dX0_findParts_6 : decode cX0_findParts 6 = .ok (.istore_n 2, 1) := by decide +kernel
theorem dX0_findParts_7 : decode cX0_findParts 7 = .ok (.iload_n 2, 1) := by decide +kernel
theorem dX0_findParts_8 : decode cX0_findParts 8 = .ok (.aload_n 1, 1) := by decide +kernel
theorem dX0_findParts_9 : decode cX0_findParts 9 = .ok (.getfield 53, 3) := by decide +kernel
theorem dX0_findParts_12 : decode cX0_findParts 12 = .ok (.if_icmp .ge 72, 3) := by decide +kernel
theorem dX0_findParts_15 : decode cX0_findParts 15 = .ok (.aload_n 1, 1) := by decide +kernel
theorem dX0_findParts_16 : decode cX0_findParts 16 = .ok (.getfield 58, 3) := by decide +kernel
theorem dX0_findParts_19 : decode cX0_findParts 19 = .ok (.iload_n 2, 1) := by decide +kernel
theorem dX0_findParts_20 : decode cX0_findParts 20 = .ok (.laload, 1) := by decide +kernel
theorem dX0_findParts_21 : decode cX0_findParts 21 = .ok (.lstore_n 3, 1) := by decide +kernel
theorem dX0_findParts_22 : decode cX0_findParts 22 = .ok (.aload_n 1, 1) := by decide +kernel
theorem dX0_findParts_23 : decode cX0_findParts 23 = .ok (.lload_n 3, 1) := by decide +kernel
theorem dX0_findParts_24 : decode cX0_findParts 24 = .ok (.invokevirtual 61, 3) := by decide +kernel
theorem dX0_findParts_27 : decode cX0_findParts 27 = .ok (.istore 5, 2) := by decide +kernel
theorem dX0_findParts_29 : decode cX0_findParts 29 = .ok (.iload 5, 2) := by decide +kernel
theorem dX0_findParts_31 : decode cX0_findParts 31 = .ok (.ifCond .le 47, 3) := by decide +kernel
theorem dX0_findParts_34 : decode cX0_findParts 34 = .ok (.aload_n 0, 1) := by decide +kernel
theorem dX0_findParts_35 : decode cX0_findParts 35 = .ok (.getfield 19, 3) := by decide +kernel
theorem dX0_findParts_38 : decode cX0_findParts 38 = .ok (.aload_n 0, 1) := by decide +kernel
theorem dX0_findParts_39 : decode cX0_findParts 39 = .ok (.getfield 29, 3) := by decide +kernel
theorem dX0_findParts_42 : decode cX0_findParts 42 = .ok (.lload_n 3, 1) := by decide +kernel
theorem dX0_findParts_43 : decode cX0_findParts 43 = .ok (.lastore, 1) := by decide +kernel
theorem dX0_findParts_44 : decode cX0_findParts 44 = .ok (.aload_n 0, 1) := by decide +kernel
theorem dX0_findParts_45 : decode cX0_findParts 45 = .ok (.getfield 22, 3) := by decide +kernel
theorem dX0_findParts_48 : decode cX0_findParts 48 = .ok (.aload_n 0, 1) := by decide +kernel
theorem dX0_findParts_49 : decode cX0_findParts 49 = .ok (.getfield 29, 3) := by decide +kernel
theorem dX0_findParts_52 : decode cX0_findParts 52 = .ok (.lload_n 3, 1) := by decide +kernel
theorem dX0_findParts_53 : decode cX0_findParts 53 = .ok (.invokestatic 65, 3) := by decide +kernel
theorem dX0_findParts_56 : decode cX0_findParts 56 = .ok (.lastore, 1) := by decide +kernel
theorem dX0_findParts_57 : decode cX0_findParts 57 = .ok (.aload_n 0, 1) := by decide +kernel
theorem dX0_findParts_58 : decode cX0_findParts 58 = .ok (.getfield 25, 3) := by decide +kernel
theorem dX0_findParts_61 : decode cX0_findParts 61 = .ok (.aload_n 0, 1) := by decide +kernel
theorem dX0_findParts_62 : decode cX0_findParts 62 = .ok (.getfield 29, 3) := by decide +kernel
theorem dX0_findParts_65 : decode cX0_findParts 65 = .ok (.iload 5, 2) := by decide +kernel
theorem dX0_findParts_67 : decode cX0_findParts 67 = .ok (.iastore, 1) := by decide +kernel
theorem dX0_findParts_68 : decode cX0_findParts 68 = .ok (.aload_n 0, 1) := by decide +kernel
theorem dX0_findParts_69 : decode cX0_findParts 69 = .ok (.dup, 1) := by decide +kernel
theorem dX0_findParts_70 : decode cX0_findParts 70 = .ok (.getfield 29, 3) := by decide +kernel
theorem dX0_findParts_73 : decode cX0_findParts 73 = .ok (.iconst 1, 1) := by decide +kernel
theorem dX0_findParts_74 : decode cX0_findParts 74 = .ok (.iadd, 1) := by decide +kernel
theorem dX0_findParts_75 : decode cX0_findParts 75 = .ok (.putfield 29, 3) := by decide +kernel
theorem dX0_findParts_78 : decode cX0_findParts 78 = .ok (.iinc 2 1, 3) := by decide +kernel
theorem dX0_findParts_81 : decode cX0_findParts 81 = .ok (.goto (-74), 3) := by decide +kernel
theorem dX0_findParts_84 : decode cX0_findParts 84 = .ok (.return_, 1) := by decide +kernel
theorem dX0_shiftOf_0 : decode cX0_shiftOf 0 = .ok (.ldc2_w 69, 3) := by decide +kernel
theorem dX0_shiftOf_3 : decode cX0_shiftOf 3 = .ok (.lstore_n 2, 1) := by decide +kernel
theorem dX0_shiftOf_4 : decode cX0_shiftOf 4 = .ok (.iconst 1, 1) := by decide +kernel
theorem dX0_shiftOf_5 : decode cX0_shiftOf 5 = .ok (.istore 4, 2) := by decide +kernel
theorem dX0_shiftOf_7 : decode cX0_shiftOf 7 = .ok (.iload 4, 2) := by decide +kernel
theorem dX0_shiftOf_9 : decode cX0_shiftOf 9 = .ok (.iconst 3, 1) := by decide +kernel
theorem dX0_shiftOf_10 : decode cX0_shiftOf 10 = .ok (.if_icmp .ge 21, 3) := by decide +kernel
theorem dX0_shiftOf_13 : decode cX0_shiftOf 13 = .ok (.lload_n 2, 1) := by decide +kernel
theorem dX0_shiftOf_14 : decode cX0_shiftOf 14 = .ok (.lload_n 0, 1) := by decide +kernel
theorem dX0_shiftOf_15 : decode cX0_shiftOf 15 = .ok (.lcmp, 1) := by decide +kernel
theorem dX0_shiftOf_16 : decode cX0_shiftOf 16 = .ok (.ifCond .gt 15, 3) := by decide +kernel
theorem dX0_shiftOf_19 : decode cX0_shiftOf 19 = .ok (.lload_n 2, 1) := by decide +kernel
theorem dX0_shiftOf_20 : decode cX0_shiftOf 20 = .ok (.ldc2_w 69, 3) := by decide +kernel
theorem dX0_shiftOf_23 : decode cX0_shiftOf 23 = .ok (.lmul, 1) := by decide +kernel
theorem dX0_shiftOf_24 : decode cX0_shiftOf 24 = .ok (.lstore_n 2, 1) := by decide +kernel
theorem dX0_shiftOf_25 : decode cX0_shiftOf 25 = .ok (.iinc 4 1, 3) := by decide +kernel
theorem dX0_shiftOf_28 : decode cX0_shiftOf 28 = .ok (.goto (-21), 3) := by decide +kernel
theorem dX0_shiftOf_31 : decode cX0_shiftOf 31 = .ok (.lload_n 2, 1) := by decide +kernel
theorem dX0_shiftOf_32 : decode cX0_shiftOf 32 = .ok (.lreturn, 1) := by decide +kernel
theorem dX0_join_0 : decode cX0_join 0 = .ok (.iload 4, 2) := by decide +kernel
theorem dX0_join_2 : decode cX0_join 2 = .ok (.ifCond .ne 4, 3) := by decide +kernel
theorem dX0_join_5 : decode cX0_join 5 = .ok (.return_, 1) := by decide +kernel
theorem dX0_join_6 : decode cX0_join 6 = .ok (.iconst 0, 1) := by decide +kernel
theorem dX0_join_7 : decode cX0_join 7 = .ok (.istore 5, 2) := by decide +kernel
theorem dX0_join_9 : decode cX0_join 9 = .ok (.iload 5, 2) := by decide +kernel
theorem dX0_join_11 : decode cX0_join 11 = .ok (.aload_n 0, 1) := by decide +kernel
theorem dX0_join_12 : decode cX0_join 12 = .ok (.getfield 29, 3) := by decide +kernel
theorem dX0_join_15 : decode cX0_join 15 = .ok (.if_icmp .ge 68, 3) := by decide +kernel
theorem dX0_join_18 : decode cX0_join 18 = .ok (.iload_n 3, 1) := by decide +kernel
theorem dX0_join_19 : decode cX0_join 19 = .ok (.aload_n 0, 1) := by decide +kernel
theorem dX0_join_20 : decode cX0_join 20 = .ok (.getfield 25, 3) := by decide +kernel
theorem dX0_join_23 : decode cX0_join 23 = .ok (.iload 5, 2) := by decide +kernel
theorem dX0_join_25 : decode cX0_join 25 = .ok (.iaload, 1) := by decide +kernel
theorem dX0_join_26 : decode cX0_join 26 = .ok (.iadd, 1) := by decide +kernel
theorem dX0_join_27 : decode cX0_join 27 = .ok (.istore 6, 2) := by decide +kernel
theorem dX0_join_29 : decode cX0_join 29 = .ok (.iload 6, 2) := by decide +kernel
theorem dX0_join_31 : decode cX0_join 31 = .ok (.aload_n 0, 1) := by decide +kernel
theorem dX0_join_32 : decode cX0_join 32 = .ok (.getfield 32, 3) := by decide +kernel
theorem dX0_join_35 : decode cX0_join 35 = .ok (.if_icmp .gt 42, 3) := by decide +kernel
theorem dX0_join_38 : decode cX0_join 38 = .ok (.lload_n 1, 1) := by decide +kernel
theorem dX0_join_39 : decode cX0_join 39 = .ok (.aload_n 0, 1) := by decide +kernel
theorem dX0_join_40 : decode cX0_join 40 = .ok (.getfield 22, 3) := by decide +kernel
theorem dX0_join_43 : decode cX0_join 43 = .ok (.iload 5, 2) := by decide +kernel
theorem dX0_join_45 : decode cX0_join 45 = .ok (.laload, 1) := by decide +kernel
theorem dX0_join_46 : decode cX0_join 46 = .ok (.lmul, 1) := by decide +kernel
theorem dX0_join_47 : decode cX0_join 47 = .ok (.aload_n 0, 1) := by decide +kernel
theorem dX0_join_48 : decode cX0_join 48 = .ok (.getfield 19, 3) := by decide +kernel
theorem dX0_join_51 : decode cX0_join 51 = .ok (.iload 5, 2) := by decide +kernel
theorem dX0_join_53 : decode cX0_join 53 = .ok (.laload, 1) := by decide +kernel
theorem dX0_join_54 : decode cX0_join 54 = .ok (.ladd, 1) := by decide +kernel
theorem dX0_join_55 : decode cX0_join 55 = .ok (.lstore 7, 2) := by decide +kernel
theorem dX0_join_57 : decode cX0_join 57 = .ok (.aload_n 0, 1) := by decide +kernel
theorem dX0_join_58 : decode cX0_join 58 = .ok (.lload 7, 2) := by decide +kernel
theorem dX0_join_60 : decode cX0_join 60 = .ok (.iload 6, 2) := by decide +kernel
theorem dX0_join_62 : decode cX0_join 62 = .ok (.invokevirtual 71, 3) := by decide +kernel
theorem dX0_join_65 : decode cX0_join 65 = .ok (.aload_n 0, 1) := by decide +kernel
theorem dX0_join_66 : decode cX0_join 66 = .ok (.lload 7, 2) := by decide +kernel
theorem dX0_join_68 : decode cX0_join 68 = .ok (.iload 6, 2) := by decide +kernel
theorem dX0_join_70 : decode cX0_join 70 = .ok (.iload 4, 2) := by decide +kernel
theorem dX0_join_72 : decode cX0_join 72 = .ok (.iconst 1, 1) := by decide +kernel
theorem dX0_join_73 : decode cX0_join 73 = .ok (.isub, 1) := by decide +kernel
theorem dX0_join_74 : decode cX0_join 74 = .ok (.invokevirtual 43, 3) := by decide +kernel
theorem dX0_join_77 : decode cX0_join 77 = .ok (.iinc 5 1, 3) := by decide +kernel
theorem dX0_join_80 : decode cX0_join 80 = .ok (.goto (-71), 3) := by decide +kernel
theorem dX0_join_83 : decode cX0_join 83 = .ok (.return_, 1) := by decide +kernel
theorem dX0_addIfWanted_0 : decode cX0_addIfWanted 0 = .ok (.iload_n 3, 1) := by decide +kernel
theorem dX0_addIfWanted_1 : decode cX0_addIfWanted 1 = .ok (.aload_n 0, 1) := by decide +kernel
theorem dX0_addIfWanted_2 : decode cX0_addIfWanted 2 = .ok (.getfield 32, 3) := by decide +kernel
theorem dX0_addIfWanted_5 : decode cX0_addIfWanted 5 = .ok (.if_icmp .eq 23, 3) := by decide +kernel
theorem dX0_addIfWanted_8 : decode cX0_addIfWanted 8 = .ok (.aload_n 0, 1) := by decide +kernel
theorem dX0_addIfWanted_9 : decode cX0_addIfWanted 9 = .ok (.getfield 35, 3) := by decide +kernel
theorem dX0_addIfWanted_12 : decode cX0_addIfWanted 12 = .ok (.ifCond .eq 20, 3) := by decide +kernel
theorem dX0_addIfWanted_15 : decode cX0_addIfWanted 15 = .ok (.iload_n 3, 1) := by decide +kernel
theorem dX0_addIfWanted_16 : decode cX0_addIfWanted 16 = .ok (.ifCond .le 16, 3) := by decide +kernel
theorem dX0_addIfWanted_19 : decode cX0_addIfWanted 19 = .ok (.aload_n 0, 1) := by decide +kernel
theorem dX0_addIfWanted_20 : decode cX0_addIfWanted 20 = .ok (.getfield 32, 3) := by decide +kernel
theorem dX0_addIfWanted_23 : decode cX0_addIfWanted 23 = .ok (.iload_n 3, 1) := by decide +kernel
theorem dX0_addIfWanted_24 : decode cX0_addIfWanted 24 = .ok (.irem, 1) := by decide +kernel
theorem dX0_addIfWanted_25 : decode cX0_addIfWanted 25 = .ok (.ifCond .ne 7, 3) := by decide +kernel
theorem dX0_addIfWanted_28 : decode cX0_addIfWanted 28 = .ok (.iconst 1, 1) := by decide +kernel
theorem dX0_addIfWanted_29 : decode cX0_addIfWanted 29 = .ok (.goto 4, 3) := by decide +kernel
theorem dX0_addIfWanted_32 : decode cX0_addIfWanted 32 = .ok (.iconst 0, 1) := by decide +kernel
theorem dX0_addIfWanted_33 : decode cX0_addIfWanted 33 = .ok (.istore 4, 2) := by decide +kernel
theorem dX0_addIfWanted_35 : decode cX0_addIfWanted 35 = .ok (.iload 4, 2) := by decide +kernel
theorem dX0_addIfWanted_37 : decode cX0_addIfWanted 37 = .ok (.ifCond .eq 33, 3) := by decide +kernel
theorem dX0_addIfWanted_40 : decode cX0_addIfWanted 40 = .ok (.aload_n 0, 1) := by decide +kernel
theorem dX0_addIfWanted_41 : decode cX0_addIfWanted 41 = .ok (.getfield 15, 3) := by decide +kernel
theorem dX0_addIfWanted_44 : decode cX0_addIfWanted 44 = .ok (.sipush 1110, 3) := by decide +kernel
theorem dX0_addIfWanted_47 : decode cX0_addIfWanted 47 = .ok (.if_icmp .ge 23, 3) := by decide +kernel
theorem dX0_addIfWanted_50 : decode cX0_addIfWanted 50 = .ok (.aload_n 0, 1) := by decide +kernel
theorem dX0_addIfWanted_51 : decode cX0_addIfWanted 51 = .ok (.getfield 9, 3) := by decide +kernel
theorem dX0_addIfWanted_54 : decode cX0_addIfWanted 54 = .ok (.aload_n 0, 1) := by decide +kernel
theorem dX0_addIfWanted_55 : decode cX0_addIfWanted 55 = .ok (.getfield 15, 3) := by decide +kernel
theorem dX0_addIfWanted_58 : decode cX0_addIfWanted 58 = .ok (.lload_n 1, 1) := by decide +kernel
theorem dX0_addIfWanted_59 : decode cX0_addIfWanted 59 = .ok (.lastore, 1) := by decide +kernel
theorem dX0_addIfWanted_60 : decode cX0_addIfWanted 60 = .ok (.aload_n 0, 1) := by decide +kernel
theorem dX0_addIfWanted_61 : decode cX0_addIfWanted 61 = .ok (.dup, 1) := by decide +kernel
theorem dX0_addIfWanted_62 : decode cX0_addIfWanted 62 = .ok (.getfield 15, 3) := by decide +kernel
theorem dX0_addIfWanted_65 : decode cX0_addIfWanted 65 = .ok (.iconst 1, 1) := by decide +kernel
theorem dX0_addIfWanted_66 : decode cX0_addIfWanted 66 = .ok (.iadd, 1) := by decide +kernel
theorem dX0_addIfWanted_67 : decode cX0_addIfWanted 67 = .ok (.putfield 15, 3) := by decide +kernel
theorem dX0_addIfWanted_70 : decode cX0_addIfWanted 70 = .ok (.return_, 1) := by decide +kernel
theorem dX0_sort_0 : decode cX0_sort 0 = .ok (.getstatic 75, 3) := by decide +kernel
theorem dX0_sort_3 : decode cX0_sort 3 = .ok (.astore_n 1, 1) := by decide +kernel
theorem dX0_sort_4 : decode cX0_sort 4 = .ok (.aload_n 1, 1) := by decide +kernel
theorem dX0_sort_5 : decode cX0_sort 5 = .ok (.arraylength, 1) := by decide +kernel
theorem dX0_sort_6 : decode cX0_sort 6 = .ok (.istore_n 2, 1) := by decide +kernel
theorem dX0_sort_7 : decode cX0_sort 7 = .ok (.iconst 0, 1) := by decide +kernel
theorem dX0_sort_8 : decode cX0_sort 8 = .ok (.istore_n 3, 1) := by decide +kernel
theorem dX0_sort_9 : decode cX0_sort 9 = .ok (.iload_n 3, 1) := by decide +kernel
theorem dX0_sort_10 : decode cX0_sort 10 = .ok (.iload_n 2, 1) := by decide +kernel
theorem dX0_sort_11 : decode cX0_sort 11 = .ok (.if_icmp .ge 105, 3) := by decide +kernel
theorem dX0_sort_14 : decode cX0_sort 14 = .ok (.aload_n 1, 1) := by decide +kernel
theorem dX0_sort_15 : decode cX0_sort 15 = .ok (.iload_n 3, 1) := by decide +kernel
theorem dX0_sort_16 : decode cX0_sort 16 = .ok (.iaload, 1) := by decide +kernel
theorem dX0_sort_17 : decode cX0_sort 17 = .ok (.istore 4, 2) := by decide +kernel
theorem dX0_sort_19 : decode cX0_sort 19 = .ok (.iload 4, 2) := by decide +kernel
theorem dX0_sort_21 : decode cX0_sort 21 = .ok (.istore 5, 2) := by decide +kernel
theorem dX0_sort_23 : decode cX0_sort 23 = .ok (.iload 5, 2) := by decide +kernel
theorem dX0_sort_25 : decode cX0_sort 25 = .ok (.aload_n 0, 1) := by decide +kernel
theorem dX0_sort_26 : decode cX0_sort 26 = .ok (.getfield 15, 3) := by decide +kernel
theorem dX0_sort_29 : decode cX0_sort 29 = .ok (.if_icmp .ge 81, 3) := by decide +kernel
theorem dX0_sort_32 : decode cX0_sort 32 = .ok (.aload_n 0, 1) := by decide +kernel
theorem dX0_sort_33 : decode cX0_sort 33 = .ok (.getfield 9, 3) := by decide +kernel
theorem dX0_sort_36 : decode cX0_sort 36 = .ok (.iload 5, 2) := by decide +kernel
theorem dX0_sort_38 : decode cX0_sort 38 = .ok (.laload, 1) := by decide +kernel
theorem dX0_sort_39 : decode cX0_sort 39 = .ok (.lstore 6, 2) := by decide +kernel
theorem dX0_sort_41 : decode cX0_sort 41 = .ok (.iload 5, 2) := by decide +kernel
theorem dX0_sort_43 : decode cX0_sort 43 = .ok (.istore 8, 2) := by decide +kernel
theorem dX0_sort_45 : decode cX0_sort 45 = .ok (.iload 8, 2) := by decide +kernel
theorem dX0_sort_47 : decode cX0_sort 47 = .ok (.iload 4, 2) := by decide +kernel
theorem dX0_sort_49 : decode cX0_sort 49 = .ok (.if_icmp .lt 46, 3) := by decide +kernel
theorem dX0_sort_52 : decode cX0_sort 52 = .ok (.aload_n 0, 1) := by decide +kernel
theorem dX0_sort_53 : decode cX0_sort 53 = .ok (.getfield 9, 3) := by decide +kernel
theorem dX0_sort_56 : decode cX0_sort 56 = .ok (.iload 8, 2) := by decide +kernel
theorem dX0_sort_58 : decode cX0_sort 58 = .ok (.iload 4, 2) := by decide +kernel
theorem dX0_sort_60 : decode cX0_sort 60 = .ok (.isub, 1) := by decide +kernel
theorem dX0_sort_61 : decode cX0_sort 61 = .ok (.laload, 1) := by decide +kernel
theorem dX0_sort_62 : decode cX0_sort 62 = .ok (.lload 6, 2) := by decide +kernel
theorem dX0_sort_64 : decode cX0_sort 64 = .ok (.lcmp, 1) := by decide +kernel
theorem dX0_sort_65 : decode cX0_sort 65 = .ok (.ifCond .le 30, 3) := by decide +kernel
theorem dX0_sort_68 : decode cX0_sort 68 = .ok (.aload_n 0, 1) := by decide +kernel
theorem dX0_sort_69 : decode cX0_sort 69 = .ok (.getfield 9, 3) := by decide +kernel
theorem dX0_sort_72 : decode cX0_sort 72 = .ok (.iload 8, 2) := by decide +kernel
theorem dX0_sort_74 : decode cX0_sort 74 = .ok (.aload_n 0, 1) := by decide +kernel
theorem dX0_sort_75 : decode cX0_sort 75 = .ok (.getfield 9, 3) := by decide +kernel
theorem dX0_sort_78 : decode cX0_sort 78 = .ok (.iload 8, 2) := by decide +kernel
theorem dX0_sort_80 : decode cX0_sort 80 = .ok (.iload 4, 2) := by decide +kernel
theorem dX0_sort_82 : decode cX0_sort 82 = .ok (.isub, 1) := by decide +kernel
theorem dX0_sort_83 : decode cX0_sort 83 = .ok (.laload, 1) := by decide +kernel
theorem dX0_sort_84 : decode cX0_sort 84 = .ok (.lastore, 1) := by decide +kernel
theorem dX0_sort_85 : decode cX0_sort 85 = .ok (.iload 8, 2) := by decide +kernel
theorem dX0_sort_87 : decode cX0_sort 87 = .ok (.iload 4, 2) := by decide +kernel
theorem dX0_sort_89 : decode cX0_sort 89 = .ok (.isub, 1) := by decide +kernel
theorem dX0_sort_90 : decode cX0_sort 90 = .ok (.istore 8, 2) := by decide +kernel
theorem dX0_sort_92 : decode cX0_sort 92 = .ok (.goto (-47), 3) := by decide +kernel
theorem dX0_sort_95 : decode cX0_sort 95 = .ok (.aload_n 0, 1) := by decide +kernel
theorem dX0_sort_96 : decode cX0_sort 96 = .ok (.getfield 9, 3) := by decide +kernel
theorem dX0_sort_99 : decode cX0_sort 99 = .ok (.iload 8, 2) := by decide +kernel
theorem dX0_sort_101 : decode cX0_sort 101 = .ok (.lload 6, 2) := by decide +kernel
theorem dX0_sort_103 : decode cX0_sort 103 = .ok (.lastore, 1) := by decide +kernel
theorem dX0_sort_104 : decode cX0_sort 104 = .ok (.iinc 5 1, 3) := by decide +kernel
theorem dX0_sort_107 : decode cX0_sort 107 = .ok (.goto (-84), 3) := by decide +kernel
theorem dX0_sort_110 : decode cX0_sort 110 = .ok (.iinc 3 1, 3) := by decide +kernel
theorem dX0_sort_113 : decode cX0_sort 113 = .ok (.goto (-104), 3) := by decide +kernel
theorem dX0_sort_116 : decode cX0_sort 116 = .ok (.return_, 1) := by decide +kernel
theorem dX0_dropLike_0 : decode cX0_dropLike 0 = .ok (.iconst 0, 1) := by decide +kernel
theorem dX0_dropLike_1 : decode cX0_dropLike 1 = .ok (.istore_n 1, 1) := by decide +kernel
theorem dX0_dropLike_2 : decode cX0_dropLike 2 = .ok (.iconst 0, 1) := by decide +kernel
theorem dX0_dropLike_3 : decode cX0_dropLike 3 = .ok (.istore_n 2, 1) := by decide +kernel
theorem dX0_dropLike_4 : decode cX0_dropLike 4 = .ok (.iload_n 2, 1) := by decide +kernel
theorem dX0_dropLike_5 : decode cX0_dropLike 5 = .ok (.aload_n 0, 1) := by decide +kernel
theorem dX0_dropLike_6 : decode cX0_dropLike 6 = .ok (.getfield 15, 3) := by decide +kernel
theorem dX0_dropLike_9 : decode cX0_dropLike 9 = .ok (.if_icmp .ge 46, 3) := by decide +kernel
theorem dX0_dropLike_12 : decode cX0_dropLike 12 = .ok (.iload_n 1, 1) := by decide +kernel
theorem dX0_dropLike_13 : decode cX0_dropLike 13 = .ok (.ifCond .eq 21, 3) := by decide +kernel
theorem dX0_dropLike_16 : decode cX0_dropLike 16 = .ok (.aload_n 0, 1) := by decide +kernel
theorem dX0_dropLike_17 : decode cX0_dropLike 17 = .ok (.getfield 9, 3) := by decide +kernel
theorem dX0_dropLike_20 : decode cX0_dropLike 20 = .ok (.iload_n 1, 1) := by decide +kernel
theorem dX0_dropLike_21 : decode cX0_dropLike 21 = .ok (.iconst 1, 1) := by decide +kernel
theorem dX0_dropLike_22 : decode cX0_dropLike 22 = .ok (.isub, 1) := by decide +kernel
theorem dX0_dropLike_23 : decode cX0_dropLike 23 = .ok (.laload, 1) := by decide +kernel
theorem dX0_dropLike_24 : decode cX0_dropLike 24 = .ok (.aload_n 0, 1) := by decide +kernel
theorem dX0_dropLike_25 : decode cX0_dropLike 25 = .ok (.getfield 9, 3) := by decide +kernel
theorem dX0_dropLike_28 : decode cX0_dropLike 28 = .ok (.iload_n 2, 1) := by decide +kernel
theorem dX0_dropLike_29 : decode cX0_dropLike 29 = .ok (.laload, 1) := by decide +kernel
theorem dX0_dropLike_30 : decode cX0_dropLike 30 = .ok (.lcmp, 1) := by decide +kernel
theorem dX0_dropLike_31 : decode cX0_dropLike 31 = .ok (.ifCond .eq 18, 3) := by decide +kernel
theorem dX0_dropLike_34 : decode cX0_dropLike 34 = .ok (.aload_n 0, 1) := by decide +kernel
theorem dX0_dropLike_35 : decode cX0_dropLike 35 = .ok (.getfield 9, 3) := by decide +kernel
theorem dX0_dropLike_38 : decode cX0_dropLike 38 = .ok (.iload_n 1, 1) := by decide +kernel
theorem dX0_dropLike_39 : decode cX0_dropLike 39 = .ok (.aload_n 0, 1) := by decide +kernel
theorem dX0_dropLike_40 : decode cX0_dropLike 40 = .ok (.getfield 9, 3) := by decide +kernel
theorem dX0_dropLike_43 : decode cX0_dropLike 43 = .ok (.iload_n 2, 1) := by decide +kernel
theorem dX0_dropLike_44 : decode cX0_dropLike 44 = .ok (.laload, 1) := by decide +kernel
theorem dX0_dropLike_45 : decode cX0_dropLike 45 = .ok (.lastore, 1) := by decide +kernel
theorem dX0_dropLike_46 : decode cX0_dropLike 46 = .ok (.iinc 1 1, 3) := by decide +kernel
theorem dX0_dropLike_49 : decode cX0_dropLike 49 = .ok (.iinc 2 1, 3) := by decide +kernel
theorem dX0_dropLike_52 : decode cX0_dropLike 52 = .ok (.goto (-48), 3) := by decide +kernel
theorem dX0_dropLike_55 : decode cX0_dropLike 55 = .ok (.aload_n 0, 1) := by decide +kernel
theorem dX0_dropLike_56 : decode cX0_dropLike 56 = .ok (.iload_n 1, 1) := by decide +kernel
theorem dX0_dropLike_57 : decode cX0_dropLike 57 = .ok (.putfield 15, 3) := by decide +kernel
theorem dX0_dropLike_60 : decode cX0_dropLike 60 = .ok (.return_, 1) := by decide +kernel
theorem dX0_dropCalled_0 : decode cX0_dropCalled 0 = .ok (.iconst 0, 1) := by decide +kernel
theorem dX0_dropCalled_1 : decode cX0_dropCalled 1 = .ok (.istore_n 3, 1) := by decide +kernel
theorem dX0_dropCalled_2 : decode cX0_dropCalled 2 = .ok (.iconst 0, 1) := by decide +kernel
theorem dX0_dropCalled_3 : decode cX0_dropCalled 3 = .ok (.istore 4, 2) := by decide +kernel
theorem dX0_dropCalled_5 : decode cX0_dropCalled 5 = .ok (.iload 4, 2) := by decide +kernel
theorem dX0_dropCalled_7 : decode cX0_dropCalled 7 = .ok (.aload_n 0, 1) := by decide +kernel
theorem dX0_dropCalled_8 : decode cX0_dropCalled 8 = .ok (.getfield 15, 3) := by decide +kernel
theorem dX0_dropCalled_11 : decode cX0_dropCalled 11 = .ok (.if_icmp .ge 41, 3) := by decide +kernel
theorem dX0_dropCalled_14 : decode cX0_dropCalled 14 = .ok (.aload_n 1, 1) := by decide +kernel
theorem dX0_dropCalled_15 : decode cX0_dropCalled 15 = .ok (.aload_n 0, 1) := by decide +kernel
theorem dX0_dropCalled_16 : decode cX0_dropCalled 16 = .ok (.getfield 9, 3) := by decide +kernel
theorem dX0_dropCalled_19 : decode cX0_dropCalled 19 = .ok (.iload 4, 2) := by decide +kernel
theorem dX0_dropCalled_21 : decode cX0_dropCalled 21 = .ok (.laload, 1) := by decide +kernel
theorem dX0_dropCalled_22 : decode cX0_dropCalled 22 = .ok (.iload_n 2, 1) := by decide +kernel
theorem dX0_dropCalled_23 : decode cX0_dropCalled 23 = .ok (.invokevirtual 78, 3) := by decide +kernel
theorem dX0_dropCalled_26 : decode cX0_dropCalled 26 = .ok (.iconst (-1), 1) := by decide +kernel
theorem dX0_dropCalled_27 : decode cX0_dropCalled 27 = .ok (.if_icmp .ne 19, 3) := by decide +kernel
theorem dX0_dropCalled_30 : decode cX0_dropCalled 30 = .ok (.aload_n 0, 1) := by decide +kernel
theorem dX0_dropCalled_31 : decode cX0_dropCalled 31 = .ok (.getfield 9, 3) := by decide +kernel
theorem dX0_dropCalled_34 : decode cX0_dropCalled 34 = .ok (.iload_n 3, 1) := by decide +kernel
theorem dX0_dropCalled_35 : decode cX0_dropCalled 35 = .ok (.aload_n 0, 1) := by decide +kernel
theorem dX0_dropCalled_36 : decode cX0_dropCalled 36 = .ok (.getfield 9, 3) := by decide +kernel
theorem dX0_dropCalled_39 : decode cX0_dropCalled 39 = .ok (.iload 4, 2) := by decide +kernel
theorem dX0_dropCalled_41 : decode cX0_dropCalled 41 = .ok (.laload, 1) := by decide +kernel
theorem dX0_dropCalled_42 : decode cX0_dropCalled 42 = .ok (.lastore, 1) := by decide +kernel
theorem dX0_dropCalled_43 : decode cX0_dropCalled 43 = .ok (.iinc 3 1, 3) := by decide +kernel
theorem dX0_dropCalled_46 : decode cX0_dropCalled 46 = .ok (.iinc 4 1, 3) := by decide +kernel
theorem dX0_dropCalled_49 : decode cX0_dropCalled 49 = .ok (.goto (-44), 3) := by decide +kernel
theorem dX0_dropCalled_52 : decode cX0_dropCalled 52 = .ok (.aload_n 0, 1) := by decide +kernel
theorem dX0_dropCalled_53 : decode cX0_dropCalled 53 = .ok (.iload_n 3, 1) := by decide +kernel
theorem dX0_dropCalled_54 : decode cX0_dropCalled 54 = .ok (.putfield 15, 3) := by decide +kernel
theorem dX0_dropCalled_57 : decode cX0_dropCalled 57 = .ok (.return_, 1) := by decide +kernel
theorem dX0_dropNoNicknames_0 : decode cX0_dropNoNicknames 0 = .ok (.iconst 0, 1) := by decide +kernel
theorem dX0_dropNoNicknames_1 : decode cX0_dropNoNicknames 1 = .ok (.istore_n 3, 1) := by decide +kernel
theorem dX0_dropNoNicknames_2 : decode cX0_dropNoNicknames 2 = .ok (.iconst 0, 1) := by decide +kernel
theorem dX0_dropNoNicknames_3 : decode cX0_dropNoNicknames 3 = .ok (.istore 4, 2) := by decide +kernel
theorem dX0_dropNoNicknames_5 : decode cX0_dropNoNicknames 5 = .ok (.iload 4, 2) := by decide +kernel
theorem dX0_dropNoNicknames_7 : decode cX0_dropNoNicknames 7 = .ok (.aload_n 0, 1) := by decide +kernel
theorem dX0_dropNoNicknames_8 : decode cX0_dropNoNicknames 8 = .ok (.getfield 15, 3) := by decide +kernel
theorem dX0_dropNoNicknames_11 : decode cX0_dropNoNicknames 11 = .ok (.if_icmp .ge 51, 3) := by decide +kernel
theorem dX0_dropNoNicknames_14 : decode cX0_dropNoNicknames 14 = .ok (.aload_n 0, 1) := by decide +kernel
theorem dX0_dropNoNicknames_15 : decode cX0_dropNoNicknames 15 = .ok (.getfield 9, 3) := by decide +kernel
theorem dX0_dropNoNicknames_18 : decode cX0_dropNoNicknames 18 = .ok (.iload 4, 2) := by decide +kernel
theorem dX0_dropNoNicknames_20 : decode cX0_dropNoNicknames 20 = .ok (.laload, 1) := by decide +kernel
theorem dX0_dropNoNicknames_21 : decode cX0_dropNoNicknames 21 = .ok (.lload_n 1, 1) := by decide +kernel
theorem dX0_dropNoNicknames_22 : decode cX0_dropNoNicknames 22 = .ok (.lcmp, 1) := by decide +kernel
theorem dX0_dropNoNicknames_23 : decode cX0_dropNoNicknames 23 = .ok (.ifCond .eq 33, 3) := by decide +kernel
theorem dX0_dropNoNicknames_26 : decode cX0_dropNoNicknames 26 = .ok (.aload_n 0, 1) := by decide +kernel
theorem dX0_dropNoNicknames_27 : decode cX0_dropNoNicknames 27 = .ok (.getfield 9, 3) := by decide +kernel
theorem dX0_dropNoNicknames_30 : decode cX0_dropNoNicknames 30 = .ok (.iload 4, 2) := by decide +kernel
theorem dX0_dropNoNicknames_32 : decode cX0_dropNoNicknames 32 = .ok (.laload, 1) := by decide +kernel
theorem dX0_dropNoNicknames_33 : decode cX0_dropNoNicknames 33 = .ok (.lload_n 1, 1) := by decide +kernel
theorem dX0_dropNoNicknames_34 : decode cX0_dropNoNicknames 34 = .ok (.invokestatic 82, 3) := by decide +kernel
theorem dX0_dropNoNicknames_37 : decode cX0_dropNoNicknames 37 = .ok (.ifCond .eq 19, 3) := by decide +kernel
theorem dX0_dropNoNicknames_40 : decode cX0_dropNoNicknames 40 = .ok (.aload_n 0, 1) := by decide +kernel
theorem dX0_dropNoNicknames_41 : decode cX0_dropNoNicknames 41 = .ok (.getfield 9, 3) := by decide +kernel
theorem dX0_dropNoNicknames_44 : decode cX0_dropNoNicknames 44 = .ok (.iload_n 3, 1) := by decide +kernel
theorem dX0_dropNoNicknames_45 : decode cX0_dropNoNicknames 45 = .ok (.aload_n 0, 1) := by decide +kernel
theorem dX0_dropNoNicknames_46 : decode cX0_dropNoNicknames 46 = .ok (.getfield 9, 3) := by decide +kernel
theorem dX0_dropNoNicknames_49 : decode cX0_dropNoNicknames 49 = .ok (.iload 4, 2) := by decide +kernel
theorem dX0_dropNoNicknames_51 : decode cX0_dropNoNicknames 51 = .ok (.laload, 1) := by decide +kernel
theorem dX0_dropNoNicknames_52 : decode cX0_dropNoNicknames 52 = .ok (.lastore, 1) := by decide +kernel
theorem dX0_dropNoNicknames_53 : decode cX0_dropNoNicknames 53 = .ok (.iinc 3 1, 3) := by decide +kernel
theorem dX0_dropNoNicknames_56 : decode cX0_dropNoNicknames 56 = .ok (.iinc 4 1, 3) := by decide +kernel
theorem dX0_dropNoNicknames_59 : decode cX0_dropNoNicknames 59 = .ok (.goto (-54), 3) := by decide +kernel
theorem dX0_dropNoNicknames_62 : decode cX0_dropNoNicknames 62 = .ok (.aload_n 0, 1) := by decide +kernel
theorem dX0_dropNoNicknames_63 : decode cX0_dropNoNicknames 63 = .ok (.iload_n 3, 1) := by decide +kernel
theorem dX0_dropNoNicknames_64 : decode cX0_dropNoNicknames 64 = .ok (.putfield 15, 3) := by decide +kernel
theorem dX0_dropNoNicknames_67 : decode cX0_dropNoNicknames 67 = .ok (.return_, 1) := by decide +kernel
theorem dX1_init_0 : decode cX1_init 0 = .ok (.aload_n 0, 1) := by decide +kernel
theorem dX1_init_1 : decode cX1_init 1 = .ok (.invokespecial 3, 3) := by decide +kernel
theorem dX1_init_4 : decode cX1_init 4 = .ok (.aload_n 0, 1) := by decide +kernel
theorem dX1_init_5 : decode cX1_init 5 = .ok (.iconst 0, 1) := by decide +kernel
theorem dX1_init_6 : decode cX1_init 6 = .ok (.putfield 9, 3) := by decide +kernel
theorem dX1_init_9 : decode cX1_init 9 = .ok (.aload_n 0, 1) := by decide +kernel
theorem dX1_init_10 : decode cX1_init 10 = .ok (.iconst 5, 1) := by decide +kernel
theorem dX1_init_11 : decode cX1_init 11 = .ok (.newarray .int, 2) := by decide +kernel
theorem dX1_init_13 : decode cX1_init 13 = .ok (.putfield 15, 3) := by decide +kernel
theorem dX1_init_16 : decode cX1_init 16 = .ok (.aload_n 0, 1) := by decide +kernel
theorem dX1_init_17 : decode cX1_init 17 = .ok (.iconst 0, 1) := by decide +kernel
theorem dX1_init_18 : decode cX1_init 18 = .ok (.putfield 19, 3) := by decide +kernel
theorem dX1_init_21 : decode cX1_init 21 = .ok (.aload_n 0, 1) := by decide +kernel
theorem dX1_init_22 : decode cX1_init 22 = .ok (.bipush 16, 2) := by decide +kernel
theorem dX1_init_24 : decode cX1_init 24 = .ok (.iconst 5, 1) := by decide +kernel
theorem dX1_init_25 : decode cX1_init 25 = .ok (.multianewarray 22 2, 4) := by decide +kernel
theorem dX1_init_29 : decode cX1_init 29 = .ok (.putfield 24, 3) := by decide +kernel
theorem dX1_init_32 : decode cX1_init 32 = .ok (.aload_n 0, 1) := by decide +kernel
theorem dX1_init_33 : decode cX1_init 33 = .ok (.bipush 16, 2) := by decide +kernel
theorem dX1_init_35 : decode cX1_init 35 = .ok (.iconst 5, 1) := by decide +kernel
theorem dX1_init_36 : decode cX1_init 36 = .ok (.multianewarray 22 2, 4) := by decide +kernel
theorem dX1_init_40 : decode cX1_init 40 = .ok (.putfield 27, 3) := by decide +kernel
theorem dX1_init_43 : decode cX1_init 43 = .ok (.aload_n 0, 1) := by decide +kernel
theorem dX1_init_44 : decode cX1_init 44 = .ok (.bipush 16, 2) := by decide +kernel
theorem dX1_init_46 : decode cX1_init 46 = .ok (.newarray .int, 2) := by decide +kernel
theorem dX1_init_48 : decode cX1_init 48 = .ok (.putfield 30, 3) := by decide +kernel
theorem dX1_init_51 : decode cX1_init 51 = .ok (.aload_n 0, 1) := by decide +kernel
theorem dX1_init_52 : decode cX1_init 52 = .ok (.iconst 0, 1) := by decide +kernel
theorem dX1_init_53 : decode cX1_init 53 = .ok (.putfield 33, 3) := by decide +kernel
theorem dX1_init_56 : decode cX1_init 56 = .ok (.aload_n 0, 1) := by decide +kernel
theorem dX1_init_57 : decode cX1_init 57 = .ok (.iconst 5, 1) := by decide +kernel
theorem dX1_init_58 : decode cX1_init 58 = .ok (.newarray .int, 2) := by decide +kernel
theorem dX1_init_60 : decode cX1_init 60 = .ok (.putfield 36, 3) := by decide +kernel
theorem dX1_init_63 : decode cX1_init 63 = .ok (.aload_n 0, 1) := by decide +kernel
theorem dX1_init_64 : decode cX1_init 64 = .ok (.iconst 5, 1) := by decide +kernel
theorem dX1_init_65 : decode cX1_init 65 = .ok (.newarray .int, 2) := by decide +kernel
theorem dX1_init_67 : decode cX1_init 67 = .ok (.putfield 39, 3) := by decide +kernel
theorem dX1_init_70 : decode cX1_init 70 = .ok (.aload_n 0, 1) := by decide +kernel
theorem dX1_init_71 : decode cX1_init 71 = .ok (.iconst 0, 1) := by decide +kernel
theorem dX1_init_72 : decode cX1_init 72 = .ok (.putfield 42, 3) := by decide +kernel
theorem dX1_init_75 : decode cX1_init 75 = .ok (.return_, 1) := by decide +kernel
theorem dX1_solve_0 : decode cX1_solve 0 = .ok (.aload_n 0, 1) := by decide +kernel
theorem dX1_solve_1 : decode cX1_solve 1 = .ok (.iconst 0, 1) := by decide +kernel
theorem dX1_solve_2 : decode cX1_solve 2 = .ok (.putfield 9, 3) := by decide +kernel
theorem dX1_solve_5 : decode cX1_solve 5 = .ok (.aload_n 0, 1) := by decide +kernel
theorem dX1_solve_6 : decode cX1_solve 6 = .ok (.iload_n 2, 1) := by decide +kernel
theorem dX1_solve_7 : decode cX1_solve 7 = .ok (.putfield 42, 3) := by decide +kernel
theorem dX1_solve_10 : decode cX1_solve 10 = .ok (.aload_n 0, 1) := by decide +kernel
theorem dX1_solve_11 : decode cX1_solve 11 = .ok (.aload_n 1, 1) := by decide +kernel
theorem dX1_solve_12 : decode cX1_solve 12 = .ok (.invokevirtual 45, 3) := by decide +kernel
theorem dX1_solve_15 : decode cX1_solve 15 = .ok (.ifCond .ne 5, 3) := by decide +kernel
theorem dX1_solve_18 : decode cX1_solve 18 = .ok (.iconst 0, 1) := by decide +kernel
theorem dX1_solve_19 : decode cX1_solve 19 = .ok (.ireturn, 1) := by decide +kernel
theorem dX1_solve_20 : decode cX1_solve 20 = .ok (.aload_n 0, 1) := by decide +kernel
theorem dX1_solve_21 : decode cX1_solve 21 = .ok (.iconst 0, 1) := by decide +kernel
theorem dX1_solve_22 : decode cX1_solve 22 = .ok (.putfield 33, 3) := by decide +kernel
theorem dX1_solve_25 : decode cX1_solve 25 = .ok (.iconst 0, 1) := by decide +kernel
theorem dX1_solve_26 : decode cX1_solve 26 = .ok (.istore_n 3, 1) := by decide +kernel
theorem dX1_solve_27 : decode cX1_solve 27 = .ok (.iload_n 3, 1) := by decide +kernel
theorem dX1_solve_28 : decode cX1_solve 28 = .ok (.aload_n 1, 1) := by decide +kernel
theorem dX1_solve_29 : decode cX1_solve 29 = .ok (.getfield 49, 3) := by decide +kernel
theorem dX1_solve_32 : decode cX1_solve 32 = .ok (.if_icmp .ge 36, 3) := by decide +kernel
theorem dX1_solve_35 : decode cX1_solve 35 = .ok (.aload_n 1, 1) := by decide +kernel
theorem dX1_solve_36 : decode cX1_solve 36 = .ok (.getfield 54, 3) := by decide +kernel
theorem dX1_solve_39 : decode cX1_solve 39 = .ok (.iload_n 3, 1) := by decide +kernel
theorem dX1_solve_40 : decode cX1_solve 40 = .ok (.laload, 1) := by decide +kernel
theorem dX1_solve_41 : decode cX1_solve 41 = .ok (.lconst 0, 1) := by decide +kernel
theorem dX1_solve_42 : decode cX1_solve 42 = .ok (.lcmp, 1) := by decide +kernel
theorem dX1_solve_43 : decode cX1_solve 43 = .ok (.ifCond .eq 19, 3) := by decide +kernel
theorem dX1_solve_46 : decode cX1_solve 46 = .ok (.aload_n 0, 1) := by decide +kernel
theorem dX1_solve_47 : decode cX1_solve 47 = .ok (.aload_n 1, 1) := by decide +kernel
theorem dX1_solve_48 : decode cX1_solve 48 = .ok (.getfield 54, 3) := by decide +kernel
theorem dX1_solve_51 : decode cX1_solve 51 = .ok (.iload_n 3, 1) := by decide +kernel
theorem dX1_solve_52 : decode cX1_solve 52 = .ok (.laload, 1) := by decide +kernel
theorem dX1_solve_53 : decode cX1_solve 53 = .ok (.aload_n 1, 1) := by decide +kernel
theorem dX1_solve_54 : decode cX1_solve 54 = .ok (.getfield 58, 3) := by decide +kernel
theorem dX1_solve_57 : decode cX1_solve 57 = .ok (.iload_n 3, 1) := by decide +kernel
theorem dX1_solve_58 : decode cX1_solve 58 = .ok (.iaload, 1) := by decide +kernel
theorem dX1_solve_59 : decode cX1_solve 59 = .ok (.invokevirtual 61, 3) := by decide +kernel
theorem dX1_solve_62 : decode cX1_solve 62 = .ok (.iinc 3 1, 3) := by decide +kernel
theorem dX1_solve_65 : decode cX1_solve 65 = .ok (.goto (-38), 3) := by decide +kernel
theorem dX1_solve_68 : decode cX1_solve 68 = .ok (.aload_n 0, 1) := by decide +kernel
theorem dX1_solve_69 : decode cX1_solve 69 = .ok (.iconst 0, 1) := by decide +kernel
theorem dX1_solve_70 : decode cX1_solve 70 = .ok (.invokevirtual 65, 3) := by decide +kernel
theorem dX1_solve_73 : decode cX1_solve 73 = .ok (.iconst 1, 1) := by decide +kernel
theorem dX1_solve_74 : decode cX1_solve 74 = .ok (.ireturn, 1) := by decide +kernel
theorem dX1_findLetters_0 : decode cX1_findLetters 0 = .ok (.aload_n 0, 1) := by decide +kernel
theorem dX1_findLetters_1 : decode cX1_findLetters 1 = .ok (.iconst 0, 1) := by decide +kernel
theorem dX1_findLetters_2 : decode cX1_findLetters 2 = .ok (.putfield 19, 3) := by decide +kernel
theorem dX1_findLetters_5 : decode cX1_findLetters 5 = .ok (.iconst 0, 1) := by decide +kernel
theorem dX1_findLetters_6 : decode cX1_findLetters 6 = .ok (.istore_n 2, 1) := by decide +kernel
theorem dX1_findLetters_7 : decode cX1_findLetters 7 = .ok (.iload_n 2, 1) := by decide +kernel
theorem dX1_findLetters_8 : decode cX1_findLetters 8 = .ok (.bipush 26, 2) := by decide +kernel
theorem dX1_findLetters_10 : decode cX1_findLetters 10 = .ok (.if_icmp .ge 47, 3) := by decide +kernel
theorem dX1_findLetters_13 : decode cX1_findLetters 13 = .ok (.aload_n 1, 1) := by decide +kernel
theorem dX1_findLetters_14 : decode cX1_findLetters 14 = .ok (.iload_n 2, 1) := by decide +kernel
theorem dX1_findLetters_15 : decode cX1_findLetters 15 = .ok (.invokestatic 69, 3) := by decide +kernel
theorem dX1_findLetters_18 : decode cX1_findLetters 18 = .ok (.ifCond .eq 33, 3) := by decide +kernel
theorem dX1_findLetters_21 : decode cX1_findLetters 21 = .ok (.aload_n 0, 1) := by decide +kernel
theorem dX1_findLetters_22 : decode cX1_findLetters 22 = .ok (.getfield 19, 3) := by decide +kernel
theorem dX1_findLetters_25 : decode cX1_findLetters 25 = .ok (.iconst 5, 1) := by decide +kernel
theorem dX1_findLetters_26 : decode cX1_findLetters 26 = .ok (.if_icmp .lt 5, 3) := by decide +kernel
theorem dX1_findLetters_29 : decode cX1_findLetters 29 = .ok (.iconst 0, 1) := by decide +kernel
theorem dX1_findLetters_30 : decode cX1_findLetters 30 = .ok (.ireturn, 1) := by decide +kernel
theorem dX1_findLetters_31 : decode cX1_findLetters 31 = .ok (.aload_n 0, 1) := by decide +kernel
theorem dX1_findLetters_32 : decode cX1_findLetters 32 = .ok (.getfield 15, 3) := by decide +kernel
theorem dX1_findLetters_35 : decode cX1_findLetters 35 = .ok (.aload_n 0, 1) := by decide +kernel
theorem dX1_findLetters_36 : decode cX1_findLetters 36 = .ok (.getfield 19, 3) := by decide +kernel
theorem dX1_findLetters_39 : decode cX1_findLetters 39 = .ok (.iload_n 2, 1) := by decide +kernel
theorem dX1_findLetters_40 : decode cX1_findLetters 40 = .ok (.iastore, 1) := by decide +kernel
theorem dX1_findLetters_41 : decode cX1_findLetters 41 = .ok (.aload_n 0, 1) := by decide +kernel
theorem dX1_findLetters_42 : decode cX1_findLetters 42 = .ok (.dup, 1) := by decide +kernel
theorem dX1_findLetters_43 : decode cX1_findLetters 43 = .ok (.getfield 19, 3) := by decide +kernel
theorem dX1_findLetters_46 : decode cX1_findLetters 46 = .ok (.iconst 1, 1) := by decide +kernel
theorem dX1_findLetters_47 : decode cX1_findLetters 47 = .ok (.iadd, 1) := by decide +kernel
theorem dX1_findLetters_48 : decode cX1_findLetters 48 = .ok (.putfield 19, 3) := by decide +kernel
theorem dX1_findLetters_51 : decode cX1_findLetters 51 = .ok (.iinc 2 1, 3) := by decide +kernel
theorem dX1_findLetters_54 : decode cX1_findLetters 54 = .ok (.goto (-47), 3) := by decide +kernel
theorem dX1_findLetters_57 : decode cX1_findLetters 57 = .ok (.iconst 1, 1) := by decide +kernel
theorem dX1_findLetters_58 : decode cX1_findLetters 58 = .ok (.ireturn, 1) := by decide +kernel
theorem dX1_isInAny_0 : decode cX1_isInAny 0 = .ok (.iconst 0, 1) := by decide +kernel
theorem dX1_isInAny_1 : decode cX1_isInAny 1 = .ok (.istore_n 2, 1) := by decide +kernel
theorem dX1_isInAny_2 : decode cX1_isInAny 2 = .ok (.iload_n 2, 1) := by decide +kernel
theorem dX1_isInAny_3 : decode cX1_isInAny 3 = .ok (.aload_n 0, 1) := by decide +kernel
theorem dX1_isInAny_4 : decode cX1_isInAny 4 = .ok (.getfield 49, 3) := by decide +kernel
theorem dX1_isInAny_7 : decode cX1_isInAny 7 = .ok (.if_icmp .ge 24, 3) := by decide +kernel
theorem dX1_isInAny_10 : decode cX1_isInAny 10 = .ok (.aload_n 0, 1) := by decide +kernel
theorem dX1_isInAny_11 : decode cX1_isInAny 11 = .ok (.getfield 54, 3) := by decide +kernel
theorem dX1_isInAny_14 : decode cX1_isInAny 14 = .ok (.iload_n 2, 1) := by decide +kernel
theorem dX1_isInAny_15 : decode cX1_isInAny 15 = .ok (.laload, 1) := by decide +kernel
theorem dX1_isInAny_16 : decode cX1_isInAny 16 = .ok (.iload_n 1, 1) := by decide +kernel
theorem dX1_isInAny_17 : decode cX1_isInAny 17 = .ok (.invokestatic 73, 3) := by decide +kernel
theorem dX1_isInAny_20 : decode cX1_isInAny 20 = .ok (.ifCond .le 5, 3) := by decide +kernel
theorem dX1_isInAny_23 : decode cX1_isInAny 23 = .ok (.iconst 1, 1) := by decide +kernel
theorem dX1_isInAny_24 : decode cX1_isInAny 24 = .ok (.ireturn, 1) := by decide +kernel
theorem dX1_isInAny_25 : decode cX1_isInAny 25 = .ok (.iinc 2 1, 3) := by decide +kernel
theorem dX1_isInAny_28 : decode cX1_isInAny 28 = .ok (.goto (-26), 3) := by decide +kernel
theorem dX1_isInAny_31 : decode cX1_isInAny 31 = .ok (.iconst 0, 1) := by decide +kernel
theorem dX1_isInAny_32 : decode cX1_isInAny 32 = .ok (.ireturn, 1) := by decide +kernel
theorem dX1_addWord_0 : decode cX1_addWord 0 = .ok (.iconst 0, 1) := by decide +kernel
theorem dX1_addWord_1 : decode cX1_addWord 1 = .ok (.istore 4, 2) := by decide +kernel
theorem dX1_addWord_3 : decode cX1_addWord 3 = .ok (.aload_n 0, 1) := by decide +kernel
theorem dX1_addWord_4 : decode cX1_addWord 4 = .ok (.getfield 19, 3) := by decide +kernel
theorem dX1_addWord_7 : decode cX1_addWord 7 = .ok (.iconst 1, 1) := by decide +kernel
theorem dX1_addWord_8 : decode cX1_addWord 8 = .ok (.isub, 1) := by decide +kernel
theorem dX1_addWord_9 : decode cX1_addWord 9 = .ok (.istore 5, 2) := by decide +kernel
theorem dX1_addWord_11 : decode cX1_addWord 11 = .ok (.iload 5, 2) := by decide +kernel
theorem dX1_addWord_13 : decode cX1_addWord 13 = .ok (.ifCond .lt 63, 3) := by decide +kernel
theorem dX1_addWord_16 : decode cX1_addWord 16 = .ok (.aload_n 0, 1) := by decide +kernel
theorem dX1_addWord_17 : decode cX1_addWord 17 = .ok (.getfield 27, 3) := by decide +kernel
theorem dX1_addWord_20 : decode cX1_addWord 20 = .ok (.aload_n 0, 1) := by decide +kernel
theorem dX1_addWord_21 : decode cX1_addWord 21 = .ok (.getfield 33, 3) := by decide +kernel
theorem dX1_addWord_24 : decode cX1_addWord 24 = .ok (.aaload, 1) := by decide +kernel
theorem dX1_addWord_25 : decode cX1_addWord 25 = .ok (.iload 5, 2) := by decide +kernel
theorem dX1_addWord_27 : decode cX1_addWord 27 = .ok (.iload 4, 2) := by decide +kernel
theorem dX1_addWord_29 : decode cX1_addWord 29 = .ok (.iastore, 1) := by decide +kernel
theorem dX1_addWord_30 : decode cX1_addWord 30 = .ok (.aload_n 0, 1) := by decide +kernel
theorem dX1_addWord_31 : decode cX1_addWord 31 = .ok (.getfield 24, 3) := by decide +kernel
theorem dX1_addWord_34 : decode cX1_addWord 34 = .ok (.aload_n 0, 1) := by decide +kernel
theorem dX1_addWord_35 : decode cX1_addWord 35 = .ok (.getfield 33, 3) := by decide +kernel
theorem dX1_addWord_38 : decode cX1_addWord 38 = .ok (.aaload, 1) := by decide +kernel
theorem dX1_addWord_39 : decode cX1_addWord 39 = .ok (.iload 5, 2) := by decide +kernel
theorem dX1_addWord_41 : decode cX1_addWord 41 = .ok (.lload_n 1, 1) := by decide +kernel
theorem dX1_addWord_42 : decode cX1_addWord 42 = .ok (.aload_n 0, 1) := by decide +kernel
theorem dX1_addWord_43 : decode cX1_addWord 43 = .ok (.getfield 15, 3) := by decide +kernel
theorem dX1_addWord_46 : decode cX1_addWord 46 = .ok (.iload 5, 2) := by decide +kernel
theorem dX1_addWord_48 : decode cX1_addWord 48 = .ok (.iaload, 1) := by decide +kernel
theorem dX1_addWord_49 : decode cX1_addWord 49 = .ok (.invokestatic 73, 3) := by decide +kernel
theorem dX1_addWord_52 : decode cX1_addWord 52 = .ok (.iastore, 1) := by decide +kernel
theorem dX1_addWord_53 : decode cX1_addWord 53 = .ok (.iload 4, 2) := by decide +kernel
theorem dX1_addWord_55 : decode cX1_addWord 55 = .ok (.aload_n 0, 1) := by decide +kernel
theorem dX1_addWord_56 : decode cX1_addWord 56 = .ok (.getfield 24, 3) := by decide +kernel
theorem dX1_addWord_59 : decode cX1_addWord 59 = .ok (.aload_n 0, 1) := by decide +kernel
theorem dX1_addWord_60 : decode cX1_addWord 60 = .ok (.getfield 33, 3) := by decide +kernel
theorem dX1_addWord_63 : decode cX1_addWord 63 = .ok (.aaload, 1) := by decide +kernel
theorem dX1_addWord_64 : decode cX1_addWord 64 = .ok (.iload 5, 2) := by decide +kernel
theorem dX1_addWord_66 : decode cX1_addWord 66 = .ok (.iaload, 1) := by decide +kernel
theorem dX1_addWord_67 : decode cX1_addWord 67 = .ok (.iadd, 1) := by decide +kernel
theorem dX1_addWord_68 : decode cX1_addWord 68 = .ok (.istore 4, 2) := by decide +kernel
theorem dX1_addWord_70 : decode cX1_addWord 70 = .ok (.iinc 5 (-1), 3) := by decide +kernel
theorem dX1_addWord_73 : decode cX1_addWord 73 = .ok (.goto (-62), 3) := by decide +kernel
theorem dX1_addWord_76 : decode cX1_addWord 76 = .ok (.aload_n 0, 1) := by decide +kernel
theorem dX1_addWord_77 : decode cX1_addWord 77 = .ok (.getfield 30, 3) := by decide +kernel
theorem dX1_addWord_80 : decode cX1_addWord 80 = .ok (.aload_n 0, 1) := by decide +kernel
theorem dX1_addWord_81 : decode cX1_addWord 81 = .ok (.getfield 33, 3) := by decide +kernel
theorem dX1_addWord_84 : decode cX1_addWord 84 = .ok (.iload_n 3, 1) := by decide +kernel
theorem dX1_addWord_85 : decode cX1_addWord 85 = .ok (.iastore, 1) := by decide +kernel
theorem dX1_addWord_86 : decode cX1_addWord 86 = .ok (.aload_n 0, 1) := by decide +kernel
theorem dX1_addWord_87 : decode cX1_addWord 87 = .ok (.dup, 1) := by decide +kernel
theorem dX1_addWord_88 : decode cX1_addWord 88 = .ok (.getfield 33, 3) := by decide +kernel
theorem dX1_addWord_91 : decode cX1_addWord 91 = .ok (.iconst 1, 1) := by decide +kernel
theorem dX1_addWord_92 : decode cX1_addWord 92 = .ok (.iadd, 1) := by decide +kernel
theorem dX1_addWord_93 : decode cX1_addWord 93 = .ok (.putfield 33, 3) := by decide +kernel
theorem dX1_addWord_96 : decode cX1_addWord 96 = .ok (.return_, 1) := by decide +kernel
theorem dX1_give_0 : decode cX1_give 0 = .ok (.iload_n 1, 1) := by decide +kernel
theorem dX1_give_1 : decode cX1_give 1 = .ok (.aload_n 0, 1) := by decide +kernel
theorem dX1_give_2 : decode cX1_give 2 = .ok (.getfield 19, 3) := by decide +kernel
theorem dX1_give_5 : decode cX1_give 5 = .ok (.if_icmp .lt 8, 3) := by decide +kernel
theorem dX1_give_8 : decode cX1_give 8 = .ok (.aload_n 0, 1) := by decide +kernel
theorem dX1_give_9 : decode cX1_give 9 = .ok (.invokevirtual 77, 3) := by decide +kernel
theorem dX1_give_12 : decode cX1_give 12 = .ok (.return_, 1) := by decide +kernel
theorem dX1_give_13 : decode cX1_give 13 = .ok (.aload_n 0, 1) := by decide +kernel
theorem dX1_give_14 : decode cX1_give 14 = .ok (.iload_n 1, 1) := by decide +kernel
theorem dX1_give_15 : decode cX1_give 15 = .ok (.invokevirtual 80, 3) := by decide +kernel
theorem dX1_give_18 : decode cX1_give 18 = .ok (.istore_n 2, 1) := by decide +kernel
theorem dX1_give_19 : decode cX1_give 19 = .ok (.aload_n 0, 1) := by decide +kernel
theorem dX1_give_20 : decode cX1_give 20 = .ok (.iload_n 1, 1) := by decide +kernel
theorem dX1_give_21 : decode cX1_give 21 = .ok (.invokevirtual 84, 3) := by decide +kernel
theorem dX1_give_24 : decode cX1_give 24 = .ok (.istore_n 3, 1) := by decide +kernel
theorem dX1_give_25 : decode cX1_give 25 = .ok (.iload_n 3, 1) := by decide +kernel
theorem dX1_give_26 : decode cX1_give 26 = .ok (.iload_n 2, 1) := by decide +kernel
theorem dX1_give_27 : decode cX1_give 27 = .ok (.if_icmp .gt 36, 3) := by decide +kernel
theorem dX1_give_30 : decode cX1_give 30 = .ok (.aload_n 0, 1) := by decide +kernel
theorem dX1_give_31 : decode cX1_give 31 = .ok (.getfield 36, 3) := by decide +kernel
theorem dX1_give_34 : decode cX1_give 34 = .ok (.iload_n 1, 1) := by decide +kernel
theorem dX1_give_35 : decode cX1_give 35 = .ok (.iload_n 3, 1) := by decide +kernel
theorem dX1_give_36 : decode cX1_give 36 = .ok (.iastore, 1) := by decide +kernel
theorem dX1_give_37 : decode cX1_give 37 = .ok (.aload_n 0, 1) := by decide +kernel
theorem dX1_give_38 : decode cX1_give 38 = .ok (.iload_n 1, 1) := by decide +kernel
theorem dX1_give_39 : decode cX1_give 39 = .ok (.iload_n 3, 1) := by decide +kernel
theorem dX1_give_40 : decode cX1_give 40 = .ok (.invokevirtual 87, 3) := by decide +kernel
theorem dX1_give_43 : decode cX1_give 43 = .ok (.aload_n 0, 1) := by decide +kernel
theorem dX1_give_44 : decode cX1_give 44 = .ok (.iload_n 1, 1) := by decide +kernel
theorem dX1_give_45 : decode cX1_give 45 = .ok (.iconst 1, 1) := by decide +kernel
theorem dX1_give_46 : decode cX1_give 46 = .ok (.iadd, 1) := by decide +kernel
theorem dX1_give_47 : decode cX1_give 47 = .ok (.invokevirtual 65, 3) := by decide +kernel
theorem dX1_give_50 : decode cX1_give 50 = .ok (.aload_n 0, 1) := by decide +kernel
theorem dX1_give_51 : decode cX1_give 51 = .ok (.iload_n 1, 1) := by decide +kernel
theorem dX1_give_52 : decode cX1_give 52 = .ok (.iload_n 3, 1) := by decide +kernel
theorem dX1_give_53 : decode cX1_give 53 = .ok (.ineg, 1) := by decide +kernel
theorem dX1_give_54 : decode cX1_give 54 = .ok (.invokevirtual 87, 3) := by decide +kernel
theorem dX1_give_57 : decode cX1_give 57 = .ok (.iinc 3 1, 3) := by decide +kernel
theorem dX1_give_60 : decode cX1_give 60 = .ok (.goto (-35), 3) := by decide +kernel
theorem dX1_give_63 : decode cX1_give 63 = .ok (.return_, 1) := by decide +kernel
theorem dX1_addWay_0 : decode cX1_addWay 0 = .ok (.aload_n 0, 1) := by decide +kernel
theorem dX1_addWay_1 : decode cX1_addWay 1 = .ok (.getfield 9, 3) := by decide +kernel
theorem dX1_addWay_4 : decode cX1_addWay 4 = .ok (.ifCond .ne 20, 3) := by decide +kernel
theorem dX1_addWay_7 : decode cX1_addWay 7 = .ok (.aload_n 0, 1) := by decide +kernel
theorem dX1_addWay_8 : decode cX1_addWay 8 = .ok (.getfield 36, 3) := by decide +kernel
theorem dX1_addWay_11 : decode cX1_addWay 11 = .ok (.iconst 0, 1) := by decide +kernel
theorem dX1_addWay_12 : decode cX1_addWay 12 = .ok (.aload_n 0, 1) := by decide +kernel
theorem dX1_addWay_13 : decode cX1_addWay 13 = .ok (.getfield 39, 3) := by decide +kernel
theorem dX1_addWay_16 : decode cX1_addWay 16 = .ok (.iconst 0, 1) := by decide +kernel
theorem dX1_addWay_17 : decode cX1_addWay 17 = .ok (.aload_n 0, 1) := by decide +kernel
theorem dX1_addWay_18 : decode cX1_addWay 18 = .ok (.getfield 19, 3) := by decide +kernel
theorem dX1_addWay_21 : decode cX1_addWay 21 = .ok (.invokestatic 91, 3) := by decide +kernel
theorem dX1_addWay_24 : decode cX1_addWay 24 = .ok (.aload_n 0, 1) := by decide +kernel
theorem dX1_addWay_25 : decode cX1_addWay 25 = .ok (.dup, 1) := by decide +kernel
theorem dX1_addWay_26 : decode cX1_addWay 26 = .ok (.getfield 9, 3) := by decide +kernel
theorem dX1_addWay_29 : decode cX1_addWay 29 = .ok (.iconst 1, 1) := by decide +kernel
theorem dX1_addWay_30 : decode cX1_addWay 30 = .ok (.iadd, 1) := by decide +kernel
theorem dX1_addWay_31 : decode cX1_addWay 31 = .ok (.putfield 9, 3) := by decide +kernel
theorem dX1_addWay_34 : decode cX1_addWay 34 = .ok (.return_, 1) := by decide +kernel
theorem dX1_leastFor_0 : decode cX1_leastFor 0 = .ok (.iconst 1, 1) := by decide +kernel
theorem dX1_leastFor_1 : decode cX1_leastFor 1 = .ok (.istore_n 2, 1) := by decide +kernel
theorem dX1_leastFor_2 : decode cX1_leastFor 2 = .ok (.iconst 0, 1) := by decide +kernel
theorem dX1_leastFor_3 : decode cX1_leastFor 3 = .ok (.istore_n 3, 1) := by decide +kernel
theorem dX1_leastFor_4 : decode cX1_leastFor 4 = .ok (.iload_n 3, 1) := by decide +kernel
theorem dX1_leastFor_5 : decode cX1_leastFor 5 = .ok (.aload_n 0, 1) := by decide +kernel
theorem dX1_leastFor_6 : decode cX1_leastFor 6 = .ok (.getfield 33, 3) := by decide +kernel
theorem dX1_leastFor_9 : decode cX1_leastFor 9 = .ok (.if_icmp .ge 62, 3) := by decide +kernel
theorem dX1_leastFor_12 : decode cX1_leastFor 12 = .ok (.aload_n 0, 1) := by decide +kernel
theorem dX1_leastFor_13 : decode cX1_leastFor 13 = .ok (.getfield 24, 3) := by decide +kernel
theorem dX1_leastFor_16 : decode cX1_leastFor 16 = .ok (.iload_n 3, 1) := by decide +kernel
theorem dX1_leastFor_17 : decode cX1_leastFor 17 = .ok (.aaload, 1) := by decide +kernel
theorem dX1_leastFor_18 : decode cX1_leastFor 18 = .ok (.iload_n 1, 1) := by decide +kernel
theorem dX1_leastFor_19 : decode cX1_leastFor 19 = .ok (.iaload, 1) := by decide +kernel
theorem dX1_leastFor_20 : decode cX1_leastFor 20 = .ok (.ifCond .le 45, 3) := by decide +kernel
theorem dX1_leastFor_23 : decode cX1_leastFor 23 = .ok (.aload_n 0, 1) := by decide +kernel
theorem dX1_leastFor_24 : decode cX1_leastFor 24 = .ok (.getfield 30, 3) := by decide +kernel
theorem dX1_leastFor_27 : decode cX1_leastFor 27 = .ok (.iload_n 3, 1) := by decide +kernel
theorem dX1_leastFor_28 : decode cX1_leastFor 28 = .ok (.iaload, 1) := by decide +kernel
theorem dX1_leastFor_29 : decode cX1_leastFor 29 = .ok (.aload_n 0, 1) := by decide +kernel
theorem dX1_leastFor_30 : decode cX1_leastFor 30 = .ok (.getfield 27, 3) := by decide +kernel
theorem dX1_leastFor_33 : decode cX1_leastFor 33 = .ok (.iload_n 3, 1) := by decide +kernel
theorem dX1_leastFor_34 : decode cX1_leastFor 34 = .ok (.aaload, 1) := by decide +kernel
theorem dX1_leastFor_35 : decode cX1_leastFor 35 = .ok (.iload_n 1, 1) := by decide +kernel
theorem dX1_leastFor_36 : decode cX1_leastFor 36 = .ok (.iaload, 1) := by decide +kernel
theorem dX1_leastFor_37 : decode cX1_leastFor 37 = .ok (.aload_n 0, 1) := by decide +kernel
theorem dX1_leastFor_38 : decode cX1_leastFor 38 = .ok (.getfield 42, 3) := by decide +kernel
theorem dX1_leastFor_41 : decode cX1_leastFor 41 = .ok (.imul, 1) := by decide +kernel
theorem dX1_leastFor_42 : decode cX1_leastFor 42 = .ok (.isub, 1) := by decide +kernel
theorem dX1_leastFor_43 : decode cX1_leastFor 43 = .ok (.istore 4, 2) := by decide +kernel
theorem dX1_leastFor_45 : decode cX1_leastFor 45 = .ok (.iload_n 2, 1) := by decide +kernel
theorem dX1_leastFor_46 : decode cX1_leastFor 46 = .ok (.iload 4, 2) := by decide +kernel
theorem dX1_leastFor_48 : decode cX1_leastFor 48 = .ok (.ineg, 1) := by decide +kernel
theorem dX1_leastFor_49 : decode cX1_leastFor 49 = .ok (.aload_n 0, 1) := by decide +kernel
theorem dX1_leastFor_50 : decode cX1_leastFor 50 = .ok (.getfield 24, 3) := by decide +kernel
theorem dX1_leastFor_53 : decode cX1_leastFor 53 = .ok (.iload_n 3, 1) := by decide +kernel
theorem dX1_leastFor_54 : decode cX1_leastFor 54 = .ok (.aaload, 1) := by decide +kernel
theorem dX1_leastFor_55 : decode cX1_leastFor 55 = .ok (.iload_n 1, 1) := by decide +kernel
theorem dX1_leastFor_56 : decode cX1_leastFor 56 = .ok (.iaload, 1) := by decide +kernel
theorem dX1_leastFor_57 : decode cX1_leastFor 57 = .ok (.invokestatic 97, 3) := by decide +kernel
theorem dX1_leastFor_60 : decode cX1_leastFor 60 = .ok (.ineg, 1) := by decide +kernel
theorem dX1_leastFor_61 : decode cX1_leastFor 61 = .ok (.invokestatic 103, 3) := by decide +kernel
theorem dX1_leastFor_64 : decode cX1_leastFor 64 = .ok (.istore_n 2, 1) := by decide +kernel
theorem dX1_leastFor_65 : decode cX1_leastFor 65 = .ok (.iinc 3 1, 3) := by decide +kernel
theorem dX1_leastFor_68 : decode cX1_leastFor 68 = .ok (.goto (-64), 3) := by decide +kernel
theorem dX1_leastFor_71 : decode cX1_leastFor 71 = .ok (.iload_n 2, 1) := by decide +kernel
theorem dX1_leastFor_72 : decode cX1_leastFor 72 = .ok (.ireturn, 1) := by decide +kernel
theorem dX1_greatestFor_0 : decode cX1_greatestFor 0 = .ok (.aload_n 0, 1) := by decide +kernel
theorem dX1_greatestFor_1 : decode cX1_greatestFor 1 = .ok (.getfield 42, 3) := by decide +kernel
theorem dX1_greatestFor_4 : decode cX1_greatestFor 4 = .ok (.istore_n 2, 1) := by decide +kernel
theorem dX1_greatestFor_5 : decode cX1_greatestFor 5 = .ok (.iconst 0, 1) := by decide +kernel
theorem dX1_greatestFor_6 : decode cX1_greatestFor 6 = .ok (.istore_n 3, 1) := by decide +kernel
theorem dX1_greatestFor_7 : decode cX1_greatestFor 7 = .ok (.iload_n 3, 1) := by decide +kernel
theorem dX1_greatestFor_8 : decode cX1_greatestFor 8 = .ok (.aload_n 0, 1) := by decide +kernel
theorem dX1_greatestFor_9 : decode cX1_greatestFor 9 = .ok (.getfield 33, 3) := by decide +kernel
theorem dX1_greatestFor_12 : decode cX1_greatestFor 12 = .ok (.if_icmp .ge 51, 3) := by decide +kernel
theorem dX1_greatestFor_15 : decode cX1_greatestFor 15 = .ok (.aload_n 0, 1) := by decide +kernel
theorem dX1_greatestFor_16 : decode cX1_greatestFor 16 = .ok (.getfield 24, 3) := by decide +kernel
theorem dX1_greatestFor_19 : decode cX1_greatestFor 19 = .ok (.iload_n 3, 1) := by decide +kernel
theorem dX1_greatestFor_20 : decode cX1_greatestFor 20 = .ok (.aaload, 1) := by decide +kernel
theorem dX1_greatestFor_21 : decode cX1_greatestFor 21 = .ok (.iload_n 1, 1) := by decide +kernel
theorem dX1_greatestFor_22 : decode cX1_greatestFor 22 = .ok (.iaload, 1) := by decide +kernel
theorem dX1_greatestFor_23 : decode cX1_greatestFor 23 = .ok (.ifCond .le 34, 3) := by decide +kernel
theorem dX1_greatestFor_26 : decode cX1_greatestFor 26 = .ok (.iload_n 2, 1) := by decide +kernel
theorem dX1_greatestFor_27 : decode cX1_greatestFor 27 = .ok (.aload_n 0, 1) := by decide +kernel
theorem dX1_greatestFor_28 : decode cX1_greatestFor 28 = .ok (.getfield 30, 3) := by decide +kernel
theorem dX1_greatestFor_31 : decode cX1_greatestFor 31 = .ok (.iload_n 3, 1) := by decide +kernel
theorem dX1_greatestFor_32 : decode cX1_greatestFor 32 = .ok (.iaload, 1) := by decide +kernel
theorem dX1_greatestFor_33 : decode cX1_greatestFor 33 = .ok (.aload_n 0, 1) := by decide +kernel
theorem dX1_greatestFor_34 : decode cX1_greatestFor 34 = .ok (.getfield 27, 3) := by decide +kernel
theorem dX1_greatestFor_37 : decode cX1_greatestFor 37 = .ok (.iload_n 3, 1) := by decide +kernel
theorem dX1_greatestFor_38 : decode cX1_greatestFor 38 = .ok (.aaload, 1) := by decide +kernel
theorem dX1_greatestFor_39 : decode cX1_greatestFor 39 = .ok (.iload_n 1, 1) := by decide +kernel
theorem dX1_greatestFor_40 : decode cX1_greatestFor 40 = .ok (.iaload, 1) := by decide +kernel
theorem dX1_greatestFor_41 : decode cX1_greatestFor 41 = .ok (.isub, 1) := by decide +kernel
theorem dX1_greatestFor_42 : decode cX1_greatestFor 42 = .ok (.aload_n 0, 1) := by decide +kernel
theorem dX1_greatestFor_43 : decode cX1_greatestFor 43 = .ok (.getfield 24, 3) := by decide +kernel
theorem dX1_greatestFor_46 : decode cX1_greatestFor 46 = .ok (.iload_n 3, 1) := by decide +kernel
theorem dX1_greatestFor_47 : decode cX1_greatestFor 47 = .ok (.aaload, 1) := by decide +kernel
theorem dX1_greatestFor_48 : decode cX1_greatestFor 48 = .ok (.iload_n 1, 1) := by decide +kernel
theorem dX1_greatestFor_49 : decode cX1_greatestFor 49 = .ok (.iaload, 1) := by decide +kernel
theorem dX1_greatestFor_50 : decode cX1_greatestFor 50 = .ok (.invokestatic 97, 3) := by decide +kernel
theorem dX1_greatestFor_53 : decode cX1_greatestFor 53 = .ok (.invokestatic 106, 3) := by decide +kernel
theorem dX1_greatestFor_56 : decode cX1_greatestFor 56 = .ok (.istore_n 2, 1) := by decide +kernel
theorem dX1_greatestFor_57 : decode cX1_greatestFor 57 = .ok (.iinc 3 1, 3) := by decide +kernel
theorem dX1_greatestFor_60 : decode cX1_greatestFor 60 = .ok (.goto (-53), 3) := by decide +kernel
theorem dX1_greatestFor_63 : decode cX1_greatestFor 63 = .ok (.iload_n 2, 1) := by decide +kernel
theorem dX1_greatestFor_64 : decode cX1_greatestFor 64 = .ok (.ireturn, 1) := by decide +kernel
theorem dX1_take_0 : decode cX1_take 0 = .ok (.iconst 0, 1) := by decide +kernel
theorem dX1_take_1 : decode cX1_take 1 = .ok (.istore_n 3, 1) := by decide +kernel
theorem dX1_take_2 : decode cX1_take 2 = .ok (.iload_n 3, 1) := by decide +kernel
theorem dX1_take_3 : decode cX1_take 3 = .ok (.aload_n 0, 1) := by decide +kernel
theorem dX1_take_4 : decode cX1_take 4 = .ok (.getfield 33, 3) := by decide +kernel
theorem dX1_take_7 : decode cX1_take 7 = .ok (.if_icmp .ge 28, 3) := by decide +kernel
theorem dX1_take_10 : decode cX1_take 10 = .ok (.aload_n 0, 1) := by decide +kernel
theorem dX1_take_11 : decode cX1_take 11 = .ok (.getfield 30, 3) := by decide +kernel
theorem dX1_take_14 : decode cX1_take 14 = .ok (.iload_n 3, 1) := by decide +kernel
theorem dX1_take_15 : decode cX1_take 15 = .ok (.dup2, 1) := by decide +kernel
theorem dX1_take_16 : decode cX1_take 16 = .ok (.iaload, 1) := by decide +kernel
theorem dX1_take_17 : decode cX1_take 17 = .ok (.aload_n 0, 1) := by decide +kernel
theorem dX1_take_18 : decode cX1_take 18 = .ok (.getfield 24, 3) := by decide +kernel
theorem dX1_take_21 : decode cX1_take 21 = .ok (.iload_n 3, 1) := by decide +kernel
theorem dX1_take_22 : decode cX1_take 22 = .ok (.aaload, 1) := by decide +kernel
theorem dX1_take_23 : decode cX1_take 23 = .ok (.iload_n 1, 1) := by decide +kernel
theorem dX1_take_24 : decode cX1_take 24 = .ok (.iaload, 1) := by decide +kernel
theorem dX1_take_25 : decode cX1_take 25 = .ok (.iload_n 2, 1) := by decide +kernel
theorem dX1_take_26 : decode cX1_take 26 = .ok (.imul, 1) := by decide +kernel
theorem dX1_take_27 : decode cX1_take 27 = .ok (.isub, 1) := by decide +kernel
theorem dX1_take_28 : decode cX1_take 28 = .ok (.iastore, 1) := by decide +kernel
theorem dX1_take_29 : decode cX1_take 29 = .ok (.iinc 3 1, 3) := by decide +kernel
theorem dX1_take_32 : decode cX1_take 32 = .ok (.goto (-30), 3) := by decide +kernel
theorem dX1_take_35 : decode cX1_take 35 = .ok (.return_, 1) := by decide +kernel
theorem dX1_firstNumberOf_0 : decode cX1_firstNumberOf 0 = .ok (.aload_n 0, 1) := by decide +kernel
theorem dX1_firstNumberOf_1 : decode cX1_firstNumberOf 1 = .ok (.getfield 9, 3) := by decide +kernel
theorem dX1_firstNumberOf_4 : decode cX1_firstNumberOf 4 = .ok (.ifCond .ne 5, 3) := by decide +kernel
theorem dX1_firstNumberOf_7 : decode cX1_firstNumberOf 7 = .ok (.iconst (-1), 1) := by decide +kernel
theorem dX1_firstNumberOf_8 : decode cX1_firstNumberOf 8 = .ok (.ireturn, 1) := by decide +kernel
theorem dX1_firstNumberOf_9 : decode cX1_firstNumberOf 9 = .ok (.iconst 0, 1) := by decide +kernel
theorem dX1_firstNumberOf_10 : decode cX1_firstNumberOf 10 = .ok (.istore_n 2, 1) := by decide +kernel
theorem dX1_firstNumberOf_11 : decode cX1_firstNumberOf 11 = .ok (.iload_n 2, 1) := by decide +kernel
theorem dX1_firstNumberOf_12 : decode cX1_firstNumberOf 12 = .ok (.aload_n 0, 1) := by decide +kernel
theorem dX1_firstNumberOf_13 : decode cX1_firstNumberOf 13 = .ok (.getfield 19, 3) := by decide +kernel
theorem dX1_firstNumberOf_16 : decode cX1_firstNumberOf 16 = .ok (.if_icmp .ge 26, 3) := by decide +kernel
theorem dX1_firstNumberOf_19 : decode cX1_firstNumberOf 19 = .ok (.aload_n 0, 1) := by decide +kernel
theorem dX1_firstNumberOf_20 : decode cX1_firstNumberOf 20 = .ok (.getfield 15, 3) := by decide +kernel
theorem dX1_firstNumberOf_23 : decode cX1_firstNumberOf 23 = .ok (.iload_n 2, 1) := by decide +kernel
theorem dX1_firstNumberOf_24 : decode cX1_firstNumberOf 24 = .ok (.iaload, 1) := by decide +kernel
theorem dX1_firstNumberOf_25 : decode cX1_firstNumberOf 25 = .ok (.iload_n 1, 1) := by decide +kernel
theorem dX1_firstNumberOf_26 : decode cX1_firstNumberOf 26 = .ok (.if_icmp .ne 10, 3) := by decide +kernel
theorem dX1_firstNumberOf_29 : decode cX1_firstNumberOf 29 = .ok (.aload_n 0, 1) := by decide +kernel
theorem dX1_firstNumberOf_30 : decode cX1_firstNumberOf 30 = .ok (.getfield 39, 3) := by decide +kernel
theorem dX1_firstNumberOf_33 : decode cX1_firstNumberOf 33 = .ok (.iload_n 2, 1) := by decide +kernel
theorem dX1_firstNumberOf_34 : decode cX1_firstNumberOf 34 = .ok (.iaload, 1) := by decide +kernel
theorem dX1_firstNumberOf_35 : decode cX1_firstNumberOf 35 = .ok (.ireturn, 1) := by decide +kernel
theorem dX1_firstNumberOf_36 : decode cX1_firstNumberOf 36 = .ok (.iinc 2 1, 3) := by decide +kernel
theorem dX1_firstNumberOf_39 : decode cX1_firstNumberOf 39 = .ok (.goto (-28), 3) := by decide +kernel
theorem dX1_firstNumberOf_42 : decode cX1_firstNumberOf 42 = .ok (.iconst 0, 1) := by decide +kernel
theorem dX1_firstNumberOf_43 : decode cX1_firstNumberOf 43 = .ok (.ireturn, 1) := by decide +kernel
theorem dX2_init_0 : decode cX2_init 0 = .ok (.aload_n 0, 1) := by decide +kernel
theorem dX2_init_1 : decode cX2_init 1 = .ok (.invokespecial 3, 3) := by decide +kernel
theorem dX2_init_4 : decode cX2_init 4 = .ok (.aload_n 0, 1) := by decide +kernel
theorem dX2_init_5 : decode cX2_init 5 = .ok (.sipush 401, 3) := by decide +kernel
theorem dX2_init_8 : decode cX2_init 8 = .ok (.newarray .int, 2) := by decide +kernel
theorem dX2_init_10 : decode cX2_init 10 = .ok (.putfield 9, 3) := by decide +kernel
theorem dX2_init_13 : decode cX2_init 13 = .ok (.aload_n 0, 1) := by decide +kernel
theorem dX2_init_14 : decode cX2_init 14 = .ok (.sipush 199, 3) := by decide +kernel
theorem dX2_init_17 : decode cX2_init 17 = .ok (.newarray .boolean, 2) := by decide +kernel
theorem dX2_init_19 : decode cX2_init 19 = .ok (.putfield 15, 3) := by decide +kernel
theorem dX2_init_22 : decode cX2_init 22 = .ok (.return_, 1) := by decide +kernel
theorem dX2_measure_0 : decode cX2_measure 0 = .ok (.iconst 1, 1) := by decide +kernel
theorem dX2_measure_1 : decode cX2_measure 1 = .ok (.istore_n 2, 1) := by decide +kernel
theorem dX2_measure_2 : decode cX2_measure 2 = .ok (.iload_n 2, 1) := by decide +kernel
theorem dX2_measure_3 : decode cX2_measure 3 = .ok (.sipush 400, 3) := by decide +kernel
theorem dX2_measure_6 : decode cX2_measure 6 = .ok (.if_icmp .gt 16, 3) := by decide +kernel
theorem dX2_measure_9 : decode cX2_measure 9 = .ok (.aload_n 0, 1) := by decide +kernel
theorem dX2_measure_10 : decode cX2_measure 10 = .ok (.getfield 9, 3) := by decide +kernel
theorem dX2_measure_13 : decode cX2_measure 13 = .ok (.iload_n 2, 1) := by decide +kernel
theorem dX2_measure_14 : decode cX2_measure 14 = .ok (.iconst 4, 1) := by decide +kernel
theorem dX2_measure_15 : decode cX2_measure 15 = .ok (.iastore, 1) := by decide +kernel
theorem dX2_measure_16 : decode cX2_measure 16 = .ok (.iinc 2 1, 3) := by decide +kernel
theorem dX2_measure_19 : decode cX2_measure 19 = .ok (.goto (-17), 3) := by decide +kernel
theorem dX2_measure_22 : decode cX2_measure 22 = .ok (.iconst 0, 1) := by decide +kernel
theorem dX2_measure_23 : decode cX2_measure 23 = .ok (.istore_n 2, 1) := by decide +kernel
theorem dX2_measure_24 : decode cX2_measure 24 = .ok (.iload_n 2, 1) := by decide +kernel
theorem dX2_measure_25 : decode cX2_measure 25 = .ok (.aload_n 1, 1) := by decide +kernel
theorem dX2_measure_26 : decode cX2_measure 26 = .ok (.getfield 19, 3) := by decide +kernel
theorem dX2_measure_29 : decode cX2_measure 29 = .ok (.if_icmp .ge 29, 3) := by decide +kernel
theorem dX2_measure_32 : decode cX2_measure 32 = .ok (.aload_n 1, 1) := by decide +kernel
theorem dX2_measure_33 : decode cX2_measure 33 = .ok (.aload_n 1, 1) := by decide +kernel
theorem dX2_measure_34 : decode cX2_measure 34 = .ok (.getfield 25, 3) := by decide +kernel
theorem dX2_measure_37 : decode cX2_measure 37 = .ok (.iload_n 2, 1) := by decide +kernel
theorem dX2_measure_38 : decode cX2_measure 38 = .ok (.laload, 1) := by decide +kernel
theorem dX2_measure_39 : decode cX2_measure 39 = .ok (.invokevirtual 29, 3) := by decide +kernel
theorem dX2_measure_42 : decode cX2_measure 42 = .ok (.istore_n 3, 1) := by decide +kernel
theorem dX2_measure_43 : decode cX2_measure 43 = .ok (.iload_n 3, 1) := by decide +kernel
theorem dX2_measure_44 : decode cX2_measure 44 = .ok (.ifCond .le 8, 3) := by decide +kernel
theorem dX2_measure_47 : decode cX2_measure 47 = .ok (.aload_n 0, 1) := by decide +kernel
theorem dX2_measure_48 : decode cX2_measure 48 = .ok (.iload_n 3, 1) := by decide +kernel
theorem dX2_measure_49 : decode cX2_measure 49 = .ok (.invokevirtual 33, 3) := by decide +kernel
theorem dX2_measure_52 : decode cX2_measure 52 = .ok (.iinc 2 1, 3) := by decide +kernel
theorem dX2_measure_55 : decode cX2_measure 55 = .ok (.goto (-31), 3) := by decide +kernel
theorem dX2_measure_58 : decode cX2_measure 58 = .ok (.return_, 1) := by decide +kernel
theorem dX2_addPart_0 : decode cX2_addPart 0 = .ok (.iload_n 1, 1) := by decide +kernel
theorem dX2_addPart_1 : decode cX2_addPart 1 = .ok (.istore_n 2, 1) := by decide +kernel
theorem dX2_addPart_2 : decode cX2_addPart 2 = .ok (.iload_n 2, 1) := by decide +kernel
theorem dX2_addPart_3 : decode cX2_addPart 3 = .ok (.sipush 400, 3) := by decide +kernel
theorem dX2_addPart_6 : decode cX2_addPart 6 = .ok (.if_icmp .gt 34, 3) := by decide +kernel
theorem dX2_addPart_9 : decode cX2_addPart 9 = .ok (.aload_n 0, 1) := by decide +kernel
theorem dX2_addPart_10 : decode cX2_addPart 10 = .ok (.getfield 9, 3) := by decide +kernel
theorem dX2_addPart_13 : decode cX2_addPart 13 = .ok (.iload_n 2, 1) := by decide +kernel
theorem dX2_addPart_14 : decode cX2_addPart 14 = .ok (.aload_n 0, 1) := by decide +kernel
theorem dX2_addPart_15 : decode cX2_addPart 15 = .ok (.getfield 9, 3) := by decide +kernel
theorem dX2_addPart_18 : decode cX2_addPart 18 = .ok (.iload_n 2, 1) := by decide +kernel
theorem dX2_addPart_19 : decode cX2_addPart 19 = .ok (.iaload, 1) := by decide +kernel
theorem dX2_addPart_20 : decode cX2_addPart 20 = .ok (.aload_n 0, 1) := by decide +kernel
theorem dX2_addPart_21 : decode cX2_addPart 21 = .ok (.getfield 9, 3) := by decide +kernel
theorem dX2_addPart_24 : decode cX2_addPart 24 = .ok (.iload_n 2, 1) := by decide +kernel
theorem dX2_addPart_25 : decode cX2_addPart 25 = .ok (.iload_n 1, 1) := by decide +kernel
theorem dX2_addPart_26 : decode cX2_addPart 26 = .ok (.isub, 1) := by decide +kernel
theorem dX2_addPart_27 : decode cX2_addPart 27 = .ok (.iaload, 1) := by decide +kernel
theorem dX2_addPart_28 : decode cX2_addPart 28 = .ok (.iconst 1, 1) := by decide +kernel
theorem dX2_addPart_29 : decode cX2_addPart 29 = .ok (.iadd, 1) := by decide +kernel
theorem dX2_addPart_30 : decode cX2_addPart 30 = .ok (.invokestatic 37, 3) := by decide +kernel
theorem dX2_addPart_33 : decode cX2_addPart 33 = .ok (.iastore, 1) := by decide +kernel
theorem dX2_addPart_34 : decode cX2_addPart 34 = .ok (.iinc 2 1, 3) := by decide +kernel
theorem dX2_addPart_37 : decode cX2_addPart 37 = .ok (.goto (-35), 3) := by decide +kernel
theorem dX2_addPart_40 : decode cX2_addPart 40 = .ok (.return_, 1) := by decide +kernel
theorem dX2_daysWithout_0 : decode cX2_daysWithout 0 = .ok (.iconst 0, 1) := by decide +kernel
theorem dX2_daysWithout_1 : decode cX2_daysWithout 1 = .ok (.istore_n 3, 1) := by decide +kernel
theorem dX2_daysWithout_2 : decode cX2_daysWithout 2 = .ok (.iload_n 1, 1) := by decide +kernel
theorem dX2_daysWithout_3 : decode cX2_daysWithout 3 = .ok (.istore 4, 2) := by decide +kernel
theorem dX2_daysWithout_5 : decode cX2_daysWithout 5 = .ok (.iload 4, 2) := by decide +kernel
theorem dX2_daysWithout_7 : decode cX2_daysWithout 7 = .ok (.iload_n 2, 1) := by decide +kernel
theorem dX2_daysWithout_8 : decode cX2_daysWithout 8 = .ok (.if_icmp .gt 23, 3) := by decide +kernel
theorem dX2_daysWithout_11 : decode cX2_daysWithout 11 = .ok (.aload_n 0, 1) := by decide +kernel
theorem dX2_daysWithout_12 : decode cX2_daysWithout 12 = .ok (.getfield 9, 3) := by decide +kernel
theorem dX2_daysWithout_15 : decode cX2_daysWithout 15 = .ok (.iload 4, 2) := by decide +kernel
theorem dX2_daysWithout_17 : decode cX2_daysWithout 17 = .ok (.iaload, 1) := by decide +kernel
theorem dX2_daysWithout_18 : decode cX2_daysWithout 18 = .ok (.iconst 3, 1) := by decide +kernel
theorem dX2_daysWithout_19 : decode cX2_daysWithout 19 = .ok (.if_icmp .le 6, 3) := by decide +kernel
theorem dX2_daysWithout_22 : decode cX2_daysWithout 22 = .ok (.iinc 3 1, 3) := by decide +kernel
theorem dX2_daysWithout_25 : decode cX2_daysWithout 25 = .ok (.iinc 4 1, 3) := by decide +kernel
theorem dX2_daysWithout_28 : decode cX2_daysWithout 28 = .ok (.goto (-23), 3) := by decide +kernel
theorem dX2_daysWithout_31 : decode cX2_daysWithout 31 = .ok (.iload_n 3, 1) := by decide +kernel
theorem dX2_daysWithout_32 : decode cX2_daysWithout 32 = .ok (.ireturn, 1) := by decide +kernel
theorem dX2_firstWithout_0 : decode cX2_firstWithout 0 = .ok (.iload_n 1, 1) := by decide +kernel
theorem dX2_firstWithout_1 : decode cX2_firstWithout 1 = .ok (.istore_n 3, 1) := by decide +kernel
theorem dX2_firstWithout_2 : decode cX2_firstWithout 2 = .ok (.iload_n 3, 1) := by decide +kernel
theorem dX2_firstWithout_3 : decode cX2_firstWithout 3 = .ok (.iload_n 2, 1) := by decide +kernel
theorem dX2_firstWithout_4 : decode cX2_firstWithout 4 = .ok (.if_icmp .gt 21, 3) := by decide +kernel
theorem dX2_firstWithout_7 : decode cX2_firstWithout 7 = .ok (.aload_n 0, 1) := by decide +kernel
theorem dX2_firstWithout_8 : decode cX2_firstWithout 8 = .ok (.getfield 9, 3) := by decide +kernel
theorem dX2_firstWithout_11 : decode cX2_firstWithout 11 = .ok (.iload_n 3, 1) := by decide +kernel
theorem dX2_firstWithout_12 : decode cX2_firstWithout 12 = .ok (.iaload, 1) := by decide +kernel
theorem dX2_firstWithout_13 : decode cX2_firstWithout 13 = .ok (.iconst 3, 1) := by decide +kernel
theorem dX2_firstWithout_14 : decode cX2_firstWithout 14 = .ok (.if_icmp .le 5, 3) := by decide +kernel
theorem dX2_firstWithout_17 : decode cX2_firstWithout 17 = .ok (.iload_n 3, 1) := by decide +kernel
theorem dX2_firstWithout_18 : decode cX2_firstWithout 18 = .ok (.ireturn, 1) := by decide +kernel
theorem dX2_firstWithout_19 : decode cX2_firstWithout 19 = .ok (.iinc 3 1, 3) := by decide +kernel
theorem dX2_firstWithout_22 : decode cX2_firstWithout 22 = .ok (.goto (-20), 3) := by decide +kernel
theorem dX2_firstWithout_25 : decode cX2_firstWithout 25 = .ok (.iconst (-1), 1) := by decide +kernel
theorem dX2_firstWithout_26 : decode cX2_firstWithout 26 = .ok (.ireturn, 1) := by decide +kernel
theorem dX2_mendingSyllable_0 : decode cX2_mendingSyllable 0 = .ok (.iconst 0, 1) := by decide +kernel
theorem dX2_mendingSyllable_1 : decode cX2_mendingSyllable 1 = .ok (.istore 4, 2) := by decide +kernel
theorem dX2_mendingSyllable_3 : decode cX2_mendingSyllable 3 = .ok (.iload 4, 2) := by decide +kernel
theorem dX2_mendingSyllable_5 : decode cX2_mendingSyllable 5 = .ok (.sipush 198, 3) := by decide +kernel
theorem dX2_mendingSyllable_8 : decode cX2_mendingSyllable 8 = .ok (.if_icmp .gt 17, 3) := by decide +kernel
theorem dX2_mendingSyllable_11 : decode cX2_mendingSyllable 11 = .ok (.aload_n 0, 1) := by decide +kernel
theorem dX2_mendingSyllable_12 : decode cX2_mendingSyllable 12 = .ok (.getfield 15, 3) := by decide +kernel
theorem dX2_mendingSyllable_15 : decode cX2_mendingSyllable 15 = .ok (.iload 4, 2) := by decide +kernel
theorem dX2_mendingSyllable_17 : decode cX2_mendingSyllable 17 = .ok (.iconst 0, 1) := by decide +kernel
theorem dX2_mendingSyllable_18 : decode cX2_mendingSyllable 18 = .ok (.bastore, 1) := by decide +kernel
theorem dX2_mendingSyllable_19 : decode cX2_mendingSyllable 19 = .ok (.iinc 4 1, 3) := by decide +kernel
theorem dX2_mendingSyllable_22 : decode cX2_mendingSyllable 22 = .ok (.goto (-19), 3) := by decide +kernel
theorem dX2_mendingSyllable_25 : decode cX2_mendingSyllable 25 = .ok (.lconst 1, 1) := by decide +kernel
theorem dX2_mendingSyllable_26 : decode cX2_mendingSyllable 26 = .ok (.lstore 4, 2) := by decide +kernel
theorem dX2_mendingSyllable_28 : decode cX2_mendingSyllable 28 = .ok (.lload 4, 2) := by decide +kernel
theorem dX2_mendingSyllable_30 : decode cX2_mendingSyllable 30 = .ok (.ldc2_w 43, 3) := by decide +kernel
theorem dX2_mendingSyllable_33 : decode cX2_mendingSyllable 33 = .ok (.lcmp, 1) := by decide +kernel
theorem dX2_mendingSyllable_34 : decode cX2_mendingSyllable 34 = .ok (.ifCond .gt 65, 3) := by decide +kernel
theorem dX2_mendingSyllable_37 : decode cX2_mendingSyllable 37 = .ok (.aload_n 1, 1) := by decide +kernel
theorem dX2_mendingSyllable_38 : decode cX2_mendingSyllable 38 = .ok (.lload 4, 2) := by decide +kernel
theorem dX2_mendingSyllable_40 : decode cX2_mendingSyllable 40 = .ok (.invokevirtual 29, 3) := by decide +kernel
theorem dX2_mendingSyllable_43 : decode cX2_mendingSyllable 43 = .ok (.istore 6, 2) := by decide +kernel
theorem dX2_mendingSyllable_45 : decode cX2_mendingSyllable 45 = .ok (.iload 6, 2) := by decide +kernel
theorem dX2_mendingSyllable_47 : decode cX2_mendingSyllable 47 = .ok (.ifCond .le 43, 3) := by decide +kernel
theorem dX2_mendingSyllable_50 : decode cX2_mendingSyllable 50 = .ok (.iload 6, 2) := by decide +kernel
theorem dX2_mendingSyllable_52 : decode cX2_mendingSyllable 52 = .ok (.sipush 198, 3) := by decide +kernel
theorem dX2_mendingSyllable_55 : decode cX2_mendingSyllable 55 = .ok (.if_icmp .gt 35, 3) := by decide +kernel
theorem dX2_mendingSyllable_58 : decode cX2_mendingSyllable 58 = .ok (.aload_n 0, 1) := by decide +kernel
theorem dX2_mendingSyllable_59 : decode cX2_mendingSyllable 59 = .ok (.getfield 15, 3) := by decide +kernel
theorem dX2_mendingSyllable_62 : decode cX2_mendingSyllable 62 = .ok (.iload 6, 2) := by decide +kernel
theorem dX2_mendingSyllable_64 : decode cX2_mendingSyllable 64 = .ok (.baload, 1) := by decide +kernel
theorem dX2_mendingSyllable_65 : decode cX2_mendingSyllable 65 = .ok (.ifCond .ne 25, 3) := by decide +kernel
theorem dX2_mendingSyllable_68 : decode cX2_mendingSyllable 68 = .ok (.aload_n 0, 1) := by decide +kernel
theorem dX2_mendingSyllable_69 : decode cX2_mendingSyllable 69 = .ok (.getfield 15, 3) := by decide +kernel
theorem dX2_mendingSyllable_72 : decode cX2_mendingSyllable 72 = .ok (.iload 6, 2) := by decide +kernel
theorem dX2_mendingSyllable_74 : decode cX2_mendingSyllable 74 = .ok (.iconst 1, 1) := by decide +kernel
theorem dX2_mendingSyllable_75 : decode cX2_mendingSyllable 75 = .ok (.bastore, 1) := by decide +kernel
theorem dX2_mendingSyllable_76 : decode cX2_mendingSyllable 76 = .ok (.aload_n 0, 1) := by decide +kernel
theorem dX2_mendingSyllable_77 : decode cX2_mendingSyllable 77 = .ok (.iload 6, 2) := by decide +kernel
theorem dX2_mendingSyllable_79 : decode cX2_mendingSyllable 79 = .ok (.iload_n 2, 1) := by decide +kernel
theorem dX2_mendingSyllable_80 : decode cX2_mendingSyllable 80 = .ok (.iload_n 3, 1) := by decide +kernel
theorem dX2_mendingSyllable_81 : decode cX2_mendingSyllable 81 = .ok (.invokevirtual 45, 3) := by decide +kernel
theorem dX2_mendingSyllable_84 : decode cX2_mendingSyllable 84 = .ok (.ifCond .eq 6, 3) := by decide +kernel
theorem dX2_mendingSyllable_87 : decode cX2_mendingSyllable 87 = .ok (.lload 4, 2) := by decide +kernel
theorem dX2_mendingSyllable_89 : decode cX2_mendingSyllable 89 = .ok (.lreturn, 1) := by decide +kernel
theorem dX2_mendingSyllable_90 : decode cX2_mendingSyllable 90 = .ok (.lload 4, 2) := by decide +kernel
theorem dX2_mendingSyllable_92 : decode cX2_mendingSyllable 92 = .ok (.lconst 1, 1) := by decide +kernel
theorem dX2_mendingSyllable_93 : decode cX2_mendingSyllable 93 = .ok (.ladd, 1) := by decide +kernel
theorem dX2_mendingSyllable_94 : decode cX2_mendingSyllable 94 = .ok (.lstore 4, 2) := by decide +kernel
theorem dX2_mendingSyllable_96 : decode cX2_mendingSyllable 96 = .ok (.goto (-68), 3) := by decide +kernel
theorem dX2_mendingSyllable_99 : decode cX2_mendingSyllable 99 = .ok (.ldc2_w 49, 3) := by decide +kernel
theorem dX2_mendingSyllable_102 : decode cX2_mendingSyllable 102 = .ok (.lreturn, 1) := by decide +kernel
theorem dX2_mendsAll_0 : decode cX2_mendsAll 0 = .ok (.iload_n 2, 1) := by decide +kernel
theorem dX2_mendsAll_1 : decode cX2_mendsAll 1 = .ok (.istore 4, 2) := by decide +kernel
theorem dX2_mendsAll_3 : decode cX2_mendsAll 3 = .ok (.iload 4, 2) := by decide +kernel
theorem dX2_mendsAll_5 : decode cX2_mendsAll 5 = .ok (.iload_n 3, 1) := by decide +kernel
theorem dX2_mendsAll_6 : decode cX2_mendsAll 6 = .ok (.if_icmp .gt 21, 3) := by decide +kernel
theorem dX2_mendsAll_9 : decode cX2_mendsAll 9 = .ok (.aload_n 0, 1) := by decide +kernel
theorem dX2_mendsAll_10 : decode cX2_mendsAll 10 = .ok (.iload_n 1, 1) := by decide +kernel
theorem dX2_mendsAll_11 : decode cX2_mendsAll 11 = .ok (.iload 4, 2) := by decide +kernel
theorem dX2_mendsAll_13 : decode cX2_mendsAll 13 = .ok (.invokevirtual 51, 3) := by decide +kernel
theorem dX2_mendsAll_16 : decode cX2_mendsAll 16 = .ok (.ifCond .ne 5, 3) := by decide +kernel
theorem dX2_mendsAll_19 : decode cX2_mendsAll 19 = .ok (.iconst 0, 1) := by decide +kernel
theorem dX2_mendsAll_20 : decode cX2_mendsAll 20 = .ok (.ireturn, 1) := by decide +kernel
theorem dX2_mendsAll_21 : decode cX2_mendsAll 21 = .ok (.iinc 4 1, 3) := by decide +kernel
theorem dX2_mendsAll_24 : decode cX2_mendsAll 24 = .ok (.goto (-21), 3) := by decide +kernel
theorem dX2_mendsAll_27 : decode cX2_mendsAll 27 = .ok (.iconst 1, 1) := by decide +kernel
theorem dX2_mendsAll_28 : decode cX2_mendsAll 28 = .ok (.ireturn, 1) := by decide +kernel
theorem dX2_hasNameWith_0 : decode cX2_hasNameWith 0 = .ok (.iload_n 2, 1) := by decide +kernel
theorem dX2_hasNameWith_1 : decode cX2_hasNameWith 1 = .ok (.istore_n 3, 1) := by decide +kernel
theorem dX2_hasNameWith_2 : decode cX2_hasNameWith 2 = .ok (.iconst 0, 1) := by decide +kernel
theorem dX2_hasNameWith_3 : decode cX2_hasNameWith 3 = .ok (.istore 4, 2) := by decide +kernel
theorem dX2_hasNameWith_5 : decode cX2_hasNameWith 5 = .ok (.iload 4, 2) := by decide +kernel
theorem dX2_hasNameWith_7 : decode cX2_hasNameWith 7 = .ok (.iconst 3, 1) := by decide +kernel
theorem dX2_hasNameWith_8 : decode cX2_hasNameWith 8 = .ok (.if_icmp .gt 32, 3) := by decide +kernel
theorem dX2_hasNameWith_11 : decode cX2_hasNameWith 11 = .ok (.iload_n 3, 1) := by decide +kernel
theorem dX2_hasNameWith_12 : decode cX2_hasNameWith 12 = .ok (.ifCond .lt 28, 3) := by decide +kernel
theorem dX2_hasNameWith_15 : decode cX2_hasNameWith 15 = .ok (.aload_n 0, 1) := by decide +kernel
theorem dX2_hasNameWith_16 : decode cX2_hasNameWith 16 = .ok (.getfield 9, 3) := by decide +kernel
theorem dX2_hasNameWith_19 : decode cX2_hasNameWith 19 = .ok (.iload_n 3, 1) := by decide +kernel
theorem dX2_hasNameWith_20 : decode cX2_hasNameWith 20 = .ok (.iaload, 1) := by decide +kernel
theorem dX2_hasNameWith_21 : decode cX2_hasNameWith 21 = .ok (.iconst 3, 1) := by decide +kernel
theorem dX2_hasNameWith_22 : decode cX2_hasNameWith 22 = .ok (.iload 4, 2) := by decide +kernel
theorem dX2_hasNameWith_24 : decode cX2_hasNameWith 24 = .ok (.isub, 1) := by decide +kernel
theorem dX2_hasNameWith_25 : decode cX2_hasNameWith 25 = .ok (.if_icmp .gt 5, 3) := by decide +kernel
theorem dX2_hasNameWith_28 : decode cX2_hasNameWith 28 = .ok (.iconst 1, 1) := by decide +kernel
theorem dX2_hasNameWith_29 : decode cX2_hasNameWith 29 = .ok (.ireturn, 1) := by decide +kernel
theorem dX2_hasNameWith_30 : decode cX2_hasNameWith 30 = .ok (.iload_n 3, 1) := by decide +kernel
theorem dX2_hasNameWith_31 : decode cX2_hasNameWith 31 = .ok (.iload_n 1, 1) := by decide +kernel
theorem dX2_hasNameWith_32 : decode cX2_hasNameWith 32 = .ok (.isub, 1) := by decide +kernel
theorem dX2_hasNameWith_33 : decode cX2_hasNameWith 33 = .ok (.istore_n 3, 1) := by decide +kernel
theorem dX2_hasNameWith_34 : decode cX2_hasNameWith 34 = .ok (.iinc 4 1, 3) := by decide +kernel
theorem dX2_hasNameWith_37 : decode cX2_hasNameWith 37 = .ok (.goto (-32), 3) := by decide +kernel
theorem dX2_hasNameWith_40 : decode cX2_hasNameWith 40 = .ok (.iconst 0, 1) := by decide +kernel
theorem dX2_hasNameWith_41 : decode cX2_hasNameWith 41 = .ok (.ireturn, 1) := by decide +kernel
theorem dX3_init_0 : decode cX3_init 0 = .ok (.aload_n 0, 1) := by decide +kernel
theorem dX3_init_1 : decode cX3_init 1 = .ok (.invokespecial 3, 3) := by decide +kernel
theorem dX3_init_4 : decode cX3_init 4 = .ok (.aload_n 0, 1) := by decide +kernel
theorem dX3_init_5 : decode cX3_init 5 = .ok (.sipush 200, 3) := by decide +kernel
theorem dX3_init_8 : decode cX3_init 8 = .ok (.newarray .int, 2) := by decide +kernel
theorem dX3_init_10 : decode cX3_init 10 = .ok (.putfield 9, 3) := by decide +kernel
theorem dX3_init_13 : decode cX3_init 13 = .ok (.aload_n 0, 1) := by decide +kernel
theorem dX3_init_14 : decode cX3_init 14 = .ok (.iconst 0, 1) := by decide +kernel
theorem dX3_init_15 : decode cX3_init 15 = .ok (.putfield 15, 3) := by decide +kernel
theorem dX3_init_18 : decode cX3_init 18 = .ok (.aload_n 0, 1) := by decide +kernel
theorem dX3_init_19 : decode cX3_init 19 = .ok (.new 19, 3) := by decide +kernel
theorem dX3_init_22 : decode cX3_init 22 = .ok (.dup, 1) := by decide +kernel
theorem dX3_init_23 : decode cX3_init 23 = .ok (.invokespecial 21, 3) := by decide +kernel
theorem dX3_init_26 : decode cX3_init 26 = .ok (.putfield 22, 3) := by decide +kernel
theorem dX3_init_29 : decode cX3_init 29 = .ok (.aload_n 0, 1) := by decide +kernel
theorem dX3_init_30 : decode cX3_init 30 = .ok (.iconst 0, 1) := by decide +kernel
theorem dX3_init_31 : decode cX3_init 31 = .ok (.putfield 26, 3) := by decide +kernel
theorem dX3_init_34 : decode cX3_init 34 = .ok (.aload_n 0, 1) := by decide +kernel
theorem dX3_init_35 : decode cX3_init 35 = .ok (.iconst 0, 1) := by decide +kernel
theorem dX3_init_36 : decode cX3_init 36 = .ok (.putfield 29, 3) := by decide +kernel
theorem dX3_init_39 : decode cX3_init 39 = .ok (.aload_n 0, 1) := by decide +kernel
theorem dX3_init_40 : decode cX3_init 40 = .ok (.iconst 0, 1) := by decide +kernel
theorem dX3_init_41 : decode cX3_init 41 = .ok (.putfield 32, 3) := by decide +kernel
theorem dX3_init_44 : decode cX3_init 44 = .ok (.aload_n 0, 1) := by decide +kernel
theorem dX3_init_45 : decode cX3_init 45 = .ok (.iconst 0, 1) := by decide +kernel
theorem dX3_init_46 : decode cX3_init 46 = .ok (.putfield 35, 3) := by decide +kernel
theorem dX3_init_49 : decode cX3_init 49 = .ok (.aload_n 0, 1) := by decide +kernel
theorem dX3_init_50 : decode cX3_init 50 = .ok (.iconst 0, 1) := by decide +kernel
theorem dX3_init_51 : decode cX3_init 51 = .ok (.putfield 38, 3) := by decide +kernel
theorem dX3_init_54 : decode cX3_init 54 = .ok (.aload_n 0, 1) := by decide +kernel
theorem dX3_init_55 : decode cX3_init 55 = .ok (.lconst 0, 1) := by decide +kernel
theorem dX3_init_56 : decode cX3_init 56 = .ok (.putfield 41, 3) := by decide +kernel
theorem dX3_init_59 : decode cX3_init 59 = .ok (.aload_n 0, 1) := by decide +kernel
theorem dX3_init_60 : decode cX3_init 60 = .ok (.iconst (-1), 1) := by decide +kernel
theorem dX3_init_61 : decode cX3_init 61 = .ok (.putfield 45, 3) := by decide +kernel
theorem dX3_init_64 : decode cX3_init 64 = .ok (.aload_n 0, 1) := by decide +kernel
theorem dX3_init_65 : decode cX3_init 65 = .ok (.iconst (-1), 1) := by decide +kernel
theorem dX3_init_66 : decode cX3_init 66 = .ok (.putfield 48, 3) := by decide +kernel
theorem dX3_init_69 : decode cX3_init 69 = .ok (.return_, 1) := by decide +kernel
theorem dX3_append_0 : decode cX3_append 0 = .ok (.iload_n 3, 1) := by decide +kernel
theorem dX3_append_1 : decode cX3_append 1 = .ok (.sipush 200, 3) := by decide +kernel
theorem dX3_append_4 : decode cX3_append 4 = .ok (.aload_n 0, 1) := by decide +kernel
theorem dX3_append_5 : decode cX3_append 5 = .ok (.getfield 15, 3) := by decide +kernel
theorem dX3_append_8 : decode cX3_append 8 = .ok (.isub, 1) := by decide +kernel
theorem dX3_append_9 : decode cX3_append 9 = .ok (.if_icmp .le 5, 3) := by decide +kernel
theorem dX3_append_12 : decode cX3_append 12 = .ok (.iconst 0, 1) := by decide +kernel
theorem dX3_append_13 : decode cX3_append 13 = .ok (.ireturn, 1) := by decide +kernel
theorem dX3_append_14 : decode cX3_append 14 = .ok (.iconst 0, 1) := by decide +kernel
theorem dX3_append_15 : decode cX3_append 15 = .ok (.istore 4, 2) := by decide +kernel
theorem dX3_append_17 : decode cX3_append 17 = .ok (.iload 4, 2) := by decide +kernel
theorem dX3_append_19 : decode cX3_append 19 = .ok (.iload_n 3, 1) := by decide +kernel
theorem dX3_append_20 : decode cX3_append 20 = .ok (.if_icmp .ge 40, 3) := by decide +kernel
theorem dX3_append_23 : decode cX3_append 23 = .ok (.aload_n 0, 1) := by decide +kernel
theorem dX3_append_24 : decode cX3_append 24 = .ok (.getfield 9, 3) := by decide +kernel
theorem dX3_append_27 : decode cX3_append 27 = .ok (.aload_n 0, 1) := by decide +kernel
theorem dX3_append_28 : decode cX3_append 28 = .ok (.getfield 15, 3) := by decide +kernel
theorem dX3_append_31 : decode cX3_append 31 = .ok (.lload_n 1, 1) := by decide +kernel
theorem dX3_append_32 : decode cX3_append 32 = .ok (.bipush 8, 2) := by decide +kernel
theorem dX3_append_34 : decode cX3_append 34 = .ok (.iload 4, 2) := by decide +kernel
theorem dX3_append_36 : decode cX3_append 36 = .ok (.imul, 1) := by decide +kernel
theorem dX3_append_37 : decode cX3_append 37 = .ok (.lshr, 1) := by decide +kernel
theorem dX3_append_38 : decode cX3_append 38 = .ok (.ldc2_w 51, 3) := by decide +kernel
theorem dX3_append_41 : decode cX3_append 41 = .ok (.land, 1) := by decide +kernel
theorem dX3_append_42 : decode cX3_append 42 = .ok (.l2i, 1) := by decide +kernel
theorem dX3_append_43 : decode cX3_append 43 = .ok (.iastore, 1) := by decide +kernel
theorem dX3_append_44 : decode cX3_append 44 = .ok (.aload_n 0, 1) := by decide +kernel
theorem dX3_append_45 : decode cX3_append 45 = .ok (.dup, 1) := by decide +kernel
theorem dX3_append_46 : decode cX3_append 46 = .ok (.getfield 15, 3) := by decide +kernel
theorem dX3_append_49 : decode cX3_append 49 = .ok (.iconst 1, 1) := by decide +kernel
theorem dX3_append_50 : decode cX3_append 50 = .ok (.iadd, 1) := by decide +kernel
theorem dX3_append_51 : decode cX3_append 51 = .ok (.putfield 15, 3) := by decide +kernel
theorem dX3_append_54 : decode cX3_append 54 = .ok (.iinc 4 1, 3) := by decide +kernel
theorem dX3_append_57 : decode cX3_append 57 = .ok (.goto (-40), 3) := by decide +kernel
theorem dX3_append_60 : decode cX3_append 60 = .ok (.iconst 1, 1) := by decide +kernel
theorem dX3_append_61 : decode cX3_append 61 = .ok (.ireturn, 1) := by decide +kernel
theorem dX3_read_0 : decode cX3_read 0 = .ok (.aload_n 0, 1) := by decide +kernel
theorem dX3_read_1 : decode cX3_read 1 = .ok (.getfield 22, 3) := by decide +kernel
theorem dX3_read_4 : decode cX3_read 4 = .ok (.aload_n 1, 1) := by decide +kernel
theorem dX3_read_5 : decode cX3_read 5 = .ok (.invokevirtual 53, 3) := by decide +kernel
theorem dX3_read_8 : decode cX3_read 8 = .ok (.aload_n 0, 1) := by decide +kernel
theorem dX3_read_9 : decode cX3_read 9 = .ok (.iconst 0, 1) := by decide +kernel
theorem dX3_read_10 : decode cX3_read 10 = .ok (.putfield 29, 3) := by decide +kernel
theorem dX3_read_13 : decode cX3_read 13 = .ok (.iconst 1, 1) := by decide +kernel
theorem dX3_read_14 : decode cX3_read 14 = .ok (.istore_n 2, 1) := by decide +kernel
theorem dX3_read_15 : decode cX3_read 15 = .ok (.iload_n 2, 1) := by decide +kernel
theorem dX3_read_16 : decode cX3_read 16 = .ok (.bipush 8, 2) := by decide +kernel
theorem dX3_read_18 : decode cX3_read 18 = .ok (.if_icmp .gt 63, 3) := by decide +kernel
theorem dX3_read_21 : decode cX3_read 21 = .ok (.aload_n 0, 1) := by decide +kernel
theorem dX3_read_22 : decode cX3_read 22 = .ok (.invokevirtual 57, 3) := by decide +kernel
theorem dX3_read_25 : decode cX3_read 25 = .ok (.ifCond .ne 8, 3) := by decide +kernel
theorem dX3_read_28 : decode cX3_read 28 = .ok (.aload_n 0, 1) := by decide +kernel
theorem dX3_read_29 : decode cX3_read 29 = .ok (.getfield 35, 3) := by decide +kernel
theorem dX3_read_32 : decode cX3_read 32 = .ok (.ireturn, 1) := by decide +kernel
theorem dX3_read_33 : decode cX3_read 33 = .ok (.aload_n 0, 1) := by decide +kernel
theorem dX3_read_34 : decode cX3_read 34 = .ok (.iload_n 2, 1) := by decide +kernel
theorem dX3_read_35 : decode cX3_read 35 = .ok (.putfield 26, 3) := by decide +kernel
theorem dX3_read_38 : decode cX3_read 38 = .ok (.aload_n 0, 1) := by decide +kernel
theorem dX3_read_39 : decode cX3_read 39 = .ok (.invokevirtual 61, 3) := by decide +kernel
theorem dX3_read_42 : decode cX3_read 42 = .ok (.aload_n 0, 1) := by decide +kernel
theorem dX3_read_43 : decode cX3_read 43 = .ok (.getfield 32, 3) := by decide +kernel
theorem dX3_read_46 : decode cX3_read 46 = .ok (.ifCond .ne 5, 3) := by decide +kernel
theorem dX3_read_49 : decode cX3_read 49 = .ok (.iconst (-1), 1) := by decide +kernel
theorem dX3_read_50 : decode cX3_read 50 = .ok (.ireturn, 1) := by decide +kernel
theorem dX3_read_51 : decode cX3_read 51 = .ok (.aload_n 0, 1) := by decide +kernel
theorem dX3_read_52 : decode cX3_read 52 = .ok (.getfield 32, 3) := by decide +kernel
theorem dX3_read_55 : decode cX3_read 55 = .ok (.iconst 3, 1) := by decide +kernel
theorem dX3_read_56 : decode cX3_read 56 = .ok (.if_icmp .ne 14, 3) := by decide +kernel
theorem dX3_read_59 : decode cX3_read 59 = .ok (.aload_n 0, 1) := by decide +kernel
theorem dX3_read_60 : decode cX3_read 60 = .ok (.getfield 41, 3) := by decide +kernel
theorem dX3_read_63 : decode cX3_read 63 = .ok (.ldc2_w 64, 3) := by decide +kernel
theorem dX3_read_66 : decode cX3_read 66 = .ok (.lcmp, 1) := by decide +kernel
theorem dX3_read_67 : decode cX3_read 67 = .ok (.ifCond .eq 8, 3) := by decide +kernel
theorem dX3_read_70 : decode cX3_read 70 = .ok (.aload_n 0, 1) := by decide +kernel
theorem dX3_read_71 : decode cX3_read 71 = .ok (.getfield 35, 3) := by decide +kernel
theorem dX3_read_74 : decode cX3_read 74 = .ok (.ireturn, 1) := by decide +kernel
theorem dX3_read_75 : decode cX3_read 75 = .ok (.iinc 2 1, 3) := by decide +kernel
theorem dX3_read_78 : decode cX3_read 78 = .ok (.goto (-63), 3) := by decide +kernel
theorem dX3_read_81 : decode cX3_read 81 = .ok (.aload_n 0, 1) := by decide +kernel
theorem dX3_read_82 : decode cX3_read 82 = .ok (.getfield 35, 3) := by decide +kernel
theorem dX3_read_85 : decode cX3_read 85 = .ok (.ireturn, 1) := by decide +kernel
theorem dX3_readLine_0 : decode cX3_readLine 0 = .ok (.aload_n 0, 1) := by decide +kernel
theorem dX3_readLine_1 : decode cX3_readLine 1 = .ok (.invokevirtual 61, 3) := by decide +kernel
theorem dX3_readLine_4 : decode cX3_readLine 4 = .ok (.aload_n 0, 1) := by decide +kernel
theorem dX3_readLine_5 : decode cX3_readLine 5 = .ok (.getfield 32, 3) := by decide +kernel
theorem dX3_readLine_8 : decode cX3_readLine 8 = .ok (.iconst 1, 1) := by decide +kernel
theorem dX3_readLine_9 : decode cX3_readLine 9 = .ok (.if_icmp .eq 5, 3) := by decide +kernel
theorem dX3_readLine_12 : decode cX3_readLine 12 = .ok (.iconst 0, 1) := by decide +kernel
theorem dX3_readLine_13 : decode cX3_readLine 13 = .ok (.ireturn, 1) := by decide +kernel
theorem dX3_readLine_14 : decode cX3_readLine 14 = .ok (.aload_n 0, 1) := by decide +kernel
theorem dX3_readLine_15 : decode cX3_readLine 15 = .ok (.ldc 66, 2) := by decide +kernel
theorem dX3_readLine_17 : decode cX3_readLine 17 = .ok (.invokevirtual 68, 3) := by decide +kernel
theorem dX3_readLine_20 : decode cX3_readLine 20 = .ok (.ifCond .eq 8, 3) := by decide +kernel
theorem dX3_readLine_23 : decode cX3_readLine 23 = .ok (.aload_n 0, 1) := by decide +kernel
theorem dX3_readLine_24 : decode cX3_readLine 24 = .ok (.invokevirtual 72, 3) := by decide +kernel
theorem dX3_readLine_27 : decode cX3_readLine 27 = .ok (.ireturn, 1) := by decide +kernel
theorem dX3_readLine_28 : decode cX3_readLine 28 = .ok (.aload_n 0, 1) := by decide +kernel
theorem dX3_readLine_29 : decode cX3_readLine 29 = .ok (.ldc 75, 2) := by decide +kernel
theorem dX3_readLine_31 : decode cX3_readLine 31 = .ok (.invokevirtual 68, 3) := by decide +kernel
theorem dX3_readLine_34 : decode cX3_readLine 34 = .ok (.ifCond .eq 31, 3) := by decide +kernel
theorem dX3_readLine_37 : decode cX3_readLine 37 = .ok (.aload_n 0, 1) := by decide +kernel
theorem dX3_readLine_38 : decode cX3_readLine 38 = .ok (.iconst 3, 1) := by decide +kernel
theorem dX3_readLine_39 : decode cX3_readLine 39 = .ok (.invokevirtual 77, 3) := by decide +kernel
theorem dX3_readLine_42 : decode cX3_readLine 42 = .ok (.ifCond .eq 21, 3) := by decide +kernel
theorem dX3_readLine_45 : decode cX3_readLine 45 = .ok (.aload_n 0, 1) := by decide +kernel
theorem dX3_readLine_46 : decode cX3_readLine 46 = .ok (.getfield 22, 3) := by decide +kernel
theorem dX3_readLine_49 : decode cX3_readLine 49 = .ok (.aload_n 0, 1) := by decide +kernel
theorem dX3_readLine_50 : decode cX3_readLine 50 = .ok (.getfield 41, 3) := by decide +kernel
theorem dX3_readLine_53 : decode cX3_readLine 53 = .ok (.invokevirtual 81, 3) := by decide +kernel
theorem dX3_readLine_56 : decode cX3_readLine 56 = .ok (.ifCond .eq 7, 3) := by decide +kernel
theorem dX3_readLine_59 : decode cX3_readLine 59 = .ok (.iconst 1, 1) := by decide +kernel
theorem dX3_readLine_60 : decode cX3_readLine 60 = .ok (.goto 4, 3) := by decide +kernel
theorem dX3_readLine_63 : decode cX3_readLine 63 = .ok (.iconst 0, 1) := by decide +kernel
theorem dX3_readLine_64 : decode cX3_readLine 64 = .ok (.ireturn, 1) := by decide +kernel
theorem dX3_readLine_65 : decode cX3_readLine 65 = .ok (.aload_n 0, 1) := by decide +kernel
theorem dX3_readLine_66 : decode cX3_readLine 66 = .ok (.ldc 85, 2) := by decide +kernel
theorem dX3_readLine_68 : decode cX3_readLine 68 = .ok (.invokevirtual 68, 3) := by decide +kernel
theorem dX3_readLine_71 : decode cX3_readLine 71 = .ok (.ifCond .eq 35, 3) := by decide +kernel
theorem dX3_readLine_74 : decode cX3_readLine 74 = .ok (.aload_n 0, 1) := by decide +kernel
theorem dX3_readLine_75 : decode cX3_readLine 75 = .ok (.getfield 22, 3) := by decide +kernel
theorem dX3_readLine_78 : decode cX3_readLine 78 = .ok (.getfield 87, 3) := by decide +kernel
theorem dX3_readLine_81 : decode cX3_readLine 81 = .ok (.bipush 16, 2) := by decide +kernel
theorem dX3_readLine_83 : decode cX3_readLine 83 = .ok (.if_icmp .ge 21, 3) := by decide +kernel
theorem dX3_readLine_86 : decode cX3_readLine 86 = .ok (.aload_n 0, 1) := by decide +kernel
theorem dX3_readLine_87 : decode cX3_readLine 87 = .ok (.invokevirtual 90, 3) := by decide +kernel
theorem dX3_readLine_90 : decode cX3_readLine 90 = .ok (.ifCond .eq 14, 3) := by decide +kernel
theorem dX3_readLine_93 : decode cX3_readLine 93 = .ok (.aload_n 0, 1) := by decide +kernel
theorem dX3_readLine_94 : decode cX3_readLine 94 = .ok (.invokevirtual 93, 3) := by decide +kernel
theorem dX3_readLine_97 : decode cX3_readLine 97 = .ok (.ifCond .eq 7, 3) := by decide +kernel
theorem dX3_readLine_100 : decode cX3_readLine 100 = .ok (.iconst 1, 1) := by decide +kernel
theorem dX3_readLine_101 : decode cX3_readLine 101 = .ok (.goto 4, 3) := by decide +kernel
theorem dX3_readLine_104 : decode cX3_readLine 104 = .ok (.iconst 0, 1) := by decide +kernel
theorem dX3_readLine_105 : decode cX3_readLine 105 = .ok (.ireturn, 1) := by decide +kernel
theorem dX3_readLine_106 : decode cX3_readLine 106 = .ok (.aload_n 0, 1) := by decide +kernel
theorem dX3_readLine_107 : decode cX3_readLine 107 = .ok (.ldc 96, 2) := by decide +kernel
theorem dX3_readLine_109 : decode cX3_readLine 109 = .ok (.invokevirtual 68, 3) := by decide +kernel
theorem dX3_readLine_112 : decode cX3_readLine 112 = .ok (.ifCond .eq 35, 3) := by decide +kernel
theorem dX3_readLine_115 : decode cX3_readLine 115 = .ok (.aload_n 0, 1) := by decide +kernel
theorem dX3_readLine_116 : decode cX3_readLine 116 = .ok (.getfield 22, 3) := by decide +kernel
theorem dX3_readLine_119 : decode cX3_readLine 119 = .ok (.getfield 87, 3) := by decide +kernel
theorem dX3_readLine_122 : decode cX3_readLine 122 = .ok (.bipush 16, 2) := by decide +kernel
theorem dX3_readLine_124 : decode cX3_readLine 124 = .ok (.if_icmp .ge 21, 3) := by decide +kernel
theorem dX3_readLine_127 : decode cX3_readLine 127 = .ok (.aload_n 0, 1) := by decide +kernel
theorem dX3_readLine_128 : decode cX3_readLine 128 = .ok (.invokevirtual 98, 3) := by decide +kernel
theorem dX3_readLine_131 : decode cX3_readLine 131 = .ok (.ifCond .eq 14, 3) := by decide +kernel
theorem dX3_readLine_134 : decode cX3_readLine 134 = .ok (.aload_n 0, 1) := by decide +kernel
theorem dX3_readLine_135 : decode cX3_readLine 135 = .ok (.invokevirtual 93, 3) := by decide +kernel
theorem dX3_readLine_138 : decode cX3_readLine 138 = .ok (.ifCond .eq 7, 3) := by decide +kernel
theorem dX3_readLine_141 : decode cX3_readLine 141 = .ok (.iconst 1, 1) := by decide +kernel
theorem dX3_readLine_142 : decode cX3_readLine 142 = .ok (.goto 4, 3) := by decide +kernel
theorem dX3_readLine_145 : decode cX3_readLine 145 = .ok (.iconst 0, 1) := by decide +kernel
theorem dX3_readLine_146 : decode cX3_readLine 146 = .ok (.ireturn, 1) := by decide +kernel
theorem dX3_readLine_147 : decode cX3_readLine 147 = .ok (.aload_n 0, 1) := by decide +kernel
theorem dX3_readLine_148 : decode cX3_readLine 148 = .ok (.ldc 101, 2) := by decide +kernel
theorem dX3_readLine_150 : decode cX3_readLine 150 = .ok (.invokevirtual 68, 3) := by decide +kernel
theorem dX3_readLine_153 : decode cX3_readLine 153 = .ok (.ifCond .eq 8, 3) := by decide +kernel
theorem dX3_readLine_156 : decode cX3_readLine 156 = .ok (.aload_n 0, 1) := by decide +kernel
theorem dX3_readLine_157 : decode cX3_readLine 157 = .ok (.invokevirtual 103, 3) := by decide +kernel
theorem dX3_readLine_160 : decode cX3_readLine 160 = .ok (.ireturn, 1) := by decide +kernel
theorem dX3_readLine_161 : decode cX3_readLine 161 = .ok (.aload_n 0, 1) := by decide +kernel
theorem dX3_readLine_162 : decode cX3_readLine 162 = .ok (.ldc 106, 2) := by decide +kernel
theorem dX3_readLine_164 : decode cX3_readLine 164 = .ok (.invokevirtual 68, 3) := by decide +kernel
theorem dX3_readLine_167 : decode cX3_readLine 167 = .ok (.ifCond .eq 8, 3) := by decide +kernel
theorem dX3_readLine_170 : decode cX3_readLine 170 = .ok (.aload_n 0, 1) := by decide +kernel
theorem dX3_readLine_171 : decode cX3_readLine 171 = .ok (.invokevirtual 108, 3) := by decide +kernel
theorem dX3_readLine_174 : decode cX3_readLine 174 = .ok (.ireturn, 1) := by decide +kernel
theorem dX3_readLine_175 : decode cX3_readLine 175 = .ok (.aload_n 0, 1) := by decide +kernel
theorem dX3_readLine_176 : decode cX3_readLine 176 = .ok (.ldc 111, 2) := by decide +kernel
theorem dX3_readLine_178 : decode cX3_readLine 178 = .ok (.invokevirtual 68, 3) := by decide +kernel
theorem dX3_readLine_181 : decode cX3_readLine 181 = .ok (.ifCond .eq 8, 3) := by decide +kernel
theorem dX3_readLine_184 : decode cX3_readLine 184 = .ok (.aload_n 0, 1) := by decide +kernel
theorem dX3_readLine_185 : decode cX3_readLine 185 = .ok (.invokevirtual 113, 3) := by decide +kernel
theorem dX3_readLine_188 : decode cX3_readLine 188 = .ok (.ireturn, 1) := by decide +kernel
theorem dX3_readLine_189 : decode cX3_readLine 189 = .ok (.aload_n 0, 1) := by decide +kernel
theorem dX3_readLine_190 : decode cX3_readLine 190 = .ok (.ldc 116, 2) := by decide +kernel
theorem dX3_readLine_192 : decode cX3_readLine 192 = .ok (.invokevirtual 68, 3) := by decide +kernel
theorem dX3_readLine_195 : decode cX3_readLine 195 = .ok (.ifCond .eq 14, 3) := by decide +kernel
theorem dX3_readLine_198 : decode cX3_readLine 198 = .ok (.aload_n 0, 1) := by decide +kernel
theorem dX3_readLine_199 : decode cX3_readLine 199 = .ok (.invokevirtual 118, 3) := by decide +kernel
theorem dX3_readLine_202 : decode cX3_readLine 202 = .ok (.ifCond .eq 7, 3) := by decide +kernel
theorem dX3_readLine_205 : decode cX3_readLine 205 = .ok (.iconst 1, 1) := by decide +kernel
theorem dX3_readLine_206 : decode cX3_readLine 206 = .ok (.goto 4, 3) := by decide +kernel
theorem dX3_readLine_209 : decode cX3_readLine 209 = .ok (.iconst 0, 1) := by decide +kernel
theorem dX3_readLine_210 : decode cX3_readLine 210 = .ok (.ireturn, 1) := by decide +kernel
theorem dX3_readLetter_0 : decode cX3_readLetter 0 = .ok (.aload_n 0, 1) := by decide +kernel
theorem dX3_readLetter_1 : decode cX3_readLetter 1 = .ok (.iconst 1, 1) := by decide +kernel
theorem dX3_readLetter_2 : decode cX3_readLetter 2 = .ok (.invokevirtual 77, 3) := by decide +kernel
theorem dX3_readLetter_5 : decode cX3_readLetter 5 = .ok (.ifCond .ne 5, 3) := by decide +kernel
theorem dX3_readLetter_8 : decode cX3_readLetter 8 = .ok (.iconst 0, 1) := by decide +kernel
theorem dX3_readLetter_9 : decode cX3_readLetter 9 = .ok (.ireturn, 1) := by decide +kernel
theorem dX3_readLetter_10 : decode cX3_readLetter 10 = .ok (.aload_n 0, 1) := by decide +kernel
theorem dX3_readLetter_11 : decode cX3_readLetter 11 = .ok (.getfield 41, 3) := by decide +kernel
theorem dX3_readLetter_14 : decode cX3_readLetter 14 = .ok (.invokestatic 121, 3) := by decide +kernel
theorem dX3_readLetter_17 : decode cX3_readLetter 17 = .ok (.istore_n 1, 1) := by decide +kernel
theorem dX3_readLetter_18 : decode cX3_readLetter 18 = .ok (.iload_n 1, 1) := by decide +kernel
theorem dX3_readLetter_19 : decode cX3_readLetter 19 = .ok (.invokestatic 125, 3) := by decide +kernel
theorem dX3_readLetter_22 : decode cX3_readLetter 22 = .ok (.ifCond .eq 13, 3) := by decide +kernel
theorem dX3_readLetter_25 : decode cX3_readLetter 25 = .ok (.aload_n 0, 1) := by decide +kernel
theorem dX3_readLetter_26 : decode cX3_readLetter 26 = .ok (.iconst 0, 1) := by decide +kernel
theorem dX3_readLetter_27 : decode cX3_readLetter 27 = .ok (.bipush 99, 2) := by decide +kernel
theorem dX3_readLetter_29 : decode cX3_readLetter 29 = .ok (.invokevirtual 128, 3) := by decide +kernel
theorem dX3_readLetter_32 : decode cX3_readLetter 32 = .ok (.ifCond .ne 5, 3) := by decide +kernel
theorem dX3_readLetter_35 : decode cX3_readLetter 35 = .ok (.iconst 0, 1) := by decide +kernel
theorem dX3_readLetter_36 : decode cX3_readLetter 36 = .ok (.ireturn, 1) := by decide +kernel
theorem dX3_readLetter_37 : decode cX3_readLetter 37 = .ok (.aload_n 0, 1) := by decide +kernel
theorem dX3_readLetter_38 : decode cX3_readLetter 38 = .ok (.getfield 22, 3) := by decide +kernel
theorem dX3_readLetter_41 : decode cX3_readLetter 41 = .ok (.getfield 132, 3) := by decide +kernel
theorem dX3_readLetter_44 : decode cX3_readLetter 44 = .ok (.iload_n 1, 1) := by decide +kernel
theorem dX3_readLetter_45 : decode cX3_readLetter 45 = .ok (.aload_n 0, 1) := by decide +kernel
theorem dX3_readLetter_46 : decode cX3_readLetter 46 = .ok (.getfield 41, 3) := by decide +kernel
theorem dX3_readLetter_49 : decode cX3_readLetter 49 = .ok (.l2i, 1) := by decide +kernel
theorem dX3_readLetter_50 : decode cX3_readLetter 50 = .ok (.iastore, 1) := by decide +kernel
theorem dX3_readLetter_51 : decode cX3_readLetter 51 = .ok (.iconst 1, 1) := by decide +kernel
theorem dX3_readLetter_52 : decode cX3_readLetter 52 = .ok (.ireturn, 1) := by decide +kernel
theorem dX3_readNoParents_0 : decode cX3_readNoParents 0 = .ok (.aload_n 0, 1) := by decide +kernel
theorem dX3_readNoParents_1 : decode cX3_readNoParents 1 = .ok (.iconst (-1), 1) := by decide +kernel
theorem dX3_readNoParents_2 : decode cX3_readNoParents 2 = .ok (.putfield 45, 3) := by decide +kernel
theorem dX3_readNoParents_5 : decode cX3_readNoParents 5 = .ok (.aload_n 0, 1) := by decide +kernel
theorem dX3_readNoParents_6 : decode cX3_readNoParents 6 = .ok (.iconst (-1), 1) := by decide +kernel
theorem dX3_readNoParents_7 : decode cX3_readNoParents 7 = .ok (.putfield 48, 3) := by decide +kernel
theorem dX3_readNoParents_10 : decode cX3_readNoParents 10 = .ok (.iconst 1, 1) := by decide +kernel
theorem dX3_readNoParents_11 : decode cX3_readNoParents 11 = .ok (.ireturn, 1) := by decide +kernel
theorem dX3_readParents_0 : decode cX3_readParents 0 = .ok (.aload_n 0, 1) := by decide +kernel
theorem dX3_readParents_1 : decode cX3_readParents 1 = .ok (.invokevirtual 135, 3) := by decide +kernel
theorem dX3_readParents_4 : decode cX3_readParents 4 = .ok (.ifCond .ne 5, 3) := by decide +kernel
theorem dX3_readParents_7 : decode cX3_readParents 7 = .ok (.iconst 0, 1) := by decide +kernel
theorem dX3_readParents_8 : decode cX3_readParents 8 = .ok (.ireturn, 1) := by decide +kernel
theorem dX3_readParents_9 : decode cX3_readParents 9 = .ok (.aload_n 0, 1) := by decide +kernel
theorem dX3_readParents_10 : decode cX3_readParents 10 = .ok (.aload_n 0, 1) := by decide +kernel
theorem dX3_readParents_11 : decode cX3_readParents 11 = .ok (.getfield 41, 3) := by decide +kernel
theorem dX3_readParents_14 : decode cX3_readParents 14 = .ok (.l2i, 1) := by decide +kernel
theorem dX3_readParents_15 : decode cX3_readParents 15 = .ok (.putfield 45, 3) := by decide +kernel
theorem dX3_readParents_18 : decode cX3_readParents 18 = .ok (.aload_n 0, 1) := by decide +kernel
theorem dX3_readParents_19 : decode cX3_readParents 19 = .ok (.invokevirtual 135, 3) := by decide +kernel
theorem dX3_readParents_22 : decode cX3_readParents 22 = .ok (.ifCond .eq 16, 3) := by decide +kernel
theorem dX3_readParents_25 : decode cX3_readParents 25 = .ok (.aload_n 0, 1) := by decide +kernel
theorem dX3_readParents_26 : decode cX3_readParents 26 = .ok (.getfield 41, 3) := by decide +kernel
theorem dX3_readParents_29 : decode cX3_readParents 29 = .ok (.aload_n 0, 1) := by decide +kernel
theorem dX3_readParents_30 : decode cX3_readParents 30 = .ok (.getfield 45, 3) := by decide +kernel
theorem dX3_readParents_33 : decode cX3_readParents 33 = .ok (.i2l, 1) := by decide +kernel
theorem dX3_readParents_34 : decode cX3_readParents 34 = .ok (.lcmp, 1) := by decide +kernel
theorem dX3_readParents_35 : decode cX3_readParents 35 = .ok (.ifCond .ne 5, 3) := by decide +kernel
theorem dX3_readParents_38 : decode cX3_readParents 38 = .ok (.iconst 0, 1) := by decide +kernel
theorem dX3_readParents_39 : decode cX3_readParents 39 = .ok (.ireturn, 1) := by decide +kernel
theorem dX3_readParents_40 : decode cX3_readParents 40 = .ok (.aload_n 0, 1) := by decide +kernel
theorem dX3_readParents_41 : decode cX3_readParents 41 = .ok (.aload_n 0, 1) := by decide +kernel
theorem dX3_readParents_42 : decode cX3_readParents 42 = .ok (.getfield 41, 3) := by decide +kernel
theorem dX3_readParents_45 : decode cX3_readParents 45 = .ok (.l2i, 1) := by decide +kernel
theorem dX3_readParents_46 : decode cX3_readParents 46 = .ok (.putfield 48, 3) := by decide +kernel
theorem dX3_readParents_49 : decode cX3_readParents 49 = .ok (.iconst 1, 1) := by decide +kernel
theorem dX3_readParents_50 : decode cX3_readParents 50 = .ok (.ireturn, 1) := by decide +kernel
theorem dX3_readBirth_0 : decode cX3_readBirth 0 = .ok (.aload_n 0, 1) := by decide +kernel
theorem dX3_readBirth_1 : decode cX3_readBirth 1 = .ok (.iconst 1, 1) := by decide +kernel
theorem dX3_readBirth_2 : decode cX3_readBirth 2 = .ok (.sipush 400, 3) := by decide +kernel
theorem dX3_readBirth_5 : decode cX3_readBirth 5 = .ok (.invokevirtual 128, 3) := by decide +kernel
theorem dX3_readBirth_8 : decode cX3_readBirth 8 = .ok (.ifCond .ne 5, 3) := by decide +kernel
theorem dX3_readBirth_11 : decode cX3_readBirth 11 = .ok (.iconst 0, 1) := by decide +kernel
theorem dX3_readBirth_12 : decode cX3_readBirth 12 = .ok (.ireturn, 1) := by decide +kernel
theorem dX3_readBirth_13 : decode cX3_readBirth 13 = .ok (.aload_n 0, 1) := by decide +kernel
theorem dX3_readBirth_14 : decode cX3_readBirth 14 = .ok (.getfield 41, 3) := by decide +kernel
theorem dX3_readBirth_17 : decode cX3_readBirth 17 = .ok (.l2i, 1) := by decide +kernel
theorem dX3_readBirth_18 : decode cX3_readBirth 18 = .ok (.istore_n 1, 1) := by decide +kernel
theorem dX3_readBirth_19 : decode cX3_readBirth 19 = .ok (.aload_n 0, 1) := by decide +kernel
theorem dX3_readBirth_20 : decode cX3_readBirth 20 = .ok (.invokevirtual 138, 3) := by decide +kernel
theorem dX3_readBirth_23 : decode cX3_readBirth 23 = .ok (.ifCond .ne 5, 3) := by decide +kernel
theorem dX3_readBirth_26 : decode cX3_readBirth 26 = .ok (.iconst 0, 1) := by decide +kernel
theorem dX3_readBirth_27 : decode cX3_readBirth 27 = .ok (.ireturn, 1) := by decide +kernel
theorem dX3_readBirth_28 : decode cX3_readBirth 28 = .ok (.aload_n 0, 1) := by decide +kernel
theorem dX3_readBirth_29 : decode cX3_readBirth 29 = .ok (.getfield 22, 3) := by decide +kernel
theorem dX3_readBirth_32 : decode cX3_readBirth 32 = .ok (.aload_n 0, 1) := by decide +kernel
theorem dX3_readBirth_33 : decode cX3_readBirth 33 = .ok (.getfield 45, 3) := by decide +kernel
theorem dX3_readBirth_36 : decode cX3_readBirth 36 = .ok (.aload_n 0, 1) := by decide +kernel
theorem dX3_readBirth_37 : decode cX3_readBirth 37 = .ok (.getfield 48, 3) := by decide +kernel
theorem dX3_readBirth_40 : decode cX3_readBirth 40 = .ok (.iload_n 1, 1) := by decide +kernel
theorem dX3_readBirth_41 : decode cX3_readBirth 41 = .ok (.aload_n 0, 1) := by decide +kernel
theorem dX3_readBirth_42 : decode cX3_readBirth 42 = .ok (.getfield 41, 3) := by decide +kernel
theorem dX3_readBirth_45 : decode cX3_readBirth 45 = .ok (.invokevirtual 141, 3) := by decide +kernel
theorem dX3_readBirth_48 : decode cX3_readBirth 48 = .ok (.iconst 1, 1) := by decide +kernel
theorem dX3_readBirth_49 : decode cX3_readBirth 49 = .ok (.ireturn, 1) := by decide +kernel
theorem dX3_readCall_0 : decode cX3_readCall 0 = .ok (.aload_n 0, 1) := by decide +kernel
theorem dX3_readCall_1 : decode cX3_readCall 1 = .ok (.invokevirtual 135, 3) := by decide +kernel
theorem dX3_readCall_4 : decode cX3_readCall 4 = .ok (.ifCond .ne 5, 3) := by decide +kernel
theorem dX3_readCall_7 : decode cX3_readCall 7 = .ok (.iconst 0, 1) := by decide +kernel
theorem dX3_readCall_8 : decode cX3_readCall 8 = .ok (.ireturn, 1) := by decide +kernel
theorem dX3_readCall_9 : decode cX3_readCall 9 = .ok (.aload_n 0, 1) := by decide +kernel
theorem dX3_readCall_10 : decode cX3_readCall 10 = .ok (.getfield 41, 3) := by decide +kernel
theorem dX3_readCall_13 : decode cX3_readCall 13 = .ok (.l2i, 1) := by decide +kernel
theorem dX3_readCall_14 : decode cX3_readCall 14 = .ok (.istore_n 1, 1) := by decide +kernel
theorem dX3_readCall_15 : decode cX3_readCall 15 = .ok (.aload_n 0, 1) := by decide +kernel
theorem dX3_readCall_16 : decode cX3_readCall 16 = .ok (.invokevirtual 138, 3) := by decide +kernel
theorem dX3_readCall_19 : decode cX3_readCall 19 = .ok (.ifCond .ne 5, 3) := by decide +kernel
theorem dX3_readCall_22 : decode cX3_readCall 22 = .ok (.iconst 0, 1) := by decide +kernel
theorem dX3_readCall_23 : decode cX3_readCall 23 = .ok (.ireturn, 1) := by decide +kernel
theorem dX3_readCall_24 : decode cX3_readCall 24 = .ok (.aload_n 0, 1) := by decide +kernel
theorem dX3_readCall_25 : decode cX3_readCall 25 = .ok (.getfield 22, 3) := by decide +kernel
theorem dX3_readCall_28 : decode cX3_readCall 28 = .ok (.getfield 145, 3) := by decide +kernel
theorem dX3_readCall_31 : decode cX3_readCall 31 = .ok (.iload_n 1, 1) := by decide +kernel
theorem dX3_readCall_32 : decode cX3_readCall 32 = .ok (.aload_n 0, 1) := by decide +kernel
theorem dX3_readCall_33 : decode cX3_readCall 33 = .ok (.getfield 41, 3) := by decide +kernel
theorem dX3_readCall_36 : decode cX3_readCall 36 = .ok (.lastore, 1) := by decide +kernel
theorem dX3_readCall_37 : decode cX3_readCall 37 = .ok (.iconst 1, 1) := by decide +kernel
theorem dX3_readCall_38 : decode cX3_readCall 38 = .ok (.ireturn, 1) := by decide +kernel
theorem dX3_readHope_0 : decode cX3_readHope 0 = .ok (.aload_n 0, 1) := by decide +kernel
theorem dX3_readHope_1 : decode cX3_readHope 1 = .ok (.getfield 22, 3) := by decide +kernel
theorem dX3_readHope_4 : decode cX3_readHope 4 = .ok (.getfield 149, 3) := by decide +kernel
theorem dX3_readHope_7 : decode cX3_readHope 7 = .ok (.bipush 6, 2) := by decide +kernel
theorem dX3_readHope_9 : decode cX3_readHope 9 = .ok (.if_icmp .ge 14, 3) := by decide +kernel
theorem dX3_readHope_12 : decode cX3_readHope 12 = .ok (.aload_n 0, 1) := by decide +kernel
theorem dX3_readHope_13 : decode cX3_readHope 13 = .ok (.iconst 1, 1) := by decide +kernel
theorem dX3_readHope_14 : decode cX3_readHope 14 = .ok (.sipush 400, 3) := by decide +kernel
theorem dX3_readHope_17 : decode cX3_readHope 17 = .ok (.invokevirtual 128, 3) := by decide +kernel
theorem dX3_readHope_20 : decode cX3_readHope 20 = .ok (.ifCond .ne 5, 3) := by decide +kernel
theorem dX3_readHope_23 : decode cX3_readHope 23 = .ok (.iconst 0, 1) := by decide +kernel
theorem dX3_readHope_24 : decode cX3_readHope 24 = .ok (.ireturn, 1) := by decide +kernel
theorem dX3_readHope_25 : decode cX3_readHope 25 = .ok (.aload_n 0, 1) := by decide +kernel
theorem dX3_readHope_26 : decode cX3_readHope 26 = .ok (.getfield 41, 3) := by decide +kernel
theorem dX3_readHope_29 : decode cX3_readHope 29 = .ok (.l2i, 1) := by decide +kernel
theorem dX3_readHope_30 : decode cX3_readHope 30 = .ok (.istore_n 1, 1) := by decide +kernel
theorem dX3_readHope_31 : decode cX3_readHope 31 = .ok (.aload_n 0, 1) := by decide +kernel
theorem dX3_readHope_32 : decode cX3_readHope 32 = .ok (.iconst 0, 1) := by decide +kernel
theorem dX3_readHope_33 : decode cX3_readHope 33 = .ok (.bipush 10, 2) := by decide +kernel
theorem dX3_readHope_35 : decode cX3_readHope 35 = .ok (.invokevirtual 128, 3) := by decide +kernel
theorem dX3_readHope_38 : decode cX3_readHope 38 = .ok (.ifCond .ne 5, 3) := by decide +kernel
theorem dX3_readHope_41 : decode cX3_readHope 41 = .ok (.iconst 0, 1) := by decide +kernel
theorem dX3_readHope_42 : decode cX3_readHope 42 = .ok (.ireturn, 1) := by decide +kernel
theorem dX3_readHope_43 : decode cX3_readHope 43 = .ok (.aload_n 0, 1) := by decide +kernel
theorem dX3_readHope_44 : decode cX3_readHope 44 = .ok (.getfield 22, 3) := by decide +kernel
theorem dX3_readHope_47 : decode cX3_readHope 47 = .ok (.iload_n 1, 1) := by decide +kernel
theorem dX3_readHope_48 : decode cX3_readHope 48 = .ok (.aload_n 0, 1) := by decide +kernel
theorem dX3_readHope_49 : decode cX3_readHope 49 = .ok (.getfield 41, 3) := by decide +kernel
theorem dX3_readHope_52 : decode cX3_readHope 52 = .ok (.l2i, 1) := by decide +kernel
theorem dX3_readHope_53 : decode cX3_readHope 53 = .ok (.invokevirtual 152, 3) := by decide +kernel
theorem dX3_readHope_56 : decode cX3_readHope 56 = .ok (.iconst 1, 1) := by decide +kernel
theorem dX3_readHope_57 : decode cX3_readHope 57 = .ok (.ireturn, 1) := by decide +kernel
theorem dX3_readDegrees_0 : decode cX3_readDegrees 0 = .ok (.aload_n 0, 1) := by decide +kernel
theorem dX3_readDegrees_1 : decode cX3_readDegrees 1 = .ok (.iconst 1, 1) := by decide +kernel
theorem dX3_readDegrees_2 : decode cX3_readDegrees 2 = .ok (.iconst 4, 1) := by decide +kernel
theorem dX3_readDegrees_3 : decode cX3_readDegrees 3 = .ok (.invokevirtual 128, 3) := by decide +kernel
theorem dX3_readDegrees_6 : decode cX3_readDegrees 6 = .ok (.ifCond .ne 5, 3) := by decide +kernel
theorem dX3_readDegrees_9 : decode cX3_readDegrees 9 = .ok (.iconst 0, 1) := by decide +kernel
theorem dX3_readDegrees_10 : decode cX3_readDegrees 10 = .ok (.ireturn, 1) := by decide +kernel
theorem dX3_readDegrees_11 : decode cX3_readDegrees 11 = .ok (.aload_n 0, 1) := by decide +kernel
theorem dX3_readDegrees_12 : decode cX3_readDegrees 12 = .ok (.getfield 22, 3) := by decide +kernel
theorem dX3_readDegrees_15 : decode cX3_readDegrees 15 = .ok (.aload_n 0, 1) := by decide +kernel
theorem dX3_readDegrees_16 : decode cX3_readDegrees 16 = .ok (.getfield 41, 3) := by decide +kernel
theorem dX3_readDegrees_19 : decode cX3_readDegrees 19 = .ok (.l2i, 1) := by decide +kernel
theorem dX3_readDegrees_20 : decode cX3_readDegrees 20 = .ok (.putfield 156, 3) := by decide +kernel
theorem dX3_readDegrees_23 : decode cX3_readDegrees 23 = .ok (.iconst 1, 1) := by decide +kernel
theorem dX3_readDegrees_24 : decode cX3_readDegrees 24 = .ok (.ireturn, 1) := by decide +kernel
theorem dX3_readForget_0 : decode cX3_readForget 0 = .ok (.aload_n 0, 1) := by decide +kernel
theorem dX3_readForget_1 : decode cX3_readForget 1 = .ok (.getfield 22, 3) := by decide +kernel
theorem dX3_readForget_4 : decode cX3_readForget 4 = .ok (.invokevirtual 159, 3) := by decide +kernel
theorem dX3_readForget_7 : decode cX3_readForget 7 = .ok (.iconst 1, 1) := by decide +kernel
theorem dX3_readForget_8 : decode cX3_readForget 8 = .ok (.ireturn, 1) := by decide +kernel
theorem dX3_readPerson_0 : decode cX3_readPerson 0 = .ok (.aload_n 0, 1) := by decide +kernel
theorem dX3_readPerson_1 : decode cX3_readPerson 1 = .ok (.iconst 0, 1) := by decide +kernel
theorem dX3_readPerson_2 : decode cX3_readPerson 2 = .ok (.aload_n 0, 1) := by decide +kernel
theorem dX3_readPerson_3 : decode cX3_readPerson 3 = .ok (.getfield 22, 3) := by decide +kernel
theorem dX3_readPerson_6 : decode cX3_readPerson 6 = .ok (.getfield 87, 3) := by decide +kernel
theorem dX3_readPerson_9 : decode cX3_readPerson 9 = .ok (.iconst 1, 1) := by decide +kernel
theorem dX3_readPerson_10 : decode cX3_readPerson 10 = .ok (.isub, 1) := by decide +kernel
theorem dX3_readPerson_11 : decode cX3_readPerson 11 = .ok (.invokevirtual 128, 3) := by decide +kernel
theorem dX3_readPerson_14 : decode cX3_readPerson 14 = .ok (.ireturn, 1) := by decide +kernel
theorem dX3_readNumber_0 : decode cX3_readNumber 0 = .ok (.aload_n 0, 1) := by decide +kernel
theorem dX3_readNumber_1 : decode cX3_readNumber 1 = .ok (.invokevirtual 61, 3) := by decide +kernel
theorem dX3_readNumber_4 : decode cX3_readNumber 4 = .ok (.aload_n 0, 1) := by decide +kernel
theorem dX3_readNumber_5 : decode cX3_readNumber 5 = .ok (.getfield 32, 3) := by decide +kernel
theorem dX3_readNumber_8 : decode cX3_readNumber 8 = .ok (.iconst 2, 1) := by decide +kernel
theorem dX3_readNumber_9 : decode cX3_readNumber 9 = .ok (.if_icmp .ne 35, 3) := by decide +kernel
theorem dX3_readNumber_12 : decode cX3_readNumber 12 = .ok (.aload_n 0, 1) := by decide +kernel
theorem dX3_readNumber_13 : decode cX3_readNumber 13 = .ok (.getfield 38, 3) := by decide +kernel
theorem dX3_readNumber_16 : decode cX3_readNumber 16 = .ok (.iconst 3, 1) := by decide +kernel
theorem dX3_readNumber_17 : decode cX3_readNumber 17 = .ok (.if_icmp .gt 27, 3) := by decide +kernel
theorem dX3_readNumber_20 : decode cX3_readNumber 20 = .ok (.aload_n 0, 1) := by decide +kernel
theorem dX3_readNumber_21 : decode cX3_readNumber 21 = .ok (.getfield 41, 3) := by decide +kernel
theorem dX3_readNumber_24 : decode cX3_readNumber 24 = .ok (.iload_n 1, 1) := by decide +kernel
theorem dX3_readNumber_25 : decode cX3_readNumber 25 = .ok (.i2l, 1) := by decide +kernel
theorem dX3_readNumber_26 : decode cX3_readNumber 26 = .ok (.lcmp, 1) := by decide +kernel
theorem dX3_readNumber_27 : decode cX3_readNumber 27 = .ok (.ifCond .lt 17, 3) := by decide +kernel
theorem dX3_readNumber_30 : decode cX3_readNumber 30 = .ok (.aload_n 0, 1) := by decide +kernel
theorem dX3_readNumber_31 : decode cX3_readNumber 31 = .ok (.getfield 41, 3) := by decide +kernel
theorem dX3_readNumber_34 : decode cX3_readNumber 34 = .ok (.iload_n 2, 1) := by decide +kernel
theorem dX3_readNumber_35 : decode cX3_readNumber 35 = .ok (.i2l, 1) := by decide +kernel
theorem dX3_readNumber_36 : decode cX3_readNumber 36 = .ok (.lcmp, 1) := by decide +kernel
theorem dX3_readNumber_37 : decode cX3_readNumber 37 = .ok (.ifCond .gt 7, 3) := by decide +kernel
theorem dX3_readNumber_40 : decode cX3_readNumber 40 = .ok (.iconst 1, 1) := by decide +kernel
theorem dX3_readNumber_41 : decode cX3_readNumber 41 = .ok (.goto 4, 3) := by decide +kernel
theorem dX3_readNumber_44 : decode cX3_readNumber 44 = .ok (.iconst 0, 1) := by decide +kernel
theorem dX3_readNumber_45 : decode cX3_readNumber 45 = .ok (.ireturn, 1) := by decide +kernel
theorem dX3_readWord_0 : decode cX3_readWord 0 = .ok (.aload_n 0, 1) := by decide +kernel
theorem dX3_readWord_1 : decode cX3_readWord 1 = .ok (.invokevirtual 61, 3) := by decide +kernel
theorem dX3_readWord_4 : decode cX3_readWord 4 = .ok (.aload_n 0, 1) := by decide +kernel
theorem dX3_readWord_5 : decode cX3_readWord 5 = .ok (.getfield 32, 3) := by decide +kernel
theorem dX3_readWord_8 : decode cX3_readWord 8 = .ok (.iconst 1, 1) := by decide +kernel
theorem dX3_readWord_9 : decode cX3_readWord 9 = .ok (.if_icmp .ne 15, 3) := by decide +kernel
theorem dX3_readWord_12 : decode cX3_readWord 12 = .ok (.aload_n 0, 1) := by decide +kernel
theorem dX3_readWord_13 : decode cX3_readWord 13 = .ok (.getfield 38, 3) := by decide +kernel
theorem dX3_readWord_16 : decode cX3_readWord 16 = .ok (.iload_n 1, 1) := by decide +kernel
theorem dX3_readWord_17 : decode cX3_readWord 17 = .ok (.if_icmp .gt 7, 3) := by decide +kernel
theorem dX3_readWord_20 : decode cX3_readWord 20 = .ok (.iconst 1, 1) := by decide +kernel
theorem dX3_readWord_21 : decode cX3_readWord 21 = .ok (.goto 4, 3) := by decide +kernel
theorem dX3_readWord_24 : decode cX3_readWord 24 = .ok (.iconst 0, 1) := by decide +kernel
theorem dX3_readWord_25 : decode cX3_readWord 25 = .ok (.ireturn, 1) := by decide +kernel
theorem dX3_readWordOrNothing_0 : decode cX3_readWordOrNothing 0 = .ok (.aload_n 0, 1) := by decide +kernel
theorem dX3_readWordOrNothing_1 : decode cX3_readWordOrNothing 1 = .ok (.invokevirtual 61, 3) := by decide +kernel
theorem dX3_readWordOrNothing_4 : decode cX3_readWordOrNothing 4 = .ok (.aload_n 0, 1) := by decide +kernel
theorem dX3_readWordOrNothing_5 : decode cX3_readWordOrNothing 5 = .ok (.getfield 32, 3) := by decide +kernel
theorem dX3_readWordOrNothing_8 : decode cX3_readWordOrNothing 8 = .ok (.iconst 3, 1) := by decide +kernel
theorem dX3_readWordOrNothing_9 : decode cX3_readWordOrNothing 9 = .ok (.if_icmp .ne 21, 3) := by decide +kernel
theorem dX3_readWordOrNothing_12 : decode cX3_readWordOrNothing 12 = .ok (.aload_n 0, 1) := by decide +kernel
theorem dX3_readWordOrNothing_13 : decode cX3_readWordOrNothing 13 = .ok (.getfield 41, 3) := by decide +kernel
theorem dX3_readWordOrNothing_16 : decode cX3_readWordOrNothing 16 = .ok (.ldc2_w 162, 3) := by decide +kernel
theorem dX3_readWordOrNothing_19 : decode cX3_readWordOrNothing 19 = .ok (.lcmp, 1) := by decide +kernel
theorem dX3_readWordOrNothing_20 : decode cX3_readWordOrNothing 20 = .ok (.ifCond .ne 10, 3) := by decide +kernel
theorem dX3_readWordOrNothing_23 : decode cX3_readWordOrNothing 23 = .ok (.aload_n 0, 1) := by decide +kernel
theorem dX3_readWordOrNothing_24 : decode cX3_readWordOrNothing 24 = .ok (.lconst 0, 1) := by decide +kernel
theorem dX3_readWordOrNothing_25 : decode cX3_readWordOrNothing 25 = .ok (.putfield 41, 3) := by decide +kernel
theorem dX3_readWordOrNothing_28 : decode cX3_readWordOrNothing 28 = .ok (.iconst 1, 1) := by decide +kernel
theorem dX3_readWordOrNothing_29 : decode cX3_readWordOrNothing 29 = .ok (.ireturn, 1) := by decide +kernel
theorem dX3_readWordOrNothing_30 : decode cX3_readWordOrNothing 30 = .ok (.aload_n 0, 1) := by decide +kernel
theorem dX3_readWordOrNothing_31 : decode cX3_readWordOrNothing 31 = .ok (.getfield 32, 3) := by decide +kernel
theorem dX3_readWordOrNothing_34 : decode cX3_readWordOrNothing 34 = .ok (.iconst 1, 1) := by decide +kernel
theorem dX3_readWordOrNothing_35 : decode cX3_readWordOrNothing 35 = .ok (.if_icmp .ne 16, 3) := by decide +kernel
theorem dX3_readWordOrNothing_38 : decode cX3_readWordOrNothing 38 = .ok (.aload_n 0, 1) := by decide +kernel
theorem dX3_readWordOrNothing_39 : decode cX3_readWordOrNothing 39 = .ok (.getfield 38, 3) := by decide +kernel
theorem dX3_readWordOrNothing_42 : decode cX3_readWordOrNothing 42 = .ok (.bipush 9, 2) := by decide +kernel
theorem dX3_readWordOrNothing_44 : decode cX3_readWordOrNothing 44 = .ok (.if_icmp .gt 7, 3) := by decide +kernel
theorem dX3_readWordOrNothing_47 : decode cX3_readWordOrNothing 47 = .ok (.iconst 1, 1) := by decide +kernel
theorem dX3_readWordOrNothing_48 : decode cX3_readWordOrNothing 48 = .ok (.goto 4, 3) := by decide +kernel
theorem dX3_readWordOrNothing_51 : decode cX3_readWordOrNothing 51 = .ok (.iconst 0, 1) := by decide +kernel
theorem dX3_readWordOrNothing_52 : decode cX3_readWordOrNothing 52 = .ok (.ireturn, 1) := by decide +kernel
theorem dX3_says_0 : decode cX3_says 0 = .ok (.aload_n 0, 1) := by decide +kernel
theorem dX3_says_1 : decode cX3_says 1 = .ok (.getfield 38, 3) := by decide +kernel
theorem dX3_says_4 : decode cX3_says 4 = .ok (.aload_n 1, 1) := by decide +kernel
theorem dX3_says_5 : decode cX3_says 5 = .ok (.invokevirtual 164, 3) := by decide +kernel
theorem dX3_says_8 : decode cX3_says 8 = .ok (.if_icmp .eq 5, 3) := by decide +kernel
theorem dX3_says_11 : decode cX3_says 11 = .ok (.iconst 0, 1) := by decide +kernel
theorem dX3_says_12 : decode cX3_says 12 = .ok (.ireturn, 1) := by decide +kernel
theorem dX3_says_13 : decode cX3_says 13 = .ok (.iconst 0, 1) := by decide +kernel
theorem dX3_says_14 : decode cX3_says 14 = .ok (.istore_n 2, 1) := by decide +kernel
theorem dX3_says_15 : decode cX3_says 15 = .ok (.iload_n 2, 1) := by decide +kernel
theorem dX3_says_16 : decode cX3_says 16 = .ok (.aload_n 0, 1) := by decide +kernel
theorem dX3_says_17 : decode cX3_says 17 = .ok (.getfield 38, 3) := by decide +kernel
theorem dX3_says_20 : decode cX3_says 20 = .ok (.if_icmp .ge 30, 3) := by decide +kernel
theorem dX3_says_23 : decode cX3_says 23 = .ok (.aload_n 0, 1) := by decide +kernel
theorem dX3_says_24 : decode cX3_says 24 = .ok (.getfield 9, 3) := by decide +kernel
theorem dX3_says_27 : decode cX3_says 27 = .ok (.aload_n 0, 1) := by decide +kernel
theorem dX3_says_28 : decode cX3_says 28 = .ok (.getfield 35, 3) := by decide +kernel
theorem dX3_says_31 : decode cX3_says 31 = .ok (.iload_n 2, 1) := by decide +kernel
theorem dX3_says_32 : decode cX3_says 32 = .ok (.iadd, 1) := by decide +kernel
theorem dX3_says_33 : decode cX3_says 33 = .ok (.iaload, 1) := by decide +kernel
theorem dX3_says_34 : decode cX3_says 34 = .ok (.aload_n 1, 1) := by decide +kernel
theorem dX3_says_35 : decode cX3_says 35 = .ok (.iload_n 2, 1) := by decide +kernel
theorem dX3_says_36 : decode cX3_says 36 = .ok (.invokevirtual 169, 3) := by decide +kernel
theorem dX3_says_39 : decode cX3_says 39 = .ok (.if_icmp .eq 5, 3) := by decide +kernel
theorem dX3_says_42 : decode cX3_says 42 = .ok (.iconst 0, 1) := by decide +kernel
theorem dX3_says_43 : decode cX3_says 43 = .ok (.ireturn, 1) := by decide +kernel
theorem dX3_says_44 : decode cX3_says 44 = .ok (.iinc 2 1, 3) := by decide +kernel
theorem dX3_says_47 : decode cX3_says 47 = .ok (.goto (-32), 3) := by decide +kernel
theorem dX3_says_50 : decode cX3_says 50 = .ok (.iconst 1, 1) := by decide +kernel
theorem dX3_says_51 : decode cX3_says 51 = .ok (.ireturn, 1) := by decide +kernel
theorem dX3_readToken_0 : decode cX3_readToken 0 = .ok (.aload_n 0, 1) := by decide +kernel
theorem dX3_readToken_1 : decode cX3_readToken 1 = .ok (.getfield 29, 3) := by decide +kernel
theorem dX3_readToken_4 : decode cX3_readToken 4 = .ok (.aload_n 0, 1) := by decide +kernel
theorem dX3_readToken_5 : decode cX3_readToken 5 = .ok (.getfield 15, 3) := by decide +kernel
theorem dX3_readToken_8 : decode cX3_readToken 8 = .ok (.if_icmp .ge 30, 3) := by decide +kernel
theorem dX3_readToken_11 : decode cX3_readToken 11 = .ok (.aload_n 0, 1) := by decide +kernel
theorem dX3_readToken_12 : decode cX3_readToken 12 = .ok (.getfield 9, 3) := by decide +kernel
theorem dX3_readToken_15 : decode cX3_readToken 15 = .ok (.aload_n 0, 1) := by decide +kernel
theorem dX3_readToken_16 : decode cX3_readToken 16 = .ok (.getfield 29, 3) := by decide +kernel
theorem dX3_readToken_19 : decode cX3_readToken 19 = .ok (.iaload, 1) := by decide +kernel
theorem dX3_readToken_20 : decode cX3_readToken 20 = .ok (.bipush 32, 2) := by decide +kernel
theorem dX3_readToken_22 : decode cX3_readToken 22 = .ok (.if_icmp .ne 16, 3) := by decide +kernel
theorem dX3_readToken_25 : decode cX3_readToken 25 = .ok (.aload_n 0, 1) := by decide +kernel
theorem dX3_readToken_26 : decode cX3_readToken 26 = .ok (.dup, 1) := by decide +kernel
theorem dX3_readToken_27 : decode cX3_readToken 27 = .ok (.getfield 29, 3) := by decide +kernel
theorem dX3_readToken_30 : decode cX3_readToken 30 = .ok (.iconst 1, 1) := by decide +kernel
theorem dX3_readToken_31 : decode cX3_readToken 31 = .ok (.iadd, 1) := by decide +kernel
theorem dX3_readToken_32 : decode cX3_readToken 32 = .ok (.putfield 29, 3) := by decide +kernel
theorem dX3_readToken_35 : decode cX3_readToken 35 = .ok (.goto (-35), 3) := by decide +kernel
theorem dX3_readToken_38 : decode cX3_readToken 38 = .ok (.aload_n 0, 1) := by decide +kernel
theorem dX3_readToken_39 : decode cX3_readToken 39 = .ok (.aload_n 0, 1) := by decide +kernel
theorem dX3_readToken_40 : decode cX3_readToken 40 = .ok (.getfield 29, 3) := by decide +kernel
theorem dX3_readToken_43 : decode cX3_readToken 43 = .ok (.putfield 35, 3) := by decide +kernel
theorem dX3_readToken_46 : decode cX3_readToken 46 = .ok (.aload_n 0, 1) := by decide +kernel
theorem dX3_readToken_47 : decode cX3_readToken 47 = .ok (.lconst 0, 1) := by decide +kernel
theorem dX3_readToken_48 : decode cX3_readToken 48 = .ok (.putfield 41, 3) := by decide +kernel
theorem dX3_readToken_51 : decode cX3_readToken 51 = .ok (.aload_n 0, 1) := by decide +kernel
theorem dX3_readToken_52 : decode cX3_readToken 52 = .ok (.aload_n 0, 1) := by decide +kernel
theorem dX3_readToken_53 : decode cX3_readToken 53 = .ok (.aload_n 0, 1) := by decide +kernel
theorem dX3_readToken_54 : decode cX3_readToken 54 = .ok (.getfield 29, 3) := by decide +kernel
theorem dX3_readToken_57 : decode cX3_readToken 57 = .ok (.invokevirtual 173, 3) := by decide +kernel
theorem dX3_readToken_60 : decode cX3_readToken 60 = .ok (.putfield 32, 3) := by decide +kernel
theorem dX3_readToken_63 : decode cX3_readToken 63 = .ok (.aload_n 0, 1) := by decide +kernel
theorem dX3_readToken_64 : decode cX3_readToken 64 = .ok (.getfield 29, 3) := by decide +kernel
theorem dX3_readToken_67 : decode cX3_readToken 67 = .ok (.aload_n 0, 1) := by decide +kernel
theorem dX3_readToken_68 : decode cX3_readToken 68 = .ok (.getfield 15, 3) := by decide +kernel
theorem dX3_readToken_71 : decode cX3_readToken 71 = .ok (.if_icmp .ge 7, 3) := by decide +kernel
