theorem dX7_codeHere_4 : decode cX7_codeHere 4 = .ok (.aload_n 0, 1) := by decide +kernel
theorem dX7_codeHere_5 : decode cX7_codeHere 5 = .ok (.getfield 72, 3) := by decide +kernel
theorem dX7_codeHere_8 : decode cX7_codeHere 8 = .ok (.if_icmp .eq 32, 3) := by decide +kernel
theorem dX7_codeHere_11 : decode cX7_codeHere 11 = .ok (.aload_n 0, 1) := by decide +kernel
theorem dX7_codeHere_12 : decode cX7_codeHere 12 = .ok (.getfield 21, 3) := by decide +kernel
theorem dX7_codeHere_15 : decode cX7_codeHere 15 = .ok (.aload_n 0, 1) := by decide +kernel
theorem dX7_codeHere_16 : decode cX7_codeHere 16 = .ok (.getfield 81, 3) := by decide +kernel
theorem dX7_codeHere_19 : decode cX7_codeHere 19 = .ok (.iaload, 1) := by decide +kernel
theorem dX7_codeHere_20 : decode cX7_codeHere 20 = .ok (.invokestatic 84, 3) := by decide +kernel
theorem dX7_codeHere_23 : decode cX7_codeHere 23 = .ok (.iconst 1, 1) := by decide +kernel
theorem dX7_codeHere_24 : decode cX7_codeHere 24 = .ok (.if_icmp .ne 16, 3) := by decide +kernel
theorem dX7_codeHere_27 : decode cX7_codeHere 27 = .ok (.aload_n 0, 1) := by decide +kernel
theorem dX7_codeHere_28 : decode cX7_codeHere 28 = .ok (.getfield 88, 3) := by decide +kernel
theorem dX7_codeHere_31 : decode cX7_codeHere 31 = .ok (.aload_n 0, 1) := by decide +kernel
theorem dX7_codeHere_32 : decode cX7_codeHere 32 = .ok (.getfield 81, 3) := by decide +kernel
theorem dX7_codeHere_35 : decode cX7_codeHere 35 = .ok (.isub, 1) := by decide +kernel
theorem dX7_codeHere_36 : decode cX7_codeHere 36 = .ok (.iload_n 1, 1) := by decide +kernel
theorem dX7_codeHere_37 : decode cX7_codeHere 37 = .ok (.if_icmp .le 7, 3) := by decide +kernel
theorem dX7_codeHere_40 : decode cX7_codeHere 40 = .ok (.ldc2_w 119, 3) := by decide +kernel
theorem dX7_codeHere_43 : decode cX7_codeHere 43 = .ok (.lreturn, 1) := by decide +kernel
theorem dX7_codeHere_44 : decode cX7_codeHere 44 = .ok (.lconst 0, 1) := by decide +kernel
theorem dX7_codeHere_45 : decode cX7_codeHere 45 = .ok (.lstore_n 2, 1) := by decide +kernel
theorem dX7_codeHere_46 : decode cX7_codeHere 46 = .ok (.aload_n 0, 1) := by decide +kernel
theorem dX7_codeHere_47 : decode cX7_codeHere 47 = .ok (.getfield 81, 3) := by decide +kernel
theorem dX7_codeHere_50 : decode cX7_codeHere 50 = .ok (.istore 4, 2) := by decide +kernel
theorem dX7_codeHere_52 : decode cX7_codeHere 52 = .ok (.iload 4, 2) := by decide +kernel
theorem dX7_codeHere_54 : decode cX7_codeHere 54 = .ok (.aload_n 0, 1) := by decide +kernel
theorem dX7_codeHere_55 : decode cX7_codeHere 55 = .ok (.getfield 88, 3) := by decide +kernel
theorem dX7_codeHere_58 : decode cX7_codeHere 58 = .ok (.if_icmp .ge 28, 3) := by decide +kernel
theorem dX7_codeHere_61 : decode cX7_codeHere 61 = .ok (.ldc2_w 121, 3) := by decide +kernel
theorem dX7_codeHere_64 : decode cX7_codeHere 64 = .ok (.lload_n 2, 1) := by decide +kernel
theorem dX7_codeHere_65 : decode cX7_codeHere 65 = .ok (.lmul, 1) := by decide +kernel
theorem dX7_codeHere_66 : decode cX7_codeHere 66 = .ok (.aload_n 0, 1) := by decide +kernel
theorem dX7_codeHere_67 : decode cX7_codeHere 67 = .ok (.getfield 21, 3) := by decide +kernel
theorem dX7_codeHere_70 : decode cX7_codeHere 70 = .ok (.iload 4, 2) := by decide +kernel
theorem dX7_codeHere_72 : decode cX7_codeHere 72 = .ok (.iaload, 1) := by decide +kernel
theorem dX7_codeHere_73 : decode cX7_codeHere 73 = .ok (.i2l, 1) := by decide +kernel
theorem dX7_codeHere_74 : decode cX7_codeHere 74 = .ok (.ladd, 1) := by decide +kernel
theorem dX7_codeHere_75 : decode cX7_codeHere 75 = .ok (.ldc2_w 123, 3) := by decide +kernel
theorem dX7_codeHere_78 : decode cX7_codeHere 78 = .ok (.lsub, 1) := by decide +kernel
theorem dX7_codeHere_79 : decode cX7_codeHere 79 = .ok (.lstore_n 2, 1) := by decide +kernel
theorem dX7_codeHere_80 : decode cX7_codeHere 80 = .ok (.iinc 4 1, 3) := by decide +kernel
theorem dX7_codeHere_83 : decode cX7_codeHere 83 = .ok (.goto (-31), 3) := by decide +kernel
theorem dX7_codeHere_86 : decode cX7_codeHere 86 = .ok (.lload_n 2, 1) := by decide +kernel
theorem dX7_codeHere_87 : decode cX7_codeHere 87 = .ok (.lreturn, 1) := by decide +kernel
theorem dX7_readsLetter_0 : decode cX7_readsLetter 0 = .ok (.aload_n 0, 1) := by decide +kernel
theorem dX7_readsLetter_1 : decode cX7_readsLetter 1 = .ok (.iconst 1, 1) := by decide +kernel
theorem dX7_readsLetter_2 : decode cX7_readsLetter 2 = .ok (.invokevirtual 125, 3) := by decide +kernel
theorem dX7_readsLetter_5 : decode cX7_readsLetter 5 = .ok (.lstore_n 1, 1) := by decide +kernel
theorem dX7_readsLetter_6 : decode cX7_readsLetter 6 = .ok (.lload_n 1, 1) := by decide +kernel
theorem dX7_readsLetter_7 : decode cX7_readsLetter 7 = .ok (.ldc2_w 119, 3) := by decide +kernel
theorem dX7_readsLetter_10 : decode cX7_readsLetter 10 = .ok (.lcmp, 1) := by decide +kernel
theorem dX7_readsLetter_11 : decode cX7_readsLetter 11 = .ok (.ifCond .ne 5, 3) := by decide +kernel
theorem dX7_readsLetter_14 : decode cX7_readsLetter 14 = .ok (.iconst 0, 1) := by decide +kernel
theorem dX7_readsLetter_15 : decode cX7_readsLetter 15 = .ok (.ireturn, 1) := by decide +kernel
theorem dX7_readsLetter_16 : decode cX7_readsLetter 16 = .ok (.aload_n 0, 1) := by decide +kernel
theorem dX7_readsLetter_17 : decode cX7_readsLetter 17 = .ok (.getfield 24, 3) := by decide +kernel
theorem dX7_readsLetter_20 : decode cX7_readsLetter 20 = .ok (.iconst 5, 1) := by decide +kernel
theorem dX7_readsLetter_21 : decode cX7_readsLetter 21 = .ok (.aload_n 0, 1) := by decide +kernel
theorem dX7_readsLetter_22 : decode cX7_readsLetter 22 = .ok (.getfield 113, 3) := by decide +kernel
theorem dX7_readsLetter_25 : decode cX7_readsLetter 25 = .ok (.imul, 1) := by decide +kernel
theorem dX7_readsLetter_26 : decode cX7_readsLetter 26 = .ok (.iconst 1, 1) := by decide +kernel
theorem dX7_readsLetter_27 : decode cX7_readsLetter 27 = .ok (.iadd, 1) := by decide +kernel
theorem dX7_readsLetter_28 : decode cX7_readsLetter 28 = .ok (.lload_n 1, 1) := by decide +kernel
theorem dX7_readsLetter_29 : decode cX7_readsLetter 29 = .ok (.l2i, 1) := by decide +kernel
theorem dX7_readsLetter_30 : decode cX7_readsLetter 30 = .ok (.iconst 1, 1) := by decide +kernel
theorem dX7_readsLetter_31 : decode cX7_readsLetter 31 = .ok (.isub, 1) := by decide +kernel
theorem dX7_readsLetter_32 : decode cX7_readsLetter 32 = .ok (.iastore, 1) := by decide +kernel
theorem dX7_readsLetter_33 : decode cX7_readsLetter 33 = .ok (.aload_n 0, 1) := by decide +kernel
theorem dX7_readsLetter_34 : decode cX7_readsLetter 34 = .ok (.invokevirtual 116, 3) := by decide +kernel
theorem dX7_readsLetter_37 : decode cX7_readsLetter 37 = .ok (.iconst 1, 1) := by decide +kernel
theorem dX7_readsLetter_38 : decode cX7_readsLetter 38 = .ok (.ireturn, 1) := by decide +kernel
theorem dX7_readsSyl_0 : decode cX7_readsSyl 0 = .ok (.aload_n 0, 1) := by decide +kernel
theorem dX7_readsSyl_1 : decode cX7_readsSyl 1 = .ok (.iconst 3, 1) := by decide +kernel
theorem dX7_readsSyl_2 : decode cX7_readsSyl 2 = .ok (.invokevirtual 125, 3) := by decide +kernel
theorem dX7_readsSyl_5 : decode cX7_readsSyl 5 = .ok (.lstore_n 1, 1) := by decide +kernel
theorem dX7_readsSyl_6 : decode cX7_readsSyl 6 = .ok (.lload_n 1, 1) := by decide +kernel
theorem dX7_readsSyl_7 : decode cX7_readsSyl 7 = .ok (.ldc2_w 119, 3) := by decide +kernel
theorem dX7_readsSyl_10 : decode cX7_readsSyl 10 = .ok (.lcmp, 1) := by decide +kernel
theorem dX7_readsSyl_11 : decode cX7_readsSyl 11 = .ok (.ifCond .eq 16, 3) := by decide +kernel
theorem dX7_readsSyl_14 : decode cX7_readsSyl 14 = .ok (.aload_n 0, 1) := by decide +kernel
theorem dX7_readsSyl_15 : decode cX7_readsSyl 15 = .ok (.getfield 129, 3) := by decide +kernel
theorem dX7_readsSyl_18 : decode cX7_readsSyl 18 = .ok (.bipush 10, 2) := by decide +kernel
theorem dX7_readsSyl_20 : decode cX7_readsSyl 20 = .ok (.if_icmp .ge 7, 3) := by decide +kernel
theorem dX7_readsSyl_23 : decode cX7_readsSyl 23 = .ok (.iconst 1, 1) := by decide +kernel
theorem dX7_readsSyl_24 : decode cX7_readsSyl 24 = .ok (.goto 4, 3) := by decide +kernel
theorem dX7_readsSyl_27 : decode cX7_readsSyl 27 = .ok (.iconst 0, 1) := by decide +kernel
theorem dX7_readsSyl_28 : decode cX7_readsSyl 28 = .ok (.istore_n 3, 1) := by decide +kernel
theorem dX7_readsSyl_29 : decode cX7_readsSyl 29 = .ok (.iconst 0, 1) := by decide +kernel
theorem dX7_readsSyl_30 : decode cX7_readsSyl 30 = .ok (.istore 4, 2) := by decide +kernel
theorem dX7_readsSyl_32 : decode cX7_readsSyl 32 = .ok (.iload 4, 2) := by decide +kernel
theorem dX7_readsSyl_34 : decode cX7_readsSyl 34 = .ok (.aload_n 0, 1) := by decide +kernel
theorem dX7_readsSyl_35 : decode cX7_readsSyl 35 = .ok (.getfield 129, 3) := by decide +kernel
theorem dX7_readsSyl_38 : decode cX7_readsSyl 38 = .ok (.if_icmp .ge 31, 3) := by decide +kernel
theorem dX7_readsSyl_41 : decode cX7_readsSyl 41 = .ok (.iload_n 3, 1) := by decide +kernel
theorem dX7_readsSyl_42 : decode cX7_readsSyl 42 = .ok (.ifCond .eq 27, 3) := by decide +kernel
theorem dX7_readsSyl_45 : decode cX7_readsSyl 45 = .ok (.aload_n 0, 1) := by decide +kernel
theorem dX7_readsSyl_46 : decode cX7_readsSyl 46 = .ok (.getfield 39, 3) := by decide +kernel
theorem dX7_readsSyl_49 : decode cX7_readsSyl 49 = .ok (.iload 4, 2) := by decide +kernel
theorem dX7_readsSyl_51 : decode cX7_readsSyl 51 = .ok (.iaload, 1) := by decide +kernel
theorem dX7_readsSyl_52 : decode cX7_readsSyl 52 = .ok (.lload_n 1, 1) := by decide +kernel
theorem dX7_readsSyl_53 : decode cX7_readsSyl 53 = .ok (.l2i, 1) := by decide +kernel
theorem dX7_readsSyl_54 : decode cX7_readsSyl 54 = .ok (.if_icmp .eq 7, 3) := by decide +kernel
theorem dX7_readsSyl_57 : decode cX7_readsSyl 57 = .ok (.iconst 1, 1) := by decide +kernel
theorem dX7_readsSyl_58 : decode cX7_readsSyl 58 = .ok (.goto 4, 3) := by decide +kernel
theorem dX7_readsSyl_61 : decode cX7_readsSyl 61 = .ok (.iconst 0, 1) := by decide +kernel
theorem dX7_readsSyl_62 : decode cX7_readsSyl 62 = .ok (.istore_n 3, 1) := by decide +kernel
theorem dX7_readsSyl_63 : decode cX7_readsSyl 63 = .ok (.iinc 4 1, 3) := by decide +kernel
theorem dX7_readsSyl_66 : decode cX7_readsSyl 66 = .ok (.goto (-34), 3) := by decide +kernel
theorem dX7_readsSyl_69 : decode cX7_readsSyl 69 = .ok (.iload_n 3, 1) := by decide +kernel
theorem dX7_readsSyl_70 : decode cX7_readsSyl 70 = .ok (.ifCond .ne 5, 3) := by decide +kernel
theorem dX7_readsSyl_73 : decode cX7_readsSyl 73 = .ok (.iconst 0, 1) := by decide +kernel
theorem dX7_readsSyl_74 : decode cX7_readsSyl 74 = .ok (.ireturn, 1) := by decide +kernel
theorem dX7_readsSyl_75 : decode cX7_readsSyl 75 = .ok (.aload_n 0, 1) := by decide +kernel
theorem dX7_readsSyl_76 : decode cX7_readsSyl 76 = .ok (.getfield 39, 3) := by decide +kernel
theorem dX7_readsSyl_79 : decode cX7_readsSyl 79 = .ok (.aload_n 0, 1) := by decide +kernel
theorem dX7_readsSyl_80 : decode cX7_readsSyl 80 = .ok (.getfield 129, 3) := by decide +kernel
theorem dX7_readsSyl_83 : decode cX7_readsSyl 83 = .ok (.lload_n 1, 1) := by decide +kernel
theorem dX7_readsSyl_84 : decode cX7_readsSyl 84 = .ok (.l2i, 1) := by decide +kernel
theorem dX7_readsSyl_85 : decode cX7_readsSyl 85 = .ok (.iastore, 1) := by decide +kernel
theorem dX7_readsSyl_86 : decode cX7_readsSyl 86 = .ok (.aload_n 0, 1) := by decide +kernel
theorem dX7_readsSyl_87 : decode cX7_readsSyl 87 = .ok (.dup, 1) := by decide +kernel
theorem dX7_readsSyl_88 : decode cX7_readsSyl 88 = .ok (.getfield 129, 3) := by decide +kernel
theorem dX7_readsSyl_91 : decode cX7_readsSyl 91 = .ok (.iconst 1, 1) := by decide +kernel
theorem dX7_readsSyl_92 : decode cX7_readsSyl 92 = .ok (.iadd, 1) := by decide +kernel
theorem dX7_readsSyl_93 : decode cX7_readsSyl 93 = .ok (.putfield 129, 3) := by decide +kernel
theorem dX7_readsSyl_96 : decode cX7_readsSyl 96 = .ok (.aload_n 0, 1) := by decide +kernel
theorem dX7_readsSyl_97 : decode cX7_readsSyl 97 = .ok (.getfield 24, 3) := by decide +kernel
theorem dX7_readsSyl_100 : decode cX7_readsSyl 100 = .ok (.iconst 5, 1) := by decide +kernel
theorem dX7_readsSyl_101 : decode cX7_readsSyl 101 = .ok (.aload_n 0, 1) := by decide +kernel
theorem dX7_readsSyl_102 : decode cX7_readsSyl 102 = .ok (.getfield 113, 3) := by decide +kernel
theorem dX7_readsSyl_105 : decode cX7_readsSyl 105 = .ok (.imul, 1) := by decide +kernel
theorem dX7_readsSyl_106 : decode cX7_readsSyl 106 = .ok (.iconst 1, 1) := by decide +kernel
theorem dX7_readsSyl_107 : decode cX7_readsSyl 107 = .ok (.iadd, 1) := by decide +kernel
theorem dX7_readsSyl_108 : decode cX7_readsSyl 108 = .ok (.lload_n 1, 1) := by decide +kernel
theorem dX7_readsSyl_109 : decode cX7_readsSyl 109 = .ok (.l2i, 1) := by decide +kernel
theorem dX7_readsSyl_110 : decode cX7_readsSyl 110 = .ok (.iastore, 1) := by decide +kernel
theorem dX7_readsSyl_111 : decode cX7_readsSyl 111 = .ok (.aload_n 0, 1) := by decide +kernel
theorem dX7_readsSyl_112 : decode cX7_readsSyl 112 = .ok (.invokevirtual 116, 3) := by decide +kernel
theorem dX7_readsSyl_115 : decode cX7_readsSyl 115 = .ok (.iconst 1, 1) := by decide +kernel
theorem dX7_readsSyl_116 : decode cX7_readsSyl 116 = .ok (.ireturn, 1) := by decide +kernel
theorem dX7_readsWord_0 : decode cX7_readsWord 0 = .ok (.aload_n 0, 1) := by decide +kernel
theorem dX7_readsWord_1 : decode cX7_readsWord 1 = .ok (.getfield 81, 3) := by decide +kernel
theorem dX7_readsWord_4 : decode cX7_readsWord 4 = .ok (.aload_n 0, 1) := by decide +kernel
theorem dX7_readsWord_5 : decode cX7_readsWord 5 = .ok (.getfield 72, 3) := by decide +kernel
theorem dX7_readsWord_8 : decode cX7_readsWord 8 = .ok (.if_icmp .ge 21, 3) := by decide +kernel
theorem dX7_readsWord_11 : decode cX7_readsWord 11 = .ok (.aload_n 0, 1) := by decide +kernel
theorem dX7_readsWord_12 : decode cX7_readsWord 12 = .ok (.getfield 21, 3) := by decide +kernel
theorem dX7_readsWord_15 : decode cX7_readsWord 15 = .ok (.aload_n 0, 1) := by decide +kernel
theorem dX7_readsWord_16 : decode cX7_readsWord 16 = .ok (.getfield 81, 3) := by decide +kernel
theorem dX7_readsWord_19 : decode cX7_readsWord 19 = .ok (.iaload, 1) := by decide +kernel
theorem dX7_readsWord_20 : decode cX7_readsWord 20 = .ok (.bipush 45, 2) := by decide +kernel
theorem dX7_readsWord_22 : decode cX7_readsWord 22 = .ok (.if_icmp .ne 7, 3) := by decide +kernel
theorem dX7_readsWord_25 : decode cX7_readsWord 25 = .ok (.iconst 1, 1) := by decide +kernel
theorem dX7_readsWord_26 : decode cX7_readsWord 26 = .ok (.goto 4, 3) := by decide +kernel
theorem dX7_readsWord_29 : decode cX7_readsWord 29 = .ok (.iconst 0, 1) := by decide +kernel
theorem dX7_readsWord_30 : decode cX7_readsWord 30 = .ok (.istore_n 1, 1) := by decide +kernel
theorem dX7_readsWord_31 : decode cX7_readsWord 31 = .ok (.iload_n 1, 1) := by decide +kernel
theorem dX7_readsWord_32 : decode cX7_readsWord 32 = .ok (.ifCond .eq 7, 3) := by decide +kernel
theorem dX7_readsWord_35 : decode cX7_readsWord 35 = .ok (.lconst 0, 1) := by decide +kernel
theorem dX7_readsWord_36 : decode cX7_readsWord 36 = .ok (.goto 9, 3) := by decide +kernel
theorem dX7_readsWord_39 : decode cX7_readsWord 39 = .ok (.aload_n 0, 1) := by decide +kernel
theorem dX7_readsWord_40 : decode cX7_readsWord 40 = .ok (.bipush 9, 2) := by decide +kernel
theorem dX7_readsWord_42 : decode cX7_readsWord 42 = .ok (.invokevirtual 125, 3) := by decide +kernel
theorem dX7_readsWord_45 : decode cX7_readsWord 45 = .ok (.lstore_n 2, 1) := by decide +kernel
theorem dX7_readsWord_46 : decode cX7_readsWord 46 = .ok (.lload_n 2, 1) := by decide +kernel
theorem dX7_readsWord_47 : decode cX7_readsWord 47 = .ok (.ldc2_w 119, 3) := by decide +kernel
theorem dX7_readsWord_50 : decode cX7_readsWord 50 = .ok (.lcmp, 1) := by decide +kernel
theorem dX7_readsWord_51 : decode cX7_readsWord 51 = .ok (.ifCond .ne 5, 3) := by decide +kernel
theorem dX7_readsWord_54 : decode cX7_readsWord 54 = .ok (.iconst 0, 1) := by decide +kernel
theorem dX7_readsWord_55 : decode cX7_readsWord 55 = .ok (.ireturn, 1) := by decide +kernel
theorem dX7_readsWord_56 : decode cX7_readsWord 56 = .ok (.aload_n 0, 1) := by decide +kernel
theorem dX7_readsWord_57 : decode cX7_readsWord 57 = .ok (.getfield 27, 3) := by decide +kernel
theorem dX7_readsWord_60 : decode cX7_readsWord 60 = .ok (.aload_n 0, 1) := by decide +kernel
theorem dX7_readsWord_61 : decode cX7_readsWord 61 = .ok (.getfield 113, 3) := by decide +kernel
theorem dX7_readsWord_64 : decode cX7_readsWord 64 = .ok (.lload_n 2, 1) := by decide +kernel
theorem dX7_readsWord_65 : decode cX7_readsWord 65 = .ok (.lastore, 1) := by decide +kernel
theorem dX7_readsWord_66 : decode cX7_readsWord 66 = .ok (.aload_n 0, 1) := by decide +kernel
theorem dX7_readsWord_67 : decode cX7_readsWord 67 = .ok (.invokevirtual 116, 3) := by decide +kernel
theorem dX7_readsWord_70 : decode cX7_readsWord 70 = .ok (.iconst 1, 1) := by decide +kernel
theorem dX7_readsWord_71 : decode cX7_readsWord 71 = .ok (.ireturn, 1) := by decide +kernel
theorem dX7_readsRest_0 : decode cX7_readsRest 0 = .ok (.iconst 5, 1) := by decide +kernel
theorem dX7_readsRest_1 : decode cX7_readsRest 1 = .ok (.aload_n 0, 1) := by decide +kernel
theorem dX7_readsRest_2 : decode cX7_readsRest 2 = .ok (.getfield 113, 3) := by decide +kernel
theorem dX7_readsRest_5 : decode cX7_readsRest 5 = .ok (.imul, 1) := by decide +kernel
theorem dX7_readsRest_6 : decode cX7_readsRest 6 = .ok (.iconst 1, 1) := by decide +kernel
theorem dX7_readsRest_7 : decode cX7_readsRest 7 = .ok (.iadd, 1) := by decide +kernel
theorem dX7_readsRest_8 : decode cX7_readsRest 8 = .ok (.istore_n 2, 1) := by decide +kernel
theorem dX7_readsRest_9 : decode cX7_readsRest 9 = .ok (.aload_n 0, 1) := by decide +kernel
theorem dX7_readsRest_10 : decode cX7_readsRest 10 = .ok (.getfield 132, 3) := by decide +kernel
theorem dX7_readsRest_13 : decode cX7_readsRest 13 = .ok (.iconst 1, 1) := by decide +kernel
theorem dX7_readsRest_14 : decode cX7_readsRest 14 = .ok (.isub, 1) := by decide +kernel
theorem dX7_readsRest_15 : decode cX7_readsRest 15 = .ok (.istore_n 3, 1) := by decide +kernel
theorem dX7_readsRest_16 : decode cX7_readsRest 16 = .ok (.iload_n 1, 1) := by decide +kernel
theorem dX7_readsRest_17 : decode cX7_readsRest 17 = .ok (.tableswitch 216 0 6 #[43, 68, 73, 99, 152, 176, 207], 43) := by decide +kernel
theorem dX7_readsRest_60 : decode cX7_readsRest 60 = .ok (.aload_n 0, 1) := by decide +kernel
theorem dX7_readsRest_61 : decode cX7_readsRest 61 = .ok (.invokevirtual 135, 3) := by decide +kernel
theorem dX7_readsRest_64 : decode cX7_readsRest 64 = .ok (.ifCond .eq 19, 3) := by decide +kernel
theorem dX7_readsRest_67 : decode cX7_readsRest 67 = .ok (.aload_n 0, 1) := by decide +kernel
theorem dX7_readsRest_68 : decode cX7_readsRest 68 = .ok (.iconst 1, 1) := by decide +kernel
theorem dX7_readsRest_69 : decode cX7_readsRest 69 = .ok (.iconst 0, 1) := by decide +kernel
theorem dX7_readsRest_70 : decode cX7_readsRest 70 = .ok (.bipush 99, 2) := by decide +kernel
theorem dX7_readsRest_72 : decode cX7_readsRest 72 = .ok (.iconst (-1), 1) := by decide +kernel
theorem dX7_readsRest_73 : decode cX7_readsRest 73 = .ok (.invokevirtual 139, 3) := by decide +kernel
theorem dX7_readsRest_76 : decode cX7_readsRest 76 = .ok (.ifCond .eq 7, 3) := by decide +kernel
theorem dX7_readsRest_79 : decode cX7_readsRest 79 = .ok (.iconst 1, 1) := by decide +kernel
theorem dX7_readsRest_80 : decode cX7_readsRest 80 = .ok (.goto 4, 3) := by decide +kernel
theorem dX7_readsRest_83 : decode cX7_readsRest 83 = .ok (.iconst 0, 1) := by decide +kernel
theorem dX7_readsRest_84 : decode cX7_readsRest 84 = .ok (.ireturn, 1) := by decide +kernel
theorem dX7_readsRest_85 : decode cX7_readsRest 85 = .ok (.aload_n 0, 1) := by decide +kernel
theorem dX7_readsRest_86 : decode cX7_readsRest 86 = .ok (.invokevirtual 143, 3) := by decide +kernel
theorem dX7_readsRest_89 : decode cX7_readsRest 89 = .ok (.ireturn, 1) := by decide +kernel
theorem dX7_readsRest_90 : decode cX7_readsRest 90 = .ok (.aload_n 0, 1) := by decide +kernel
theorem dX7_readsRest_91 : decode cX7_readsRest 91 = .ok (.iconst 0, 1) := by decide +kernel
theorem dX7_readsRest_92 : decode cX7_readsRest 92 = .ok (.iconst 1, 1) := by decide +kernel
theorem dX7_readsRest_93 : decode cX7_readsRest 93 = .ok (.sipush 400, 3) := by decide +kernel
theorem dX7_readsRest_96 : decode cX7_readsRest 96 = .ok (.iconst (-1), 1) := by decide +kernel
theorem dX7_readsRest_97 : decode cX7_readsRest 97 = .ok (.invokevirtual 139, 3) := by decide +kernel
theorem dX7_readsRest_100 : decode cX7_readsRest 100 = .ok (.ifCond .eq 14, 3) := by decide +kernel
theorem dX7_readsRest_103 : decode cX7_readsRest 103 = .ok (.aload_n 0, 1) := by decide +kernel
theorem dX7_readsRest_104 : decode cX7_readsRest 104 = .ok (.invokevirtual 146, 3) := by decide +kernel
theorem dX7_readsRest_107 : decode cX7_readsRest 107 = .ok (.ifCond .eq 7, 3) := by decide +kernel
theorem dX7_readsRest_110 : decode cX7_readsRest 110 = .ok (.iconst 1, 1) := by decide +kernel
theorem dX7_readsRest_111 : decode cX7_readsRest 111 = .ok (.goto 4, 3) := by decide +kernel
theorem dX7_readsRest_114 : decode cX7_readsRest 114 = .ok (.iconst 0, 1) := by decide +kernel
theorem dX7_readsRest_115 : decode cX7_readsRest 115 = .ok (.ireturn, 1) := by decide +kernel
theorem dX7_readsRest_116 : decode cX7_readsRest 116 = .ok (.aload_n 0, 1) := by decide +kernel
theorem dX7_readsRest_117 : decode cX7_readsRest 117 = .ok (.iconst 0, 1) := by decide +kernel
theorem dX7_readsRest_118 : decode cX7_readsRest 118 = .ok (.iconst 0, 1) := by decide +kernel
theorem dX7_readsRest_119 : decode cX7_readsRest 119 = .ok (.iload_n 3, 1) := by decide +kernel
theorem dX7_readsRest_120 : decode cX7_readsRest 120 = .ok (.iconst (-1), 1) := by decide +kernel
theorem dX7_readsRest_121 : decode cX7_readsRest 121 = .ok (.invokevirtual 139, 3) := by decide +kernel
theorem dX7_readsRest_124 : decode cX7_readsRest 124 = .ok (.ifCond .eq 43, 3) := by decide +kernel
theorem dX7_readsRest_127 : decode cX7_readsRest 127 = .ok (.aload_n 0, 1) := by decide +kernel
theorem dX7_readsRest_128 : decode cX7_readsRest 128 = .ok (.iconst 1, 1) := by decide +kernel
theorem dX7_readsRest_129 : decode cX7_readsRest 129 = .ok (.iconst 0, 1) := by decide +kernel
theorem dX7_readsRest_130 : decode cX7_readsRest 130 = .ok (.iload_n 3, 1) := by decide +kernel
theorem dX7_readsRest_131 : decode cX7_readsRest 131 = .ok (.aload_n 0, 1) := by decide +kernel
theorem dX7_readsRest_132 : decode cX7_readsRest 132 = .ok (.getfield 24, 3) := by decide +kernel
theorem dX7_readsRest_135 : decode cX7_readsRest 135 = .ok (.iload_n 2, 1) := by decide +kernel
theorem dX7_readsRest_136 : decode cX7_readsRest 136 = .ok (.iaload, 1) := by decide +kernel
theorem dX7_readsRest_137 : decode cX7_readsRest 137 = .ok (.invokevirtual 139, 3) := by decide +kernel
theorem dX7_readsRest_140 : decode cX7_readsRest 140 = .ok (.ifCond .eq 27, 3) := by decide +kernel
theorem dX7_readsRest_143 : decode cX7_readsRest 143 = .ok (.aload_n 0, 1) := by decide +kernel
theorem dX7_readsRest_144 : decode cX7_readsRest 144 = .ok (.iconst 2, 1) := by decide +kernel
theorem dX7_readsRest_145 : decode cX7_readsRest 145 = .ok (.iconst 1, 1) := by decide +kernel
theorem dX7_readsRest_146 : decode cX7_readsRest 146 = .ok (.sipush 400, 3) := by decide +kernel
theorem dX7_readsRest_149 : decode cX7_readsRest 149 = .ok (.iconst (-1), 1) := by decide +kernel
theorem dX7_readsRest_150 : decode cX7_readsRest 150 = .ok (.invokevirtual 139, 3) := by decide +kernel
theorem dX7_readsRest_153 : decode cX7_readsRest 153 = .ok (.ifCond .eq 14, 3) := by decide +kernel
theorem dX7_readsRest_156 : decode cX7_readsRest 156 = .ok (.aload_n 0, 1) := by decide +kernel
theorem dX7_readsRest_157 : decode cX7_readsRest 157 = .ok (.invokevirtual 146, 3) := by decide +kernel
theorem dX7_readsRest_160 : decode cX7_readsRest 160 = .ok (.ifCond .eq 7, 3) := by decide +kernel
theorem dX7_readsRest_163 : decode cX7_readsRest 163 = .ok (.iconst 1, 1) := by decide +kernel
theorem dX7_readsRest_164 : decode cX7_readsRest 164 = .ok (.goto 4, 3) := by decide +kernel
theorem dX7_readsRest_167 : decode cX7_readsRest 167 = .ok (.iconst 0, 1) := by decide +kernel
theorem dX7_readsRest_168 : decode cX7_readsRest 168 = .ok (.ireturn, 1) := by decide +kernel
theorem dX7_readsRest_169 : decode cX7_readsRest 169 = .ok (.aload_n 0, 1) := by decide +kernel
theorem dX7_readsRest_170 : decode cX7_readsRest 170 = .ok (.iconst 0, 1) := by decide +kernel
theorem dX7_readsRest_171 : decode cX7_readsRest 171 = .ok (.iconst 0, 1) := by decide +kernel
theorem dX7_readsRest_172 : decode cX7_readsRest 172 = .ok (.iload_n 3, 1) := by decide +kernel
theorem dX7_readsRest_173 : decode cX7_readsRest 173 = .ok (.iconst (-1), 1) := by decide +kernel
theorem dX7_readsRest_174 : decode cX7_readsRest 174 = .ok (.invokevirtual 139, 3) := by decide +kernel
theorem dX7_readsRest_177 : decode cX7_readsRest 177 = .ok (.ifCond .eq 14, 3) := by decide +kernel
theorem dX7_readsRest_180 : decode cX7_readsRest 180 = .ok (.aload_n 0, 1) := by decide +kernel
theorem dX7_readsRest_181 : decode cX7_readsRest 181 = .ok (.invokevirtual 146, 3) := by decide +kernel
theorem dX7_readsRest_184 : decode cX7_readsRest 184 = .ok (.ifCond .eq 7, 3) := by decide +kernel
theorem dX7_readsRest_187 : decode cX7_readsRest 187 = .ok (.iconst 1, 1) := by decide +kernel
theorem dX7_readsRest_188 : decode cX7_readsRest 188 = .ok (.goto 4, 3) := by decide +kernel
theorem dX7_readsRest_191 : decode cX7_readsRest 191 = .ok (.iconst 0, 1) := by decide +kernel
theorem dX7_readsRest_192 : decode cX7_readsRest 192 = .ok (.ireturn, 1) := by decide +kernel
theorem dX7_readsRest_193 : decode cX7_readsRest 193 = .ok (.aload_n 0, 1) := by decide +kernel
theorem dX7_readsRest_194 : decode cX7_readsRest 194 = .ok (.iconst 0, 1) := by decide +kernel
theorem dX7_readsRest_195 : decode cX7_readsRest 195 = .ok (.iconst 1, 1) := by decide +kernel
theorem dX7_readsRest_196 : decode cX7_readsRest 196 = .ok (.sipush 400, 3) := by decide +kernel
theorem dX7_readsRest_199 : decode cX7_readsRest 199 = .ok (.iconst (-1), 1) := by decide +kernel
theorem dX7_readsRest_200 : decode cX7_readsRest 200 = .ok (.invokevirtual 139, 3) := by decide +kernel
theorem dX7_readsRest_203 : decode cX7_readsRest 203 = .ok (.ifCond .eq 19, 3) := by decide +kernel
theorem dX7_readsRest_206 : decode cX7_readsRest 206 = .ok (.aload_n 0, 1) := by decide +kernel
theorem dX7_readsRest_207 : decode cX7_readsRest 207 = .ok (.iconst 1, 1) := by decide +kernel
theorem dX7_readsRest_208 : decode cX7_readsRest 208 = .ok (.iconst 0, 1) := by decide +kernel
theorem dX7_readsRest_209 : decode cX7_readsRest 209 = .ok (.bipush 10, 2) := by decide +kernel
theorem dX7_readsRest_211 : decode cX7_readsRest 211 = .ok (.iconst (-1), 1) := by decide +kernel
theorem dX7_readsRest_212 : decode cX7_readsRest 212 = .ok (.invokevirtual 139, 3) := by decide +kernel
theorem dX7_readsRest_215 : decode cX7_readsRest 215 = .ok (.ifCond .eq 7, 3) := by decide +kernel
theorem dX7_readsRest_218 : decode cX7_readsRest 218 = .ok (.iconst 1, 1) := by decide +kernel
theorem dX7_readsRest_219 : decode cX7_readsRest 219 = .ok (.goto 4, 3) := by decide +kernel
theorem dX7_readsRest_222 : decode cX7_readsRest 222 = .ok (.iconst 0, 1) := by decide +kernel
theorem dX7_readsRest_223 : decode cX7_readsRest 223 = .ok (.ireturn, 1) := by decide +kernel
theorem dX7_readsRest_224 : decode cX7_readsRest 224 = .ok (.aload_n 0, 1) := by decide +kernel
theorem dX7_readsRest_225 : decode cX7_readsRest 225 = .ok (.iconst 0, 1) := by decide +kernel
theorem dX7_readsRest_226 : decode cX7_readsRest 226 = .ok (.iconst 1, 1) := by decide +kernel
theorem dX7_readsRest_227 : decode cX7_readsRest 227 = .ok (.iconst 4, 1) := by decide +kernel
theorem dX7_readsRest_228 : decode cX7_readsRest 228 = .ok (.iconst (-1), 1) := by decide +kernel
theorem dX7_readsRest_229 : decode cX7_readsRest 229 = .ok (.invokevirtual 139, 3) := by decide +kernel
theorem dX7_readsRest_232 : decode cX7_readsRest 232 = .ok (.ireturn, 1) := by decide +kernel
theorem dX7_readsRest_233 : decode cX7_readsRest 233 = .ok (.iconst 1, 1) := by decide +kernel
theorem dX7_readsRest_234 : decode cX7_readsRest 234 = .ok (.ireturn, 1) := by decide +kernel
theorem dX7_readsLine_0 : decode cX7_readsLine 0 = .ok (.aload_n 0, 1) := by decide +kernel
theorem dX7_readsLine_1 : decode cX7_readsLine 1 = .ok (.invokevirtual 149, 3) := by decide +kernel
theorem dX7_readsLine_4 : decode cX7_readsLine 4 = .ok (.istore_n 1, 1) := by decide +kernel
theorem dX7_readsLine_5 : decode cX7_readsLine 5 = .ok (.iload_n 1, 1) := by decide +kernel
theorem dX7_readsLine_6 : decode cX7_readsLine 6 = .ok (.iconst 2, 1) := by decide +kernel
theorem dX7_readsLine_7 : decode cX7_readsLine 7 = .ok (.if_icmp .eq 8, 3) := by decide +kernel
theorem dX7_readsLine_10 : decode cX7_readsLine 10 = .ok (.iload_n 1, 1) := by decide +kernel
theorem dX7_readsLine_11 : decode cX7_readsLine 11 = .ok (.iconst 3, 1) := by decide +kernel
theorem dX7_readsLine_12 : decode cX7_readsLine 12 = .ok (.if_icmp .ne 7, 3) := by decide +kernel
theorem dX7_readsLine_15 : decode cX7_readsLine 15 = .ok (.iconst 1, 1) := by decide +kernel
theorem dX7_readsLine_16 : decode cX7_readsLine 16 = .ok (.goto 4, 3) := by decide +kernel
theorem dX7_readsLine_19 : decode cX7_readsLine 19 = .ok (.iconst 0, 1) := by decide +kernel
theorem dX7_readsLine_20 : decode cX7_readsLine 20 = .ok (.istore_n 2, 1) := by decide +kernel
theorem dX7_readsLine_21 : decode cX7_readsLine 21 = .ok (.iload_n 1, 1) := by decide +kernel
theorem dX7_readsLine_22 : decode cX7_readsLine 22 = .ok (.iconst (-1), 1) := by decide +kernel
theorem dX7_readsLine_23 : decode cX7_readsLine 23 = .ok (.if_icmp .eq 30, 3) := by decide +kernel
theorem dX7_readsLine_26 : decode cX7_readsLine 26 = .ok (.iload_n 2, 1) := by decide +kernel
theorem dX7_readsLine_27 : decode cX7_readsLine 27 = .ok (.ifCond .eq 12, 3) := by decide +kernel
theorem dX7_readsLine_30 : decode cX7_readsLine 30 = .ok (.aload_n 0, 1) := by decide +kernel
theorem dX7_readsLine_31 : decode cX7_readsLine 31 = .ok (.getfield 132, 3) := by decide +kernel
theorem dX7_readsLine_34 : decode cX7_readsLine 34 = .ok (.bipush 16, 2) := by decide +kernel
theorem dX7_readsLine_36 : decode cX7_readsLine 36 = .ok (.if_icmp .eq 17, 3) := by decide +kernel
theorem dX7_readsLine_39 : decode cX7_readsLine 39 = .ok (.iload_n 1, 1) := by decide +kernel
theorem dX7_readsLine_40 : decode cX7_readsLine 40 = .ok (.iconst 5, 1) := by decide +kernel
theorem dX7_readsLine_41 : decode cX7_readsLine 41 = .ok (.if_icmp .ne 14, 3) := by decide +kernel
theorem dX7_readsLine_44 : decode cX7_readsLine 44 = .ok (.aload_n 0, 1) := by decide +kernel
theorem dX7_readsLine_45 : decode cX7_readsLine 45 = .ok (.getfield 153, 3) := by decide +kernel
theorem dX7_readsLine_48 : decode cX7_readsLine 48 = .ok (.bipush 6, 2) := by decide +kernel
theorem dX7_readsLine_50 : decode cX7_readsLine 50 = .ok (.if_icmp .ne 5, 3) := by decide +kernel
theorem dX7_readsLine_53 : decode cX7_readsLine 53 = .ok (.iconst 0, 1) := by decide +kernel
theorem dX7_readsLine_54 : decode cX7_readsLine 54 = .ok (.ireturn, 1) := by decide +kernel
theorem dX7_readsLine_55 : decode cX7_readsLine 55 = .ok (.aload_n 0, 1) := by decide +kernel
theorem dX7_readsLine_56 : decode cX7_readsLine 56 = .ok (.invokevirtual 116, 3) := by decide +kernel
theorem dX7_readsLine_59 : decode cX7_readsLine 59 = .ok (.aload_n 0, 1) := by decide +kernel
theorem dX7_readsLine_60 : decode cX7_readsLine 60 = .ok (.getfield 24, 3) := by decide +kernel
theorem dX7_readsLine_63 : decode cX7_readsLine 63 = .ok (.iconst 5, 1) := by decide +kernel
theorem dX7_readsLine_64 : decode cX7_readsLine 64 = .ok (.aload_n 0, 1) := by decide +kernel
theorem dX7_readsLine_65 : decode cX7_readsLine 65 = .ok (.getfield 113, 3) := by decide +kernel
theorem dX7_readsLine_68 : decode cX7_readsLine 68 = .ok (.imul, 1) := by decide +kernel
theorem dX7_readsLine_69 : decode cX7_readsLine 69 = .ok (.iload_n 1, 1) := by decide +kernel
theorem dX7_readsLine_70 : decode cX7_readsLine 70 = .ok (.iastore, 1) := by decide +kernel
theorem dX7_readsLine_71 : decode cX7_readsLine 71 = .ok (.aload_n 0, 1) := by decide +kernel
theorem dX7_readsLine_72 : decode cX7_readsLine 72 = .ok (.iload_n 1, 1) := by decide +kernel
theorem dX7_readsLine_73 : decode cX7_readsLine 73 = .ok (.invokevirtual 156, 3) := by decide +kernel
theorem dX7_readsLine_76 : decode cX7_readsLine 76 = .ok (.ifCond .ne 5, 3) := by decide +kernel
theorem dX7_readsLine_79 : decode cX7_readsLine 79 = .ok (.iconst 0, 1) := by decide +kernel
theorem dX7_readsLine_80 : decode cX7_readsLine 80 = .ok (.ireturn, 1) := by decide +kernel
theorem dX7_readsLine_81 : decode cX7_readsLine 81 = .ok (.aload_n 0, 1) := by decide +kernel
theorem dX7_readsLine_82 : decode cX7_readsLine 82 = .ok (.dup, 1) := by decide +kernel
theorem dX7_readsLine_83 : decode cX7_readsLine 83 = .ok (.getfield 132, 3) := by decide +kernel
theorem dX7_readsLine_86 : decode cX7_readsLine 86 = .ok (.iload_n 2, 1) := by decide +kernel
theorem dX7_readsLine_87 : decode cX7_readsLine 87 = .ok (.ifCond .eq 7, 3) := by decide +kernel
theorem dX7_readsLine_90 : decode cX7_readsLine 90 = .ok (.iconst 1, 1) := by decide +kernel
theorem dX7_readsLine_91 : decode cX7_readsLine 91 = .ok (.goto 4, 3) := by decide +kernel
theorem dX7_readsLine_94 : decode cX7_readsLine 94 = .ok (.iconst 0, 1) := by decide +kernel
theorem dX7_readsLine_95 : decode cX7_readsLine 95 = .ok (.iadd, 1) := by decide +kernel
theorem dX7_readsLine_96 : decode cX7_readsLine 96 = .ok (.putfield 132, 3) := by decide +kernel
theorem dX7_readsLine_99 : decode cX7_readsLine 99 = .ok (.aload_n 0, 1) := by decide +kernel
theorem dX7_readsLine_100 : decode cX7_readsLine 100 = .ok (.dup, 1) := by decide +kernel
theorem dX7_readsLine_101 : decode cX7_readsLine 101 = .ok (.getfield 153, 3) := by decide +kernel
theorem dX7_readsLine_104 : decode cX7_readsLine 104 = .ok (.iload_n 1, 1) := by decide +kernel
theorem dX7_readsLine_105 : decode cX7_readsLine 105 = .ok (.iconst 5, 1) := by decide +kernel
theorem dX7_readsLine_106 : decode cX7_readsLine 106 = .ok (.if_icmp .ne 7, 3) := by decide +kernel
theorem dX7_readsLine_109 : decode cX7_readsLine 109 = .ok (.iconst 1, 1) := by decide +kernel
theorem dX7_readsLine_110 : decode cX7_readsLine 110 = .ok (.goto 4, 3) := by decide +kernel
theorem dX7_readsLine_113 : decode cX7_readsLine 113 = .ok (.iconst 0, 1) := by decide +kernel
theorem dX7_readsLine_114 : decode cX7_readsLine 114 = .ok (.iadd, 1) := by decide +kernel
theorem dX7_readsLine_115 : decode cX7_readsLine 115 = .ok (.putfield 153, 3) := by decide +kernel
theorem dX7_readsLine_118 : decode cX7_readsLine 118 = .ok (.iload_n 1, 1) := by decide +kernel
theorem dX7_readsLine_119 : decode cX7_readsLine 119 = .ok (.bipush 7, 2) := by decide +kernel
theorem dX7_readsLine_121 : decode cX7_readsLine 121 = .ok (.if_icmp .ne 18, 3) := by decide +kernel
theorem dX7_readsLine_124 : decode cX7_readsLine 124 = .ok (.aload_n 0, 1) := by decide +kernel
theorem dX7_readsLine_125 : decode cX7_readsLine 125 = .ok (.iconst 0, 1) := by decide +kernel
theorem dX7_readsLine_126 : decode cX7_readsLine 126 = .ok (.putfield 132, 3) := by decide +kernel
theorem dX7_readsLine_129 : decode cX7_readsLine 129 = .ok (.aload_n 0, 1) := by decide +kernel
theorem dX7_readsLine_130 : decode cX7_readsLine 130 = .ok (.iconst 0, 1) := by decide +kernel
theorem dX7_readsLine_131 : decode cX7_readsLine 131 = .ok (.putfield 153, 3) := by decide +kernel
theorem dX7_readsLine_134 : decode cX7_readsLine 134 = .ok (.aload_n 0, 1) := by decide +kernel
theorem dX7_readsLine_135 : decode cX7_readsLine 135 = .ok (.iconst 0, 1) := by decide +kernel
theorem dX7_readsLine_136 : decode cX7_readsLine 136 = .ok (.putfield 129, 3) := by decide +kernel
theorem dX7_readsLine_139 : decode cX7_readsLine 139 = .ok (.aload_n 0, 1) := by decide +kernel
theorem dX7_readsLine_140 : decode cX7_readsLine 140 = .ok (.dup, 1) := by decide +kernel
theorem dX7_readsLine_141 : decode cX7_readsLine 141 = .ok (.getfield 113, 3) := by decide +kernel
theorem dX7_readsLine_144 : decode cX7_readsLine 144 = .ok (.iconst 1, 1) := by decide +kernel
theorem dX7_readsLine_145 : decode cX7_readsLine 145 = .ok (.iadd, 1) := by decide +kernel
theorem dX7_readsLine_146 : decode cX7_readsLine 146 = .ok (.putfield 113, 3) := by decide +kernel
theorem dX7_readsLine_149 : decode cX7_readsLine 149 = .ok (.iconst 1, 1) := by decide +kernel
theorem dX7_readsLine_150 : decode cX7_readsLine 150 = .ok (.ireturn, 1) := by decide +kernel
theorem dX7_fault_0 : decode cX7_fault 0 = .ok (.aload_n 0, 1) := by decide +kernel
theorem dX7_fault_1 : decode cX7_fault 1 = .ok (.iconst 0, 1) := by decide +kernel
theorem dX7_fault_2 : decode cX7_fault 2 = .ok (.putfield 78, 3) := by decide +kernel
theorem dX7_fault_5 : decode cX7_fault 5 = .ok (.aload_n 0, 1) := by decide +kernel
theorem dX7_fault_6 : decode cX7_fault 6 = .ok (.iconst 0, 1) := by decide +kernel
theorem dX7_fault_7 : decode cX7_fault 7 = .ok (.putfield 113, 3) := by decide +kernel
theorem dX7_fault_10 : decode cX7_fault 10 = .ok (.aload_n 0, 1) := by decide +kernel
theorem dX7_fault_11 : decode cX7_fault 11 = .ok (.aload_n 0, 1) := by decide +kernel
theorem dX7_fault_12 : decode cX7_fault 12 = .ok (.getfield 7, 3) := by decide +kernel
theorem dX7_fault_15 : decode cX7_fault 15 = .ok (.bipush 38, 2) := by decide +kernel
theorem dX7_fault_17 : decode cX7_fault 17 = .ok (.iaload, 1) := by decide +kernel
theorem dX7_fault_18 : decode cX7_fault 18 = .ok (.putfield 132, 3) := by decide +kernel
theorem dX7_fault_21 : decode cX7_fault 21 = .ok (.aload_n 0, 1) := by decide +kernel
theorem dX7_fault_22 : decode cX7_fault 22 = .ok (.aload_n 0, 1) := by decide +kernel
theorem dX7_fault_23 : decode cX7_fault 23 = .ok (.getfield 7, 3) := by decide +kernel
theorem dX7_fault_26 : decode cX7_fault 26 = .ok (.bipush 87, 2) := by decide +kernel
theorem dX7_fault_28 : decode cX7_fault 28 = .ok (.iaload, 1) := by decide +kernel
theorem dX7_fault_29 : decode cX7_fault 29 = .ok (.putfield 153, 3) := by decide +kernel
theorem dX7_fault_32 : decode cX7_fault 32 = .ok (.aload_n 0, 1) := by decide +kernel
theorem dX7_fault_33 : decode cX7_fault 33 = .ok (.aload_n 0, 1) := by decide +kernel
theorem dX7_fault_34 : decode cX7_fault 34 = .ok (.getfield 7, 3) := by decide +kernel
theorem dX7_fault_37 : decode cX7_fault 37 = .ok (.bipush 26, 2) := by decide +kernel
theorem dX7_fault_39 : decode cX7_fault 39 = .ok (.iaload, 1) := by decide +kernel
theorem dX7_fault_40 : decode cX7_fault 40 = .ok (.putfield 129, 3) := by decide +kernel
theorem dX7_fault_43 : decode cX7_fault 43 = .ok (.iconst 0, 1) := by decide +kernel
theorem dX7_fault_44 : decode cX7_fault 44 = .ok (.istore_n 1, 1) := by decide +kernel
theorem dX7_fault_45 : decode cX7_fault 45 = .ok (.iload_n 1, 1) := by decide +kernel
theorem dX7_fault_46 : decode cX7_fault 46 = .ok (.bipush 10, 2) := by decide +kernel
theorem dX7_fault_48 : decode cX7_fault 48 = .ok (.if_icmp .ge 24, 3) := by decide +kernel
theorem dX7_fault_51 : decode cX7_fault 51 = .ok (.aload_n 0, 1) := by decide +kernel
theorem dX7_fault_52 : decode cX7_fault 52 = .ok (.getfield 39, 3) := by decide +kernel
theorem dX7_fault_55 : decode cX7_fault 55 = .ok (.iload_n 1, 1) := by decide +kernel
theorem dX7_fault_56 : decode cX7_fault 56 = .ok (.aload_n 0, 1) := by decide +kernel
theorem dX7_fault_57 : decode cX7_fault 57 = .ok (.getfield 7, 3) := by decide +kernel
theorem dX7_fault_60 : decode cX7_fault 60 = .ok (.bipush 27, 2) := by decide +kernel
theorem dX7_fault_62 : decode cX7_fault 62 = .ok (.iload_n 1, 1) := by decide +kernel
theorem dX7_fault_63 : decode cX7_fault 63 = .ok (.iadd, 1) := by decide +kernel
theorem dX7_fault_64 : decode cX7_fault 64 = .ok (.iaload, 1) := by decide +kernel
theorem dX7_fault_65 : decode cX7_fault 65 = .ok (.iastore, 1) := by decide +kernel
theorem dX7_fault_66 : decode cX7_fault 66 = .ok (.iinc 1 1, 3) := by decide +kernel
theorem dX7_fault_69 : decode cX7_fault 69 = .ok (.goto (-24), 3) := by decide +kernel
theorem dX7_fault_72 : decode cX7_fault 72 = .ok (.aload_n 0, 1) := by decide +kernel
theorem dX7_fault_73 : decode cX7_fault 73 = .ok (.invokevirtual 116, 3) := by decide +kernel
theorem dX7_fault_76 : decode cX7_fault 76 = .ok (.aload_n 0, 1) := by decide +kernel
theorem dX7_fault_77 : decode cX7_fault 77 = .ok (.invokevirtual 160, 3) := by decide +kernel
theorem dX7_fault_80 : decode cX7_fault 80 = .ok (.ifCond .ne 8, 3) := by decide +kernel
theorem dX7_fault_83 : decode cX7_fault 83 = .ok (.aload_n 0, 1) := by decide +kernel
theorem dX7_fault_84 : decode cX7_fault 84 = .ok (.getfield 81, 3) := by decide +kernel
theorem dX7_fault_87 : decode cX7_fault 87 = .ok (.ireturn, 1) := by decide +kernel
theorem dX7_fault_88 : decode cX7_fault 88 = .ok (.aload_n 0, 1) := by decide +kernel
theorem dX7_fault_89 : decode cX7_fault 89 = .ok (.getfield 81, 3) := by decide +kernel
theorem dX7_fault_92 : decode cX7_fault 92 = .ok (.aload_n 0, 1) := by decide +kernel
theorem dX7_fault_93 : decode cX7_fault 93 = .ok (.getfield 72, 3) := by decide +kernel
theorem dX7_fault_96 : decode cX7_fault 96 = .ok (.if_icmp .ge 70, 3) := by decide +kernel
theorem dX7_fault_99 : decode cX7_fault 99 = .ok (.aload_n 0, 1) := by decide +kernel
theorem dX7_fault_100 : decode cX7_fault 100 = .ok (.getfield 88, 3) := by decide +kernel
theorem dX7_fault_103 : decode cX7_fault 103 = .ok (.aload_n 0, 1) := by decide +kernel
theorem dX7_fault_104 : decode cX7_fault 104 = .ok (.getfield 81, 3) := by decide +kernel
theorem dX7_fault_107 : decode cX7_fault 107 = .ok (.isub, 1) := by decide +kernel
theorem dX7_fault_108 : decode cX7_fault 108 = .ok (.iconst 1, 1) := by decide +kernel
theorem dX7_fault_109 : decode cX7_fault 109 = .ok (.if_icmp .ne 30, 3) := by decide +kernel
theorem dX7_fault_112 : decode cX7_fault 112 = .ok (.aload_n 0, 1) := by decide +kernel
theorem dX7_fault_113 : decode cX7_fault 113 = .ok (.getfield 21, 3) := by decide +kernel
theorem dX7_fault_116 : decode cX7_fault 116 = .ok (.aload_n 0, 1) := by decide +kernel
theorem dX7_fault_117 : decode cX7_fault 117 = .ok (.getfield 81, 3) := by decide +kernel
theorem dX7_fault_120 : decode cX7_fault 120 = .ok (.iaload, 1) := by decide +kernel
theorem dX7_fault_121 : decode cX7_fault 121 = .ok (.bipush 59, 2) := by decide +kernel
theorem dX7_fault_123 : decode cX7_fault 123 = .ok (.if_icmp .ne 16, 3) := by decide +kernel
theorem dX7_fault_126 : decode cX7_fault 126 = .ok (.aload_n 0, 1) := by decide +kernel
theorem dX7_fault_127 : decode cX7_fault 127 = .ok (.getfield 113, 3) := by decide +kernel
theorem dX7_fault_130 : decode cX7_fault 130 = .ok (.bipush 8, 2) := by decide +kernel
theorem dX7_fault_132 : decode cX7_fault 132 = .ok (.if_icmp .ge 7, 3) := by decide +kernel
theorem dX7_fault_135 : decode cX7_fault 135 = .ok (.iconst 1, 1) := by decide +kernel
theorem dX7_fault_136 : decode cX7_fault 136 = .ok (.goto 4, 3) := by decide +kernel
theorem dX7_fault_139 : decode cX7_fault 139 = .ok (.iconst 0, 1) := by decide +kernel
theorem dX7_fault_140 : decode cX7_fault 140 = .ok (.istore_n 1, 1) := by decide +kernel
theorem dX7_fault_141 : decode cX7_fault 141 = .ok (.iload_n 1, 1) := by decide +kernel
theorem dX7_fault_142 : decode cX7_fault 142 = .ok (.ifCond .eq 12, 3) := by decide +kernel
theorem dX7_fault_145 : decode cX7_fault 145 = .ok (.aload_n 0, 1) := by decide +kernel
theorem dX7_fault_146 : decode cX7_fault 146 = .ok (.invokevirtual 116, 3) := by decide +kernel
theorem dX7_fault_149 : decode cX7_fault 149 = .ok (.aload_n 0, 1) := by decide +kernel
theorem dX7_fault_150 : decode cX7_fault 150 = .ok (.invokevirtual 160, 3) := by decide +kernel
theorem dX7_fault_153 : decode cX7_fault 153 = .ok (.istore_n 1, 1) := by decide +kernel
theorem dX7_fault_154 : decode cX7_fault 154 = .ok (.iload_n 1, 1) := by decide +kernel
theorem dX7_fault_155 : decode cX7_fault 155 = .ok (.ifCond .ne 8, 3) := by decide +kernel
theorem dX7_fault_158 : decode cX7_fault 158 = .ok (.aload_n 0, 1) := by decide +kernel
theorem dX7_fault_159 : decode cX7_fault 159 = .ok (.getfield 81, 3) := by decide +kernel
theorem dX7_fault_162 : decode cX7_fault 162 = .ok (.ireturn, 1) := by decide +kernel
theorem dX7_fault_163 : decode cX7_fault 163 = .ok (.goto (-75), 3) := by decide +kernel
theorem dX7_fault_166 : decode cX7_fault 166 = .ok (.iconst (-1), 1) := by decide +kernel
theorem dX7_fault_167 : decode cX7_fault 167 = .ok (.ireturn, 1) := by decide +kernel
theorem dX7_bear_0 : decode cX7_bear 0 = .ok (.aload_n 0, 1) := by decide +kernel
theorem dX7_bear_1 : decode cX7_bear 1 = .ok (.getfield 7, 3) := by decide +kernel
theorem dX7_bear_4 : decode cX7_bear 4 = .ok (.bipush 38, 2) := by decide +kernel
theorem dX7_bear_6 : decode cX7_bear 6 = .ok (.iaload, 1) := by decide +kernel
theorem dX7_bear_7 : decode cX7_bear 7 = .ok (.istore 6, 2) := by decide +kernel
theorem dX7_bear_9 : decode cX7_bear 9 = .ok (.aload_n 0, 1) := by decide +kernel
theorem dX7_bear_10 : decode cX7_bear 10 = .ok (.getfield 7, 3) := by decide +kernel
theorem dX7_bear_13 : decode cX7_bear 13 = .ok (.bipush 39, 2) := by decide +kernel
theorem dX7_bear_15 : decode cX7_bear 15 = .ok (.iload 6, 2) := by decide +kernel
theorem dX7_bear_17 : decode cX7_bear 17 = .ok (.iadd, 1) := by decide +kernel
theorem dX7_bear_18 : decode cX7_bear 18 = .ok (.iload_n 3, 1) := by decide +kernel
theorem dX7_bear_19 : decode cX7_bear 19 = .ok (.iastore, 1) := by decide +kernel
theorem dX7_bear_20 : decode cX7_bear 20 = .ok (.aload_n 0, 1) := by decide +kernel
theorem dX7_bear_21 : decode cX7_bear 21 = .ok (.getfield 7, 3) := by decide +kernel
theorem dX7_bear_24 : decode cX7_bear 24 = .ok (.bipush 55, 2) := by decide +kernel
theorem dX7_bear_26 : decode cX7_bear 26 = .ok (.iload 6, 2) := by decide +kernel
theorem dX7_bear_28 : decode cX7_bear 28 = .ok (.iadd, 1) := by decide +kernel
theorem dX7_bear_29 : decode cX7_bear 29 = .ok (.iload_n 1, 1) := by decide +kernel
theorem dX7_bear_30 : decode cX7_bear 30 = .ok (.iastore, 1) := by decide +kernel
theorem dX7_bear_31 : decode cX7_bear 31 = .ok (.aload_n 0, 1) := by decide +kernel
theorem dX7_bear_32 : decode cX7_bear 32 = .ok (.getfield 7, 3) := by decide +kernel
theorem dX7_bear_35 : decode cX7_bear 35 = .ok (.bipush 71, 2) := by decide +kernel
theorem dX7_bear_37 : decode cX7_bear 37 = .ok (.iload 6, 2) := by decide +kernel
theorem dX7_bear_39 : decode cX7_bear 39 = .ok (.iadd, 1) := by decide +kernel
theorem dX7_bear_40 : decode cX7_bear 40 = .ok (.iload_n 2, 1) := by decide +kernel
theorem dX7_bear_41 : decode cX7_bear 41 = .ok (.iastore, 1) := by decide +kernel
theorem dX7_bear_42 : decode cX7_bear 42 = .ok (.aload_n 0, 1) := by decide +kernel
theorem dX7_bear_43 : decode cX7_bear 43 = .ok (.getfield 13, 3) := by decide +kernel
theorem dX7_bear_46 : decode cX7_bear 46 = .ok (.iload 6, 2) := by decide +kernel
theorem dX7_bear_48 : decode cX7_bear 48 = .ok (.lload 4, 2) := by decide +kernel
theorem dX7_bear_50 : decode cX7_bear 50 = .ok (.lastore, 1) := by decide +kernel
theorem dX7_bear_51 : decode cX7_bear 51 = .ok (.aload_n 0, 1) := by decide +kernel
theorem dX7_bear_52 : decode cX7_bear 52 = .ok (.getfield 7, 3) := by decide +kernel
theorem dX7_bear_55 : decode cX7_bear 55 = .ok (.bipush 38, 2) := by decide +kernel
theorem dX7_bear_57 : decode cX7_bear 57 = .ok (.dup2, 1) := by decide +kernel
theorem dX7_bear_58 : decode cX7_bear 58 = .ok (.iaload, 1) := by decide +kernel
theorem dX7_bear_59 : decode cX7_bear 59 = .ok (.iconst 1, 1) := by decide +kernel
theorem dX7_bear_60 : decode cX7_bear 60 = .ok (.iadd, 1) := by decide +kernel
theorem dX7_bear_61 : decode cX7_bear 61 = .ok (.iastore, 1) := by decide +kernel
theorem dX7_bear_62 : decode cX7_bear 62 = .ok (.return_, 1) := by decide +kernel
theorem dX7_hopeFor_0 : decode cX7_hopeFor 0 = .ok (.aload_n 0, 1) := by decide +kernel
theorem dX7_hopeFor_1 : decode cX7_hopeFor 1 = .ok (.getfield 7, 3) := by decide +kernel
theorem dX7_hopeFor_4 : decode cX7_hopeFor 4 = .ok (.bipush 88, 2) := by decide +kernel
theorem dX7_hopeFor_6 : decode cX7_hopeFor 6 = .ok (.aload_n 0, 1) := by decide +kernel
theorem dX7_hopeFor_7 : decode cX7_hopeFor 7 = .ok (.getfield 7, 3) := by decide +kernel
theorem dX7_hopeFor_10 : decode cX7_hopeFor 10 = .ok (.bipush 87, 2) := by decide +kernel
theorem dX7_hopeFor_12 : decode cX7_hopeFor 12 = .ok (.iaload, 1) := by decide +kernel
theorem dX7_hopeFor_13 : decode cX7_hopeFor 13 = .ok (.iadd, 1) := by decide +kernel
theorem dX7_hopeFor_14 : decode cX7_hopeFor 14 = .ok (.iload_n 1, 1) := by decide +kernel
theorem dX7_hopeFor_15 : decode cX7_hopeFor 15 = .ok (.iastore, 1) := by decide +kernel
theorem dX7_hopeFor_16 : decode cX7_hopeFor 16 = .ok (.aload_n 0, 1) := by decide +kernel
theorem dX7_hopeFor_17 : decode cX7_hopeFor 17 = .ok (.getfield 7, 3) := by decide +kernel
theorem dX7_hopeFor_20 : decode cX7_hopeFor 20 = .ok (.bipush 94, 2) := by decide +kernel
theorem dX7_hopeFor_22 : decode cX7_hopeFor 22 = .ok (.aload_n 0, 1) := by decide +kernel
theorem dX7_hopeFor_23 : decode cX7_hopeFor 23 = .ok (.getfield 7, 3) := by decide +kernel
theorem dX7_hopeFor_26 : decode cX7_hopeFor 26 = .ok (.bipush 87, 2) := by decide +kernel
theorem dX7_hopeFor_28 : decode cX7_hopeFor 28 = .ok (.iaload, 1) := by decide +kernel
theorem dX7_hopeFor_29 : decode cX7_hopeFor 29 = .ok (.iadd, 1) := by decide +kernel
theorem dX7_hopeFor_30 : decode cX7_hopeFor 30 = .ok (.iload_n 2, 1) := by decide +kernel
theorem dX7_hopeFor_31 : decode cX7_hopeFor 31 = .ok (.iastore, 1) := by decide +kernel
theorem dX7_hopeFor_32 : decode cX7_hopeFor 32 = .ok (.aload_n 0, 1) := by decide +kernel
theorem dX7_hopeFor_33 : decode cX7_hopeFor 33 = .ok (.getfield 7, 3) := by decide +kernel
theorem dX7_hopeFor_36 : decode cX7_hopeFor 36 = .ok (.bipush 87, 2) := by decide +kernel
theorem dX7_hopeFor_38 : decode cX7_hopeFor 38 = .ok (.dup2, 1) := by decide +kernel
theorem dX7_hopeFor_39 : decode cX7_hopeFor 39 = .ok (.iaload, 1) := by decide +kernel
theorem dX7_hopeFor_40 : decode cX7_hopeFor 40 = .ok (.iconst 1, 1) := by decide +kernel
theorem dX7_hopeFor_41 : decode cX7_hopeFor 41 = .ok (.iadd, 1) := by decide +kernel
theorem dX7_hopeFor_42 : decode cX7_hopeFor 42 = .ok (.iastore, 1) := by decide +kernel
theorem dX7_hopeFor_43 : decode cX7_hopeFor 43 = .ok (.return_, 1) := by decide +kernel
theorem dX7_tell_0 : decode cX7_tell 0 = .ok (.aload_n 0, 1) := by decide +kernel
theorem dX7_tell_1 : decode cX7_tell 1 = .ok (.getfield 24, 3) := by decide +kernel
theorem dX7_tell_4 : decode cX7_tell 4 = .ok (.iconst 5, 1) := by decide +kernel
theorem dX7_tell_5 : decode cX7_tell 5 = .ok (.iload_n 1, 1) := by decide +kernel
theorem dX7_tell_6 : decode cX7_tell 6 = .ok (.imul, 1) := by decide +kernel
theorem dX7_tell_7 : decode cX7_tell 7 = .ok (.iconst 1, 1) := by decide +kernel
theorem dX7_tell_8 : decode cX7_tell 8 = .ok (.iadd, 1) := by decide +kernel
theorem dX7_tell_9 : decode cX7_tell 9 = .ok (.iaload, 1) := by decide +kernel
theorem dX7_tell_10 : decode cX7_tell 10 = .ok (.istore_n 2, 1) := by decide +kernel
theorem dX7_tell_11 : decode cX7_tell 11 = .ok (.aload_n 0, 1) := by decide +kernel
theorem dX7_tell_12 : decode cX7_tell 12 = .ok (.getfield 24, 3) := by decide +kernel
theorem dX7_tell_15 : decode cX7_tell 15 = .ok (.iconst 5, 1) := by decide +kernel
theorem dX7_tell_16 : decode cX7_tell 16 = .ok (.iload_n 1, 1) := by decide +kernel
theorem dX7_tell_17 : decode cX7_tell 17 = .ok (.imul, 1) := by decide +kernel
theorem dX7_tell_18 : decode cX7_tell 18 = .ok (.iconst 2, 1) := by decide +kernel
theorem dX7_tell_19 : decode cX7_tell 19 = .ok (.iadd, 1) := by decide +kernel
theorem dX7_tell_20 : decode cX7_tell 20 = .ok (.iaload, 1) := by decide +kernel
theorem dX7_tell_21 : decode cX7_tell 21 = .ok (.istore_n 3, 1) := by decide +kernel
theorem dX7_tell_22 : decode cX7_tell 22 = .ok (.aload_n 0, 1) := by decide +kernel
theorem dX7_tell_23 : decode cX7_tell 23 = .ok (.getfield 24, 3) := by decide +kernel
theorem dX7_tell_26 : decode cX7_tell 26 = .ok (.iconst 5, 1) := by decide +kernel
theorem dX7_tell_27 : decode cX7_tell 27 = .ok (.iload_n 1, 1) := by decide +kernel
theorem dX7_tell_28 : decode cX7_tell 28 = .ok (.imul, 1) := by decide +kernel
theorem dX7_tell_29 : decode cX7_tell 29 = .ok (.iaload, 1) := by decide +kernel
theorem dX7_tell_30 : decode cX7_tell 30 = .ok (.tableswitch 144 0 6 #[42, 50, 78, 92, 115, 128, 135], 42) := by decide +kernel
theorem dX7_tell_72 : decode cX7_tell 72 = .ok (.aload_n 0, 1) := by decide +kernel
theorem dX7_tell_73 : decode cX7_tell 73 = .ok (.getfield 7, 3) := by decide +kernel
theorem dX7_tell_76 : decode cX7_tell 76 = .ok (.iload_n 2, 1) := by decide +kernel
theorem dX7_tell_77 : decode cX7_tell 77 = .ok (.iload_n 3, 1) := by decide +kernel
theorem dX7_tell_78 : decode cX7_tell 78 = .ok (.iastore, 1) := by decide +kernel
theorem dX7_tell_79 : decode cX7_tell 79 = .ok (.return_, 1) := by decide +kernel
theorem dX7_tell_80 : decode cX7_tell 80 = .ok (.aload_n 0, 1) := by decide +kernel
theorem dX7_tell_81 : decode cX7_tell 81 = .ok (.getfield 7, 3) := by decide +kernel
theorem dX7_tell_84 : decode cX7_tell 84 = .ok (.bipush 27, 2) := by decide +kernel
theorem dX7_tell_86 : decode cX7_tell 86 = .ok (.aload_n 0, 1) := by decide +kernel
theorem dX7_tell_87 : decode cX7_tell 87 = .ok (.getfield 7, 3) := by decide +kernel
theorem dX7_tell_90 : decode cX7_tell 90 = .ok (.bipush 26, 2) := by decide +kernel
theorem dX7_tell_92 : decode cX7_tell 92 = .ok (.iaload, 1) := by decide +kernel
theorem dX7_tell_93 : decode cX7_tell 93 = .ok (.iadd, 1) := by decide +kernel
theorem dX7_tell_94 : decode cX7_tell 94 = .ok (.iload_n 2, 1) := by decide +kernel
theorem dX7_tell_95 : decode cX7_tell 95 = .ok (.iastore, 1) := by decide +kernel
theorem dX7_tell_96 : decode cX7_tell 96 = .ok (.aload_n 0, 1) := by decide +kernel
theorem dX7_tell_97 : decode cX7_tell 97 = .ok (.getfield 7, 3) := by decide +kernel
theorem dX7_tell_100 : decode cX7_tell 100 = .ok (.bipush 26, 2) := by decide +kernel
theorem dX7_tell_102 : decode cX7_tell 102 = .ok (.dup2, 1) := by decide +kernel
theorem dX7_tell_103 : decode cX7_tell 103 = .ok (.iaload, 1) := by decide +kernel
theorem dX7_tell_104 : decode cX7_tell 104 = .ok (.iconst 1, 1) := by decide +kernel
theorem dX7_tell_105 : decode cX7_tell 105 = .ok (.iadd, 1) := by decide +kernel
theorem dX7_tell_106 : decode cX7_tell 106 = .ok (.iastore, 1) := by decide +kernel
theorem dX7_tell_107 : decode cX7_tell 107 = .ok (.return_, 1) := by decide +kernel
theorem dX7_tell_108 : decode cX7_tell 108 = .ok (.aload_n 0, 1) := by decide +kernel
theorem dX7_tell_109 : decode cX7_tell 109 = .ok (.iconst (-1), 1) := by decide +kernel
theorem dX7_tell_110 : decode cX7_tell 110 = .ok (.iconst (-1), 1) := by decide +kernel
theorem dX7_tell_111 : decode cX7_tell 111 = .ok (.iload_n 2, 1) := by decide +kernel
theorem dX7_tell_112 : decode cX7_tell 112 = .ok (.aload_n 0, 1) := by decide +kernel
theorem dX7_tell_113 : decode cX7_tell 113 = .ok (.getfield 27, 3) := by decide +kernel
theorem dX7_tell_116 : decode cX7_tell 116 = .ok (.iload_n 1, 1) := by decide +kernel
theorem dX7_tell_117 : decode cX7_tell 117 = .ok (.laload, 1) := by decide +kernel
theorem dX7_tell_118 : decode cX7_tell 118 = .ok (.invokevirtual 163, 3) := by decide +kernel
theorem dX7_tell_121 : decode cX7_tell 121 = .ok (.return_, 1) := by decide +kernel
theorem dX7_tell_122 : decode cX7_tell 122 = .ok (.aload_n 0, 1) := by decide +kernel
theorem dX7_tell_123 : decode cX7_tell 123 = .ok (.iload_n 2, 1) := by decide +kernel
theorem dX7_tell_124 : decode cX7_tell 124 = .ok (.iload_n 3, 1) := by decide +kernel
theorem dX7_tell_125 : decode cX7_tell 125 = .ok (.aload_n 0, 1) := by decide +kernel
theorem dX7_tell_126 : decode cX7_tell 126 = .ok (.getfield 24, 3) := by decide +kernel
theorem dX7_tell_129 : decode cX7_tell 129 = .ok (.iconst 5, 1) := by decide +kernel
theorem dX7_tell_130 : decode cX7_tell 130 = .ok (.iload_n 1, 1) := by decide +kernel
theorem dX7_tell_131 : decode cX7_tell 131 = .ok (.imul, 1) := by decide +kernel
theorem dX7_tell_132 : decode cX7_tell 132 = .ok (.iconst 3, 1) := by decide +kernel
theorem dX7_tell_133 : decode cX7_tell 133 = .ok (.iadd, 1) := by decide +kernel
theorem dX7_tell_134 : decode cX7_tell 134 = .ok (.iaload, 1) := by decide +kernel
theorem dX7_tell_135 : decode cX7_tell 135 = .ok (.aload_n 0, 1) := by decide +kernel
theorem dX7_tell_136 : decode cX7_tell 136 = .ok (.getfield 27, 3) := by decide +kernel
theorem dX7_tell_139 : decode cX7_tell 139 = .ok (.iload_n 1, 1) := by decide +kernel
theorem dX7_tell_140 : decode cX7_tell 140 = .ok (.laload, 1) := by decide +kernel
theorem dX7_tell_141 : decode cX7_tell 141 = .ok (.invokevirtual 163, 3) := by decide +kernel
theorem dX7_tell_144 : decode cX7_tell 144 = .ok (.return_, 1) := by decide +kernel
theorem dX7_tell_145 : decode cX7_tell 145 = .ok (.aload_n 0, 1) := by decide +kernel
theorem dX7_tell_146 : decode cX7_tell 146 = .ok (.getfield 13, 3) := by decide +kernel
theorem dX7_tell_149 : decode cX7_tell 149 = .ok (.iload_n 2, 1) := by decide +kernel
theorem dX7_tell_150 : decode cX7_tell 150 = .ok (.aload_n 0, 1) := by decide +kernel
theorem dX7_tell_151 : decode cX7_tell 151 = .ok (.getfield 27, 3) := by decide +kernel
theorem dX7_tell_154 : decode cX7_tell 154 = .ok (.iload_n 1, 1) := by decide +kernel
theorem dX7_tell_155 : decode cX7_tell 155 = .ok (.laload, 1) := by decide +kernel
theorem dX7_tell_156 : decode cX7_tell 156 = .ok (.lastore, 1) := by decide +kernel
theorem dX7_tell_157 : decode cX7_tell 157 = .ok (.return_, 1) := by decide +kernel
theorem dX7_tell_158 : decode cX7_tell 158 = .ok (.aload_n 0, 1) := by decide +kernel
theorem dX7_tell_159 : decode cX7_tell 159 = .ok (.iload_n 2, 1) := by decide +kernel
theorem dX7_tell_160 : decode cX7_tell 160 = .ok (.iload_n 3, 1) := by decide +kernel
theorem dX7_tell_161 : decode cX7_tell 161 = .ok (.invokevirtual 167, 3) := by decide +kernel
theorem dX7_tell_164 : decode cX7_tell 164 = .ok (.return_, 1) := by decide +kernel
theorem dX7_tell_165 : decode cX7_tell 165 = .ok (.aload_n 0, 1) := by decide +kernel
theorem dX7_tell_166 : decode cX7_tell 166 = .ok (.getfield 7, 3) := by decide +kernel
theorem dX7_tell_169 : decode cX7_tell 169 = .ok (.bipush 37, 2) := by decide +kernel
theorem dX7_tell_171 : decode cX7_tell 171 = .ok (.iload_n 2, 1) := by decide +kernel
theorem dX7_tell_172 : decode cX7_tell 172 = .ok (.iastore, 1) := by decide +kernel
theorem dX7_tell_173 : decode cX7_tell 173 = .ok (.return_, 1) := by decide +kernel
theorem dX7_tell_174 : decode cX7_tell 174 = .ok (.aload_n 0, 1) := by decide +kernel
theorem dX7_tell_175 : decode cX7_tell 175 = .ok (.getfield 7, 3) := by decide +kernel
theorem dX7_tell_178 : decode cX7_tell 178 = .ok (.bipush 26, 2) := by decide +kernel
theorem dX7_tell_180 : decode cX7_tell 180 = .ok (.iconst 0, 1) := by decide +kernel
theorem dX7_tell_181 : decode cX7_tell 181 = .ok (.iastore, 1) := by decide +kernel
theorem dX7_tell_182 : decode cX7_tell 182 = .ok (.aload_n 0, 1) := by decide +kernel
theorem dX7_tell_183 : decode cX7_tell 183 = .ok (.getfield 7, 3) := by decide +kernel
theorem dX7_tell_186 : decode cX7_tell 186 = .ok (.bipush 38, 2) := by decide +kernel
theorem dX7_tell_188 : decode cX7_tell 188 = .ok (.iconst 0, 1) := by decide +kernel
theorem dX7_tell_189 : decode cX7_tell 189 = .ok (.iastore, 1) := by decide +kernel
theorem dX7_tell_190 : decode cX7_tell 190 = .ok (.aload_n 0, 1) := by decide +kernel
theorem dX7_tell_191 : decode cX7_tell 191 = .ok (.getfield 7, 3) := by decide +kernel
theorem dX7_tell_194 : decode cX7_tell 194 = .ok (.bipush 87, 2) := by decide +kernel
theorem dX7_tell_196 : decode cX7_tell 196 = .ok (.iconst 0, 1) := by decide +kernel
theorem dX7_tell_197 : decode cX7_tell 197 = .ok (.iastore, 1) := by decide +kernel
theorem dX7_tell_198 : decode cX7_tell 198 = .ok (.return_, 1) := by decide +kernel
theorem dX7_told_0 : decode cX7_told 0 = .ok (.aload_n 0, 1) := by decide +kernel
theorem dX7_told_1 : decode cX7_told 1 = .ok (.invokevirtual 171, 3) := by decide +kernel
theorem dX7_told_4 : decode cX7_told 4 = .ok (.iconst (-1), 1) := by decide +kernel
theorem dX7_told_5 : decode cX7_told 5 = .ok (.if_icmp .eq 6, 3) := by decide +kernel
theorem dX7_told_8 : decode cX7_told 8 = .ok (.bipush (-4), 2) := by decide +kernel
theorem dX7_told_10 : decode cX7_told 10 = .ok (.ireturn, 1) := by decide +kernel
theorem dX7_told_11 : decode cX7_told 11 = .ok (.iconst 0, 1) := by decide +kernel
theorem dX7_told_12 : decode cX7_told 12 = .ok (.istore_n 1, 1) := by decide +kernel
theorem dX7_told_13 : decode cX7_told 13 = .ok (.iload_n 1, 1) := by decide +kernel
theorem dX7_told_14 : decode cX7_told 14 = .ok (.aload_n 0, 1) := by decide +kernel
theorem dX7_told_15 : decode cX7_told 15 = .ok (.getfield 113, 3) := by decide +kernel
theorem dX7_told_18 : decode cX7_told 18 = .ok (.if_icmp .ge 14, 3) := by decide +kernel
theorem dX7_told_21 : decode cX7_told 21 = .ok (.aload_n 0, 1) := by decide +kernel
theorem dX7_told_22 : decode cX7_told 22 = .ok (.iload_n 1, 1) := by decide +kernel
theorem dX7_told_23 : decode cX7_told 23 = .ok (.invokevirtual 174, 3) := by decide +kernel
theorem dX7_told_26 : decode cX7_told 26 = .ok (.iinc 1 1, 3) := by decide +kernel
theorem dX7_told_29 : decode cX7_told 29 = .ok (.goto (-16), 3) := by decide +kernel
theorem dX7_told_32 : decode cX7_told 32 = .ok (.aload_n 0, 1) := by decide +kernel
theorem dX7_told_33 : decode cX7_told 33 = .ok (.iconst 0, 1) := by decide +kernel
theorem dX7_told_34 : decode cX7_told 34 = .ok (.putfield 72, 3) := by decide +kernel
theorem dX7_told_37 : decode cX7_told 37 = .ok (.aload_n 0, 1) := by decide +kernel
theorem dX7_told_38 : decode cX7_told 38 = .ok (.getfield 113, 3) := by decide +kernel
theorem dX7_told_41 : decode cX7_told 41 = .ok (.ireturn, 1) := by decide +kernel
theorem dX7_letter_0 : decode cX7_letter 0 = .ok (.iload_n 1, 1) := by decide +kernel
theorem dX7_letter_1 : decode cX7_letter 1 = .ok (.i2l, 1) := by decide +kernel
theorem dX7_letter_2 : decode cX7_letter 2 = .ok (.lconst 0, 1) := by decide +kernel
theorem dX7_letter_3 : decode cX7_letter 3 = .ok (.ldc2_w 178, 3) := by decide +kernel
theorem dX7_letter_6 : decode cX7_letter 6 = .ok (.invokestatic 68, 3) := by decide +kernel
theorem dX7_letter_9 : decode cX7_letter 9 = .ok (.ifCond .eq 12, 3) := by decide +kernel
theorem dX7_letter_12 : decode cX7_letter 12 = .ok (.aload_n 0, 1) := by decide +kernel
theorem dX7_letter_13 : decode cX7_letter 13 = .ok (.getfield 7, 3) := by decide +kernel
theorem dX7_letter_16 : decode cX7_letter 16 = .ok (.iload_n 1, 1) := by decide +kernel
theorem dX7_letter_17 : decode cX7_letter 17 = .ok (.iaload, 1) := by decide +kernel
theorem dX7_letter_18 : decode cX7_letter 18 = .ok (.goto 5, 3) := by decide +kernel
theorem dX7_letter_21 : decode cX7_letter 21 = .ok (.bipush (-2), 2) := by decide +kernel
theorem dX7_letter_23 : decode cX7_letter 23 = .ok (.ireturn, 1) := by decide +kernel
theorem dX7_isPerson_0 : decode cX7_isPerson 0 = .ok (.iload_n 1, 1) := by decide +kernel
theorem dX7_isPerson_1 : decode cX7_isPerson 1 = .ok (.i2l, 1) := by decide +kernel
theorem dX7_isPerson_2 : decode cX7_isPerson 2 = .ok (.lconst 0, 1) := by decide +kernel
theorem dX7_isPerson_3 : decode cX7_isPerson 3 = .ok (.aload_n 0, 1) := by decide +kernel
theorem dX7_isPerson_4 : decode cX7_isPerson 4 = .ok (.getfield 7, 3) := by decide +kernel
theorem dX7_isPerson_7 : decode cX7_isPerson 7 = .ok (.bipush 38, 2) := by decide +kernel
theorem dX7_isPerson_9 : decode cX7_isPerson 9 = .ok (.iaload, 1) := by decide +kernel
theorem dX7_isPerson_10 : decode cX7_isPerson 10 = .ok (.iconst 1, 1) := by decide +kernel
theorem dX7_isPerson_11 : decode cX7_isPerson 11 = .ok (.isub, 1) := by decide +kernel
theorem dX7_isPerson_12 : decode cX7_isPerson 12 = .ok (.i2l, 1) := by decide +kernel
theorem dX7_isPerson_13 : decode cX7_isPerson 13 = .ok (.invokestatic 68, 3) := by decide +kernel
theorem dX7_isPerson_16 : decode cX7_isPerson 16 = .ok (.ireturn, 1) := by decide +kernel
theorem dX7_kindOf_0 : decode cX7_kindOf 0 = .ok (.aload_n 0, 1) := by decide +kernel
theorem dX7_kindOf_1 : decode cX7_kindOf 1 = .ok (.getfield 7, 3) := by decide +kernel
theorem dX7_kindOf_4 : decode cX7_kindOf 4 = .ok (.bipush 55, 2) := by decide +kernel
theorem dX7_kindOf_6 : decode cX7_kindOf 6 = .ok (.iload_n 1, 1) := by decide +kernel
theorem dX7_kindOf_7 : decode cX7_kindOf 7 = .ok (.iadd, 1) := by decide +kernel
theorem dX7_kindOf_8 : decode cX7_kindOf 8 = .ok (.iaload, 1) := by decide +kernel
theorem dX7_kindOf_9 : decode cX7_kindOf 9 = .ok (.iconst (-1), 1) := by decide +kernel
theorem dX7_kindOf_10 : decode cX7_kindOf 10 = .ok (.if_icmp .ne 5, 3) := by decide +kernel
theorem dX7_kindOf_13 : decode cX7_kindOf 13 = .ok (.iconst 0, 1) := by decide +kernel
theorem dX7_kindOf_14 : decode cX7_kindOf 14 = .ok (.ireturn, 1) := by decide +kernel
theorem dX7_kindOf_15 : decode cX7_kindOf 15 = .ok (.iconst 1, 1) := by decide +kernel
theorem dX7_kindOf_16 : decode cX7_kindOf 16 = .ok (.istore_n 2, 1) := by decide +kernel
theorem dX7_kindOf_17 : decode cX7_kindOf 17 = .ok (.iconst 0, 1) := by decide +kernel
theorem dX7_kindOf_18 : decode cX7_kindOf 18 = .ok (.istore_n 3, 1) := by decide +kernel
theorem dX7_kindOf_19 : decode cX7_kindOf 19 = .ok (.iload_n 3, 1) := by decide +kernel
theorem dX7_kindOf_20 : decode cX7_kindOf 20 = .ok (.iload_n 1, 1) := by decide +kernel
theorem dX7_kindOf_21 : decode cX7_kindOf 21 = .ok (.if_icmp .ge 144, 3) := by decide +kernel
theorem dX7_kindOf_24 : decode cX7_kindOf 24 = .ok (.aload_n 0, 1) := by decide +kernel
theorem dX7_kindOf_25 : decode cX7_kindOf 25 = .ok (.getfield 7, 3) := by decide +kernel
theorem dX7_kindOf_28 : decode cX7_kindOf 28 = .ok (.bipush 55, 2) := by decide +kernel
theorem dX7_kindOf_30 : decode cX7_kindOf 30 = .ok (.iload_n 3, 1) := by decide +kernel
theorem dX7_kindOf_31 : decode cX7_kindOf 31 = .ok (.iadd, 1) := by decide +kernel
theorem dX7_kindOf_32 : decode cX7_kindOf 32 = .ok (.iaload, 1) := by decide +kernel
theorem dX7_kindOf_33 : decode cX7_kindOf 33 = .ok (.aload_n 0, 1) := by decide +kernel
theorem dX7_kindOf_34 : decode cX7_kindOf 34 = .ok (.getfield 7, 3) := by decide +kernel
theorem dX7_kindOf_37 : decode cX7_kindOf 37 = .ok (.bipush 55, 2) := by decide +kernel
theorem dX7_kindOf_39 : decode cX7_kindOf 39 = .ok (.iload_n 1, 1) := by decide +kernel
theorem dX7_kindOf_40 : decode cX7_kindOf 40 = .ok (.iadd, 1) := by decide +kernel
theorem dX7_kindOf_41 : decode cX7_kindOf 41 = .ok (.iaload, 1) := by decide +kernel
theorem dX7_kindOf_42 : decode cX7_kindOf 42 = .ok (.if_icmp .ne 28, 3) := by decide +kernel
theorem dX7_kindOf_45 : decode cX7_kindOf 45 = .ok (.aload_n 0, 1) := by decide +kernel
theorem dX7_kindOf_46 : decode cX7_kindOf 46 = .ok (.getfield 7, 3) := by decide +kernel
theorem dX7_kindOf_49 : decode cX7_kindOf 49 = .ok (.bipush 71, 2) := by decide +kernel
theorem dX7_kindOf_51 : decode cX7_kindOf 51 = .ok (.iload_n 3, 1) := by decide +kernel
theorem dX7_kindOf_52 : decode cX7_kindOf 52 = .ok (.iadd, 1) := by decide +kernel
theorem dX7_kindOf_53 : decode cX7_kindOf 53 = .ok (.iaload, 1) := by decide +kernel
theorem dX7_kindOf_54 : decode cX7_kindOf 54 = .ok (.aload_n 0, 1) := by decide +kernel
theorem dX7_kindOf_55 : decode cX7_kindOf 55 = .ok (.getfield 7, 3) := by decide +kernel
theorem dX7_kindOf_58 : decode cX7_kindOf 58 = .ok (.bipush 71, 2) := by decide +kernel
theorem dX7_kindOf_60 : decode cX7_kindOf 60 = .ok (.iload_n 1, 1) := by decide +kernel
theorem dX7_kindOf_61 : decode cX7_kindOf 61 = .ok (.iadd, 1) := by decide +kernel
theorem dX7_kindOf_62 : decode cX7_kindOf 62 = .ok (.iaload, 1) := by decide +kernel
theorem dX7_kindOf_63 : decode cX7_kindOf 63 = .ok (.if_icmp .ne 7, 3) := by decide +kernel
theorem dX7_kindOf_66 : decode cX7_kindOf 66 = .ok (.iconst 1, 1) := by decide +kernel
theorem dX7_kindOf_67 : decode cX7_kindOf 67 = .ok (.goto 4, 3) := by decide +kernel
theorem dX7_kindOf_70 : decode cX7_kindOf 70 = .ok (.iconst 0, 1) := by decide +kernel
theorem dX7_kindOf_71 : decode cX7_kindOf 71 = .ok (.istore 4, 2) := by decide +kernel
theorem dX7_kindOf_73 : decode cX7_kindOf 73 = .ok (.aload_n 0, 1) := by decide +kernel
theorem dX7_kindOf_74 : decode cX7_kindOf 74 = .ok (.getfield 7, 3) := by decide +kernel
theorem dX7_kindOf_77 : decode cX7_kindOf 77 = .ok (.bipush 55, 2) := by decide +kernel
theorem dX7_kindOf_79 : decode cX7_kindOf 79 = .ok (.iload_n 3, 1) := by decide +kernel
theorem dX7_kindOf_80 : decode cX7_kindOf 80 = .ok (.iadd, 1) := by decide +kernel
theorem dX7_kindOf_81 : decode cX7_kindOf 81 = .ok (.iaload, 1) := by decide +kernel
theorem dX7_kindOf_82 : decode cX7_kindOf 82 = .ok (.aload_n 0, 1) := by decide +kernel
theorem dX7_kindOf_83 : decode cX7_kindOf 83 = .ok (.getfield 7, 3) := by decide +kernel
theorem dX7_kindOf_86 : decode cX7_kindOf 86 = .ok (.bipush 71, 2) := by decide +kernel
theorem dX7_kindOf_88 : decode cX7_kindOf 88 = .ok (.iload_n 1, 1) := by decide +kernel
theorem dX7_kindOf_89 : decode cX7_kindOf 89 = .ok (.iadd, 1) := by decide +kernel
theorem dX7_kindOf_90 : decode cX7_kindOf 90 = .ok (.iaload, 1) := by decide +kernel
theorem dX7_kindOf_91 : decode cX7_kindOf 91 = .ok (.if_icmp .ne 28, 3) := by decide +kernel
theorem dX7_kindOf_94 : decode cX7_kindOf 94 = .ok (.aload_n 0, 1) := by decide +kernel
theorem dX7_kindOf_95 : decode cX7_kindOf 95 = .ok (.getfield 7, 3) := by decide +kernel
theorem dX7_kindOf_98 : decode cX7_kindOf 98 = .ok (.bipush 71, 2) := by decide +kernel
theorem dX7_kindOf_100 : decode cX7_kindOf 100 = .ok (.iload_n 3, 1) := by decide +kernel
theorem dX7_kindOf_101 : decode cX7_kindOf 101 = .ok (.iadd, 1) := by decide +kernel
theorem dX7_kindOf_102 : decode cX7_kindOf 102 = .ok (.iaload, 1) := by decide +kernel
theorem dX7_kindOf_103 : decode cX7_kindOf 103 = .ok (.aload_n 0, 1) := by decide +kernel
theorem dX7_kindOf_104 : decode cX7_kindOf 104 = .ok (.getfield 7, 3) := by decide +kernel
theorem dX7_kindOf_107 : decode cX7_kindOf 107 = .ok (.bipush 55, 2) := by decide +kernel
theorem dX7_kindOf_109 : decode cX7_kindOf 109 = .ok (.iload_n 1, 1) := by decide +kernel
theorem dX7_kindOf_110 : decode cX7_kindOf 110 = .ok (.iadd, 1) := by decide +kernel
theorem dX7_kindOf_111 : decode cX7_kindOf 111 = .ok (.iaload, 1) := by decide +kernel
theorem dX7_kindOf_112 : decode cX7_kindOf 112 = .ok (.if_icmp .ne 7, 3) := by decide +kernel
theorem dX7_kindOf_115 : decode cX7_kindOf 115 = .ok (.iconst 1, 1) := by decide +kernel
theorem dX7_kindOf_116 : decode cX7_kindOf 116 = .ok (.goto 4, 3) := by decide +kernel
theorem dX7_kindOf_119 : decode cX7_kindOf 119 = .ok (.iconst 0, 1) := by decide +kernel
theorem dX7_kindOf_120 : decode cX7_kindOf 120 = .ok (.istore 5, 2) := by decide +kernel
theorem dX7_kindOf_122 : decode cX7_kindOf 122 = .ok (.iload 4, 2) := by decide +kernel
theorem dX7_kindOf_124 : decode cX7_kindOf 124 = .ok (.ifCond .ne 8, 3) := by decide +kernel
theorem dX7_kindOf_127 : decode cX7_kindOf 127 = .ok (.iload 5, 2) := by decide +kernel
theorem dX7_kindOf_129 : decode cX7_kindOf 129 = .ok (.ifCond .eq 28, 3) := by decide +kernel
theorem dX7_kindOf_132 : decode cX7_kindOf 132 = .ok (.aload_n 0, 1) := by decide +kernel
theorem dX7_kindOf_133 : decode cX7_kindOf 133 = .ok (.getfield 7, 3) := by decide +kernel
theorem dX7_kindOf_136 : decode cX7_kindOf 136 = .ok (.bipush 39, 2) := by decide +kernel
theorem dX7_kindOf_138 : decode cX7_kindOf 138 = .ok (.iload_n 3, 1) := by decide +kernel
theorem dX7_kindOf_139 : decode cX7_kindOf 139 = .ok (.iadd, 1) := by decide +kernel
theorem dX7_kindOf_140 : decode cX7_kindOf 140 = .ok (.iaload, 1) := by decide +kernel
theorem dX7_kindOf_141 : decode cX7_kindOf 141 = .ok (.aload_n 0, 1) := by decide +kernel
theorem dX7_kindOf_142 : decode cX7_kindOf 142 = .ok (.getfield 7, 3) := by decide +kernel
theorem dX7_kindOf_145 : decode cX7_kindOf 145 = .ok (.bipush 39, 2) := by decide +kernel
theorem dX7_kindOf_147 : decode cX7_kindOf 147 = .ok (.iload_n 1, 1) := by decide +kernel
theorem dX7_kindOf_148 : decode cX7_kindOf 148 = .ok (.iadd, 1) := by decide +kernel
theorem dX7_kindOf_149 : decode cX7_kindOf 149 = .ok (.iaload, 1) := by decide +kernel
theorem dX7_kindOf_150 : decode cX7_kindOf 150 = .ok (.if_icmp .ne 7, 3) := by decide +kernel
theorem dX7_kindOf_153 : decode cX7_kindOf 153 = .ok (.iconst 2, 1) := by decide +kernel
theorem dX7_kindOf_154 : decode cX7_kindOf 154 = .ok (.goto 4, 3) := by decide +kernel
theorem dX7_kindOf_157 : decode cX7_kindOf 157 = .ok (.iload_n 2, 1) := by decide +kernel
theorem dX7_kindOf_158 : decode cX7_kindOf 158 = .ok (.istore_n 2, 1) := by decide +kernel
theorem dX7_kindOf_159 : decode cX7_kindOf 159 = .ok (.iinc 3 1, 3) := by decide +kernel
theorem dX7_kindOf_162 : decode cX7_kindOf 162 = .ok (.goto (-143), 3) := by decide +kernel
theorem dX7_kindOf_165 : decode cX7_kindOf 165 = .ok (.iload_n 2, 1) := by decide +kernel
theorem dX7_kindOf_166 : decode cX7_kindOf 166 = .ok (.ireturn, 1) := by decide +kernel
theorem dX7_areNext_0 : decode cX7_areNext 0 = .ok (.aload_n 0, 1) := by decide +kernel
theorem dX7_areNext_1 : decode cX7_areNext 1 = .ok (.getfield 7, 3) := by decide +kernel
theorem dX7_areNext_4 : decode cX7_areNext 4 = .ok (.bipush 55, 2) := by decide +kernel
theorem dX7_areNext_6 : decode cX7_areNext 6 = .ok (.iload_n 1, 1) := by decide +kernel
theorem dX7_areNext_7 : decode cX7_areNext 7 = .ok (.iadd, 1) := by decide +kernel
theorem dX7_areNext_8 : decode cX7_areNext 8 = .ok (.iaload, 1) := by decide +kernel
theorem dX7_areNext_9 : decode cX7_areNext 9 = .ok (.iload_n 2, 1) := by decide +kernel
theorem dX7_areNext_10 : decode cX7_areNext 10 = .ok (.if_icmp .eq 42, 3) := by decide +kernel
theorem dX7_areNext_13 : decode cX7_areNext 13 = .ok (.aload_n 0, 1) := by decide +kernel
theorem dX7_areNext_14 : decode cX7_areNext 14 = .ok (.getfield 7, 3) := by decide +kernel
theorem dX7_areNext_17 : decode cX7_areNext 17 = .ok (.bipush 71, 2) := by decide +kernel
theorem dX7_areNext_19 : decode cX7_areNext 19 = .ok (.iload_n 1, 1) := by decide +kernel
theorem dX7_areNext_20 : decode cX7_areNext 20 = .ok (.iadd, 1) := by decide +kernel
theorem dX7_areNext_21 : decode cX7_areNext 21 = .ok (.iaload, 1) := by decide +kernel
theorem dX7_areNext_22 : decode cX7_areNext 22 = .ok (.iload_n 2, 1) := by decide +kernel
theorem dX7_areNext_23 : decode cX7_areNext 23 = .ok (.if_icmp .eq 29, 3) := by decide +kernel
theorem dX7_areNext_26 : decode cX7_areNext 26 = .ok (.aload_n 0, 1) := by decide +kernel
theorem dX7_areNext_27 : decode cX7_areNext 27 = .ok (.getfield 7, 3) := by decide +kernel
theorem dX7_areNext_30 : decode cX7_areNext 30 = .ok (.bipush 55, 2) := by decide +kernel
theorem dX7_areNext_32 : decode cX7_areNext 32 = .ok (.iload_n 2, 1) := by decide +kernel
theorem dX7_areNext_33 : decode cX7_areNext 33 = .ok (.iadd, 1) := by decide +kernel
theorem dX7_areNext_34 : decode cX7_areNext 34 = .ok (.iaload, 1) := by decide +kernel
theorem dX7_areNext_35 : decode cX7_areNext 35 = .ok (.iload_n 1, 1) := by decide +kernel
theorem dX7_areNext_36 : decode cX7_areNext 36 = .ok (.if_icmp .eq 16, 3) := by decide +kernel
theorem dX7_areNext_39 : decode cX7_areNext 39 = .ok (.aload_n 0, 1) := by decide +kernel
theorem dX7_areNext_40 : decode cX7_areNext 40 = .ok (.getfield 7, 3) := by decide +kernel
theorem dX7_areNext_43 : decode cX7_areNext 43 = .ok (.bipush 71, 2) := by decide +kernel
theorem dX7_areNext_45 : decode cX7_areNext 45 = .ok (.iload_n 2, 1) := by decide +kernel
theorem dX7_areNext_46 : decode cX7_areNext 46 = .ok (.iadd, 1) := by decide +kernel
theorem dX7_areNext_47 : decode cX7_areNext 47 = .ok (.iaload, 1) := by decide +kernel
theorem dX7_areNext_48 : decode cX7_areNext 48 = .ok (.iload_n 1, 1) := by decide +kernel
theorem dX7_areNext_49 : decode cX7_areNext 49 = .ok (.if_icmp .ne 7, 3) := by decide +kernel
theorem dX7_areNext_52 : decode cX7_areNext 52 = .ok (.iconst 1, 1) := by decide +kernel
theorem dX7_areNext_53 : decode cX7_areNext 53 = .ok (.goto 4, 3) := by decide +kernel
theorem dX7_areNext_56 : decode cX7_areNext 56 = .ok (.iconst 0, 1) := by decide +kernel
theorem dX7_areNext_57 : decode cX7_areNext 57 = .ok (.ireturn, 1) := by decide +kernel
theorem dX7_layFar_0 : decode cX7_layFar 0 = .ok (.iconst 0, 1) := by decide +kernel
theorem dX7_layFar_1 : decode cX7_layFar 1 = .ok (.istore_n 2, 1) := by decide +kernel
theorem dX7_layFar_2 : decode cX7_layFar 2 = .ok (.iload_n 2, 1) := by decide +kernel
theorem dX7_layFar_3 : decode cX7_layFar 3 = .ok (.bipush 16, 2) := by decide +kernel
theorem dX7_layFar_5 : decode cX7_layFar 5 = .ok (.if_icmp .ge 25, 3) := by decide +kernel
theorem dX7_layFar_8 : decode cX7_layFar 8 = .ok (.aload_n 0, 1) := by decide +kernel
theorem dX7_layFar_9 : decode cX7_layFar 9 = .ok (.getfield 42, 3) := by decide +kernel
theorem dX7_layFar_12 : decode cX7_layFar 12 = .ok (.iload_n 2, 1) := by decide +kernel
theorem dX7_layFar_13 : decode cX7_layFar 13 = .ok (.iload_n 2, 1) := by decide +kernel
theorem dX7_layFar_14 : decode cX7_layFar 14 = .ok (.iload_n 1, 1) := by decide +kernel
theorem dX7_layFar_15 : decode cX7_layFar 15 = .ok (.if_icmp .ne 7, 3) := by decide +kernel
theorem dX7_layFar_18 : decode cX7_layFar 18 = .ok (.iconst 0, 1) := by decide +kernel
theorem dX7_layFar_19 : decode cX7_layFar 19 = .ok (.goto 4, 3) := by decide +kernel
theorem dX7_layFar_22 : decode cX7_layFar 22 = .ok (.iconst (-1), 1) := by decide +kernel
theorem dX7_layFar_23 : decode cX7_layFar 23 = .ok (.iastore, 1) := by decide +kernel
theorem dX7_layFar_24 : decode cX7_layFar 24 = .ok (.iinc 2 1, 3) := by decide +kernel
theorem dX7_layFar_27 : decode cX7_layFar 27 = .ok (.goto (-25), 3) := by decide +kernel
theorem dX7_layFar_30 : decode cX7_layFar 30 = .ok (.iconst 0, 1) := by decide +kernel
theorem dX7_layFar_31 : decode cX7_layFar 31 = .ok (.istore_n 2, 1) := by decide +kernel
theorem dX7_layFar_32 : decode cX7_layFar 32 = .ok (.iload_n 2, 1) := by decide +kernel
theorem dX7_layFar_33 : decode cX7_layFar 33 = .ok (.bipush 16, 2) := by decide +kernel
theorem dX7_layFar_35 : decode cX7_layFar 35 = .ok (.if_icmp .ge 103, 3) := by decide +kernel
theorem dX7_layFar_38 : decode cX7_layFar 38 = .ok (.iconst 0, 1) := by decide +kernel
theorem dX7_layFar_39 : decode cX7_layFar 39 = .ok (.istore_n 3, 1) := by decide +kernel
theorem dX7_layFar_40 : decode cX7_layFar 40 = .ok (.iload_n 3, 1) := by decide +kernel
theorem dX7_layFar_41 : decode cX7_layFar 41 = .ok (.sipush 256, 3) := by decide +kernel
theorem dX7_layFar_44 : decode cX7_layFar 44 = .ok (.if_icmp .ge 88, 3) := by decide +kernel
theorem dX7_layFar_47 : decode cX7_layFar 47 = .ok (.iload_n 3, 1) := by decide +kernel
theorem dX7_layFar_48 : decode cX7_layFar 48 = .ok (.bipush 16, 2) := by decide +kernel
theorem dX7_layFar_50 : decode cX7_layFar 50 = .ok (.idiv, 1) := by decide +kernel
theorem dX7_layFar_51 : decode cX7_layFar 51 = .ok (.istore 4, 2) := by decide +kernel
theorem dX7_layFar_53 : decode cX7_layFar 53 = .ok (.iload_n 3, 1) := by decide +kernel
theorem dX7_layFar_54 : decode cX7_layFar 54 = .ok (.bipush 16, 2) := by decide +kernel
theorem dX7_layFar_56 : decode cX7_layFar 56 = .ok (.irem, 1) := by decide +kernel
theorem dX7_layFar_57 : decode cX7_layFar 57 = .ok (.istore 5, 2) := by decide +kernel
theorem dX7_layFar_59 : decode cX7_layFar 59 = .ok (.iload 4, 2) := by decide +kernel
theorem dX7_layFar_61 : decode cX7_layFar 61 = .ok (.aload_n 0, 1) := by decide +kernel
theorem dX7_layFar_62 : decode cX7_layFar 62 = .ok (.getfield 7, 3) := by decide +kernel
theorem dX7_layFar_65 : decode cX7_layFar 65 = .ok (.bipush 38, 2) := by decide +kernel
theorem dX7_layFar_67 : decode cX7_layFar 67 = .ok (.iaload, 1) := by decide +kernel
theorem dX7_layFar_68 : decode cX7_layFar 68 = .ok (.if_icmp .ge 58, 3) := by decide +kernel
theorem dX7_layFar_71 : decode cX7_layFar 71 = .ok (.iload 5, 2) := by decide +kernel
theorem dX7_layFar_73 : decode cX7_layFar 73 = .ok (.aload_n 0, 1) := by decide +kernel
theorem dX7_layFar_74 : decode cX7_layFar 74 = .ok (.getfield 7, 3) := by decide +kernel
theorem dX7_layFar_77 : decode cX7_layFar 77 = .ok (.bipush 38, 2) := by decide +kernel
theorem dX7_layFar_79 : decode cX7_layFar 79 = .ok (.iaload, 1) := by decide +kernel
theorem dX7_layFar_80 : decode cX7_layFar 80 = .ok (.if_icmp .ge 46, 3) := by decide +kernel
theorem dX7_layFar_83 : decode cX7_layFar 83 = .ok (.aload_n 0, 1) := by decide +kernel
theorem dX7_layFar_84 : decode cX7_layFar 84 = .ok (.getfield 42, 3) := by decide +kernel
theorem dX7_layFar_87 : decode cX7_layFar 87 = .ok (.iload 4, 2) := by decide +kernel
theorem dX7_layFar_89 : decode cX7_layFar 89 = .ok (.iaload, 1) := by decide +kernel
theorem dX7_layFar_90 : decode cX7_layFar 90 = .ok (.iload_n 2, 1) := by decide +kernel
theorem dX7_layFar_91 : decode cX7_layFar 91 = .ok (.if_icmp .ne 35, 3) := by decide +kernel
theorem dX7_layFar_94 : decode cX7_layFar 94 = .ok (.aload_n 0, 1) := by decide +kernel
theorem dX7_layFar_95 : decode cX7_layFar 95 = .ok (.getfield 42, 3) := by decide +kernel
theorem dX7_layFar_98 : decode cX7_layFar 98 = .ok (.iload 5, 2) := by decide +kernel
theorem dX7_layFar_100 : decode cX7_layFar 100 = .ok (.iaload, 1) := by decide +kernel
theorem dX7_layFar_101 : decode cX7_layFar 101 = .ok (.iconst (-1), 1) := by decide +kernel
theorem dX7_layFar_102 : decode cX7_layFar 102 = .ok (.if_icmp .ne 24, 3) := by decide +kernel
theorem dX7_layFar_105 : decode cX7_layFar 105 = .ok (.aload_n 0, 1) := by decide +kernel
theorem dX7_layFar_106 : decode cX7_layFar 106 = .ok (.iload 4, 2) := by decide +kernel
theorem dX7_layFar_108 : decode cX7_layFar 108 = .ok (.iload 5, 2) := by decide +kernel
theorem dX7_layFar_110 : decode cX7_layFar 110 = .ok (.invokevirtual 180, 3) := by decide +kernel
theorem dX7_layFar_113 : decode cX7_layFar 113 = .ok (.ifCond .eq 13, 3) := by decide +kernel
theorem dX7_layFar_116 : decode cX7_layFar 116 = .ok (.aload_n 0, 1) := by decide +kernel
theorem dX7_layFar_117 : decode cX7_layFar 117 = .ok (.getfield 42, 3) := by decide +kernel
theorem dX7_layFar_120 : decode cX7_layFar 120 = .ok (.iload 5, 2) := by decide +kernel
theorem dX7_layFar_122 : decode cX7_layFar 122 = .ok (.iload_n 2, 1) := by decide +kernel
theorem dX7_layFar_123 : decode cX7_layFar 123 = .ok (.iconst 1, 1) := by decide +kernel
theorem dX7_layFar_124 : decode cX7_layFar 124 = .ok (.iadd, 1) := by decide +kernel
theorem dX7_layFar_125 : decode cX7_layFar 125 = .ok (.iastore, 1) := by decide +kernel
theorem dX7_layFar_126 : decode cX7_layFar 126 = .ok (.iinc 3 1, 3) := by decide +kernel
theorem dX7_layFar_129 : decode cX7_layFar 129 = .ok (.goto (-89), 3) := by decide +kernel
theorem dX7_layFar_132 : decode cX7_layFar 132 = .ok (.iinc 2 1, 3) := by decide +kernel
theorem dX7_layFar_135 : decode cX7_layFar 135 = .ok (.goto (-103), 3) := by decide +kernel
theorem dX7_layFar_138 : decode cX7_layFar 138 = .ok (.return_, 1) := by decide +kernel
theorem dX7_within_0 : decode cX7_within 0 = .ok (.aload_n 0, 1) := by decide +kernel
theorem dX7_within_1 : decode cX7_within 1 = .ok (.iload_n 1, 1) := by decide +kernel
theorem dX7_within_2 : decode cX7_within 2 = .ok (.invokevirtual 184, 3) := by decide +kernel
theorem dX7_within_5 : decode cX7_within 5 = .ok (.iconst 0, 1) := by decide +kernel
theorem dX7_within_6 : decode cX7_within 6 = .ok (.istore_n 3, 1) := by decide +kernel
theorem dX7_within_7 : decode cX7_within 7 = .ok (.iconst 0, 1) := by decide +kernel
theorem dX7_within_8 : decode cX7_within 8 = .ok (.istore 4, 2) := by decide +kernel
theorem dX7_within_10 : decode cX7_within 10 = .ok (.iload 4, 2) := by decide +kernel
theorem dX7_within_12 : decode cX7_within 12 = .ok (.aload_n 0, 1) := by decide +kernel
theorem dX7_within_13 : decode cX7_within 13 = .ok (.getfield 7, 3) := by decide +kernel
theorem dX7_within_16 : decode cX7_within 16 = .ok (.bipush 38, 2) := by decide +kernel
theorem dX7_within_18 : decode cX7_within 18 = .ok (.iaload, 1) := by decide +kernel
theorem dX7_within_19 : decode cX7_within 19 = .ok (.if_icmp .ge 42, 3) := by decide +kernel
theorem dX7_within_22 : decode cX7_within 22 = .ok (.iload_n 3, 1) := by decide +kernel
theorem dX7_within_23 : decode cX7_within 23 = .ok (.aload_n 0, 1) := by decide +kernel
theorem dX7_within_24 : decode cX7_within 24 = .ok (.getfield 42, 3) := by decide +kernel
theorem dX7_within_27 : decode cX7_within 27 = .ok (.iload 4, 2) := by decide +kernel
theorem dX7_within_29 : decode cX7_within 29 = .ok (.iaload, 1) := by decide +kernel
theorem dX7_within_30 : decode cX7_within 30 = .ok (.iconst (-1), 1) := by decide +kernel
theorem dX7_within_31 : decode cX7_within 31 = .ok (.if_icmp .eq 21, 3) := by decide +kernel
theorem dX7_within_34 : decode cX7_within 34 = .ok (.aload_n 0, 1) := by decide +kernel
theorem dX7_within_35 : decode cX7_within 35 = .ok (.getfield 42, 3) := by decide +kernel
theorem dX7_within_38 : decode cX7_within 38 = .ok (.iload 4, 2) := by decide +kernel
theorem dX7_within_40 : decode cX7_within 40 = .ok (.iaload, 1) := by decide +kernel
theorem dX7_within_41 : decode cX7_within 41 = .ok (.iload_n 2, 1) := by decide +kernel
theorem dX7_within_42 : decode cX7_within 42 = .ok (.if_icmp .gt 10, 3) := by decide +kernel
theorem dX7_within_45 : decode cX7_within 45 = .ok (.iconst 1, 1) := by decide +kernel
theorem dX7_within_46 : decode cX7_within 46 = .ok (.iload 4, 2) := by decide +kernel
theorem dX7_within_48 : decode cX7_within 48 = .ok (.ishl, 1) := by decide +kernel
theorem dX7_within_49 : decode cX7_within 49 = .ok (.goto 4, 3) := by decide +kernel
theorem dX7_within_52 : decode cX7_within 52 = .ok (.iconst 0, 1) := by decide +kernel
theorem dX7_within_53 : decode cX7_within 53 = .ok (.ior, 1) := by decide +kernel
theorem dX7_within_54 : decode cX7_within 54 = .ok (.istore_n 3, 1) := by decide +kernel
theorem dX7_within_55 : decode cX7_within 55 = .ok (.iinc 4 1, 3) := by decide +kernel
theorem dX7_within_58 : decode cX7_within 58 = .ok (.goto (-48), 3) := by decide +kernel
theorem dX7_within_61 : decode cX7_within 61 = .ok (.iload_n 3, 1) := by decide +kernel
theorem dX7_within_62 : decode cX7_within 62 = .ok (.ireturn, 1) := by decide +kernel
theorem dX7_near_0 : decode cX7_near 0 = .ok (.aload_n 0, 1) := by decide +kernel
theorem dX7_near_1 : decode cX7_near 1 = .ok (.iload_n 1, 1) := by decide +kernel
theorem dX7_near_2 : decode cX7_near 2 = .ok (.aload_n 0, 1) := by decide +kernel
theorem dX7_near_3 : decode cX7_near 3 = .ok (.getfield 7, 3) := by decide +kernel
theorem dX7_near_6 : decode cX7_near 6 = .ok (.bipush 37, 2) := by decide +kernel
theorem dX7_near_8 : decode cX7_near 8 = .ok (.iaload, 1) := by decide +kernel
theorem dX7_near_9 : decode cX7_near 9 = .ok (.invokevirtual 187, 3) := by decide +kernel
theorem dX7_near_12 : decode cX7_near 12 = .ok (.iconst 1, 1) := by decide +kernel
theorem dX7_near_13 : decode cX7_near 13 = .ok (.iload_n 1, 1) := by decide +kernel
theorem dX7_near_14 : decode cX7_near 14 = .ok (.ishl, 1) := by decide +kernel
theorem dX7_near_15 : decode cX7_near 15 = .ok (.iconst (-1), 1) := by decide +kernel
theorem dX7_near_16 : decode cX7_near 16 = .ok (.ixor, 1) := by decide +kernel
theorem dX7_near_17 : decode cX7_near 17 = .ok (.iand, 1) := by decide +kernel
theorem dX7_near_18 : decode cX7_near 18 = .ok (.ireturn, 1) := by decide +kernel
theorem dX7_bits_0 : decode cX7_bits 0 = .ok (.iconst 0, 1) := by decide +kernel
theorem dX7_bits_1 : decode cX7_bits 1 = .ok (.istore_n 1, 1) := by decide +kernel
theorem dX7_bits_2 : decode cX7_bits 2 = .ok (.iconst 0, 1) := by decide +kernel
theorem dX7_bits_3 : decode cX7_bits 3 = .ok (.istore_n 2, 1) := by decide +kernel
theorem dX7_bits_4 : decode cX7_bits 4 = .ok (.iload_n 2, 1) := by decide +kernel
theorem dX7_bits_5 : decode cX7_bits 5 = .ok (.bipush 16, 2) := by decide +kernel
theorem dX7_bits_7 : decode cX7_bits 7 = .ok (.if_icmp .ge 17, 3) := by decide +kernel
theorem dX7_bits_10 : decode cX7_bits 10 = .ok (.iload_n 1, 1) := by decide +kernel
theorem dX7_bits_11 : decode cX7_bits 11 = .ok (.iload_n 0, 1) := by decide +kernel
theorem dX7_bits_12 : decode cX7_bits 12 = .ok (.iload_n 2, 1) := by decide +kernel
theorem dX7_bits_13 : decode cX7_bits 13 = .ok (.ishr, 1) := by decide +kernel
theorem dX7_bits_14 : decode cX7_bits 14 = .ok (.iconst 1, 1) := by decide +kernel
theorem dX7_bits_15 : decode cX7_bits 15 = .ok (.iand, 1) := by decide +kernel
theorem dX7_bits_16 : decode cX7_bits 16 = .ok (.iadd, 1) := by decide +kernel
theorem dX7_bits_17 : decode cX7_bits 17 = .ok (.istore_n 1, 1) := by decide +kernel
theorem dX7_bits_18 : decode cX7_bits 18 = .ok (.iinc 2 1, 3) := by decide +kernel
theorem dX7_bits_21 : decode cX7_bits 21 = .ok (.goto (-17), 3) := by decide +kernel
theorem dX7_bits_24 : decode cX7_bits 24 = .ok (.iload_n 1, 1) := by decide +kernel
theorem dX7_bits_25 : decode cX7_bits 25 = .ok (.ireturn, 1) := by decide +kernel
theorem dX7_person_0 : decode cX7_person 0 = .ok (.aload_n 0, 1) := by decide +kernel
theorem dX7_person_1 : decode cX7_person 1 = .ok (.iload_n 1, 1) := by decide +kernel
theorem dX7_person_2 : decode cX7_person 2 = .ok (.invokevirtual 191, 3) := by decide +kernel
theorem dX7_person_5 : decode cX7_person 5 = .ok (.ifCond .ne 6, 3) := by decide +kernel
theorem dX7_person_8 : decode cX7_person 8 = .ok (.bipush (-2), 2) := by decide +kernel
theorem dX7_person_10 : decode cX7_person 10 = .ok (.ireturn, 1) := by decide +kernel
theorem dX7_person_11 : decode cX7_person 11 = .ok (.iload_n 2, 1) := by decide +kernel
theorem dX7_person_12 : decode cX7_person 12 = .ok (.tableswitch 78 0 4 #[36, 46, 56, 66, 72], 36) := by decide +kernel
theorem dX7_person_48 : decode cX7_person 48 = .ok (.aload_n 0, 1) := by decide +kernel
theorem dX7_person_49 : decode cX7_person 49 = .ok (.getfield 7, 3) := by decide +kernel
theorem dX7_person_52 : decode cX7_person 52 = .ok (.bipush 39, 2) := by decide +kernel
theorem dX7_person_54 : decode cX7_person 54 = .ok (.iload_n 1, 1) := by decide +kernel
theorem dX7_person_55 : decode cX7_person 55 = .ok (.iadd, 1) := by decide +kernel
theorem dX7_person_56 : decode cX7_person 56 = .ok (.iaload, 1) := by decide +kernel
theorem dX7_person_57 : decode cX7_person 57 = .ok (.ireturn, 1) := by decide +kernel
theorem dX7_person_58 : decode cX7_person 58 = .ok (.aload_n 0, 1) := by decide +kernel
theorem dX7_person_59 : decode cX7_person 59 = .ok (.getfield 7, 3) := by decide +kernel
theorem dX7_person_62 : decode cX7_person 62 = .ok (.bipush 55, 2) := by decide +kernel
theorem dX7_person_64 : decode cX7_person 64 = .ok (.iload_n 1, 1) := by decide +kernel
theorem dX7_person_65 : decode cX7_person 65 = .ok (.iadd, 1) := by decide +kernel
theorem dX7_person_66 : decode cX7_person 66 = .ok (.iaload, 1) := by decide +kernel
theorem dX7_person_67 : decode cX7_person 67 = .ok (.ireturn, 1) := by decide +kernel
theorem dX7_person_68 : decode cX7_person 68 = .ok (.aload_n 0, 1) := by decide +kernel
theorem dX7_person_69 : decode cX7_person 69 = .ok (.getfield 7, 3) := by decide +kernel
theorem dX7_person_72 : decode cX7_person 72 = .ok (.bipush 71, 2) := by decide +kernel
theorem dX7_person_74 : decode cX7_person 74 = .ok (.iload_n 1, 1) := by decide +kernel
theorem dX7_person_75 : decode cX7_person 75 = .ok (.iadd, 1) := by decide +kernel
theorem dX7_person_76 : decode cX7_person 76 = .ok (.iaload, 1) := by decide +kernel
theorem dX7_person_77 : decode cX7_person 77 = .ok (.ireturn, 1) := by decide +kernel
theorem dX7_person_78 : decode cX7_person 78 = .ok (.aload_n 0, 1) := by decide +kernel
theorem dX7_person_79 : decode cX7_person 79 = .ok (.iload_n 1, 1) := by decide +kernel
theorem dX7_person_80 : decode cX7_person 80 = .ok (.invokevirtual 194, 3) := by decide +kernel
theorem dX7_person_83 : decode cX7_person 83 = .ok (.ireturn, 1) := by decide +kernel
theorem dX7_person_84 : decode cX7_person 84 = .ok (.aload_n 0, 1) := by decide +kernel
theorem dX7_person_85 : decode cX7_person 85 = .ok (.iload_n 1, 1) := by decide +kernel
theorem dX7_person_86 : decode cX7_person 86 = .ok (.invokevirtual 197, 3) := by decide +kernel
theorem dX7_person_89 : decode cX7_person 89 = .ok (.ireturn, 1) := by decide +kernel
theorem dX7_person_90 : decode cX7_person 90 = .ok (.bipush (-3), 2) := by decide +kernel
theorem dX7_person_92 : decode cX7_person 92 = .ok (.ireturn, 1) := by decide +kernel
theorem dX7_called_0 : decode cX7_called 0 = .ok (.aload_n 0, 1) := by decide +kernel
theorem dX7_called_1 : decode cX7_called 1 = .ok (.iload_n 1, 1) := by decide +kernel
theorem dX7_called_2 : decode cX7_called 2 = .ok (.invokevirtual 191, 3) := by decide +kernel
theorem dX7_called_5 : decode cX7_called 5 = .ok (.ifCond .eq 12, 3) := by decide +kernel
theorem dX7_called_8 : decode cX7_called 8 = .ok (.aload_n 0, 1) := by decide +kernel
theorem dX7_called_9 : decode cX7_called 9 = .ok (.getfield 13, 3) := by decide +kernel
theorem dX7_called_12 : decode cX7_called 12 = .ok (.iload_n 1, 1) := by decide +kernel
theorem dX7_called_13 : decode cX7_called 13 = .ok (.laload, 1) := by decide +kernel
theorem dX7_called_14 : decode cX7_called 14 = .ok (.goto 6, 3) := by decide +kernel
theorem dX7_called_17 : decode cX7_called 17 = .ok (.ldc2_w 200, 3) := by decide +kernel
theorem dX7_called_20 : decode cX7_called 20 = .ok (.lreturn, 1) := by decide +kernel
theorem dX7_degrees_0 : decode cX7_degrees 0 = .ok (.aload_n 0, 1) := by decide +kernel
theorem dX7_degrees_1 : decode cX7_degrees 1 = .ok (.iload_n 1, 1) := by decide +kernel
theorem dX7_degrees_2 : decode cX7_degrees 2 = .ok (.invokevirtual 191, 3) := by decide +kernel
theorem dX7_degrees_5 : decode cX7_degrees 5 = .ok (.ifCond .eq 11, 3) := by decide +kernel
theorem dX7_degrees_8 : decode cX7_degrees 8 = .ok (.aload_n 0, 1) := by decide +kernel
theorem dX7_degrees_9 : decode cX7_degrees 9 = .ok (.iload_n 2, 1) := by decide +kernel
theorem dX7_degrees_10 : decode cX7_degrees 10 = .ok (.invokevirtual 191, 3) := by decide +kernel
theorem dX7_degrees_13 : decode cX7_degrees 13 = .ok (.ifCond .ne 6, 3) := by decide +kernel
theorem dX7_degrees_16 : decode cX7_degrees 16 = .ok (.bipush (-2), 2) := by decide +kernel
theorem dX7_degrees_18 : decode cX7_degrees 18 = .ok (.ireturn, 1) := by decide +kernel
theorem dX7_degrees_19 : decode cX7_degrees 19 = .ok (.aload_n 0, 1) := by decide +kernel
theorem dX7_degrees_20 : decode cX7_degrees 20 = .ok (.iload_n 1, 1) := by decide +kernel
theorem dX7_degrees_21 : decode cX7_degrees 21 = .ok (.invokevirtual 184, 3) := by decide +kernel
theorem dX7_degrees_24 : decode cX7_degrees 24 = .ok (.aload_n 0, 1) := by decide +kernel
theorem dX7_degrees_25 : decode cX7_degrees 25 = .ok (.getfield 42, 3) := by decide +kernel
theorem dX7_degrees_28 : decode cX7_degrees 28 = .ok (.iload_n 2, 1) := by decide +kernel
theorem dX7_degrees_29 : decode cX7_degrees 29 = .ok (.iaload, 1) := by decide +kernel
theorem dX7_degrees_30 : decode cX7_degrees 30 = .ok (.ireturn, 1) := by decide +kernel
theorem dX7_as_0 : decode cX7_as 0 = .ok (.aload_n 0, 1) := by decide +kernel
theorem dX7_as_1 : decode cX7_as 1 = .ok (.iload_n 1, 1) := by decide +kernel
theorem dX7_as_2 : decode cX7_as 2 = .ok (.invokevirtual 191, 3) := by decide +kernel
theorem dX7_as_5 : decode cX7_as 5 = .ok (.ifCond .ne 6, 3) := by decide +kernel
theorem dX7_as_8 : decode cX7_as 8 = .ok (.bipush (-2), 2) := by decide +kernel
theorem dX7_as_10 : decode cX7_as 10 = .ok (.ireturn, 1) := by decide +kernel
theorem dX7_as_11 : decode cX7_as 11 = .ok (.iload_n 2, 1) := by decide +kernel
theorem dX7_as_12 : decode cX7_as 12 = .ok (.i2l, 1) := by decide +kernel
theorem dX7_as_13 : decode cX7_as 13 = .ok (.lconst 0, 1) := by decide +kernel
theorem dX7_as_14 : decode cX7_as 14 = .ok (.ldc2_w 202, 3) := by decide +kernel
theorem dX7_as_17 : decode cX7_as 17 = .ok (.invokestatic 68, 3) := by decide +kernel
theorem dX7_as_20 : decode cX7_as 20 = .ok (.ifCond .ne 6, 3) := by decide +kernel
theorem dX7_as_23 : decode cX7_as 23 = .ok (.bipush (-3), 2) := by decide +kernel
theorem dX7_as_25 : decode cX7_as 25 = .ok (.ireturn, 1) := by decide +kernel
theorem dX7_as_26 : decode cX7_as 26 = .ok (.aload_n 0, 1) := by decide +kernel
theorem dX7_as_27 : decode cX7_as 27 = .ok (.iload_n 1, 1) := by decide +kernel
theorem dX7_as_28 : decode cX7_as 28 = .ok (.invokevirtual 194, 3) := by decide +kernel
theorem dX7_as_31 : decode cX7_as 31 = .ok (.istore_n 3, 1) := by decide +kernel
theorem dX7_as_32 : decode cX7_as 32 = .ok (.iload_n 2, 1) := by decide +kernel
theorem dX7_as_33 : decode cX7_as 33 = .ok (.ifCond .eq 31, 3) := by decide +kernel
theorem dX7_as_36 : decode cX7_as 36 = .ok (.iload_n 2, 1) := by decide +kernel
theorem dX7_as_37 : decode cX7_as 37 = .ok (.iconst 1, 1) := by decide +kernel
theorem dX7_as_38 : decode cX7_as 38 = .ok (.if_icmp .ne 7, 3) := by decide +kernel
theorem dX7_as_41 : decode cX7_as 41 = .ok (.iload_n 3, 1) := by decide +kernel
theorem dX7_as_42 : decode cX7_as 42 = .ok (.ifCond .eq 22, 3) := by decide +kernel
theorem dX7_as_45 : decode cX7_as 45 = .ok (.iload_n 2, 1) := by decide +kernel
theorem dX7_as_46 : decode cX7_as 46 = .ok (.iconst 2, 1) := by decide +kernel
theorem dX7_as_47 : decode cX7_as 47 = .ok (.if_icmp .ne 7, 3) := by decide +kernel
theorem dX7_as_50 : decode cX7_as 50 = .ok (.iload_n 3, 1) := by decide +kernel
theorem dX7_as_51 : decode cX7_as 51 = .ok (.ifCond .gt 13, 3) := by decide +kernel
theorem dX7_as_54 : decode cX7_as 54 = .ok (.iload_n 2, 1) := by decide +kernel
theorem dX7_as_55 : decode cX7_as 55 = .ok (.iconst 3, 1) := by decide +kernel
theorem dX7_as_56 : decode cX7_as 56 = .ok (.if_icmp .ne 12, 3) := by decide +kernel
theorem dX7_as_59 : decode cX7_as 59 = .ok (.iload_n 3, 1) := by decide +kernel
theorem dX7_as_60 : decode cX7_as 60 = .ok (.iconst 2, 1) := by decide +kernel
theorem dX7_as_61 : decode cX7_as 61 = .ok (.if_icmp .ne 7, 3) := by decide +kernel
theorem dX7_as_64 : decode cX7_as 64 = .ok (.iconst 1, 1) := by decide +kernel
theorem dX7_as_65 : decode cX7_as 65 = .ok (.goto 4, 3) := by decide +kernel
theorem dX7_as_68 : decode cX7_as 68 = .ok (.iconst 0, 1) := by decide +kernel
theorem dX7_as_69 : decode cX7_as 69 = .ok (.istore 4, 2) := by decide +kernel
theorem dX7_as_71 : decode cX7_as 71 = .ok (.iload 4, 2) := by decide +kernel
theorem dX7_as_73 : decode cX7_as 73 = .ok (.ifCond .eq 14, 3) := by decide +kernel
theorem dX7_as_76 : decode cX7_as 76 = .ok (.aload_n 0, 1) := by decide +kernel
theorem dX7_as_77 : decode cX7_as 77 = .ok (.iload_n 1, 1) := by decide +kernel
theorem dX7_as_78 : decode cX7_as 78 = .ok (.invokevirtual 197, 3) := by decide +kernel
theorem dX7_as_81 : decode cX7_as 81 = .ok (.invokestatic 204, 3) := by decide +kernel
theorem dX7_as_84 : decode cX7_as 84 = .ok (.goto 5, 3) := by decide +kernel
theorem dX7_as_87 : decode cX7_as 87 = .ok (.bipush (-4), 2) := by decide +kernel
theorem dX7_as_89 : decode cX7_as 89 = .ok (.ireturn, 1) := by decide +kernel
theorem dX7_lettersOf_0 : decode cX7_lettersOf 0 = .ok (.iconst 0, 1) := by decide +kernel
theorem dX7_lettersOf_1 : decode cX7_lettersOf 1 = .ok (.istore_n 2, 1) := by decide +kernel
theorem dX7_lettersOf_2 : decode cX7_lettersOf 2 = .ok (.lload_n 0, 1) := by decide +kernel
theorem dX7_lettersOf_3 : decode cX7_lettersOf 3 = .ok (.lstore_n 3, 1) := by decide +kernel
theorem dX7_lettersOf_4 : decode cX7_lettersOf 4 = .ok (.lload_n 3, 1) := by decide +kernel
theorem dX7_lettersOf_5 : decode cX7_lettersOf 5 = .ok (.lconst 0, 1) := by decide +kernel
theorem dX7_lettersOf_6 : decode cX7_lettersOf 6 = .ok (.lcmp, 1) := by decide +kernel
theorem dX7_lettersOf_7 : decode cX7_lettersOf 7 = .ok (.ifCond .le 15, 3) := by decide +kernel
theorem dX7_lettersOf_10 : decode cX7_lettersOf 10 = .ok (.iinc 2 1, 3) := by decide +kernel
theorem dX7_lettersOf_13 : decode cX7_lettersOf 13 = .ok (.lload_n 3, 1) := by decide +kernel
theorem dX7_lettersOf_14 : decode cX7_lettersOf 14 = .ok (.ldc2_w 121, 3) := by decide +kernel
theorem dX7_lettersOf_17 : decode cX7_lettersOf 17 = .ok (.ldiv, 1) := by decide +kernel
theorem dX7_lettersOf_18 : decode cX7_lettersOf 18 = .ok (.lstore_n 3, 1) := by decide +kernel
theorem dX7_lettersOf_19 : decode cX7_lettersOf 19 = .ok (.goto (-15), 3) := by decide +kernel
theorem dX7_lettersOf_22 : decode cX7_lettersOf 22 = .ok (.iload_n 2, 1) := by decide +kernel
theorem dX7_lettersOf_23 : decode cX7_lettersOf 23 = .ok (.ireturn, 1) := by decide +kernel
theorem dX7_isCode_0 : decode cX7_isCode 0 = .ok (.lload_n 0, 1) := by decide +kernel
theorem dX7_isCode_1 : decode cX7_isCode 1 = .ok (.lconst 0, 1) := by decide +kernel
theorem dX7_isCode_2 : decode cX7_isCode 2 = .ok (.lcmp, 1) := by decide +kernel
theorem dX7_isCode_3 : decode cX7_isCode 3 = .ok (.ifCond .le 16, 3) := by decide +kernel
theorem dX7_isCode_6 : decode cX7_isCode 6 = .ok (.lload_n 0, 1) := by decide +kernel
theorem dX7_isCode_7 : decode cX7_isCode 7 = .ok (.invokestatic 207, 3) := by decide +kernel
theorem dX7_isCode_10 : decode cX7_isCode 10 = .ok (.bipush 10, 2) := by decide +kernel
theorem dX7_isCode_12 : decode cX7_isCode 12 = .ok (.if_icmp .ge 7, 3) := by decide +kernel
theorem dX7_isCode_15 : decode cX7_isCode 15 = .ok (.iconst 1, 1) := by decide +kernel
theorem dX7_isCode_16 : decode cX7_isCode 16 = .ok (.goto 4, 3) := by decide +kernel
theorem dX7_isCode_19 : decode cX7_isCode 19 = .ok (.iconst 0, 1) := by decide +kernel
theorem dX7_isCode_20 : decode cX7_isCode 20 = .ok (.istore_n 2, 1) := by decide +kernel
theorem dX7_isCode_21 : decode cX7_isCode 21 = .ok (.lload_n 0, 1) := by decide +kernel
theorem dX7_isCode_22 : decode cX7_isCode 22 = .ok (.lstore_n 3, 1) := by decide +kernel
theorem dX7_isCode_23 : decode cX7_isCode 23 = .ok (.lload_n 3, 1) := by decide +kernel
theorem dX7_isCode_24 : decode cX7_isCode 24 = .ok (.lconst 0, 1) := by decide +kernel
theorem dX7_isCode_25 : decode cX7_isCode 25 = .ok (.lcmp, 1) := by decide +kernel
theorem dX7_isCode_26 : decode cX7_isCode 26 = .ok (.ifCond .le 32, 3) := by decide +kernel
theorem dX7_isCode_29 : decode cX7_isCode 29 = .ok (.iload_n 2, 1) := by decide +kernel
theorem dX7_isCode_30 : decode cX7_isCode 30 = .ok (.ifCond .eq 28, 3) := by decide +kernel
theorem dX7_isCode_33 : decode cX7_isCode 33 = .ok (.lload_n 3, 1) := by decide +kernel
theorem dX7_isCode_34 : decode cX7_isCode 34 = .ok (.ldc2_w 121, 3) := by decide +kernel
theorem dX7_isCode_37 : decode cX7_isCode 37 = .ok (.lrem, 1) := by decide +kernel
theorem dX7_isCode_38 : decode cX7_isCode 38 = .ok (.lconst 0, 1) := by decide +kernel
theorem dX7_isCode_39 : decode cX7_isCode 39 = .ok (.lcmp, 1) := by decide +kernel
theorem dX7_isCode_40 : decode cX7_isCode 40 = .ok (.ifCond .eq 7, 3) := by decide +kernel
theorem dX7_isCode_43 : decode cX7_isCode 43 = .ok (.iconst 1, 1) := by decide +kernel
theorem dX7_isCode_44 : decode cX7_isCode 44 = .ok (.goto 4, 3) := by decide +kernel
theorem dX7_isCode_47 : decode cX7_isCode 47 = .ok (.iconst 0, 1) := by decide +kernel
theorem dX7_isCode_48 : decode cX7_isCode 48 = .ok (.istore_n 2, 1) := by decide +kernel
theorem dX7_isCode_49 : decode cX7_isCode 49 = .ok (.lload_n 3, 1) := by decide +kernel
theorem dX7_isCode_50 : decode cX7_isCode 50 = .ok (.ldc2_w 121, 3) := by decide +kernel
theorem dX7_isCode_53 : decode cX7_isCode 53 = .ok (.ldiv, 1) := by decide +kernel
theorem dX7_isCode_54 : decode cX7_isCode 54 = .ok (.lstore_n 3, 1) := by decide +kernel
theorem dX7_isCode_55 : decode cX7_isCode 55 = .ok (.goto (-32), 3) := by decide +kernel
theorem dX7_isCode_58 : decode cX7_isCode 58 = .ok (.iload_n 2, 1) := by decide +kernel
theorem dX7_isCode_59 : decode cX7_isCode 59 = .ok (.ireturn, 1) := by decide +kernel
theorem dX7_sumOf_0 : decode cX7_sumOf 0 = .ok (.iconst 0, 1) := by decide +kernel
theorem dX7_sumOf_1 : decode cX7_sumOf 1 = .ok (.istore_n 3, 1) := by decide +kernel
theorem dX7_sumOf_2 : decode cX7_sumOf 2 = .ok (.lload_n 1, 1) := by decide +kernel
theorem dX7_sumOf_3 : decode cX7_sumOf 3 = .ok (.lstore 4, 2) := by decide +kernel
theorem dX7_sumOf_5 : decode cX7_sumOf 5 = .ok (.lload 4, 2) := by decide +kernel
theorem dX7_sumOf_7 : decode cX7_sumOf 7 = .ok (.lconst 0, 1) := by decide +kernel
theorem dX7_sumOf_8 : decode cX7_sumOf 8 = .ok (.lcmp, 1) := by decide +kernel
theorem dX7_sumOf_9 : decode cX7_sumOf 9 = .ok (.ifCond .le 31, 3) := by decide +kernel
theorem dX7_sumOf_12 : decode cX7_sumOf 12 = .ok (.iload_n 3, 1) := by decide +kernel
theorem dX7_sumOf_13 : decode cX7_sumOf 13 = .ok (.aload_n 0, 1) := by decide +kernel
theorem dX7_sumOf_14 : decode cX7_sumOf 14 = .ok (.getfield 7, 3) := by decide +kernel
theorem dX7_sumOf_17 : decode cX7_sumOf 17 = .ok (.lload 4, 2) := by decide +kernel
theorem dX7_sumOf_19 : decode cX7_sumOf 19 = .ok (.ldc2_w 121, 3) := by decide +kernel
theorem dX7_sumOf_22 : decode cX7_sumOf 22 = .ok (.lrem, 1) := by decide +kernel
theorem dX7_sumOf_23 : decode cX7_sumOf 23 = .ok (.l2i, 1) := by decide +kernel
theorem dX7_sumOf_24 : decode cX7_sumOf 24 = .ok (.iconst 1, 1) := by decide +kernel
theorem dX7_sumOf_25 : decode cX7_sumOf 25 = .ok (.isub, 1) := by decide +kernel
theorem dX7_sumOf_26 : decode cX7_sumOf 26 = .ok (.iaload, 1) := by decide +kernel
theorem dX7_sumOf_27 : decode cX7_sumOf 27 = .ok (.iadd, 1) := by decide +kernel
theorem dX7_sumOf_28 : decode cX7_sumOf 28 = .ok (.istore_n 3, 1) := by decide +kernel
theorem dX7_sumOf_29 : decode cX7_sumOf 29 = .ok (.lload 4, 2) := by decide +kernel
theorem dX7_sumOf_31 : decode cX7_sumOf 31 = .ok (.ldc2_w 121, 3) := by decide +kernel
theorem dX7_sumOf_34 : decode cX7_sumOf 34 = .ok (.ldiv, 1) := by decide +kernel
theorem dX7_sumOf_35 : decode cX7_sumOf 35 = .ok (.lstore 4, 2) := by decide +kernel
theorem dX7_sumOf_37 : decode cX7_sumOf 37 = .ok (.goto (-32), 3) := by decide +kernel
theorem dX7_sumOf_40 : decode cX7_sumOf 40 = .ok (.iload_n 3, 1) := by decide +kernel
theorem dX7_sumOf_41 : decode cX7_sumOf 41 = .ok (.ireturn, 1) := by decide +kernel
theorem dX7_isBare_0 : decode cX7_isBare 0 = .ok (.iconst 1, 1) := by decide +kernel
theorem dX7_isBare_1 : decode cX7_isBare 1 = .ok (.istore_n 3, 1) := by decide +kernel
theorem dX7_isBare_2 : decode cX7_isBare 2 = .ok (.lload_n 1, 1) := by decide +kernel
theorem dX7_isBare_3 : decode cX7_isBare 3 = .ok (.lstore 4, 2) := by decide +kernel
theorem dX7_isBare_5 : decode cX7_isBare 5 = .ok (.lload 4, 2) := by decide +kernel
theorem dX7_isBare_7 : decode cX7_isBare 7 = .ok (.lconst 0, 1) := by decide +kernel
theorem dX7_isBare_8 : decode cX7_isBare 8 = .ok (.lcmp, 1) := by decide +kernel
theorem dX7_isBare_9 : decode cX7_isBare 9 = .ok (.ifCond .le 41, 3) := by decide +kernel
theorem dX7_isBare_12 : decode cX7_isBare 12 = .ok (.iload_n 3, 1) := by decide +kernel
theorem dX7_isBare_13 : decode cX7_isBare 13 = .ok (.ifCond .eq 24, 3) := by decide +kernel
theorem dX7_isBare_16 : decode cX7_isBare 16 = .ok (.aload_n 0, 1) := by decide +kernel
theorem dX7_isBare_17 : decode cX7_isBare 17 = .ok (.getfield 7, 3) := by decide +kernel
theorem dX7_isBare_20 : decode cX7_isBare 20 = .ok (.lload 4, 2) := by decide +kernel
theorem dX7_isBare_22 : decode cX7_isBare 22 = .ok (.ldc2_w 121, 3) := by decide +kernel
theorem dX7_isBare_25 : decode cX7_isBare 25 = .ok (.lrem, 1) := by decide +kernel
theorem dX7_isBare_26 : decode cX7_isBare 26 = .ok (.l2i, 1) := by decide +kernel
theorem dX7_isBare_27 : decode cX7_isBare 27 = .ok (.iconst 1, 1) := by decide +kernel
theorem dX7_isBare_28 : decode cX7_isBare 28 = .ok (.isub, 1) := by decide +kernel
theorem dX7_isBare_29 : decode cX7_isBare 29 = .ok (.iaload, 1) := by decide +kernel
theorem dX7_isBare_30 : decode cX7_isBare 30 = .ok (.ifCond .le 7, 3) := by decide +kernel
theorem dX7_isBare_33 : decode cX7_isBare 33 = .ok (.iconst 1, 1) := by decide +kernel
theorem dX7_isBare_34 : decode cX7_isBare 34 = .ok (.goto 4, 3) := by decide +kernel
theorem dX7_isBare_37 : decode cX7_isBare 37 = .ok (.iconst 0, 1) := by decide +kernel
theorem dX7_isBare_38 : decode cX7_isBare 38 = .ok (.istore_n 3, 1) := by decide +kernel
theorem dX7_isBare_39 : decode cX7_isBare 39 = .ok (.lload 4, 2) := by decide +kernel
theorem dX7_isBare_41 : decode cX7_isBare 41 = .ok (.ldc2_w 121, 3) := by decide +kernel
theorem dX7_isBare_44 : decode cX7_isBare 44 = .ok (.ldiv, 1) := by decide +kernel
theorem dX7_isBare_45 : decode cX7_isBare 45 = .ok (.lstore 4, 2) := by decide +kernel
theorem dX7_isBare_47 : decode cX7_isBare 47 = .ok (.goto (-42), 3) := by decide +kernel
theorem dX7_isBare_50 : decode cX7_isBare 50 = .ok (.iload_n 3, 1) := by decide +kernel
theorem dX7_isBare_51 : decode cX7_isBare 51 = .ok (.ireturn, 1) := by decide +kernel
theorem dX7_joined_0 : decode cX7_joined 0 = .ok (.lload_n 0, 1) := by decide +kernel
theorem dX7_joined_1 : decode cX7_joined 1 = .ok (.lstore 4, 2) := by decide +kernel
theorem dX7_joined_3 : decode cX7_joined 3 = .ok (.lload_n 2, 1) := by decide +kernel
theorem dX7_joined_4 : decode cX7_joined 4 = .ok (.invokestatic 207, 3) := by decide +kernel
theorem dX7_joined_7 : decode cX7_joined 7 = .ok (.istore 6, 2) := by decide +kernel
theorem dX7_joined_9 : decode cX7_joined 9 = .ok (.iload 6, 2) := by decide +kernel
theorem dX7_joined_11 : decode cX7_joined 11 = .ok (.ifCond .le 17, 3) := by decide +kernel
theorem dX7_joined_14 : decode cX7_joined 14 = .ok (.lload 4, 2) := by decide +kernel
theorem dX7_joined_16 : decode cX7_joined 16 = .ok (.ldc2_w 121, 3) := by decide +kernel
theorem dX7_joined_19 : decode cX7_joined 19 = .ok (.lmul, 1) := by decide +kernel
theorem dX7_joined_20 : decode cX7_joined 20 = .ok (.lstore 4, 2) := by decide +kernel
theorem dX7_joined_22 : decode cX7_joined 22 = .ok (.iinc 6 (-1), 3) := by decide +kernel
theorem dX7_joined_25 : decode cX7_joined 25 = .ok (.goto (-16), 3) := by decide +kernel
theorem dX7_joined_28 : decode cX7_joined 28 = .ok (.lload 4, 2) := by decide +kernel
theorem dX7_joined_30 : decode cX7_joined 30 = .ok (.lload_n 2, 1) := by decide +kernel
theorem dX7_joined_31 : decode cX7_joined 31 = .ok (.ladd, 1) := by decide +kernel
theorem dX7_joined_32 : decode cX7_joined 32 = .ok (.lreturn, 1) := by decide +kernel
theorem dX7_addName_0 : decode cX7_addName 0 = .ok (.aload_n 0, 1) := by decide +kernel
theorem dX7_addName_1 : decode cX7_addName 1 = .ok (.getfield 211, 3) := by decide +kernel
theorem dX7_addName_4 : decode cX7_addName 4 = .ok (.istore_n 3, 1) := by decide +kernel
theorem dX7_addName_5 : decode cX7_addName 5 = .ok (.iload_n 3, 1) := by decide +kernel
theorem dX7_addName_6 : decode cX7_addName 6 = .ok (.ifCond .le 22, 3) := by decide +kernel
theorem dX7_addName_9 : decode cX7_addName 9 = .ok (.aload_n 0, 1) := by decide +kernel
theorem dX7_addName_10 : decode cX7_addName 10 = .ok (.getfield 45, 3) := by decide +kernel
theorem dX7_addName_13 : decode cX7_addName 13 = .ok (.iload_n 3, 1) := by decide +kernel
theorem dX7_addName_14 : decode cX7_addName 14 = .ok (.iconst 1, 1) := by decide +kernel
theorem dX7_addName_15 : decode cX7_addName 15 = .ok (.isub, 1) := by decide +kernel
theorem dX7_addName_16 : decode cX7_addName 16 = .ok (.laload, 1) := by decide +kernel
theorem dX7_addName_17 : decode cX7_addName 17 = .ok (.lload_n 1, 1) := by decide +kernel
theorem dX7_addName_18 : decode cX7_addName 18 = .ok (.lcmp, 1) := by decide +kernel
theorem dX7_addName_19 : decode cX7_addName 19 = .ok (.ifCond .le 9, 3) := by decide +kernel
theorem dX7_addName_22 : decode cX7_addName 22 = .ok (.iinc 3 (-1), 3) := by decide +kernel
theorem dX7_addName_25 : decode cX7_addName 25 = .ok (.goto (-20), 3) := by decide +kernel
theorem dX7_addName_28 : decode cX7_addName 28 = .ok (.iload_n 3, 1) := by decide +kernel
theorem dX7_addName_29 : decode cX7_addName 29 = .ok (.ifCond .le 17, 3) := by decide +kernel
theorem dX7_addName_32 : decode cX7_addName 32 = .ok (.aload_n 0, 1) := by decide +kernel
theorem dX7_addName_33 : decode cX7_addName 33 = .ok (.getfield 45, 3) := by decide +kernel
theorem dX7_addName_36 : decode cX7_addName 36 = .ok (.iload_n 3, 1) := by decide +kernel
theorem dX7_addName_37 : decode cX7_addName 37 = .ok (.iconst 1, 1) := by decide +kernel
theorem dX7_addName_38 : decode cX7_addName 38 = .ok (.isub, 1) := by decide +kernel
theorem dX7_addName_39 : decode cX7_addName 39 = .ok (.laload, 1) := by decide +kernel
theorem dX7_addName_40 : decode cX7_addName 40 = .ok (.lload_n 1, 1) := by decide +kernel
theorem dX7_addName_41 : decode cX7_addName 41 = .ok (.lcmp, 1) := by decide +kernel
theorem dX7_addName_42 : decode cX7_addName 42 = .ok (.ifCond .ne 4, 3) := by decide +kernel
theorem dX7_addName_45 : decode cX7_addName 45 = .ok (.return_, 1) := by decide +kernel
theorem dX7_addName_46 : decode cX7_addName 46 = .ok (.aload_n 0, 1) := by decide +kernel
theorem dX7_addName_47 : decode cX7_addName 47 = .ok (.getfield 211, 3) := by decide +kernel
theorem dX7_addName_50 : decode cX7_addName 50 = .ok (.istore 4, 2) := by decide +kernel
theorem dX7_addName_52 : decode cX7_addName 52 = .ok (.iload 4, 2) := by decide +kernel
theorem dX7_addName_54 : decode cX7_addName 54 = .ok (.iload_n 3, 1) := by decide +kernel
theorem dX7_addName_55 : decode cX7_addName 55 = .ok (.if_icmp .le 25, 3) := by decide +kernel
theorem dX7_addName_58 : decode cX7_addName 58 = .ok (.aload_n 0, 1) := by decide +kernel
theorem dX7_addName_59 : decode cX7_addName 59 = .ok (.getfield 45, 3) := by decide +kernel
theorem dX7_addName_62 : decode cX7_addName 62 = .ok (.iload 4, 2) := by decide +kernel
theorem dX7_addName_64 : decode cX7_addName 64 = .ok (.aload_n 0, 1) := by decide +kernel
theorem dX7_addName_65 : decode cX7_addName 65 = .ok (.getfield 45, 3) := by decide +kernel
theorem dX7_addName_68 : decode cX7_addName 68 = .ok (.iload 4, 2) := by decide +kernel
theorem dX7_addName_70 : decode cX7_addName 70 = .ok (.iconst 1, 1) := by decide +kernel
theorem dX7_addName_71 : decode cX7_addName 71 = .ok (.isub, 1) := by decide +kernel
theorem dX7_addName_72 : decode cX7_addName 72 = .ok (.laload, 1) := by decide +kernel
theorem dX7_addName_73 : decode cX7_addName 73 = .ok (.lastore, 1) := by decide +kernel
theorem dX7_addName_74 : decode cX7_addName 74 = .ok (.iinc 4 (-1), 3) := by decide +kernel
theorem dX7_addName_77 : decode cX7_addName 77 = .ok (.goto (-25), 3) := by decide +kernel
theorem dX7_addName_80 : decode cX7_addName 80 = .ok (.aload_n 0, 1) := by decide +kernel
theorem dX7_addName_81 : decode cX7_addName 81 = .ok (.getfield 45, 3) := by decide +kernel
theorem dX7_addName_84 : decode cX7_addName 84 = .ok (.iload_n 3, 1) := by decide +kernel
theorem dX7_addName_85 : decode cX7_addName 85 = .ok (.lload_n 1, 1) := by decide +kernel
theorem dX7_addName_86 : decode cX7_addName 86 = .ok (.lastore, 1) := by decide +kernel
theorem dX7_addName_87 : decode cX7_addName 87 = .ok (.aload_n 0, 1) := by decide +kernel
theorem dX7_addName_88 : decode cX7_addName 88 = .ok (.dup, 1) := by decide +kernel
theorem dX7_addName_89 : decode cX7_addName 89 = .ok (.getfield 211, 3) := by decide +kernel
theorem dX7_addName_92 : decode cX7_addName 92 = .ok (.iconst 1, 1) := by decide +kernel
theorem dX7_addName_93 : decode cX7_addName 93 = .ok (.iadd, 1) := by decide +kernel
theorem dX7_addName_94 : decode cX7_addName 94 = .ok (.putfield 211, 3) := by decide +kernel
theorem dX7_addName_97 : decode cX7_addName 97 = .ok (.return_, 1) := by decide +kernel
theorem dX7_layNames_0 : decode cX7_layNames 0 = .ok (.aload_n 0, 1) := by decide +kernel
theorem dX7_layNames_1 : decode cX7_layNames 1 = .ok (.iconst 0, 1) := by decide +kernel
theorem dX7_layNames_2 : decode cX7_layNames 2 = .ok (.putfield 211, 3) := by decide +kernel
theorem dX7_layNames_5 : decode cX7_layNames 5 = .ok (.aload_n 0, 1) := by decide +kernel
theorem dX7_layNames_6 : decode cX7_layNames 6 = .ok (.getfield 7, 3) := by decide +kernel
theorem dX7_layNames_9 : decode cX7_layNames 9 = .ok (.bipush 26, 2) := by decide +kernel
theorem dX7_layNames_11 : decode cX7_layNames 11 = .ok (.iaload, 1) := by decide +kernel
theorem dX7_layNames_12 : decode cX7_layNames 12 = .ok (.istore_n 1, 1) := by decide +kernel
theorem dX7_layNames_13 : decode cX7_layNames 13 = .ok (.iconst 0, 1) := by decide +kernel
theorem dX7_layNames_14 : decode cX7_layNames 14 = .ok (.istore_n 2, 1) := by decide +kernel
theorem dX7_layNames_15 : decode cX7_layNames 15 = .ok (.iload_n 2, 1) := by decide +kernel
theorem dX7_layNames_16 : decode cX7_layNames 16 = .ok (.iload_n 1, 1) := by decide +kernel
theorem dX7_layNames_17 : decode cX7_layNames 17 = .ok (.if_icmp .ge 133, 3) := by decide +kernel
theorem dX7_layNames_20 : decode cX7_layNames 20 = .ok (.aload_n 0, 1) := by decide +kernel
theorem dX7_layNames_21 : decode cX7_layNames 21 = .ok (.getfield 7, 3) := by decide +kernel
theorem dX7_layNames_24 : decode cX7_layNames 24 = .ok (.bipush 27, 2) := by decide +kernel
theorem dX7_layNames_26 : decode cX7_layNames 26 = .ok (.iload_n 2, 1) := by decide +kernel
theorem dX7_layNames_27 : decode cX7_layNames 27 = .ok (.iadd, 1) := by decide +kernel
theorem dX7_layNames_28 : decode cX7_layNames 28 = .ok (.iaload, 1) := by decide +kernel
theorem dX7_layNames_29 : decode cX7_layNames 29 = .ok (.i2l, 1) := by decide +kernel
theorem dX7_layNames_30 : decode cX7_layNames 30 = .ok (.lstore_n 3, 1) := by decide +kernel
theorem dX7_layNames_31 : decode cX7_layNames 31 = .ok (.aload_n 0, 1) := by decide +kernel
theorem dX7_layNames_32 : decode cX7_layNames 32 = .ok (.lload_n 3, 1) := by decide +kernel
theorem dX7_layNames_33 : decode cX7_layNames 33 = .ok (.invokevirtual 214, 3) := by decide +kernel
theorem dX7_layNames_36 : decode cX7_layNames 36 = .ok (.ifCond .eq 108, 3) := by decide +kernel
theorem dX7_layNames_39 : decode cX7_layNames 39 = .ok (.aload_n 0, 1) := by decide +kernel
theorem dX7_layNames_40 : decode cX7_layNames 40 = .ok (.lload_n 3, 1) := by decide +kernel
theorem dX7_layNames_41 : decode cX7_layNames 41 = .ok (.invokevirtual 218, 3) := by decide +kernel
theorem dX7_layNames_44 : decode cX7_layNames 44 = .ok (.iconst 0, 1) := by decide +kernel
theorem dX7_layNames_45 : decode cX7_layNames 45 = .ok (.istore 5, 2) := by decide +kernel
theorem dX7_layNames_47 : decode cX7_layNames 47 = .ok (.iload 5, 2) := by decide +kernel
theorem dX7_layNames_49 : decode cX7_layNames 49 = .ok (.iload_n 1, 1) := by decide +kernel
theorem dX7_layNames_50 : decode cX7_layNames 50 = .ok (.if_icmp .ge 94, 3) := by decide +kernel
theorem dX7_layNames_53 : decode cX7_layNames 53 = .ok (.lload_n 3, 1) := by decide +kernel
theorem dX7_layNames_54 : decode cX7_layNames 54 = .ok (.aload_n 0, 1) := by decide +kernel
theorem dX7_layNames_55 : decode cX7_layNames 55 = .ok (.getfield 7, 3) := by decide +kernel
theorem dX7_layNames_58 : decode cX7_layNames 58 = .ok (.bipush 27, 2) := by decide +kernel
theorem dX7_layNames_60 : decode cX7_layNames 60 = .ok (.iload 5, 2) := by decide +kernel
theorem dX7_layNames_62 : decode cX7_layNames 62 = .ok (.iadd, 1) := by decide +kernel
theorem dX7_layNames_63 : decode cX7_layNames 63 = .ok (.iaload, 1) := by decide +kernel
theorem dX7_layNames_64 : decode cX7_layNames 64 = .ok (.i2l, 1) := by decide +kernel
theorem dX7_layNames_65 : decode cX7_layNames 65 = .ok (.invokestatic 222, 3) := by decide +kernel
theorem dX7_layNames_68 : decode cX7_layNames 68 = .ok (.lstore 6, 2) := by decide +kernel
theorem dX7_layNames_70 : decode cX7_layNames 70 = .ok (.aload_n 0, 1) := by decide +kernel
theorem dX7_layNames_71 : decode cX7_layNames 71 = .ok (.lload 6, 2) := by decide +kernel
theorem dX7_layNames_73 : decode cX7_layNames 73 = .ok (.invokevirtual 214, 3) := by decide +kernel
theorem dX7_layNames_76 : decode cX7_layNames 76 = .ok (.ifCond .eq 62, 3) := by decide +kernel
theorem dX7_layNames_79 : decode cX7_layNames 79 = .ok (.aload_n 0, 1) := by decide +kernel
theorem dX7_layNames_80 : decode cX7_layNames 80 = .ok (.lload 6, 2) := by decide +kernel
theorem dX7_layNames_82 : decode cX7_layNames 82 = .ok (.invokevirtual 218, 3) := by decide +kernel
theorem dX7_layNames_85 : decode cX7_layNames 85 = .ok (.iconst 0, 1) := by decide +kernel
theorem dX7_layNames_86 : decode cX7_layNames 86 = .ok (.istore 8, 2) := by decide +kernel
theorem dX7_layNames_88 : decode cX7_layNames 88 = .ok (.iload 8, 2) := by decide +kernel
theorem dX7_layNames_90 : decode cX7_layNames 90 = .ok (.iload_n 1, 1) := by decide +kernel
theorem dX7_layNames_91 : decode cX7_layNames 91 = .ok (.if_icmp .ge 47, 3) := by decide +kernel
theorem dX7_layNames_94 : decode cX7_layNames 94 = .ok (.aload_n 0, 1) := by decide +kernel
theorem dX7_layNames_95 : decode cX7_layNames 95 = .ok (.aload_n 0, 1) := by decide +kernel
theorem dX7_layNames_96 : decode cX7_layNames 96 = .ok (.getfield 7, 3) := by decide +kernel
theorem dX7_layNames_99 : decode cX7_layNames 99 = .ok (.bipush 27, 2) := by decide +kernel
theorem dX7_layNames_101 : decode cX7_layNames 101 = .ok (.iload 8, 2) := by decide +kernel
theorem dX7_layNames_103 : decode cX7_layNames 103 = .ok (.iadd, 1) := by decide +kernel
theorem dX7_layNames_104 : decode cX7_layNames 104 = .ok (.iaload, 1) := by decide +kernel
theorem dX7_layNames_105 : decode cX7_layNames 105 = .ok (.i2l, 1) := by decide +kernel
theorem dX7_layNames_106 : decode cX7_layNames 106 = .ok (.invokevirtual 214, 3) := by decide +kernel
theorem dX7_layNames_109 : decode cX7_layNames 109 = .ok (.ifCond .eq 23, 3) := by decide +kernel
theorem dX7_layNames_112 : decode cX7_layNames 112 = .ok (.aload_n 0, 1) := by decide +kernel
theorem dX7_layNames_113 : decode cX7_layNames 113 = .ok (.lload 6, 2) := by decide +kernel
theorem dX7_layNames_115 : decode cX7_layNames 115 = .ok (.aload_n 0, 1) := by decide +kernel
theorem dX7_layNames_116 : decode cX7_layNames 116 = .ok (.getfield 7, 3) := by decide +kernel
theorem dX7_layNames_119 : decode cX7_layNames 119 = .ok (.bipush 27, 2) := by decide +kernel
theorem dX7_layNames_121 : decode cX7_layNames 121 = .ok (.iload 8, 2) := by decide +kernel
theorem dX7_layNames_123 : decode cX7_layNames 123 = .ok (.iadd, 1) := by decide +kernel
theorem dX7_layNames_124 : decode cX7_layNames 124 = .ok (.iaload, 1) := by decide +kernel
theorem dX7_layNames_125 : decode cX7_layNames 125 = .ok (.i2l, 1) := by decide +kernel
theorem dX7_layNames_126 : decode cX7_layNames 126 = .ok (.invokestatic 222, 3) := by decide +kernel
theorem dX7_layNames_129 : decode cX7_layNames 129 = .ok (.invokevirtual 218, 3) := by decide +kernel
theorem dX7_layNames_132 : decode cX7_layNames 132 = .ok (.iinc 8 1, 3) := by decide +kernel
theorem dX7_layNames_135 : decode cX7_layNames 135 = .ok (.goto (-47), 3) := by decide +kernel
theorem dX7_layNames_138 : decode cX7_layNames 138 = .ok (.iinc 5 1, 3) := by decide +kernel
theorem dX7_layNames_141 : decode cX7_layNames 141 = .ok (.goto (-94), 3) := by decide +kernel
theorem dX7_layNames_144 : decode cX7_layNames 144 = .ok (.iinc 2 1, 3) := by decide +kernel
theorem dX7_layNames_147 : decode cX7_layNames 147 = .ok (.goto (-132), 3) := by decide +kernel
theorem dX7_layNames_150 : decode cX7_layNames 150 = .ok (.return_, 1) := by decide +kernel
theorem dX7_isName_0 : decode cX7_isName 0 = .ok (.iconst 0, 1) := by decide +kernel
theorem dX7_isName_1 : decode cX7_isName 1 = .ok (.istore_n 3, 1) := by decide +kernel
theorem dX7_isName_2 : decode cX7_isName 2 = .ok (.aload_n 0, 1) := by decide +kernel
theorem dX7_isName_3 : decode cX7_isName 3 = .ok (.getfield 7, 3) := by decide +kernel
theorem dX7_isName_6 : decode cX7_isName 6 = .ok (.bipush 26, 2) := by decide +kernel
theorem dX7_isName_8 : decode cX7_isName 8 = .ok (.iaload, 1) := by decide +kernel
theorem dX7_isName_9 : decode cX7_isName 9 = .ok (.istore 4, 2) := by decide +kernel
theorem dX7_isName_11 : decode cX7_isName 11 = .ok (.iconst 0, 1) := by decide +kernel
theorem dX7_isName_12 : decode cX7_isName 12 = .ok (.istore 5, 2) := by decide +kernel
theorem dX7_isName_14 : decode cX7_isName 14 = .ok (.iload 5, 2) := by decide +kernel
theorem dX7_isName_16 : decode cX7_isName 16 = .ok (.iload 4, 2) := by decide +kernel
theorem dX7_isName_18 : decode cX7_isName 18 = .ok (.iload 4, 2) := by decide +kernel
theorem dX7_isName_20 : decode cX7_isName 20 = .ok (.imul, 1) := by decide +kernel
theorem dX7_isName_21 : decode cX7_isName 21 = .ok (.iload 4, 2) := by decide +kernel
theorem dX7_isName_23 : decode cX7_isName 23 = .ok (.imul, 1) := by decide +kernel
theorem dX7_isName_24 : decode cX7_isName 24 = .ok (.if_icmp .ge 108, 3) := by decide +kernel
theorem dX7_isName_27 : decode cX7_isName 27 = .ok (.aload_n 0, 1) := by decide +kernel
theorem dX7_isName_28 : decode cX7_isName 28 = .ok (.lload_n 1, 1) := by decide +kernel
theorem dX7_isName_29 : decode cX7_isName 29 = .ok (.invokevirtual 214, 3) := by decide +kernel
theorem dX7_isName_32 : decode cX7_isName 32 = .ok (.ifCond .eq 100, 3) := by decide +kernel
theorem dX7_isName_35 : decode cX7_isName 35 = .ok (.aload_n 0, 1) := by decide +kernel
theorem dX7_isName_36 : decode cX7_isName 36 = .ok (.getfield 7, 3) := by decide +kernel
theorem dX7_isName_39 : decode cX7_isName 39 = .ok (.bipush 27, 2) := by decide +kernel
theorem dX7_isName_41 : decode cX7_isName 41 = .ok (.iload 5, 2) := by decide +kernel
theorem dX7_isName_43 : decode cX7_isName 43 = .ok (.iload 4, 2) := by decide +kernel
theorem dX7_isName_45 : decode cX7_isName 45 = .ok (.idiv, 1) := by decide +kernel
theorem dX7_isName_46 : decode cX7_isName 46 = .ok (.iload 4, 2) := by decide +kernel
theorem dX7_isName_48 : decode cX7_isName 48 = .ok (.idiv, 1) := by decide +kernel
theorem dX7_isName_49 : decode cX7_isName 49 = .ok (.iadd, 1) := by decide +kernel
theorem dX7_isName_50 : decode cX7_isName 50 = .ok (.iaload, 1) := by decide +kernel
theorem dX7_isName_51 : decode cX7_isName 51 = .ok (.i2l, 1) := by decide +kernel
theorem dX7_isName_52 : decode cX7_isName 52 = .ok (.lstore 6, 2) := by decide +kernel
theorem dX7_isName_54 : decode cX7_isName 54 = .ok (.lload 6, 2) := by decide +kernel
theorem dX7_isName_56 : decode cX7_isName 56 = .ok (.aload_n 0, 1) := by decide +kernel
theorem dX7_isName_57 : decode cX7_isName 57 = .ok (.getfield 7, 3) := by decide +kernel
theorem dX7_isName_60 : decode cX7_isName 60 = .ok (.bipush 27, 2) := by decide +kernel
theorem dX7_isName_62 : decode cX7_isName 62 = .ok (.iload 5, 2) := by decide +kernel
theorem dX7_isName_64 : decode cX7_isName 64 = .ok (.iload 4, 2) := by decide +kernel
theorem dX7_isName_66 : decode cX7_isName 66 = .ok (.idiv, 1) := by decide +kernel
theorem dX7_isName_67 : decode cX7_isName 67 = .ok (.iload 4, 2) := by decide +kernel
theorem dX7_isName_69 : decode cX7_isName 69 = .ok (.irem, 1) := by decide +kernel
theorem dX7_isName_70 : decode cX7_isName 70 = .ok (.iadd, 1) := by decide +kernel
theorem dX7_isName_71 : decode cX7_isName 71 = .ok (.iaload, 1) := by decide +kernel
theorem dX7_isName_72 : decode cX7_isName 72 = .ok (.i2l, 1) := by decide +kernel
theorem dX7_isName_73 : decode cX7_isName 73 = .ok (.invokestatic 222, 3) := by decide +kernel
theorem dX7_isName_76 : decode cX7_isName 76 = .ok (.lstore 8, 2) := by decide +kernel
theorem dX7_isName_78 : decode cX7_isName 78 = .ok (.iload_n 3, 1) := by decide +kernel
theorem dX7_isName_79 : decode cX7_isName 79 = .ok (.ifCond .ne 41, 3) := by decide +kernel
theorem dX7_isName_82 : decode cX7_isName 82 = .ok (.lload 6, 2) := by decide +kernel
theorem dX7_isName_84 : decode cX7_isName 84 = .ok (.lload_n 1, 1) := by decide +kernel
theorem dX7_isName_85 : decode cX7_isName 85 = .ok (.lcmp, 1) := by decide +kernel
theorem dX7_isName_86 : decode cX7_isName 86 = .ok (.ifCond .eq 34, 3) := by decide +kernel
theorem dX7_isName_89 : decode cX7_isName 89 = .ok (.lload 8, 2) := by decide +kernel
theorem dX7_isName_91 : decode cX7_isName 91 = .ok (.lload_n 1, 1) := by decide +kernel
theorem dX7_isName_92 : decode cX7_isName 92 = .ok (.lcmp, 1) := by decide +kernel
theorem dX7_isName_93 : decode cX7_isName 93 = .ok (.ifCond .eq 27, 3) := by decide +kernel
theorem dX7_isName_96 : decode cX7_isName 96 = .ok (.lload 8, 2) := by decide +kernel
theorem dX7_isName_98 : decode cX7_isName 98 = .ok (.aload_n 0, 1) := by decide +kernel
theorem dX7_isName_99 : decode cX7_isName 99 = .ok (.getfield 7, 3) := by decide +kernel
theorem dX7_isName_102 : decode cX7_isName 102 = .ok (.bipush 27, 2) := by decide +kernel
theorem dX7_isName_104 : decode cX7_isName 104 = .ok (.iload 5, 2) := by decide +kernel
theorem dX7_isName_106 : decode cX7_isName 106 = .ok (.iload 4, 2) := by decide +kernel
theorem dX7_isName_108 : decode cX7_isName 108 = .ok (.irem, 1) := by decide +kernel
theorem dX7_isName_109 : decode cX7_isName 109 = .ok (.iadd, 1) := by decide +kernel
theorem dX7_isName_110 : decode cX7_isName 110 = .ok (.iaload, 1) := by decide +kernel
theorem dX7_isName_111 : decode cX7_isName 111 = .ok (.i2l, 1) := by decide +kernel
theorem dX7_isName_112 : decode cX7_isName 112 = .ok (.invokestatic 222, 3) := by decide +kernel
theorem dX7_isName_115 : decode cX7_isName 115 = .ok (.lload_n 1, 1) := by decide +kernel
theorem dX7_isName_116 : decode cX7_isName 116 = .ok (.lcmp, 1) := by decide +kernel
theorem dX7_isName_117 : decode cX7_isName 117 = .ok (.ifCond .ne 7, 3) := by decide +kernel
theorem dX7_isName_120 : decode cX7_isName 120 = .ok (.iconst 1, 1) := by decide +kernel
theorem dX7_isName_121 : decode cX7_isName 121 = .ok (.goto 4, 3) := by decide +kernel
theorem dX7_isName_124 : decode cX7_isName 124 = .ok (.iconst 0, 1) := by decide +kernel
theorem dX7_isName_125 : decode cX7_isName 125 = .ok (.istore_n 3, 1) := by decide +kernel
theorem dX7_isName_126 : decode cX7_isName 126 = .ok (.iinc 5 1, 3) := by decide +kernel
theorem dX7_isName_129 : decode cX7_isName 129 = .ok (.goto (-115), 3) := by decide +kernel
theorem dX7_isName_132 : decode cX7_isName 132 = .ok (.iload_n 3, 1) := by decide +kernel
theorem dX7_isName_133 : decode cX7_isName 133 = .ok (.ireturn, 1) := by decide +kernel
theorem dX7_sum_0 : decode cX7_sum 0 = .ok (.lload_n 1, 1) := by decide +kernel
theorem dX7_sum_1 : decode cX7_sum 1 = .ok (.invokestatic 226, 3) := by decide +kernel
theorem dX7_sum_4 : decode cX7_sum 4 = .ok (.ifCond .eq 11, 3) := by decide +kernel
theorem dX7_sum_7 : decode cX7_sum 7 = .ok (.aload_n 0, 1) := by decide +kernel
theorem dX7_sum_8 : decode cX7_sum 8 = .ok (.lload_n 1, 1) := by decide +kernel
theorem dX7_sum_9 : decode cX7_sum 9 = .ok (.invokevirtual 229, 3) := by decide +kernel
theorem dX7_sum_12 : decode cX7_sum 12 = .ok (.goto 5, 3) := by decide +kernel
theorem dX7_sum_15 : decode cX7_sum 15 = .ok (.bipush (-3), 2) := by decide +kernel
theorem dX7_sum_17 : decode cX7_sum 17 = .ok (.ireturn, 1) := by decide +kernel
theorem dX7_name_0 : decode cX7_name 0 = .ok (.lload_n 1, 1) := by decide +kernel
theorem dX7_name_1 : decode cX7_name 1 = .ok (.invokestatic 226, 3) := by decide +kernel
theorem dX7_name_4 : decode cX7_name 4 = .ok (.ifCond .ne 8, 3) := by decide +kernel
theorem dX7_name_7 : decode cX7_name 7 = .ok (.bipush (-3), 2) := by decide +kernel
theorem dX7_name_9 : decode cX7_name 9 = .ok (.goto 16, 3) := by decide +kernel
theorem dX7_name_12 : decode cX7_name 12 = .ok (.aload_n 0, 1) := by decide +kernel
theorem dX7_name_13 : decode cX7_name 13 = .ok (.lload_n 1, 1) := by decide +kernel
theorem dX7_name_14 : decode cX7_name 14 = .ok (.invokevirtual 232, 3) := by decide +kernel
theorem dX7_name_17 : decode cX7_name 17 = .ok (.ifCond .eq 7, 3) := by decide +kernel
theorem dX7_name_20 : decode cX7_name 20 = .ok (.iconst 1, 1) := by decide +kernel
theorem dX7_name_21 : decode cX7_name 21 = .ok (.goto 4, 3) := by decide +kernel
theorem dX7_name_24 : decode cX7_name 24 = .ok (.iconst 0, 1) := by decide +kernel
theorem dX7_name_25 : decode cX7_name 25 = .ok (.ireturn, 1) := by decide +kernel
theorem dX7_takerOf_0 : decode cX7_takerOf 0 = .ok (.aload_n 0, 1) := by decide +kernel
theorem dX7_takerOf_1 : decode cX7_takerOf 1 = .ok (.iload_n 1, 1) := by decide +kernel
theorem dX7_takerOf_2 : decode cX7_takerOf 2 = .ok (.invokevirtual 197, 3) := by decide +kernel
theorem dX7_takerOf_5 : decode cX7_takerOf 5 = .ok (.istore_n 2, 1) := by decide +kernel
theorem dX7_takerOf_6 : decode cX7_takerOf 6 = .ok (.iconst 0, 1) := by decide +kernel
theorem dX7_takerOf_7 : decode cX7_takerOf 7 = .ok (.istore_n 3, 1) := by decide +kernel
theorem dX7_takerOf_8 : decode cX7_takerOf 8 = .ok (.iload_n 3, 1) := by decide +kernel
theorem dX7_takerOf_9 : decode cX7_takerOf 9 = .ok (.aload_n 0, 1) := by decide +kernel
theorem dX7_takerOf_10 : decode cX7_takerOf 10 = .ok (.getfield 7, 3) := by decide +kernel
theorem dX7_takerOf_13 : decode cX7_takerOf 13 = .ok (.bipush 38, 2) := by decide +kernel
theorem dX7_takerOf_15 : decode cX7_takerOf 15 = .ok (.iaload, 1) := by decide +kernel
theorem dX7_takerOf_16 : decode cX7_takerOf 16 = .ok (.if_icmp .ge 35, 3) := by decide +kernel
theorem dX7_takerOf_19 : decode cX7_takerOf 19 = .ok (.iload_n 2, 1) := by decide +kernel
theorem dX7_takerOf_20 : decode cX7_takerOf 20 = .ok (.iload_n 3, 1) := by decide +kernel
theorem dX7_takerOf_21 : decode cX7_takerOf 21 = .ok (.invokestatic 235, 3) := by decide +kernel
theorem dX7_takerOf_24 : decode cX7_takerOf 24 = .ok (.ifCond .eq 21, 3) := by decide +kernel
theorem dX7_takerOf_27 : decode cX7_takerOf 27 = .ok (.aload_n 0, 1) := by decide +kernel
theorem dX7_takerOf_28 : decode cX7_takerOf 28 = .ok (.getfield 13, 3) := by decide +kernel
theorem dX7_takerOf_31 : decode cX7_takerOf 31 = .ok (.iload_n 3, 1) := by decide +kernel
theorem dX7_takerOf_32 : decode cX7_takerOf 32 = .ok (.laload, 1) := by decide +kernel
theorem dX7_takerOf_33 : decode cX7_takerOf 33 = .ok (.aload_n 0, 1) := by decide +kernel
theorem dX7_takerOf_34 : decode cX7_takerOf 34 = .ok (.getfield 13, 3) := by decide +kernel
theorem dX7_takerOf_37 : decode cX7_takerOf 37 = .ok (.iload_n 1, 1) := by decide +kernel
