theorem dX3_readToken_74 : decode cX3_readToken 74 = .ok (.iconst 1, 1) := by decide +kernel
theorem dX3_readToken_75 : decode cX3_readToken 75 = .ok (.goto 4, 3) := by decide +kernel
theorem dX3_readToken_78 : decode cX3_readToken 78 = .ok (.iconst 0, 1) := by decide +kernel
theorem dX3_readToken_79 : decode cX3_readToken 79 = .ok (.istore_n 1, 1) := by decide +kernel
theorem dX3_readToken_80 : decode cX3_readToken 80 = .ok (.iload_n 1, 1) := by decide +kernel
theorem dX3_readToken_81 : decode cX3_readToken 81 = .ok (.ifCond .eq 73, 3) := by decide +kernel
theorem dX3_readToken_84 : decode cX3_readToken 84 = .ok (.aload_n 0, 1) := by decide +kernel
theorem dX3_readToken_85 : decode cX3_readToken 85 = .ok (.getfield 29, 3) := by decide +kernel
theorem dX3_readToken_88 : decode cX3_readToken 88 = .ok (.aload_n 0, 1) := by decide +kernel
theorem dX3_readToken_89 : decode cX3_readToken 89 = .ok (.getfield 15, 3) := by decide +kernel
theorem dX3_readToken_92 : decode cX3_readToken 92 = .ok (.if_icmp .ge 62, 3) := by decide +kernel
theorem dX3_readToken_95 : decode cX3_readToken 95 = .ok (.aload_n 0, 1) := by decide +kernel
theorem dX3_readToken_96 : decode cX3_readToken 96 = .ok (.aload_n 0, 1) := by decide +kernel
theorem dX3_readToken_97 : decode cX3_readToken 97 = .ok (.aload_n 0, 1) := by decide +kernel
theorem dX3_readToken_98 : decode cX3_readToken 98 = .ok (.getfield 9, 3) := by decide +kernel
theorem dX3_readToken_101 : decode cX3_readToken 101 = .ok (.aload_n 0, 1) := by decide +kernel
theorem dX3_readToken_102 : decode cX3_readToken 102 = .ok (.getfield 29, 3) := by decide +kernel
theorem dX3_readToken_105 : decode cX3_readToken 105 = .ok (.iaload, 1) := by decide +kernel
theorem dX3_readToken_106 : decode cX3_readToken 106 = .ok (.invokevirtual 177, 3) := by decide +kernel
theorem dX3_readToken_109 : decode cX3_readToken 109 = .ok (.putfield 41, 3) := by decide +kernel
theorem dX3_readToken_112 : decode cX3_readToken 112 = .ok (.aload_n 0, 1) := by decide +kernel
theorem dX3_readToken_113 : decode cX3_readToken 113 = .ok (.dup, 1) := by decide +kernel
theorem dX3_readToken_114 : decode cX3_readToken 114 = .ok (.getfield 29, 3) := by decide +kernel
theorem dX3_readToken_117 : decode cX3_readToken 117 = .ok (.iconst 1, 1) := by decide +kernel
theorem dX3_readToken_118 : decode cX3_readToken 118 = .ok (.iadd, 1) := by decide +kernel
theorem dX3_readToken_119 : decode cX3_readToken 119 = .ok (.putfield 29, 3) := by decide +kernel
theorem dX3_readToken_122 : decode cX3_readToken 122 = .ok (.aload_n 0, 1) := by decide +kernel
theorem dX3_readToken_123 : decode cX3_readToken 123 = .ok (.getfield 32, 3) := by decide +kernel
theorem dX3_readToken_126 : decode cX3_readToken 126 = .ok (.iconst 3, 1) := by decide +kernel
theorem dX3_readToken_127 : decode cX3_readToken 127 = .ok (.if_icmp .eq 22, 3) := by decide +kernel
theorem dX3_readToken_130 : decode cX3_readToken 130 = .ok (.aload_n 0, 1) := by decide +kernel
theorem dX3_readToken_131 : decode cX3_readToken 131 = .ok (.aload_n 0, 1) := by decide +kernel
theorem dX3_readToken_132 : decode cX3_readToken 132 = .ok (.getfield 29, 3) := by decide +kernel
theorem dX3_readToken_135 : decode cX3_readToken 135 = .ok (.invokevirtual 173, 3) := by decide +kernel
theorem dX3_readToken_138 : decode cX3_readToken 138 = .ok (.aload_n 0, 1) := by decide +kernel
theorem dX3_readToken_139 : decode cX3_readToken 139 = .ok (.getfield 32, 3) := by decide +kernel
theorem dX3_readToken_142 : decode cX3_readToken 142 = .ok (.if_icmp .ne 7, 3) := by decide +kernel
theorem dX3_readToken_145 : decode cX3_readToken 145 = .ok (.iconst 1, 1) := by decide +kernel
theorem dX3_readToken_146 : decode cX3_readToken 146 = .ok (.goto 4, 3) := by decide +kernel
theorem dX3_readToken_149 : decode cX3_readToken 149 = .ok (.iconst 0, 1) := by decide +kernel
theorem dX3_readToken_150 : decode cX3_readToken 150 = .ok (.istore_n 1, 1) := by decide +kernel
theorem dX3_readToken_151 : decode cX3_readToken 151 = .ok (.goto (-71), 3) := by decide +kernel
theorem dX3_readToken_154 : decode cX3_readToken 154 = .ok (.aload_n 0, 1) := by decide +kernel
theorem dX3_readToken_155 : decode cX3_readToken 155 = .ok (.aload_n 0, 1) := by decide +kernel
theorem dX3_readToken_156 : decode cX3_readToken 156 = .ok (.getfield 29, 3) := by decide +kernel
theorem dX3_readToken_159 : decode cX3_readToken 159 = .ok (.aload_n 0, 1) := by decide +kernel
theorem dX3_readToken_160 : decode cX3_readToken 160 = .ok (.getfield 35, 3) := by decide +kernel
theorem dX3_readToken_163 : decode cX3_readToken 163 = .ok (.isub, 1) := by decide +kernel
theorem dX3_readToken_164 : decode cX3_readToken 164 = .ok (.putfield 38, 3) := by decide +kernel
theorem dX3_readToken_167 : decode cX3_readToken 167 = .ok (.return_, 1) := by decide +kernel
theorem dX3_valueWith_0 : decode cX3_valueWith 0 = .ok (.aload_n 0, 1) := by decide +kernel
theorem dX3_valueWith_1 : decode cX3_valueWith 1 = .ok (.getfield 32, 3) := by decide +kernel
theorem dX3_valueWith_4 : decode cX3_valueWith 4 = .ok (.iconst 1, 1) := by decide +kernel
theorem dX3_valueWith_5 : decode cX3_valueWith 5 = .ok (.if_icmp .ne 21, 3) := by decide +kernel
theorem dX3_valueWith_8 : decode cX3_valueWith 8 = .ok (.aload_n 0, 1) := by decide +kernel
theorem dX3_valueWith_9 : decode cX3_valueWith 9 = .ok (.getfield 41, 3) := by decide +kernel
theorem dX3_valueWith_12 : decode cX3_valueWith 12 = .ok (.ldc2_w 181, 3) := by decide +kernel
theorem dX3_valueWith_15 : decode cX3_valueWith 15 = .ok (.lmul, 1) := by decide +kernel
theorem dX3_valueWith_16 : decode cX3_valueWith 16 = .ok (.iload_n 1, 1) := by decide +kernel
theorem dX3_valueWith_17 : decode cX3_valueWith 17 = .ok (.i2l, 1) := by decide +kernel
theorem dX3_valueWith_18 : decode cX3_valueWith 18 = .ok (.ladd, 1) := by decide +kernel
theorem dX3_valueWith_19 : decode cX3_valueWith 19 = .ok (.ldc2_w 183, 3) := by decide +kernel
theorem dX3_valueWith_22 : decode cX3_valueWith 22 = .ok (.lsub, 1) := by decide +kernel
theorem dX3_valueWith_23 : decode cX3_valueWith 23 = .ok (.lconst 1, 1) := by decide +kernel
theorem dX3_valueWith_24 : decode cX3_valueWith 24 = .ok (.ladd, 1) := by decide +kernel
theorem dX3_valueWith_25 : decode cX3_valueWith 25 = .ok (.lreturn, 1) := by decide +kernel
theorem dX3_valueWith_26 : decode cX3_valueWith 26 = .ok (.aload_n 0, 1) := by decide +kernel
theorem dX3_valueWith_27 : decode cX3_valueWith 27 = .ok (.getfield 32, 3) := by decide +kernel
theorem dX3_valueWith_30 : decode cX3_valueWith 30 = .ok (.iconst 2, 1) := by decide +kernel
theorem dX3_valueWith_31 : decode cX3_valueWith 31 = .ok (.if_icmp .ne 21, 3) := by decide +kernel
theorem dX3_valueWith_34 : decode cX3_valueWith 34 = .ok (.aload_n 0, 1) := by decide +kernel
theorem dX3_valueWith_35 : decode cX3_valueWith 35 = .ok (.getfield 41, 3) := by decide +kernel
theorem dX3_valueWith_38 : decode cX3_valueWith 38 = .ok (.ldc2_w 185, 3) := by decide +kernel
theorem dX3_valueWith_41 : decode cX3_valueWith 41 = .ok (.lmul, 1) := by decide +kernel
theorem dX3_valueWith_42 : decode cX3_valueWith 42 = .ok (.iload_n 1, 1) := by decide +kernel
theorem dX3_valueWith_43 : decode cX3_valueWith 43 = .ok (.i2l, 1) := by decide +kernel
theorem dX3_valueWith_44 : decode cX3_valueWith 44 = .ok (.ladd, 1) := by decide +kernel
theorem dX3_valueWith_45 : decode cX3_valueWith 45 = .ok (.ldc2_w 187, 3) := by decide +kernel
theorem dX3_valueWith_48 : decode cX3_valueWith 48 = .ok (.lsub, 1) := by decide +kernel
theorem dX3_valueWith_49 : decode cX3_valueWith 49 = .ok (.goto 5, 3) := by decide +kernel
theorem dX3_valueWith_52 : decode cX3_valueWith 52 = .ok (.iload_n 1, 1) := by decide +kernel
theorem dX3_valueWith_53 : decode cX3_valueWith 53 = .ok (.i2l, 1) := by decide +kernel
theorem dX3_valueWith_54 : decode cX3_valueWith 54 = .ok (.lreturn, 1) := by decide +kernel
theorem dX3_kindAt_0 : decode cX3_kindAt 0 = .ok (.iload_n 1, 1) := by decide +kernel
theorem dX3_kindAt_1 : decode cX3_kindAt 1 = .ok (.aload_n 0, 1) := by decide +kernel
theorem dX3_kindAt_2 : decode cX3_kindAt 2 = .ok (.getfield 15, 3) := by decide +kernel
theorem dX3_kindAt_5 : decode cX3_kindAt 5 = .ok (.if_icmp .lt 5, 3) := by decide +kernel
theorem dX3_kindAt_8 : decode cX3_kindAt 8 = .ok (.iconst 0, 1) := by decide +kernel
theorem dX3_kindAt_9 : decode cX3_kindAt 9 = .ok (.ireturn, 1) := by decide +kernel
theorem dX3_kindAt_10 : decode cX3_kindAt 10 = .ok (.aload_n 0, 1) := by decide +kernel
theorem dX3_kindAt_11 : decode cX3_kindAt 11 = .ok (.getfield 9, 3) := by decide +kernel
theorem dX3_kindAt_14 : decode cX3_kindAt 14 = .ok (.iload_n 1, 1) := by decide +kernel
theorem dX3_kindAt_15 : decode cX3_kindAt 15 = .ok (.iaload, 1) := by decide +kernel
theorem dX3_kindAt_16 : decode cX3_kindAt 16 = .ok (.bipush 97, 2) := by decide +kernel
theorem dX3_kindAt_18 : decode cX3_kindAt 18 = .ok (.if_icmp .lt 16, 3) := by decide +kernel
theorem dX3_kindAt_21 : decode cX3_kindAt 21 = .ok (.aload_n 0, 1) := by decide +kernel
theorem dX3_kindAt_22 : decode cX3_kindAt 22 = .ok (.getfield 9, 3) := by decide +kernel
theorem dX3_kindAt_25 : decode cX3_kindAt 25 = .ok (.iload_n 1, 1) := by decide +kernel
theorem dX3_kindAt_26 : decode cX3_kindAt 26 = .ok (.iaload, 1) := by decide +kernel
theorem dX3_kindAt_27 : decode cX3_kindAt 27 = .ok (.bipush 122, 2) := by decide +kernel
theorem dX3_kindAt_29 : decode cX3_kindAt 29 = .ok (.if_icmp .gt 5, 3) := by decide +kernel
theorem dX3_kindAt_32 : decode cX3_kindAt 32 = .ok (.iconst 1, 1) := by decide +kernel
theorem dX3_kindAt_33 : decode cX3_kindAt 33 = .ok (.ireturn, 1) := by decide +kernel
theorem dX3_kindAt_34 : decode cX3_kindAt 34 = .ok (.aload_n 0, 1) := by decide +kernel
theorem dX3_kindAt_35 : decode cX3_kindAt 35 = .ok (.getfield 9, 3) := by decide +kernel
theorem dX3_kindAt_38 : decode cX3_kindAt 38 = .ok (.iload_n 1, 1) := by decide +kernel
theorem dX3_kindAt_39 : decode cX3_kindAt 39 = .ok (.iaload, 1) := by decide +kernel
theorem dX3_kindAt_40 : decode cX3_kindAt 40 = .ok (.bipush 48, 2) := by decide +kernel
theorem dX3_kindAt_42 : decode cX3_kindAt 42 = .ok (.if_icmp .lt 18, 3) := by decide +kernel
theorem dX3_kindAt_45 : decode cX3_kindAt 45 = .ok (.aload_n 0, 1) := by decide +kernel
theorem dX3_kindAt_46 : decode cX3_kindAt 46 = .ok (.getfield 9, 3) := by decide +kernel
theorem dX3_kindAt_49 : decode cX3_kindAt 49 = .ok (.iload_n 1, 1) := by decide +kernel
theorem dX3_kindAt_50 : decode cX3_kindAt 50 = .ok (.iaload, 1) := by decide +kernel
theorem dX3_kindAt_51 : decode cX3_kindAt 51 = .ok (.bipush 57, 2) := by decide +kernel
theorem dX3_kindAt_53 : decode cX3_kindAt 53 = .ok (.if_icmp .gt 7, 3) := by decide +kernel
theorem dX3_kindAt_56 : decode cX3_kindAt 56 = .ok (.iconst 2, 1) := by decide +kernel
theorem dX3_kindAt_57 : decode cX3_kindAt 57 = .ok (.goto 4, 3) := by decide +kernel
theorem dX3_kindAt_60 : decode cX3_kindAt 60 = .ok (.iconst 3, 1) := by decide +kernel
theorem dX3_kindAt_61 : decode cX3_kindAt 61 = .ok (.ireturn, 1) := by decide +kernel
theorem dX4_init_0 : decode cX4_init 0 = .ok (.aload_n 0, 1) := by decide +kernel
theorem dX4_init_1 : decode cX4_init 1 = .ok (.invokespecial 3, 3) := by decide +kernel
theorem dX4_init_4 : decode cX4_init 4 = .ok (.aload_n 0, 1) := by decide +kernel
theorem dX4_init_5 : decode cX4_init 5 = .ok (.bipush 20, 2) := by decide +kernel
theorem dX4_init_7 : decode cX4_init 7 = .ok (.newarray .int, 2) := by decide +kernel
theorem dX4_init_9 : decode cX4_init 9 = .ok (.putfield 9, 3) := by decide +kernel
theorem dX4_init_12 : decode cX4_init 12 = .ok (.aload_n 0, 1) := by decide +kernel
theorem dX4_init_13 : decode cX4_init 13 = .ok (.iconst 0, 1) := by decide +kernel
theorem dX4_init_14 : decode cX4_init 14 = .ok (.putfield 15, 3) := by decide +kernel
theorem dX4_init_17 : decode cX4_init 17 = .ok (.aload_n 0, 1) := by decide +kernel
theorem dX4_init_18 : decode cX4_init 18 = .ok (.iconst (-1), 1) := by decide +kernel
theorem dX4_init_19 : decode cX4_init 19 = .ok (.putfield 19, 3) := by decide +kernel
theorem dX4_init_22 : decode cX4_init 22 = .ok (.return_, 1) := by decide +kernel
theorem dX4_isMissing_0 : decode cX4_isMissing 0 = .ok (.aload_n 0, 1) := by decide +kernel
theorem dX4_isMissing_1 : decode cX4_isMissing 1 = .ok (.getfield 19, 3) := by decide +kernel
theorem dX4_isMissing_4 : decode cX4_isMissing 4 = .ok (.iconst (-1), 1) := by decide +kernel
theorem dX4_isMissing_5 : decode cX4_isMissing 5 = .ok (.if_icmp .ne 7, 3) := by decide +kernel
theorem dX4_isMissing_8 : decode cX4_isMissing 8 = .ok (.iconst 1, 1) := by decide +kernel
theorem dX4_isMissing_9 : decode cX4_isMissing 9 = .ok (.goto 4, 3) := by decide +kernel
theorem dX4_isMissing_12 : decode cX4_isMissing 12 = .ok (.iconst 0, 1) := by decide +kernel
theorem dX4_isMissing_13 : decode cX4_isMissing 13 = .ok (.ireturn, 1) := by decide +kernel
theorem dX4_begin_0 : decode cX4_begin 0 = .ok (.aload_n 0, 1) := by decide +kernel
theorem dX4_begin_1 : decode cX4_begin 1 = .ok (.iload_n 1, 1) := by decide +kernel
theorem dX4_begin_2 : decode cX4_begin 2 = .ok (.putfield 15, 3) := by decide +kernel
theorem dX4_begin_5 : decode cX4_begin 5 = .ok (.aload_n 0, 1) := by decide +kernel
theorem dX4_begin_6 : decode cX4_begin 6 = .ok (.iload_n 2, 1) := by decide +kernel
theorem dX4_begin_7 : decode cX4_begin 7 = .ok (.putfield 19, 3) := by decide +kernel
theorem dX4_begin_10 : decode cX4_begin 10 = .ok (.iconst 0, 1) := by decide +kernel
theorem dX4_begin_11 : decode cX4_begin 11 = .ok (.istore_n 3, 1) := by decide +kernel
theorem dX4_begin_12 : decode cX4_begin 12 = .ok (.iload_n 3, 1) := by decide +kernel
theorem dX4_begin_13 : decode cX4_begin 13 = .ok (.bipush 20, 2) := by decide +kernel
theorem dX4_begin_15 : decode cX4_begin 15 = .ok (.if_icmp .ge 16, 3) := by decide +kernel
theorem dX4_begin_18 : decode cX4_begin 18 = .ok (.aload_n 0, 1) := by decide +kernel
theorem dX4_begin_19 : decode cX4_begin 19 = .ok (.getfield 9, 3) := by decide +kernel
theorem dX4_begin_22 : decode cX4_begin 22 = .ok (.iload_n 3, 1) := by decide +kernel
theorem dX4_begin_23 : decode cX4_begin 23 = .ok (.iconst 0, 1) := by decide +kernel
theorem dX4_begin_24 : decode cX4_begin 24 = .ok (.iastore, 1) := by decide +kernel
theorem dX4_begin_25 : decode cX4_begin 25 = .ok (.iinc 3 1, 3) := by decide +kernel
theorem dX4_begin_28 : decode cX4_begin 28 = .ok (.goto (-16), 3) := by decide +kernel
theorem dX4_begin_31 : decode cX4_begin 31 = .ok (.return_, 1) := by decide +kernel
theorem dX4_hasPlaces_0 : decode cX4_hasPlaces 0 = .ok (.iload_n 1, 1) := by decide +kernel
theorem dX4_hasPlaces_1 : decode cX4_hasPlaces 1 = .ok (.ifCond .lt 29, 3) := by decide +kernel
theorem dX4_hasPlaces_4 : decode cX4_hasPlaces 4 = .ok (.iload_n 2, 1) := by decide +kernel
theorem dX4_hasPlaces_5 : decode cX4_hasPlaces 5 = .ok (.ifCond .lt 25, 3) := by decide +kernel
theorem dX4_hasPlaces_8 : decode cX4_hasPlaces 8 = .ok (.iload_n 1, 1) := by decide +kernel
theorem dX4_hasPlaces_9 : decode cX4_hasPlaces 9 = .ok (.aload_n 0, 1) := by decide +kernel
theorem dX4_hasPlaces_10 : decode cX4_hasPlaces 10 = .ok (.getfield 19, 3) := by decide +kernel
theorem dX4_hasPlaces_13 : decode cX4_hasPlaces 13 = .ok (.if_icmp .gt 17, 3) := by decide +kernel
theorem dX4_hasPlaces_16 : decode cX4_hasPlaces 16 = .ok (.iload_n 2, 1) := by decide +kernel
theorem dX4_hasPlaces_17 : decode cX4_hasPlaces 17 = .ok (.aload_n 0, 1) := by decide +kernel
theorem dX4_hasPlaces_18 : decode cX4_hasPlaces 18 = .ok (.getfield 19, 3) := by decide +kernel
theorem dX4_hasPlaces_21 : decode cX4_hasPlaces 21 = .ok (.iload_n 1, 1) := by decide +kernel
theorem dX4_hasPlaces_22 : decode cX4_hasPlaces 22 = .ok (.isub, 1) := by decide +kernel
theorem dX4_hasPlaces_23 : decode cX4_hasPlaces 23 = .ok (.if_icmp .gt 7, 3) := by decide +kernel
theorem dX4_hasPlaces_26 : decode cX4_hasPlaces 26 = .ok (.iconst 1, 1) := by decide +kernel
theorem dX4_hasPlaces_27 : decode cX4_hasPlaces 27 = .ok (.goto 4, 3) := by decide +kernel
theorem dX4_hasPlaces_30 : decode cX4_hasPlaces 30 = .ok (.iconst 0, 1) := by decide +kernel
theorem dX4_hasPlaces_31 : decode cX4_hasPlaces 31 = .ok (.ireturn, 1) := by decide +kernel
theorem dX4_put_0 : decode cX4_put 0 = .ok (.aload_n 0, 1) := by decide +kernel
theorem dX4_put_1 : decode cX4_put 1 = .ok (.getfield 15, 3) := by decide +kernel
theorem dX4_put_4 : decode cX4_put 4 = .ok (.ifCond .ne 14, 3) := by decide +kernel
theorem dX4_put_7 : decode cX4_put 7 = .ok (.aload_n 0, 1) := by decide +kernel
theorem dX4_put_8 : decode cX4_put 8 = .ok (.getfield 9, 3) := by decide +kernel
theorem dX4_put_11 : decode cX4_put 11 = .ok (.iload_n 1, 1) := by decide +kernel
theorem dX4_put_12 : decode cX4_put 12 = .ok (.iload_n 2, 1) := by decide +kernel
theorem dX4_put_13 : decode cX4_put 13 = .ok (.i2b, 1) := by decide +kernel
theorem dX4_put_14 : decode cX4_put 14 = .ok (.iastore, 1) := by decide +kernel
theorem dX4_put_15 : decode cX4_put 15 = .ok (.goto 29, 3) := by decide +kernel
theorem dX4_put_18 : decode cX4_put 18 = .ok (.aload_n 0, 1) := by decide +kernel
theorem dX4_put_19 : decode cX4_put 19 = .ok (.getfield 15, 3) := by decide +kernel
theorem dX4_put_22 : decode cX4_put 22 = .ok (.iconst 1, 1) := by decide +kernel
theorem dX4_put_23 : decode cX4_put 23 = .ok (.if_icmp .ne 14, 3) := by decide +kernel
theorem dX4_put_26 : decode cX4_put 26 = .ok (.aload_n 0, 1) := by decide +kernel
theorem dX4_put_27 : decode cX4_put 27 = .ok (.getfield 9, 3) := by decide +kernel
theorem dX4_put_30 : decode cX4_put 30 = .ok (.iload_n 1, 1) := by decide +kernel
theorem dX4_put_31 : decode cX4_put 31 = .ok (.iload_n 2, 1) := by decide +kernel
theorem dX4_put_32 : decode cX4_put 32 = .ok (.i2s, 1) := by decide +kernel
theorem dX4_put_33 : decode cX4_put 33 = .ok (.iastore, 1) := by decide +kernel
theorem dX4_put_34 : decode cX4_put 34 = .ok (.goto 10, 3) := by decide +kernel
theorem dX4_put_37 : decode cX4_put 37 = .ok (.aload_n 0, 1) := by decide +kernel
theorem dX4_put_38 : decode cX4_put 38 = .ok (.getfield 9, 3) := by decide +kernel
theorem dX4_put_41 : decode cX4_put 41 = .ok (.iload_n 1, 1) := by decide +kernel
theorem dX4_put_42 : decode cX4_put 42 = .ok (.iload_n 2, 1) := by decide +kernel
theorem dX4_put_43 : decode cX4_put 43 = .ok (.iastore, 1) := by decide +kernel
theorem dX4_put_44 : decode cX4_put 44 = .ok (.return_, 1) := by decide +kernel
theorem dX4_hasOnlyDays_0 : decode cX4_hasOnlyDays 0 = .ok (.iconst 0, 1) := by decide +kernel
theorem dX4_hasOnlyDays_1 : decode cX4_hasOnlyDays 1 = .ok (.istore_n 3, 1) := by decide +kernel
theorem dX4_hasOnlyDays_2 : decode cX4_hasOnlyDays 2 = .ok (.iload_n 3, 1) := by decide +kernel
theorem dX4_hasOnlyDays_3 : decode cX4_hasOnlyDays 3 = .ok (.iload_n 2, 1) := by decide +kernel
theorem dX4_hasOnlyDays_4 : decode cX4_hasOnlyDays 4 = .ok (.if_icmp .ge 25, 3) := by decide +kernel
theorem dX4_hasOnlyDays_7 : decode cX4_hasOnlyDays 7 = .ok (.aload_n 0, 1) := by decide +kernel
theorem dX4_hasOnlyDays_8 : decode cX4_hasOnlyDays 8 = .ok (.getfield 9, 3) := by decide +kernel
theorem dX4_hasOnlyDays_11 : decode cX4_hasOnlyDays 11 = .ok (.iload_n 1, 1) := by decide +kernel
theorem dX4_hasOnlyDays_12 : decode cX4_hasOnlyDays 12 = .ok (.iload_n 3, 1) := by decide +kernel
theorem dX4_hasOnlyDays_13 : decode cX4_hasOnlyDays 13 = .ok (.iadd, 1) := by decide +kernel
theorem dX4_hasOnlyDays_14 : decode cX4_hasOnlyDays 14 = .ok (.iaload, 1) := by decide +kernel
theorem dX4_hasOnlyDays_15 : decode cX4_hasOnlyDays 15 = .ok (.invokestatic 22, 3) := by decide +kernel
theorem dX4_hasOnlyDays_18 : decode cX4_hasOnlyDays 18 = .ok (.ifCond .ne 5, 3) := by decide +kernel
theorem dX4_hasOnlyDays_21 : decode cX4_hasOnlyDays 21 = .ok (.iconst 0, 1) := by decide +kernel
theorem dX4_hasOnlyDays_22 : decode cX4_hasOnlyDays 22 = .ok (.ireturn, 1) := by decide +kernel
theorem dX4_hasOnlyDays_23 : decode cX4_hasOnlyDays 23 = .ok (.iinc 3 1, 3) := by decide +kernel
theorem dX4_hasOnlyDays_26 : decode cX4_hasOnlyDays 26 = .ok (.goto (-24), 3) := by decide +kernel
theorem dX4_hasOnlyDays_29 : decode cX4_hasOnlyDays 29 = .ok (.iconst 1, 1) := by decide +kernel
theorem dX4_hasOnlyDays_30 : decode cX4_hasOnlyDays 30 = .ok (.ireturn, 1) := by decide +kernel
theorem dX5_init_0 : decode cX5_init 0 = .ok (.aload_n 0, 1) := by decide +kernel
theorem dX5_init_1 : decode cX5_init 1 = .ok (.invokespecial 3, 3) := by decide +kernel
theorem dX5_init_4 : decode cX5_init 4 = .ok (.aload_n 0, 1) := by decide +kernel
theorem dX5_init_5 : decode cX5_init 5 = .ok (.bipush 26, 2) := by decide +kernel
theorem dX5_init_7 : decode cX5_init 7 = .ok (.newarray .int, 2) := by decide +kernel
theorem dX5_init_9 : decode cX5_init 9 = .ok (.putfield 9, 3) := by decide +kernel
theorem dX5_init_12 : decode cX5_init 12 = .ok (.aload_n 0, 1) := by decide +kernel
theorem dX5_init_13 : decode cX5_init 13 = .ok (.bipush 10, 2) := by decide +kernel
theorem dX5_init_15 : decode cX5_init 15 = .ok (.newarray .long, 2) := by decide +kernel
theorem dX5_init_17 : decode cX5_init 17 = .ok (.putfield 15, 3) := by decide +kernel
theorem dX5_init_20 : decode cX5_init 20 = .ok (.aload_n 0, 1) := by decide +kernel
theorem dX5_init_21 : decode cX5_init 21 = .ok (.iconst 0, 1) := by decide +kernel
theorem dX5_init_22 : decode cX5_init 22 = .ok (.putfield 19, 3) := by decide +kernel
theorem dX5_init_25 : decode cX5_init 25 = .ok (.aload_n 0, 1) := by decide +kernel
theorem dX5_init_26 : decode cX5_init 26 = .ok (.bipush 16, 2) := by decide +kernel
theorem dX5_init_28 : decode cX5_init 28 = .ok (.newarray .int, 2) := by decide +kernel
theorem dX5_init_30 : decode cX5_init 30 = .ok (.putfield 23, 3) := by decide +kernel
theorem dX5_init_33 : decode cX5_init 33 = .ok (.aload_n 0, 1) := by decide +kernel
theorem dX5_init_34 : decode cX5_init 34 = .ok (.bipush 16, 2) := by decide +kernel
theorem dX5_init_36 : decode cX5_init 36 = .ok (.newarray .long, 2) := by decide +kernel
theorem dX5_init_38 : decode cX5_init 38 = .ok (.putfield 26, 3) := by decide +kernel
theorem dX5_init_41 : decode cX5_init 41 = .ok (.aload_n 0, 1) := by decide +kernel
theorem dX5_init_42 : decode cX5_init 42 = .ok (.bipush 16, 2) := by decide +kernel
theorem dX5_init_44 : decode cX5_init 44 = .ok (.newarray .int, 2) := by decide +kernel
theorem dX5_init_46 : decode cX5_init 46 = .ok (.putfield 29, 3) := by decide +kernel
theorem dX5_init_49 : decode cX5_init 49 = .ok (.aload_n 0, 1) := by decide +kernel
theorem dX5_init_50 : decode cX5_init 50 = .ok (.bipush 16, 2) := by decide +kernel
theorem dX5_init_52 : decode cX5_init 52 = .ok (.newarray .int, 2) := by decide +kernel
theorem dX5_init_54 : decode cX5_init 54 = .ok (.putfield 32, 3) := by decide +kernel
theorem dX5_init_57 : decode cX5_init 57 = .ok (.aload_n 0, 1) := by decide +kernel
theorem dX5_init_58 : decode cX5_init 58 = .ok (.bipush 16, 2) := by decide +kernel
theorem dX5_init_60 : decode cX5_init 60 = .ok (.newarray .int, 2) := by decide +kernel
theorem dX5_init_62 : decode cX5_init 62 = .ok (.putfield 35, 3) := by decide +kernel
theorem dX5_init_65 : decode cX5_init 65 = .ok (.aload_n 0, 1) := by decide +kernel
theorem dX5_init_66 : decode cX5_init 66 = .ok (.iconst 0, 1) := by decide +kernel
theorem dX5_init_67 : decode cX5_init 67 = .ok (.putfield 38, 3) := by decide +kernel
theorem dX5_init_70 : decode cX5_init 70 = .ok (.aload_n 0, 1) := by decide +kernel
theorem dX5_init_71 : decode cX5_init 71 = .ok (.bipush 6, 2) := by decide +kernel
theorem dX5_init_73 : decode cX5_init 73 = .ok (.newarray .int, 2) := by decide +kernel
theorem dX5_init_75 : decode cX5_init 75 = .ok (.putfield 41, 3) := by decide +kernel
theorem dX5_init_78 : decode cX5_init 78 = .ok (.aload_n 0, 1) := by decide +kernel
theorem dX5_init_79 : decode cX5_init 79 = .ok (.bipush 6, 2) := by decide +kernel
theorem dX5_init_81 : decode cX5_init 81 = .ok (.newarray .int, 2) := by decide +kernel
theorem dX5_init_83 : decode cX5_init 83 = .ok (.putfield 44, 3) := by decide +kernel
theorem dX5_init_86 : decode cX5_init 86 = .ok (.aload_n 0, 1) := by decide +kernel
theorem dX5_init_87 : decode cX5_init 87 = .ok (.iconst 0, 1) := by decide +kernel
theorem dX5_init_88 : decode cX5_init 88 = .ok (.putfield 47, 3) := by decide +kernel
theorem dX5_init_91 : decode cX5_init 91 = .ok (.aload_n 0, 1) := by decide +kernel
theorem dX5_init_92 : decode cX5_init 92 = .ok (.iconst 3, 1) := by decide +kernel
theorem dX5_init_93 : decode cX5_init 93 = .ok (.putfield 50, 3) := by decide +kernel
theorem dX5_init_96 : decode cX5_init 96 = .ok (.iconst 0, 1) := by decide +kernel
theorem dX5_init_97 : decode cX5_init 97 = .ok (.istore_n 1, 1) := by decide +kernel
theorem dX5_init_98 : decode cX5_init 98 = .ok (.iload_n 1, 1) := by decide +kernel
theorem dX5_init_99 : decode cX5_init 99 = .ok (.bipush 26, 2) := by decide +kernel
theorem dX5_init_101 : decode cX5_init 101 = .ok (.if_icmp .ge 18, 3) := by decide +kernel
theorem dX5_init_104 : decode cX5_init 104 = .ok (.aload_n 0, 1) := by decide +kernel
theorem dX5_init_105 : decode cX5_init 105 = .ok (.getfield 9, 3) := by decide +kernel
theorem dX5_init_108 : decode cX5_init 108 = .ok (.iload_n 1, 1) := by decide +kernel
theorem dX5_init_109 : decode cX5_init 109 = .ok (.iload_n 1, 1) := by decide +kernel
theorem dX5_init_110 : decode cX5_init 110 = .ok (.iconst 1, 1) := by decide +kernel
theorem dX5_init_111 : decode cX5_init 111 = .ok (.iadd, 1) := by decide +kernel
theorem dX5_init_112 : decode cX5_init 112 = .ok (.iastore, 1) := by decide +kernel
theorem dX5_init_113 : decode cX5_init 113 = .ok (.iinc 1 1, 3) := by decide +kernel
theorem dX5_init_116 : decode cX5_init 116 = .ok (.goto (-18), 3) := by decide +kernel
theorem dX5_init_119 : decode cX5_init 119 = .ok (.return_, 1) := by decide +kernel
theorem dX5_takeFrom_0 : decode cX5_takeFrom 0 = .ok (.aload_n 1, 1) := by decide +kernel
theorem dX5_takeFrom_1 : decode cX5_takeFrom 1 = .ok (.getfield 9, 3) := by decide +kernel
theorem dX5_takeFrom_4 : decode cX5_takeFrom 4 = .ok (.iconst 0, 1) := by decide +kernel
theorem dX5_takeFrom_5 : decode cX5_takeFrom 5 = .ok (.aload_n 0, 1) := by decide +kernel
theorem dX5_takeFrom_6 : decode cX5_takeFrom 6 = .ok (.getfield 9, 3) := by decide +kernel
theorem dX5_takeFrom_9 : decode cX5_takeFrom 9 = .ok (.iconst 0, 1) := by decide +kernel
theorem dX5_takeFrom_10 : decode cX5_takeFrom 10 = .ok (.bipush 26, 2) := by decide +kernel
theorem dX5_takeFrom_12 : decode cX5_takeFrom 12 = .ok (.invokestatic 53, 3) := by decide +kernel
theorem dX5_takeFrom_15 : decode cX5_takeFrom 15 = .ok (.aload_n 1, 1) := by decide +kernel
theorem dX5_takeFrom_16 : decode cX5_takeFrom 16 = .ok (.getfield 15, 3) := by decide +kernel
theorem dX5_takeFrom_19 : decode cX5_takeFrom 19 = .ok (.iconst 0, 1) := by decide +kernel
theorem dX5_takeFrom_20 : decode cX5_takeFrom 20 = .ok (.aload_n 0, 1) := by decide +kernel
theorem dX5_takeFrom_21 : decode cX5_takeFrom 21 = .ok (.getfield 15, 3) := by decide +kernel
theorem dX5_takeFrom_24 : decode cX5_takeFrom 24 = .ok (.iconst 0, 1) := by decide +kernel
theorem dX5_takeFrom_25 : decode cX5_takeFrom 25 = .ok (.bipush 10, 2) := by decide +kernel
theorem dX5_takeFrom_27 : decode cX5_takeFrom 27 = .ok (.invokestatic 53, 3) := by decide +kernel
theorem dX5_takeFrom_30 : decode cX5_takeFrom 30 = .ok (.aload_n 0, 1) := by decide +kernel
theorem dX5_takeFrom_31 : decode cX5_takeFrom 31 = .ok (.aload_n 1, 1) := by decide +kernel
theorem dX5_takeFrom_32 : decode cX5_takeFrom 32 = .ok (.getfield 19, 3) := by decide +kernel
theorem dX5_takeFrom_35 : decode cX5_takeFrom 35 = .ok (.putfield 19, 3) := by decide +kernel
theorem dX5_takeFrom_38 : decode cX5_takeFrom 38 = .ok (.aload_n 1, 1) := by decide +kernel
theorem dX5_takeFrom_39 : decode cX5_takeFrom 39 = .ok (.getfield 23, 3) := by decide +kernel
theorem dX5_takeFrom_42 : decode cX5_takeFrom 42 = .ok (.iconst 0, 1) := by decide +kernel
theorem dX5_takeFrom_43 : decode cX5_takeFrom 43 = .ok (.aload_n 0, 1) := by decide +kernel
theorem dX5_takeFrom_44 : decode cX5_takeFrom 44 = .ok (.getfield 23, 3) := by decide +kernel
theorem dX5_takeFrom_47 : decode cX5_takeFrom 47 = .ok (.iconst 0, 1) := by decide +kernel
theorem dX5_takeFrom_48 : decode cX5_takeFrom 48 = .ok (.bipush 16, 2) := by decide +kernel
theorem dX5_takeFrom_50 : decode cX5_takeFrom 50 = .ok (.invokestatic 53, 3) := by decide +kernel
theorem dX5_takeFrom_53 : decode cX5_takeFrom 53 = .ok (.aload_n 1, 1) := by decide +kernel
theorem dX5_takeFrom_54 : decode cX5_takeFrom 54 = .ok (.getfield 26, 3) := by decide +kernel
theorem dX5_takeFrom_57 : decode cX5_takeFrom 57 = .ok (.iconst 0, 1) := by decide +kernel
theorem dX5_takeFrom_58 : decode cX5_takeFrom 58 = .ok (.aload_n 0, 1) := by decide +kernel
theorem dX5_takeFrom_59 : decode cX5_takeFrom 59 = .ok (.getfield 26, 3) := by decide +kernel
theorem dX5_takeFrom_62 : decode cX5_takeFrom 62 = .ok (.iconst 0, 1) := by decide +kernel
theorem dX5_takeFrom_63 : decode cX5_takeFrom 63 = .ok (.bipush 16, 2) := by decide +kernel
theorem dX5_takeFrom_65 : decode cX5_takeFrom 65 = .ok (.invokestatic 53, 3) := by decide +kernel
theorem dX5_takeFrom_68 : decode cX5_takeFrom 68 = .ok (.aload_n 1, 1) := by decide +kernel
theorem dX5_takeFrom_69 : decode cX5_takeFrom 69 = .ok (.getfield 29, 3) := by decide +kernel
theorem dX5_takeFrom_72 : decode cX5_takeFrom 72 = .ok (.iconst 0, 1) := by decide +kernel
theorem dX5_takeFrom_73 : decode cX5_takeFrom 73 = .ok (.aload_n 0, 1) := by decide +kernel
theorem dX5_takeFrom_74 : decode cX5_takeFrom 74 = .ok (.getfield 29, 3) := by decide +kernel
theorem dX5_takeFrom_77 : decode cX5_takeFrom 77 = .ok (.iconst 0, 1) := by decide +kernel
theorem dX5_takeFrom_78 : decode cX5_takeFrom 78 = .ok (.bipush 16, 2) := by decide +kernel
theorem dX5_takeFrom_80 : decode cX5_takeFrom 80 = .ok (.invokestatic 53, 3) := by decide +kernel
theorem dX5_takeFrom_83 : decode cX5_takeFrom 83 = .ok (.aload_n 1, 1) := by decide +kernel
theorem dX5_takeFrom_84 : decode cX5_takeFrom 84 = .ok (.getfield 32, 3) := by decide +kernel
theorem dX5_takeFrom_87 : decode cX5_takeFrom 87 = .ok (.iconst 0, 1) := by decide +kernel
theorem dX5_takeFrom_88 : decode cX5_takeFrom 88 = .ok (.aload_n 0, 1) := by decide +kernel
theorem dX5_takeFrom_89 : decode cX5_takeFrom 89 = .ok (.getfield 32, 3) := by decide +kernel
theorem dX5_takeFrom_92 : decode cX5_takeFrom 92 = .ok (.iconst 0, 1) := by decide +kernel
theorem dX5_takeFrom_93 : decode cX5_takeFrom 93 = .ok (.bipush 16, 2) := by decide +kernel
theorem dX5_takeFrom_95 : decode cX5_takeFrom 95 = .ok (.invokestatic 53, 3) := by decide +kernel
theorem dX5_takeFrom_98 : decode cX5_takeFrom 98 = .ok (.aload_n 1, 1) := by decide +kernel
theorem dX5_takeFrom_99 : decode cX5_takeFrom 99 = .ok (.getfield 35, 3) := by decide +kernel
theorem dX5_takeFrom_102 : decode cX5_takeFrom 102 = .ok (.iconst 0, 1) := by decide +kernel
theorem dX5_takeFrom_103 : decode cX5_takeFrom 103 = .ok (.aload_n 0, 1) := by decide +kernel
theorem dX5_takeFrom_104 : decode cX5_takeFrom 104 = .ok (.getfield 35, 3) := by decide +kernel
theorem dX5_takeFrom_107 : decode cX5_takeFrom 107 = .ok (.iconst 0, 1) := by decide +kernel
theorem dX5_takeFrom_108 : decode cX5_takeFrom 108 = .ok (.bipush 16, 2) := by decide +kernel
theorem dX5_takeFrom_110 : decode cX5_takeFrom 110 = .ok (.invokestatic 53, 3) := by decide +kernel
theorem dX5_takeFrom_113 : decode cX5_takeFrom 113 = .ok (.aload_n 0, 1) := by decide +kernel
theorem dX5_takeFrom_114 : decode cX5_takeFrom 114 = .ok (.aload_n 1, 1) := by decide +kernel
theorem dX5_takeFrom_115 : decode cX5_takeFrom 115 = .ok (.getfield 38, 3) := by decide +kernel
theorem dX5_takeFrom_118 : decode cX5_takeFrom 118 = .ok (.putfield 38, 3) := by decide +kernel
theorem dX5_takeFrom_121 : decode cX5_takeFrom 121 = .ok (.aload_n 1, 1) := by decide +kernel
theorem dX5_takeFrom_122 : decode cX5_takeFrom 122 = .ok (.getfield 41, 3) := by decide +kernel
theorem dX5_takeFrom_125 : decode cX5_takeFrom 125 = .ok (.iconst 0, 1) := by decide +kernel
theorem dX5_takeFrom_126 : decode cX5_takeFrom 126 = .ok (.aload_n 0, 1) := by decide +kernel
theorem dX5_takeFrom_127 : decode cX5_takeFrom 127 = .ok (.getfield 41, 3) := by decide +kernel
theorem dX5_takeFrom_130 : decode cX5_takeFrom 130 = .ok (.iconst 0, 1) := by decide +kernel
theorem dX5_takeFrom_131 : decode cX5_takeFrom 131 = .ok (.bipush 6, 2) := by decide +kernel
theorem dX5_takeFrom_133 : decode cX5_takeFrom 133 = .ok (.invokestatic 53, 3) := by decide +kernel
theorem dX5_takeFrom_136 : decode cX5_takeFrom 136 = .ok (.aload_n 1, 1) := by decide +kernel
theorem dX5_takeFrom_137 : decode cX5_takeFrom 137 = .ok (.getfield 44, 3) := by decide +kernel
theorem dX5_takeFrom_140 : decode cX5_takeFrom 140 = .ok (.iconst 0, 1) := by decide +kernel
theorem dX5_takeFrom_141 : decode cX5_takeFrom 141 = .ok (.aload_n 0, 1) := by decide +kernel
theorem dX5_takeFrom_142 : decode cX5_takeFrom 142 = .ok (.getfield 44, 3) := by decide +kernel
theorem dX5_takeFrom_145 : decode cX5_takeFrom 145 = .ok (.iconst 0, 1) := by decide +kernel
theorem dX5_takeFrom_146 : decode cX5_takeFrom 146 = .ok (.bipush 6, 2) := by decide +kernel
theorem dX5_takeFrom_148 : decode cX5_takeFrom 148 = .ok (.invokestatic 53, 3) := by decide +kernel
theorem dX5_takeFrom_151 : decode cX5_takeFrom 151 = .ok (.aload_n 0, 1) := by decide +kernel
theorem dX5_takeFrom_152 : decode cX5_takeFrom 152 = .ok (.aload_n 1, 1) := by decide +kernel
theorem dX5_takeFrom_153 : decode cX5_takeFrom 153 = .ok (.getfield 47, 3) := by decide +kernel
theorem dX5_takeFrom_156 : decode cX5_takeFrom 156 = .ok (.putfield 47, 3) := by decide +kernel
theorem dX5_takeFrom_159 : decode cX5_takeFrom 159 = .ok (.aload_n 0, 1) := by decide +kernel
theorem dX5_takeFrom_160 : decode cX5_takeFrom 160 = .ok (.aload_n 1, 1) := by decide +kernel
theorem dX5_takeFrom_161 : decode cX5_takeFrom 161 = .ok (.getfield 50, 3) := by decide +kernel
theorem dX5_takeFrom_164 : decode cX5_takeFrom 164 = .ok (.putfield 50, 3) := by decide +kernel
theorem dX5_takeFrom_167 : decode cX5_takeFrom 167 = .ok (.return_, 1) := by decide +kernel
theorem dX5_forgetAll_0 : decode cX5_forgetAll 0 = .ok (.aload_n 0, 1) := by decide +kernel
theorem dX5_forgetAll_1 : decode cX5_forgetAll 1 = .ok (.iconst 0, 1) := by decide +kernel
theorem dX5_forgetAll_2 : decode cX5_forgetAll 2 = .ok (.putfield 19, 3) := by decide +kernel
theorem dX5_forgetAll_5 : decode cX5_forgetAll 5 = .ok (.aload_n 0, 1) := by decide +kernel
theorem dX5_forgetAll_6 : decode cX5_forgetAll 6 = .ok (.iconst 0, 1) := by decide +kernel
theorem dX5_forgetAll_7 : decode cX5_forgetAll 7 = .ok (.putfield 38, 3) := by decide +kernel
theorem dX5_forgetAll_10 : decode cX5_forgetAll 10 = .ok (.aload_n 0, 1) := by decide +kernel
theorem dX5_forgetAll_11 : decode cX5_forgetAll 11 = .ok (.iconst 0, 1) := by decide +kernel
theorem dX5_forgetAll_12 : decode cX5_forgetAll 12 = .ok (.putfield 47, 3) := by decide +kernel
theorem dX5_forgetAll_15 : decode cX5_forgetAll 15 = .ok (.return_, 1) := by decide +kernel
theorem dX5_addSyllable_0 : decode cX5_addSyllable 0 = .ok (.aload_n 0, 1) := by decide +kernel
theorem dX5_addSyllable_1 : decode cX5_addSyllable 1 = .ok (.getfield 19, 3) := by decide +kernel
theorem dX5_addSyllable_4 : decode cX5_addSyllable 4 = .ok (.bipush 10, 2) := by decide +kernel
theorem dX5_addSyllable_6 : decode cX5_addSyllable 6 = .ok (.if_icmp .ge 11, 3) := by decide +kernel
theorem dX5_addSyllable_9 : decode cX5_addSyllable 9 = .ok (.aload_n 0, 1) := by decide +kernel
theorem dX5_addSyllable_10 : decode cX5_addSyllable 10 = .ok (.lload_n 1, 1) := by decide +kernel
theorem dX5_addSyllable_11 : decode cX5_addSyllable 11 = .ok (.invokevirtual 59, 3) := by decide +kernel
theorem dX5_addSyllable_14 : decode cX5_addSyllable 14 = .ok (.ifCond .eq 5, 3) := by decide +kernel
theorem dX5_addSyllable_17 : decode cX5_addSyllable 17 = .ok (.iconst 0, 1) := by decide +kernel
theorem dX5_addSyllable_18 : decode cX5_addSyllable 18 = .ok (.ireturn, 1) := by decide +kernel
theorem dX5_addSyllable_19 : decode cX5_addSyllable 19 = .ok (.aload_n 0, 1) := by decide +kernel
theorem dX5_addSyllable_20 : decode cX5_addSyllable 20 = .ok (.getfield 15, 3) := by decide +kernel
theorem dX5_addSyllable_23 : decode cX5_addSyllable 23 = .ok (.aload_n 0, 1) := by decide +kernel
theorem dX5_addSyllable_24 : decode cX5_addSyllable 24 = .ok (.getfield 19, 3) := by decide +kernel
theorem dX5_addSyllable_27 : decode cX5_addSyllable 27 = .ok (.lload_n 1, 1) := by decide +kernel
theorem dX5_addSyllable_28 : decode cX5_addSyllable 28 = .ok (.lastore, 1) := by decide +kernel
theorem dX5_addSyllable_29 : decode cX5_addSyllable 29 = .ok (.aload_n 0, 1) := by decide +kernel
theorem dX5_addSyllable_30 : decode cX5_addSyllable 30 = .ok (.dup, 1) := by decide +kernel
theorem dX5_addSyllable_31 : decode cX5_addSyllable 31 = .ok (.getfield 19, 3) := by decide +kernel
theorem dX5_addSyllable_34 : decode cX5_addSyllable 34 = .ok (.iconst 1, 1) := by decide +kernel
theorem dX5_addSyllable_35 : decode cX5_addSyllable 35 = .ok (.iadd, 1) := by decide +kernel
theorem dX5_addSyllable_36 : decode cX5_addSyllable 36 = .ok (.putfield 19, 3) := by decide +kernel
theorem dX5_addSyllable_39 : decode cX5_addSyllable 39 = .ok (.iconst 1, 1) := by decide +kernel
theorem dX5_addSyllable_40 : decode cX5_addSyllable 40 = .ok (.ireturn, 1) := by decide +kernel
theorem dX5_addPerson_0 : decode cX5_addPerson 0 = .ok (.aload_n 0, 1) := by decide +kernel
theorem dX5_addPerson_1 : decode cX5_addPerson 1 = .ok (.getfield 38, 3) := by decide +kernel
theorem dX5_addPerson_4 : decode cX5_addPerson 4 = .ok (.bipush 16, 2) := by decide +kernel
theorem dX5_addPerson_6 : decode cX5_addPerson 6 = .ok (.if_icmp .lt 4, 3) := by decide +kernel
theorem dX5_addPerson_9 : decode cX5_addPerson 9 = .ok (.return_, 1) := by decide +kernel
theorem dX5_addPerson_10 : decode cX5_addPerson 10 = .ok (.aload_n 0, 1) := by decide +kernel
theorem dX5_addPerson_11 : decode cX5_addPerson 11 = .ok (.getfield 35, 3) := by decide +kernel
theorem dX5_addPerson_14 : decode cX5_addPerson 14 = .ok (.aload_n 0, 1) := by decide +kernel
theorem dX5_addPerson_15 : decode cX5_addPerson 15 = .ok (.getfield 38, 3) := by decide +kernel
theorem dX5_addPerson_18 : decode cX5_addPerson 18 = .ok (.aload_n 0, 1) := by decide +kernel
theorem dX5_addPerson_19 : decode cX5_addPerson 19 = .ok (.iload_n 1, 1) := by decide +kernel
theorem dX5_addPerson_20 : decode cX5_addPerson 20 = .ok (.iload_n 2, 1) := by decide +kernel
theorem dX5_addPerson_21 : decode cX5_addPerson 21 = .ok (.iload_n 3, 1) := by decide +kernel
theorem dX5_addPerson_22 : decode cX5_addPerson 22 = .ok (.invokevirtual 63, 3) := by decide +kernel
theorem dX5_addPerson_25 : decode cX5_addPerson 25 = .ok (.iastore, 1) := by decide +kernel
theorem dX5_addPerson_26 : decode cX5_addPerson 26 = .ok (.aload_n 0, 1) := by decide +kernel
theorem dX5_addPerson_27 : decode cX5_addPerson 27 = .ok (.getfield 29, 3) := by decide +kernel
theorem dX5_addPerson_30 : decode cX5_addPerson 30 = .ok (.aload_n 0, 1) := by decide +kernel
theorem dX5_addPerson_31 : decode cX5_addPerson 31 = .ok (.getfield 38, 3) := by decide +kernel
theorem dX5_addPerson_34 : decode cX5_addPerson 34 = .ok (.iload_n 1, 1) := by decide +kernel
theorem dX5_addPerson_35 : decode cX5_addPerson 35 = .ok (.iastore, 1) := by decide +kernel
theorem dX5_addPerson_36 : decode cX5_addPerson 36 = .ok (.aload_n 0, 1) := by decide +kernel
theorem dX5_addPerson_37 : decode cX5_addPerson 37 = .ok (.getfield 32, 3) := by decide +kernel
theorem dX5_addPerson_40 : decode cX5_addPerson 40 = .ok (.aload_n 0, 1) := by decide +kernel
theorem dX5_addPerson_41 : decode cX5_addPerson 41 = .ok (.getfield 38, 3) := by decide +kernel
theorem dX5_addPerson_44 : decode cX5_addPerson 44 = .ok (.iload_n 2, 1) := by decide +kernel
theorem dX5_addPerson_45 : decode cX5_addPerson 45 = .ok (.iastore, 1) := by decide +kernel
theorem dX5_addPerson_46 : decode cX5_addPerson 46 = .ok (.aload_n 0, 1) := by decide +kernel
theorem dX5_addPerson_47 : decode cX5_addPerson 47 = .ok (.getfield 23, 3) := by decide +kernel
theorem dX5_addPerson_50 : decode cX5_addPerson 50 = .ok (.aload_n 0, 1) := by decide +kernel
theorem dX5_addPerson_51 : decode cX5_addPerson 51 = .ok (.getfield 38, 3) := by decide +kernel
theorem dX5_addPerson_54 : decode cX5_addPerson 54 = .ok (.iload_n 3, 1) := by decide +kernel
theorem dX5_addPerson_55 : decode cX5_addPerson 55 = .ok (.iastore, 1) := by decide +kernel
theorem dX5_addPerson_56 : decode cX5_addPerson 56 = .ok (.aload_n 0, 1) := by decide +kernel
theorem dX5_addPerson_57 : decode cX5_addPerson 57 = .ok (.getfield 26, 3) := by decide +kernel
theorem dX5_addPerson_60 : decode cX5_addPerson 60 = .ok (.aload_n 0, 1) := by decide +kernel
theorem dX5_addPerson_61 : decode cX5_addPerson 61 = .ok (.getfield 38, 3) := by decide +kernel
theorem dX5_addPerson_64 : decode cX5_addPerson 64 = .ok (.lload 4, 2) := by decide +kernel
theorem dX5_addPerson_66 : decode cX5_addPerson 66 = .ok (.lastore, 1) := by decide +kernel
theorem dX5_addPerson_67 : decode cX5_addPerson 67 = .ok (.aload_n 0, 1) := by decide +kernel
theorem dX5_addPerson_68 : decode cX5_addPerson 68 = .ok (.dup, 1) := by decide +kernel
theorem dX5_addPerson_69 : decode cX5_addPerson 69 = .ok (.getfield 38, 3) := by decide +kernel
theorem dX5_addPerson_72 : decode cX5_addPerson 72 = .ok (.iconst 1, 1) := by decide +kernel
theorem dX5_addPerson_73 : decode cX5_addPerson 73 = .ok (.iadd, 1) := by decide +kernel
theorem dX5_addPerson_74 : decode cX5_addPerson 74 = .ok (.putfield 38, 3) := by decide +kernel
theorem dX5_addPerson_77 : decode cX5_addPerson 77 = .ok (.return_, 1) := by decide +kernel
theorem dX5_kindOf_0 : decode cX5_kindOf 0 = .ok (.iload_n 1, 1) := by decide +kernel
theorem dX5_kindOf_1 : decode cX5_kindOf 1 = .ok (.iconst (-1), 1) := by decide +kernel
theorem dX5_kindOf_2 : decode cX5_kindOf 2 = .ok (.if_icmp .ne 5, 3) := by decide +kernel
theorem dX5_kindOf_5 : decode cX5_kindOf 5 = .ok (.iconst 0, 1) := by decide +kernel
theorem dX5_kindOf_6 : decode cX5_kindOf 6 = .ok (.ireturn, 1) := by decide +kernel
theorem dX5_kindOf_7 : decode cX5_kindOf 7 = .ok (.iconst 0, 1) := by decide +kernel
theorem dX5_kindOf_8 : decode cX5_kindOf 8 = .ok (.istore 4, 2) := by decide +kernel
theorem dX5_kindOf_10 : decode cX5_kindOf 10 = .ok (.iload 4, 2) := by decide +kernel
theorem dX5_kindOf_12 : decode cX5_kindOf 12 = .ok (.aload_n 0, 1) := by decide +kernel
theorem dX5_kindOf_13 : decode cX5_kindOf 13 = .ok (.getfield 38, 3) := by decide +kernel
theorem dX5_kindOf_16 : decode cX5_kindOf 16 = .ok (.if_icmp .ge 90, 3) := by decide +kernel
theorem dX5_kindOf_19 : decode cX5_kindOf 19 = .ok (.aload_n 0, 1) := by decide +kernel
theorem dX5_kindOf_20 : decode cX5_kindOf 20 = .ok (.getfield 29, 3) := by decide +kernel
theorem dX5_kindOf_23 : decode cX5_kindOf 23 = .ok (.iload 4, 2) := by decide +kernel
theorem dX5_kindOf_25 : decode cX5_kindOf 25 = .ok (.iaload, 1) := by decide +kernel
theorem dX5_kindOf_26 : decode cX5_kindOf 26 = .ok (.iload_n 1, 1) := by decide +kernel
theorem dX5_kindOf_27 : decode cX5_kindOf 27 = .ok (.if_icmp .ne 18, 3) := by decide +kernel
theorem dX5_kindOf_30 : decode cX5_kindOf 30 = .ok (.aload_n 0, 1) := by decide +kernel
theorem dX5_kindOf_31 : decode cX5_kindOf 31 = .ok (.getfield 32, 3) := by decide +kernel
theorem dX5_kindOf_34 : decode cX5_kindOf 34 = .ok (.iload 4, 2) := by decide +kernel
theorem dX5_kindOf_36 : decode cX5_kindOf 36 = .ok (.iaload, 1) := by decide +kernel
theorem dX5_kindOf_37 : decode cX5_kindOf 37 = .ok (.iload_n 2, 1) := by decide +kernel
theorem dX5_kindOf_38 : decode cX5_kindOf 38 = .ok (.if_icmp .ne 7, 3) := by decide +kernel
theorem dX5_kindOf_41 : decode cX5_kindOf 41 = .ok (.iconst 1, 1) := by decide +kernel
theorem dX5_kindOf_42 : decode cX5_kindOf 42 = .ok (.goto 4, 3) := by decide +kernel
theorem dX5_kindOf_45 : decode cX5_kindOf 45 = .ok (.iconst 0, 1) := by decide +kernel
theorem dX5_kindOf_46 : decode cX5_kindOf 46 = .ok (.istore 5, 2) := by decide +kernel
theorem dX5_kindOf_48 : decode cX5_kindOf 48 = .ok (.aload_n 0, 1) := by decide +kernel
theorem dX5_kindOf_49 : decode cX5_kindOf 49 = .ok (.getfield 29, 3) := by decide +kernel
theorem dX5_kindOf_52 : decode cX5_kindOf 52 = .ok (.iload 4, 2) := by decide +kernel
theorem dX5_kindOf_54 : decode cX5_kindOf 54 = .ok (.iaload, 1) := by decide +kernel
theorem dX5_kindOf_55 : decode cX5_kindOf 55 = .ok (.iload_n 2, 1) := by decide +kernel
theorem dX5_kindOf_56 : decode cX5_kindOf 56 = .ok (.if_icmp .ne 18, 3) := by decide +kernel
theorem dX5_kindOf_59 : decode cX5_kindOf 59 = .ok (.aload_n 0, 1) := by decide +kernel
theorem dX5_kindOf_60 : decode cX5_kindOf 60 = .ok (.getfield 32, 3) := by decide +kernel
theorem dX5_kindOf_63 : decode cX5_kindOf 63 = .ok (.iload 4, 2) := by decide +kernel
theorem dX5_kindOf_65 : decode cX5_kindOf 65 = .ok (.iaload, 1) := by decide +kernel
theorem dX5_kindOf_66 : decode cX5_kindOf 66 = .ok (.iload_n 1, 1) := by decide +kernel
theorem dX5_kindOf_67 : decode cX5_kindOf 67 = .ok (.if_icmp .ne 7, 3) := by decide +kernel
theorem dX5_kindOf_70 : decode cX5_kindOf 70 = .ok (.iconst 1, 1) := by decide +kernel
theorem dX5_kindOf_71 : decode cX5_kindOf 71 = .ok (.goto 4, 3) := by decide +kernel
theorem dX5_kindOf_74 : decode cX5_kindOf 74 = .ok (.iconst 0, 1) := by decide +kernel
theorem dX5_kindOf_75 : decode cX5_kindOf 75 = .ok (.istore 6, 2) := by decide +kernel
theorem dX5_kindOf_77 : decode cX5_kindOf 77 = .ok (.aload_n 0, 1) := by decide +kernel
theorem dX5_kindOf_78 : decode cX5_kindOf 78 = .ok (.getfield 23, 3) := by decide +kernel
theorem dX5_kindOf_81 : decode cX5_kindOf 81 = .ok (.iload 4, 2) := by decide +kernel
theorem dX5_kindOf_83 : decode cX5_kindOf 83 = .ok (.iaload, 1) := by decide +kernel
theorem dX5_kindOf_84 : decode cX5_kindOf 84 = .ok (.iload_n 3, 1) := by decide +kernel
theorem dX5_kindOf_85 : decode cX5_kindOf 85 = .ok (.if_icmp .ne 15, 3) := by decide +kernel
theorem dX5_kindOf_88 : decode cX5_kindOf 88 = .ok (.iload 5, 2) := by decide +kernel
theorem dX5_kindOf_90 : decode cX5_kindOf 90 = .ok (.ifCond .ne 8, 3) := by decide +kernel
theorem dX5_kindOf_93 : decode cX5_kindOf 93 = .ok (.iload 6, 2) := by decide +kernel
theorem dX5_kindOf_95 : decode cX5_kindOf 95 = .ok (.ifCond .eq 5, 3) := by decide +kernel
theorem dX5_kindOf_98 : decode cX5_kindOf 98 = .ok (.iconst 2, 1) := by decide +kernel
theorem dX5_kindOf_99 : decode cX5_kindOf 99 = .ok (.ireturn, 1) := by decide +kernel
theorem dX5_kindOf_100 : decode cX5_kindOf 100 = .ok (.iinc 4 1, 3) := by decide +kernel
theorem dX5_kindOf_103 : decode cX5_kindOf 103 = .ok (.goto (-93), 3) := by decide +kernel
theorem dX5_kindOf_106 : decode cX5_kindOf 106 = .ok (.iconst 1, 1) := by decide +kernel
theorem dX5_kindOf_107 : decode cX5_kindOf 107 = .ok (.ireturn, 1) := by decide +kernel
theorem dX5_addHope_0 : decode cX5_addHope 0 = .ok (.aload_n 0, 1) := by decide +kernel
theorem dX5_addHope_1 : decode cX5_addHope 1 = .ok (.getfield 47, 3) := by decide +kernel
theorem dX5_addHope_4 : decode cX5_addHope 4 = .ok (.bipush 6, 2) := by decide +kernel
theorem dX5_addHope_6 : decode cX5_addHope 6 = .ok (.if_icmp .lt 4, 3) := by decide +kernel
theorem dX5_addHope_9 : decode cX5_addHope 9 = .ok (.return_, 1) := by decide +kernel
theorem dX5_addHope_10 : decode cX5_addHope 10 = .ok (.aload_n 0, 1) := by decide +kernel
theorem dX5_addHope_11 : decode cX5_addHope 11 = .ok (.getfield 41, 3) := by decide +kernel
theorem dX5_addHope_14 : decode cX5_addHope 14 = .ok (.aload_n 0, 1) := by decide +kernel
theorem dX5_addHope_15 : decode cX5_addHope 15 = .ok (.getfield 47, 3) := by decide +kernel
theorem dX5_addHope_18 : decode cX5_addHope 18 = .ok (.iload_n 1, 1) := by decide +kernel
theorem dX5_addHope_19 : decode cX5_addHope 19 = .ok (.iastore, 1) := by decide +kernel
theorem dX5_addHope_20 : decode cX5_addHope 20 = .ok (.aload_n 0, 1) := by decide +kernel
theorem dX5_addHope_21 : decode cX5_addHope 21 = .ok (.getfield 44, 3) := by decide +kernel
theorem dX5_addHope_24 : decode cX5_addHope 24 = .ok (.aload_n 0, 1) := by decide +kernel
theorem dX5_addHope_25 : decode cX5_addHope 25 = .ok (.getfield 47, 3) := by decide +kernel
theorem dX5_addHope_28 : decode cX5_addHope 28 = .ok (.iload_n 2, 1) := by decide +kernel
theorem dX5_addHope_29 : decode cX5_addHope 29 = .ok (.iastore, 1) := by decide +kernel
theorem dX5_addHope_30 : decode cX5_addHope 30 = .ok (.aload_n 0, 1) := by decide +kernel
theorem dX5_addHope_31 : decode cX5_addHope 31 = .ok (.dup, 1) := by decide +kernel
theorem dX5_addHope_32 : decode cX5_addHope 32 = .ok (.getfield 47, 3) := by decide +kernel
theorem dX5_addHope_35 : decode cX5_addHope 35 = .ok (.iconst 1, 1) := by decide +kernel
theorem dX5_addHope_36 : decode cX5_addHope 36 = .ok (.iadd, 1) := by decide +kernel
theorem dX5_addHope_37 : decode cX5_addHope 37 = .ok (.putfield 47, 3) := by decide +kernel
theorem dX5_addHope_40 : decode cX5_addHope 40 = .ok (.return_, 1) := by decide +kernel
theorem dX5_isPerson_0 : decode cX5_isPerson 0 = .ok (.iload_n 1, 1) := by decide +kernel
theorem dX5_isPerson_1 : decode cX5_isPerson 1 = .ok (.ifCond .lt 15, 3) := by decide +kernel
theorem dX5_isPerson_4 : decode cX5_isPerson 4 = .ok (.iload_n 1, 1) := by decide +kernel
theorem dX5_isPerson_5 : decode cX5_isPerson 5 = .ok (.aload_n 0, 1) := by decide +kernel
theorem dX5_isPerson_6 : decode cX5_isPerson 6 = .ok (.getfield 38, 3) := by decide +kernel
theorem dX5_isPerson_9 : decode cX5_isPerson 9 = .ok (.if_icmp .ge 7, 3) := by decide +kernel
theorem dX5_isPerson_12 : decode cX5_isPerson 12 = .ok (.iconst 1, 1) := by decide +kernel
theorem dX5_isPerson_13 : decode cX5_isPerson 13 = .ok (.goto 4, 3) := by decide +kernel
theorem dX5_isPerson_16 : decode cX5_isPerson 16 = .ok (.iconst 0, 1) := by decide +kernel
theorem dX5_isPerson_17 : decode cX5_isPerson 17 = .ok (.ireturn, 1) := by decide +kernel
theorem dX5_isSyllable_0 : decode cX5_isSyllable 0 = .ok (.iconst 0, 1) := by decide +kernel
theorem dX5_isSyllable_1 : decode cX5_isSyllable 1 = .ok (.istore_n 3, 1) := by decide +kernel
theorem dX5_isSyllable_2 : decode cX5_isSyllable 2 = .ok (.iload_n 3, 1) := by decide +kernel
theorem dX5_isSyllable_3 : decode cX5_isSyllable 3 = .ok (.aload_n 0, 1) := by decide +kernel
theorem dX5_isSyllable_4 : decode cX5_isSyllable 4 = .ok (.getfield 19, 3) := by decide +kernel
theorem dX5_isSyllable_7 : decode cX5_isSyllable 7 = .ok (.if_icmp .ge 22, 3) := by decide +kernel
theorem dX5_isSyllable_10 : decode cX5_isSyllable 10 = .ok (.aload_n 0, 1) := by decide +kernel
theorem dX5_isSyllable_11 : decode cX5_isSyllable 11 = .ok (.getfield 15, 3) := by decide +kernel
theorem dX5_isSyllable_14 : decode cX5_isSyllable 14 = .ok (.iload_n 3, 1) := by decide +kernel
theorem dX5_isSyllable_15 : decode cX5_isSyllable 15 = .ok (.laload, 1) := by decide +kernel
theorem dX5_isSyllable_16 : decode cX5_isSyllable 16 = .ok (.lload_n 1, 1) := by decide +kernel
theorem dX5_isSyllable_17 : decode cX5_isSyllable 17 = .ok (.lcmp, 1) := by decide +kernel
theorem dX5_isSyllable_18 : decode cX5_isSyllable 18 = .ok (.ifCond .ne 5, 3) := by decide +kernel
theorem dX5_isSyllable_21 : decode cX5_isSyllable 21 = .ok (.iconst 1, 1) := by decide +kernel
theorem dX5_isSyllable_22 : decode cX5_isSyllable 22 = .ok (.ireturn, 1) := by decide +kernel
theorem dX5_isSyllable_23 : decode cX5_isSyllable 23 = .ok (.iinc 3 1, 3) := by decide +kernel
theorem dX5_isSyllable_26 : decode cX5_isSyllable 26 = .ok (.goto (-24), 3) := by decide +kernel
theorem dX5_isSyllable_29 : decode cX5_isSyllable 29 = .ok (.iconst 0, 1) := by decide +kernel
theorem dX5_isSyllable_30 : decode cX5_isSyllable 30 = .ok (.ireturn, 1) := by decide +kernel
theorem dX5_sumOf_0 : decode cX5_sumOf 0 = .ok (.iconst 0, 1) := by decide +kernel
theorem dX5_sumOf_1 : decode cX5_sumOf 1 = .ok (.istore_n 3, 1) := by decide +kernel
theorem dX5_sumOf_2 : decode cX5_sumOf 2 = .ok (.lload_n 1, 1) := by decide +kernel
theorem dX5_sumOf_3 : decode cX5_sumOf 3 = .ok (.lstore 4, 2) := by decide +kernel
theorem dX5_sumOf_5 : decode cX5_sumOf 5 = .ok (.iconst 0, 1) := by decide +kernel
theorem dX5_sumOf_6 : decode cX5_sumOf 6 = .ok (.istore 6, 2) := by decide +kernel
theorem dX5_sumOf_8 : decode cX5_sumOf 8 = .ok (.iload 6, 2) := by decide +kernel
theorem dX5_sumOf_10 : decode cX5_sumOf 10 = .ok (.bipush 9, 2) := by decide +kernel
theorem dX5_sumOf_12 : decode cX5_sumOf 12 = .ok (.if_icmp .ge 49, 3) := by decide +kernel
theorem dX5_sumOf_15 : decode cX5_sumOf 15 = .ok (.lload 4, 2) := by decide +kernel
theorem dX5_sumOf_17 : decode cX5_sumOf 17 = .ok (.lconst 0, 1) := by decide +kernel
theorem dX5_sumOf_18 : decode cX5_sumOf 18 = .ok (.lcmp, 1) := by decide +kernel
theorem dX5_sumOf_19 : decode cX5_sumOf 19 = .ok (.ifCond .le 42, 3) := by decide +kernel
theorem dX5_sumOf_22 : decode cX5_sumOf 22 = .ok (.lload 4, 2) := by decide +kernel
theorem dX5_sumOf_24 : decode cX5_sumOf 24 = .ok (.invokestatic 67, 3) := by decide +kernel
theorem dX5_sumOf_27 : decode cX5_sumOf 27 = .ok (.istore 7, 2) := by decide +kernel
theorem dX5_sumOf_29 : decode cX5_sumOf 29 = .ok (.iload 7, 2) := by decide +kernel
theorem dX5_sumOf_31 : decode cX5_sumOf 31 = .ok (.invokestatic 71, 3) := by decide +kernel
theorem dX5_sumOf_34 : decode cX5_sumOf 34 = .ok (.ifCond .eq 13, 3) := by decide +kernel
theorem dX5_sumOf_37 : decode cX5_sumOf 37 = .ok (.iload_n 3, 1) := by decide +kernel
theorem dX5_sumOf_38 : decode cX5_sumOf 38 = .ok (.aload_n 0, 1) := by decide +kernel
theorem dX5_sumOf_39 : decode cX5_sumOf 39 = .ok (.getfield 9, 3) := by decide +kernel
theorem dX5_sumOf_42 : decode cX5_sumOf 42 = .ok (.iload 7, 2) := by decide +kernel
theorem dX5_sumOf_44 : decode cX5_sumOf 44 = .ok (.iaload, 1) := by decide +kernel
theorem dX5_sumOf_45 : decode cX5_sumOf 45 = .ok (.iadd, 1) := by decide +kernel
theorem dX5_sumOf_46 : decode cX5_sumOf 46 = .ok (.istore_n 3, 1) := by decide +kernel
theorem dX5_sumOf_47 : decode cX5_sumOf 47 = .ok (.lload 4, 2) := by decide +kernel
theorem dX5_sumOf_49 : decode cX5_sumOf 49 = .ok (.ldc2_w 75, 3) := by decide +kernel
theorem dX5_sumOf_52 : decode cX5_sumOf 52 = .ok (.ldiv, 1) := by decide +kernel
theorem dX5_sumOf_53 : decode cX5_sumOf 53 = .ok (.lstore 4, 2) := by decide +kernel
theorem dX5_sumOf_55 : decode cX5_sumOf 55 = .ok (.iinc 6 1, 3) := by decide +kernel
theorem dX5_sumOf_58 : decode cX5_sumOf 58 = .ok (.goto (-50), 3) := by decide +kernel
theorem dX5_sumOf_61 : decode cX5_sumOf 61 = .ok (.iload_n 3, 1) := by decide +kernel
theorem dX5_sumOf_62 : decode cX5_sumOf 62 = .ok (.ireturn, 1) := by decide +kernel
theorem dX5_sumInNames_0 : decode cX5_sumInNames 0 = .ok (.lload_n 1, 1) := by decide +kernel
theorem dX5_sumInNames_1 : decode cX5_sumInNames 1 = .ok (.lstore_n 3, 1) := by decide +kernel
theorem dX5_sumInNames_2 : decode cX5_sumInNames 2 = .ok (.iconst 0, 1) := by decide +kernel
theorem dX5_sumInNames_3 : decode cX5_sumInNames 3 = .ok (.istore 5, 2) := by decide +kernel
theorem dX5_sumInNames_5 : decode cX5_sumInNames 5 = .ok (.iload 5, 2) := by decide +kernel
theorem dX5_sumInNames_7 : decode cX5_sumInNames 7 = .ok (.bipush 9, 2) := by decide +kernel
theorem dX5_sumInNames_9 : decode cX5_sumInNames 9 = .ok (.if_icmp .ge 47, 3) := by decide +kernel
theorem dX5_sumInNames_12 : decode cX5_sumInNames 12 = .ok (.lload_n 3, 1) := by decide +kernel
theorem dX5_sumInNames_13 : decode cX5_sumInNames 13 = .ok (.lconst 0, 1) := by decide +kernel
theorem dX5_sumInNames_14 : decode cX5_sumInNames 14 = .ok (.lcmp, 1) := by decide +kernel
theorem dX5_sumInNames_15 : decode cX5_sumInNames 15 = .ok (.ifCond .le 41, 3) := by decide +kernel
theorem dX5_sumInNames_18 : decode cX5_sumInNames 18 = .ok (.lload_n 3, 1) := by decide +kernel
theorem dX5_sumInNames_19 : decode cX5_sumInNames 19 = .ok (.invokestatic 67, 3) := by decide +kernel
theorem dX5_sumInNames_22 : decode cX5_sumInNames 22 = .ok (.istore 6, 2) := by decide +kernel
theorem dX5_sumInNames_24 : decode cX5_sumInNames 24 = .ok (.iload 6, 2) := by decide +kernel
theorem dX5_sumInNames_26 : decode cX5_sumInNames 26 = .ok (.invokestatic 71, 3) := by decide +kernel
theorem dX5_sumInNames_29 : decode cX5_sumInNames 29 = .ok (.ifCond .eq 13, 3) := by decide +kernel
theorem dX5_sumInNames_32 : decode cX5_sumInNames 32 = .ok (.aload_n 0, 1) := by decide +kernel
theorem dX5_sumInNames_33 : decode cX5_sumInNames 33 = .ok (.getfield 9, 3) := by decide +kernel
theorem dX5_sumInNames_36 : decode cX5_sumInNames 36 = .ok (.iload 6, 2) := by decide +kernel
theorem dX5_sumInNames_38 : decode cX5_sumInNames 38 = .ok (.iaload, 1) := by decide +kernel
theorem dX5_sumInNames_39 : decode cX5_sumInNames 39 = .ok (.ifCond .ne 5, 3) := by decide +kernel
theorem dX5_sumInNames_42 : decode cX5_sumInNames 42 = .ok (.iconst 0, 1) := by decide +kernel
theorem dX5_sumInNames_43 : decode cX5_sumInNames 43 = .ok (.ireturn, 1) := by decide +kernel
theorem dX5_sumInNames_44 : decode cX5_sumInNames 44 = .ok (.lload_n 3, 1) := by decide +kernel
theorem dX5_sumInNames_45 : decode cX5_sumInNames 45 = .ok (.ldc2_w 75, 3) := by decide +kernel
theorem dX5_sumInNames_48 : decode cX5_sumInNames 48 = .ok (.ldiv, 1) := by decide +kernel
theorem dX5_sumInNames_49 : decode cX5_sumInNames 49 = .ok (.lstore_n 3, 1) := by decide +kernel
theorem dX5_sumInNames_50 : decode cX5_sumInNames 50 = .ok (.iinc 5 1, 3) := by decide +kernel
theorem dX5_sumInNames_53 : decode cX5_sumInNames 53 = .ok (.goto (-48), 3) := by decide +kernel
theorem dX5_sumInNames_56 : decode cX5_sumInNames 56 = .ok (.aload_n 0, 1) := by decide +kernel
theorem dX5_sumInNames_57 : decode cX5_sumInNames 57 = .ok (.lload_n 1, 1) := by decide +kernel
theorem dX5_sumInNames_58 : decode cX5_sumInNames 58 = .ok (.invokevirtual 77, 3) := by decide +kernel
theorem dX5_sumInNames_61 : decode cX5_sumInNames 61 = .ok (.ireturn, 1) := by decide +kernel
theorem dX5_isName_0 : decode cX5_isName 0 = .ok (.aload_n 0, 1) := by decide +kernel
theorem dX5_isName_1 : decode cX5_isName 1 = .ok (.lload_n 1, 1) := by decide +kernel
theorem dX5_isName_2 : decode cX5_isName 2 = .ok (.invokevirtual 80, 3) := by decide +kernel
theorem dX5_isName_5 : decode cX5_isName 5 = .ok (.ifCond .le 16, 3) := by decide +kernel
theorem dX5_isName_8 : decode cX5_isName 8 = .ok (.aload_n 0, 1) := by decide +kernel
theorem dX5_isName_9 : decode cX5_isName 9 = .ok (.lload_n 1, 1) := by decide +kernel
theorem dX5_isName_10 : decode cX5_isName 10 = .ok (.iconst 3, 1) := by decide +kernel
theorem dX5_isName_11 : decode cX5_isName 11 = .ok (.invokevirtual 83, 3) := by decide +kernel
theorem dX5_isName_14 : decode cX5_isName 14 = .ok (.ifCond .eq 7, 3) := by decide +kernel
theorem dX5_isName_17 : decode cX5_isName 17 = .ok (.iconst 1, 1) := by decide +kernel
theorem dX5_isName_18 : decode cX5_isName 18 = .ok (.goto 4, 3) := by decide +kernel
theorem dX5_isName_21 : decode cX5_isName 21 = .ok (.iconst 0, 1) := by decide +kernel
theorem dX5_isName_22 : decode cX5_isName 22 = .ok (.ireturn, 1) := by decide +kernel
theorem dX5_isParted_0 : decode cX5_isParted 0 = .ok (.lload_n 1, 1) := by decide +kernel
theorem dX5_isParted_1 : decode cX5_isParted 1 = .ok (.lconst 0, 1) := by decide +kernel
theorem dX5_isParted_2 : decode cX5_isParted 2 = .ok (.lcmp, 1) := by decide +kernel
theorem dX5_isParted_3 : decode cX5_isParted 3 = .ok (.ifCond .ne 5, 3) := by decide +kernel
theorem dX5_isParted_6 : decode cX5_isParted 6 = .ok (.iconst 1, 1) := by decide +kernel
theorem dX5_isParted_7 : decode cX5_isParted 7 = .ok (.ireturn, 1) := by decide +kernel
theorem dX5_isParted_8 : decode cX5_isParted 8 = .ok (.iload_n 3, 1) := by decide +kernel
theorem dX5_isParted_9 : decode cX5_isParted 9 = .ok (.ifCond .ne 5, 3) := by decide +kernel
theorem dX5_isParted_12 : decode cX5_isParted 12 = .ok (.iconst 0, 1) := by decide +kernel
theorem dX5_isParted_13 : decode cX5_isParted 13 = .ok (.ireturn, 1) := by decide +kernel
theorem dX5_isParted_14 : decode cX5_isParted 14 = .ok (.ldc2_w 75, 3) := by decide +kernel
theorem dX5_isParted_17 : decode cX5_isParted 17 = .ok (.lstore 4, 2) := by decide +kernel
theorem dX5_isParted_19 : decode cX5_isParted 19 = .ok (.iconst 1, 1) := by decide +kernel
theorem dX5_isParted_20 : decode cX5_isParted 20 = .ok (.istore 6, 2) := by decide +kernel
theorem dX5_isParted_22 : decode cX5_isParted 22 = .ok (.iload 6, 2) := by decide +kernel
theorem dX5_isParted_24 : decode cX5_isParted 24 = .ok (.iconst 3, 1) := by decide +kernel
theorem dX5_isParted_25 : decode cX5_isParted 25 = .ok (.if_icmp .gt 44, 3) := by decide +kernel
theorem dX5_isParted_28 : decode cX5_isParted 28 = .ok (.aload_n 0, 1) := by decide +kernel
theorem dX5_isParted_29 : decode cX5_isParted 29 = .ok (.lload_n 1, 1) := by decide +kernel
theorem dX5_isParted_30 : decode cX5_isParted 30 = .ok (.lload 4, 2) := by decide +kernel
theorem dX5_isParted_32 : decode cX5_isParted 32 = .ok (.lrem, 1) := by decide +kernel
theorem dX5_isParted_33 : decode cX5_isParted 33 = .ok (.invokevirtual 59, 3) := by decide +kernel
theorem dX5_isParted_36 : decode cX5_isParted 36 = .ok (.ifCond .eq 19, 3) := by decide +kernel
theorem dX5_isParted_39 : decode cX5_isParted 39 = .ok (.aload_n 0, 1) := by decide +kernel
theorem dX5_isParted_40 : decode cX5_isParted 40 = .ok (.lload_n 1, 1) := by decide +kernel
theorem dX5_isParted_41 : decode cX5_isParted 41 = .ok (.lload 4, 2) := by decide +kernel
theorem dX5_isParted_43 : decode cX5_isParted 43 = .ok (.ldiv, 1) := by decide +kernel
theorem dX5_isParted_44 : decode cX5_isParted 44 = .ok (.iload_n 3, 1) := by decide +kernel
theorem dX5_isParted_45 : decode cX5_isParted 45 = .ok (.iconst 1, 1) := by decide +kernel
theorem dX5_isParted_46 : decode cX5_isParted 46 = .ok (.isub, 1) := by decide +kernel
theorem dX5_isParted_47 : decode cX5_isParted 47 = .ok (.invokevirtual 83, 3) := by decide +kernel
theorem dX5_isParted_50 : decode cX5_isParted 50 = .ok (.ifCond .eq 5, 3) := by decide +kernel
theorem dX5_isParted_53 : decode cX5_isParted 53 = .ok (.iconst 1, 1) := by decide +kernel
theorem dX5_isParted_54 : decode cX5_isParted 54 = .ok (.ireturn, 1) := by decide +kernel
theorem dX5_isParted_55 : decode cX5_isParted 55 = .ok (.lload 4, 2) := by decide +kernel
theorem dX5_isParted_57 : decode cX5_isParted 57 = .ok (.ldc2_w 75, 3) := by decide +kernel
theorem dX5_isParted_60 : decode cX5_isParted 60 = .ok (.lmul, 1) := by decide +kernel
theorem dX5_isParted_61 : decode cX5_isParted 61 = .ok (.lstore 4, 2) := by decide +kernel
theorem dX5_isParted_63 : decode cX5_isParted 63 = .ok (.iinc 6 1, 3) := by decide +kernel
theorem dX5_isParted_66 : decode cX5_isParted 66 = .ok (.goto (-44), 3) := by decide +kernel
theorem dX5_isParted_69 : decode cX5_isParted 69 = .ok (.iconst 0, 1) := by decide +kernel
theorem dX5_isParted_70 : decode cX5_isParted 70 = .ok (.ireturn, 1) := by decide +kernel
theorem dX5_addsUp_0 : decode cX5_addsUp 0 = .ok (.aload_n 0, 1) := by decide +kernel
theorem dX5_addsUp_1 : decode cX5_addsUp 1 = .ok (.getfield 26, 3) := by decide +kernel
theorem dX5_addsUp_4 : decode cX5_addsUp 4 = .ok (.iload_n 1, 1) := by decide +kernel
theorem dX5_addsUp_5 : decode cX5_addsUp 5 = .ok (.laload, 1) := by decide +kernel
theorem dX5_addsUp_6 : decode cX5_addsUp 6 = .ok (.lconst 0, 1) := by decide +kernel
theorem dX5_addsUp_7 : decode cX5_addsUp 7 = .ok (.lcmp, 1) := by decide +kernel
theorem dX5_addsUp_8 : decode cX5_addsUp 8 = .ok (.ifCond .eq 26, 3) := by decide +kernel
theorem dX5_addsUp_11 : decode cX5_addsUp 11 = .ok (.aload_n 0, 1) := by decide +kernel
theorem dX5_addsUp_12 : decode cX5_addsUp 12 = .ok (.aload_n 0, 1) := by decide +kernel
theorem dX5_addsUp_13 : decode cX5_addsUp 13 = .ok (.getfield 26, 3) := by decide +kernel
theorem dX5_addsUp_16 : decode cX5_addsUp 16 = .ok (.iload_n 1, 1) := by decide +kernel
theorem dX5_addsUp_17 : decode cX5_addsUp 17 = .ok (.laload, 1) := by decide +kernel
theorem dX5_addsUp_18 : decode cX5_addsUp 18 = .ok (.invokevirtual 77, 3) := by decide +kernel
theorem dX5_addsUp_21 : decode cX5_addsUp 21 = .ok (.aload_n 0, 1) := by decide +kernel
theorem dX5_addsUp_22 : decode cX5_addsUp 22 = .ok (.getfield 23, 3) := by decide +kernel
theorem dX5_addsUp_25 : decode cX5_addsUp 25 = .ok (.iload_n 1, 1) := by decide +kernel
theorem dX5_addsUp_26 : decode cX5_addsUp 26 = .ok (.iaload, 1) := by decide +kernel
theorem dX5_addsUp_27 : decode cX5_addsUp 27 = .ok (.if_icmp .ne 7, 3) := by decide +kernel
theorem dX5_addsUp_30 : decode cX5_addsUp 30 = .ok (.iconst 1, 1) := by decide +kernel
theorem dX5_addsUp_31 : decode cX5_addsUp 31 = .ok (.goto 4, 3) := by decide +kernel
theorem dX5_addsUp_34 : decode cX5_addsUp 34 = .ok (.iconst 0, 1) := by decide +kernel
theorem dX5_addsUp_35 : decode cX5_addsUp 35 = .ok (.ireturn, 1) := by decide +kernel
theorem dX5_faultOfName_0 : decode cX5_faultOfName 0 = .ok (.aload_n 0, 1) := by decide +kernel
theorem dX5_faultOfName_1 : decode cX5_faultOfName 1 = .ok (.getfield 26, 3) := by decide +kernel
theorem dX5_faultOfName_4 : decode cX5_faultOfName 4 = .ok (.iload_n 1, 1) := by decide +kernel
theorem dX5_faultOfName_5 : decode cX5_faultOfName 5 = .ok (.laload, 1) := by decide +kernel
theorem dX5_faultOfName_6 : decode cX5_faultOfName 6 = .ok (.lstore_n 2, 1) := by decide +kernel
theorem dX5_faultOfName_7 : decode cX5_faultOfName 7 = .ok (.lload_n 2, 1) := by decide +kernel
theorem dX5_faultOfName_8 : decode cX5_faultOfName 8 = .ok (.lconst 0, 1) := by decide +kernel
theorem dX5_faultOfName_9 : decode cX5_faultOfName 9 = .ok (.lcmp, 1) := by decide +kernel
theorem dX5_faultOfName_10 : decode cX5_faultOfName 10 = .ok (.ifCond .ne 5, 3) := by decide +kernel
theorem dX5_faultOfName_13 : decode cX5_faultOfName 13 = .ok (.iconst 1, 1) := by decide +kernel
theorem dX5_faultOfName_14 : decode cX5_faultOfName 14 = .ok (.ireturn, 1) := by decide +kernel
theorem dX5_faultOfName_15 : decode cX5_faultOfName 15 = .ok (.aload_n 0, 1) := by decide +kernel
theorem dX5_faultOfName_16 : decode cX5_faultOfName 16 = .ok (.lload_n 2, 1) := by decide +kernel
theorem dX5_faultOfName_17 : decode cX5_faultOfName 17 = .ok (.invokevirtual 87, 3) := by decide +kernel
theorem dX5_faultOfName_20 : decode cX5_faultOfName 20 = .ok (.ifCond .ne 5, 3) := by decide +kernel
theorem dX5_faultOfName_23 : decode cX5_faultOfName 23 = .ok (.iconst 2, 1) := by decide +kernel
theorem dX5_faultOfName_24 : decode cX5_faultOfName 24 = .ok (.ireturn, 1) := by decide +kernel
theorem dX5_faultOfName_25 : decode cX5_faultOfName 25 = .ok (.aload_n 0, 1) := by decide +kernel
theorem dX5_faultOfName_26 : decode cX5_faultOfName 26 = .ok (.iload_n 1, 1) := by decide +kernel
theorem dX5_faultOfName_27 : decode cX5_faultOfName 27 = .ok (.invokevirtual 90, 3) := by decide +kernel
theorem dX5_faultOfName_30 : decode cX5_faultOfName 30 = .ok (.ifCond .ne 5, 3) := by decide +kernel
theorem dX5_faultOfName_33 : decode cX5_faultOfName 33 = .ok (.iconst 3, 1) := by decide +kernel
theorem dX5_faultOfName_34 : decode cX5_faultOfName 34 = .ok (.ireturn, 1) := by decide +kernel
theorem dX5_faultOfName_35 : decode cX5_faultOfName 35 = .ok (.aload_n 0, 1) := by decide +kernel
theorem dX5_faultOfName_36 : decode cX5_faultOfName 36 = .ok (.lload_n 2, 1) := by decide +kernel
theorem dX5_faultOfName_37 : decode cX5_faultOfName 37 = .ok (.aload_n 0, 1) := by decide +kernel
theorem dX5_faultOfName_38 : decode cX5_faultOfName 38 = .ok (.iload_n 1, 1) := by decide +kernel
theorem dX5_faultOfName_39 : decode cX5_faultOfName 39 = .ok (.invokevirtual 93, 3) := by decide +kernel
theorem dX5_faultOfName_42 : decode cX5_faultOfName 42 = .ok (.invokevirtual 97, 3) := by decide +kernel
theorem dX5_faultOfName_45 : decode cX5_faultOfName 45 = .ok (.iconst (-1), 1) := by decide +kernel
theorem dX5_faultOfName_46 : decode cX5_faultOfName 46 = .ok (.if_icmp .ne 7, 3) := by decide +kernel
theorem dX5_faultOfName_49 : decode cX5_faultOfName 49 = .ok (.iconst 0, 1) := by decide +kernel
theorem dX5_faultOfName_50 : decode cX5_faultOfName 50 = .ok (.goto 4, 3) := by decide +kernel
theorem dX5_faultOfName_53 : decode cX5_faultOfName 53 = .ok (.iconst 4, 1) := by decide +kernel
theorem dX5_faultOfName_54 : decode cX5_faultOfName 54 = .ok (.ireturn, 1) := by decide +kernel
theorem dX5_leastCalled_0 : decode cX5_leastCalled 0 = .ok (.iconst 0, 1) := by decide +kernel
theorem dX5_leastCalled_1 : decode cX5_leastCalled 1 = .ok (.istore 4, 2) := by decide +kernel
theorem dX5_leastCalled_3 : decode cX5_leastCalled 3 = .ok (.iload 4, 2) := by decide +kernel
theorem dX5_leastCalled_5 : decode cX5_leastCalled 5 = .ok (.aload_n 0, 1) := by decide +kernel
theorem dX5_leastCalled_6 : decode cX5_leastCalled 6 = .ok (.getfield 38, 3) := by decide +kernel
theorem dX5_leastCalled_9 : decode cX5_leastCalled 9 = .ok (.if_icmp .ge 33, 3) := by decide +kernel
theorem dX5_leastCalled_12 : decode cX5_leastCalled 12 = .ok (.iload_n 3, 1) := by decide +kernel
theorem dX5_leastCalled_13 : decode cX5_leastCalled 13 = .ok (.iload 4, 2) := by decide +kernel
theorem dX5_leastCalled_15 : decode cX5_leastCalled 15 = .ok (.ishr, 1) := by decide +kernel
theorem dX5_leastCalled_16 : decode cX5_leastCalled 16 = .ok (.iconst 1, 1) := by decide +kernel
theorem dX5_leastCalled_17 : decode cX5_leastCalled 17 = .ok (.iand, 1) := by decide +kernel
theorem dX5_leastCalled_18 : decode cX5_leastCalled 18 = .ok (.ifCond .eq 18, 3) := by decide +kernel
theorem dX5_leastCalled_21 : decode cX5_leastCalled 21 = .ok (.aload_n 0, 1) := by decide +kernel
theorem dX5_leastCalled_22 : decode cX5_leastCalled 22 = .ok (.getfield 26, 3) := by decide +kernel
theorem dX5_leastCalled_25 : decode cX5_leastCalled 25 = .ok (.iload 4, 2) := by decide +kernel
theorem dX5_leastCalled_27 : decode cX5_leastCalled 27 = .ok (.laload, 1) := by decide +kernel
theorem dX5_leastCalled_28 : decode cX5_leastCalled 28 = .ok (.lload_n 1, 1) := by decide +kernel
theorem dX5_leastCalled_29 : decode cX5_leastCalled 29 = .ok (.lcmp, 1) := by decide +kernel
theorem dX5_leastCalled_30 : decode cX5_leastCalled 30 = .ok (.ifCond .ne 6, 3) := by decide +kernel
theorem dX5_leastCalled_33 : decode cX5_leastCalled 33 = .ok (.iload 4, 2) := by decide +kernel
theorem dX5_leastCalled_35 : decode cX5_leastCalled 35 = .ok (.ireturn, 1) := by decide +kernel
theorem dX5_leastCalled_36 : decode cX5_leastCalled 36 = .ok (.iinc 4 1, 3) := by decide +kernel
theorem dX5_leastCalled_39 : decode cX5_leastCalled 39 = .ok (.goto (-36), 3) := by decide +kernel
theorem dX5_leastCalled_42 : decode cX5_leastCalled 42 = .ok (.iconst (-1), 1) := by decide +kernel
theorem dX5_leastCalled_43 : decode cX5_leastCalled 43 = .ok (.ireturn, 1) := by decide +kernel
theorem dX5_nearOf_0 : decode cX5_nearOf 0 = .ok (.aload_n 0, 1) := by decide +kernel
theorem dX5_nearOf_1 : decode cX5_nearOf 1 = .ok (.iload_n 1, 1) := by decide +kernel
theorem dX5_nearOf_2 : decode cX5_nearOf 2 = .ok (.aload_n 0, 1) := by decide +kernel
theorem dX5_nearOf_3 : decode cX5_nearOf 3 = .ok (.getfield 50, 3) := by decide +kernel
theorem dX5_nearOf_6 : decode cX5_nearOf 6 = .ok (.invokevirtual 101, 3) := by decide +kernel
theorem dX5_nearOf_9 : decode cX5_nearOf 9 = .ok (.iconst 1, 1) := by decide +kernel
theorem dX5_nearOf_10 : decode cX5_nearOf 10 = .ok (.iload_n 1, 1) := by decide +kernel
theorem dX5_nearOf_11 : decode cX5_nearOf 11 = .ok (.ishl, 1) := by decide +kernel
theorem dX5_nearOf_12 : decode cX5_nearOf 12 = .ok (.iconst (-1), 1) := by decide +kernel
theorem dX5_nearOf_13 : decode cX5_nearOf 13 = .ok (.ixor, 1) := by decide +kernel
theorem dX5_nearOf_14 : decode cX5_nearOf 14 = .ok (.iand, 1) := by decide +kernel
theorem dX5_nearOf_15 : decode cX5_nearOf 15 = .ok (.ireturn, 1) := by decide +kernel
theorem dX5_nearChildOf_0 : decode cX5_nearChildOf 0 = .ok (.aload_n 0, 1) := by decide +kernel
theorem dX5_nearChildOf_1 : decode cX5_nearChildOf 1 = .ok (.iload_n 1, 1) := by decide +kernel
theorem dX5_nearChildOf_2 : decode cX5_nearChildOf 2 = .ok (.aload_n 0, 1) := by decide +kernel
theorem dX5_nearChildOf_3 : decode cX5_nearChildOf 3 = .ok (.getfield 50, 3) := by decide +kernel
theorem dX5_nearChildOf_6 : decode cX5_nearChildOf 6 = .ok (.iconst 1, 1) := by decide +kernel
theorem dX5_nearChildOf_7 : decode cX5_nearChildOf 7 = .ok (.isub, 1) := by decide +kernel
theorem dX5_nearChildOf_8 : decode cX5_nearChildOf 8 = .ok (.invokevirtual 101, 3) := by decide +kernel
theorem dX5_nearChildOf_11 : decode cX5_nearChildOf 11 = .ok (.aload_n 0, 1) := by decide +kernel
theorem dX5_nearChildOf_12 : decode cX5_nearChildOf 12 = .ok (.iload_n 2, 1) := by decide +kernel
theorem dX5_nearChildOf_13 : decode cX5_nearChildOf 13 = .ok (.aload_n 0, 1) := by decide +kernel
theorem dX5_nearChildOf_14 : decode cX5_nearChildOf 14 = .ok (.getfield 50, 3) := by decide +kernel
theorem dX5_nearChildOf_17 : decode cX5_nearChildOf 17 = .ok (.iconst 1, 1) := by decide +kernel
theorem dX5_nearChildOf_18 : decode cX5_nearChildOf 18 = .ok (.isub, 1) := by decide +kernel
theorem dX5_nearChildOf_19 : decode cX5_nearChildOf 19 = .ok (.invokevirtual 101, 3) := by decide +kernel
theorem dX5_nearChildOf_22 : decode cX5_nearChildOf 22 = .ok (.ior, 1) := by decide +kernel
theorem dX5_nearChildOf_23 : decode cX5_nearChildOf 23 = .ok (.ireturn, 1) := by decide +kernel
theorem dX5_within_0 : decode cX5_within 0 = .ok (.iconst 1, 1) := by decide +kernel
theorem dX5_within_1 : decode cX5_within 1 = .ok (.iload_n 1, 1) := by decide +kernel
theorem dX5_within_2 : decode cX5_within 2 = .ok (.ishl, 1) := by decide +kernel
theorem dX5_within_3 : decode cX5_within 3 = .ok (.istore_n 3, 1) := by decide +kernel
theorem dX5_within_4 : decode cX5_within 4 = .ok (.iconst 0, 1) := by decide +kernel
theorem dX5_within_5 : decode cX5_within 5 = .ok (.istore 4, 2) := by decide +kernel
theorem dX5_within_7 : decode cX5_within 7 = .ok (.iload 4, 2) := by decide +kernel
theorem dX5_within_9 : decode cX5_within 9 = .ok (.iload_n 2, 1) := by decide +kernel
theorem dX5_within_10 : decode cX5_within 10 = .ok (.if_icmp .ge 15, 3) := by decide +kernel
theorem dX5_within_13 : decode cX5_within 13 = .ok (.aload_n 0, 1) := by decide +kernel
theorem dX5_within_14 : decode cX5_within 14 = .ok (.iload_n 3, 1) := by decide +kernel
theorem dX5_within_15 : decode cX5_within 15 = .ok (.invokevirtual 105, 3) := by decide +kernel
theorem dX5_within_18 : decode cX5_within 18 = .ok (.istore_n 3, 1) := by decide +kernel
theorem dX5_within_19 : decode cX5_within 19 = .ok (.iinc 4 1, 3) := by decide +kernel
theorem dX5_within_22 : decode cX5_within 22 = .ok (.goto (-15), 3) := by decide +kernel
theorem dX5_within_25 : decode cX5_within 25 = .ok (.iload_n 3, 1) := by decide +kernel
theorem dX5_within_26 : decode cX5_within 26 = .ok (.ireturn, 1) := by decide +kernel
theorem dX5_oneStepMore_0 : decode cX5_oneStepMore 0 = .ok (.iload_n 1, 1) := by decide +kernel
theorem dX5_oneStepMore_1 : decode cX5_oneStepMore 1 = .ok (.istore_n 2, 1) := by decide +kernel
theorem dX5_oneStepMore_2 : decode cX5_oneStepMore 2 = .ok (.iconst 0, 1) := by decide +kernel
theorem dX5_oneStepMore_3 : decode cX5_oneStepMore 3 = .ok (.istore_n 3, 1) := by decide +kernel
theorem dX5_oneStepMore_4 : decode cX5_oneStepMore 4 = .ok (.iload_n 3, 1) := by decide +kernel
theorem dX5_oneStepMore_5 : decode cX5_oneStepMore 5 = .ok (.aload_n 0, 1) := by decide +kernel
theorem dX5_oneStepMore_6 : decode cX5_oneStepMore 6 = .ok (.getfield 38, 3) := by decide +kernel
theorem dX5_oneStepMore_9 : decode cX5_oneStepMore 9 = .ok (.if_icmp .ge 71, 3) := by decide +kernel
theorem dX5_oneStepMore_12 : decode cX5_oneStepMore 12 = .ok (.aload_n 0, 1) := by decide +kernel
theorem dX5_oneStepMore_13 : decode cX5_oneStepMore 13 = .ok (.getfield 35, 3) := by decide +kernel
theorem dX5_oneStepMore_16 : decode cX5_oneStepMore 16 = .ok (.iload_n 3, 1) := by decide +kernel
theorem dX5_oneStepMore_17 : decode cX5_oneStepMore 17 = .ok (.iaload, 1) := by decide +kernel
theorem dX5_oneStepMore_18 : decode cX5_oneStepMore 18 = .ok (.ifCond .eq 56, 3) := by decide +kernel
theorem dX5_oneStepMore_21 : decode cX5_oneStepMore 21 = .ok (.iconst 1, 1) := by decide +kernel
theorem dX5_oneStepMore_22 : decode cX5_oneStepMore 22 = .ok (.aload_n 0, 1) := by decide +kernel
theorem dX5_oneStepMore_23 : decode cX5_oneStepMore 23 = .ok (.getfield 29, 3) := by decide +kernel
theorem dX5_oneStepMore_26 : decode cX5_oneStepMore 26 = .ok (.iload_n 3, 1) := by decide +kernel
theorem dX5_oneStepMore_27 : decode cX5_oneStepMore 27 = .ok (.iaload, 1) := by decide +kernel
theorem dX5_oneStepMore_28 : decode cX5_oneStepMore 28 = .ok (.ishl, 1) := by decide +kernel
theorem dX5_oneStepMore_29 : decode cX5_oneStepMore 29 = .ok (.iconst 1, 1) := by decide +kernel
theorem dX5_oneStepMore_30 : decode cX5_oneStepMore 30 = .ok (.aload_n 0, 1) := by decide +kernel
theorem dX5_oneStepMore_31 : decode cX5_oneStepMore 31 = .ok (.getfield 32, 3) := by decide +kernel
theorem dX5_oneStepMore_34 : decode cX5_oneStepMore 34 = .ok (.iload_n 3, 1) := by decide +kernel
theorem dX5_oneStepMore_35 : decode cX5_oneStepMore 35 = .ok (.iaload, 1) := by decide +kernel
theorem dX5_oneStepMore_36 : decode cX5_oneStepMore 36 = .ok (.ishl, 1) := by decide +kernel
theorem dX5_oneStepMore_37 : decode cX5_oneStepMore 37 = .ok (.ior, 1) := by decide +kernel
theorem dX5_oneStepMore_38 : decode cX5_oneStepMore 38 = .ok (.istore 4, 2) := by decide +kernel
theorem dX5_oneStepMore_40 : decode cX5_oneStepMore 40 = .ok (.iload_n 2, 1) := by decide +kernel
theorem dX5_oneStepMore_41 : decode cX5_oneStepMore 41 = .ok (.iload_n 1, 1) := by decide +kernel
theorem dX5_oneStepMore_42 : decode cX5_oneStepMore 42 = .ok (.iload 4, 2) := by decide +kernel
theorem dX5_oneStepMore_44 : decode cX5_oneStepMore 44 = .ok (.iand, 1) := by decide +kernel
theorem dX5_oneStepMore_45 : decode cX5_oneStepMore 45 = .ok (.ifCond .eq 9, 3) := by decide +kernel
theorem dX5_oneStepMore_48 : decode cX5_oneStepMore 48 = .ok (.iconst 1, 1) := by decide +kernel
theorem dX5_oneStepMore_49 : decode cX5_oneStepMore 49 = .ok (.iload_n 3, 1) := by decide +kernel
theorem dX5_oneStepMore_50 : decode cX5_oneStepMore 50 = .ok (.ishl, 1) := by decide +kernel
theorem dX5_oneStepMore_51 : decode cX5_oneStepMore 51 = .ok (.goto 4, 3) := by decide +kernel
theorem dX5_oneStepMore_54 : decode cX5_oneStepMore 54 = .ok (.iconst 0, 1) := by decide +kernel
theorem dX5_oneStepMore_55 : decode cX5_oneStepMore 55 = .ok (.ior, 1) := by decide +kernel
theorem dX5_oneStepMore_56 : decode cX5_oneStepMore 56 = .ok (.istore_n 2, 1) := by decide +kernel
theorem dX5_oneStepMore_57 : decode cX5_oneStepMore 57 = .ok (.iload_n 2, 1) := by decide +kernel
theorem dX5_oneStepMore_58 : decode cX5_oneStepMore 58 = .ok (.iload_n 1, 1) := by decide +kernel
theorem dX5_oneStepMore_59 : decode cX5_oneStepMore 59 = .ok (.iload_n 3, 1) := by decide +kernel
theorem dX5_oneStepMore_60 : decode cX5_oneStepMore 60 = .ok (.ishr, 1) := by decide +kernel
theorem dX5_oneStepMore_61 : decode cX5_oneStepMore 61 = .ok (.iconst 1, 1) := by decide +kernel
theorem dX5_oneStepMore_62 : decode cX5_oneStepMore 62 = .ok (.iand, 1) := by decide +kernel
theorem dX5_oneStepMore_63 : decode cX5_oneStepMore 63 = .ok (.ifCond .eq 8, 3) := by decide +kernel
theorem dX5_oneStepMore_66 : decode cX5_oneStepMore 66 = .ok (.iload 4, 2) := by decide +kernel
theorem dX5_oneStepMore_68 : decode cX5_oneStepMore 68 = .ok (.goto 4, 3) := by decide +kernel
theorem dX5_oneStepMore_71 : decode cX5_oneStepMore 71 = .ok (.iconst 0, 1) := by decide +kernel
theorem dX5_oneStepMore_72 : decode cX5_oneStepMore 72 = .ok (.ior, 1) := by decide +kernel
theorem dX5_oneStepMore_73 : decode cX5_oneStepMore 73 = .ok (.istore_n 2, 1) := by decide +kernel
theorem dX5_oneStepMore_74 : decode cX5_oneStepMore 74 = .ok (.iinc 3 1, 3) := by decide +kernel
theorem dX5_oneStepMore_77 : decode cX5_oneStepMore 77 = .ok (.goto (-73), 3) := by decide +kernel
theorem dX5_oneStepMore_80 : decode cX5_oneStepMore 80 = .ok (.iload_n 2, 1) := by decide +kernel
theorem dX5_oneStepMore_81 : decode cX5_oneStepMore 81 = .ok (.ireturn, 1) := by decide +kernel
theorem dX5_stepsBetween_0 : decode cX5_stepsBetween 0 = .ok (.iconst 1, 1) := by decide +kernel
theorem dX5_stepsBetween_1 : decode cX5_stepsBetween 1 = .ok (.iload_n 1, 1) := by decide +kernel
theorem dX5_stepsBetween_2 : decode cX5_stepsBetween 2 = .ok (.ishl, 1) := by decide +kernel
theorem dX5_stepsBetween_3 : decode cX5_stepsBetween 3 = .ok (.istore_n 3, 1) := by decide +kernel
theorem dX5_stepsBetween_4 : decode cX5_stepsBetween 4 = .ok (.iconst 0, 1) := by decide +kernel
theorem dX5_stepsBetween_5 : decode cX5_stepsBetween 5 = .ok (.istore 4, 2) := by decide +kernel
theorem dX5_stepsBetween_7 : decode cX5_stepsBetween 7 = .ok (.iload 4, 2) := by decide +kernel
theorem dX5_stepsBetween_9 : decode cX5_stepsBetween 9 = .ok (.bipush 16, 2) := by decide +kernel
theorem dX5_stepsBetween_11 : decode cX5_stepsBetween 11 = .ok (.if_icmp .ge 26, 3) := by decide +kernel
theorem dX5_stepsBetween_14 : decode cX5_stepsBetween 14 = .ok (.iload_n 3, 1) := by decide +kernel
theorem dX5_stepsBetween_15 : decode cX5_stepsBetween 15 = .ok (.iload_n 2, 1) := by decide +kernel
theorem dX5_stepsBetween_16 : decode cX5_stepsBetween 16 = .ok (.ishr, 1) := by decide +kernel
theorem dX5_stepsBetween_17 : decode cX5_stepsBetween 17 = .ok (.iconst 1, 1) := by decide +kernel
theorem dX5_stepsBetween_18 : decode cX5_stepsBetween 18 = .ok (.iand, 1) := by decide +kernel
theorem dX5_stepsBetween_19 : decode cX5_stepsBetween 19 = .ok (.ifCond .eq 6, 3) := by decide +kernel
theorem dX5_stepsBetween_22 : decode cX5_stepsBetween 22 = .ok (.iload 4, 2) := by decide +kernel
theorem dX5_stepsBetween_24 : decode cX5_stepsBetween 24 = .ok (.ireturn, 1) := by decide +kernel
theorem dX5_stepsBetween_25 : decode cX5_stepsBetween 25 = .ok (.aload_n 0, 1) := by decide +kernel
theorem dX5_stepsBetween_26 : decode cX5_stepsBetween 26 = .ok (.iload_n 3, 1) := by decide +kernel
theorem dX5_stepsBetween_27 : decode cX5_stepsBetween 27 = .ok (.invokevirtual 105, 3) := by decide +kernel
theorem dX5_stepsBetween_30 : decode cX5_stepsBetween 30 = .ok (.istore_n 3, 1) := by decide +kernel
theorem dX5_stepsBetween_31 : decode cX5_stepsBetween 31 = .ok (.iinc 4 1, 3) := by decide +kernel
theorem dX5_stepsBetween_34 : decode cX5_stepsBetween 34 = .ok (.goto (-27), 3) := by decide +kernel
theorem dX5_stepsBetween_37 : decode cX5_stepsBetween 37 = .ok (.iconst (-1), 1) := by decide +kernel
theorem dX5_stepsBetween_38 : decode cX5_stepsBetween 38 = .ok (.ireturn, 1) := by decide +kernel
theorem dX5_sumOfAll_0 : decode cX5_sumOfAll 0 = .ok (.iconst 0, 1) := by decide +kernel
theorem dX5_sumOfAll_1 : decode cX5_sumOfAll 1 = .ok (.istore_n 2, 1) := by decide +kernel
theorem dX5_sumOfAll_2 : decode cX5_sumOfAll 2 = .ok (.iconst 0, 1) := by decide +kernel
theorem dX5_sumOfAll_3 : decode cX5_sumOfAll 3 = .ok (.istore_n 3, 1) := by decide +kernel
theorem dX5_sumOfAll_4 : decode cX5_sumOfAll 4 = .ok (.iload_n 3, 1) := by decide +kernel
theorem dX5_sumOfAll_5 : decode cX5_sumOfAll 5 = .ok (.aload_n 0, 1) := by decide +kernel
theorem dX5_sumOfAll_6 : decode cX5_sumOfAll 6 = .ok (.getfield 38, 3) := by decide +kernel
theorem dX5_sumOfAll_9 : decode cX5_sumOfAll 9 = .ok (.if_icmp .ge 30, 3) := by decide +kernel
theorem dX5_sumOfAll_12 : decode cX5_sumOfAll 12 = .ok (.iload_n 1, 1) := by decide +kernel
theorem dX5_sumOfAll_13 : decode cX5_sumOfAll 13 = .ok (.iload_n 3, 1) := by decide +kernel
theorem dX5_sumOfAll_14 : decode cX5_sumOfAll 14 = .ok (.ishr, 1) := by decide +kernel
theorem dX5_sumOfAll_15 : decode cX5_sumOfAll 15 = .ok (.iconst 1, 1) := by decide +kernel
theorem dX5_sumOfAll_16 : decode cX5_sumOfAll 16 = .ok (.iand, 1) := by decide +kernel
theorem dX5_sumOfAll_17 : decode cX5_sumOfAll 17 = .ok (.ifCond .eq 16, 3) := by decide +kernel
theorem dX5_sumOfAll_20 : decode cX5_sumOfAll 20 = .ok (.iload_n 2, 1) := by decide +kernel
theorem dX5_sumOfAll_21 : decode cX5_sumOfAll 21 = .ok (.aload_n 0, 1) := by decide +kernel
theorem dX5_sumOfAll_22 : decode cX5_sumOfAll 22 = .ok (.aload_n 0, 1) := by decide +kernel
theorem dX5_sumOfAll_23 : decode cX5_sumOfAll 23 = .ok (.getfield 26, 3) := by decide +kernel
theorem dX5_sumOfAll_26 : decode cX5_sumOfAll 26 = .ok (.iload_n 3, 1) := by decide +kernel
theorem dX5_sumOfAll_27 : decode cX5_sumOfAll 27 = .ok (.laload, 1) := by decide +kernel
theorem dX5_sumOfAll_28 : decode cX5_sumOfAll 28 = .ok (.invokevirtual 77, 3) := by decide +kernel
theorem dX5_sumOfAll_31 : decode cX5_sumOfAll 31 = .ok (.iadd, 1) := by decide +kernel
theorem dX5_sumOfAll_32 : decode cX5_sumOfAll 32 = .ok (.istore_n 2, 1) := by decide +kernel
theorem dX5_sumOfAll_33 : decode cX5_sumOfAll 33 = .ok (.iinc 3 1, 3) := by decide +kernel
theorem dX5_sumOfAll_36 : decode cX5_sumOfAll 36 = .ok (.goto (-32), 3) := by decide +kernel
theorem dX5_sumOfAll_39 : decode cX5_sumOfAll 39 = .ok (.iload_n 2, 1) := by decide +kernel
theorem dX5_sumOfAll_40 : decode cX5_sumOfAll 40 = .ok (.ireturn, 1) := by decide +kernel
theorem dX5_changesBy_0 : decode cX5_changesBy 0 = .ok (.iconst 0, 1) := by decide +kernel
theorem dX5_changesBy_1 : decode cX5_changesBy 1 = .ok (.istore 4, 2) := by decide +kernel
theorem dX5_changesBy_3 : decode cX5_changesBy 3 = .ok (.lload_n 1, 1) := by decide +kernel
theorem dX5_changesBy_4 : decode cX5_changesBy 4 = .ok (.lstore 5, 2) := by decide +kernel
theorem dX5_changesBy_6 : decode cX5_changesBy 6 = .ok (.iconst 0, 1) := by decide +kernel
theorem dX5_changesBy_7 : decode cX5_changesBy 7 = .ok (.istore 7, 2) := by decide +kernel
theorem dX5_changesBy_9 : decode cX5_changesBy 9 = .ok (.iload 7, 2) := by decide +kernel
theorem dX5_changesBy_11 : decode cX5_changesBy 11 = .ok (.bipush 9, 2) := by decide +kernel
theorem dX5_changesBy_13 : decode cX5_changesBy 13 = .ok (.if_icmp .ge 59, 3) := by decide +kernel
theorem dX5_changesBy_16 : decode cX5_changesBy 16 = .ok (.lload 5, 2) := by decide +kernel
theorem dX5_changesBy_18 : decode cX5_changesBy 18 = .ok (.lconst 0, 1) := by decide +kernel
theorem dX5_changesBy_19 : decode cX5_changesBy 19 = .ok (.lcmp, 1) := by decide +kernel
theorem dX5_changesBy_20 : decode cX5_changesBy 20 = .ok (.ifCond .le 52, 3) := by decide +kernel
theorem dX5_changesBy_23 : decode cX5_changesBy 23 = .ok (.lload 5, 2) := by decide +kernel
theorem dX5_changesBy_25 : decode cX5_changesBy 25 = .ok (.invokestatic 67, 3) := by decide +kernel
theorem dX5_changesBy_28 : decode cX5_changesBy 28 = .ok (.istore 8, 2) := by decide +kernel
theorem dX5_changesBy_30 : decode cX5_changesBy 30 = .ok (.iload 8, 2) := by decide +kernel
theorem dX5_changesBy_32 : decode cX5_changesBy 32 = .ok (.invokestatic 71, 3) := by decide +kernel
theorem dX5_changesBy_35 : decode cX5_changesBy 35 = .ok (.ifCond .eq 23, 3) := by decide +kernel
theorem dX5_changesBy_38 : decode cX5_changesBy 38 = .ok (.iload 4, 2) := by decide +kernel
theorem dX5_changesBy_40 : decode cX5_changesBy 40 = .ok (.aload_n 0, 1) := by decide +kernel
theorem dX5_changesBy_41 : decode cX5_changesBy 41 = .ok (.aload_n 0, 1) := by decide +kernel
theorem dX5_changesBy_42 : decode cX5_changesBy 42 = .ok (.getfield 9, 3) := by decide +kernel
theorem dX5_changesBy_45 : decode cX5_changesBy 45 = .ok (.iload 8, 2) := by decide +kernel
theorem dX5_changesBy_47 : decode cX5_changesBy 47 = .ok (.iaload, 1) := by decide +kernel
theorem dX5_changesBy_48 : decode cX5_changesBy 48 = .ok (.iload_n 3, 1) := by decide +kernel
theorem dX5_changesBy_49 : decode cX5_changesBy 49 = .ok (.iadd, 1) := by decide +kernel
theorem dX5_changesBy_50 : decode cX5_changesBy 50 = .ok (.iload 8, 2) := by decide +kernel
theorem dX5_changesBy_52 : decode cX5_changesBy 52 = .ok (.invokevirtual 108, 3) := by decide +kernel
theorem dX5_changesBy_55 : decode cX5_changesBy 55 = .ok (.iadd, 1) := by decide +kernel
theorem dX5_changesBy_56 : decode cX5_changesBy 56 = .ok (.istore 4, 2) := by decide +kernel
theorem dX5_changesBy_58 : decode cX5_changesBy 58 = .ok (.lload 5, 2) := by decide +kernel
theorem dX5_changesBy_60 : decode cX5_changesBy 60 = .ok (.ldc2_w 75, 3) := by decide +kernel
theorem dX5_changesBy_63 : decode cX5_changesBy 63 = .ok (.ldiv, 1) := by decide +kernel
theorem dX5_changesBy_64 : decode cX5_changesBy 64 = .ok (.lstore 5, 2) := by decide +kernel
theorem dX5_changesBy_66 : decode cX5_changesBy 66 = .ok (.iinc 7 1, 3) := by decide +kernel
theorem dX5_changesBy_69 : decode cX5_changesBy 69 = .ok (.goto (-60), 3) := by decide +kernel
theorem dX5_changesBy_72 : decode cX5_changesBy 72 = .ok (.iload 4, 2) := by decide +kernel
theorem dX5_changesBy_74 : decode cX5_changesBy 74 = .ok (.ireturn, 1) := by decide +kernel
theorem dX5_othersOfNumber_0 : decode cX5_othersOfNumber 0 = .ok (.iconst 0, 1) := by decide +kernel
theorem dX5_othersOfNumber_1 : decode cX5_othersOfNumber 1 = .ok (.istore_n 3, 1) := by decide +kernel
theorem dX5_othersOfNumber_2 : decode cX5_othersOfNumber 2 = .ok (.iconst 0, 1) := by decide +kernel
theorem dX5_othersOfNumber_3 : decode cX5_othersOfNumber 3 = .ok (.istore 4, 2) := by decide +kernel
theorem dX5_othersOfNumber_5 : decode cX5_othersOfNumber 5 = .ok (.iload 4, 2) := by decide +kernel
theorem dX5_othersOfNumber_7 : decode cX5_othersOfNumber 7 = .ok (.bipush 26, 2) := by decide +kernel
theorem dX5_othersOfNumber_9 : decode cX5_othersOfNumber 9 = .ok (.if_icmp .ge 33, 3) := by decide +kernel
theorem dX5_othersOfNumber_12 : decode cX5_othersOfNumber 12 = .ok (.iload 4, 2) := by decide +kernel
theorem dX5_othersOfNumber_14 : decode cX5_othersOfNumber 14 = .ok (.iload_n 2, 1) := by decide +kernel
theorem dX5_othersOfNumber_15 : decode cX5_othersOfNumber 15 = .ok (.if_icmp .eq 21, 3) := by decide +kernel
theorem dX5_othersOfNumber_18 : decode cX5_othersOfNumber 18 = .ok (.iload_n 1, 1) := by decide +kernel
theorem dX5_othersOfNumber_19 : decode cX5_othersOfNumber 19 = .ok (.ifCond .le 17, 3) := by decide +kernel
theorem dX5_othersOfNumber_22 : decode cX5_othersOfNumber 22 = .ok (.aload_n 0, 1) := by decide +kernel
theorem dX5_othersOfNumber_23 : decode cX5_othersOfNumber 23 = .ok (.getfield 9, 3) := by decide +kernel
theorem dX5_othersOfNumber_26 : decode cX5_othersOfNumber 26 = .ok (.iload 4, 2) := by decide +kernel
theorem dX5_othersOfNumber_28 : decode cX5_othersOfNumber 28 = .ok (.iaload, 1) := by decide +kernel
theorem dX5_othersOfNumber_29 : decode cX5_othersOfNumber 29 = .ok (.iload_n 1, 1) := by decide +kernel
theorem dX5_othersOfNumber_30 : decode cX5_othersOfNumber 30 = .ok (.if_icmp .ne 6, 3) := by decide +kernel
theorem dX5_othersOfNumber_33 : decode cX5_othersOfNumber 33 = .ok (.iinc 3 1, 3) := by decide +kernel
theorem dX5_othersOfNumber_36 : decode cX5_othersOfNumber 36 = .ok (.iinc 4 1, 3) := by decide +kernel
theorem dX5_othersOfNumber_39 : decode cX5_othersOfNumber 39 = .ok (.goto (-34), 3) := by decide +kernel
theorem dX5_othersOfNumber_42 : decode cX5_othersOfNumber 42 = .ok (.iload_n 3, 1) := by decide +kernel
theorem dX5_othersOfNumber_43 : decode cX5_othersOfNumber 43 = .ok (.ireturn, 1) := by decide +kernel
theorem dX6_init_0 : decode cX6_init 0 = .ok (.aload_n 0, 1) := by decide +kernel
theorem dX6_init_1 : decode cX6_init 1 = .ok (.invokespecial 1, 3) := by decide +kernel
theorem dX6_init_4 : decode cX6_init 4 = .ok (.aload_n 0, 1) := by decide +kernel
theorem dX6_init_5 : decode cX6_init 5 = .ok (.new 7, 3) := by decide +kernel
theorem dX6_init_8 : decode cX6_init 8 = .ok (.dup, 1) := by decide +kernel
theorem dX6_init_9 : decode cX6_init 9 = .ok (.invokespecial 9, 3) := by decide +kernel
theorem dX6_init_12 : decode cX6_init 12 = .ok (.putfield 10, 3) := by decide +kernel
theorem dX6_init_15 : decode cX6_init 15 = .ok (.aload_n 0, 1) := by decide +kernel
theorem dX6_init_16 : decode cX6_init 16 = .ok (.iconst 2, 1) := by decide +kernel
theorem dX6_init_17 : decode cX6_init 17 = .ok (.anewarray 7, 3) := by decide +kernel
theorem dX6_init_20 : decode cX6_init 20 = .ok (.putfield 16, 3) := by decide +kernel
theorem dX6_init_23 : decode cX6_init 23 = .ok (.aload_n 0, 1) := by decide +kernel
theorem dX6_init_24 : decode cX6_init 24 = .ok (.new 20, 3) := by decide +kernel
theorem dX6_init_27 : decode cX6_init 27 = .ok (.dup, 1) := by decide +kernel
theorem dX6_init_28 : decode cX6_init 28 = .ok (.invokespecial 22, 3) := by decide +kernel
theorem dX6_init_31 : decode cX6_init 31 = .ok (.putfield 23, 3) := by decide +kernel
theorem dX6_init_34 : decode cX6_init 34 = .ok (.aload_n 0, 1) := by decide +kernel
theorem dX6_init_35 : decode cX6_init 35 = .ok (.new 27, 3) := by decide +kernel
theorem dX6_init_38 : decode cX6_init 38 = .ok (.dup, 1) := by decide +kernel
theorem dX6_init_39 : decode cX6_init 39 = .ok (.invokespecial 29, 3) := by decide +kernel
theorem dX6_init_42 : decode cX6_init 42 = .ok (.putfield 30, 3) := by decide +kernel
theorem dX6_init_45 : decode cX6_init 45 = .ok (.aload_n 0, 1) := by decide +kernel
theorem dX6_init_46 : decode cX6_init 46 = .ok (.new 34, 3) := by decide +kernel
theorem dX6_init_49 : decode cX6_init 49 = .ok (.dup, 1) := by decide +kernel
theorem dX6_init_50 : decode cX6_init 50 = .ok (.invokespecial 36, 3) := by decide +kernel
theorem dX6_init_53 : decode cX6_init 53 = .ok (.putfield 37, 3) := by decide +kernel
theorem dX6_init_56 : decode cX6_init 56 = .ok (.aload_n 0, 1) := by decide +kernel
theorem dX6_init_57 : decode cX6_init 57 = .ok (.new 41, 3) := by decide +kernel
theorem dX6_init_60 : decode cX6_init 60 = .ok (.dup, 1) := by decide +kernel
theorem dX6_init_61 : decode cX6_init 61 = .ok (.invokespecial 43, 3) := by decide +kernel
theorem dX6_init_64 : decode cX6_init 64 = .ok (.putfield 44, 3) := by decide +kernel
theorem dX6_init_67 : decode cX6_init 67 = .ok (.aload_n 0, 1) := by decide +kernel
theorem dX6_init_68 : decode cX6_init 68 = .ok (.iconst 3, 1) := by decide +kernel
theorem dX6_init_69 : decode cX6_init 69 = .ok (.anewarray 48, 3) := by decide +kernel
theorem dX6_init_72 : decode cX6_init 72 = .ok (.putfield 50, 3) := by decide +kernel
theorem dX6_init_75 : decode cX6_init 75 = .ok (.aload_n 0, 1) := by decide +kernel
theorem dX6_init_76 : decode cX6_init 76 = .ok (.bipush 6, 2) := by decide +kernel
theorem dX6_init_78 : decode cX6_init 78 = .ok (.newarray .int, 2) := by decide +kernel
theorem dX6_init_80 : decode cX6_init 80 = .ok (.putfield 54, 3) := by decide +kernel
theorem dX6_init_83 : decode cX6_init 83 = .ok (.iconst 0, 1) := by decide +kernel
theorem dX6_init_84 : decode cX6_init 84 = .ok (.istore_n 1, 1) := by decide +kernel
theorem dX6_init_85 : decode cX6_init 85 = .ok (.iload_n 1, 1) := by decide +kernel
theorem dX6_init_86 : decode cX6_init 86 = .ok (.iconst 3, 1) := by decide +kernel
theorem dX6_init_87 : decode cX6_init 87 = .ok (.if_icmp .ge 22, 3) := by decide +kernel
theorem dX6_init_90 : decode cX6_init 90 = .ok (.aload_n 0, 1) := by decide +kernel
theorem dX6_init_91 : decode cX6_init 91 = .ok (.getfield 50, 3) := by decide +kernel
theorem dX6_init_94 : decode cX6_init 94 = .ok (.iload_n 1, 1) := by decide +kernel
theorem dX6_init_95 : decode cX6_init 95 = .ok (.new 48, 3) := by decide +kernel
theorem dX6_init_98 : decode cX6_init 98 = .ok (.dup, 1) := by decide +kernel
theorem dX6_init_99 : decode cX6_init 99 = .ok (.invokespecial 58, 3) := by decide +kernel
theorem dX6_init_102 : decode cX6_init 102 = .ok (.aastore, 1) := by decide +kernel
theorem dX6_init_103 : decode cX6_init 103 = .ok (.iinc 1 1, 3) := by decide +kernel
theorem dX6_init_106 : decode cX6_init 106 = .ok (.goto (-21), 3) := by decide +kernel
theorem dX6_init_109 : decode cX6_init 109 = .ok (.return_, 1) := by decide +kernel
theorem dX6_write_0 : decode cX6_write 0 = .ok (.iload_n 3, 1) := by decide +kernel
theorem dX6_write_1 : decode cX6_write 1 = .ok (.iconst 1, 1) := by decide +kernel
theorem dX6_write_2 : decode cX6_write 2 = .ok (.if_icmp .lt 9, 3) := by decide +kernel
theorem dX6_write_5 : decode cX6_write 5 = .ok (.iload_n 3, 1) := by decide +kernel
theorem dX6_write_6 : decode cX6_write 6 = .ok (.bipush 8, 2) := by decide +kernel
theorem dX6_write_8 : decode cX6_write 8 = .ok (.if_icmp .le 6, 3) := by decide +kernel
theorem dX6_write_11 : decode cX6_write 11 = .ok (.bipush (-3), 2) := by decide +kernel
theorem dX6_write_13 : decode cX6_write 13 = .ok (.ireturn, 1) := by decide +kernel
theorem dX6_write_14 : decode cX6_write 14 = .ok (.aload_n 0, 1) := by decide +kernel
theorem dX6_write_15 : decode cX6_write 15 = .ok (.getfield 23, 3) := by decide +kernel
theorem dX6_write_18 : decode cX6_write 18 = .ok (.lload_n 1, 1) := by decide +kernel
theorem dX6_write_19 : decode cX6_write 19 = .ok (.iload_n 3, 1) := by decide +kernel
theorem dX6_write_20 : decode cX6_write 20 = .ok (.invokevirtual 59, 3) := by decide +kernel
theorem dX6_write_23 : decode cX6_write 23 = .ok (.ifCond .eq 13, 3) := by decide +kernel
theorem dX6_write_26 : decode cX6_write 26 = .ok (.aload_n 0, 1) := by decide +kernel
theorem dX6_write_27 : decode cX6_write 27 = .ok (.getfield 23, 3) := by decide +kernel
theorem dX6_write_30 : decode cX6_write 30 = .ok (.getfield 63, 3) := by decide +kernel
theorem dX6_write_33 : decode cX6_write 33 = .ok (.goto 5, 3) := by decide +kernel
theorem dX6_write_36 : decode cX6_write 36 = .ok (.bipush (-5), 2) := by decide +kernel
theorem dX6_write_38 : decode cX6_write 38 = .ok (.ireturn, 1) := by decide +kernel
theorem dX6_erase_0 : decode cX6_erase 0 = .ok (.aload_n 0, 1) := by decide +kernel
theorem dX6_erase_1 : decode cX6_erase 1 = .ok (.getfield 23, 3) := by decide +kernel
theorem dX6_erase_4 : decode cX6_erase 4 = .ok (.getfield 63, 3) := by decide +kernel
theorem dX6_erase_7 : decode cX6_erase 7 = .ok (.istore_n 1, 1) := by decide +kernel
theorem dX6_erase_8 : decode cX6_erase 8 = .ok (.aload_n 0, 1) := by decide +kernel
theorem dX6_erase_9 : decode cX6_erase 9 = .ok (.getfield 23, 3) := by decide +kernel
theorem dX6_erase_12 : decode cX6_erase 12 = .ok (.iconst 0, 1) := by decide +kernel
theorem dX6_erase_13 : decode cX6_erase 13 = .ok (.putfield 63, 3) := by decide +kernel
theorem dX6_erase_16 : decode cX6_erase 16 = .ok (.iload_n 1, 1) := by decide +kernel
theorem dX6_erase_17 : decode cX6_erase 17 = .ok (.ireturn, 1) := by decide +kernel
theorem dX6_fault_0 : decode cX6_fault 0 = .ok (.aload_n 0, 1) := by decide +kernel
theorem dX6_fault_1 : decode cX6_fault 1 = .ok (.getfield 23, 3) := by decide +kernel
theorem dX6_fault_4 : decode cX6_fault 4 = .ok (.aload_n 0, 1) := by decide +kernel
theorem dX6_fault_5 : decode cX6_fault 5 = .ok (.getfield 10, 3) := by decide +kernel
theorem dX6_fault_8 : decode cX6_fault 8 = .ok (.invokevirtual 67, 3) := by decide +kernel
theorem dX6_fault_11 : decode cX6_fault 11 = .ok (.ireturn, 1) := by decide +kernel
theorem dX6_told_0 : decode cX6_told 0 = .ok (.aload_n 0, 1) := by decide +kernel
theorem dX6_told_1 : decode cX6_told 1 = .ok (.getfield 23, 3) := by decide +kernel
theorem dX6_told_4 : decode cX6_told 4 = .ok (.aload_n 0, 1) := by decide +kernel
theorem dX6_told_5 : decode cX6_told 5 = .ok (.getfield 10, 3) := by decide +kernel
theorem dX6_told_8 : decode cX6_told 8 = .ok (.invokevirtual 67, 3) := by decide +kernel
theorem dX6_told_11 : decode cX6_told 11 = .ok (.iconst (-1), 1) := by decide +kernel
theorem dX6_told_12 : decode cX6_told 12 = .ok (.if_icmp .eq 6, 3) := by decide +kernel
theorem dX6_told_15 : decode cX6_told 15 = .ok (.bipush (-4), 2) := by decide +kernel
theorem dX6_told_17 : decode cX6_told 17 = .ok (.ireturn, 1) := by decide +kernel
theorem dX6_told_18 : decode cX6_told 18 = .ok (.aload_n 0, 1) := by decide +kernel
theorem dX6_told_19 : decode cX6_told 19 = .ok (.getfield 10, 3) := by decide +kernel
theorem dX6_told_22 : decode cX6_told 22 = .ok (.aload_n 0, 1) := by decide +kernel
theorem dX6_told_23 : decode cX6_told 23 = .ok (.getfield 23, 3) := by decide +kernel
theorem dX6_told_26 : decode cX6_told 26 = .ok (.getfield 71, 3) := by decide +kernel
theorem dX6_told_29 : decode cX6_told 29 = .ok (.invokevirtual 74, 3) := by decide +kernel
theorem dX6_told_32 : decode cX6_told 32 = .ok (.aload_n 0, 1) := by decide +kernel
theorem dX6_told_33 : decode cX6_told 33 = .ok (.getfield 23, 3) := by decide +kernel
theorem dX6_told_36 : decode cX6_told 36 = .ok (.iconst 0, 1) := by decide +kernel
theorem dX6_told_37 : decode cX6_told 37 = .ok (.putfield 63, 3) := by decide +kernel
theorem dX6_told_40 : decode cX6_told 40 = .ok (.aload_n 0, 1) := by decide +kernel
theorem dX6_told_41 : decode cX6_told 41 = .ok (.getfield 23, 3) := by decide +kernel
theorem dX6_told_44 : decode cX6_told 44 = .ok (.getfield 78, 3) := by decide +kernel
theorem dX6_told_47 : decode cX6_told 47 = .ok (.ireturn, 1) := by decide +kernel
theorem dX6_letter_0 : decode cX6_letter 0 = .ok (.iload_n 1, 1) := by decide +kernel
theorem dX6_letter_1 : decode cX6_letter 1 = .ok (.invokestatic 81, 3) := by decide +kernel
theorem dX6_letter_4 : decode cX6_letter 4 = .ok (.ifCond .eq 15, 3) := by decide +kernel
theorem dX6_letter_7 : decode cX6_letter 7 = .ok (.aload_n 0, 1) := by decide +kernel
theorem dX6_letter_8 : decode cX6_letter 8 = .ok (.getfield 10, 3) := by decide +kernel
theorem dX6_letter_11 : decode cX6_letter 11 = .ok (.getfield 85, 3) := by decide +kernel
theorem dX6_letter_14 : decode cX6_letter 14 = .ok (.iload_n 1, 1) := by decide +kernel
theorem dX6_letter_15 : decode cX6_letter 15 = .ok (.iaload, 1) := by decide +kernel
theorem dX6_letter_16 : decode cX6_letter 16 = .ok (.goto 5, 3) := by decide +kernel
theorem dX6_letter_19 : decode cX6_letter 19 = .ok (.bipush (-2), 2) := by decide +kernel
theorem dX6_letter_21 : decode cX6_letter 21 = .ok (.ireturn, 1) := by decide +kernel
theorem dX6_person_0 : decode cX6_person 0 = .ok (.aload_n 0, 1) := by decide +kernel
theorem dX6_person_1 : decode cX6_person 1 = .ok (.getfield 10, 3) := by decide +kernel
theorem dX6_person_4 : decode cX6_person 4 = .ok (.iload_n 1, 1) := by decide +kernel
theorem dX6_person_5 : decode cX6_person 5 = .ok (.invokevirtual 88, 3) := by decide +kernel
theorem dX6_person_8 : decode cX6_person 8 = .ok (.ifCond .ne 6, 3) := by decide +kernel
theorem dX6_person_11 : decode cX6_person 11 = .ok (.bipush (-2), 2) := by decide +kernel
theorem dX6_person_13 : decode cX6_person 13 = .ok (.ireturn, 1) := by decide +kernel
theorem dX6_person_14 : decode cX6_person 14 = .ok (.iload_n 2, 1) := by decide +kernel
theorem dX6_person_15 : decode cX6_person 15 = .ok (.tableswitch 82 0 4 #[33, 43, 53, 63, 73], 33) := by decide +kernel
theorem dX6_person_48 : decode cX6_person 48 = .ok (.aload_n 0, 1) := by decide +kernel
theorem dX6_person_49 : decode cX6_person 49 = .ok (.getfield 10, 3) := by decide +kernel
theorem dX6_person_52 : decode cX6_person 52 = .ok (.getfield 91, 3) := by decide +kernel
theorem dX6_person_55 : decode cX6_person 55 = .ok (.iload_n 1, 1) := by decide +kernel
theorem dX6_person_56 : decode cX6_person 56 = .ok (.iaload, 1) := by decide +kernel
theorem dX6_person_57 : decode cX6_person 57 = .ok (.ireturn, 1) := by decide +kernel
theorem dX6_person_58 : decode cX6_person 58 = .ok (.aload_n 0, 1) := by decide +kernel
theorem dX6_person_59 : decode cX6_person 59 = .ok (.getfield 10, 3) := by decide +kernel
theorem dX6_person_62 : decode cX6_person 62 = .ok (.getfield 94, 3) := by decide +kernel
theorem dX6_person_65 : decode cX6_person 65 = .ok (.iload_n 1, 1) := by decide +kernel
theorem dX6_person_66 : decode cX6_person 66 = .ok (.iaload, 1) := by decide +kernel
theorem dX6_person_67 : decode cX6_person 67 = .ok (.ireturn, 1) := by decide +kernel
theorem dX6_person_68 : decode cX6_person 68 = .ok (.aload_n 0, 1) := by decide +kernel
theorem dX6_person_69 : decode cX6_person 69 = .ok (.getfield 10, 3) := by decide +kernel
theorem dX6_person_72 : decode cX6_person 72 = .ok (.getfield 97, 3) := by decide +kernel
theorem dX6_person_75 : decode cX6_person 75 = .ok (.iload_n 1, 1) := by decide +kernel
theorem dX6_person_76 : decode cX6_person 76 = .ok (.iaload, 1) := by decide +kernel
theorem dX6_person_77 : decode cX6_person 77 = .ok (.ireturn, 1) := by decide +kernel
theorem dX6_person_78 : decode cX6_person 78 = .ok (.aload_n 0, 1) := by decide +kernel
theorem dX6_person_79 : decode cX6_person 79 = .ok (.getfield 10, 3) := by decide +kernel
theorem dX6_person_82 : decode cX6_person 82 = .ok (.getfield 100, 3) := by decide +kernel
theorem dX6_person_85 : decode cX6_person 85 = .ok (.iload_n 1, 1) := by decide +kernel
theorem dX6_person_86 : decode cX6_person 86 = .ok (.iaload, 1) := by decide +kernel
theorem dX6_person_87 : decode cX6_person 87 = .ok (.ireturn, 1) := by decide +kernel
theorem dX6_person_88 : decode cX6_person 88 = .ok (.aload_n 0, 1) := by decide +kernel
theorem dX6_person_89 : decode cX6_person 89 = .ok (.getfield 10, 3) := by decide +kernel
theorem dX6_person_92 : decode cX6_person 92 = .ok (.iload_n 1, 1) := by decide +kernel
theorem dX6_person_93 : decode cX6_person 93 = .ok (.invokevirtual 103, 3) := by decide +kernel
theorem dX6_person_96 : decode cX6_person 96 = .ok (.ireturn, 1) := by decide +kernel
theorem dX6_person_97 : decode cX6_person 97 = .ok (.bipush (-3), 2) := by decide +kernel
theorem dX6_person_99 : decode cX6_person 99 = .ok (.ireturn, 1) := by decide +kernel
theorem dX6_called_0 : decode cX6_called 0 = .ok (.aload_n 0, 1) := by decide +kernel
theorem dX6_called_1 : decode cX6_called 1 = .ok (.getfield 10, 3) := by decide +kernel
theorem dX6_called_4 : decode cX6_called 4 = .ok (.iload_n 1, 1) := by decide +kernel
theorem dX6_called_5 : decode cX6_called 5 = .ok (.invokevirtual 88, 3) := by decide +kernel
theorem dX6_called_8 : decode cX6_called 8 = .ok (.ifCond .eq 15, 3) := by decide +kernel
theorem dX6_called_11 : decode cX6_called 11 = .ok (.aload_n 0, 1) := by decide +kernel
theorem dX6_called_12 : decode cX6_called 12 = .ok (.getfield 10, 3) := by decide +kernel
theorem dX6_called_15 : decode cX6_called 15 = .ok (.getfield 107, 3) := by decide +kernel
theorem dX6_called_18 : decode cX6_called 18 = .ok (.iload_n 1, 1) := by decide +kernel
theorem dX6_called_19 : decode cX6_called 19 = .ok (.laload, 1) := by decide +kernel
theorem dX6_called_20 : decode cX6_called 20 = .ok (.goto 6, 3) := by decide +kernel
theorem dX6_called_23 : decode cX6_called 23 = .ok (.ldc2_w 111, 3) := by decide +kernel
theorem dX6_called_26 : decode cX6_called 26 = .ok (.lreturn, 1) := by decide +kernel
theorem dX6_degrees_0 : decode cX6_degrees 0 = .ok (.aload_n 0, 1) := by decide +kernel
theorem dX6_degrees_1 : decode cX6_degrees 1 = .ok (.getfield 10, 3) := by decide +kernel
theorem dX6_degrees_4 : decode cX6_degrees 4 = .ok (.iload_n 1, 1) := by decide +kernel
theorem dX6_degrees_5 : decode cX6_degrees 5 = .ok (.invokevirtual 88, 3) := by decide +kernel
theorem dX6_degrees_8 : decode cX6_degrees 8 = .ok (.ifCond .eq 14, 3) := by decide +kernel
theorem dX6_degrees_11 : decode cX6_degrees 11 = .ok (.aload_n 0, 1) := by decide +kernel
theorem dX6_degrees_12 : decode cX6_degrees 12 = .ok (.getfield 10, 3) := by decide +kernel
theorem dX6_degrees_15 : decode cX6_degrees 15 = .ok (.iload_n 2, 1) := by decide +kernel
theorem dX6_degrees_16 : decode cX6_degrees 16 = .ok (.invokevirtual 88, 3) := by decide +kernel
theorem dX6_degrees_19 : decode cX6_degrees 19 = .ok (.ifCond .ne 6, 3) := by decide +kernel
theorem dX6_degrees_22 : decode cX6_degrees 22 = .ok (.bipush (-2), 2) := by decide +kernel
theorem dX6_degrees_24 : decode cX6_degrees 24 = .ok (.ireturn, 1) := by decide +kernel
theorem dX6_degrees_25 : decode cX6_degrees 25 = .ok (.aload_n 0, 1) := by decide +kernel
theorem dX6_degrees_26 : decode cX6_degrees 26 = .ok (.getfield 10, 3) := by decide +kernel
theorem dX6_degrees_29 : decode cX6_degrees 29 = .ok (.iload_n 1, 1) := by decide +kernel
theorem dX6_degrees_30 : decode cX6_degrees 30 = .ok (.iload_n 2, 1) := by decide +kernel
theorem dX6_degrees_31 : decode cX6_degrees 31 = .ok (.invokevirtual 113, 3) := by decide +kernel
theorem dX6_degrees_34 : decode cX6_degrees 34 = .ok (.ireturn, 1) := by decide +kernel
theorem dX6_as_0 : decode cX6_as 0 = .ok (.aload_n 0, 1) := by decide +kernel
theorem dX6_as_1 : decode cX6_as 1 = .ok (.getfield 10, 3) := by decide +kernel
theorem dX6_as_4 : decode cX6_as 4 = .ok (.iload_n 1, 1) := by decide +kernel
theorem dX6_as_5 : decode cX6_as 5 = .ok (.invokevirtual 88, 3) := by decide +kernel
theorem dX6_as_8 : decode cX6_as 8 = .ok (.ifCond .ne 6, 3) := by decide +kernel
theorem dX6_as_11 : decode cX6_as 11 = .ok (.bipush (-2), 2) := by decide +kernel
theorem dX6_as_13 : decode cX6_as 13 = .ok (.ireturn, 1) := by decide +kernel
theorem dX6_as_14 : decode cX6_as 14 = .ok (.iload_n 2, 1) := by decide +kernel
theorem dX6_as_15 : decode cX6_as 15 = .ok (.ifCond .lt 8, 3) := by decide +kernel
theorem dX6_as_18 : decode cX6_as 18 = .ok (.iload_n 2, 1) := by decide +kernel
theorem dX6_as_19 : decode cX6_as 19 = .ok (.iconst 3, 1) := by decide +kernel
theorem dX6_as_20 : decode cX6_as 20 = .ok (.if_icmp .le 6, 3) := by decide +kernel
theorem dX6_as_23 : decode cX6_as 23 = .ok (.bipush (-3), 2) := by decide +kernel
theorem dX6_as_25 : decode cX6_as 25 = .ok (.ireturn, 1) := by decide +kernel
theorem dX6_as_26 : decode cX6_as 26 = .ok (.aload_n 0, 1) := by decide +kernel
theorem dX6_as_27 : decode cX6_as 27 = .ok (.getfield 10, 3) := by decide +kernel
theorem dX6_as_30 : decode cX6_as 30 = .ok (.getfield 100, 3) := by decide +kernel
theorem dX6_as_33 : decode cX6_as 33 = .ok (.iload_n 1, 1) := by decide +kernel
theorem dX6_as_34 : decode cX6_as 34 = .ok (.iaload, 1) := by decide +kernel
theorem dX6_as_35 : decode cX6_as 35 = .ok (.iload_n 2, 1) := by decide +kernel
theorem dX6_as_36 : decode cX6_as 36 = .ok (.invokestatic 117, 3) := by decide +kernel
theorem dX6_as_39 : decode cX6_as 39 = .ok (.ifCond .eq 17, 3) := by decide +kernel
theorem dX6_as_42 : decode cX6_as 42 = .ok (.aload_n 0, 1) := by decide +kernel
theorem dX6_as_43 : decode cX6_as 43 = .ok (.getfield 10, 3) := by decide +kernel
theorem dX6_as_46 : decode cX6_as 46 = .ok (.iload_n 1, 1) := by decide +kernel
theorem dX6_as_47 : decode cX6_as 47 = .ok (.invokevirtual 103, 3) := by decide +kernel
theorem dX6_as_50 : decode cX6_as 50 = .ok (.invokestatic 121, 3) := by decide +kernel
theorem dX6_as_53 : decode cX6_as 53 = .ok (.goto 5, 3) := by decide +kernel
theorem dX6_as_56 : decode cX6_as 56 = .ok (.bipush (-4), 2) := by decide +kernel
theorem dX6_as_58 : decode cX6_as 58 = .ok (.ireturn, 1) := by decide +kernel
theorem dX6_isOfKind_0 : decode cX6_isOfKind 0 = .ok (.iload_n 1, 1) := by decide +kernel
theorem dX6_isOfKind_1 : decode cX6_isOfKind 1 = .ok (.tableswitch 64 1 3 #[27, 37, 53], 27) := by decide +kernel
theorem dX6_isOfKind_28 : decode cX6_isOfKind 28 = .ok (.iload_n 0, 1) := by decide +kernel
theorem dX6_isOfKind_29 : decode cX6_isOfKind 29 = .ok (.ifCond .ne 7, 3) := by decide +kernel
theorem dX6_isOfKind_32 : decode cX6_isOfKind 32 = .ok (.iconst 1, 1) := by decide +kernel
theorem dX6_isOfKind_33 : decode cX6_isOfKind 33 = .ok (.goto 4, 3) := by decide +kernel
theorem dX6_isOfKind_36 : decode cX6_isOfKind 36 = .ok (.iconst 0, 1) := by decide +kernel
theorem dX6_isOfKind_37 : decode cX6_isOfKind 37 = .ok (.ireturn, 1) := by decide +kernel
theorem dX6_isOfKind_38 : decode cX6_isOfKind 38 = .ok (.iload_n 0, 1) := by decide +kernel
theorem dX6_isOfKind_39 : decode cX6_isOfKind 39 = .ok (.iconst 1, 1) := by decide +kernel
theorem dX6_isOfKind_40 : decode cX6_isOfKind 40 = .ok (.if_icmp .eq 8, 3) := by decide +kernel
theorem dX6_isOfKind_43 : decode cX6_isOfKind 43 = .ok (.iload_n 0, 1) := by decide +kernel
theorem dX6_isOfKind_44 : decode cX6_isOfKind 44 = .ok (.iconst 2, 1) := by decide +kernel
theorem dX6_isOfKind_45 : decode cX6_isOfKind 45 = .ok (.if_icmp .ne 7, 3) := by decide +kernel
theorem dX6_isOfKind_48 : decode cX6_isOfKind 48 = .ok (.iconst 1, 1) := by decide +kernel
theorem dX6_isOfKind_49 : decode cX6_isOfKind 49 = .ok (.goto 4, 3) := by decide +kernel
theorem dX6_isOfKind_52 : decode cX6_isOfKind 52 = .ok (.iconst 0, 1) := by decide +kernel
theorem dX6_isOfKind_53 : decode cX6_isOfKind 53 = .ok (.ireturn, 1) := by decide +kernel
theorem dX6_isOfKind_54 : decode cX6_isOfKind 54 = .ok (.iload_n 0, 1) := by decide +kernel
theorem dX6_isOfKind_55 : decode cX6_isOfKind 55 = .ok (.iconst 2, 1) := by decide +kernel
theorem dX6_isOfKind_56 : decode cX6_isOfKind 56 = .ok (.if_icmp .ne 7, 3) := by decide +kernel
theorem dX6_isOfKind_59 : decode cX6_isOfKind 59 = .ok (.iconst 1, 1) := by decide +kernel
theorem dX6_isOfKind_60 : decode cX6_isOfKind 60 = .ok (.goto 4, 3) := by decide +kernel
theorem dX6_isOfKind_63 : decode cX6_isOfKind 63 = .ok (.iconst 0, 1) := by decide +kernel
theorem dX6_isOfKind_64 : decode cX6_isOfKind 64 = .ok (.ireturn, 1) := by decide +kernel
theorem dX6_isOfKind_65 : decode cX6_isOfKind 65 = .ok (.iconst 1, 1) := by decide +kernel
theorem dX6_isOfKind_66 : decode cX6_isOfKind 66 = .ok (.ireturn, 1) := by decide +kernel
theorem dX6_sum_0 : decode cX6_sum 0 = .ok (.lload_n 1, 1) := by decide +kernel
theorem dX6_sum_1 : decode cX6_sum 1 = .ok (.invokestatic 126, 3) := by decide +kernel
theorem dX6_sum_4 : decode cX6_sum 4 = .ok (.ifCond .ne 8, 3) := by decide +kernel
theorem dX6_sum_7 : decode cX6_sum 7 = .ok (.bipush (-3), 2) := by decide +kernel
theorem dX6_sum_9 : decode cX6_sum 9 = .ok (.goto 11, 3) := by decide +kernel
theorem dX6_sum_12 : decode cX6_sum 12 = .ok (.aload_n 0, 1) := by decide +kernel
theorem dX6_sum_13 : decode cX6_sum 13 = .ok (.getfield 10, 3) := by decide +kernel
theorem dX6_sum_16 : decode cX6_sum 16 = .ok (.lload_n 1, 1) := by decide +kernel
theorem dX6_sum_17 : decode cX6_sum 17 = .ok (.invokevirtual 130, 3) := by decide +kernel
theorem dX6_sum_20 : decode cX6_sum 20 = .ok (.ireturn, 1) := by decide +kernel
theorem dX6_name_0 : decode cX6_name 0 = .ok (.lload_n 1, 1) := by decide +kernel
theorem dX6_name_1 : decode cX6_name 1 = .ok (.invokestatic 126, 3) := by decide +kernel
theorem dX6_name_4 : decode cX6_name 4 = .ok (.ifCond .ne 6, 3) := by decide +kernel
theorem dX6_name_7 : decode cX6_name 7 = .ok (.bipush (-3), 2) := by decide +kernel
theorem dX6_name_9 : decode cX6_name 9 = .ok (.ireturn, 1) := by decide +kernel
theorem dX6_name_10 : decode cX6_name 10 = .ok (.aload_n 0, 1) := by decide +kernel
theorem dX6_name_11 : decode cX6_name 11 = .ok (.getfield 10, 3) := by decide +kernel
theorem dX6_name_14 : decode cX6_name 14 = .ok (.lload_n 1, 1) := by decide +kernel
theorem dX6_name_15 : decode cX6_name 15 = .ok (.invokevirtual 133, 3) := by decide +kernel
theorem dX6_name_18 : decode cX6_name 18 = .ok (.ifCond .eq 7, 3) := by decide +kernel
theorem dX6_name_21 : decode cX6_name 21 = .ok (.iconst 1, 1) := by decide +kernel
theorem dX6_name_22 : decode cX6_name 22 = .ok (.goto 4, 3) := by decide +kernel
theorem dX6_name_25 : decode cX6_name 25 = .ok (.iconst 0, 1) := by decide +kernel
theorem dX6_name_26 : decode cX6_name 26 = .ok (.ireturn, 1) := by decide +kernel
theorem dX6_judge_0 : decode cX6_judge 0 = .ok (.aload_n 0, 1) := by decide +kernel
theorem dX6_judge_1 : decode cX6_judge 1 = .ok (.getfield 10, 3) := by decide +kernel
theorem dX6_judge_4 : decode cX6_judge 4 = .ok (.iload_n 1, 1) := by decide +kernel
theorem dX6_judge_5 : decode cX6_judge 5 = .ok (.invokevirtual 88, 3) := by decide +kernel
theorem dX6_judge_8 : decode cX6_judge 8 = .ok (.ifCond .eq 14, 3) := by decide +kernel
theorem dX6_judge_11 : decode cX6_judge 11 = .ok (.aload_n 0, 1) := by decide +kernel
theorem dX6_judge_12 : decode cX6_judge 12 = .ok (.getfield 10, 3) := by decide +kernel
theorem dX6_judge_15 : decode cX6_judge 15 = .ok (.iload_n 1, 1) := by decide +kernel
theorem dX6_judge_16 : decode cX6_judge 16 = .ok (.invokevirtual 137, 3) := by decide +kernel
theorem dX6_judge_19 : decode cX6_judge 19 = .ok (.goto 5, 3) := by decide +kernel
theorem dX6_judge_22 : decode cX6_judge 22 = .ok (.bipush (-2), 2) := by decide +kernel
theorem dX6_judge_24 : decode cX6_judge 24 = .ok (.ireturn, 1) := by decide +kernel
theorem dX6_taker_0 : decode cX6_taker 0 = .ok (.aload_n 0, 1) := by decide +kernel
theorem dX6_taker_1 : decode cX6_taker 1 = .ok (.getfield 10, 3) := by decide +kernel
theorem dX6_taker_4 : decode cX6_taker 4 = .ok (.iload_n 1, 1) := by decide +kernel
theorem dX6_taker_5 : decode cX6_taker 5 = .ok (.invokevirtual 88, 3) := by decide +kernel
theorem dX6_taker_8 : decode cX6_taker 8 = .ok (.ifCond .ne 6, 3) := by decide +kernel
theorem dX6_taker_11 : decode cX6_taker 11 = .ok (.bipush (-2), 2) := by decide +kernel
theorem dX6_taker_13 : decode cX6_taker 13 = .ok (.ireturn, 1) := by decide +kernel
theorem dX6_taker_14 : decode cX6_taker 14 = .ok (.aload_n 0, 1) := by decide +kernel
theorem dX6_taker_15 : decode cX6_taker 15 = .ok (.getfield 10, 3) := by decide +kernel
theorem dX6_taker_18 : decode cX6_taker 18 = .ok (.iload_n 1, 1) := by decide +kernel
theorem dX6_taker_19 : decode cX6_taker 19 = .ok (.invokevirtual 137, 3) := by decide +kernel
theorem dX6_taker_22 : decode cX6_taker 22 = .ok (.iconst 4, 1) := by decide +kernel
theorem dX6_taker_23 : decode cX6_taker 23 = .ok (.if_icmp .eq 5, 3) := by decide +kernel
theorem dX6_taker_26 : decode cX6_taker 26 = .ok (.iconst (-1), 1) := by decide +kernel
theorem dX6_taker_27 : decode cX6_taker 27 = .ok (.ireturn, 1) := by decide +kernel
theorem dX6_taker_28 : decode cX6_taker 28 = .ok (.aload_n 0, 1) := by decide +kernel
theorem dX6_taker_29 : decode cX6_taker 29 = .ok (.getfield 10, 3) := by decide +kernel
theorem dX6_taker_32 : decode cX6_taker 32 = .ok (.aload_n 0, 1) := by decide +kernel
theorem dX6_taker_33 : decode cX6_taker 33 = .ok (.getfield 10, 3) := by decide +kernel
theorem dX6_taker_36 : decode cX6_taker 36 = .ok (.getfield 107, 3) := by decide +kernel
theorem dX6_taker_39 : decode cX6_taker 39 = .ok (.iload_n 1, 1) := by decide +kernel
theorem dX6_taker_40 : decode cX6_taker 40 = .ok (.laload, 1) := by decide +kernel
theorem dX6_taker_41 : decode cX6_taker 41 = .ok (.aload_n 0, 1) := by decide +kernel
theorem dX6_taker_42 : decode cX6_taker 42 = .ok (.getfield 10, 3) := by decide +kernel
theorem dX6_taker_45 : decode cX6_taker 45 = .ok (.iload_n 1, 1) := by decide +kernel
theorem dX6_taker_46 : decode cX6_taker 46 = .ok (.invokevirtual 103, 3) := by decide +kernel
theorem dX6_taker_49 : decode cX6_taker 49 = .ok (.invokevirtual 140, 3) := by decide +kernel
theorem dX6_taker_52 : decode cX6_taker 52 = .ok (.ireturn, 1) := by decide +kernel
theorem dX6_names_0 : decode cX6_names 0 = .ok (.iload_n 1, 1) := by decide +kernel
theorem dX6_names_1 : decode cX6_names 1 = .ok (.invokestatic 144, 3) := by decide +kernel
theorem dX6_names_4 : decode cX6_names 4 = .ok (.ifCond .eq 13, 3) := by decide +kernel
theorem dX6_names_7 : decode cX6_names 7 = .ok (.iload_n 2, 1) := by decide +kernel
theorem dX6_names_8 : decode cX6_names 8 = .ok (.ifCond .lt 9, 3) := by decide +kernel
theorem dX6_names_11 : decode cX6_names 11 = .ok (.iload_n 2, 1) := by decide +kernel
theorem dX6_names_12 : decode cX6_names 12 = .ok (.bipush 9, 2) := by decide +kernel
theorem dX6_names_14 : decode cX6_names 14 = .ok (.if_icmp .le 6, 3) := by decide +kernel
theorem dX6_names_17 : decode cX6_names 17 = .ok (.bipush (-3), 2) := by decide +kernel
theorem dX6_names_19 : decode cX6_names 19 = .ok (.ireturn, 1) := by decide +kernel
theorem dX6_names_20 : decode cX6_names 20 = .ok (.aload_n 0, 1) := by decide +kernel
theorem dX6_names_21 : decode cX6_names 21 = .ok (.getfield 30, 3) := by decide +kernel
theorem dX6_names_24 : decode cX6_names 24 = .ok (.aload_n 0, 1) := by decide +kernel
theorem dX6_names_25 : decode cX6_names 25 = .ok (.getfield 10, 3) := by decide +kernel
theorem dX6_names_28 : decode cX6_names 28 = .ok (.iload_n 1, 1) := by decide +kernel
theorem dX6_names_29 : decode cX6_names 29 = .ok (.iconst 0, 1) := by decide +kernel
theorem dX6_names_30 : decode cX6_names 30 = .ok (.invokevirtual 147, 3) := by decide +kernel
theorem dX6_names_33 : decode cX6_names 33 = .ok (.iload_n 2, 1) := by decide +kernel
theorem dX6_names_34 : decode cX6_names 34 = .ok (.ifCond .ne 11, 3) := by decide +kernel
theorem dX6_names_37 : decode cX6_names 37 = .ok (.aload_n 0, 1) := by decide +kernel
theorem dX6_names_38 : decode cX6_names 38 = .ok (.getfield 30, 3) := by decide +kernel
theorem dX6_names_41 : decode cX6_names 41 = .ok (.getfield 151, 3) := by decide +kernel
theorem dX6_names_44 : decode cX6_names 44 = .ok (.ireturn, 1) := by decide +kernel
theorem dX6_names_45 : decode cX6_names 45 = .ok (.iconst 0, 1) := by decide +kernel
theorem dX6_names_46 : decode cX6_names 46 = .ok (.istore_n 3, 1) := by decide +kernel
theorem dX6_names_47 : decode cX6_names 47 = .ok (.iconst 0, 1) := by decide +kernel
theorem dX6_names_48 : decode cX6_names 48 = .ok (.istore 4, 2) := by decide +kernel
theorem dX6_names_50 : decode cX6_names 50 = .ok (.iload 4, 2) := by decide +kernel
theorem dX6_names_52 : decode cX6_names 52 = .ok (.aload_n 0, 1) := by decide +kernel
theorem dX6_names_53 : decode cX6_names 53 = .ok (.getfield 30, 3) := by decide +kernel
theorem dX6_names_56 : decode cX6_names 56 = .ok (.getfield 151, 3) := by decide +kernel
theorem dX6_names_59 : decode cX6_names 59 = .ok (.if_icmp .ge 29, 3) := by decide +kernel
theorem dX6_names_62 : decode cX6_names 62 = .ok (.aload_n 0, 1) := by decide +kernel
theorem dX6_names_63 : decode cX6_names 63 = .ok (.getfield 30, 3) := by decide +kernel
theorem dX6_names_66 : decode cX6_names 66 = .ok (.getfield 154, 3) := by decide +kernel
theorem dX6_names_69 : decode cX6_names 69 = .ok (.iload 4, 2) := by decide +kernel
theorem dX6_names_71 : decode cX6_names 71 = .ok (.laload, 1) := by decide +kernel
theorem dX6_names_72 : decode cX6_names 72 = .ok (.invokestatic 126, 3) := by decide +kernel
theorem dX6_names_75 : decode cX6_names 75 = .ok (.iload_n 2, 1) := by decide +kernel
theorem dX6_names_76 : decode cX6_names 76 = .ok (.if_icmp .ne 6, 3) := by decide +kernel
theorem dX6_names_79 : decode cX6_names 79 = .ok (.iinc 3 1, 3) := by decide +kernel
theorem dX6_names_82 : decode cX6_names 82 = .ok (.iinc 4 1, 3) := by decide +kernel
theorem dX6_names_85 : decode cX6_names 85 = .ok (.goto (-35), 3) := by decide +kernel
theorem dX6_names_88 : decode cX6_names 88 = .ok (.iload_n 3, 1) := by decide +kernel
theorem dX6_names_89 : decode cX6_names 89 = .ok (.ireturn, 1) := by decide +kernel
theorem dX6_which_0 : decode cX6_which 0 = .ok (.iload_n 1, 1) := by decide +kernel
theorem dX6_which_1 : decode cX6_which 1 = .ok (.invokestatic 144, 3) := by decide +kernel
theorem dX6_which_4 : decode cX6_which 4 = .ok (.ifCond .eq 7, 3) := by decide +kernel
theorem dX6_which_7 : decode cX6_which 7 = .ok (.iload_n 2, 1) := by decide +kernel
theorem dX6_which_8 : decode cX6_which 8 = .ok (.ifCond .ge 7, 3) := by decide +kernel
theorem dX6_which_11 : decode cX6_which 11 = .ok (.ldc2_w 157, 3) := by decide +kernel
theorem dX6_which_14 : decode cX6_which 14 = .ok (.lreturn, 1) := by decide +kernel
theorem dX6_which_15 : decode cX6_which 15 = .ok (.aload_n 0, 1) := by decide +kernel
theorem dX6_which_16 : decode cX6_which 16 = .ok (.getfield 30, 3) := by decide +kernel
theorem dX6_which_19 : decode cX6_which 19 = .ok (.aload_n 0, 1) := by decide +kernel
theorem dX6_which_20 : decode cX6_which 20 = .ok (.getfield 10, 3) := by decide +kernel
theorem dX6_which_23 : decode cX6_which 23 = .ok (.iload_n 1, 1) := by decide +kernel
theorem dX6_which_24 : decode cX6_which 24 = .ok (.iconst 0, 1) := by decide +kernel
theorem dX6_which_25 : decode cX6_which 25 = .ok (.invokevirtual 147, 3) := by decide +kernel
theorem dX6_which_28 : decode cX6_which 28 = .ok (.iload_n 2, 1) := by decide +kernel
theorem dX6_which_29 : decode cX6_which 29 = .ok (.aload_n 0, 1) := by decide +kernel
theorem dX6_which_30 : decode cX6_which 30 = .ok (.getfield 30, 3) := by decide +kernel
theorem dX6_which_33 : decode cX6_which 33 = .ok (.getfield 151, 3) := by decide +kernel
theorem dX6_which_36 : decode cX6_which 36 = .ok (.if_icmp .ge 15, 3) := by decide +kernel
theorem dX6_which_39 : decode cX6_which 39 = .ok (.aload_n 0, 1) := by decide +kernel
theorem dX6_which_40 : decode cX6_which 40 = .ok (.getfield 30, 3) := by decide +kernel
theorem dX6_which_43 : decode cX6_which 43 = .ok (.getfield 154, 3) := by decide +kernel
theorem dX6_which_46 : decode cX6_which 46 = .ok (.iload_n 2, 1) := by decide +kernel
theorem dX6_which_47 : decode cX6_which 47 = .ok (.laload, 1) := by decide +kernel
theorem dX6_which_48 : decode cX6_which 48 = .ok (.goto 6, 3) := by decide +kernel
theorem dX6_which_51 : decode cX6_which 51 = .ok (.ldc2_w 159, 3) := by decide +kernel
theorem dX6_which_54 : decode cX6_which 54 = .ok (.lreturn, 1) := by decide +kernel
theorem dX6_free_0 : decode cX6_free 0 = .ok (.aload_n 0, 1) := by decide +kernel
theorem dX6_free_1 : decode cX6_free 1 = .ok (.getfield 10, 3) := by decide +kernel
theorem dX6_free_4 : decode cX6_free 4 = .ok (.iload_n 1, 1) := by decide +kernel
theorem dX6_free_5 : decode cX6_free 5 = .ok (.invokevirtual 88, 3) := by decide +kernel
theorem dX6_free_8 : decode cX6_free 8 = .ok (.ifCond .ne 7, 3) := by decide +kernel
theorem dX6_free_11 : decode cX6_free 11 = .ok (.ldc2_w 111, 3) := by decide +kernel
theorem dX6_free_14 : decode cX6_free 14 = .ok (.lreturn, 1) := by decide +kernel
theorem dX6_free_15 : decode cX6_free 15 = .ok (.iload_n 2, 1) := by decide +kernel
theorem dX6_free_16 : decode cX6_free 16 = .ok (.iconst (-1), 1) := by decide +kernel
theorem dX6_free_17 : decode cX6_free 17 = .ok (.if_icmp .ge 7, 3) := by decide +kernel
theorem dX6_free_20 : decode cX6_free 20 = .ok (.ldc2_w 157, 3) := by decide +kernel
theorem dX6_free_23 : decode cX6_free 23 = .ok (.lreturn, 1) := by decide +kernel
theorem dX6_free_24 : decode cX6_free 24 = .ok (.aload_n 0, 1) := by decide +kernel
theorem dX6_free_25 : decode cX6_free 25 = .ok (.getfield 30, 3) := by decide +kernel
theorem dX6_free_28 : decode cX6_free 28 = .ok (.aload_n 0, 1) := by decide +kernel
theorem dX6_free_29 : decode cX6_free 29 = .ok (.getfield 10, 3) := by decide +kernel
theorem dX6_free_32 : decode cX6_free 32 = .ok (.aload_n 0, 1) := by decide +kernel
theorem dX6_free_33 : decode cX6_free 33 = .ok (.getfield 10, 3) := by decide +kernel
theorem dX6_free_36 : decode cX6_free 36 = .ok (.getfield 91, 3) := by decide +kernel
theorem dX6_free_39 : decode cX6_free 39 = .ok (.iload_n 1, 1) := by decide +kernel
theorem dX6_free_40 : decode cX6_free 40 = .ok (.iaload, 1) := by decide +kernel
theorem dX6_free_41 : decode cX6_free 41 = .ok (.iconst 0, 1) := by decide +kernel
theorem dX6_free_42 : decode cX6_free 42 = .ok (.invokevirtual 147, 3) := by decide +kernel
theorem dX6_free_45 : decode cX6_free 45 = .ok (.aload_n 0, 1) := by decide +kernel
theorem dX6_free_46 : decode cX6_free 46 = .ok (.getfield 30, 3) := by decide +kernel
theorem dX6_free_49 : decode cX6_free 49 = .ok (.aload_n 0, 1) := by decide +kernel
theorem dX6_free_50 : decode cX6_free 50 = .ok (.getfield 10, 3) := by decide +kernel
theorem dX6_free_53 : decode cX6_free 53 = .ok (.aload_n 0, 1) := by decide +kernel
theorem dX6_free_54 : decode cX6_free 54 = .ok (.getfield 10, 3) := by decide +kernel
theorem dX6_free_57 : decode cX6_free 57 = .ok (.iload_n 1, 1) := by decide +kernel
theorem dX6_free_58 : decode cX6_free 58 = .ok (.invokevirtual 103, 3) := by decide +kernel
theorem dX6_free_61 : decode cX6_free 61 = .ok (.invokevirtual 161, 3) := by decide +kernel
theorem dX6_free_64 : decode cX6_free 64 = .ok (.iload_n 2, 1) := by decide +kernel
theorem dX6_free_65 : decode cX6_free 65 = .ok (.iconst (-1), 1) := by decide +kernel
theorem dX6_free_66 : decode cX6_free 66 = .ok (.if_icmp .ne 12, 3) := by decide +kernel
theorem dX6_free_69 : decode cX6_free 69 = .ok (.aload_n 0, 1) := by decide +kernel
theorem dX6_free_70 : decode cX6_free 70 = .ok (.getfield 30, 3) := by decide +kernel
theorem dX6_free_73 : decode cX6_free 73 = .ok (.getfield 151, 3) := by decide +kernel
theorem dX6_free_76 : decode cX6_free 76 = .ok (.i2l, 1) := by decide +kernel
theorem dX6_free_77 : decode cX6_free 77 = .ok (.lreturn, 1) := by decide +kernel
theorem dX6_free_78 : decode cX6_free 78 = .ok (.iload_n 2, 1) := by decide +kernel
theorem dX6_free_79 : decode cX6_free 79 = .ok (.aload_n 0, 1) := by decide +kernel
theorem dX6_free_80 : decode cX6_free 80 = .ok (.getfield 30, 3) := by decide +kernel
theorem dX6_free_83 : decode cX6_free 83 = .ok (.getfield 151, 3) := by decide +kernel
theorem dX6_free_86 : decode cX6_free 86 = .ok (.if_icmp .ge 15, 3) := by decide +kernel
theorem dX6_free_89 : decode cX6_free 89 = .ok (.aload_n 0, 1) := by decide +kernel
theorem dX6_free_90 : decode cX6_free 90 = .ok (.getfield 30, 3) := by decide +kernel
theorem dX6_free_93 : decode cX6_free 93 = .ok (.getfield 154, 3) := by decide +kernel
theorem dX6_free_96 : decode cX6_free 96 = .ok (.iload_n 2, 1) := by decide +kernel
theorem dX6_free_97 : decode cX6_free 97 = .ok (.laload, 1) := by decide +kernel
theorem dX6_free_98 : decode cX6_free 98 = .ok (.goto 6, 3) := by decide +kernel
theorem dX6_free_101 : decode cX6_free 101 = .ok (.ldc2_w 159, 3) := by decide +kernel
theorem dX6_free_104 : decode cX6_free 104 = .ok (.lreturn, 1) := by decide +kernel
theorem dX6_hopes_0 : decode cX6_hopes 0 = .ok (.aload_n 0, 1) := by decide +kernel
theorem dX6_hopes_1 : decode cX6_hopes 1 = .ok (.getfield 10, 3) := by decide +kernel
theorem dX6_hopes_4 : decode cX6_hopes 4 = .ok (.iload_n 1, 1) := by decide +kernel
theorem dX6_hopes_5 : decode cX6_hopes 5 = .ok (.invokevirtual 88, 3) := by decide +kernel
theorem dX6_hopes_8 : decode cX6_hopes 8 = .ok (.ifCond .eq 14, 3) := by decide +kernel
theorem dX6_hopes_11 : decode cX6_hopes 11 = .ok (.aload_n 0, 1) := by decide +kernel
theorem dX6_hopes_12 : decode cX6_hopes 12 = .ok (.getfield 10, 3) := by decide +kernel
theorem dX6_hopes_15 : decode cX6_hopes 15 = .ok (.iload_n 2, 1) := by decide +kernel
theorem dX6_hopes_16 : decode cX6_hopes 16 = .ok (.invokevirtual 88, 3) := by decide +kernel
theorem dX6_hopes_19 : decode cX6_hopes 19 = .ok (.ifCond .ne 7, 3) := by decide +kernel
theorem dX6_hopes_22 : decode cX6_hopes 22 = .ok (.ldc2_w 111, 3) := by decide +kernel
theorem dX6_hopes_25 : decode cX6_hopes 25 = .ok (.lreturn, 1) := by decide +kernel
theorem dX6_hopes_26 : decode cX6_hopes 26 = .ok (.iload_n 1, 1) := by decide +kernel
theorem dX6_hopes_27 : decode cX6_hopes 27 = .ok (.iload_n 2, 1) := by decide +kernel
theorem dX6_hopes_28 : decode cX6_hopes 28 = .ok (.if_icmp .eq 10, 3) := by decide +kernel
theorem dX6_hopes_31 : decode cX6_hopes 31 = .ok (.iload_n 3, 1) := by decide +kernel
theorem dX6_hopes_32 : decode cX6_hopes 32 = .ok (.invokestatic 165, 3) := by decide +kernel
theorem dX6_hopes_35 : decode cX6_hopes 35 = .ok (.ifCond .ne 7, 3) := by decide +kernel
theorem dX6_hopes_38 : decode cX6_hopes 38 = .ok (.ldc2_w 157, 3) := by decide +kernel
theorem dX6_hopes_41 : decode cX6_hopes 41 = .ok (.lreturn, 1) := by decide +kernel
theorem dX6_hopes_42 : decode cX6_hopes 42 = .ok (.aload_n 0, 1) := by decide +kernel
theorem dX6_hopes_43 : decode cX6_hopes 43 = .ok (.aload_n 0, 1) := by decide +kernel
theorem dX6_hopes_44 : decode cX6_hopes 44 = .ok (.getfield 10, 3) := by decide +kernel
theorem dX6_hopes_47 : decode cX6_hopes 47 = .ok (.iload_n 1, 1) := by decide +kernel
theorem dX6_hopes_48 : decode cX6_hopes 48 = .ok (.iload_n 2, 1) := by decide +kernel
theorem dX6_hopes_49 : decode cX6_hopes 49 = .ok (.invokevirtual 168, 3) := by decide +kernel
theorem dX6_hopes_52 : decode cX6_hopes 52 = .ok (.invokevirtual 171, 3) := by decide +kernel
theorem dX6_hopes_55 : decode cX6_hopes 55 = .ok (.aload_n 0, 1) := by decide +kernel
theorem dX6_hopes_56 : decode cX6_hopes 56 = .ok (.invokevirtual 175, 3) := by decide +kernel
theorem dX6_hopes_59 : decode cX6_hopes 59 = .ok (.lstore 4, 2) := by decide +kernel
theorem dX6_hopes_61 : decode cX6_hopes 61 = .ok (.lconst 1, 1) := by decide +kernel
theorem dX6_hopes_62 : decode cX6_hopes 62 = .ok (.lstore 6, 2) := by decide +kernel
theorem dX6_hopes_64 : decode cX6_hopes 64 = .ok (.iconst 0, 1) := by decide +kernel
theorem dX6_hopes_65 : decode cX6_hopes 65 = .ok (.istore 8, 2) := by decide +kernel
theorem dX6_hopes_67 : decode cX6_hopes 67 = .ok (.iload 8, 2) := by decide +kernel
theorem dX6_hopes_69 : decode cX6_hopes 69 = .ok (.aload_n 0, 1) := by decide +kernel
theorem dX6_hopes_70 : decode cX6_hopes 70 = .ok (.getfield 10, 3) := by decide +kernel
theorem dX6_hopes_73 : decode cX6_hopes 73 = .ok (.getfield 179, 3) := by decide +kernel
theorem dX6_hopes_76 : decode cX6_hopes 76 = .ok (.if_icmp .ge 17, 3) := by decide +kernel
theorem dX6_hopes_79 : decode cX6_hopes 79 = .ok (.lload 6, 2) := by decide +kernel
theorem dX6_hopes_81 : decode cX6_hopes 81 = .ok (.ldc2_w 182, 3) := by decide +kernel
theorem dX6_hopes_84 : decode cX6_hopes 84 = .ok (.lmul, 1) := by decide +kernel
theorem dX6_hopes_85 : decode cX6_hopes 85 = .ok (.lstore 6, 2) := by decide +kernel
theorem dX6_hopes_87 : decode cX6_hopes 87 = .ok (.iinc 8 1, 3) := by decide +kernel
theorem dX6_hopes_90 : decode cX6_hopes 90 = .ok (.goto (-23), 3) := by decide +kernel
theorem dX6_hopes_93 : decode cX6_hopes 93 = .ok (.lload 4, 2) := by decide +kernel
theorem dX6_hopes_95 : decode cX6_hopes 95 = .ok (.lload 6, 2) := by decide +kernel
theorem dX6_hopes_97 : decode cX6_hopes 97 = .ok (.invokestatic 184, 3) := by decide +kernel
theorem dX6_hopes_100 : decode cX6_hopes 100 = .ok (.lstore 8, 2) := by decide +kernel
theorem dX6_hopes_102 : decode cX6_hopes 102 = .ok (.iload_n 3, 1) := by decide +kernel
theorem dX6_hopes_103 : decode cX6_hopes 103 = .ok (.ifCond .ne 8, 3) := by decide +kernel
theorem dX6_hopes_106 : decode cX6_hopes 106 = .ok (.lload 4, 2) := by decide +kernel
theorem dX6_hopes_108 : decode cX6_hopes 108 = .ok (.goto 5, 3) := by decide +kernel
theorem dX6_hopes_111 : decode cX6_hopes 111 = .ok (.lload 6, 2) := by decide +kernel
theorem dX6_hopes_113 : decode cX6_hopes 113 = .ok (.lload 8, 2) := by decide +kernel
theorem dX6_hopes_115 : decode cX6_hopes 115 = .ok (.ldiv, 1) := by decide +kernel
theorem dX6_hopes_116 : decode cX6_hopes 116 = .ok (.lreturn, 1) := by decide +kernel
theorem dX6_findRooms_0 : decode cX6_findRooms 0 = .ok (.iconst 0, 1) := by decide +kernel
theorem dX6_findRooms_1 : decode cX6_findRooms 1 = .ok (.istore_n 2, 1) := by decide +kernel
theorem dX6_findRooms_2 : decode cX6_findRooms 2 = .ok (.iload_n 2, 1) := by decide +kernel
theorem dX6_findRooms_3 : decode cX6_findRooms 3 = .ok (.aload_n 0, 1) := by decide +kernel
theorem dX6_findRooms_4 : decode cX6_findRooms 4 = .ok (.getfield 10, 3) := by decide +kernel
theorem dX6_findRooms_7 : decode cX6_findRooms 7 = .ok (.getfield 179, 3) := by decide +kernel
theorem dX6_findRooms_10 : decode cX6_findRooms 10 = .ok (.if_icmp .ge 55, 3) := by decide +kernel
theorem dX6_findRooms_13 : decode cX6_findRooms 13 = .ok (.aload_n 0, 1) := by decide +kernel
theorem dX6_findRooms_14 : decode cX6_findRooms 14 = .ok (.getfield 30, 3) := by decide +kernel
theorem dX6_findRooms_17 : decode cX6_findRooms 17 = .ok (.aload_n 0, 1) := by decide +kernel
theorem dX6_findRooms_18 : decode cX6_findRooms 18 = .ok (.getfield 10, 3) := by decide +kernel
theorem dX6_findRooms_21 : decode cX6_findRooms 21 = .ok (.aload_n 0, 1) := by decide +kernel
theorem dX6_findRooms_22 : decode cX6_findRooms 22 = .ok (.getfield 10, 3) := by decide +kernel
theorem dX6_findRooms_25 : decode cX6_findRooms 25 = .ok (.getfield 188, 3) := by decide +kernel
