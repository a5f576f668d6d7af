theorem dX0_init_0 : decode cX0_init 0 = .ok (.aload_n 0, 1) := by decide +kernel
theorem dX0_init_1 : decode cX0_init 1 = .ok (.invokespecial 3, 3) := by decide +kernel
theorem dX0_init_4 : decode cX0_init 4 = .ok (.aload_n 0, 1) := by decide +kernel
theorem dX0_init_5 : decode cX0_init 5 = .ok (.iload_n 1, 1) := by decide +kernel
theorem dX0_init_6 : decode cX0_init 6 = .ok (.ifCond .le 7, 3) := by decide +kernel
theorem dX0_init_9 : decode cX0_init 9 = .ok (.iload_n 1, 1) := by decide +kernel
theorem dX0_init_10 : decode cX0_init 10 = .ok (.goto 4, 3) := by decide +kernel
theorem dX0_init_13 : decode cX0_init 13 = .ok (.iconst 1, 1) := by decide +kernel
theorem dX0_init_14 : decode cX0_init 14 = .ok (.newarray .int, 2) := by decide +kernel
theorem dX0_init_16 : decode cX0_init 16 = .ok (.putfield 9, 3) := by decide +kernel
theorem dX0_init_19 : decode cX0_init 19 = .ok (.return_, 1) := by decide +kernel
theorem dX0_setLong_0 : decode cX0_setLong 0 = .ok (.aload_n 0, 1) := by decide +kernel
theorem dX0_setLong_1 : decode cX0_setLong 1 = .ok (.lload_n 1, 1) := by decide +kernel
theorem dX0_setLong_2 : decode cX0_setLong 2 = .ok (.lconst 0, 1) := by decide +kernel
theorem dX0_setLong_3 : decode cX0_setLong 3 = .ok (.lcmp, 1) := by decide +kernel
theorem dX0_setLong_4 : decode cX0_setLong 4 = .ok (.ifCond .le 7, 3) := by decide +kernel
theorem dX0_setLong_7 : decode cX0_setLong 7 = .ok (.iconst 1, 1) := by decide +kernel
theorem dX0_setLong_8 : decode cX0_setLong 8 = .ok (.goto 14, 3) := by decide +kernel
theorem dX0_setLong_11 : decode cX0_setLong 11 = .ok (.lload_n 1, 1) := by decide +kernel
theorem dX0_setLong_12 : decode cX0_setLong 12 = .ok (.lconst 0, 1) := by decide +kernel
theorem dX0_setLong_13 : decode cX0_setLong 13 = .ok (.lcmp, 1) := by decide +kernel
theorem dX0_setLong_14 : decode cX0_setLong 14 = .ok (.ifCond .ge 7, 3) := by decide +kernel
theorem dX0_setLong_17 : decode cX0_setLong 17 = .ok (.iconst (-1), 1) := by decide +kernel
theorem dX0_setLong_18 : decode cX0_setLong 18 = .ok (.goto 4, 3) := by decide +kernel
theorem dX0_setLong_21 : decode cX0_setLong 21 = .ok (.iconst 0, 1) := by decide +kernel
theorem dX0_setLong_22 : decode cX0_setLong 22 = .ok (.putfield 15, 3) := by decide +kernel
theorem dX0_setLong_25 : decode cX0_setLong 25 = .ok (.aload_n 0, 1) := by decide +kernel
theorem dX0_setLong_26 : decode cX0_setLong 26 = .ok (.iconst 0, 1) := by decide +kernel
theorem dX0_setLong_27 : decode cX0_setLong 27 = .ok (.putfield 19, 3) := by decide +kernel
theorem dX0_setLong_30 : decode cX0_setLong 30 = .ok (.lload_n 1, 1) := by decide +kernel
theorem dX0_setLong_31 : decode cX0_setLong 31 = .ok (.lstore_n 3, 1) := by decide +kernel
theorem dX0_setLong_32 : decode cX0_setLong 32 = .ok (.iconst 0, 1) := by decide +kernel
theorem dX0_setLong_33 : decode cX0_setLong 33 = .ok (.istore 5, 2) := by decide +kernel
theorem dX0_setLong_35 : decode cX0_setLong 35 = .ok (.iload 5, 2) := by decide +kernel
theorem dX0_setLong_37 : decode cX0_setLong 37 = .ok (.aload_n 0, 1) := by decide +kernel
theorem dX0_setLong_38 : decode cX0_setLong 38 = .ok (.getfield 9, 3) := by decide +kernel
theorem dX0_setLong_41 : decode cX0_setLong 41 = .ok (.arraylength, 1) := by decide +kernel
theorem dX0_setLong_42 : decode cX0_setLong 42 = .ok (.if_icmp .ge 47, 3) := by decide +kernel
theorem dX0_setLong_45 : decode cX0_setLong 45 = .ok (.lload_n 3, 1) := by decide +kernel
theorem dX0_setLong_46 : decode cX0_setLong 46 = .ok (.lconst 0, 1) := by decide +kernel
theorem dX0_setLong_47 : decode cX0_setLong 47 = .ok (.lcmp, 1) := by decide +kernel
theorem dX0_setLong_48 : decode cX0_setLong 48 = .ok (.ifCond .eq 41, 3) := by decide +kernel
theorem dX0_setLong_51 : decode cX0_setLong 51 = .ok (.aload_n 0, 1) := by decide +kernel
theorem dX0_setLong_52 : decode cX0_setLong 52 = .ok (.getfield 9, 3) := by decide +kernel
theorem dX0_setLong_55 : decode cX0_setLong 55 = .ok (.iload 5, 2) := by decide +kernel
theorem dX0_setLong_57 : decode cX0_setLong 57 = .ok (.aload_n 0, 1) := by decide +kernel
theorem dX0_setLong_58 : decode cX0_setLong 58 = .ok (.getfield 15, 3) := by decide +kernel
theorem dX0_setLong_61 : decode cX0_setLong 61 = .ok (.lload_n 3, 1) := by decide +kernel
theorem dX0_setLong_62 : decode cX0_setLong 62 = .ok (.ldc2_w 22, 3) := by decide +kernel
theorem dX0_setLong_65 : decode cX0_setLong 65 = .ok (.lrem, 1) := by decide +kernel
theorem dX0_setLong_66 : decode cX0_setLong 66 = .ok (.l2i, 1) := by decide +kernel
theorem dX0_setLong_67 : decode cX0_setLong 67 = .ok (.imul, 1) := by decide +kernel
theorem dX0_setLong_68 : decode cX0_setLong 68 = .ok (.iastore, 1) := by decide +kernel
theorem dX0_setLong_69 : decode cX0_setLong 69 = .ok (.lload_n 3, 1) := by decide +kernel
theorem dX0_setLong_70 : decode cX0_setLong 70 = .ok (.ldc2_w 22, 3) := by decide +kernel
theorem dX0_setLong_73 : decode cX0_setLong 73 = .ok (.ldiv, 1) := by decide +kernel
theorem dX0_setLong_74 : decode cX0_setLong 74 = .ok (.lstore_n 3, 1) := by decide +kernel
theorem dX0_setLong_75 : decode cX0_setLong 75 = .ok (.aload_n 0, 1) := by decide +kernel
theorem dX0_setLong_76 : decode cX0_setLong 76 = .ok (.iload 5, 2) := by decide +kernel
theorem dX0_setLong_78 : decode cX0_setLong 78 = .ok (.iconst 1, 1) := by decide +kernel
theorem dX0_setLong_79 : decode cX0_setLong 79 = .ok (.iadd, 1) := by decide +kernel
theorem dX0_setLong_80 : decode cX0_setLong 80 = .ok (.putfield 19, 3) := by decide +kernel
theorem dX0_setLong_83 : decode cX0_setLong 83 = .ok (.iinc 5 1, 3) := by decide +kernel
theorem dX0_setLong_86 : decode cX0_setLong 86 = .ok (.goto (-51), 3) := by decide +kernel
theorem dX0_setLong_89 : decode cX0_setLong 89 = .ok (.return_, 1) := by decide +kernel
theorem dX0_set_0 : decode cX0_set 0 = .ok (.aload_n 0, 1) := by decide +kernel
theorem dX0_set_1 : decode cX0_set 1 = .ok (.aload_n 1, 1) := by decide +kernel
theorem dX0_set_2 : decode cX0_set 2 = .ok (.getfield 19, 3) := by decide +kernel
theorem dX0_set_5 : decode cX0_set 5 = .ok (.aload_n 0, 1) := by decide +kernel
theorem dX0_set_6 : decode cX0_set 6 = .ok (.getfield 9, 3) := by decide +kernel
theorem dX0_set_9 : decode cX0_set 9 = .ok (.arraylength, 1) := by decide +kernel
theorem dX0_set_10 : decode cX0_set 10 = .ok (.invokestatic 24, 3) := by decide +kernel
theorem dX0_set_13 : decode cX0_set 13 = .ok (.putfield 19, 3) := by decide +kernel
theorem dX0_set_16 : decode cX0_set 16 = .ok (.iconst 0, 1) := by decide +kernel
theorem dX0_set_17 : decode cX0_set 17 = .ok (.istore_n 3, 1) := by decide +kernel
theorem dX0_set_18 : decode cX0_set 18 = .ok (.iload_n 3, 1) := by decide +kernel
theorem dX0_set_19 : decode cX0_set 19 = .ok (.aload_n 0, 1) := by decide +kernel
theorem dX0_set_20 : decode cX0_set 20 = .ok (.getfield 19, 3) := by decide +kernel
theorem dX0_set_23 : decode cX0_set 23 = .ok (.if_icmp .ge 21, 3) := by decide +kernel
theorem dX0_set_26 : decode cX0_set 26 = .ok (.aload_n 0, 1) := by decide +kernel
theorem dX0_set_27 : decode cX0_set 27 = .ok (.getfield 9, 3) := by decide +kernel
theorem dX0_set_30 : decode cX0_set 30 = .ok (.iload_n 3, 1) := by decide +kernel
theorem dX0_set_31 : decode cX0_set 31 = .ok (.aload_n 1, 1) := by decide +kernel
theorem dX0_set_32 : decode cX0_set 32 = .ok (.getfield 9, 3) := by decide +kernel
theorem dX0_set_35 : decode cX0_set 35 = .ok (.iload_n 3, 1) := by decide +kernel
theorem dX0_set_36 : decode cX0_set 36 = .ok (.iaload, 1) := by decide +kernel
theorem dX0_set_37 : decode cX0_set 37 = .ok (.iastore, 1) := by decide +kernel
theorem dX0_set_38 : decode cX0_set 38 = .ok (.iinc 3 1, 3) := by decide +kernel
theorem dX0_set_41 : decode cX0_set 41 = .ok (.goto (-23), 3) := by decide +kernel
theorem dX0_set_44 : decode cX0_set 44 = .ok (.aload_n 0, 1) := by decide +kernel
theorem dX0_set_45 : decode cX0_set 45 = .ok (.aload_n 1, 1) := by decide +kernel
theorem dX0_set_46 : decode cX0_set 46 = .ok (.getfield 15, 3) := by decide +kernel
theorem dX0_set_49 : decode cX0_set 49 = .ok (.iload_n 2, 1) := by decide +kernel
theorem dX0_set_50 : decode cX0_set 50 = .ok (.imul, 1) := by decide +kernel
theorem dX0_set_51 : decode cX0_set 51 = .ok (.putfield 15, 3) := by decide +kernel
theorem dX0_set_54 : decode cX0_set 54 = .ok (.return_, 1) := by decide +kernel
theorem dX0_limbAt_0 : decode cX0_limbAt 0 = .ok (.iload_n 1, 1) := by decide +kernel
theorem dX0_limbAt_1 : decode cX0_limbAt 1 = .ok (.ifCond .lt 20, 3) := by decide +kernel
theorem dX0_limbAt_4 : decode cX0_limbAt 4 = .ok (.iload_n 1, 1) := by decide +kernel
theorem dX0_limbAt_5 : decode cX0_limbAt 5 = .ok (.aload_n 0, 1) := by decide +kernel
theorem dX0_limbAt_6 : decode cX0_limbAt 6 = .ok (.getfield 19, 3) := by decide +kernel
theorem dX0_limbAt_9 : decode cX0_limbAt 9 = .ok (.if_icmp .ge 12, 3) := by decide +kernel
theorem dX0_limbAt_12 : decode cX0_limbAt 12 = .ok (.aload_n 0, 1) := by decide +kernel
theorem dX0_limbAt_13 : decode cX0_limbAt 13 = .ok (.getfield 9, 3) := by decide +kernel
theorem dX0_limbAt_16 : decode cX0_limbAt 16 = .ok (.iload_n 1, 1) := by decide +kernel
theorem dX0_limbAt_17 : decode cX0_limbAt 17 = .ok (.iaload, 1) := by decide +kernel
theorem dX0_limbAt_18 : decode cX0_limbAt 18 = .ok (.goto 4, 3) := by decide +kernel
theorem dX0_limbAt_21 : decode cX0_limbAt 21 = .ok (.iconst 0, 1) := by decide +kernel
theorem dX0_limbAt_22 : decode cX0_limbAt 22 = .ok (.ireturn, 1) := by decide +kernel
theorem dX0_isSmall_0 : decode cX0_isSmall 0 = .ok (.aload_n 0, 1) := by decide +kernel
theorem dX0_isSmall_1 : decode cX0_isSmall 1 = .ok (.getfield 19, 3) := by decide +kernel
theorem dX0_isSmall_4 : decode cX0_isSmall 4 = .ok (.iconst 1, 1) := by decide +kernel
theorem dX0_isSmall_5 : decode cX0_isSmall 5 = .ok (.if_icmp .gt 7, 3) := by decide +kernel
theorem dX0_isSmall_8 : decode cX0_isSmall 8 = .ok (.iconst 1, 1) := by decide +kernel
theorem dX0_isSmall_9 : decode cX0_isSmall 9 = .ok (.goto 4, 3) := by decide +kernel
theorem dX0_isSmall_12 : decode cX0_isSmall 12 = .ok (.iconst 0, 1) := by decide +kernel
theorem dX0_isSmall_13 : decode cX0_isSmall 13 = .ok (.ireturn, 1) := by decide +kernel
theorem dX0_small_0 : decode cX0_small 0 = .ok (.aload_n 0, 1) := by decide +kernel
theorem dX0_small_1 : decode cX0_small 1 = .ok (.getfield 19, 3) := by decide +kernel
theorem dX0_small_4 : decode cX0_small 4 = .ok (.ifCond .ne 7, 3) := by decide +kernel
theorem dX0_small_7 : decode cX0_small 7 = .ok (.lconst 0, 1) := by decide +kernel
theorem dX0_small_8 : decode cX0_small 8 = .ok (.goto 16, 3) := by decide +kernel
theorem dX0_small_11 : decode cX0_small 11 = .ok (.aload_n 0, 1) := by decide +kernel
theorem dX0_small_12 : decode cX0_small 12 = .ok (.getfield 15, 3) := by decide +kernel
theorem dX0_small_15 : decode cX0_small 15 = .ok (.i2l, 1) := by decide +kernel
theorem dX0_small_16 : decode cX0_small 16 = .ok (.aload_n 0, 1) := by decide +kernel
theorem dX0_small_17 : decode cX0_small 17 = .ok (.getfield 9, 3) := by decide +kernel
theorem dX0_small_20 : decode cX0_small 20 = .ok (.iconst 0, 1) := by decide +kernel
theorem dX0_small_21 : decode cX0_small 21 = .ok (.iaload, 1) := by decide +kernel
theorem dX0_small_22 : decode cX0_small 22 = .ok (.i2l, 1) := by decide +kernel
theorem dX0_small_23 : decode cX0_small 23 = .ok (.lmul, 1) := by decide +kernel
theorem dX0_small_24 : decode cX0_small 24 = .ok (.lreturn, 1) := by decide +kernel
theorem dX0_isOne_0 : decode cX0_isOne 0 = .ok (.aload_n 0, 1) := by decide +kernel
theorem dX0_isOne_1 : decode cX0_isOne 1 = .ok (.getfield 19, 3) := by decide +kernel
theorem dX0_isOne_4 : decode cX0_isOne 4 = .ok (.iconst 1, 1) := by decide +kernel
theorem dX0_isOne_5 : decode cX0_isOne 5 = .ok (.if_icmp .ne 24, 3) := by decide +kernel
theorem dX0_isOne_8 : decode cX0_isOne 8 = .ok (.aload_n 0, 1) := by decide +kernel
theorem dX0_isOne_9 : decode cX0_isOne 9 = .ok (.getfield 9, 3) := by decide +kernel
theorem dX0_isOne_12 : decode cX0_isOne 12 = .ok (.iconst 0, 1) := by decide +kernel
theorem dX0_isOne_13 : decode cX0_isOne 13 = .ok (.iaload, 1) := by decide +kernel
theorem dX0_isOne_14 : decode cX0_isOne 14 = .ok (.iconst 1, 1) := by decide +kernel
theorem dX0_isOne_15 : decode cX0_isOne 15 = .ok (.if_icmp .ne 14, 3) := by decide +kernel
theorem dX0_isOne_18 : decode cX0_isOne 18 = .ok (.aload_n 0, 1) := by decide +kernel
theorem dX0_isOne_19 : decode cX0_isOne 19 = .ok (.getfield 15, 3) := by decide +kernel
theorem dX0_isOne_22 : decode cX0_isOne 22 = .ok (.ifCond .le 7, 3) := by decide +kernel
theorem dX0_isOne_25 : decode cX0_isOne 25 = .ok (.iconst 1, 1) := by decide +kernel
theorem dX0_isOne_26 : decode cX0_isOne 26 = .ok (.goto 4, 3) := by decide +kernel
theorem dX0_isOne_29 : decode cX0_isOne 29 = .ok (.iconst 0, 1) := by decide +kernel
theorem dX0_isOne_30 : decode cX0_isOne 30 = .ok (.ireturn, 1) := by decide +kernel
theorem dX0_lowPair_0 : decode cX0_lowPair 0 = .ok (.aload_n 0, 1) := by decide +kernel
theorem dX0_lowPair_1 : decode cX0_lowPair 1 = .ok (.iconst 1, 1) := by decide +kernel
theorem dX0_lowPair_2 : decode cX0_lowPair 2 = .ok (.invokevirtual 30, 3) := by decide +kernel
theorem dX0_lowPair_5 : decode cX0_lowPair 5 = .ok (.i2l, 1) := by decide +kernel
theorem dX0_lowPair_6 : decode cX0_lowPair 6 = .ok (.ldc2_w 22, 3) := by decide +kernel
theorem dX0_lowPair_9 : decode cX0_lowPair 9 = .ok (.lmul, 1) := by decide +kernel
theorem dX0_lowPair_10 : decode cX0_lowPair 10 = .ok (.aload_n 0, 1) := by decide +kernel
theorem dX0_lowPair_11 : decode cX0_lowPair 11 = .ok (.iconst 0, 1) := by decide +kernel
theorem dX0_lowPair_12 : decode cX0_lowPair 12 = .ok (.invokevirtual 30, 3) := by decide +kernel
theorem dX0_lowPair_15 : decode cX0_lowPair 15 = .ok (.i2l, 1) := by decide +kernel
theorem dX0_lowPair_16 : decode cX0_lowPair 16 = .ok (.ladd, 1) := by decide +kernel
theorem dX0_lowPair_17 : decode cX0_lowPair 17 = .ok (.lreturn, 1) := by decide +kernel
theorem dX0_compareSize_0 : decode cX0_compareSize 0 = .ok (.aload_n 0, 1) := by decide +kernel
theorem dX0_compareSize_1 : decode cX0_compareSize 1 = .ok (.getfield 19, 3) := by decide +kernel
theorem dX0_compareSize_4 : decode cX0_compareSize 4 = .ok (.aload_n 1, 1) := by decide +kernel
theorem dX0_compareSize_5 : decode cX0_compareSize 5 = .ok (.getfield 19, 3) := by decide +kernel
theorem dX0_compareSize_8 : decode cX0_compareSize 8 = .ok (.if_icmp .eq 20, 3) := by decide +kernel
theorem dX0_compareSize_11 : decode cX0_compareSize 11 = .ok (.aload_n 0, 1) := by decide +kernel
theorem dX0_compareSize_12 : decode cX0_compareSize 12 = .ok (.getfield 19, 3) := by decide +kernel
theorem dX0_compareSize_15 : decode cX0_compareSize 15 = .ok (.aload_n 1, 1) := by decide +kernel
theorem dX0_compareSize_16 : decode cX0_compareSize 16 = .ok (.getfield 19, 3) := by decide +kernel
theorem dX0_compareSize_19 : decode cX0_compareSize 19 = .ok (.if_icmp .ge 7, 3) := by decide +kernel
theorem dX0_compareSize_22 : decode cX0_compareSize 22 = .ok (.iconst (-1), 1) := by decide +kernel
theorem dX0_compareSize_23 : decode cX0_compareSize 23 = .ok (.goto 4, 3) := by decide +kernel
theorem dX0_compareSize_26 : decode cX0_compareSize 26 = .ok (.iconst 1, 1) := by decide +kernel
theorem dX0_compareSize_27 : decode cX0_compareSize 27 = .ok (.ireturn, 1) := by decide +kernel
theorem dX0_compareSize_28 : decode cX0_compareSize 28 = .ok (.aload_n 0, 1) := by decide +kernel
theorem dX0_compareSize_29 : decode cX0_compareSize 29 = .ok (.getfield 19, 3) := by decide +kernel
theorem dX0_compareSize_32 : decode cX0_compareSize 32 = .ok (.iconst 1, 1) := by decide +kernel
theorem dX0_compareSize_33 : decode cX0_compareSize 33 = .ok (.isub, 1) := by decide +kernel
theorem dX0_compareSize_34 : decode cX0_compareSize 34 = .ok (.istore_n 2, 1) := by decide +kernel
theorem dX0_compareSize_35 : decode cX0_compareSize 35 = .ok (.iload_n 2, 1) := by decide +kernel
theorem dX0_compareSize_36 : decode cX0_compareSize 36 = .ok (.ifCond .lt 45, 3) := by decide +kernel
theorem dX0_compareSize_39 : decode cX0_compareSize 39 = .ok (.aload_n 0, 1) := by decide +kernel
theorem dX0_compareSize_40 : decode cX0_compareSize 40 = .ok (.getfield 9, 3) := by decide +kernel
theorem dX0_compareSize_43 : decode cX0_compareSize 43 = .ok (.iload_n 2, 1) := by decide +kernel
theorem dX0_compareSize_44 : decode cX0_compareSize 44 = .ok (.iaload, 1) := by decide +kernel
theorem dX0_compareSize_45 : decode cX0_compareSize 45 = .ok (.aload_n 1, 1) := by decide +kernel
theorem dX0_compareSize_46 : decode cX0_compareSize 46 = .ok (.getfield 9, 3) := by decide +kernel
theorem dX0_compareSize_49 : decode cX0_compareSize 49 = .ok (.iload_n 2, 1) := by decide +kernel
theorem dX0_compareSize_50 : decode cX0_compareSize 50 = .ok (.iaload, 1) := by decide +kernel
theorem dX0_compareSize_51 : decode cX0_compareSize 51 = .ok (.if_icmp .eq 24, 3) := by decide +kernel
theorem dX0_compareSize_54 : decode cX0_compareSize 54 = .ok (.aload_n 0, 1) := by decide +kernel
theorem dX0_compareSize_55 : decode cX0_compareSize 55 = .ok (.getfield 9, 3) := by decide +kernel
theorem dX0_compareSize_58 : decode cX0_compareSize 58 = .ok (.iload_n 2, 1) := by decide +kernel
theorem dX0_compareSize_59 : decode cX0_compareSize 59 = .ok (.iaload, 1) := by decide +kernel
theorem dX0_compareSize_60 : decode cX0_compareSize 60 = .ok (.aload_n 1, 1) := by decide +kernel
theorem dX0_compareSize_61 : decode cX0_compareSize 61 = .ok (.getfield 9, 3) := by decide +kernel
theorem dX0_compareSize_64 : decode cX0_compareSize 64 = .ok (.iload_n 2, 1) := by decide +kernel
theorem dX0_compareSize_65 : decode cX0_compareSize 65 = .ok (.iaload, 1) := by decide +kernel
theorem dX0_compareSize_66 : decode cX0_compareSize 66 = .ok (.if_icmp .ge 7, 3) := by decide +kernel
theorem dX0_compareSize_69 : decode cX0_compareSize 69 = .ok (.iconst (-1), 1) := by decide +kernel
theorem dX0_compareSize_70 : decode cX0_compareSize 70 = .ok (.goto 4, 3) := by decide +kernel
theorem dX0_compareSize_73 : decode cX0_compareSize 73 = .ok (.iconst 1, 1) := by decide +kernel
theorem dX0_compareSize_74 : decode cX0_compareSize 74 = .ok (.ireturn, 1) := by decide +kernel
theorem dX0_compareSize_75 : decode cX0_compareSize 75 = .ok (.iinc 2 (-1), 3) := by decide +kernel
theorem dX0_compareSize_78 : decode cX0_compareSize 78 = .ok (.goto (-43), 3) := by decide +kernel
theorem dX0_compareSize_81 : decode cX0_compareSize 81 = .ok (.iconst 0, 1) := by decide +kernel
theorem dX0_compareSize_82 : decode cX0_compareSize 82 = .ok (.ireturn, 1) := by decide +kernel
theorem dX1_init_0 : decode cX1_init 0 = .ok (.aload_n 0, 1) := by decide +kernel
theorem dX1_init_1 : decode cX1_init 1 = .ok (.invokespecial 3, 3) := by decide +kernel
theorem dX1_init_4 : decode cX1_init 4 = .ok (.aload_n 0, 1) := by decide +kernel
theorem dX1_init_5 : decode cX1_init 5 = .ok (.bipush 22, 2) := by decide +kernel
theorem dX1_init_7 : decode cX1_init 7 = .ok (.newarray .boolean, 2) := by decide +kernel
theorem dX1_init_9 : decode cX1_init 9 = .ok (.putfield 9, 3) := by decide +kernel
theorem dX1_init_12 : decode cX1_init 12 = .ok (.aload_n 0, 1) := by decide +kernel
theorem dX1_init_13 : decode cX1_init 13 = .ok (.bipush 22, 2) := by decide +kernel
theorem dX1_init_15 : decode cX1_init 15 = .ok (.newarray .boolean, 2) := by decide +kernel
theorem dX1_init_17 : decode cX1_init 17 = .ok (.putfield 15, 3) := by decide +kernel
theorem dX1_init_20 : decode cX1_init 20 = .ok (.aload_n 0, 1) := by decide +kernel
theorem dX1_init_21 : decode cX1_init 21 = .ok (.bipush 22, 2) := by decide +kernel
theorem dX1_init_23 : decode cX1_init 23 = .ok (.newarray .long, 2) := by decide +kernel
theorem dX1_init_25 : decode cX1_init 25 = .ok (.putfield 18, 3) := by decide +kernel
theorem dX1_init_28 : decode cX1_init 28 = .ok (.aload_n 0, 1) := by decide +kernel
theorem dX1_init_29 : decode cX1_init 29 = .ok (.bipush 22, 2) := by decide +kernel
theorem dX1_init_31 : decode cX1_init 31 = .ok (.newarray .long, 2) := by decide +kernel
theorem dX1_init_33 : decode cX1_init 33 = .ok (.putfield 22, 3) := by decide +kernel
theorem dX1_init_36 : decode cX1_init 36 = .ok (.return_, 1) := by decide +kernel
theorem dX1_setRows_0 : decode cX1_setRows 0 = .ok (.iconst 0, 1) := by decide +kernel
theorem dX1_setRows_1 : decode cX1_setRows 1 = .ok (.istore_n 2, 1) := by decide +kernel
theorem dX1_setRows_2 : decode cX1_setRows 2 = .ok (.iload_n 2, 1) := by decide +kernel
theorem dX1_setRows_3 : decode cX1_setRows 3 = .ok (.aload_n 1, 1) := by decide +kernel
theorem dX1_setRows_4 : decode cX1_setRows 4 = .ok (.getfield 25, 3) := by decide +kernel
theorem dX1_setRows_7 : decode cX1_setRows 7 = .ok (.if_icmp .ge 83, 3) := by decide +kernel
theorem dX1_setRows_10 : decode cX1_setRows 10 = .ok (.aload_n 1, 1) := by decide +kernel
theorem dX1_setRows_11 : decode cX1_setRows 11 = .ok (.getfield 31, 3) := by decide +kernel
theorem dX1_setRows_14 : decode cX1_setRows 14 = .ok (.iload_n 2, 1) := by decide +kernel
theorem dX1_setRows_15 : decode cX1_setRows 15 = .ok (.iadd, 1) := by decide +kernel
theorem dX1_setRows_16 : decode cX1_setRows 16 = .ok (.istore_n 3, 1) := by decide +kernel
theorem dX1_setRows_17 : decode cX1_setRows 17 = .ok (.aload_n 0, 1) := by decide +kernel
theorem dX1_setRows_18 : decode cX1_setRows 18 = .ok (.getfield 9, 3) := by decide +kernel
theorem dX1_setRows_21 : decode cX1_setRows 21 = .ok (.iload_n 3, 1) := by decide +kernel
theorem dX1_setRows_22 : decode cX1_setRows 22 = .ok (.aload_n 1, 1) := by decide +kernel
theorem dX1_setRows_23 : decode cX1_setRows 23 = .ok (.getfield 34, 3) := by decide +kernel
theorem dX1_setRows_26 : decode cX1_setRows 26 = .ok (.iload_n 2, 1) := by decide +kernel
theorem dX1_setRows_27 : decode cX1_setRows 27 = .ok (.iaload, 1) := by decide +kernel
theorem dX1_setRows_28 : decode cX1_setRows 28 = .ok (.iconst 1, 1) := by decide +kernel
theorem dX1_setRows_29 : decode cX1_setRows 29 = .ok (.if_icmp .eq 7, 3) := by decide +kernel
theorem dX1_setRows_32 : decode cX1_setRows 32 = .ok (.iconst 1, 1) := by decide +kernel
theorem dX1_setRows_33 : decode cX1_setRows 33 = .ok (.goto 4, 3) := by decide +kernel
theorem dX1_setRows_36 : decode cX1_setRows 36 = .ok (.iconst 0, 1) := by decide +kernel
theorem dX1_setRows_37 : decode cX1_setRows 37 = .ok (.bastore, 1) := by decide +kernel
theorem dX1_setRows_38 : decode cX1_setRows 38 = .ok (.aload_n 0, 1) := by decide +kernel
theorem dX1_setRows_39 : decode cX1_setRows 39 = .ok (.getfield 15, 3) := by decide +kernel
theorem dX1_setRows_42 : decode cX1_setRows 42 = .ok (.iload_n 3, 1) := by decide +kernel
theorem dX1_setRows_43 : decode cX1_setRows 43 = .ok (.aload_n 1, 1) := by decide +kernel
theorem dX1_setRows_44 : decode cX1_setRows 44 = .ok (.getfield 34, 3) := by decide +kernel
theorem dX1_setRows_47 : decode cX1_setRows 47 = .ok (.iload_n 2, 1) := by decide +kernel
theorem dX1_setRows_48 : decode cX1_setRows 48 = .ok (.iaload, 1) := by decide +kernel
theorem dX1_setRows_49 : decode cX1_setRows 49 = .ok (.ifCond .eq 7, 3) := by decide +kernel
theorem dX1_setRows_52 : decode cX1_setRows 52 = .ok (.iconst 1, 1) := by decide +kernel
theorem dX1_setRows_53 : decode cX1_setRows 53 = .ok (.goto 4, 3) := by decide +kernel
theorem dX1_setRows_56 : decode cX1_setRows 56 = .ok (.iconst 0, 1) := by decide +kernel
theorem dX1_setRows_57 : decode cX1_setRows 57 = .ok (.bastore, 1) := by decide +kernel
theorem dX1_setRows_58 : decode cX1_setRows 58 = .ok (.aload_n 0, 1) := by decide +kernel
theorem dX1_setRows_59 : decode cX1_setRows 59 = .ok (.getfield 18, 3) := by decide +kernel
theorem dX1_setRows_62 : decode cX1_setRows 62 = .ok (.iload_n 3, 1) := by decide +kernel
theorem dX1_setRows_63 : decode cX1_setRows 63 = .ok (.aload_n 1, 1) := by decide +kernel
theorem dX1_setRows_64 : decode cX1_setRows 64 = .ok (.getfield 38, 3) := by decide +kernel
theorem dX1_setRows_67 : decode cX1_setRows 67 = .ok (.iload_n 2, 1) := by decide +kernel
theorem dX1_setRows_68 : decode cX1_setRows 68 = .ok (.iaload, 1) := by decide +kernel
theorem dX1_setRows_69 : decode cX1_setRows 69 = .ok (.i2l, 1) := by decide +kernel
theorem dX1_setRows_70 : decode cX1_setRows 70 = .ok (.lastore, 1) := by decide +kernel
theorem dX1_setRows_71 : decode cX1_setRows 71 = .ok (.aload_n 0, 1) := by decide +kernel
theorem dX1_setRows_72 : decode cX1_setRows 72 = .ok (.getfield 22, 3) := by decide +kernel
theorem dX1_setRows_75 : decode cX1_setRows 75 = .ok (.iload_n 3, 1) := by decide +kernel
theorem dX1_setRows_76 : decode cX1_setRows 76 = .ok (.aload_n 1, 1) := by decide +kernel
theorem dX1_setRows_77 : decode cX1_setRows 77 = .ok (.getfield 38, 3) := by decide +kernel
theorem dX1_setRows_80 : decode cX1_setRows 80 = .ok (.iload_n 2, 1) := by decide +kernel
theorem dX1_setRows_81 : decode cX1_setRows 81 = .ok (.iaload, 1) := by decide +kernel
theorem dX1_setRows_82 : decode cX1_setRows 82 = .ok (.i2l, 1) := by decide +kernel
theorem dX1_setRows_83 : decode cX1_setRows 83 = .ok (.lastore, 1) := by decide +kernel
theorem dX1_setRows_84 : decode cX1_setRows 84 = .ok (.iinc 2 1, 3) := by decide +kernel
theorem dX1_setRows_87 : decode cX1_setRows 87 = .ok (.goto (-85), 3) := by decide +kernel
theorem dX1_setRows_90 : decode cX1_setRows 90 = .ok (.return_, 1) := by decide +kernel
theorem dX1_setSplits_0 : decode cX1_setSplits 0 = .ok (.iconst 0, 1) := by decide +kernel
theorem dX1_setSplits_1 : decode cX1_setSplits 1 = .ok (.istore 5, 2) := by decide +kernel
theorem dX1_setSplits_3 : decode cX1_setSplits 3 = .ok (.iload 5, 2) := by decide +kernel
theorem dX1_setSplits_5 : decode cX1_setSplits 5 = .ok (.iload_n 2, 1) := by decide +kernel
theorem dX1_setSplits_6 : decode cX1_setSplits 6 = .ok (.if_icmp .ge 25, 3) := by decide +kernel
theorem dX1_setSplits_9 : decode cX1_setSplits 9 = .ok (.aload_n 0, 1) := by decide +kernel
theorem dX1_setSplits_10 : decode cX1_setSplits 10 = .ok (.getfield 9, 3) := by decide +kernel
theorem dX1_setSplits_13 : decode cX1_setSplits 13 = .ok (.iload 5, 2) := by decide +kernel
theorem dX1_setSplits_15 : decode cX1_setSplits 15 = .ok (.iconst 0, 1) := by decide +kernel
theorem dX1_setSplits_16 : decode cX1_setSplits 16 = .ok (.bastore, 1) := by decide +kernel
theorem dX1_setSplits_17 : decode cX1_setSplits 17 = .ok (.aload_n 0, 1) := by decide +kernel
theorem dX1_setSplits_18 : decode cX1_setSplits 18 = .ok (.getfield 15, 3) := by decide +kernel
theorem dX1_setSplits_21 : decode cX1_setSplits 21 = .ok (.iload 5, 2) := by decide +kernel
theorem dX1_setSplits_23 : decode cX1_setSplits 23 = .ok (.iconst 0, 1) := by decide +kernel
theorem dX1_setSplits_24 : decode cX1_setSplits 24 = .ok (.bastore, 1) := by decide +kernel
theorem dX1_setSplits_25 : decode cX1_setSplits 25 = .ok (.iinc 5 1, 3) := by decide +kernel
theorem dX1_setSplits_28 : decode cX1_setSplits 28 = .ok (.goto (-25), 3) := by decide +kernel
theorem dX1_setSplits_31 : decode cX1_setSplits 31 = .ok (.iload_n 3, 1) := by decide +kernel
theorem dX1_setSplits_32 : decode cX1_setSplits 32 = .ok (.istore 5, 2) := by decide +kernel
theorem dX1_setSplits_34 : decode cX1_setSplits 34 = .ok (.iconst 0, 1) := by decide +kernel
theorem dX1_setSplits_35 : decode cX1_setSplits 35 = .ok (.istore 6, 2) := by decide +kernel
theorem dX1_setSplits_37 : decode cX1_setSplits 37 = .ok (.iload 6, 2) := by decide +kernel
theorem dX1_setSplits_39 : decode cX1_setSplits 39 = .ok (.sipush 301, 3) := by decide +kernel
theorem dX1_setSplits_42 : decode cX1_setSplits 42 = .ok (.if_icmp .ge 90, 3) := by decide +kernel
theorem dX1_setSplits_45 : decode cX1_setSplits 45 = .ok (.aload_n 1, 1) := by decide +kernel
theorem dX1_setSplits_46 : decode cX1_setSplits 46 = .ok (.iload 5, 2) := by decide +kernel
theorem dX1_setSplits_48 : decode cX1_setSplits 48 = .ok (.invokevirtual 41, 3) := by decide +kernel
theorem dX1_setSplits_51 : decode cX1_setSplits 51 = .ok (.ifCond .eq 81, 3) := by decide +kernel
theorem dX1_setSplits_54 : decode cX1_setSplits 54 = .ok (.aload_n 1, 1) := by decide +kernel
theorem dX1_setSplits_55 : decode cX1_setSplits 55 = .ok (.getfield 47, 3) := by decide +kernel
theorem dX1_setSplits_58 : decode cX1_setSplits 58 = .ok (.iload 5, 2) := by decide +kernel
theorem dX1_setSplits_60 : decode cX1_setSplits 60 = .ok (.iaload, 1) := by decide +kernel
theorem dX1_setSplits_61 : decode cX1_setSplits 61 = .ok (.ifCond .lt 71, 3) := by decide +kernel
theorem dX1_setSplits_64 : decode cX1_setSplits 64 = .ok (.aload_n 1, 1) := by decide +kernel
theorem dX1_setSplits_65 : decode cX1_setSplits 65 = .ok (.getfield 47, 3) := by decide +kernel
theorem dX1_setSplits_68 : decode cX1_setSplits 68 = .ok (.iload 5, 2) := by decide +kernel
theorem dX1_setSplits_70 : decode cX1_setSplits 70 = .ok (.iaload, 1) := by decide +kernel
theorem dX1_setSplits_71 : decode cX1_setSplits 71 = .ok (.istore 7, 2) := by decide +kernel
theorem dX1_setSplits_73 : decode cX1_setSplits 73 = .ok (.aload_n 1, 1) := by decide +kernel
theorem dX1_setSplits_74 : decode cX1_setSplits 74 = .ok (.getfield 50, 3) := by decide +kernel
theorem dX1_setSplits_77 : decode cX1_setSplits 77 = .ok (.iload 7, 2) := by decide +kernel
theorem dX1_setSplits_79 : decode cX1_setSplits 79 = .ok (.iaload, 1) := by decide +kernel
theorem dX1_setSplits_80 : decode cX1_setSplits 80 = .ok (.iload 5, 2) := by decide +kernel
theorem dX1_setSplits_82 : decode cX1_setSplits 82 = .ok (.if_icmp .ne 22, 3) := by decide +kernel
theorem dX1_setSplits_85 : decode cX1_setSplits 85 = .ok (.aload_n 0, 1) := by decide +kernel
theorem dX1_setSplits_86 : decode cX1_setSplits 86 = .ok (.aload_n 1, 1) := by decide +kernel
theorem dX1_setSplits_87 : decode cX1_setSplits 87 = .ok (.getfield 53, 3) := by decide +kernel
theorem dX1_setSplits_90 : decode cX1_setSplits 90 = .ok (.iload 7, 2) := by decide +kernel
theorem dX1_setSplits_92 : decode cX1_setSplits 92 = .ok (.iaload, 1) := by decide +kernel
theorem dX1_setSplits_93 : decode cX1_setSplits 93 = .ok (.aload 4, 2) := by decide +kernel
theorem dX1_setSplits_95 : decode cX1_setSplits 95 = .ok (.iload 7, 2) := by decide +kernel
theorem dX1_setSplits_97 : decode cX1_setSplits 97 = .ok (.laload, 1) := by decide +kernel
theorem dX1_setSplits_98 : decode cX1_setSplits 98 = .ok (.invokevirtual 56, 3) := by decide +kernel
theorem dX1_setSplits_101 : decode cX1_setSplits 101 = .ok (.goto 21, 3) := by decide +kernel
theorem dX1_setSplits_104 : decode cX1_setSplits 104 = .ok (.aload_n 0, 1) := by decide +kernel
theorem dX1_setSplits_105 : decode cX1_setSplits 105 = .ok (.aload_n 1, 1) := by decide +kernel
theorem dX1_setSplits_106 : decode cX1_setSplits 106 = .ok (.getfield 53, 3) := by decide +kernel
theorem dX1_setSplits_109 : decode cX1_setSplits 109 = .ok (.iload 7, 2) := by decide +kernel
theorem dX1_setSplits_111 : decode cX1_setSplits 111 = .ok (.iaload, 1) := by decide +kernel
theorem dX1_setSplits_112 : decode cX1_setSplits 112 = .ok (.aload 4, 2) := by decide +kernel
theorem dX1_setSplits_114 : decode cX1_setSplits 114 = .ok (.iload 7, 2) := by decide +kernel
theorem dX1_setSplits_116 : decode cX1_setSplits 116 = .ok (.laload, 1) := by decide +kernel
theorem dX1_setSplits_117 : decode cX1_setSplits 117 = .ok (.lconst 1, 1) := by decide +kernel
theorem dX1_setSplits_118 : decode cX1_setSplits 118 = .ok (.ladd, 1) := by decide +kernel
theorem dX1_setSplits_119 : decode cX1_setSplits 119 = .ok (.invokevirtual 60, 3) := by decide +kernel
theorem dX1_setSplits_122 : decode cX1_setSplits 122 = .ok (.iload 7, 2) := by decide +kernel
theorem dX1_setSplits_124 : decode cX1_setSplits 124 = .ok (.istore 5, 2) := by decide +kernel
theorem dX1_setSplits_126 : decode cX1_setSplits 126 = .ok (.iinc 6 1, 3) := by decide +kernel
theorem dX1_setSplits_129 : decode cX1_setSplits 129 = .ok (.goto (-92), 3) := by decide +kernel
theorem dX1_setSplits_132 : decode cX1_setSplits 132 = .ok (.return_, 1) := by decide +kernel
theorem dX1_tightenUpper_0 : decode cX1_tightenUpper 0 = .ok (.aload_n 0, 1) := by decide +kernel
theorem dX1_tightenUpper_1 : decode cX1_tightenUpper 1 = .ok (.getfield 18, 3) := by decide +kernel
theorem dX1_tightenUpper_4 : decode cX1_tightenUpper 4 = .ok (.iload_n 1, 1) := by decide +kernel
theorem dX1_tightenUpper_5 : decode cX1_tightenUpper 5 = .ok (.aload_n 0, 1) := by decide +kernel
theorem dX1_tightenUpper_6 : decode cX1_tightenUpper 6 = .ok (.getfield 9, 3) := by decide +kernel
theorem dX1_tightenUpper_9 : decode cX1_tightenUpper 9 = .ok (.iload_n 1, 1) := by decide +kernel
theorem dX1_tightenUpper_10 : decode cX1_tightenUpper 10 = .ok (.baload, 1) := by decide +kernel
theorem dX1_tightenUpper_11 : decode cX1_tightenUpper 11 = .ok (.ifCond .eq 16, 3) := by decide +kernel
theorem dX1_tightenUpper_14 : decode cX1_tightenUpper 14 = .ok (.aload_n 0, 1) := by decide +kernel
theorem dX1_tightenUpper_15 : decode cX1_tightenUpper 15 = .ok (.getfield 18, 3) := by decide +kernel
theorem dX1_tightenUpper_18 : decode cX1_tightenUpper 18 = .ok (.iload_n 1, 1) := by decide +kernel
theorem dX1_tightenUpper_19 : decode cX1_tightenUpper 19 = .ok (.laload, 1) := by decide +kernel
theorem dX1_tightenUpper_20 : decode cX1_tightenUpper 20 = .ok (.lload_n 2, 1) := by decide +kernel
theorem dX1_tightenUpper_21 : decode cX1_tightenUpper 21 = .ok (.invokestatic 63, 3) := by decide +kernel
theorem dX1_tightenUpper_24 : decode cX1_tightenUpper 24 = .ok (.goto 4, 3) := by decide +kernel
theorem dX1_tightenUpper_27 : decode cX1_tightenUpper 27 = .ok (.lload_n 2, 1) := by decide +kernel
theorem dX1_tightenUpper_28 : decode cX1_tightenUpper 28 = .ok (.lastore, 1) := by decide +kernel
theorem dX1_tightenUpper_29 : decode cX1_tightenUpper 29 = .ok (.aload_n 0, 1) := by decide +kernel
theorem dX1_tightenUpper_30 : decode cX1_tightenUpper 30 = .ok (.getfield 9, 3) := by decide +kernel
theorem dX1_tightenUpper_33 : decode cX1_tightenUpper 33 = .ok (.iload_n 1, 1) := by decide +kernel
theorem dX1_tightenUpper_34 : decode cX1_tightenUpper 34 = .ok (.iconst 1, 1) := by decide +kernel
theorem dX1_tightenUpper_35 : decode cX1_tightenUpper 35 = .ok (.bastore, 1) := by decide +kernel
theorem dX1_tightenUpper_36 : decode cX1_tightenUpper 36 = .ok (.return_, 1) := by decide +kernel
theorem dX1_tightenLower_0 : decode cX1_tightenLower 0 = .ok (.aload_n 0, 1) := by decide +kernel
theorem dX1_tightenLower_1 : decode cX1_tightenLower 1 = .ok (.getfield 22, 3) := by decide +kernel
theorem dX1_tightenLower_4 : decode cX1_tightenLower 4 = .ok (.iload_n 1, 1) := by decide +kernel
theorem dX1_tightenLower_5 : decode cX1_tightenLower 5 = .ok (.aload_n 0, 1) := by decide +kernel
theorem dX1_tightenLower_6 : decode cX1_tightenLower 6 = .ok (.getfield 15, 3) := by decide +kernel
theorem dX1_tightenLower_9 : decode cX1_tightenLower 9 = .ok (.iload_n 1, 1) := by decide +kernel
theorem dX1_tightenLower_10 : decode cX1_tightenLower 10 = .ok (.baload, 1) := by decide +kernel
theorem dX1_tightenLower_11 : decode cX1_tightenLower 11 = .ok (.ifCond .eq 16, 3) := by decide +kernel
theorem dX1_tightenLower_14 : decode cX1_tightenLower 14 = .ok (.aload_n 0, 1) := by decide +kernel
theorem dX1_tightenLower_15 : decode cX1_tightenLower 15 = .ok (.getfield 22, 3) := by decide +kernel
theorem dX1_tightenLower_18 : decode cX1_tightenLower 18 = .ok (.iload_n 1, 1) := by decide +kernel
theorem dX1_tightenLower_19 : decode cX1_tightenLower 19 = .ok (.laload, 1) := by decide +kernel
theorem dX1_tightenLower_20 : decode cX1_tightenLower 20 = .ok (.lload_n 2, 1) := by decide +kernel
theorem dX1_tightenLower_21 : decode cX1_tightenLower 21 = .ok (.invokestatic 69, 3) := by decide +kernel
theorem dX1_tightenLower_24 : decode cX1_tightenLower 24 = .ok (.goto 4, 3) := by decide +kernel
theorem dX1_tightenLower_27 : decode cX1_tightenLower 27 = .ok (.lload_n 2, 1) := by decide +kernel
theorem dX1_tightenLower_28 : decode cX1_tightenLower 28 = .ok (.lastore, 1) := by decide +kernel
theorem dX1_tightenLower_29 : decode cX1_tightenLower 29 = .ok (.aload_n 0, 1) := by decide +kernel
theorem dX1_tightenLower_30 : decode cX1_tightenLower 30 = .ok (.getfield 15, 3) := by decide +kernel
theorem dX1_tightenLower_33 : decode cX1_tightenLower 33 = .ok (.iload_n 1, 1) := by decide +kernel
theorem dX1_tightenLower_34 : decode cX1_tightenLower 34 = .ok (.iconst 1, 1) := by decide +kernel
theorem dX1_tightenLower_35 : decode cX1_tightenLower 35 = .ok (.bastore, 1) := by decide +kernel
theorem dX1_tightenLower_36 : decode cX1_tightenLower 36 = .ok (.return_, 1) := by decide +kernel
theorem dX2_init_0 : decode cX2_init 0 = .ok (.aload_n 0, 1) := by decide +kernel
theorem dX2_init_1 : decode cX2_init 1 = .ok (.invokespecial 3, 3) := by decide +kernel
theorem dX2_init_4 : decode cX2_init 4 = .ok (.aload_n 0, 1) := by decide +kernel
theorem dX2_init_5 : decode cX2_init 5 = .ok (.new 9, 3) := by decide +kernel
theorem dX2_init_8 : decode cX2_init 8 = .ok (.dup, 1) := by decide +kernel
theorem dX2_init_9 : decode cX2_init 9 = .ok (.sipush 128, 3) := by decide +kernel
theorem dX2_init_12 : decode cX2_init 12 = .ok (.invokespecial 11, 3) := by decide +kernel
theorem dX2_init_15 : decode cX2_init 15 = .ok (.putfield 14, 3) := by decide +kernel
theorem dX2_init_18 : decode cX2_init 18 = .ok (.aload_n 0, 1) := by decide +kernel
theorem dX2_init_19 : decode cX2_init 19 = .ok (.new 9, 3) := by decide +kernel
theorem dX2_init_22 : decode cX2_init 22 = .ok (.dup, 1) := by decide +kernel
theorem dX2_init_23 : decode cX2_init 23 = .ok (.sipush 128, 3) := by decide +kernel
theorem dX2_init_26 : decode cX2_init 26 = .ok (.invokespecial 11, 3) := by decide +kernel
theorem dX2_init_29 : decode cX2_init 29 = .ok (.putfield 20, 3) := by decide +kernel
theorem dX2_init_32 : decode cX2_init 32 = .ok (.aload_n 0, 1) := by decide +kernel
theorem dX2_init_33 : decode cX2_init 33 = .ok (.new 9, 3) := by decide +kernel
theorem dX2_init_36 : decode cX2_init 36 = .ok (.dup, 1) := by decide +kernel
theorem dX2_init_37 : decode cX2_init 37 = .ok (.sipush 128, 3) := by decide +kernel
theorem dX2_init_40 : decode cX2_init 40 = .ok (.invokespecial 11, 3) := by decide +kernel
theorem dX2_init_43 : decode cX2_init 43 = .ok (.putfield 23, 3) := by decide +kernel
theorem dX2_init_46 : decode cX2_init 46 = .ok (.aload_n 0, 1) := by decide +kernel
theorem dX2_init_47 : decode cX2_init 47 = .ok (.new 9, 3) := by decide +kernel
theorem dX2_init_50 : decode cX2_init 50 = .ok (.dup, 1) := by decide +kernel
theorem dX2_init_51 : decode cX2_init 51 = .ok (.sipush 128, 3) := by decide +kernel
theorem dX2_init_54 : decode cX2_init 54 = .ok (.invokespecial 11, 3) := by decide +kernel
theorem dX2_init_57 : decode cX2_init 57 = .ok (.putfield 26, 3) := by decide +kernel
theorem dX2_init_60 : decode cX2_init 60 = .ok (.aload_n 0, 1) := by decide +kernel
theorem dX2_init_61 : decode cX2_init 61 = .ok (.sipush 129, 3) := by decide +kernel
theorem dX2_init_64 : decode cX2_init 64 = .ok (.newarray .long, 2) := by decide +kernel
theorem dX2_init_66 : decode cX2_init 66 = .ok (.putfield 29, 3) := by decide +kernel
theorem dX2_init_69 : decode cX2_init 69 = .ok (.aload_n 0, 1) := by decide +kernel
theorem dX2_init_70 : decode cX2_init 70 = .ok (.sipush 128, 3) := by decide +kernel
theorem dX2_init_73 : decode cX2_init 73 = .ok (.newarray .long, 2) := by decide +kernel
theorem dX2_init_75 : decode cX2_init 75 = .ok (.putfield 33, 3) := by decide +kernel
theorem dX2_init_78 : decode cX2_init 78 = .ok (.return_, 1) := by decide +kernel
theorem dX2_divide_0 : decode cX2_divide 0 = .ok (.aload_n 0, 1) := by decide +kernel
theorem dX2_divide_1 : decode cX2_divide 1 = .ok (.getfield 14, 3) := by decide +kernel
theorem dX2_divide_4 : decode cX2_divide 4 = .ok (.lconst 0, 1) := by decide +kernel
theorem dX2_divide_5 : decode cX2_divide 5 = .ok (.invokevirtual 36, 3) := by decide +kernel
theorem dX2_divide_8 : decode cX2_divide 8 = .ok (.aload_n 0, 1) := by decide +kernel
theorem dX2_divide_9 : decode cX2_divide 9 = .ok (.getfield 20, 3) := by decide +kernel
theorem dX2_divide_12 : decode cX2_divide 12 = .ok (.lconst 0, 1) := by decide +kernel
theorem dX2_divide_13 : decode cX2_divide 13 = .ok (.invokevirtual 36, 3) := by decide +kernel
theorem dX2_divide_16 : decode cX2_divide 16 = .ok (.aload_n 2, 1) := by decide +kernel
theorem dX2_divide_17 : decode cX2_divide 17 = .ok (.getfield 40, 3) := by decide +kernel
theorem dX2_divide_20 : decode cX2_divide 20 = .ok (.ifCond .eq 11, 3) := by decide +kernel
theorem dX2_divide_23 : decode cX2_divide 23 = .ok (.aload_n 1, 1) := by decide +kernel
theorem dX2_divide_24 : decode cX2_divide 24 = .ok (.aload_n 2, 1) := by decide +kernel
theorem dX2_divide_25 : decode cX2_divide 25 = .ok (.invokevirtual 44, 3) := by decide +kernel
theorem dX2_divide_28 : decode cX2_divide 28 = .ok (.ifCond .ge 18, 3) := by decide +kernel
theorem dX2_divide_31 : decode cX2_divide 31 = .ok (.aload_n 0, 1) := by decide +kernel
theorem dX2_divide_32 : decode cX2_divide 32 = .ok (.getfield 20, 3) := by decide +kernel
theorem dX2_divide_35 : decode cX2_divide 35 = .ok (.aload_n 1, 1) := by decide +kernel
theorem dX2_divide_36 : decode cX2_divide 36 = .ok (.aload_n 1, 1) := by decide +kernel
theorem dX2_divide_37 : decode cX2_divide 37 = .ok (.getfield 48, 3) := by decide +kernel
theorem dX2_divide_40 : decode cX2_divide 40 = .ok (.invokevirtual 51, 3) := by decide +kernel
theorem dX2_divide_43 : decode cX2_divide 43 = .ok (.goto 32, 3) := by decide +kernel
theorem dX2_divide_46 : decode cX2_divide 46 = .ok (.aload_n 2, 1) := by decide +kernel
theorem dX2_divide_47 : decode cX2_divide 47 = .ok (.getfield 40, 3) := by decide +kernel
theorem dX2_divide_50 : decode cX2_divide 50 = .ok (.iconst 1, 1) := by decide +kernel
theorem dX2_divide_51 : decode cX2_divide 51 = .ok (.if_icmp .ne 18, 3) := by decide +kernel
theorem dX2_divide_54 : decode cX2_divide 54 = .ok (.aload_n 0, 1) := by decide +kernel
theorem dX2_divide_55 : decode cX2_divide 55 = .ok (.aload_n 1, 1) := by decide +kernel
theorem dX2_divide_56 : decode cX2_divide 56 = .ok (.aload_n 2, 1) := by decide +kernel
theorem dX2_divide_57 : decode cX2_divide 57 = .ok (.getfield 55, 3) := by decide +kernel
theorem dX2_divide_60 : decode cX2_divide 60 = .ok (.iconst 0, 1) := by decide +kernel
theorem dX2_divide_61 : decode cX2_divide 61 = .ok (.iaload, 1) := by decide +kernel
theorem dX2_divide_62 : decode cX2_divide 62 = .ok (.i2l, 1) := by decide +kernel
theorem dX2_divide_63 : decode cX2_divide 63 = .ok (.invokevirtual 59, 3) := by decide +kernel
theorem dX2_divide_66 : decode cX2_divide 66 = .ok (.goto 9, 3) := by decide +kernel
theorem dX2_divide_69 : decode cX2_divide 69 = .ok (.aload_n 0, 1) := by decide +kernel
theorem dX2_divide_70 : decode cX2_divide 70 = .ok (.aload_n 1, 1) := by decide +kernel
theorem dX2_divide_71 : decode cX2_divide 71 = .ok (.aload_n 2, 1) := by decide +kernel
theorem dX2_divide_72 : decode cX2_divide 72 = .ok (.invokevirtual 63, 3) := by decide +kernel
theorem dX2_divide_75 : decode cX2_divide 75 = .ok (.return_, 1) := by decide +kernel
theorem dX2_divideByLimb_0 : decode cX2_divideByLimb 0 = .ok (.lload_n 2, 1) := by decide +kernel
theorem dX2_divideByLimb_1 : decode cX2_divideByLimb 1 = .ok (.lconst 0, 1) := by decide +kernel
theorem dX2_divideByLimb_2 : decode cX2_divideByLimb 2 = .ok (.lcmp, 1) := by decide +kernel
theorem dX2_divideByLimb_3 : decode cX2_divideByLimb 3 = .ok (.ifCond .gt 4, 3) := by decide +kernel
theorem dX2_divideByLimb_6 : decode cX2_divideByLimb 6 = .ok (.return_, 1) := by decide +kernel
theorem dX2_divideByLimb_7 : decode cX2_divideByLimb 7 = .ok (.lconst 0, 1) := by decide +kernel
theorem dX2_divideByLimb_8 : decode cX2_divideByLimb 8 = .ok (.lstore 4, 2) := by decide +kernel
theorem dX2_divideByLimb_10 : decode cX2_divideByLimb 10 = .ok (.aload_n 1, 1) := by decide +kernel
theorem dX2_divideByLimb_11 : decode cX2_divideByLimb 11 = .ok (.getfield 40, 3) := by decide +kernel
theorem dX2_divideByLimb_14 : decode cX2_divideByLimb 14 = .ok (.aload_n 0, 1) := by decide +kernel
theorem dX2_divideByLimb_15 : decode cX2_divideByLimb 15 = .ok (.getfield 14, 3) := by decide +kernel
theorem dX2_divideByLimb_18 : decode cX2_divideByLimb 18 = .ok (.getfield 55, 3) := by decide +kernel
theorem dX2_divideByLimb_21 : decode cX2_divideByLimb 21 = .ok (.arraylength, 1) := by decide +kernel
theorem dX2_divideByLimb_22 : decode cX2_divideByLimb 22 = .ok (.invokestatic 67, 3) := by decide +kernel
theorem dX2_divideByLimb_25 : decode cX2_divideByLimb 25 = .ok (.iconst 1, 1) := by decide +kernel
theorem dX2_divideByLimb_26 : decode cX2_divideByLimb 26 = .ok (.isub, 1) := by decide +kernel
theorem dX2_divideByLimb_27 : decode cX2_divideByLimb 27 = .ok (.istore 6, 2) := by decide +kernel
theorem dX2_divideByLimb_29 : decode cX2_divideByLimb 29 = .ok (.iload 6, 2) := by decide +kernel
theorem dX2_divideByLimb_31 : decode cX2_divideByLimb 31 = .ok (.ifCond .lt 54, 3) := by decide +kernel
theorem dX2_divideByLimb_34 : decode cX2_divideByLimb 34 = .ok (.lload 4, 2) := by decide +kernel
theorem dX2_divideByLimb_36 : decode cX2_divideByLimb 36 = .ok (.ldc2_w 73, 3) := by decide +kernel
theorem dX2_divideByLimb_39 : decode cX2_divideByLimb 39 = .ok (.lmul, 1) := by decide +kernel
theorem dX2_divideByLimb_40 : decode cX2_divideByLimb 40 = .ok (.aload_n 1, 1) := by decide +kernel
theorem dX2_divideByLimb_41 : decode cX2_divideByLimb 41 = .ok (.getfield 55, 3) := by decide +kernel
theorem dX2_divideByLimb_44 : decode cX2_divideByLimb 44 = .ok (.iload 6, 2) := by decide +kernel
theorem dX2_divideByLimb_46 : decode cX2_divideByLimb 46 = .ok (.iaload, 1) := by decide +kernel
theorem dX2_divideByLimb_47 : decode cX2_divideByLimb 47 = .ok (.i2l, 1) := by decide +kernel
theorem dX2_divideByLimb_48 : decode cX2_divideByLimb 48 = .ok (.ladd, 1) := by decide +kernel
theorem dX2_divideByLimb_49 : decode cX2_divideByLimb 49 = .ok (.lstore 7, 2) := by decide +kernel
theorem dX2_divideByLimb_51 : decode cX2_divideByLimb 51 = .ok (.lload 7, 2) := by decide +kernel
theorem dX2_divideByLimb_53 : decode cX2_divideByLimb 53 = .ok (.lload_n 2, 1) := by decide +kernel
theorem dX2_divideByLimb_54 : decode cX2_divideByLimb 54 = .ok (.ldiv, 1) := by decide +kernel
theorem dX2_divideByLimb_55 : decode cX2_divideByLimb 55 = .ok (.lstore 9, 2) := by decide +kernel
theorem dX2_divideByLimb_57 : decode cX2_divideByLimb 57 = .ok (.aload_n 0, 1) := by decide +kernel
theorem dX2_divideByLimb_58 : decode cX2_divideByLimb 58 = .ok (.getfield 14, 3) := by decide +kernel
theorem dX2_divideByLimb_61 : decode cX2_divideByLimb 61 = .ok (.getfield 55, 3) := by decide +kernel
theorem dX2_divideByLimb_64 : decode cX2_divideByLimb 64 = .ok (.iload 6, 2) := by decide +kernel
theorem dX2_divideByLimb_66 : decode cX2_divideByLimb 66 = .ok (.lload 9, 2) := by decide +kernel
theorem dX2_divideByLimb_68 : decode cX2_divideByLimb 68 = .ok (.l2i, 1) := by decide +kernel
theorem dX2_divideByLimb_69 : decode cX2_divideByLimb 69 = .ok (.iastore, 1) := by decide +kernel
theorem dX2_divideByLimb_70 : decode cX2_divideByLimb 70 = .ok (.lload 7, 2) := by decide +kernel
theorem dX2_divideByLimb_72 : decode cX2_divideByLimb 72 = .ok (.lload 9, 2) := by decide +kernel
theorem dX2_divideByLimb_74 : decode cX2_divideByLimb 74 = .ok (.lload_n 2, 1) := by decide +kernel
theorem dX2_divideByLimb_75 : decode cX2_divideByLimb 75 = .ok (.lmul, 1) := by decide +kernel
theorem dX2_divideByLimb_76 : decode cX2_divideByLimb 76 = .ok (.lsub, 1) := by decide +kernel
theorem dX2_divideByLimb_77 : decode cX2_divideByLimb 77 = .ok (.lstore 4, 2) := by decide +kernel
theorem dX2_divideByLimb_79 : decode cX2_divideByLimb 79 = .ok (.iinc 6 (-1), 3) := by decide +kernel
theorem dX2_divideByLimb_82 : decode cX2_divideByLimb 82 = .ok (.goto (-53), 3) := by decide +kernel
theorem dX2_divideByLimb_85 : decode cX2_divideByLimb 85 = .ok (.aload_n 0, 1) := by decide +kernel
theorem dX2_divideByLimb_86 : decode cX2_divideByLimb 86 = .ok (.getfield 14, 3) := by decide +kernel
theorem dX2_divideByLimb_89 : decode cX2_divideByLimb 89 = .ok (.aload_n 1, 1) := by decide +kernel
theorem dX2_divideByLimb_90 : decode cX2_divideByLimb 90 = .ok (.getfield 40, 3) := by decide +kernel
theorem dX2_divideByLimb_93 : decode cX2_divideByLimb 93 = .ok (.invokestatic 75, 3) := by decide +kernel
theorem dX2_divideByLimb_96 : decode cX2_divideByLimb 96 = .ok (.aload_n 0, 1) := by decide +kernel
theorem dX2_divideByLimb_97 : decode cX2_divideByLimb 97 = .ok (.getfield 20, 3) := by decide +kernel
theorem dX2_divideByLimb_100 : decode cX2_divideByLimb 100 = .ok (.lload 4, 2) := by decide +kernel
theorem dX2_divideByLimb_102 : decode cX2_divideByLimb 102 = .ok (.invokevirtual 36, 3) := by decide +kernel
theorem dX2_divideByLimb_105 : decode cX2_divideByLimb 105 = .ok (.return_, 1) := by decide +kernel
theorem dX2_divideByLimbs_0 : decode cX2_divideByLimbs 0 = .ok (.aload_n 2, 1) := by decide +kernel
theorem dX2_divideByLimbs_1 : decode cX2_divideByLimbs 1 = .ok (.getfield 40, 3) := by decide +kernel
theorem dX2_divideByLimbs_4 : decode cX2_divideByLimbs 4 = .ok (.istore_n 3, 1) := by decide +kernel
theorem dX2_divideByLimbs_5 : decode cX2_divideByLimbs 5 = .ok (.aload_n 1, 1) := by decide +kernel
theorem dX2_divideByLimbs_6 : decode cX2_divideByLimbs 6 = .ok (.getfield 40, 3) := by decide +kernel
theorem dX2_divideByLimbs_9 : decode cX2_divideByLimbs 9 = .ok (.iload_n 3, 1) := by decide +kernel
theorem dX2_divideByLimbs_10 : decode cX2_divideByLimbs 10 = .ok (.isub, 1) := by decide +kernel
theorem dX2_divideByLimbs_11 : decode cX2_divideByLimbs 11 = .ok (.istore 4, 2) := by decide +kernel
theorem dX2_divideByLimbs_13 : decode cX2_divideByLimbs 13 = .ok (.ldc2_w 73, 3) := by decide +kernel
theorem dX2_divideByLimbs_16 : decode cX2_divideByLimbs 16 = .ok (.aload_n 2, 1) := by decide +kernel
theorem dX2_divideByLimbs_17 : decode cX2_divideByLimbs 17 = .ok (.getfield 55, 3) := by decide +kernel
theorem dX2_divideByLimbs_20 : decode cX2_divideByLimbs 20 = .ok (.iload_n 3, 1) := by decide +kernel
theorem dX2_divideByLimbs_21 : decode cX2_divideByLimbs 21 = .ok (.iconst 1, 1) := by decide +kernel
theorem dX2_divideByLimbs_22 : decode cX2_divideByLimbs 22 = .ok (.isub, 1) := by decide +kernel
theorem dX2_divideByLimbs_23 : decode cX2_divideByLimbs 23 = .ok (.iaload, 1) := by decide +kernel
theorem dX2_divideByLimbs_24 : decode cX2_divideByLimbs 24 = .ok (.i2l, 1) := by decide +kernel
theorem dX2_divideByLimbs_25 : decode cX2_divideByLimbs 25 = .ok (.lconst 1, 1) := by decide +kernel
theorem dX2_divideByLimbs_26 : decode cX2_divideByLimbs 26 = .ok (.ladd, 1) := by decide +kernel
theorem dX2_divideByLimbs_27 : decode cX2_divideByLimbs 27 = .ok (.ldiv, 1) := by decide +kernel
theorem dX2_divideByLimbs_28 : decode cX2_divideByLimbs 28 = .ok (.lstore 5, 2) := by decide +kernel
theorem dX2_divideByLimbs_30 : decode cX2_divideByLimbs 30 = .ok (.aload_n 0, 1) := by decide +kernel
theorem dX2_divideByLimbs_31 : decode cX2_divideByLimbs 31 = .ok (.getfield 29, 3) := by decide +kernel
theorem dX2_divideByLimbs_34 : decode cX2_divideByLimbs 34 = .ok (.aload_n 1, 1) := by decide +kernel
theorem dX2_divideByLimbs_35 : decode cX2_divideByLimbs 35 = .ok (.lload 5, 2) := by decide +kernel
theorem dX2_divideByLimbs_37 : decode cX2_divideByLimbs 37 = .ok (.invokestatic 78, 3) := by decide +kernel
theorem dX2_divideByLimbs_40 : decode cX2_divideByLimbs 40 = .ok (.aload_n 0, 1) := by decide +kernel
theorem dX2_divideByLimbs_41 : decode cX2_divideByLimbs 41 = .ok (.getfield 33, 3) := by decide +kernel
theorem dX2_divideByLimbs_44 : decode cX2_divideByLimbs 44 = .ok (.aload_n 2, 1) := by decide +kernel
theorem dX2_divideByLimbs_45 : decode cX2_divideByLimbs 45 = .ok (.lload 5, 2) := by decide +kernel
theorem dX2_divideByLimbs_47 : decode cX2_divideByLimbs 47 = .ok (.invokestatic 78, 3) := by decide +kernel
theorem dX2_divideByLimbs_50 : decode cX2_divideByLimbs 50 = .ok (.iload 4, 2) := by decide +kernel
theorem dX2_divideByLimbs_52 : decode cX2_divideByLimbs 52 = .ok (.istore 7, 2) := by decide +kernel
theorem dX2_divideByLimbs_54 : decode cX2_divideByLimbs 54 = .ok (.iload 7, 2) := by decide +kernel
theorem dX2_divideByLimbs_56 : decode cX2_divideByLimbs 56 = .ok (.ifCond .lt 34, 3) := by decide +kernel
theorem dX2_divideByLimbs_59 : decode cX2_divideByLimbs 59 = .ok (.aload_n 0, 1) := by decide +kernel
theorem dX2_divideByLimbs_60 : decode cX2_divideByLimbs 60 = .ok (.getfield 14, 3) := by decide +kernel
theorem dX2_divideByLimbs_63 : decode cX2_divideByLimbs 63 = .ok (.getfield 55, 3) := by decide +kernel
theorem dX2_divideByLimbs_66 : decode cX2_divideByLimbs 66 = .ok (.iload 7, 2) := by decide +kernel
theorem dX2_divideByLimbs_68 : decode cX2_divideByLimbs 68 = .ok (.aload_n 0, 1) := by decide +kernel
theorem dX2_divideByLimbs_69 : decode cX2_divideByLimbs 69 = .ok (.iload 7, 2) := by decide +kernel
theorem dX2_divideByLimbs_71 : decode cX2_divideByLimbs 71 = .ok (.iload_n 3, 1) := by decide +kernel
theorem dX2_divideByLimbs_72 : decode cX2_divideByLimbs 72 = .ok (.aload_n 0, 1) := by decide +kernel
theorem dX2_divideByLimbs_73 : decode cX2_divideByLimbs 73 = .ok (.iload 7, 2) := by decide +kernel
theorem dX2_divideByLimbs_75 : decode cX2_divideByLimbs 75 = .ok (.iload_n 3, 1) := by decide +kernel
theorem dX2_divideByLimbs_76 : decode cX2_divideByLimbs 76 = .ok (.invokevirtual 82, 3) := by decide +kernel
theorem dX2_divideByLimbs_79 : decode cX2_divideByLimbs 79 = .ok (.invokevirtual 86, 3) := by decide +kernel
theorem dX2_divideByLimbs_82 : decode cX2_divideByLimbs 82 = .ok (.l2i, 1) := by decide +kernel
theorem dX2_divideByLimbs_83 : decode cX2_divideByLimbs 83 = .ok (.iastore, 1) := by decide +kernel
theorem dX2_divideByLimbs_84 : decode cX2_divideByLimbs 84 = .ok (.iinc 7 (-1), 3) := by decide +kernel
theorem dX2_divideByLimbs_87 : decode cX2_divideByLimbs 87 = .ok (.goto (-33), 3) := by decide +kernel
theorem dX2_divideByLimbs_90 : decode cX2_divideByLimbs 90 = .ok (.aload_n 0, 1) := by decide +kernel
theorem dX2_divideByLimbs_91 : decode cX2_divideByLimbs 91 = .ok (.getfield 14, 3) := by decide +kernel
theorem dX2_divideByLimbs_94 : decode cX2_divideByLimbs 94 = .ok (.iload 4, 2) := by decide +kernel
theorem dX2_divideByLimbs_96 : decode cX2_divideByLimbs 96 = .ok (.iconst 1, 1) := by decide +kernel
theorem dX2_divideByLimbs_97 : decode cX2_divideByLimbs 97 = .ok (.iadd, 1) := by decide +kernel
theorem dX2_divideByLimbs_98 : decode cX2_divideByLimbs 98 = .ok (.invokestatic 75, 3) := by decide +kernel
theorem dX2_divideByLimbs_101 : decode cX2_divideByLimbs 101 = .ok (.lconst 0, 1) := by decide +kernel
theorem dX2_divideByLimbs_102 : decode cX2_divideByLimbs 102 = .ok (.lstore 7, 2) := by decide +kernel
theorem dX2_divideByLimbs_104 : decode cX2_divideByLimbs 104 = .ok (.iload_n 3, 1) := by decide +kernel
theorem dX2_divideByLimbs_105 : decode cX2_divideByLimbs 105 = .ok (.iconst 1, 1) := by decide +kernel
theorem dX2_divideByLimbs_106 : decode cX2_divideByLimbs 106 = .ok (.isub, 1) := by decide +kernel
theorem dX2_divideByLimbs_107 : decode cX2_divideByLimbs 107 = .ok (.istore 9, 2) := by decide +kernel
theorem dX2_divideByLimbs_109 : decode cX2_divideByLimbs 109 = .ok (.iload 9, 2) := by decide +kernel
theorem dX2_divideByLimbs_111 : decode cX2_divideByLimbs 111 = .ok (.ifCond .lt 55, 3) := by decide +kernel
theorem dX2_divideByLimbs_114 : decode cX2_divideByLimbs 114 = .ok (.lload 5, 2) := by decide +kernel
theorem dX2_divideByLimbs_116 : decode cX2_divideByLimbs 116 = .ok (.lconst 0, 1) := by decide +kernel
theorem dX2_divideByLimbs_117 : decode cX2_divideByLimbs 117 = .ok (.lcmp, 1) := by decide +kernel
theorem dX2_divideByLimbs_118 : decode cX2_divideByLimbs 118 = .ok (.ifCond .le 48, 3) := by decide +kernel
theorem dX2_divideByLimbs_121 : decode cX2_divideByLimbs 121 = .ok (.lload 7, 2) := by decide +kernel
theorem dX2_divideByLimbs_123 : decode cX2_divideByLimbs 123 = .ok (.ldc2_w 73, 3) := by decide +kernel
theorem dX2_divideByLimbs_126 : decode cX2_divideByLimbs 126 = .ok (.lmul, 1) := by decide +kernel
theorem dX2_divideByLimbs_127 : decode cX2_divideByLimbs 127 = .ok (.aload_n 0, 1) := by decide +kernel
theorem dX2_divideByLimbs_128 : decode cX2_divideByLimbs 128 = .ok (.getfield 29, 3) := by decide +kernel
theorem dX2_divideByLimbs_131 : decode cX2_divideByLimbs 131 = .ok (.iload 9, 2) := by decide +kernel
theorem dX2_divideByLimbs_133 : decode cX2_divideByLimbs 133 = .ok (.laload, 1) := by decide +kernel
theorem dX2_divideByLimbs_134 : decode cX2_divideByLimbs 134 = .ok (.ladd, 1) := by decide +kernel
theorem dX2_divideByLimbs_135 : decode cX2_divideByLimbs 135 = .ok (.lstore 10, 2) := by decide +kernel
theorem dX2_divideByLimbs_137 : decode cX2_divideByLimbs 137 = .ok (.aload_n 0, 1) := by decide +kernel
theorem dX2_divideByLimbs_138 : decode cX2_divideByLimbs 138 = .ok (.getfield 20, 3) := by decide +kernel
theorem dX2_divideByLimbs_141 : decode cX2_divideByLimbs 141 = .ok (.getfield 55, 3) := by decide +kernel
theorem dX2_divideByLimbs_144 : decode cX2_divideByLimbs 144 = .ok (.iload 9, 2) := by decide +kernel
theorem dX2_divideByLimbs_146 : decode cX2_divideByLimbs 146 = .ok (.lload 10, 2) := by decide +kernel
theorem dX2_divideByLimbs_148 : decode cX2_divideByLimbs 148 = .ok (.lload 5, 2) := by decide +kernel
theorem dX2_divideByLimbs_150 : decode cX2_divideByLimbs 150 = .ok (.ldiv, 1) := by decide +kernel
theorem dX2_divideByLimbs_151 : decode cX2_divideByLimbs 151 = .ok (.l2i, 1) := by decide +kernel
theorem dX2_divideByLimbs_152 : decode cX2_divideByLimbs 152 = .ok (.iastore, 1) := by decide +kernel
theorem dX2_divideByLimbs_153 : decode cX2_divideByLimbs 153 = .ok (.lload 10, 2) := by decide +kernel
theorem dX2_divideByLimbs_155 : decode cX2_divideByLimbs 155 = .ok (.lload 5, 2) := by decide +kernel
theorem dX2_divideByLimbs_157 : decode cX2_divideByLimbs 157 = .ok (.lrem, 1) := by decide +kernel
theorem dX2_divideByLimbs_158 : decode cX2_divideByLimbs 158 = .ok (.lstore 7, 2) := by decide +kernel
theorem dX2_divideByLimbs_160 : decode cX2_divideByLimbs 160 = .ok (.iinc 9 (-1), 3) := by decide +kernel
theorem dX2_divideByLimbs_163 : decode cX2_divideByLimbs 163 = .ok (.goto (-54), 3) := by decide +kernel
theorem dX2_divideByLimbs_166 : decode cX2_divideByLimbs 166 = .ok (.aload_n 0, 1) := by decide +kernel
theorem dX2_divideByLimbs_167 : decode cX2_divideByLimbs 167 = .ok (.getfield 20, 3) := by decide +kernel
theorem dX2_divideByLimbs_170 : decode cX2_divideByLimbs 170 = .ok (.iload_n 3, 1) := by decide +kernel
theorem dX2_divideByLimbs_171 : decode cX2_divideByLimbs 171 = .ok (.invokestatic 75, 3) := by decide +kernel
theorem dX2_divideByLimbs_174 : decode cX2_divideByLimbs 174 = .ok (.return_, 1) := by decide +kernel
theorem dX2_scaleInto_0 : decode cX2_scaleInto 0 = .ok (.lconst 0, 1) := by decide +kernel
theorem dX2_scaleInto_1 : decode cX2_scaleInto 1 = .ok (.lstore 4, 2) := by decide +kernel
theorem dX2_scaleInto_3 : decode cX2_scaleInto 3 = .ok (.iconst 0, 1) := by decide +kernel
theorem dX2_scaleInto_4 : decode cX2_scaleInto 4 = .ok (.istore 6, 2) := by decide +kernel
theorem dX2_scaleInto_6 : decode cX2_scaleInto 6 = .ok (.iload 6, 2) := by decide +kernel
theorem dX2_scaleInto_8 : decode cX2_scaleInto 8 = .ok (.aload_n 1, 1) := by decide +kernel
theorem dX2_scaleInto_9 : decode cX2_scaleInto 9 = .ok (.getfield 40, 3) := by decide +kernel
theorem dX2_scaleInto_12 : decode cX2_scaleInto 12 = .ok (.if_icmp .ge 52, 3) := by decide +kernel
theorem dX2_scaleInto_15 : decode cX2_scaleInto 15 = .ok (.iload 6, 2) := by decide +kernel
theorem dX2_scaleInto_17 : decode cX2_scaleInto 17 = .ok (.aload_n 0, 1) := by decide +kernel
theorem dX2_scaleInto_18 : decode cX2_scaleInto 18 = .ok (.arraylength, 1) := by decide +kernel
theorem dX2_scaleInto_19 : decode cX2_scaleInto 19 = .ok (.if_icmp .ge 45, 3) := by decide +kernel
theorem dX2_scaleInto_22 : decode cX2_scaleInto 22 = .ok (.aload_n 1, 1) := by decide +kernel
theorem dX2_scaleInto_23 : decode cX2_scaleInto 23 = .ok (.getfield 55, 3) := by decide +kernel
theorem dX2_scaleInto_26 : decode cX2_scaleInto 26 = .ok (.iload 6, 2) := by decide +kernel
theorem dX2_scaleInto_28 : decode cX2_scaleInto 28 = .ok (.iaload, 1) := by decide +kernel
theorem dX2_scaleInto_29 : decode cX2_scaleInto 29 = .ok (.i2l, 1) := by decide +kernel
theorem dX2_scaleInto_30 : decode cX2_scaleInto 30 = .ok (.lload_n 2, 1) := by decide +kernel
theorem dX2_scaleInto_31 : decode cX2_scaleInto 31 = .ok (.lmul, 1) := by decide +kernel
theorem dX2_scaleInto_32 : decode cX2_scaleInto 32 = .ok (.lload 4, 2) := by decide +kernel
theorem dX2_scaleInto_34 : decode cX2_scaleInto 34 = .ok (.ladd, 1) := by decide +kernel
theorem dX2_scaleInto_35 : decode cX2_scaleInto 35 = .ok (.lstore 7, 2) := by decide +kernel
theorem dX2_scaleInto_37 : decode cX2_scaleInto 37 = .ok (.lload 7, 2) := by decide +kernel
theorem dX2_scaleInto_39 : decode cX2_scaleInto 39 = .ok (.ldc2_w 73, 3) := by decide +kernel
theorem dX2_scaleInto_42 : decode cX2_scaleInto 42 = .ok (.ldiv, 1) := by decide +kernel
theorem dX2_scaleInto_43 : decode cX2_scaleInto 43 = .ok (.lstore 4, 2) := by decide +kernel
theorem dX2_scaleInto_45 : decode cX2_scaleInto 45 = .ok (.aload_n 0, 1) := by decide +kernel
theorem dX2_scaleInto_46 : decode cX2_scaleInto 46 = .ok (.iload 6, 2) := by decide +kernel
theorem dX2_scaleInto_48 : decode cX2_scaleInto 48 = .ok (.lload 7, 2) := by decide +kernel
theorem dX2_scaleInto_50 : decode cX2_scaleInto 50 = .ok (.lload 4, 2) := by decide +kernel
theorem dX2_scaleInto_52 : decode cX2_scaleInto 52 = .ok (.ldc2_w 73, 3) := by decide +kernel
theorem dX2_scaleInto_55 : decode cX2_scaleInto 55 = .ok (.lmul, 1) := by decide +kernel
theorem dX2_scaleInto_56 : decode cX2_scaleInto 56 = .ok (.lsub, 1) := by decide +kernel
theorem dX2_scaleInto_57 : decode cX2_scaleInto 57 = .ok (.lastore, 1) := by decide +kernel
theorem dX2_scaleInto_58 : decode cX2_scaleInto 58 = .ok (.iinc 6 1, 3) := by decide +kernel
theorem dX2_scaleInto_61 : decode cX2_scaleInto 61 = .ok (.goto (-55), 3) := by decide +kernel
theorem dX2_scaleInto_64 : decode cX2_scaleInto 64 = .ok (.aload_n 1, 1) := by decide +kernel
theorem dX2_scaleInto_65 : decode cX2_scaleInto 65 = .ok (.getfield 40, 3) := by decide +kernel
theorem dX2_scaleInto_68 : decode cX2_scaleInto 68 = .ok (.aload_n 0, 1) := by decide +kernel
theorem dX2_scaleInto_69 : decode cX2_scaleInto 69 = .ok (.arraylength, 1) := by decide +kernel
theorem dX2_scaleInto_70 : decode cX2_scaleInto 70 = .ok (.if_icmp .ge 11, 3) := by decide +kernel
theorem dX2_scaleInto_73 : decode cX2_scaleInto 73 = .ok (.aload_n 0, 1) := by decide +kernel
theorem dX2_scaleInto_74 : decode cX2_scaleInto 74 = .ok (.aload_n 1, 1) := by decide +kernel
theorem dX2_scaleInto_75 : decode cX2_scaleInto 75 = .ok (.getfield 40, 3) := by decide +kernel
theorem dX2_scaleInto_78 : decode cX2_scaleInto 78 = .ok (.lload 4, 2) := by decide +kernel
theorem dX2_scaleInto_80 : decode cX2_scaleInto 80 = .ok (.lastore, 1) := by decide +kernel
theorem dX2_scaleInto_81 : decode cX2_scaleInto 81 = .ok (.return_, 1) := by decide +kernel
theorem dX2_guessDigit_0 : decode cX2_guessDigit 0 = .ok (.aload_n 0, 1) := by decide +kernel
theorem dX2_guessDigit_1 : decode cX2_guessDigit 1 = .ok (.getfield 33, 3) := by decide +kernel
theorem dX2_guessDigit_4 : decode cX2_guessDigit 4 = .ok (.iload_n 2, 1) := by decide +kernel
theorem dX2_guessDigit_5 : decode cX2_guessDigit 5 = .ok (.iconst 1, 1) := by decide +kernel
theorem dX2_guessDigit_6 : decode cX2_guessDigit 6 = .ok (.isub, 1) := by decide +kernel
theorem dX2_guessDigit_7 : decode cX2_guessDigit 7 = .ok (.laload, 1) := by decide +kernel
theorem dX2_guessDigit_8 : decode cX2_guessDigit 8 = .ok (.lstore_n 3, 1) := by decide +kernel
theorem dX2_guessDigit_9 : decode cX2_guessDigit 9 = .ok (.lload_n 3, 1) := by decide +kernel
theorem dX2_guessDigit_10 : decode cX2_guessDigit 10 = .ok (.lconst 0, 1) := by decide +kernel
theorem dX2_guessDigit_11 : decode cX2_guessDigit 11 = .ok (.lcmp, 1) := by decide +kernel
theorem dX2_guessDigit_12 : decode cX2_guessDigit 12 = .ok (.ifCond .gt 5, 3) := by decide +kernel
theorem dX2_guessDigit_15 : decode cX2_guessDigit 15 = .ok (.lconst 0, 1) := by decide +kernel
theorem dX2_guessDigit_16 : decode cX2_guessDigit 16 = .ok (.lreturn, 1) := by decide +kernel
theorem dX2_guessDigit_17 : decode cX2_guessDigit 17 = .ok (.aload_n 0, 1) := by decide +kernel
theorem dX2_guessDigit_18 : decode cX2_guessDigit 18 = .ok (.getfield 29, 3) := by decide +kernel
theorem dX2_guessDigit_21 : decode cX2_guessDigit 21 = .ok (.iload_n 1, 1) := by decide +kernel
theorem dX2_guessDigit_22 : decode cX2_guessDigit 22 = .ok (.iload_n 2, 1) := by decide +kernel
theorem dX2_guessDigit_23 : decode cX2_guessDigit 23 = .ok (.iadd, 1) := by decide +kernel
theorem dX2_guessDigit_24 : decode cX2_guessDigit 24 = .ok (.laload, 1) := by decide +kernel
theorem dX2_guessDigit_25 : decode cX2_guessDigit 25 = .ok (.ldc2_w 73, 3) := by decide +kernel
theorem dX2_guessDigit_28 : decode cX2_guessDigit 28 = .ok (.lmul, 1) := by decide +kernel
theorem dX2_guessDigit_29 : decode cX2_guessDigit 29 = .ok (.aload_n 0, 1) := by decide +kernel
theorem dX2_guessDigit_30 : decode cX2_guessDigit 30 = .ok (.getfield 29, 3) := by decide +kernel
theorem dX2_guessDigit_33 : decode cX2_guessDigit 33 = .ok (.iload_n 1, 1) := by decide +kernel
theorem dX2_guessDigit_34 : decode cX2_guessDigit 34 = .ok (.iload_n 2, 1) := by decide +kernel
theorem dX2_guessDigit_35 : decode cX2_guessDigit 35 = .ok (.iadd, 1) := by decide +kernel
theorem dX2_guessDigit_36 : decode cX2_guessDigit 36 = .ok (.iconst 1, 1) := by decide +kernel
theorem dX2_guessDigit_37 : decode cX2_guessDigit 37 = .ok (.isub, 1) := by decide +kernel
theorem dX2_guessDigit_38 : decode cX2_guessDigit 38 = .ok (.laload, 1) := by decide +kernel
theorem dX2_guessDigit_39 : decode cX2_guessDigit 39 = .ok (.ladd, 1) := by decide +kernel
theorem dX2_guessDigit_40 : decode cX2_guessDigit 40 = .ok (.lstore 5, 2) := by decide +kernel
theorem dX2_guessDigit_42 : decode cX2_guessDigit 42 = .ok (.lload 5, 2) := by decide +kernel
theorem dX2_guessDigit_44 : decode cX2_guessDigit 44 = .ok (.lload_n 3, 1) := by decide +kernel
theorem dX2_guessDigit_45 : decode cX2_guessDigit 45 = .ok (.ldiv, 1) := by decide +kernel
theorem dX2_guessDigit_46 : decode cX2_guessDigit 46 = .ok (.lstore 7, 2) := by decide +kernel
theorem dX2_guessDigit_48 : decode cX2_guessDigit 48 = .ok (.lload 5, 2) := by decide +kernel
theorem dX2_guessDigit_50 : decode cX2_guessDigit 50 = .ok (.lload 7, 2) := by decide +kernel
theorem dX2_guessDigit_52 : decode cX2_guessDigit 52 = .ok (.lload_n 3, 1) := by decide +kernel
theorem dX2_guessDigit_53 : decode cX2_guessDigit 53 = .ok (.lmul, 1) := by decide +kernel
theorem dX2_guessDigit_54 : decode cX2_guessDigit 54 = .ok (.lsub, 1) := by decide +kernel
theorem dX2_guessDigit_55 : decode cX2_guessDigit 55 = .ok (.lstore 9, 2) := by decide +kernel
theorem dX2_guessDigit_57 : decode cX2_guessDigit 57 = .ok (.iconst 0, 1) := by decide +kernel
theorem dX2_guessDigit_58 : decode cX2_guessDigit 58 = .ok (.istore 11, 2) := by decide +kernel
theorem dX2_guessDigit_60 : decode cX2_guessDigit 60 = .ok (.iload 11, 2) := by decide +kernel
theorem dX2_guessDigit_62 : decode cX2_guessDigit 62 = .ok (.iconst 2, 1) := by decide +kernel
theorem dX2_guessDigit_63 : decode cX2_guessDigit 63 = .ok (.if_icmp .ge 74, 3) := by decide +kernel
theorem dX2_guessDigit_66 : decode cX2_guessDigit 66 = .ok (.lload 9, 2) := by decide +kernel
theorem dX2_guessDigit_68 : decode cX2_guessDigit 68 = .ok (.ldc2_w 73, 3) := by decide +kernel
theorem dX2_guessDigit_71 : decode cX2_guessDigit 71 = .ok (.lcmp, 1) := by decide +kernel
theorem dX2_guessDigit_72 : decode cX2_guessDigit 72 = .ok (.ifCond .ge 65, 3) := by decide +kernel
theorem dX2_guessDigit_75 : decode cX2_guessDigit 75 = .ok (.lload 7, 2) := by decide +kernel
theorem dX2_guessDigit_77 : decode cX2_guessDigit 77 = .ok (.ldc2_w 73, 3) := by decide +kernel
theorem dX2_guessDigit_80 : decode cX2_guessDigit 80 = .ok (.lcmp, 1) := by decide +kernel
theorem dX2_guessDigit_81 : decode cX2_guessDigit 81 = .ok (.ifCond .ge 38, 3) := by decide +kernel
theorem dX2_guessDigit_84 : decode cX2_guessDigit 84 = .ok (.lload 7, 2) := by decide +kernel
theorem dX2_guessDigit_86 : decode cX2_guessDigit 86 = .ok (.aload_n 0, 1) := by decide +kernel
theorem dX2_guessDigit_87 : decode cX2_guessDigit 87 = .ok (.getfield 33, 3) := by decide +kernel
theorem dX2_guessDigit_90 : decode cX2_guessDigit 90 = .ok (.iload_n 2, 1) := by decide +kernel
theorem dX2_guessDigit_91 : decode cX2_guessDigit 91 = .ok (.iconst 2, 1) := by decide +kernel
theorem dX2_guessDigit_92 : decode cX2_guessDigit 92 = .ok (.isub, 1) := by decide +kernel
theorem dX2_guessDigit_93 : decode cX2_guessDigit 93 = .ok (.laload, 1) := by decide +kernel
theorem dX2_guessDigit_94 : decode cX2_guessDigit 94 = .ok (.lmul, 1) := by decide +kernel
theorem dX2_guessDigit_95 : decode cX2_guessDigit 95 = .ok (.lload 9, 2) := by decide +kernel
theorem dX2_guessDigit_97 : decode cX2_guessDigit 97 = .ok (.ldc2_w 73, 3) := by decide +kernel
theorem dX2_guessDigit_100 : decode cX2_guessDigit 100 = .ok (.lmul, 1) := by decide +kernel
theorem dX2_guessDigit_101 : decode cX2_guessDigit 101 = .ok (.aload_n 0, 1) := by decide +kernel
theorem dX2_guessDigit_102 : decode cX2_guessDigit 102 = .ok (.getfield 29, 3) := by decide +kernel
theorem dX2_guessDigit_105 : decode cX2_guessDigit 105 = .ok (.iload_n 1, 1) := by decide +kernel
theorem dX2_guessDigit_106 : decode cX2_guessDigit 106 = .ok (.iload_n 2, 1) := by decide +kernel
theorem dX2_guessDigit_107 : decode cX2_guessDigit 107 = .ok (.iadd, 1) := by decide +kernel
theorem dX2_guessDigit_108 : decode cX2_guessDigit 108 = .ok (.iconst 2, 1) := by decide +kernel
theorem dX2_guessDigit_109 : decode cX2_guessDigit 109 = .ok (.isub, 1) := by decide +kernel
theorem dX2_guessDigit_110 : decode cX2_guessDigit 110 = .ok (.laload, 1) := by decide +kernel
theorem dX2_guessDigit_111 : decode cX2_guessDigit 111 = .ok (.ladd, 1) := by decide +kernel
theorem dX2_guessDigit_112 : decode cX2_guessDigit 112 = .ok (.lcmp, 1) := by decide +kernel
theorem dX2_guessDigit_113 : decode cX2_guessDigit 113 = .ok (.ifCond .gt 6, 3) := by decide +kernel
theorem dX2_guessDigit_116 : decode cX2_guessDigit 116 = .ok (.goto 21, 3) := by decide +kernel
theorem dX2_guessDigit_119 : decode cX2_guessDigit 119 = .ok (.lload 7, 2) := by decide +kernel
theorem dX2_guessDigit_121 : decode cX2_guessDigit 121 = .ok (.lconst 1, 1) := by decide +kernel
theorem dX2_guessDigit_122 : decode cX2_guessDigit 122 = .ok (.lsub, 1) := by decide +kernel
theorem dX2_guessDigit_123 : decode cX2_guessDigit 123 = .ok (.lstore 7, 2) := by decide +kernel
theorem dX2_guessDigit_125 : decode cX2_guessDigit 125 = .ok (.lload 9, 2) := by decide +kernel
theorem dX2_guessDigit_127 : decode cX2_guessDigit 127 = .ok (.lload_n 3, 1) := by decide +kernel
theorem dX2_guessDigit_128 : decode cX2_guessDigit 128 = .ok (.ladd, 1) := by decide +kernel
theorem dX2_guessDigit_129 : decode cX2_guessDigit 129 = .ok (.lstore 9, 2) := by decide +kernel
theorem dX2_guessDigit_131 : decode cX2_guessDigit 131 = .ok (.iinc 11 1, 3) := by decide +kernel
theorem dX2_guessDigit_134 : decode cX2_guessDigit 134 = .ok (.goto (-74), 3) := by decide +kernel
theorem dX2_guessDigit_137 : decode cX2_guessDigit 137 = .ok (.lload 7, 2) := by decide +kernel
theorem dX2_guessDigit_139 : decode cX2_guessDigit 139 = .ok (.lreturn, 1) := by decide +kernel
theorem dX2_takeAway_0 : decode cX2_takeAway 0 = .ok (.lconst 0, 1) := by decide +kernel
theorem dX2_takeAway_1 : decode cX2_takeAway 1 = .ok (.lstore 5, 2) := by decide +kernel
theorem dX2_takeAway_3 : decode cX2_takeAway 3 = .ok (.iconst 0, 1) := by decide +kernel
theorem dX2_takeAway_4 : decode cX2_takeAway 4 = .ok (.istore 7, 2) := by decide +kernel
theorem dX2_takeAway_6 : decode cX2_takeAway 6 = .ok (.iload 7, 2) := by decide +kernel
theorem dX2_takeAway_8 : decode cX2_takeAway 8 = .ok (.iload_n 2, 1) := by decide +kernel
theorem dX2_takeAway_9 : decode cX2_takeAway 9 = .ok (.if_icmp .ge 74, 3) := by decide +kernel
theorem dX2_takeAway_12 : decode cX2_takeAway 12 = .ok (.aload_n 0, 1) := by decide +kernel
theorem dX2_takeAway_13 : decode cX2_takeAway 13 = .ok (.getfield 29, 3) := by decide +kernel
theorem dX2_takeAway_16 : decode cX2_takeAway 16 = .ok (.iload_n 1, 1) := by decide +kernel
theorem dX2_takeAway_17 : decode cX2_takeAway 17 = .ok (.iload 7, 2) := by decide +kernel
theorem dX2_takeAway_19 : decode cX2_takeAway 19 = .ok (.iadd, 1) := by decide +kernel
theorem dX2_takeAway_20 : decode cX2_takeAway 20 = .ok (.laload, 1) := by decide +kernel
theorem dX2_takeAway_21 : decode cX2_takeAway 21 = .ok (.lload_n 3, 1) := by decide +kernel
theorem dX2_takeAway_22 : decode cX2_takeAway 22 = .ok (.aload_n 0, 1) := by decide +kernel
theorem dX2_takeAway_23 : decode cX2_takeAway 23 = .ok (.getfield 33, 3) := by decide +kernel
theorem dX2_takeAway_26 : decode cX2_takeAway 26 = .ok (.iload 7, 2) := by decide +kernel
theorem dX2_takeAway_28 : decode cX2_takeAway 28 = .ok (.laload, 1) := by decide +kernel
theorem dX2_takeAway_29 : decode cX2_takeAway 29 = .ok (.lmul, 1) := by decide +kernel
theorem dX2_takeAway_30 : decode cX2_takeAway 30 = .ok (.lsub, 1) := by decide +kernel
theorem dX2_takeAway_31 : decode cX2_takeAway 31 = .ok (.lload 5, 2) := by decide +kernel
theorem dX2_takeAway_33 : decode cX2_takeAway 33 = .ok (.lsub, 1) := by decide +kernel
theorem dX2_takeAway_34 : decode cX2_takeAway 34 = .ok (.lstore 8, 2) := by decide +kernel
theorem dX2_takeAway_36 : decode cX2_takeAway 36 = .ok (.lload 8, 2) := by decide +kernel
theorem dX2_takeAway_38 : decode cX2_takeAway 38 = .ok (.lconst 0, 1) := by decide +kernel
theorem dX2_takeAway_39 : decode cX2_takeAway 39 = .ok (.lcmp, 1) := by decide +kernel
theorem dX2_takeAway_40 : decode cX2_takeAway 40 = .ok (.ifCond .ge 16, 3) := by decide +kernel
theorem dX2_takeAway_43 : decode cX2_takeAway 43 = .ok (.ldc2_w 90, 3) := by decide +kernel
theorem dX2_takeAway_46 : decode cX2_takeAway 46 = .ok (.lload 8, 2) := by decide +kernel
theorem dX2_takeAway_48 : decode cX2_takeAway 48 = .ok (.lsub, 1) := by decide +kernel
theorem dX2_takeAway_49 : decode cX2_takeAway 49 = .ok (.ldc2_w 73, 3) := by decide +kernel
theorem dX2_takeAway_52 : decode cX2_takeAway 52 = .ok (.ldiv, 1) := by decide +kernel
theorem dX2_takeAway_53 : decode cX2_takeAway 53 = .ok (.goto 4, 3) := by decide +kernel
theorem dX2_takeAway_56 : decode cX2_takeAway 56 = .ok (.lconst 0, 1) := by decide +kernel
theorem dX2_takeAway_57 : decode cX2_takeAway 57 = .ok (.lstore 5, 2) := by decide +kernel
theorem dX2_takeAway_59 : decode cX2_takeAway 59 = .ok (.aload_n 0, 1) := by decide +kernel
theorem dX2_takeAway_60 : decode cX2_takeAway 60 = .ok (.getfield 29, 3) := by decide +kernel
theorem dX2_takeAway_63 : decode cX2_takeAway 63 = .ok (.iload_n 1, 1) := by decide +kernel
theorem dX2_takeAway_64 : decode cX2_takeAway 64 = .ok (.iload 7, 2) := by decide +kernel
theorem dX2_takeAway_66 : decode cX2_takeAway 66 = .ok (.iadd, 1) := by decide +kernel
theorem dX2_takeAway_67 : decode cX2_takeAway 67 = .ok (.lload 8, 2) := by decide +kernel
theorem dX2_takeAway_69 : decode cX2_takeAway 69 = .ok (.lload 5, 2) := by decide +kernel
theorem dX2_takeAway_71 : decode cX2_takeAway 71 = .ok (.ldc2_w 73, 3) := by decide +kernel
theorem dX2_takeAway_74 : decode cX2_takeAway 74 = .ok (.lmul, 1) := by decide +kernel
theorem dX2_takeAway_75 : decode cX2_takeAway 75 = .ok (.ladd, 1) := by decide +kernel
theorem dX2_takeAway_76 : decode cX2_takeAway 76 = .ok (.lastore, 1) := by decide +kernel
theorem dX2_takeAway_77 : decode cX2_takeAway 77 = .ok (.iinc 7 1, 3) := by decide +kernel
theorem dX2_takeAway_80 : decode cX2_takeAway 80 = .ok (.goto (-74), 3) := by decide +kernel
theorem dX2_takeAway_83 : decode cX2_takeAway 83 = .ok (.aload_n 0, 1) := by decide +kernel
theorem dX2_takeAway_84 : decode cX2_takeAway 84 = .ok (.getfield 29, 3) := by decide +kernel
theorem dX2_takeAway_87 : decode cX2_takeAway 87 = .ok (.iload_n 1, 1) := by decide +kernel
theorem dX2_takeAway_88 : decode cX2_takeAway 88 = .ok (.iload_n 2, 1) := by decide +kernel
theorem dX2_takeAway_89 : decode cX2_takeAway 89 = .ok (.iadd, 1) := by decide +kernel
theorem dX2_takeAway_90 : decode cX2_takeAway 90 = .ok (.dup2, 1) := by decide +kernel
theorem dX2_takeAway_91 : decode cX2_takeAway 91 = .ok (.laload, 1) := by decide +kernel
theorem dX2_takeAway_92 : decode cX2_takeAway 92 = .ok (.lload 5, 2) := by decide +kernel
theorem dX2_takeAway_94 : decode cX2_takeAway 94 = .ok (.lsub, 1) := by decide +kernel
theorem dX2_takeAway_95 : decode cX2_takeAway 95 = .ok (.lastore, 1) := by decide +kernel
theorem dX2_takeAway_96 : decode cX2_takeAway 96 = .ok (.aload_n 0, 1) := by decide +kernel
theorem dX2_takeAway_97 : decode cX2_takeAway 97 = .ok (.getfield 29, 3) := by decide +kernel
theorem dX2_takeAway_100 : decode cX2_takeAway 100 = .ok (.iload_n 1, 1) := by decide +kernel
theorem dX2_takeAway_101 : decode cX2_takeAway 101 = .ok (.iload_n 2, 1) := by decide +kernel
theorem dX2_takeAway_102 : decode cX2_takeAway 102 = .ok (.iadd, 1) := by decide +kernel
theorem dX2_takeAway_103 : decode cX2_takeAway 103 = .ok (.laload, 1) := by decide +kernel
theorem dX2_takeAway_104 : decode cX2_takeAway 104 = .ok (.lconst 0, 1) := by decide +kernel
theorem dX2_takeAway_105 : decode cX2_takeAway 105 = .ok (.lcmp, 1) := by decide +kernel
theorem dX2_takeAway_106 : decode cX2_takeAway 106 = .ok (.ifCond .lt 5, 3) := by decide +kernel
theorem dX2_takeAway_109 : decode cX2_takeAway 109 = .ok (.lload_n 3, 1) := by decide +kernel
theorem dX2_takeAway_110 : decode cX2_takeAway 110 = .ok (.lreturn, 1) := by decide +kernel
theorem dX2_takeAway_111 : decode cX2_takeAway 111 = .ok (.lconst 0, 1) := by decide +kernel
theorem dX2_takeAway_112 : decode cX2_takeAway 112 = .ok (.lstore 7, 2) := by decide +kernel
theorem dX2_takeAway_114 : decode cX2_takeAway 114 = .ok (.iconst 0, 1) := by decide +kernel
theorem dX2_takeAway_115 : decode cX2_takeAway 115 = .ok (.istore 9, 2) := by decide +kernel
theorem dX2_takeAway_117 : decode cX2_takeAway 117 = .ok (.iload 9, 2) := by decide +kernel
theorem dX2_takeAway_119 : decode cX2_takeAway 119 = .ok (.iload_n 2, 1) := by decide +kernel
theorem dX2_takeAway_120 : decode cX2_takeAway 120 = .ok (.if_icmp .ge 65, 3) := by decide +kernel
theorem dX2_takeAway_123 : decode cX2_takeAway 123 = .ok (.aload_n 0, 1) := by decide +kernel
theorem dX2_takeAway_124 : decode cX2_takeAway 124 = .ok (.getfield 29, 3) := by decide +kernel
theorem dX2_takeAway_127 : decode cX2_takeAway 127 = .ok (.iload_n 1, 1) := by decide +kernel
theorem dX2_takeAway_128 : decode cX2_takeAway 128 = .ok (.iload 9, 2) := by decide +kernel
theorem dX2_takeAway_130 : decode cX2_takeAway 130 = .ok (.iadd, 1) := by decide +kernel
theorem dX2_takeAway_131 : decode cX2_takeAway 131 = .ok (.laload, 1) := by decide +kernel
theorem dX2_takeAway_132 : decode cX2_takeAway 132 = .ok (.aload_n 0, 1) := by decide +kernel
theorem dX2_takeAway_133 : decode cX2_takeAway 133 = .ok (.getfield 33, 3) := by decide +kernel
theorem dX2_takeAway_136 : decode cX2_takeAway 136 = .ok (.iload 9, 2) := by decide +kernel
theorem dX2_takeAway_138 : decode cX2_takeAway 138 = .ok (.laload, 1) := by decide +kernel
theorem dX2_takeAway_139 : decode cX2_takeAway 139 = .ok (.ladd, 1) := by decide +kernel
theorem dX2_takeAway_140 : decode cX2_takeAway 140 = .ok (.lload 7, 2) := by decide +kernel
theorem dX2_takeAway_142 : decode cX2_takeAway 142 = .ok (.ladd, 1) := by decide +kernel
theorem dX2_takeAway_143 : decode cX2_takeAway 143 = .ok (.lstore 10, 2) := by decide +kernel
theorem dX2_takeAway_145 : decode cX2_takeAway 145 = .ok (.lload 10, 2) := by decide +kernel
theorem dX2_takeAway_147 : decode cX2_takeAway 147 = .ok (.ldc2_w 73, 3) := by decide +kernel
theorem dX2_takeAway_150 : decode cX2_takeAway 150 = .ok (.lcmp, 1) := by decide +kernel
theorem dX2_takeAway_151 : decode cX2_takeAway 151 = .ok (.ifCond .lt 7, 3) := by decide +kernel
theorem dX2_takeAway_154 : decode cX2_takeAway 154 = .ok (.lconst 1, 1) := by decide +kernel
theorem dX2_takeAway_155 : decode cX2_takeAway 155 = .ok (.goto 4, 3) := by decide +kernel
theorem dX2_takeAway_158 : decode cX2_takeAway 158 = .ok (.lconst 0, 1) := by decide +kernel
theorem dX2_takeAway_159 : decode cX2_takeAway 159 = .ok (.lstore 7, 2) := by decide +kernel
theorem dX2_takeAway_161 : decode cX2_takeAway 161 = .ok (.aload_n 0, 1) := by decide +kernel
theorem dX2_takeAway_162 : decode cX2_takeAway 162 = .ok (.getfield 29, 3) := by decide +kernel
theorem dX2_takeAway_165 : decode cX2_takeAway 165 = .ok (.iload_n 1, 1) := by decide +kernel
theorem dX2_takeAway_166 : decode cX2_takeAway 166 = .ok (.iload 9, 2) := by decide +kernel
theorem dX2_takeAway_168 : decode cX2_takeAway 168 = .ok (.iadd, 1) := by decide +kernel
theorem dX2_takeAway_169 : decode cX2_takeAway 169 = .ok (.lload 10, 2) := by decide +kernel
theorem dX2_takeAway_171 : decode cX2_takeAway 171 = .ok (.lload 7, 2) := by decide +kernel
theorem dX2_takeAway_173 : decode cX2_takeAway 173 = .ok (.ldc2_w 73, 3) := by decide +kernel
theorem dX2_takeAway_176 : decode cX2_takeAway 176 = .ok (.lmul, 1) := by decide +kernel
theorem dX2_takeAway_177 : decode cX2_takeAway 177 = .ok (.lsub, 1) := by decide +kernel
theorem dX2_takeAway_178 : decode cX2_takeAway 178 = .ok (.lastore, 1) := by decide +kernel
theorem dX2_takeAway_179 : decode cX2_takeAway 179 = .ok (.iinc 9 1, 3) := by decide +kernel
theorem dX2_takeAway_182 : decode cX2_takeAway 182 = .ok (.goto (-65), 3) := by decide +kernel
theorem dX2_takeAway_185 : decode cX2_takeAway 185 = .ok (.aload_n 0, 1) := by decide +kernel
theorem dX2_takeAway_186 : decode cX2_takeAway 186 = .ok (.getfield 29, 3) := by decide +kernel
theorem dX2_takeAway_189 : decode cX2_takeAway 189 = .ok (.iload_n 1, 1) := by decide +kernel
theorem dX2_takeAway_190 : decode cX2_takeAway 190 = .ok (.iload_n 2, 1) := by decide +kernel
theorem dX2_takeAway_191 : decode cX2_takeAway 191 = .ok (.iadd, 1) := by decide +kernel
theorem dX2_takeAway_192 : decode cX2_takeAway 192 = .ok (.dup2, 1) := by decide +kernel
theorem dX2_takeAway_193 : decode cX2_takeAway 193 = .ok (.laload, 1) := by decide +kernel
theorem dX2_takeAway_194 : decode cX2_takeAway 194 = .ok (.lload 7, 2) := by decide +kernel
theorem dX2_takeAway_196 : decode cX2_takeAway 196 = .ok (.ladd, 1) := by decide +kernel
theorem dX2_takeAway_197 : decode cX2_takeAway 197 = .ok (.lastore, 1) := by decide +kernel
theorem dX2_takeAway_198 : decode cX2_takeAway 198 = .ok (.lload_n 3, 1) := by decide +kernel
theorem dX2_takeAway_199 : decode cX2_takeAway 199 = .ok (.lconst 1, 1) := by decide +kernel
theorem dX2_takeAway_200 : decode cX2_takeAway 200 = .ok (.lsub, 1) := by decide +kernel
theorem dX2_takeAway_201 : decode cX2_takeAway 201 = .ok (.lreturn, 1) := by decide +kernel
theorem dX2_trim_0 : decode cX2_trim 0 = .ok (.iload_n 1, 1) := by decide +kernel
theorem dX2_trim_1 : decode cX2_trim 1 = .ok (.aload_n 0, 1) := by decide +kernel
theorem dX2_trim_2 : decode cX2_trim 2 = .ok (.getfield 55, 3) := by decide +kernel
theorem dX2_trim_5 : decode cX2_trim 5 = .ok (.arraylength, 1) := by decide +kernel
theorem dX2_trim_6 : decode cX2_trim 6 = .ok (.invokestatic 67, 3) := by decide +kernel
theorem dX2_trim_9 : decode cX2_trim 9 = .ok (.istore_n 2, 1) := by decide +kernel
theorem dX2_trim_10 : decode cX2_trim 10 = .ok (.iload_n 2, 1) := by decide +kernel
theorem dX2_trim_11 : decode cX2_trim 11 = .ok (.ifCond .le 20, 3) := by decide +kernel
theorem dX2_trim_14 : decode cX2_trim 14 = .ok (.aload_n 0, 1) := by decide +kernel
theorem dX2_trim_15 : decode cX2_trim 15 = .ok (.getfield 55, 3) := by decide +kernel
theorem dX2_trim_18 : decode cX2_trim 18 = .ok (.iload_n 2, 1) := by decide +kernel
theorem dX2_trim_19 : decode cX2_trim 19 = .ok (.iconst 1, 1) := by decide +kernel
theorem dX2_trim_20 : decode cX2_trim 20 = .ok (.isub, 1) := by decide +kernel
theorem dX2_trim_21 : decode cX2_trim 21 = .ok (.iaload, 1) := by decide +kernel
theorem dX2_trim_22 : decode cX2_trim 22 = .ok (.ifCond .ne 9, 3) := by decide +kernel
theorem dX2_trim_25 : decode cX2_trim 25 = .ok (.iinc 2 (-1), 3) := by decide +kernel
theorem dX2_trim_28 : decode cX2_trim 28 = .ok (.goto (-18), 3) := by decide +kernel
theorem dX2_trim_31 : decode cX2_trim 31 = .ok (.aload_n 0, 1) := by decide +kernel
theorem dX2_trim_32 : decode cX2_trim 32 = .ok (.iload_n 2, 1) := by decide +kernel
theorem dX2_trim_33 : decode cX2_trim 33 = .ok (.putfield 40, 3) := by decide +kernel
theorem dX2_trim_36 : decode cX2_trim 36 = .ok (.aload_n 0, 1) := by decide +kernel
theorem dX2_trim_37 : decode cX2_trim 37 = .ok (.iload_n 2, 1) := by decide +kernel
theorem dX2_trim_38 : decode cX2_trim 38 = .ok (.ifCond .ne 7, 3) := by decide +kernel
theorem dX2_trim_41 : decode cX2_trim 41 = .ok (.iconst 0, 1) := by decide +kernel
theorem dX2_trim_42 : decode cX2_trim 42 = .ok (.goto 4, 3) := by decide +kernel
theorem dX2_trim_45 : decode cX2_trim 45 = .ok (.iconst 1, 1) := by decide +kernel
theorem dX2_trim_46 : decode cX2_trim 46 = .ok (.putfield 48, 3) := by decide +kernel
theorem dX2_trim_49 : decode cX2_trim 49 = .ok (.return_, 1) := by decide +kernel
theorem dX2_reduce_0 : decode cX2_reduce 0 = .ok (.aload_n 1, 1) := by decide +kernel
theorem dX2_reduce_1 : decode cX2_reduce 1 = .ok (.getfield 92, 3) := by decide +kernel
theorem dX2_reduce_4 : decode cX2_reduce 4 = .ok (.getfield 48, 3) := by decide +kernel
theorem dX2_reduce_7 : decode cX2_reduce 7 = .ok (.ifCond .ne 12, 3) := by decide +kernel
theorem dX2_reduce_10 : decode cX2_reduce 10 = .ok (.aload_n 1, 1) := by decide +kernel
theorem dX2_reduce_11 : decode cX2_reduce 11 = .ok (.getfield 97, 3) := by decide +kernel
theorem dX2_reduce_14 : decode cX2_reduce 14 = .ok (.lconst 1, 1) := by decide +kernel
theorem dX2_reduce_15 : decode cX2_reduce 15 = .ok (.invokevirtual 36, 3) := by decide +kernel
theorem dX2_reduce_18 : decode cX2_reduce 18 = .ok (.return_, 1) := by decide +kernel
theorem dX2_reduce_19 : decode cX2_reduce 19 = .ok (.aload_n 1, 1) := by decide +kernel
theorem dX2_reduce_20 : decode cX2_reduce 20 = .ok (.getfield 97, 3) := by decide +kernel
theorem dX2_reduce_23 : decode cX2_reduce 23 = .ok (.invokevirtual 100, 3) := by decide +kernel
theorem dX2_reduce_26 : decode cX2_reduce 26 = .ok (.ifCond .eq 4, 3) := by decide +kernel
theorem dX2_reduce_29 : decode cX2_reduce 29 = .ok (.return_, 1) := by decide +kernel
theorem dX2_reduce_30 : decode cX2_reduce 30 = .ok (.aload_n 0, 1) := by decide +kernel
theorem dX2_reduce_31 : decode cX2_reduce 31 = .ok (.aload_n 1, 1) := by decide +kernel
theorem dX2_reduce_32 : decode cX2_reduce 32 = .ok (.getfield 92, 3) := by decide +kernel
theorem dX2_reduce_35 : decode cX2_reduce 35 = .ok (.aload_n 1, 1) := by decide +kernel
theorem dX2_reduce_36 : decode cX2_reduce 36 = .ok (.getfield 97, 3) := by decide +kernel
theorem dX2_reduce_39 : decode cX2_reduce 39 = .ok (.invokevirtual 104, 3) := by decide +kernel
theorem dX2_reduce_42 : decode cX2_reduce 42 = .ok (.astore_n 2, 1) := by decide +kernel
theorem dX2_reduce_43 : decode cX2_reduce 43 = .ok (.aload_n 2, 1) := by decide +kernel
theorem dX2_reduce_44 : decode cX2_reduce 44 = .ok (.invokevirtual 100, 3) := by decide +kernel
theorem dX2_reduce_47 : decode cX2_reduce 47 = .ok (.ifCond .eq 4, 3) := by decide +kernel
theorem dX2_reduce_50 : decode cX2_reduce 50 = .ok (.return_, 1) := by decide +kernel
theorem dX2_reduce_51 : decode cX2_reduce 51 = .ok (.aload_n 0, 1) := by decide +kernel
theorem dX2_reduce_52 : decode cX2_reduce 52 = .ok (.getfield 23, 3) := by decide +kernel
theorem dX2_reduce_55 : decode cX2_reduce 55 = .ok (.aload_n 2, 1) := by decide +kernel
theorem dX2_reduce_56 : decode cX2_reduce 56 = .ok (.iconst 1, 1) := by decide +kernel
theorem dX2_reduce_57 : decode cX2_reduce 57 = .ok (.invokevirtual 51, 3) := by decide +kernel
theorem dX2_reduce_60 : decode cX2_reduce 60 = .ok (.aload_n 0, 1) := by decide +kernel
theorem dX2_reduce_61 : decode cX2_reduce 61 = .ok (.aload_n 1, 1) := by decide +kernel
theorem dX2_reduce_62 : decode cX2_reduce 62 = .ok (.getfield 92, 3) := by decide +kernel
theorem dX2_reduce_65 : decode cX2_reduce 65 = .ok (.aload_n 0, 1) := by decide +kernel
theorem dX2_reduce_66 : decode cX2_reduce 66 = .ok (.getfield 23, 3) := by decide +kernel
theorem dX2_reduce_69 : decode cX2_reduce 69 = .ok (.invokevirtual 108, 3) := by decide +kernel
theorem dX2_reduce_72 : decode cX2_reduce 72 = .ok (.aload_n 1, 1) := by decide +kernel
theorem dX2_reduce_73 : decode cX2_reduce 73 = .ok (.getfield 92, 3) := by decide +kernel
theorem dX2_reduce_76 : decode cX2_reduce 76 = .ok (.aload_n 0, 1) := by decide +kernel
theorem dX2_reduce_77 : decode cX2_reduce 77 = .ok (.getfield 14, 3) := by decide +kernel
theorem dX2_reduce_80 : decode cX2_reduce 80 = .ok (.aload_n 1, 1) := by decide +kernel
theorem dX2_reduce_81 : decode cX2_reduce 81 = .ok (.getfield 92, 3) := by decide +kernel
theorem dX2_reduce_84 : decode cX2_reduce 84 = .ok (.getfield 48, 3) := by decide +kernel
theorem dX2_reduce_87 : decode cX2_reduce 87 = .ok (.invokevirtual 51, 3) := by decide +kernel
theorem dX2_reduce_90 : decode cX2_reduce 90 = .ok (.aload_n 0, 1) := by decide +kernel
theorem dX2_reduce_91 : decode cX2_reduce 91 = .ok (.aload_n 1, 1) := by decide +kernel
theorem dX2_reduce_92 : decode cX2_reduce 92 = .ok (.getfield 97, 3) := by decide +kernel
theorem dX2_reduce_95 : decode cX2_reduce 95 = .ok (.aload_n 0, 1) := by decide +kernel
theorem dX2_reduce_96 : decode cX2_reduce 96 = .ok (.getfield 23, 3) := by decide +kernel
theorem dX2_reduce_99 : decode cX2_reduce 99 = .ok (.invokevirtual 108, 3) := by decide +kernel
theorem dX2_reduce_102 : decode cX2_reduce 102 = .ok (.aload_n 1, 1) := by decide +kernel
theorem dX2_reduce_103 : decode cX2_reduce 103 = .ok (.getfield 97, 3) := by decide +kernel
theorem dX2_reduce_106 : decode cX2_reduce 106 = .ok (.aload_n 0, 1) := by decide +kernel
theorem dX2_reduce_107 : decode cX2_reduce 107 = .ok (.getfield 14, 3) := by decide +kernel
theorem dX2_reduce_110 : decode cX2_reduce 110 = .ok (.iconst 1, 1) := by decide +kernel
theorem dX2_reduce_111 : decode cX2_reduce 111 = .ok (.invokevirtual 51, 3) := by decide +kernel
theorem dX2_reduce_114 : decode cX2_reduce 114 = .ok (.return_, 1) := by decide +kernel
theorem dX2_commonDivisor_0 : decode cX2_commonDivisor 0 = .ok (.aload_n 0, 1) := by decide +kernel
theorem dX2_commonDivisor_1 : decode cX2_commonDivisor 1 = .ok (.getfield 23, 3) := by decide +kernel
theorem dX2_commonDivisor_4 : decode cX2_commonDivisor 4 = .ok (.astore_n 3, 1) := by decide +kernel
theorem dX2_commonDivisor_5 : decode cX2_commonDivisor 5 = .ok (.aload_n 0, 1) := by decide +kernel
theorem dX2_commonDivisor_6 : decode cX2_commonDivisor 6 = .ok (.getfield 26, 3) := by decide +kernel
theorem dX2_commonDivisor_9 : decode cX2_commonDivisor 9 = .ok (.astore 4, 2) := by decide +kernel
theorem dX2_commonDivisor_11 : decode cX2_commonDivisor 11 = .ok (.aload_n 3, 1) := by decide +kernel
theorem dX2_commonDivisor_12 : decode cX2_commonDivisor 12 = .ok (.aload_n 1, 1) := by decide +kernel
theorem dX2_commonDivisor_13 : decode cX2_commonDivisor 13 = .ok (.aload_n 1, 1) := by decide +kernel
theorem dX2_commonDivisor_14 : decode cX2_commonDivisor 14 = .ok (.getfield 48, 3) := by decide +kernel
theorem dX2_commonDivisor_17 : decode cX2_commonDivisor 17 = .ok (.invokevirtual 51, 3) := by decide +kernel
theorem dX2_commonDivisor_20 : decode cX2_commonDivisor 20 = .ok (.aload 4, 2) := by decide +kernel
theorem dX2_commonDivisor_22 : decode cX2_commonDivisor 22 = .ok (.aload_n 2, 1) := by decide +kernel
theorem dX2_commonDivisor_23 : decode cX2_commonDivisor 23 = .ok (.iconst 1, 1) := by decide +kernel
theorem dX2_commonDivisor_24 : decode cX2_commonDivisor 24 = .ok (.invokevirtual 51, 3) := by decide +kernel
theorem dX2_commonDivisor_27 : decode cX2_commonDivisor 27 = .ok (.iconst 0, 1) := by decide +kernel
theorem dX2_commonDivisor_28 : decode cX2_commonDivisor 28 = .ok (.istore 5, 2) := by decide +kernel
theorem dX2_commonDivisor_30 : decode cX2_commonDivisor 30 = .ok (.iload 5, 2) := by decide +kernel
theorem dX2_commonDivisor_32 : decode cX2_commonDivisor 32 = .ok (.ldc 111, 2) := by decide +kernel
theorem dX2_commonDivisor_34 : decode cX2_commonDivisor 34 = .ok (.if_icmp .ge 78, 3) := by decide +kernel
theorem dX2_commonDivisor_37 : decode cX2_commonDivisor 37 = .ok (.aload 4, 2) := by decide +kernel
theorem dX2_commonDivisor_39 : decode cX2_commonDivisor 39 = .ok (.getfield 40, 3) := by decide +kernel
theorem dX2_commonDivisor_42 : decode cX2_commonDivisor 42 = .ok (.ifCond .le 70, 3) := by decide +kernel
theorem dX2_commonDivisor_45 : decode cX2_commonDivisor 45 = .ok (.aload_n 3, 1) := by decide +kernel
theorem dX2_commonDivisor_46 : decode cX2_commonDivisor 46 = .ok (.getfield 40, 3) := by decide +kernel
theorem dX2_commonDivisor_49 : decode cX2_commonDivisor 49 = .ok (.iconst 2, 1) := by decide +kernel
theorem dX2_commonDivisor_50 : decode cX2_commonDivisor 50 = .ok (.if_icmp .gt 30, 3) := by decide +kernel
theorem dX2_commonDivisor_53 : decode cX2_commonDivisor 53 = .ok (.aload 4, 2) := by decide +kernel
theorem dX2_commonDivisor_55 : decode cX2_commonDivisor 55 = .ok (.getfield 40, 3) := by decide +kernel
theorem dX2_commonDivisor_58 : decode cX2_commonDivisor 58 = .ok (.iconst 2, 1) := by decide +kernel
theorem dX2_commonDivisor_59 : decode cX2_commonDivisor 59 = .ok (.if_icmp .gt 21, 3) := by decide +kernel
theorem dX2_commonDivisor_62 : decode cX2_commonDivisor 62 = .ok (.aload_n 3, 1) := by decide +kernel
theorem dX2_commonDivisor_63 : decode cX2_commonDivisor 63 = .ok (.aload_n 3, 1) := by decide +kernel
theorem dX2_commonDivisor_64 : decode cX2_commonDivisor 64 = .ok (.invokevirtual 112, 3) := by decide +kernel
theorem dX2_commonDivisor_67 : decode cX2_commonDivisor 67 = .ok (.aload 4, 2) := by decide +kernel
theorem dX2_commonDivisor_69 : decode cX2_commonDivisor 69 = .ok (.invokevirtual 112, 3) := by decide +kernel
theorem dX2_commonDivisor_72 : decode cX2_commonDivisor 72 = .ok (.invokestatic 116, 3) := by decide +kernel
theorem dX2_commonDivisor_75 : decode cX2_commonDivisor 75 = .ok (.invokevirtual 36, 3) := by decide +kernel
theorem dX2_commonDivisor_78 : decode cX2_commonDivisor 78 = .ok (.aload_n 3, 1) := by decide +kernel
theorem dX2_commonDivisor_79 : decode cX2_commonDivisor 79 = .ok (.areturn, 1) := by decide +kernel
theorem dX2_commonDivisor_80 : decode cX2_commonDivisor 80 = .ok (.aload_n 0, 1) := by decide +kernel
theorem dX2_commonDivisor_81 : decode cX2_commonDivisor 81 = .ok (.aload_n 3, 1) := by decide +kernel
theorem dX2_commonDivisor_82 : decode cX2_commonDivisor 82 = .ok (.aload 4, 2) := by decide +kernel
theorem dX2_commonDivisor_84 : decode cX2_commonDivisor 84 = .ok (.invokevirtual 108, 3) := by decide +kernel
theorem dX2_commonDivisor_87 : decode cX2_commonDivisor 87 = .ok (.aload_n 3, 1) := by decide +kernel
theorem dX2_commonDivisor_88 : decode cX2_commonDivisor 88 = .ok (.aload_n 0, 1) := by decide +kernel
theorem dX2_commonDivisor_89 : decode cX2_commonDivisor 89 = .ok (.getfield 20, 3) := by decide +kernel
theorem dX2_commonDivisor_92 : decode cX2_commonDivisor 92 = .ok (.iconst 1, 1) := by decide +kernel
theorem dX2_commonDivisor_93 : decode cX2_commonDivisor 93 = .ok (.invokevirtual 51, 3) := by decide +kernel
theorem dX2_commonDivisor_96 : decode cX2_commonDivisor 96 = .ok (.aload_n 3, 1) := by decide +kernel
theorem dX2_commonDivisor_97 : decode cX2_commonDivisor 97 = .ok (.astore 6, 2) := by decide +kernel
theorem dX2_commonDivisor_99 : decode cX2_commonDivisor 99 = .ok (.aload 4, 2) := by decide +kernel
theorem dX2_commonDivisor_101 : decode cX2_commonDivisor 101 = .ok (.astore_n 3, 1) := by decide +kernel
theorem dX2_commonDivisor_102 : decode cX2_commonDivisor 102 = .ok (.aload 6, 2) := by decide +kernel
theorem dX2_commonDivisor_104 : decode cX2_commonDivisor 104 = .ok (.astore 4, 2) := by decide +kernel
theorem dX2_commonDivisor_106 : decode cX2_commonDivisor 106 = .ok (.iinc 5 1, 3) := by decide +kernel
theorem dX2_commonDivisor_109 : decode cX2_commonDivisor 109 = .ok (.goto (-79), 3) := by decide +kernel
theorem dX2_commonDivisor_112 : decode cX2_commonDivisor 112 = .ok (.aload_n 3, 1) := by decide +kernel
theorem dX2_commonDivisor_113 : decode cX2_commonDivisor 113 = .ok (.areturn, 1) := by decide +kernel
theorem dX2_smallDivisor_0 : decode cX2_smallDivisor 0 = .ok (.lload_n 0, 1) := by decide +kernel
theorem dX2_smallDivisor_1 : decode cX2_smallDivisor 1 = .ok (.lstore 4, 2) := by decide +kernel
theorem dX2_smallDivisor_3 : decode cX2_smallDivisor 3 = .ok (.lload_n 2, 1) := by decide +kernel
theorem dX2_smallDivisor_4 : decode cX2_smallDivisor 4 = .ok (.lstore 6, 2) := by decide +kernel
theorem dX2_smallDivisor_6 : decode cX2_smallDivisor 6 = .ok (.iconst 0, 1) := by decide +kernel
theorem dX2_smallDivisor_7 : decode cX2_smallDivisor 7 = .ok (.istore 8, 2) := by decide +kernel
theorem dX2_smallDivisor_9 : decode cX2_smallDivisor 9 = .ok (.iload 8, 2) := by decide +kernel
theorem dX2_smallDivisor_11 : decode cX2_smallDivisor 11 = .ok (.ldc 111, 2) := by decide +kernel
theorem dX2_smallDivisor_13 : decode cX2_smallDivisor 13 = .ok (.if_icmp .ge 31, 3) := by decide +kernel
theorem dX2_smallDivisor_16 : decode cX2_smallDivisor 16 = .ok (.lload 6, 2) := by decide +kernel
theorem dX2_smallDivisor_18 : decode cX2_smallDivisor 18 = .ok (.lconst 0, 1) := by decide +kernel
theorem dX2_smallDivisor_19 : decode cX2_smallDivisor 19 = .ok (.lcmp, 1) := by decide +kernel
theorem dX2_smallDivisor_20 : decode cX2_smallDivisor 20 = .ok (.ifCond .eq 24, 3) := by decide +kernel
theorem dX2_smallDivisor_23 : decode cX2_smallDivisor 23 = .ok (.lload 4, 2) := by decide +kernel
theorem dX2_smallDivisor_25 : decode cX2_smallDivisor 25 = .ok (.lload 6, 2) := by decide +kernel
theorem dX2_smallDivisor_27 : decode cX2_smallDivisor 27 = .ok (.lrem, 1) := by decide +kernel
theorem dX2_smallDivisor_28 : decode cX2_smallDivisor 28 = .ok (.lstore 9, 2) := by decide +kernel
theorem dX2_smallDivisor_30 : decode cX2_smallDivisor 30 = .ok (.lload 6, 2) := by decide +kernel
theorem dX2_smallDivisor_32 : decode cX2_smallDivisor 32 = .ok (.lstore 4, 2) := by decide +kernel
theorem dX2_smallDivisor_34 : decode cX2_smallDivisor 34 = .ok (.lload 9, 2) := by decide +kernel
theorem dX2_smallDivisor_36 : decode cX2_smallDivisor 36 = .ok (.lstore 6, 2) := by decide +kernel
theorem dX2_smallDivisor_38 : decode cX2_smallDivisor 38 = .ok (.iinc 8 1, 3) := by decide +kernel
theorem dX2_smallDivisor_41 : decode cX2_smallDivisor 41 = .ok (.goto (-32), 3) := by decide +kernel
theorem dX2_smallDivisor_44 : decode cX2_smallDivisor 44 = .ok (.lload 4, 2) := by decide +kernel
theorem dX2_smallDivisor_46 : decode cX2_smallDivisor 46 = .ok (.lreturn, 1) := by decide +kernel
theorem dX3_init_0 : decode cX3_init 0 = .ok (.aload_n 0, 1) := by decide +kernel
theorem dX3_init_1 : decode cX3_init 1 = .ok (.invokespecial 1, 3) := by decide +kernel
theorem dX3_init_4 : decode cX3_init 4 = .ok (.aload_n 0, 1) := by decide +kernel
theorem dX3_init_5 : decode cX3_init 5 = .ok (.new 7, 3) := by decide +kernel
theorem dX3_init_8 : decode cX3_init 8 = .ok (.dup, 1) := by decide +kernel
theorem dX3_init_9 : decode cX3_init 9 = .ok (.iload_n 1, 1) := by decide +kernel
theorem dX3_init_10 : decode cX3_init 10 = .ok (.invokespecial 9, 3) := by decide +kernel
theorem dX3_init_13 : decode cX3_init 13 = .ok (.putfield 12, 3) := by decide +kernel
theorem dX3_init_16 : decode cX3_init 16 = .ok (.aload_n 0, 1) := by decide +kernel
theorem dX3_init_17 : decode cX3_init 17 = .ok (.new 7, 3) := by decide +kernel
theorem dX3_init_20 : decode cX3_init 20 = .ok (.dup, 1) := by decide +kernel
theorem dX3_init_21 : decode cX3_init 21 = .ok (.iload_n 1, 1) := by decide +kernel
theorem dX3_init_22 : decode cX3_init 22 = .ok (.invokespecial 9, 3) := by decide +kernel
theorem dX3_init_25 : decode cX3_init 25 = .ok (.putfield 18, 3) := by decide +kernel
theorem dX3_init_28 : decode cX3_init 28 = .ok (.aload_n 0, 1) := by decide +kernel
theorem dX3_init_29 : decode cX3_init 29 = .ok (.getfield 18, 3) := by decide +kernel
theorem dX3_init_32 : decode cX3_init 32 = .ok (.lconst 1, 1) := by decide +kernel
theorem dX3_init_33 : decode cX3_init 33 = .ok (.invokevirtual 21, 3) := by decide +kernel
theorem dX3_init_36 : decode cX3_init 36 = .ok (.return_, 1) := by decide +kernel
theorem dX3_setSmall_0 : decode cX3_setSmall 0 = .ok (.aload_n 0, 1) := by decide +kernel
theorem dX3_setSmall_1 : decode cX3_setSmall 1 = .ok (.getfield 12, 3) := by decide +kernel
theorem dX3_setSmall_4 : decode cX3_setSmall 4 = .ok (.lload_n 1, 1) := by decide +kernel
theorem dX3_setSmall_5 : decode cX3_setSmall 5 = .ok (.invokevirtual 21, 3) := by decide +kernel
theorem dX3_setSmall_8 : decode cX3_setSmall 8 = .ok (.aload_n 0, 1) := by decide +kernel
theorem dX3_setSmall_9 : decode cX3_setSmall 9 = .ok (.getfield 18, 3) := by decide +kernel
theorem dX3_setSmall_12 : decode cX3_setSmall 12 = .ok (.lload_n 3, 1) := by decide +kernel
theorem dX3_setSmall_13 : decode cX3_setSmall 13 = .ok (.invokevirtual 21, 3) := by decide +kernel
theorem dX3_setSmall_16 : decode cX3_setSmall 16 = .ok (.return_, 1) := by decide +kernel
theorem dX3_setQuotient_0 : decode cX3_setQuotient 0 = .ok (.aload_n 0, 1) := by decide +kernel
theorem dX3_setQuotient_1 : decode cX3_setQuotient 1 = .ok (.getfield 12, 3) := by decide +kernel
theorem dX3_setQuotient_4 : decode cX3_setQuotient 4 = .ok (.aload_n 1, 1) := by decide +kernel
theorem dX3_setQuotient_5 : decode cX3_setQuotient 5 = .ok (.iload_n 3, 1) := by decide +kernel
theorem dX3_setQuotient_6 : decode cX3_setQuotient 6 = .ok (.invokevirtual 25, 3) := by decide +kernel
theorem dX3_setQuotient_9 : decode cX3_setQuotient 9 = .ok (.aload_n 0, 1) := by decide +kernel
theorem dX3_setQuotient_10 : decode cX3_setQuotient 10 = .ok (.getfield 18, 3) := by decide +kernel
theorem dX3_setQuotient_13 : decode cX3_setQuotient 13 = .ok (.aload_n 2, 1) := by decide +kernel
theorem dX3_setQuotient_14 : decode cX3_setQuotient 14 = .ok (.iconst 1, 1) := by decide +kernel
theorem dX3_setQuotient_15 : decode cX3_setQuotient 15 = .ok (.invokevirtual 25, 3) := by decide +kernel
theorem dX3_setQuotient_18 : decode cX3_setQuotient 18 = .ok (.return_, 1) := by decide +kernel
theorem dX4_init_0 : decode cX4_init 0 = .ok (.aload_n 0, 1) := by decide +kernel
theorem dX4_init_1 : decode cX4_init 1 = .ok (.invokespecial 3, 3) := by decide +kernel
theorem dX4_init_4 : decode cX4_init 4 = .ok (.aload_n 0, 1) := by decide +kernel
theorem dX4_init_5 : decode cX4_init 5 = .ok (.new 9, 3) := by decide +kernel
theorem dX4_init_8 : decode cX4_init 8 = .ok (.dup, 1) := by decide +kernel
theorem dX4_init_9 : decode cX4_init 9 = .ok (.invokespecial 11, 3) := by decide +kernel
theorem dX4_init_12 : decode cX4_init 12 = .ok (.putfield 12, 3) := by decide +kernel
theorem dX4_init_15 : decode cX4_init 15 = .ok (.aload_n 0, 1) := by decide +kernel
theorem dX4_init_16 : decode cX4_init 16 = .ok (.new 18, 3) := by decide +kernel
theorem dX4_init_19 : decode cX4_init 19 = .ok (.dup, 1) := by decide +kernel
theorem dX4_init_20 : decode cX4_init 20 = .ok (.invokespecial 20, 3) := by decide +kernel
theorem dX4_init_23 : decode cX4_init 23 = .ok (.putfield 21, 3) := by decide +kernel
theorem dX4_init_26 : decode cX4_init 26 = .ok (.aload_n 0, 1) := by decide +kernel
theorem dX4_init_27 : decode cX4_init 27 = .ok (.bipush 32, 2) := by decide +kernel
theorem dX4_init_29 : decode cX4_init 29 = .ok (.newarray .long, 2) := by decide +kernel
theorem dX4_init_31 : decode cX4_init 31 = .ok (.putfield 25, 3) := by decide +kernel
theorem dX4_init_34 : decode cX4_init 34 = .ok (.aload_n 0, 1) := by decide +kernel
theorem dX4_init_35 : decode cX4_init 35 = .ok (.new 29, 3) := by decide +kernel
theorem dX4_init_38 : decode cX4_init 38 = .ok (.dup, 1) := by decide +kernel
theorem dX4_init_39 : decode cX4_init 39 = .ok (.sipush 128, 3) := by decide +kernel
theorem dX4_init_42 : decode cX4_init 42 = .ok (.invokespecial 31, 3) := by decide +kernel
theorem dX4_init_45 : decode cX4_init 45 = .ok (.putfield 34, 3) := by decide +kernel
theorem dX4_init_48 : decode cX4_init 48 = .ok (.aload_n 0, 1) := by decide +kernel
theorem dX4_init_49 : decode cX4_init 49 = .ok (.new 29, 3) := by decide +kernel
theorem dX4_init_52 : decode cX4_init 52 = .ok (.dup, 1) := by decide +kernel
theorem dX4_init_53 : decode cX4_init 53 = .ok (.sipush 128, 3) := by decide +kernel
theorem dX4_init_56 : decode cX4_init 56 = .ok (.invokespecial 31, 3) := by decide +kernel
theorem dX4_init_59 : decode cX4_init 59 = .ok (.putfield 38, 3) := by decide +kernel
theorem dX4_init_62 : decode cX4_init 62 = .ok (.aload_n 0, 1) := by decide +kernel
theorem dX4_init_63 : decode cX4_init 63 = .ok (.aload_n 1, 1) := by decide +kernel
theorem dX4_init_64 : decode cX4_init 64 = .ok (.putfield 41, 3) := by decide +kernel
theorem dX4_init_67 : decode cX4_init 67 = .ok (.aload_n 0, 1) := by decide +kernel
theorem dX4_init_68 : decode cX4_init 68 = .ok (.aload_n 2, 1) := by decide +kernel
theorem dX4_init_69 : decode cX4_init 69 = .ok (.putfield 45, 3) := by decide +kernel
theorem dX4_init_72 : decode cX4_init 72 = .ok (.aload_n 0, 1) := by decide +kernel
theorem dX4_init_73 : decode cX4_init 73 = .ok (.aload_n 3, 1) := by decide +kernel
theorem dX4_init_74 : decode cX4_init 74 = .ok (.putfield 49, 3) := by decide +kernel
theorem dX4_init_77 : decode cX4_init 77 = .ok (.aload_n 0, 1) := by decide +kernel
theorem dX4_init_78 : decode cX4_init 78 = .ok (.aload 4, 2) := by decide +kernel
theorem dX4_init_80 : decode cX4_init 80 = .ok (.putfield 52, 3) := by decide +kernel
theorem dX4_init_83 : decode cX4_init 83 = .ok (.return_, 1) := by decide +kernel
theorem dX4_firstBrokenRow_0 : decode cX4_firstBrokenRow 0 = .ok (.iconst 0, 1) := by decide +kernel
theorem dX4_firstBrokenRow_1 : decode cX4_firstBrokenRow 1 = .ok (.istore_n 2, 1) := by decide +kernel
theorem dX4_firstBrokenRow_2 : decode cX4_firstBrokenRow 2 = .ok (.iload_n 2, 1) := by decide +kernel
theorem dX4_firstBrokenRow_3 : decode cX4_firstBrokenRow 3 = .ok (.aload_n 0, 1) := by decide +kernel
theorem dX4_firstBrokenRow_4 : decode cX4_firstBrokenRow 4 = .ok (.getfield 41, 3) := by decide +kernel
theorem dX4_firstBrokenRow_7 : decode cX4_firstBrokenRow 7 = .ok (.getfield 56, 3) := by decide +kernel
theorem dX4_firstBrokenRow_10 : decode cX4_firstBrokenRow 10 = .ok (.if_icmp .ge 101, 3) := by decide +kernel
theorem dX4_firstBrokenRow_13 : decode cX4_firstBrokenRow 13 = .ok (.aload_n 0, 1) := by decide +kernel
theorem dX4_firstBrokenRow_14 : decode cX4_firstBrokenRow 14 = .ok (.invokevirtual 62, 3) := by decide +kernel
theorem dX4_firstBrokenRow_17 : decode cX4_firstBrokenRow 17 = .ok (.iconst 0, 1) := by decide +kernel
theorem dX4_firstBrokenRow_18 : decode cX4_firstBrokenRow 18 = .ok (.istore_n 3, 1) := by decide +kernel
theorem dX4_firstBrokenRow_19 : decode cX4_firstBrokenRow 19 = .ok (.iload_n 3, 1) := by decide +kernel
theorem dX4_firstBrokenRow_20 : decode cX4_firstBrokenRow 20 = .ok (.aload_n 0, 1) := by decide +kernel
theorem dX4_firstBrokenRow_21 : decode cX4_firstBrokenRow 21 = .ok (.getfield 41, 3) := by decide +kernel
theorem dX4_firstBrokenRow_24 : decode cX4_firstBrokenRow 24 = .ok (.getfield 65, 3) := by decide +kernel
theorem dX4_firstBrokenRow_27 : decode cX4_firstBrokenRow 27 = .ok (.if_icmp .ge 27, 3) := by decide +kernel
theorem dX4_firstBrokenRow_30 : decode cX4_firstBrokenRow 30 = .ok (.aload_n 0, 1) := by decide +kernel
theorem dX4_firstBrokenRow_31 : decode cX4_firstBrokenRow 31 = .ok (.getfield 25, 3) := by decide +kernel
theorem dX4_firstBrokenRow_34 : decode cX4_firstBrokenRow 34 = .ok (.iload_n 3, 1) := by decide +kernel
theorem dX4_firstBrokenRow_35 : decode cX4_firstBrokenRow 35 = .ok (.aload_n 0, 1) := by decide +kernel
theorem dX4_firstBrokenRow_36 : decode cX4_firstBrokenRow 36 = .ok (.getfield 41, 3) := by decide +kernel
theorem dX4_firstBrokenRow_39 : decode cX4_firstBrokenRow 39 = .ok (.getfield 68, 3) := by decide +kernel
theorem dX4_firstBrokenRow_42 : decode cX4_firstBrokenRow 42 = .ok (.iload_n 2, 1) := by decide +kernel
theorem dX4_firstBrokenRow_43 : decode cX4_firstBrokenRow 43 = .ok (.aaload, 1) := by decide +kernel
theorem dX4_firstBrokenRow_44 : decode cX4_firstBrokenRow 44 = .ok (.iload_n 3, 1) := by decide +kernel
theorem dX4_firstBrokenRow_45 : decode cX4_firstBrokenRow 45 = .ok (.iaload, 1) := by decide +kernel
theorem dX4_firstBrokenRow_46 : decode cX4_firstBrokenRow 46 = .ok (.i2l, 1) := by decide +kernel
theorem dX4_firstBrokenRow_47 : decode cX4_firstBrokenRow 47 = .ok (.lastore, 1) := by decide +kernel
theorem dX4_firstBrokenRow_48 : decode cX4_firstBrokenRow 48 = .ok (.iinc 3 1, 3) := by decide +kernel
theorem dX4_firstBrokenRow_51 : decode cX4_firstBrokenRow 51 = .ok (.goto (-32), 3) := by decide +kernel
theorem dX4_firstBrokenRow_54 : decode cX4_firstBrokenRow 54 = .ok (.aload_n 0, 1) := by decide +kernel
theorem dX4_firstBrokenRow_55 : decode cX4_firstBrokenRow 55 = .ok (.aload_n 1, 1) := by decide +kernel
theorem dX4_firstBrokenRow_56 : decode cX4_firstBrokenRow 56 = .ok (.aload_n 0, 1) := by decide +kernel
theorem dX4_firstBrokenRow_57 : decode cX4_firstBrokenRow 57 = .ok (.getfield 41, 3) := by decide +kernel
theorem dX4_firstBrokenRow_60 : decode cX4_firstBrokenRow 60 = .ok (.getfield 72, 3) := by decide +kernel
theorem dX4_firstBrokenRow_63 : decode cX4_firstBrokenRow 63 = .ok (.iload_n 2, 1) := by decide +kernel
theorem dX4_firstBrokenRow_64 : decode cX4_firstBrokenRow 64 = .ok (.iaload, 1) := by decide +kernel
theorem dX4_firstBrokenRow_65 : decode cX4_firstBrokenRow 65 = .ok (.i2l, 1) := by decide +kernel
theorem dX4_firstBrokenRow_66 : decode cX4_firstBrokenRow 66 = .ok (.invokevirtual 76, 3) := by decide +kernel
theorem dX4_firstBrokenRow_69 : decode cX4_firstBrokenRow 69 = .ok (.istore_n 3, 1) := by decide +kernel
theorem dX4_firstBrokenRow_70 : decode cX4_firstBrokenRow 70 = .ok (.iload_n 3, 1) := by decide +kernel
theorem dX4_firstBrokenRow_71 : decode cX4_firstBrokenRow 71 = .ok (.ifCond .le 16, 3) := by decide +kernel
theorem dX4_firstBrokenRow_74 : decode cX4_firstBrokenRow 74 = .ok (.aload_n 0, 1) := by decide +kernel
theorem dX4_firstBrokenRow_75 : decode cX4_firstBrokenRow 75 = .ok (.getfield 41, 3) := by decide +kernel
theorem dX4_firstBrokenRow_78 : decode cX4_firstBrokenRow 78 = .ok (.getfield 80, 3) := by decide +kernel
theorem dX4_firstBrokenRow_81 : decode cX4_firstBrokenRow 81 = .ok (.iload_n 2, 1) := by decide +kernel
theorem dX4_firstBrokenRow_82 : decode cX4_firstBrokenRow 82 = .ok (.iaload, 1) := by decide +kernel
theorem dX4_firstBrokenRow_83 : decode cX4_firstBrokenRow 83 = .ok (.iconst 1, 1) := by decide +kernel
theorem dX4_firstBrokenRow_84 : decode cX4_firstBrokenRow 84 = .ok (.if_icmp .ne 19, 3) := by decide +kernel
theorem dX4_firstBrokenRow_87 : decode cX4_firstBrokenRow 87 = .ok (.iload_n 3, 1) := by decide +kernel
theorem dX4_firstBrokenRow_88 : decode cX4_firstBrokenRow 88 = .ok (.ifCond .ge 17, 3) := by decide +kernel
theorem dX4_firstBrokenRow_91 : decode cX4_firstBrokenRow 91 = .ok (.aload_n 0, 1) := by decide +kernel
theorem dX4_firstBrokenRow_92 : decode cX4_firstBrokenRow 92 = .ok (.getfield 41, 3) := by decide +kernel
theorem dX4_firstBrokenRow_95 : decode cX4_firstBrokenRow 95 = .ok (.getfield 80, 3) := by decide +kernel
theorem dX4_firstBrokenRow_98 : decode cX4_firstBrokenRow 98 = .ok (.iload_n 2, 1) := by decide +kernel
theorem dX4_firstBrokenRow_99 : decode cX4_firstBrokenRow 99 = .ok (.iaload, 1) := by decide +kernel
theorem dX4_firstBrokenRow_100 : decode cX4_firstBrokenRow 100 = .ok (.ifCond .eq 5, 3) := by decide +kernel
theorem dX4_firstBrokenRow_103 : decode cX4_firstBrokenRow 103 = .ok (.iload_n 2, 1) := by decide +kernel
theorem dX4_firstBrokenRow_104 : decode cX4_firstBrokenRow 104 = .ok (.ireturn, 1) := by decide +kernel
theorem dX4_firstBrokenRow_105 : decode cX4_firstBrokenRow 105 = .ok (.iinc 2 1, 3) := by decide +kernel
theorem dX4_firstBrokenRow_108 : decode cX4_firstBrokenRow 108 = .ok (.goto (-106), 3) := by decide +kernel
theorem dX4_firstBrokenRow_111 : decode cX4_firstBrokenRow 111 = .ok (.bipush (-2), 2) := by decide +kernel
theorem dX4_firstBrokenRow_113 : decode cX4_firstBrokenRow 113 = .ok (.ireturn, 1) := by decide +kernel
theorem dX4_firstBrokenVariable_0 : decode cX4_firstBrokenVariable 0 = .ok (.iconst 0, 1) := by decide +kernel
theorem dX4_firstBrokenVariable_1 : decode cX4_firstBrokenVariable 1 = .ok (.istore_n 2, 1) := by decide +kernel
theorem dX4_firstBrokenVariable_2 : decode cX4_firstBrokenVariable 2 = .ok (.iload_n 2, 1) := by decide +kernel
theorem dX4_firstBrokenVariable_3 : decode cX4_firstBrokenVariable 3 = .ok (.aload_n 0, 1) := by decide +kernel
theorem dX4_firstBrokenVariable_4 : decode cX4_firstBrokenVariable 4 = .ok (.getfield 41, 3) := by decide +kernel
theorem dX4_firstBrokenVariable_7 : decode cX4_firstBrokenVariable 7 = .ok (.getfield 65, 3) := by decide +kernel
theorem dX4_firstBrokenVariable_10 : decode cX4_firstBrokenVariable 10 = .ok (.if_icmp .ge 61, 3) := by decide +kernel
theorem dX4_firstBrokenVariable_13 : decode cX4_firstBrokenVariable 13 = .ok (.iload_n 2, 1) := by decide +kernel
theorem dX4_firstBrokenVariable_14 : decode cX4_firstBrokenVariable 14 = .ok (.aload_n 1, 1) := by decide +kernel
theorem dX4_firstBrokenVariable_15 : decode cX4_firstBrokenVariable 15 = .ok (.arraylength, 1) := by decide +kernel
theorem dX4_firstBrokenVariable_16 : decode cX4_firstBrokenVariable 16 = .ok (.if_icmp .ge 55, 3) := by decide +kernel
theorem dX4_firstBrokenVariable_19 : decode cX4_firstBrokenVariable 19 = .ok (.aload_n 0, 1) := by decide +kernel
theorem dX4_firstBrokenVariable_20 : decode cX4_firstBrokenVariable 20 = .ok (.getfield 41, 3) := by decide +kernel
theorem dX4_firstBrokenVariable_23 : decode cX4_firstBrokenVariable 23 = .ok (.getfield 83, 3) := by decide +kernel
theorem dX4_firstBrokenVariable_26 : decode cX4_firstBrokenVariable 26 = .ok (.iload_n 2, 1) := by decide +kernel
theorem dX4_firstBrokenVariable_27 : decode cX4_firstBrokenVariable 27 = .ok (.baload, 1) := by decide +kernel
theorem dX4_firstBrokenVariable_28 : decode cX4_firstBrokenVariable 28 = .ok (.ifCond .eq 37, 3) := by decide +kernel
theorem dX4_firstBrokenVariable_31 : decode cX4_firstBrokenVariable 31 = .ok (.aload_n 0, 1) := by decide +kernel
theorem dX4_firstBrokenVariable_32 : decode cX4_firstBrokenVariable 32 = .ok (.getfield 52, 3) := by decide +kernel
theorem dX4_firstBrokenVariable_35 : decode cX4_firstBrokenVariable 35 = .ok (.aload_n 1, 1) := by decide +kernel
theorem dX4_firstBrokenVariable_36 : decode cX4_firstBrokenVariable 36 = .ok (.iload_n 2, 1) := by decide +kernel
theorem dX4_firstBrokenVariable_37 : decode cX4_firstBrokenVariable 37 = .ok (.aaload, 1) := by decide +kernel
theorem dX4_firstBrokenVariable_38 : decode cX4_firstBrokenVariable 38 = .ok (.getfield 87, 3) := by decide +kernel
theorem dX4_firstBrokenVariable_41 : decode cX4_firstBrokenVariable 41 = .ok (.aload_n 1, 1) := by decide +kernel
theorem dX4_firstBrokenVariable_42 : decode cX4_firstBrokenVariable 42 = .ok (.iload_n 2, 1) := by decide +kernel
theorem dX4_firstBrokenVariable_43 : decode cX4_firstBrokenVariable 43 = .ok (.aaload, 1) := by decide +kernel
theorem dX4_firstBrokenVariable_44 : decode cX4_firstBrokenVariable 44 = .ok (.getfield 92, 3) := by decide +kernel
theorem dX4_firstBrokenVariable_47 : decode cX4_firstBrokenVariable 47 = .ok (.invokevirtual 95, 3) := by decide +kernel
theorem dX4_firstBrokenVariable_50 : decode cX4_firstBrokenVariable 50 = .ok (.aload_n 0, 1) := by decide +kernel
theorem dX4_firstBrokenVariable_51 : decode cX4_firstBrokenVariable 51 = .ok (.getfield 52, 3) := by decide +kernel
theorem dX4_firstBrokenVariable_54 : decode cX4_firstBrokenVariable 54 = .ok (.getfield 101, 3) := by decide +kernel
theorem dX4_firstBrokenVariable_57 : decode cX4_firstBrokenVariable 57 = .ok (.getfield 104, 3) := by decide +kernel
theorem dX4_firstBrokenVariable_60 : decode cX4_firstBrokenVariable 60 = .ok (.ifCond .le 5, 3) := by decide +kernel
theorem dX4_firstBrokenVariable_63 : decode cX4_firstBrokenVariable 63 = .ok (.iload_n 2, 1) := by decide +kernel
theorem dX4_firstBrokenVariable_64 : decode cX4_firstBrokenVariable 64 = .ok (.ireturn, 1) := by decide +kernel
theorem dX4_firstBrokenVariable_65 : decode cX4_firstBrokenVariable 65 = .ok (.iinc 2 1, 3) := by decide +kernel
theorem dX4_firstBrokenVariable_68 : decode cX4_firstBrokenVariable 68 = .ok (.goto (-66), 3) := by decide +kernel
theorem dX4_firstBrokenVariable_71 : decode cX4_firstBrokenVariable 71 = .ok (.bipush (-2), 2) := by decide +kernel
theorem dX4_firstBrokenVariable_73 : decode cX4_firstBrokenVariable 73 = .ok (.ireturn, 1) := by decide +kernel
theorem dX4_isGood_0 : decode cX4_isGood 0 = .ok (.aload_n 0, 1) := by decide +kernel
theorem dX4_isGood_1 : decode cX4_isGood 1 = .ok (.getfield 45, 3) := by decide +kernel
theorem dX4_isGood_4 : decode cX4_isGood 4 = .ok (.iload_n 1, 1) := by decide +kernel
theorem dX4_isGood_5 : decode cX4_isGood 5 = .ok (.invokevirtual 107, 3) := by decide +kernel
theorem dX4_isGood_8 : decode cX4_isGood 8 = .ok (.ifCond .eq 41, 3) := by decide +kernel
theorem dX4_isGood_11 : decode cX4_isGood 11 = .ok (.aload_n 0, 1) := by decide +kernel
theorem dX4_isGood_12 : decode cX4_isGood 12 = .ok (.getfield 41, 3) := by decide +kernel
theorem dX4_isGood_15 : decode cX4_isGood 15 = .ok (.getfield 83, 3) := by decide +kernel
theorem dX4_isGood_18 : decode cX4_isGood 18 = .ok (.aload_n 0, 1) := by decide +kernel
theorem dX4_isGood_19 : decode cX4_isGood 19 = .ok (.getfield 45, 3) := by decide +kernel
theorem dX4_isGood_22 : decode cX4_isGood 22 = .ok (.getfield 113, 3) := by decide +kernel
theorem dX4_isGood_25 : decode cX4_isGood 25 = .ok (.iload_n 1, 1) := by decide +kernel
theorem dX4_isGood_26 : decode cX4_isGood 26 = .ok (.iaload, 1) := by decide +kernel
theorem dX4_isGood_27 : decode cX4_isGood 27 = .ok (.baload, 1) := by decide +kernel
theorem dX4_isGood_28 : decode cX4_isGood 28 = .ok (.ifCond .eq 19, 3) := by decide +kernel
theorem dX4_isGood_31 : decode cX4_isGood 31 = .ok (.aload_n 0, 1) := by decide +kernel
theorem dX4_isGood_32 : decode cX4_isGood 32 = .ok (.getfield 45, 3) := by decide +kernel
theorem dX4_isGood_35 : decode cX4_isGood 35 = .ok (.getfield 116, 3) := by decide +kernel
theorem dX4_isGood_38 : decode cX4_isGood 38 = .ok (.iload_n 1, 1) := by decide +kernel
theorem dX4_isGood_39 : decode cX4_isGood 39 = .ok (.iaload, 1) := by decide +kernel
theorem dX4_isGood_40 : decode cX4_isGood 40 = .ok (.ifCond .lt 7, 3) := by decide +kernel
theorem dX4_isGood_43 : decode cX4_isGood 43 = .ok (.iconst 1, 1) := by decide +kernel
theorem dX4_isGood_44 : decode cX4_isGood 44 = .ok (.goto 4, 3) := by decide +kernel
theorem dX4_isGood_47 : decode cX4_isGood 47 = .ok (.iconst 0, 1) := by decide +kernel
theorem dX4_isGood_48 : decode cX4_isGood 48 = .ok (.ireturn, 1) := by decide +kernel
theorem dX4_isGood_49 : decode cX4_isGood 49 = .ok (.aload_n 0, 1) := by decide +kernel
theorem dX4_isGood_50 : decode cX4_isGood 50 = .ok (.getfield 45, 3) := by decide +kernel
theorem dX4_isGood_53 : decode cX4_isGood 53 = .ok (.iload_n 1, 1) := by decide +kernel
theorem dX4_isGood_54 : decode cX4_isGood 54 = .ok (.invokevirtual 119, 3) := by decide +kernel
theorem dX4_isGood_57 : decode cX4_isGood 57 = .ok (.astore_n 2, 1) := by decide +kernel
theorem dX4_isGood_58 : decode cX4_isGood 58 = .ok (.aload_n 2, 1) := by decide +kernel
theorem dX4_isGood_59 : decode cX4_isGood 59 = .ok (.ifnonnull 5, 3) := by decide +kernel
theorem dX4_isGood_62 : decode cX4_isGood 62 = .ok (.iconst 0, 1) := by decide +kernel
theorem dX4_isGood_63 : decode cX4_isGood 63 = .ok (.ireturn, 1) := by decide +kernel
theorem dX4_isGood_64 : decode cX4_isGood 64 = .ok (.aload_n 0, 1) := by decide +kernel
theorem dX4_isGood_65 : decode cX4_isGood 65 = .ok (.getfield 21, 3) := by decide +kernel
theorem dX4_isGood_68 : decode cX4_isGood 68 = .ok (.aload_n 0, 1) := by decide +kernel
theorem dX4_isGood_69 : decode cX4_isGood 69 = .ok (.getfield 45, 3) := by decide +kernel
theorem dX4_isGood_72 : decode cX4_isGood 72 = .ok (.aload_n 0, 1) := by decide +kernel
theorem dX4_isGood_73 : decode cX4_isGood 73 = .ok (.getfield 41, 3) := by decide +kernel
theorem dX4_isGood_76 : decode cX4_isGood 76 = .ok (.getfield 65, 3) := by decide +kernel
theorem dX4_isGood_79 : decode cX4_isGood 79 = .ok (.iload_n 1, 1) := by decide +kernel
theorem dX4_isGood_80 : decode cX4_isGood 80 = .ok (.aload_n 0, 1) := by decide +kernel
theorem dX4_isGood_81 : decode cX4_isGood 81 = .ok (.getfield 45, 3) := by decide +kernel
theorem dX4_isGood_84 : decode cX4_isGood 84 = .ok (.getfield 123, 3) := by decide +kernel
theorem dX4_isGood_87 : decode cX4_isGood 87 = .ok (.invokevirtual 126, 3) := by decide +kernel
theorem dX4_isGood_90 : decode cX4_isGood 90 = .ok (.aload_n 0, 1) := by decide +kernel
theorem dX4_isGood_91 : decode cX4_isGood 91 = .ok (.aload_n 2, 1) := by decide +kernel
theorem dX4_isGood_92 : decode cX4_isGood 92 = .ok (.invokevirtual 130, 3) := by decide +kernel
theorem dX4_isGood_95 : decode cX4_isGood 95 = .ok (.ifCond .eq 23, 3) := by decide +kernel
theorem dX4_isGood_98 : decode cX4_isGood 98 = .ok (.aload_n 0, 1) := by decide +kernel
theorem dX4_isGood_99 : decode cX4_isGood 99 = .ok (.aload_n 2, 1) := by decide +kernel
theorem dX4_isGood_100 : decode cX4_isGood 100 = .ok (.invokevirtual 134, 3) := by decide +kernel
theorem dX4_isGood_103 : decode cX4_isGood 103 = .ok (.ifCond .eq 15, 3) := by decide +kernel
theorem dX4_isGood_106 : decode cX4_isGood 106 = .ok (.aload_n 0, 1) := by decide +kernel
theorem dX4_isGood_107 : decode cX4_isGood 107 = .ok (.aload_n 2, 1) := by decide +kernel
theorem dX4_isGood_108 : decode cX4_isGood 108 = .ok (.invokevirtual 137, 3) := by decide +kernel
theorem dX4_isGood_111 : decode cX4_isGood 111 = .ok (.ifCond .eq 7, 3) := by decide +kernel
theorem dX4_isGood_114 : decode cX4_isGood 114 = .ok (.iconst 1, 1) := by decide +kernel
theorem dX4_isGood_115 : decode cX4_isGood 115 = .ok (.goto 4, 3) := by decide +kernel
theorem dX4_isGood_118 : decode cX4_isGood 118 = .ok (.iconst 0, 1) := by decide +kernel
theorem dX4_isGood_119 : decode cX4_isGood 119 = .ok (.ireturn, 1) := by decide +kernel
theorem dX4_haveRightSigns_0 : decode cX4_haveRightSigns 0 = .ok (.iconst 0, 1) := by decide +kernel
theorem dX4_haveRightSigns_1 : decode cX4_haveRightSigns 1 = .ok (.istore_n 2, 1) := by decide +kernel
theorem dX4_haveRightSigns_2 : decode cX4_haveRightSigns 2 = .ok (.iload_n 2, 1) := by decide +kernel
theorem dX4_haveRightSigns_3 : decode cX4_haveRightSigns 3 = .ok (.aload_n 0, 1) := by decide +kernel
theorem dX4_haveRightSigns_4 : decode cX4_haveRightSigns 4 = .ok (.getfield 41, 3) := by decide +kernel
theorem dX4_haveRightSigns_7 : decode cX4_haveRightSigns 7 = .ok (.getfield 56, 3) := by decide +kernel
theorem dX4_haveRightSigns_10 : decode cX4_haveRightSigns 10 = .ok (.if_icmp .ge 57, 3) := by decide +kernel
theorem dX4_haveRightSigns_13 : decode cX4_haveRightSigns 13 = .ok (.aload_n 1, 1) := by decide +kernel
theorem dX4_haveRightSigns_14 : decode cX4_haveRightSigns 14 = .ok (.getfield 140, 3) := by decide +kernel
theorem dX4_haveRightSigns_17 : decode cX4_haveRightSigns 17 = .ok (.iload_n 2, 1) := by decide +kernel
theorem dX4_haveRightSigns_18 : decode cX4_haveRightSigns 18 = .ok (.aaload, 1) := by decide +kernel
theorem dX4_haveRightSigns_19 : decode cX4_haveRightSigns 19 = .ok (.getfield 87, 3) := by decide +kernel
theorem dX4_haveRightSigns_22 : decode cX4_haveRightSigns 22 = .ok (.getfield 146, 3) := by decide +kernel
theorem dX4_haveRightSigns_25 : decode cX4_haveRightSigns 25 = .ok (.istore_n 3, 1) := by decide +kernel
theorem dX4_haveRightSigns_26 : decode cX4_haveRightSigns 26 = .ok (.iload_n 3, 1) := by decide +kernel
theorem dX4_haveRightSigns_27 : decode cX4_haveRightSigns 27 = .ok (.ifCond .ge 15, 3) := by decide +kernel
theorem dX4_haveRightSigns_30 : decode cX4_haveRightSigns 30 = .ok (.aload_n 0, 1) := by decide +kernel
theorem dX4_haveRightSigns_31 : decode cX4_haveRightSigns 31 = .ok (.getfield 41, 3) := by decide +kernel
theorem dX4_haveRightSigns_34 : decode cX4_haveRightSigns 34 = .ok (.getfield 80, 3) := by decide +kernel
theorem dX4_haveRightSigns_37 : decode cX4_haveRightSigns 37 = .ok (.iload_n 2, 1) := by decide +kernel
theorem dX4_haveRightSigns_38 : decode cX4_haveRightSigns 38 = .ok (.iaload, 1) := by decide +kernel
theorem dX4_haveRightSigns_39 : decode cX4_haveRightSigns 39 = .ok (.ifCond .eq 20, 3) := by decide +kernel
theorem dX4_haveRightSigns_42 : decode cX4_haveRightSigns 42 = .ok (.iload_n 3, 1) := by decide +kernel
theorem dX4_haveRightSigns_43 : decode cX4_haveRightSigns 43 = .ok (.ifCond .le 18, 3) := by decide +kernel
theorem dX4_haveRightSigns_46 : decode cX4_haveRightSigns 46 = .ok (.aload_n 0, 1) := by decide +kernel
theorem dX4_haveRightSigns_47 : decode cX4_haveRightSigns 47 = .ok (.getfield 41, 3) := by decide +kernel
theorem dX4_haveRightSigns_50 : decode cX4_haveRightSigns 50 = .ok (.getfield 80, 3) := by decide +kernel
theorem dX4_haveRightSigns_53 : decode cX4_haveRightSigns 53 = .ok (.iload_n 2, 1) := by decide +kernel
theorem dX4_haveRightSigns_54 : decode cX4_haveRightSigns 54 = .ok (.iaload, 1) := by decide +kernel
theorem dX4_haveRightSigns_55 : decode cX4_haveRightSigns 55 = .ok (.iconst 1, 1) := by decide +kernel
theorem dX4_haveRightSigns_56 : decode cX4_haveRightSigns 56 = .ok (.if_icmp .ne 5, 3) := by decide +kernel
theorem dX4_haveRightSigns_59 : decode cX4_haveRightSigns 59 = .ok (.iconst 0, 1) := by decide +kernel
theorem dX4_haveRightSigns_60 : decode cX4_haveRightSigns 60 = .ok (.ireturn, 1) := by decide +kernel
theorem dX4_haveRightSigns_61 : decode cX4_haveRightSigns 61 = .ok (.iinc 2 1, 3) := by decide +kernel
theorem dX4_haveRightSigns_64 : decode cX4_haveRightSigns 64 = .ok (.goto (-62), 3) := by decide +kernel
theorem dX4_haveRightSigns_67 : decode cX4_haveRightSigns 67 = .ok (.iconst 0, 1) := by decide +kernel
theorem dX4_haveRightSigns_68 : decode cX4_haveRightSigns 68 = .ok (.istore_n 2, 1) := by decide +kernel
theorem dX4_haveRightSigns_69 : decode cX4_haveRightSigns 69 = .ok (.iload_n 2, 1) := by decide +kernel
theorem dX4_haveRightSigns_70 : decode cX4_haveRightSigns 70 = .ok (.aload_n 0, 1) := by decide +kernel
theorem dX4_haveRightSigns_71 : decode cX4_haveRightSigns 71 = .ok (.getfield 41, 3) := by decide +kernel
theorem dX4_haveRightSigns_74 : decode cX4_haveRightSigns 74 = .ok (.getfield 65, 3) := by decide +kernel
theorem dX4_haveRightSigns_77 : decode cX4_haveRightSigns 77 = .ok (.if_icmp .ge 86, 3) := by decide +kernel
theorem dX4_haveRightSigns_80 : decode cX4_haveRightSigns 80 = .ok (.aload_n 1, 1) := by decide +kernel
theorem dX4_haveRightSigns_81 : decode cX4_haveRightSigns 81 = .ok (.getfield 140, 3) := by decide +kernel
theorem dX4_haveRightSigns_84 : decode cX4_haveRightSigns 84 = .ok (.bipush 12, 2) := by decide +kernel
theorem dX4_haveRightSigns_86 : decode cX4_haveRightSigns 86 = .ok (.iload_n 2, 1) := by decide +kernel
theorem dX4_haveRightSigns_87 : decode cX4_haveRightSigns 87 = .ok (.iadd, 1) := by decide +kernel
theorem dX4_haveRightSigns_88 : decode cX4_haveRightSigns 88 = .ok (.aaload, 1) := by decide +kernel
theorem dX4_haveRightSigns_89 : decode cX4_haveRightSigns 89 = .ok (.getfield 87, 3) := by decide +kernel
theorem dX4_haveRightSigns_92 : decode cX4_haveRightSigns 92 = .ok (.getfield 146, 3) := by decide +kernel
theorem dX4_haveRightSigns_95 : decode cX4_haveRightSigns 95 = .ok (.istore_n 3, 1) := by decide +kernel
theorem dX4_haveRightSigns_96 : decode cX4_haveRightSigns 96 = .ok (.aload_n 1, 1) := by decide +kernel
theorem dX4_haveRightSigns_97 : decode cX4_haveRightSigns 97 = .ok (.getfield 140, 3) := by decide +kernel
theorem dX4_haveRightSigns_100 : decode cX4_haveRightSigns 100 = .ok (.bipush 22, 2) := by decide +kernel
theorem dX4_haveRightSigns_102 : decode cX4_haveRightSigns 102 = .ok (.iload_n 2, 1) := by decide +kernel
theorem dX4_haveRightSigns_103 : decode cX4_haveRightSigns 103 = .ok (.iadd, 1) := by decide +kernel
theorem dX4_haveRightSigns_104 : decode cX4_haveRightSigns 104 = .ok (.aaload, 1) := by decide +kernel
theorem dX4_haveRightSigns_105 : decode cX4_haveRightSigns 105 = .ok (.getfield 87, 3) := by decide +kernel
theorem dX4_haveRightSigns_108 : decode cX4_haveRightSigns 108 = .ok (.getfield 146, 3) := by decide +kernel
theorem dX4_haveRightSigns_111 : decode cX4_haveRightSigns 111 = .ok (.istore 4, 2) := by decide +kernel
theorem dX4_haveRightSigns_113 : decode cX4_haveRightSigns 113 = .ok (.iload_n 3, 1) := by decide +kernel
theorem dX4_haveRightSigns_114 : decode cX4_haveRightSigns 114 = .ok (.ifCond .lt 41, 3) := by decide +kernel
theorem dX4_haveRightSigns_117 : decode cX4_haveRightSigns 117 = .ok (.iload_n 3, 1) := by decide +kernel
theorem dX4_haveRightSigns_118 : decode cX4_haveRightSigns 118 = .ok (.ifCond .le 15, 3) := by decide +kernel
theorem dX4_haveRightSigns_121 : decode cX4_haveRightSigns 121 = .ok (.aload_n 0, 1) := by decide +kernel
theorem dX4_haveRightSigns_122 : decode cX4_haveRightSigns 122 = .ok (.getfield 21, 3) := by decide +kernel
theorem dX4_haveRightSigns_125 : decode cX4_haveRightSigns 125 = .ok (.getfield 149, 3) := by decide +kernel
theorem dX4_haveRightSigns_128 : decode cX4_haveRightSigns 128 = .ok (.iload_n 2, 1) := by decide +kernel
theorem dX4_haveRightSigns_129 : decode cX4_haveRightSigns 129 = .ok (.baload, 1) := by decide +kernel
theorem dX4_haveRightSigns_130 : decode cX4_haveRightSigns 130 = .ok (.ifCond .eq 25, 3) := by decide +kernel
theorem dX4_haveRightSigns_133 : decode cX4_haveRightSigns 133 = .ok (.iload 4, 2) := by decide +kernel
theorem dX4_haveRightSigns_135 : decode cX4_haveRightSigns 135 = .ok (.ifCond .gt 20, 3) := by decide +kernel
theorem dX4_haveRightSigns_138 : decode cX4_haveRightSigns 138 = .ok (.iload 4, 2) := by decide +kernel
theorem dX4_haveRightSigns_140 : decode cX4_haveRightSigns 140 = .ok (.ifCond .ge 17, 3) := by decide +kernel
theorem dX4_haveRightSigns_143 : decode cX4_haveRightSigns 143 = .ok (.aload_n 0, 1) := by decide +kernel
theorem dX4_haveRightSigns_144 : decode cX4_haveRightSigns 144 = .ok (.getfield 21, 3) := by decide +kernel
theorem dX4_haveRightSigns_147 : decode cX4_haveRightSigns 147 = .ok (.getfield 152, 3) := by decide +kernel
theorem dX4_haveRightSigns_150 : decode cX4_haveRightSigns 150 = .ok (.iload_n 2, 1) := by decide +kernel
theorem dX4_haveRightSigns_151 : decode cX4_haveRightSigns 151 = .ok (.baload, 1) := by decide +kernel
theorem dX4_haveRightSigns_152 : decode cX4_haveRightSigns 152 = .ok (.ifCond .ne 5, 3) := by decide +kernel
theorem dX4_haveRightSigns_155 : decode cX4_haveRightSigns 155 = .ok (.iconst 0, 1) := by decide +kernel
theorem dX4_haveRightSigns_156 : decode cX4_haveRightSigns 156 = .ok (.ireturn, 1) := by decide +kernel
theorem dX4_haveRightSigns_157 : decode cX4_haveRightSigns 157 = .ok (.iinc 2 1, 3) := by decide +kernel
theorem dX4_haveRightSigns_160 : decode cX4_haveRightSigns 160 = .ok (.goto (-91), 3) := by decide +kernel
theorem dX4_haveRightSigns_163 : decode cX4_haveRightSigns 163 = .ok (.iconst 1, 1) := by decide +kernel
theorem dX4_haveRightSigns_164 : decode cX4_haveRightSigns 164 = .ok (.ireturn, 1) := by decide +kernel
theorem dX4_cancelsVariables_0 : decode cX4_cancelsVariables 0 = .ok (.iconst 0, 1) := by decide +kernel
theorem dX4_cancelsVariables_1 : decode cX4_cancelsVariables 1 = .ok (.istore_n 2, 1) := by decide +kernel
theorem dX4_cancelsVariables_2 : decode cX4_cancelsVariables 2 = .ok (.iload_n 2, 1) := by decide +kernel
theorem dX4_cancelsVariables_3 : decode cX4_cancelsVariables 3 = .ok (.aload_n 0, 1) := by decide +kernel
theorem dX4_cancelsVariables_4 : decode cX4_cancelsVariables 4 = .ok (.getfield 41, 3) := by decide +kernel
theorem dX4_cancelsVariables_7 : decode cX4_cancelsVariables 7 = .ok (.getfield 65, 3) := by decide +kernel
theorem dX4_cancelsVariables_10 : decode cX4_cancelsVariables 10 = .ok (.if_icmp .ge 84, 3) := by decide +kernel
theorem dX4_cancelsVariables_13 : decode cX4_cancelsVariables 13 = .ok (.aload_n 0, 1) := by decide +kernel
theorem dX4_cancelsVariables_14 : decode cX4_cancelsVariables 14 = .ok (.invokevirtual 62, 3) := by decide +kernel
theorem dX4_cancelsVariables_17 : decode cX4_cancelsVariables 17 = .ok (.iconst 0, 1) := by decide +kernel
theorem dX4_cancelsVariables_18 : decode cX4_cancelsVariables 18 = .ok (.istore_n 3, 1) := by decide +kernel
theorem dX4_cancelsVariables_19 : decode cX4_cancelsVariables 19 = .ok (.iload_n 3, 1) := by decide +kernel
theorem dX4_cancelsVariables_20 : decode cX4_cancelsVariables 20 = .ok (.aload_n 0, 1) := by decide +kernel
theorem dX4_cancelsVariables_21 : decode cX4_cancelsVariables 21 = .ok (.getfield 41, 3) := by decide +kernel
theorem dX4_cancelsVariables_24 : decode cX4_cancelsVariables 24 = .ok (.getfield 56, 3) := by decide +kernel
theorem dX4_cancelsVariables_27 : decode cX4_cancelsVariables 27 = .ok (.if_icmp .ge 27, 3) := by decide +kernel
theorem dX4_cancelsVariables_30 : decode cX4_cancelsVariables 30 = .ok (.aload_n 0, 1) := by decide +kernel
theorem dX4_cancelsVariables_31 : decode cX4_cancelsVariables 31 = .ok (.getfield 25, 3) := by decide +kernel
theorem dX4_cancelsVariables_34 : decode cX4_cancelsVariables 34 = .ok (.iload_n 3, 1) := by decide +kernel
theorem dX4_cancelsVariables_35 : decode cX4_cancelsVariables 35 = .ok (.aload_n 0, 1) := by decide +kernel
theorem dX4_cancelsVariables_36 : decode cX4_cancelsVariables 36 = .ok (.getfield 41, 3) := by decide +kernel
theorem dX4_cancelsVariables_39 : decode cX4_cancelsVariables 39 = .ok (.getfield 68, 3) := by decide +kernel
theorem dX4_cancelsVariables_42 : decode cX4_cancelsVariables 42 = .ok (.iload_n 3, 1) := by decide +kernel
theorem dX4_cancelsVariables_43 : decode cX4_cancelsVariables 43 = .ok (.aaload, 1) := by decide +kernel
theorem dX4_cancelsVariables_44 : decode cX4_cancelsVariables 44 = .ok (.iload_n 2, 1) := by decide +kernel
theorem dX4_cancelsVariables_45 : decode cX4_cancelsVariables 45 = .ok (.iaload, 1) := by decide +kernel
theorem dX4_cancelsVariables_46 : decode cX4_cancelsVariables 46 = .ok (.i2l, 1) := by decide +kernel
theorem dX4_cancelsVariables_47 : decode cX4_cancelsVariables 47 = .ok (.lastore, 1) := by decide +kernel
theorem dX4_cancelsVariables_48 : decode cX4_cancelsVariables 48 = .ok (.iinc 3 1, 3) := by decide +kernel
theorem dX4_cancelsVariables_51 : decode cX4_cancelsVariables 51 = .ok (.goto (-32), 3) := by decide +kernel
theorem dX4_cancelsVariables_54 : decode cX4_cancelsVariables 54 = .ok (.aload_n 0, 1) := by decide +kernel
theorem dX4_cancelsVariables_55 : decode cX4_cancelsVariables 55 = .ok (.getfield 25, 3) := by decide +kernel
theorem dX4_cancelsVariables_58 : decode cX4_cancelsVariables 58 = .ok (.bipush 12, 2) := by decide +kernel
theorem dX4_cancelsVariables_60 : decode cX4_cancelsVariables 60 = .ok (.iload_n 2, 1) := by decide +kernel
theorem dX4_cancelsVariables_61 : decode cX4_cancelsVariables 61 = .ok (.iadd, 1) := by decide +kernel
theorem dX4_cancelsVariables_62 : decode cX4_cancelsVariables 62 = .ok (.lconst 1, 1) := by decide +kernel
theorem dX4_cancelsVariables_63 : decode cX4_cancelsVariables 63 = .ok (.lastore, 1) := by decide +kernel
theorem dX4_cancelsVariables_64 : decode cX4_cancelsVariables 64 = .ok (.aload_n 0, 1) := by decide +kernel
theorem dX4_cancelsVariables_65 : decode cX4_cancelsVariables 65 = .ok (.getfield 25, 3) := by decide +kernel
theorem dX4_cancelsVariables_68 : decode cX4_cancelsVariables 68 = .ok (.bipush 22, 2) := by decide +kernel
theorem dX4_cancelsVariables_70 : decode cX4_cancelsVariables 70 = .ok (.iload_n 2, 1) := by decide +kernel
theorem dX4_cancelsVariables_71 : decode cX4_cancelsVariables 71 = .ok (.iadd, 1) := by decide +kernel
theorem dX4_cancelsVariables_72 : decode cX4_cancelsVariables 72 = .ok (.lconst 1, 1) := by decide +kernel
theorem dX4_cancelsVariables_73 : decode cX4_cancelsVariables 73 = .ok (.lastore, 1) := by decide +kernel
theorem dX4_cancelsVariables_74 : decode cX4_cancelsVariables 74 = .ok (.aload_n 0, 1) := by decide +kernel
theorem dX4_cancelsVariables_75 : decode cX4_cancelsVariables 75 = .ok (.aload_n 1, 1) := by decide +kernel
theorem dX4_cancelsVariables_76 : decode cX4_cancelsVariables 76 = .ok (.getfield 140, 3) := by decide +kernel
theorem dX4_cancelsVariables_79 : decode cX4_cancelsVariables 79 = .ok (.lconst 0, 1) := by decide +kernel
theorem dX4_cancelsVariables_80 : decode cX4_cancelsVariables 80 = .ok (.invokevirtual 76, 3) := by decide +kernel
theorem dX4_cancelsVariables_83 : decode cX4_cancelsVariables 83 = .ok (.ifCond .eq 5, 3) := by decide +kernel
theorem dX4_cancelsVariables_86 : decode cX4_cancelsVariables 86 = .ok (.iconst 0, 1) := by decide +kernel
theorem dX4_cancelsVariables_87 : decode cX4_cancelsVariables 87 = .ok (.ireturn, 1) := by decide +kernel
theorem dX4_cancelsVariables_88 : decode cX4_cancelsVariables 88 = .ok (.iinc 2 1, 3) := by decide +kernel
theorem dX4_cancelsVariables_91 : decode cX4_cancelsVariables 91 = .ok (.goto (-89), 3) := by decide +kernel
theorem dX4_cancelsVariables_94 : decode cX4_cancelsVariables 94 = .ok (.iconst 1, 1) := by decide +kernel
theorem dX4_cancelsVariables_95 : decode cX4_cancelsVariables 95 = .ok (.ireturn, 1) := by decide +kernel
theorem dX4_isBelowZero_0 : decode cX4_isBelowZero 0 = .ok (.aload_n 0, 1) := by decide +kernel
theorem dX4_isBelowZero_1 : decode cX4_isBelowZero 1 = .ok (.invokevirtual 62, 3) := by decide +kernel
theorem dX4_isBelowZero_4 : decode cX4_isBelowZero 4 = .ok (.iconst 0, 1) := by decide +kernel
theorem dX4_isBelowZero_5 : decode cX4_isBelowZero 5 = .ok (.istore_n 2, 1) := by decide +kernel
theorem dX4_isBelowZero_6 : decode cX4_isBelowZero 6 = .ok (.iload_n 2, 1) := by decide +kernel
theorem dX4_isBelowZero_7 : decode cX4_isBelowZero 7 = .ok (.aload_n 0, 1) := by decide +kernel
theorem dX4_isBelowZero_8 : decode cX4_isBelowZero 8 = .ok (.getfield 41, 3) := by decide +kernel
theorem dX4_isBelowZero_11 : decode cX4_isBelowZero 11 = .ok (.getfield 56, 3) := by decide +kernel
theorem dX4_isBelowZero_14 : decode cX4_isBelowZero 14 = .ok (.if_icmp .ge 25, 3) := by decide +kernel
theorem dX4_isBelowZero_17 : decode cX4_isBelowZero 17 = .ok (.aload_n 0, 1) := by decide +kernel
theorem dX4_isBelowZero_18 : decode cX4_isBelowZero 18 = .ok (.getfield 25, 3) := by decide +kernel
theorem dX4_isBelowZero_21 : decode cX4_isBelowZero 21 = .ok (.iload_n 2, 1) := by decide +kernel
theorem dX4_isBelowZero_22 : decode cX4_isBelowZero 22 = .ok (.aload_n 0, 1) := by decide +kernel
theorem dX4_isBelowZero_23 : decode cX4_isBelowZero 23 = .ok (.getfield 41, 3) := by decide +kernel
theorem dX4_isBelowZero_26 : decode cX4_isBelowZero 26 = .ok (.getfield 72, 3) := by decide +kernel
theorem dX4_isBelowZero_29 : decode cX4_isBelowZero 29 = .ok (.iload_n 2, 1) := by decide +kernel
theorem dX4_isBelowZero_30 : decode cX4_isBelowZero 30 = .ok (.iaload, 1) := by decide +kernel
theorem dX4_isBelowZero_31 : decode cX4_isBelowZero 31 = .ok (.i2l, 1) := by decide +kernel
theorem dX4_isBelowZero_32 : decode cX4_isBelowZero 32 = .ok (.lastore, 1) := by decide +kernel
theorem dX4_isBelowZero_33 : decode cX4_isBelowZero 33 = .ok (.iinc 2 1, 3) := by decide +kernel
theorem dX4_isBelowZero_36 : decode cX4_isBelowZero 36 = .ok (.goto (-30), 3) := by decide +kernel
theorem dX4_isBelowZero_39 : decode cX4_isBelowZero 39 = .ok (.iconst 0, 1) := by decide +kernel
theorem dX4_isBelowZero_40 : decode cX4_isBelowZero 40 = .ok (.istore_n 2, 1) := by decide +kernel
theorem dX4_isBelowZero_41 : decode cX4_isBelowZero 41 = .ok (.iload_n 2, 1) := by decide +kernel
theorem dX4_isBelowZero_42 : decode cX4_isBelowZero 42 = .ok (.aload_n 0, 1) := by decide +kernel
theorem dX4_isBelowZero_43 : decode cX4_isBelowZero 43 = .ok (.getfield 41, 3) := by decide +kernel
theorem dX4_isBelowZero_46 : decode cX4_isBelowZero 46 = .ok (.getfield 65, 3) := by decide +kernel
theorem dX4_isBelowZero_49 : decode cX4_isBelowZero 49 = .ok (.if_icmp .ge 77, 3) := by decide +kernel
theorem dX4_isBelowZero_52 : decode cX4_isBelowZero 52 = .ok (.aload_n 0, 1) := by decide +kernel
theorem dX4_isBelowZero_53 : decode cX4_isBelowZero 53 = .ok (.getfield 25, 3) := by decide +kernel
theorem dX4_isBelowZero_56 : decode cX4_isBelowZero 56 = .ok (.bipush 12, 2) := by decide +kernel
theorem dX4_isBelowZero_58 : decode cX4_isBelowZero 58 = .ok (.iload_n 2, 1) := by decide +kernel
theorem dX4_isBelowZero_59 : decode cX4_isBelowZero 59 = .ok (.iadd, 1) := by decide +kernel
theorem dX4_isBelowZero_60 : decode cX4_isBelowZero 60 = .ok (.aload_n 0, 1) := by decide +kernel
theorem dX4_isBelowZero_61 : decode cX4_isBelowZero 61 = .ok (.getfield 21, 3) := by decide +kernel
theorem dX4_isBelowZero_64 : decode cX4_isBelowZero 64 = .ok (.getfield 149, 3) := by decide +kernel
theorem dX4_isBelowZero_67 : decode cX4_isBelowZero 67 = .ok (.iload_n 2, 1) := by decide +kernel
theorem dX4_isBelowZero_68 : decode cX4_isBelowZero 68 = .ok (.baload, 1) := by decide +kernel
theorem dX4_isBelowZero_69 : decode cX4_isBelowZero 69 = .ok (.ifCond .eq 15, 3) := by decide +kernel
theorem dX4_isBelowZero_72 : decode cX4_isBelowZero 72 = .ok (.aload_n 0, 1) := by decide +kernel
theorem dX4_isBelowZero_73 : decode cX4_isBelowZero 73 = .ok (.getfield 21, 3) := by decide +kernel
theorem dX4_isBelowZero_76 : decode cX4_isBelowZero 76 = .ok (.getfield 155, 3) := by decide +kernel
theorem dX4_isBelowZero_79 : decode cX4_isBelowZero 79 = .ok (.iload_n 2, 1) := by decide +kernel
theorem dX4_isBelowZero_80 : decode cX4_isBelowZero 80 = .ok (.laload, 1) := by decide +kernel
theorem dX4_isBelowZero_81 : decode cX4_isBelowZero 81 = .ok (.goto 4, 3) := by decide +kernel
theorem dX4_isBelowZero_84 : decode cX4_isBelowZero 84 = .ok (.lconst 0, 1) := by decide +kernel
theorem dX4_isBelowZero_85 : decode cX4_isBelowZero 85 = .ok (.lastore, 1) := by decide +kernel
theorem dX4_isBelowZero_86 : decode cX4_isBelowZero 86 = .ok (.aload_n 0, 1) := by decide +kernel
theorem dX4_isBelowZero_87 : decode cX4_isBelowZero 87 = .ok (.getfield 25, 3) := by decide +kernel
theorem dX4_isBelowZero_90 : decode cX4_isBelowZero 90 = .ok (.bipush 22, 2) := by decide +kernel
theorem dX4_isBelowZero_92 : decode cX4_isBelowZero 92 = .ok (.iload_n 2, 1) := by decide +kernel
theorem dX4_isBelowZero_93 : decode cX4_isBelowZero 93 = .ok (.iadd, 1) := by decide +kernel
theorem dX4_isBelowZero_94 : decode cX4_isBelowZero 94 = .ok (.aload_n 0, 1) := by decide +kernel
theorem dX4_isBelowZero_95 : decode cX4_isBelowZero 95 = .ok (.getfield 21, 3) := by decide +kernel
theorem dX4_isBelowZero_98 : decode cX4_isBelowZero 98 = .ok (.getfield 152, 3) := by decide +kernel
theorem dX4_isBelowZero_101 : decode cX4_isBelowZero 101 = .ok (.iload_n 2, 1) := by decide +kernel
theorem dX4_isBelowZero_102 : decode cX4_isBelowZero 102 = .ok (.baload, 1) := by decide +kernel
theorem dX4_isBelowZero_103 : decode cX4_isBelowZero 103 = .ok (.ifCond .eq 15, 3) := by decide +kernel
theorem dX4_isBelowZero_106 : decode cX4_isBelowZero 106 = .ok (.aload_n 0, 1) := by decide +kernel
theorem dX4_isBelowZero_107 : decode cX4_isBelowZero 107 = .ok (.getfield 21, 3) := by decide +kernel
theorem dX4_isBelowZero_110 : decode cX4_isBelowZero 110 = .ok (.getfield 158, 3) := by decide +kernel
theorem dX4_isBelowZero_113 : decode cX4_isBelowZero 113 = .ok (.iload_n 2, 1) := by decide +kernel
theorem dX4_isBelowZero_114 : decode cX4_isBelowZero 114 = .ok (.laload, 1) := by decide +kernel
theorem dX4_isBelowZero_115 : decode cX4_isBelowZero 115 = .ok (.goto 4, 3) := by decide +kernel
theorem dX4_isBelowZero_118 : decode cX4_isBelowZero 118 = .ok (.lconst 0, 1) := by decide +kernel
theorem dX4_isBelowZero_119 : decode cX4_isBelowZero 119 = .ok (.lastore, 1) := by decide +kernel
theorem dX4_isBelowZero_120 : decode cX4_isBelowZero 120 = .ok (.iinc 2 1, 3) := by decide +kernel
theorem dX4_isBelowZero_123 : decode cX4_isBelowZero 123 = .ok (.goto (-82), 3) := by decide +kernel
theorem dX4_isBelowZero_126 : decode cX4_isBelowZero 126 = .ok (.aload_n 0, 1) := by decide +kernel
theorem dX4_isBelowZero_127 : decode cX4_isBelowZero 127 = .ok (.aload_n 1, 1) := by decide +kernel
theorem dX4_isBelowZero_128 : decode cX4_isBelowZero 128 = .ok (.getfield 140, 3) := by decide +kernel
theorem dX4_isBelowZero_131 : decode cX4_isBelowZero 131 = .ok (.lconst 0, 1) := by decide +kernel
theorem dX4_isBelowZero_132 : decode cX4_isBelowZero 132 = .ok (.invokevirtual 76, 3) := by decide +kernel
theorem dX4_isBelowZero_135 : decode cX4_isBelowZero 135 = .ok (.ifCond .ge 7, 3) := by decide +kernel
theorem dX4_isBelowZero_138 : decode cX4_isBelowZero 138 = .ok (.iconst 1, 1) := by decide +kernel
theorem dX4_isBelowZero_139 : decode cX4_isBelowZero 139 = .ok (.goto 4, 3) := by decide +kernel
theorem dX4_isBelowZero_142 : decode cX4_isBelowZero 142 = .ok (.iconst 0, 1) := by decide +kernel
theorem dX4_isBelowZero_143 : decode cX4_isBelowZero 143 = .ok (.ireturn, 1) := by decide +kernel
theorem dX4_clearWeights_0 : decode cX4_clearWeights 0 = .ok (.iconst 0, 1) := by decide +kernel
theorem dX4_clearWeights_1 : decode cX4_clearWeights 1 = .ok (.istore_n 1, 1) := by decide +kernel
theorem dX4_clearWeights_2 : decode cX4_clearWeights 2 = .ok (.iload_n 1, 1) := by decide +kernel
theorem dX4_clearWeights_3 : decode cX4_clearWeights 3 = .ok (.aload_n 0, 1) := by decide +kernel
theorem dX4_clearWeights_4 : decode cX4_clearWeights 4 = .ok (.getfield 25, 3) := by decide +kernel
theorem dX4_clearWeights_7 : decode cX4_clearWeights 7 = .ok (.arraylength, 1) := by decide +kernel
theorem dX4_clearWeights_8 : decode cX4_clearWeights 8 = .ok (.if_icmp .ge 16, 3) := by decide +kernel
theorem dX4_clearWeights_11 : decode cX4_clearWeights 11 = .ok (.aload_n 0, 1) := by decide +kernel
theorem dX4_clearWeights_12 : decode cX4_clearWeights 12 = .ok (.getfield 25, 3) := by decide +kernel
theorem dX4_clearWeights_15 : decode cX4_clearWeights 15 = .ok (.iload_n 1, 1) := by decide +kernel
theorem dX4_clearWeights_16 : decode cX4_clearWeights 16 = .ok (.lconst 0, 1) := by decide +kernel
theorem dX4_clearWeights_17 : decode cX4_clearWeights 17 = .ok (.lastore, 1) := by decide +kernel
theorem dX4_clearWeights_18 : decode cX4_clearWeights 18 = .ok (.iinc 1 1, 3) := by decide +kernel
theorem dX4_clearWeights_21 : decode cX4_clearWeights 21 = .ok (.goto (-19), 3) := by decide +kernel
theorem dX4_clearWeights_24 : decode cX4_clearWeights 24 = .ok (.return_, 1) := by decide +kernel
theorem dX4_compareTotal_0 : decode cX4_compareTotal 0 = .ok (.aload_n 0, 1) := by decide +kernel
theorem dX4_compareTotal_1 : decode cX4_compareTotal 1 = .ok (.getfield 49, 3) := by decide +kernel
theorem dX4_compareTotal_4 : decode cX4_compareTotal 4 = .ok (.invokevirtual 161, 3) := by decide +kernel
theorem dX4_compareTotal_7 : decode cX4_compareTotal 7 = .ok (.aload_n 0, 1) := by decide +kernel
theorem dX4_compareTotal_8 : decode cX4_compareTotal 8 = .ok (.getfield 34, 3) := by decide +kernel
theorem dX4_compareTotal_11 : decode cX4_compareTotal 11 = .ok (.lconst 1, 1) := by decide +kernel
theorem dX4_compareTotal_12 : decode cX4_compareTotal 12 = .ok (.invokevirtual 164, 3) := by decide +kernel
theorem dX4_compareTotal_15 : decode cX4_compareTotal 15 = .ok (.iconst 0, 1) := by decide +kernel
theorem dX4_compareTotal_16 : decode cX4_compareTotal 16 = .ok (.istore 4, 2) := by decide +kernel
theorem dX4_compareTotal_18 : decode cX4_compareTotal 18 = .ok (.iload 4, 2) := by decide +kernel
theorem dX4_compareTotal_20 : decode cX4_compareTotal 20 = .ok (.aload_n 1, 1) := by decide +kernel
theorem dX4_compareTotal_21 : decode cX4_compareTotal 21 = .ok (.arraylength, 1) := by decide +kernel
theorem dX4_compareTotal_22 : decode cX4_compareTotal 22 = .ok (.if_icmp .ge 61, 3) := by decide +kernel
theorem dX4_compareTotal_25 : decode cX4_compareTotal 25 = .ok (.iload 4, 2) := by decide +kernel
theorem dX4_compareTotal_27 : decode cX4_compareTotal 27 = .ok (.aload_n 0, 1) := by decide +kernel
theorem dX4_compareTotal_28 : decode cX4_compareTotal 28 = .ok (.getfield 25, 3) := by decide +kernel
theorem dX4_compareTotal_31 : decode cX4_compareTotal 31 = .ok (.arraylength, 1) := by decide +kernel
theorem dX4_compareTotal_32 : decode cX4_compareTotal 32 = .ok (.if_icmp .ge 51, 3) := by decide +kernel
theorem dX4_compareTotal_35 : decode cX4_compareTotal 35 = .ok (.aload_n 1, 1) := by decide +kernel
theorem dX4_compareTotal_36 : decode cX4_compareTotal 36 = .ok (.iload 4, 2) := by decide +kernel
theorem dX4_compareTotal_38 : decode cX4_compareTotal 38 = .ok (.aaload, 1) := by decide +kernel
theorem dX4_compareTotal_39 : decode cX4_compareTotal 39 = .ok (.astore 5, 2) := by decide +kernel
theorem dX4_compareTotal_41 : decode cX4_compareTotal 41 = .ok (.aload_n 0, 1) := by decide +kernel
theorem dX4_compareTotal_42 : decode cX4_compareTotal 42 = .ok (.getfield 25, 3) := by decide +kernel
theorem dX4_compareTotal_45 : decode cX4_compareTotal 45 = .ok (.iload 4, 2) := by decide +kernel
theorem dX4_compareTotal_47 : decode cX4_compareTotal 47 = .ok (.laload, 1) := by decide +kernel
theorem dX4_compareTotal_48 : decode cX4_compareTotal 48 = .ok (.lconst 0, 1) := by decide +kernel
theorem dX4_compareTotal_49 : decode cX4_compareTotal 49 = .ok (.lcmp, 1) := by decide +kernel
theorem dX4_compareTotal_50 : decode cX4_compareTotal 50 = .ok (.ifCond .eq 27, 3) := by decide +kernel
theorem dX4_compareTotal_53 : decode cX4_compareTotal 53 = .ok (.aload 5, 2) := by decide +kernel
theorem dX4_compareTotal_55 : decode cX4_compareTotal 55 = .ok (.getfield 87, 3) := by decide +kernel
theorem dX4_compareTotal_58 : decode cX4_compareTotal 58 = .ok (.getfield 146, 3) := by decide +kernel
theorem dX4_compareTotal_61 : decode cX4_compareTotal 61 = .ok (.ifCond .eq 16, 3) := by decide +kernel
theorem dX4_compareTotal_64 : decode cX4_compareTotal 64 = .ok (.aload_n 0, 1) := by decide +kernel
theorem dX4_compareTotal_65 : decode cX4_compareTotal 65 = .ok (.aload 5, 2) := by decide +kernel
theorem dX4_compareTotal_67 : decode cX4_compareTotal 67 = .ok (.aload_n 0, 1) := by decide +kernel
theorem dX4_compareTotal_68 : decode cX4_compareTotal 68 = .ok (.getfield 25, 3) := by decide +kernel
theorem dX4_compareTotal_71 : decode cX4_compareTotal 71 = .ok (.iload 4, 2) := by decide +kernel
theorem dX4_compareTotal_73 : decode cX4_compareTotal 73 = .ok (.laload, 1) := by decide +kernel
theorem dX4_compareTotal_74 : decode cX4_compareTotal 74 = .ok (.invokevirtual 168, 3) := by decide +kernel
theorem dX4_compareTotal_77 : decode cX4_compareTotal 77 = .ok (.iinc 4 1, 3) := by decide +kernel
theorem dX4_compareTotal_80 : decode cX4_compareTotal 80 = .ok (.goto (-62), 3) := by decide +kernel
theorem dX4_compareTotal_83 : decode cX4_compareTotal 83 = .ok (.aload_n 0, 1) := by decide +kernel
theorem dX4_compareTotal_84 : decode cX4_compareTotal 84 = .ok (.getfield 49, 3) := by decide +kernel
theorem dX4_compareTotal_87 : decode cX4_compareTotal 87 = .ok (.aload_n 0, 1) := by decide +kernel
theorem dX4_compareTotal_88 : decode cX4_compareTotal 88 = .ok (.getfield 34, 3) := by decide +kernel
theorem dX4_compareTotal_91 : decode cX4_compareTotal 91 = .ok (.lload_n 2, 1) := by decide +kernel
theorem dX4_compareTotal_92 : decode cX4_compareTotal 92 = .ok (.lneg, 1) := by decide +kernel
theorem dX4_compareTotal_93 : decode cX4_compareTotal 93 = .ok (.invokevirtual 172, 3) := by decide +kernel
theorem dX4_compareTotal_96 : decode cX4_compareTotal 96 = .ok (.aload_n 0, 1) := by decide +kernel
theorem dX4_compareTotal_97 : decode cX4_compareTotal 97 = .ok (.getfield 49, 3) := by decide +kernel
theorem dX4_compareTotal_100 : decode cX4_compareTotal 100 = .ok (.invokevirtual 176, 3) := by decide +kernel
theorem dX4_compareTotal_103 : decode cX4_compareTotal 103 = .ok (.ireturn, 1) := by decide +kernel
theorem dX4_addPart_0 : decode cX4_addPart 0 = .ok (.aload_n 1, 1) := by decide +kernel
theorem dX4_addPart_1 : decode cX4_addPart 1 = .ok (.getfield 92, 3) := by decide +kernel
theorem dX4_addPart_4 : decode cX4_addPart 4 = .ok (.aload_n 0, 1) := by decide +kernel
theorem dX4_addPart_5 : decode cX4_addPart 5 = .ok (.getfield 34, 3) := by decide +kernel
theorem dX4_addPart_8 : decode cX4_addPart 8 = .ok (.invokevirtual 180, 3) := by decide +kernel
theorem dX4_addPart_11 : decode cX4_addPart 11 = .ok (.ifCond .ne 16, 3) := by decide +kernel
theorem dX4_addPart_14 : decode cX4_addPart 14 = .ok (.aload_n 0, 1) := by decide +kernel
theorem dX4_addPart_15 : decode cX4_addPart 15 = .ok (.getfield 49, 3) := by decide +kernel
theorem dX4_addPart_18 : decode cX4_addPart 18 = .ok (.aload_n 1, 1) := by decide +kernel
theorem dX4_addPart_19 : decode cX4_addPart 19 = .ok (.getfield 87, 3) := by decide +kernel
theorem dX4_addPart_22 : decode cX4_addPart 22 = .ok (.lload_n 2, 1) := by decide +kernel
theorem dX4_addPart_23 : decode cX4_addPart 23 = .ok (.invokevirtual 172, 3) := by decide +kernel
theorem dX4_addPart_26 : decode cX4_addPart 26 = .ok (.return_, 1) := by decide +kernel
theorem dX4_addPart_27 : decode cX4_addPart 27 = .ok (.aload_n 0, 1) := by decide +kernel
theorem dX4_addPart_28 : decode cX4_addPart 28 = .ok (.getfield 49, 3) := by decide +kernel
theorem dX4_addPart_31 : decode cX4_addPart 31 = .ok (.aload_n 0, 1) := by decide +kernel
theorem dX4_addPart_32 : decode cX4_addPart 32 = .ok (.getfield 38, 3) := by decide +kernel
theorem dX4_addPart_35 : decode cX4_addPart 35 = .ok (.invokevirtual 184, 3) := by decide +kernel
theorem dX4_addPart_38 : decode cX4_addPart 38 = .ok (.aload_n 0, 1) := by decide +kernel
theorem dX4_addPart_39 : decode cX4_addPart 39 = .ok (.getfield 49, 3) := by decide +kernel
theorem dX4_addPart_42 : decode cX4_addPart 42 = .ok (.invokevirtual 161, 3) := by decide +kernel
theorem dX4_addPart_45 : decode cX4_addPart 45 = .ok (.aload_n 0, 1) := by decide +kernel
theorem dX4_addPart_46 : decode cX4_addPart 46 = .ok (.getfield 49, 3) := by decide +kernel
theorem dX4_addPart_49 : decode cX4_addPart 49 = .ok (.aload_n 0, 1) := by decide +kernel
theorem dX4_addPart_50 : decode cX4_addPart 50 = .ok (.getfield 38, 3) := by decide +kernel
theorem dX4_addPart_53 : decode cX4_addPart 53 = .ok (.aload_n 1, 1) := by decide +kernel
theorem dX4_addPart_54 : decode cX4_addPart 54 = .ok (.getfield 92, 3) := by decide +kernel
theorem dX4_addPart_57 : decode cX4_addPart 57 = .ok (.iconst 1, 1) := by decide +kernel
theorem dX4_addPart_58 : decode cX4_addPart 58 = .ok (.invokevirtual 188, 3) := by decide +kernel
theorem dX4_addPart_61 : decode cX4_addPart 61 = .ok (.aload_n 0, 1) := by decide +kernel
theorem dX4_addPart_62 : decode cX4_addPart 62 = .ok (.getfield 12, 3) := by decide +kernel
theorem dX4_addPart_65 : decode cX4_addPart 65 = .ok (.invokevirtual 161, 3) := by decide +kernel
theorem dX4_addPart_68 : decode cX4_addPart 68 = .ok (.aload_n 0, 1) := by decide +kernel
theorem dX4_addPart_69 : decode cX4_addPart 69 = .ok (.getfield 12, 3) := by decide +kernel
theorem dX4_addPart_72 : decode cX4_addPart 72 = .ok (.aload_n 1, 1) := by decide +kernel
theorem dX4_addPart_73 : decode cX4_addPart 73 = .ok (.getfield 87, 3) := by decide +kernel
theorem dX4_addPart_76 : decode cX4_addPart 76 = .ok (.aload_n 0, 1) := by decide +kernel
theorem dX4_addPart_77 : decode cX4_addPart 77 = .ok (.getfield 34, 3) := by decide +kernel
theorem dX4_addPart_80 : decode cX4_addPart 80 = .ok (.iconst 1, 1) := by decide +kernel
theorem dX4_addPart_81 : decode cX4_addPart 81 = .ok (.invokevirtual 188, 3) := by decide +kernel
theorem dX4_addPart_84 : decode cX4_addPart 84 = .ok (.aload_n 0, 1) := by decide +kernel
theorem dX4_addPart_85 : decode cX4_addPart 85 = .ok (.getfield 12, 3) := by decide +kernel
theorem dX4_addPart_88 : decode cX4_addPart 88 = .ok (.aload_n 0, 1) := by decide +kernel
theorem dX4_addPart_89 : decode cX4_addPart 89 = .ok (.getfield 38, 3) := by decide +kernel
theorem dX4_addPart_92 : decode cX4_addPart 92 = .ok (.invokevirtual 184, 3) := by decide +kernel
theorem dX4_addPart_95 : decode cX4_addPart 95 = .ok (.aload_n 0, 1) := by decide +kernel
theorem dX4_addPart_96 : decode cX4_addPart 96 = .ok (.getfield 49, 3) := by decide +kernel
theorem dX4_addPart_99 : decode cX4_addPart 99 = .ok (.aload_n 0, 1) := by decide +kernel
theorem dX4_addPart_100 : decode cX4_addPart 100 = .ok (.getfield 38, 3) := by decide +kernel
theorem dX4_addPart_103 : decode cX4_addPart 103 = .ok (.lload_n 2, 1) := by decide +kernel
theorem dX4_addPart_104 : decode cX4_addPart 104 = .ok (.invokevirtual 172, 3) := by decide +kernel
theorem dX4_addPart_107 : decode cX4_addPart 107 = .ok (.aload_n 0, 1) := by decide +kernel
theorem dX4_addPart_108 : decode cX4_addPart 108 = .ok (.getfield 12, 3) := by decide +kernel
theorem dX4_addPart_111 : decode cX4_addPart 111 = .ok (.invokevirtual 161, 3) := by decide +kernel
theorem dX4_addPart_114 : decode cX4_addPart 114 = .ok (.aload_n 0, 1) := by decide +kernel
theorem dX4_addPart_115 : decode cX4_addPart 115 = .ok (.getfield 12, 3) := by decide +kernel
theorem dX4_addPart_118 : decode cX4_addPart 118 = .ok (.aload_n 0, 1) := by decide +kernel
theorem dX4_addPart_119 : decode cX4_addPart 119 = .ok (.getfield 34, 3) := by decide +kernel
theorem dX4_addPart_122 : decode cX4_addPart 122 = .ok (.aload_n 1, 1) := by decide +kernel
theorem dX4_addPart_123 : decode cX4_addPart 123 = .ok (.getfield 92, 3) := by decide +kernel
theorem dX4_addPart_126 : decode cX4_addPart 126 = .ok (.iconst 1, 1) := by decide +kernel
theorem dX4_addPart_127 : decode cX4_addPart 127 = .ok (.invokevirtual 188, 3) := by decide +kernel
theorem dX4_addPart_130 : decode cX4_addPart 130 = .ok (.aload_n 0, 1) := by decide +kernel
theorem dX4_addPart_131 : decode cX4_addPart 131 = .ok (.getfield 12, 3) := by decide +kernel
theorem dX4_addPart_134 : decode cX4_addPart 134 = .ok (.aload_n 0, 1) := by decide +kernel
theorem dX4_addPart_135 : decode cX4_addPart 135 = .ok (.getfield 34, 3) := by decide +kernel
theorem dX4_addPart_138 : decode cX4_addPart 138 = .ok (.invokevirtual 184, 3) := by decide +kernel
theorem dX4_addPart_141 : decode cX4_addPart 141 = .ok (.return_, 1) := by decide +kernel
theorem dX5_init_0 : decode cX5_init 0 = .ok (.aload_n 0, 1) := by decide +kernel
theorem dX5_init_1 : decode cX5_init 1 = .ok (.invokespecial 3, 3) := by decide +kernel
theorem dX5_init_4 : decode cX5_init 4 = .ok (.aload_n 0, 1) := by decide +kernel
theorem dX5_init_5 : decode cX5_init 5 = .ok (.bipush 32, 2) := by decide +kernel
theorem dX5_init_7 : decode cX5_init 7 = .ok (.anewarray 9, 3) := by decide +kernel
theorem dX5_init_10 : decode cX5_init 10 = .ok (.putfield 11, 3) := by decide +kernel
theorem dX5_init_13 : decode cX5_init 13 = .ok (.iconst 0, 1) := by decide +kernel
theorem dX5_init_14 : decode cX5_init 14 = .ok (.istore_n 1, 1) := by decide +kernel
theorem dX5_init_15 : decode cX5_init 15 = .ok (.iload_n 1, 1) := by decide +kernel
theorem dX5_init_16 : decode cX5_init 16 = .ok (.aload_n 0, 1) := by decide +kernel
theorem dX5_init_17 : decode cX5_init 17 = .ok (.getfield 11, 3) := by decide +kernel
theorem dX5_init_20 : decode cX5_init 20 = .ok (.arraylength, 1) := by decide +kernel
theorem dX5_init_21 : decode cX5_init 21 = .ok (.if_icmp .ge 24, 3) := by decide +kernel
theorem dX5_init_24 : decode cX5_init 24 = .ok (.aload_n 0, 1) := by decide +kernel
theorem dX5_init_25 : decode cX5_init 25 = .ok (.getfield 11, 3) := by decide +kernel
theorem dX5_init_28 : decode cX5_init 28 = .ok (.iload_n 1, 1) := by decide +kernel
theorem dX5_init_29 : decode cX5_init 29 = .ok (.new 9, 3) := by decide +kernel
theorem dX5_init_32 : decode cX5_init 32 = .ok (.dup, 1) := by decide +kernel
theorem dX5_init_33 : decode cX5_init 33 = .ok (.bipush 8, 2) := by decide +kernel
theorem dX5_init_35 : decode cX5_init 35 = .ok (.invokespecial 17, 3) := by decide +kernel
theorem dX5_init_38 : decode cX5_init 38 = .ok (.aastore, 1) := by decide +kernel
theorem dX5_init_39 : decode cX5_init 39 = .ok (.iinc 1 1, 3) := by decide +kernel
theorem dX5_init_42 : decode cX5_init 42 = .ok (.goto (-27), 3) := by decide +kernel
theorem dX5_init_45 : decode cX5_init 45 = .ok (.return_, 1) := by decide +kernel
theorem dX5_clear_0 : decode cX5_clear 0 = .ok (.iconst 0, 1) := by decide +kernel
theorem dX5_clear_1 : decode cX5_clear 1 = .ok (.istore_n 1, 1) := by decide +kernel
theorem dX5_clear_2 : decode cX5_clear 2 = .ok (.iload_n 1, 1) := by decide +kernel
theorem dX5_clear_3 : decode cX5_clear 3 = .ok (.aload_n 0, 1) := by decide +kernel
theorem dX5_clear_4 : decode cX5_clear 4 = .ok (.getfield 11, 3) := by decide +kernel
theorem dX5_clear_7 : decode cX5_clear 7 = .ok (.arraylength, 1) := by decide +kernel
theorem dX5_clear_8 : decode cX5_clear 8 = .ok (.if_icmp .ge 20, 3) := by decide +kernel
theorem dX5_clear_11 : decode cX5_clear 11 = .ok (.aload_n 0, 1) := by decide +kernel
theorem dX5_clear_12 : decode cX5_clear 12 = .ok (.getfield 11, 3) := by decide +kernel
theorem dX5_clear_15 : decode cX5_clear 15 = .ok (.iload_n 1, 1) := by decide +kernel
theorem dX5_clear_16 : decode cX5_clear 16 = .ok (.aaload, 1) := by decide +kernel
theorem dX5_clear_17 : decode cX5_clear 17 = .ok (.lconst 0, 1) := by decide +kernel
theorem dX5_clear_18 : decode cX5_clear 18 = .ok (.lconst 1, 1) := by decide +kernel
theorem dX5_clear_19 : decode cX5_clear 19 = .ok (.invokevirtual 20, 3) := by decide +kernel
theorem dX5_clear_22 : decode cX5_clear 22 = .ok (.iinc 1 1, 3) := by decide +kernel
theorem dX5_clear_25 : decode cX5_clear 25 = .ok (.goto (-23), 3) := by decide +kernel
theorem dX5_clear_28 : decode cX5_clear 28 = .ok (.return_, 1) := by decide +kernel
theorem dX5_ofPlace_0 : decode cX5_ofPlace 0 = .ok (.iload_n 1, 1) := by decide +kernel
theorem dX5_ofPlace_1 : decode cX5_ofPlace 1 = .ok (.iload_n 2, 1) := by decide +kernel
theorem dX5_ofPlace_2 : decode cX5_ofPlace 2 = .ok (.if_icmp .lt 12, 3) := by decide +kernel
theorem dX5_ofPlace_5 : decode cX5_ofPlace 5 = .ok (.aload_n 0, 1) := by decide +kernel
theorem dX5_ofPlace_6 : decode cX5_ofPlace 6 = .ok (.getfield 11, 3) := by decide +kernel
theorem dX5_ofPlace_9 : decode cX5_ofPlace 9 = .ok (.iload_n 1, 1) := by decide +kernel
theorem dX5_ofPlace_10 : decode cX5_ofPlace 10 = .ok (.iload_n 2, 1) := by decide +kernel
theorem dX5_ofPlace_11 : decode cX5_ofPlace 11 = .ok (.isub, 1) := by decide +kernel
theorem dX5_ofPlace_12 : decode cX5_ofPlace 12 = .ok (.aaload, 1) := by decide +kernel
theorem dX5_ofPlace_13 : decode cX5_ofPlace 13 = .ok (.areturn, 1) := by decide +kernel
theorem dX5_ofPlace_14 : decode cX5_ofPlace 14 = .ok (.iload_n 3, 1) := by decide +kernel
theorem dX5_ofPlace_15 : decode cX5_ofPlace 15 = .ok (.ifCond .le 15, 3) := by decide +kernel
theorem dX5_ofPlace_18 : decode cX5_ofPlace 18 = .ok (.aload_n 0, 1) := by decide +kernel
theorem dX5_ofPlace_19 : decode cX5_ofPlace 19 = .ok (.getfield 11, 3) := by decide +kernel
theorem dX5_ofPlace_22 : decode cX5_ofPlace 22 = .ok (.bipush 12, 2) := by decide +kernel
theorem dX5_ofPlace_24 : decode cX5_ofPlace 24 = .ok (.iload_n 1, 1) := by decide +kernel
theorem dX5_ofPlace_25 : decode cX5_ofPlace 25 = .ok (.iadd, 1) := by decide +kernel
theorem dX5_ofPlace_26 : decode cX5_ofPlace 26 = .ok (.aaload, 1) := by decide +kernel
theorem dX5_ofPlace_27 : decode cX5_ofPlace 27 = .ok (.goto 12, 3) := by decide +kernel
theorem dX5_ofPlace_30 : decode cX5_ofPlace 30 = .ok (.aload_n 0, 1) := by decide +kernel
theorem dX5_ofPlace_31 : decode cX5_ofPlace 31 = .ok (.getfield 11, 3) := by decide +kernel
theorem dX5_ofPlace_34 : decode cX5_ofPlace 34 = .ok (.bipush 22, 2) := by decide +kernel
theorem dX5_ofPlace_36 : decode cX5_ofPlace 36 = .ok (.iload_n 1, 1) := by decide +kernel
theorem dX5_ofPlace_37 : decode cX5_ofPlace 37 = .ok (.iadd, 1) := by decide +kernel
theorem dX5_ofPlace_38 : decode cX5_ofPlace 38 = .ok (.aaload, 1) := by decide +kernel
theorem dX5_ofPlace_39 : decode cX5_ofPlace 39 = .ok (.areturn, 1) := by decide +kernel
theorem dX6_init_0 : decode cX6_init 0 = .ok (.aload_n 0, 1) := by decide +kernel
theorem dX6_init_1 : decode cX6_init 1 = .ok (.invokespecial 3, 3) := by decide +kernel
theorem dX6_init_4 : decode cX6_init 4 = .ok (.aload_n 0, 1) := by decide +kernel
theorem dX6_init_5 : decode cX6_init 5 = .ok (.bipush 12, 2) := by decide +kernel
theorem dX6_init_7 : decode cX6_init 7 = .ok (.bipush 10, 2) := by decide +kernel
theorem dX6_init_9 : decode cX6_init 9 = .ok (.multianewarray 9 2, 4) := by decide +kernel
theorem dX6_init_13 : decode cX6_init 13 = .ok (.putfield 11, 3) := by decide +kernel
theorem dX6_init_16 : decode cX6_init 16 = .ok (.aload_n 0, 1) := by decide +kernel
theorem dX6_init_17 : decode cX6_init 17 = .ok (.bipush 12, 2) := by decide +kernel
theorem dX6_init_19 : decode cX6_init 19 = .ok (.newarray .int, 2) := by decide +kernel
theorem dX6_init_21 : decode cX6_init 21 = .ok (.putfield 16, 3) := by decide +kernel
theorem dX6_init_24 : decode cX6_init 24 = .ok (.aload_n 0, 1) := by decide +kernel
theorem dX6_init_25 : decode cX6_init 25 = .ok (.bipush 12, 2) := by decide +kernel
theorem dX6_init_27 : decode cX6_init 27 = .ok (.newarray .int, 2) := by decide +kernel
theorem dX6_init_29 : decode cX6_init 29 = .ok (.putfield 20, 3) := by decide +kernel
theorem dX6_init_32 : decode cX6_init 32 = .ok (.aload_n 0, 1) := by decide +kernel
theorem dX6_init_33 : decode cX6_init 33 = .ok (.bipush 10, 2) := by decide +kernel
theorem dX6_init_35 : decode cX6_init 35 = .ok (.newarray .boolean, 2) := by decide +kernel
theorem dX6_init_37 : decode cX6_init 37 = .ok (.putfield 23, 3) := by decide +kernel
theorem dX6_init_40 : decode cX6_init 40 = .ok (.aload_n 0, 1) := by decide +kernel
theorem dX6_init_41 : decode cX6_init 41 = .ok (.bipush 10, 2) := by decide +kernel
theorem dX6_init_43 : decode cX6_init 43 = .ok (.newarray .int, 2) := by decide +kernel
theorem dX6_init_45 : decode cX6_init 45 = .ok (.putfield 27, 3) := by decide +kernel
theorem dX6_init_48 : decode cX6_init 48 = .ok (.return_, 1) := by decide +kernel
theorem dX6_renew_0 : decode cX6_renew 0 = .ok (.aload_n 0, 1) := by decide +kernel
theorem dX6_renew_1 : decode cX6_renew 1 = .ok (.iload_n 1, 1) := by decide +kernel
theorem dX6_renew_2 : decode cX6_renew 2 = .ok (.putfield 30, 3) := by decide +kernel
theorem dX6_renew_5 : decode cX6_renew 5 = .ok (.aload_n 0, 1) := by decide +kernel
theorem dX6_renew_6 : decode cX6_renew 6 = .ok (.iconst 0, 1) := by decide +kernel
theorem dX6_renew_7 : decode cX6_renew 7 = .ok (.putfield 34, 3) := by decide +kernel
theorem dX6_renew_10 : decode cX6_renew 10 = .ok (.iconst 0, 1) := by decide +kernel
theorem dX6_renew_11 : decode cX6_renew 11 = .ok (.istore_n 2, 1) := by decide +kernel
theorem dX6_renew_12 : decode cX6_renew 12 = .ok (.iload_n 2, 1) := by decide +kernel
theorem dX6_renew_13 : decode cX6_renew 13 = .ok (.bipush 10, 2) := by decide +kernel
theorem dX6_renew_15 : decode cX6_renew 15 = .ok (.if_icmp .ge 23, 3) := by decide +kernel
theorem dX6_renew_18 : decode cX6_renew 18 = .ok (.aload_n 0, 1) := by decide +kernel
theorem dX6_renew_19 : decode cX6_renew 19 = .ok (.getfield 23, 3) := by decide +kernel
theorem dX6_renew_22 : decode cX6_renew 22 = .ok (.iload_n 2, 1) := by decide +kernel
theorem dX6_renew_23 : decode cX6_renew 23 = .ok (.iconst 0, 1) := by decide +kernel
theorem dX6_renew_24 : decode cX6_renew 24 = .ok (.bastore, 1) := by decide +kernel
theorem dX6_renew_25 : decode cX6_renew 25 = .ok (.aload_n 0, 1) := by decide +kernel
theorem dX6_renew_26 : decode cX6_renew 26 = .ok (.getfield 27, 3) := by decide +kernel
theorem dX6_renew_29 : decode cX6_renew 29 = .ok (.iload_n 2, 1) := by decide +kernel
theorem dX6_renew_30 : decode cX6_renew 30 = .ok (.iconst 0, 1) := by decide +kernel
theorem dX6_renew_31 : decode cX6_renew 31 = .ok (.iastore, 1) := by decide +kernel
theorem dX6_renew_32 : decode cX6_renew 32 = .ok (.iinc 2 1, 3) := by decide +kernel
theorem dX6_renew_35 : decode cX6_renew 35 = .ok (.goto (-23), 3) := by decide +kernel
theorem dX6_renew_38 : decode cX6_renew 38 = .ok (.return_, 1) := by decide +kernel
theorem dX6_hasVariable_0 : decode cX6_hasVariable 0 = .ok (.iload_n 1, 1) := by decide +kernel
theorem dX6_hasVariable_1 : decode cX6_hasVariable 1 = .ok (.ifCond .lt 15, 3) := by decide +kernel
theorem dX6_hasVariable_4 : decode cX6_hasVariable 4 = .ok (.iload_n 1, 1) := by decide +kernel
theorem dX6_hasVariable_5 : decode cX6_hasVariable 5 = .ok (.aload_n 0, 1) := by decide +kernel
theorem dX6_hasVariable_6 : decode cX6_hasVariable 6 = .ok (.getfield 30, 3) := by decide +kernel
theorem dX6_hasVariable_9 : decode cX6_hasVariable 9 = .ok (.if_icmp .ge 7, 3) := by decide +kernel
theorem dX6_hasVariable_12 : decode cX6_hasVariable 12 = .ok (.iconst 1, 1) := by decide +kernel
theorem dX6_hasVariable_13 : decode cX6_hasVariable 13 = .ok (.goto 4, 3) := by decide +kernel
theorem dX6_hasVariable_16 : decode cX6_hasVariable 16 = .ok (.iconst 0, 1) := by decide +kernel
theorem dX6_hasVariable_17 : decode cX6_hasVariable 17 = .ok (.ireturn, 1) := by decide +kernel
theorem dX6_hasRow_0 : decode cX6_hasRow 0 = .ok (.iload_n 1, 1) := by decide +kernel
theorem dX6_hasRow_1 : decode cX6_hasRow 1 = .ok (.ifCond .lt 15, 3) := by decide +kernel
theorem dX6_hasRow_4 : decode cX6_hasRow 4 = .ok (.iload_n 1, 1) := by decide +kernel
theorem dX6_hasRow_5 : decode cX6_hasRow 5 = .ok (.aload_n 0, 1) := by decide +kernel
theorem dX6_hasRow_6 : decode cX6_hasRow 6 = .ok (.getfield 34, 3) := by decide +kernel
theorem dX6_hasRow_9 : decode cX6_hasRow 9 = .ok (.if_icmp .ge 7, 3) := by decide +kernel
theorem dX6_hasRow_12 : decode cX6_hasRow 12 = .ok (.iconst 1, 1) := by decide +kernel
theorem dX6_hasRow_13 : decode cX6_hasRow 13 = .ok (.goto 4, 3) := by decide +kernel
theorem dX6_hasRow_16 : decode cX6_hasRow 16 = .ok (.iconst 0, 1) := by decide +kernel
theorem dX6_hasRow_17 : decode cX6_hasRow 17 = .ok (.ireturn, 1) := by decide +kernel
theorem dX6_endDraft_0 : decode cX6_endDraft 0 = .ok (.aload_n 0, 1) := by decide +kernel
theorem dX6_endDraft_1 : decode cX6_endDraft 1 = .ok (.getfield 34, 3) := by decide +kernel
theorem dX6_endDraft_4 : decode cX6_endDraft 4 = .ok (.istore_n 3, 1) := by decide +kernel
theorem dX6_endDraft_5 : decode cX6_endDraft 5 = .ok (.iconst 0, 1) := by decide +kernel
theorem dX6_endDraft_6 : decode cX6_endDraft 6 = .ok (.istore 4, 2) := by decide +kernel
