theorem dX12_copyTo_5 : decode cX12_copyTo 5 = .ok (.istore_n 3, 1) := by decide +kernel
theorem dX12_copyTo_6 : decode cX12_copyTo 6 = .ok (.iconst 0, 1) := by decide +kernel
theorem dX12_copyTo_7 : decode cX12_copyTo 7 = .ok (.istore 4, 2) := by decide +kernel
theorem dX12_copyTo_9 : decode cX12_copyTo 9 = .ok (.iload 4, 2) := by decide +kernel
theorem dX12_copyTo_11 : decode cX12_copyTo 11 = .ok (.iload_n 3, 1) := by decide +kernel
theorem dX12_copyTo_12 : decode cX12_copyTo 12 = .ok (.if_icmp .gt 27, 3) := by decide +kernel
theorem dX12_copyTo_15 : decode cX12_copyTo 15 = .ok (.aload_n 0, 1) := by decide +kernel
theorem dX12_copyTo_16 : decode cX12_copyTo 16 = .ok (.getfield 72, 3) := by decide +kernel
theorem dX12_copyTo_19 : decode cX12_copyTo 19 = .ok (.iload_n 2, 1) := by decide +kernel
theorem dX12_copyTo_20 : decode cX12_copyTo 20 = .ok (.iload 4, 2) := by decide +kernel
theorem dX12_copyTo_22 : decode cX12_copyTo 22 = .ok (.iadd, 1) := by decide +kernel
theorem dX12_copyTo_23 : decode cX12_copyTo 23 = .ok (.aload_n 0, 1) := by decide +kernel
theorem dX12_copyTo_24 : decode cX12_copyTo 24 = .ok (.getfield 72, 3) := by decide +kernel
theorem dX12_copyTo_27 : decode cX12_copyTo 27 = .ok (.iload_n 1, 1) := by decide +kernel
theorem dX12_copyTo_28 : decode cX12_copyTo 28 = .ok (.iload 4, 2) := by decide +kernel
theorem dX12_copyTo_30 : decode cX12_copyTo 30 = .ok (.iadd, 1) := by decide +kernel
theorem dX12_copyTo_31 : decode cX12_copyTo 31 = .ok (.iaload, 1) := by decide +kernel
theorem dX12_copyTo_32 : decode cX12_copyTo 32 = .ok (.iastore, 1) := by decide +kernel
theorem dX12_copyTo_33 : decode cX12_copyTo 33 = .ok (.iinc 4 1, 3) := by decide +kernel
theorem dX12_copyTo_36 : decode cX12_copyTo 36 = .ok (.goto (-27), 3) := by decide +kernel
theorem dX12_copyTo_39 : decode cX12_copyTo 39 = .ok (.return_, 1) := by decide +kernel
theorem dX12_keep_0 : decode cX12_keep 0 = .ok (.aload_n 0, 1) := by decide +kernel
theorem dX12_keep_1 : decode cX12_keep 1 = .ok (.iload_n 2, 1) := by decide +kernel
theorem dX12_keep_2 : decode cX12_keep 2 = .ok (.iload_n 1, 1) := by decide +kernel
theorem dX12_keep_3 : decode cX12_keep 3 = .ok (.invokevirtual 92, 3) := by decide +kernel
theorem dX12_keep_6 : decode cX12_keep 6 = .ok (.aload_n 0, 1) := by decide +kernel
theorem dX12_keep_7 : decode cX12_keep 7 = .ok (.iload_n 1, 1) := by decide +kernel
theorem dX12_keep_8 : decode cX12_keep 8 = .ok (.aload_n 0, 1) := by decide +kernel
theorem dX12_keep_9 : decode cX12_keep 9 = .ok (.iload_n 1, 1) := by decide +kernel
theorem dX12_keep_10 : decode cX12_keep 10 = .ok (.invokevirtual 267, 3) := by decide +kernel
theorem dX12_keep_13 : decode cX12_keep 13 = .ok (.iadd, 1) := by decide +kernel
theorem dX12_keep_14 : decode cX12_keep 14 = .ok (.iconst 1, 1) := by decide +kernel
theorem dX12_keep_15 : decode cX12_keep 15 = .ok (.iadd, 1) := by decide +kernel
theorem dX12_keep_16 : decode cX12_keep 16 = .ok (.putfield 76, 3) := by decide +kernel
theorem dX12_keep_19 : decode cX12_keep 19 = .ok (.iload_n 1, 1) := by decide +kernel
theorem dX12_keep_20 : decode cX12_keep 20 = .ok (.ireturn, 1) := by decide +kernel
theorem dX12_again_0 : decode cX12_again 0 = .ok (.aload_n 0, 1) := by decide +kernel
theorem dX12_again_1 : decode cX12_again 1 = .ok (.getfield 76, 3) := by decide +kernel
theorem dX12_again_4 : decode cX12_again 4 = .ok (.istore_n 2, 1) := by decide +kernel
theorem dX12_again_5 : decode cX12_again 5 = .ok (.aload_n 0, 1) := by decide +kernel
theorem dX12_again_6 : decode cX12_again 6 = .ok (.iload_n 1, 1) := by decide +kernel
theorem dX12_again_7 : decode cX12_again 7 = .ok (.iload_n 2, 1) := by decide +kernel
theorem dX12_again_8 : decode cX12_again 8 = .ok (.invokevirtual 92, 3) := by decide +kernel
theorem dX12_again_11 : decode cX12_again 11 = .ok (.aload_n 0, 1) := by decide +kernel
theorem dX12_again_12 : decode cX12_again 12 = .ok (.iload_n 2, 1) := by decide +kernel
theorem dX12_again_13 : decode cX12_again 13 = .ok (.aload_n 0, 1) := by decide +kernel
theorem dX12_again_14 : decode cX12_again 14 = .ok (.iload_n 2, 1) := by decide +kernel
theorem dX12_again_15 : decode cX12_again 15 = .ok (.invokevirtual 267, 3) := by decide +kernel
theorem dX12_again_18 : decode cX12_again 18 = .ok (.iadd, 1) := by decide +kernel
theorem dX12_again_19 : decode cX12_again 19 = .ok (.iconst 1, 1) := by decide +kernel
theorem dX12_again_20 : decode cX12_again 20 = .ok (.iadd, 1) := by decide +kernel
theorem dX12_again_21 : decode cX12_again 21 = .ok (.putfield 76, 3) := by decide +kernel
theorem dX12_again_24 : decode cX12_again 24 = .ok (.iload_n 2, 1) := by decide +kernel
theorem dX12_again_25 : decode cX12_again 25 = .ok (.ireturn, 1) := by decide +kernel
theorem dX12_less_0 : decode cX12_less 0 = .ok (.aload_n 0, 1) := by decide +kernel
theorem dX12_less_1 : decode cX12_less 1 = .ok (.iload_n 1, 1) := by decide +kernel
theorem dX12_less_2 : decode cX12_less 2 = .ok (.invokevirtual 194, 3) := by decide +kernel
theorem dX12_less_5 : decode cX12_less 5 = .ok (.istore_n 2, 1) := by decide +kernel
theorem dX12_less_6 : decode cX12_less 6 = .ok (.aload_n 0, 1) := by decide +kernel
theorem dX12_less_7 : decode cX12_less 7 = .ok (.getfield 72, 3) := by decide +kernel
theorem dX12_less_10 : decode cX12_less 10 = .ok (.iload_n 2, 1) := by decide +kernel
theorem dX12_less_11 : decode cX12_less 11 = .ok (.aload_n 0, 1) := by decide +kernel
theorem dX12_less_12 : decode cX12_less 12 = .ok (.getfield 72, 3) := by decide +kernel
theorem dX12_less_15 : decode cX12_less 15 = .ok (.iload_n 2, 1) := by decide +kernel
theorem dX12_less_16 : decode cX12_less 16 = .ok (.iaload, 1) := by decide +kernel
theorem dX12_less_17 : decode cX12_less 17 = .ok (.ineg, 1) := by decide +kernel
theorem dX12_less_18 : decode cX12_less 18 = .ok (.iastore, 1) := by decide +kernel
theorem dX12_less_19 : decode cX12_less 19 = .ok (.iload_n 2, 1) := by decide +kernel
theorem dX12_less_20 : decode cX12_less 20 = .ok (.ireturn, 1) := by decide +kernel
theorem dX12_weigh_0 : decode cX12_weigh 0 = .ok (.aload_n 0, 1) := by decide +kernel
theorem dX12_weigh_1 : decode cX12_weigh 1 = .ok (.iload_n 1, 1) := by decide +kernel
theorem dX12_weigh_2 : decode cX12_weigh 2 = .ok (.invokevirtual 267, 3) := by decide +kernel
theorem dX12_weigh_5 : decode cX12_weigh 5 = .ok (.istore_n 3, 1) := by decide +kernel
theorem dX12_weigh_6 : decode cX12_weigh 6 = .ok (.aload_n 0, 1) := by decide +kernel
theorem dX12_weigh_7 : decode cX12_weigh 7 = .ok (.iload_n 2, 1) := by decide +kernel
theorem dX12_weigh_8 : decode cX12_weigh 8 = .ok (.invokevirtual 267, 3) := by decide +kernel
theorem dX12_weigh_11 : decode cX12_weigh 11 = .ok (.istore 4, 2) := by decide +kernel
theorem dX12_weigh_13 : decode cX12_weigh 13 = .ok (.iload_n 3, 1) := by decide +kernel
theorem dX12_weigh_14 : decode cX12_weigh 14 = .ok (.iload 4, 2) := by decide +kernel
theorem dX12_weigh_16 : decode cX12_weigh 16 = .ok (.if_icmp .eq 15, 3) := by decide +kernel
theorem dX12_weigh_19 : decode cX12_weigh 19 = .ok (.iload_n 3, 1) := by decide +kernel
theorem dX12_weigh_20 : decode cX12_weigh 20 = .ok (.iload 4, 2) := by decide +kernel
theorem dX12_weigh_22 : decode cX12_weigh 22 = .ok (.if_icmp .ge 7, 3) := by decide +kernel
theorem dX12_weigh_25 : decode cX12_weigh 25 = .ok (.iconst (-1), 1) := by decide +kernel
theorem dX12_weigh_26 : decode cX12_weigh 26 = .ok (.goto 4, 3) := by decide +kernel
theorem dX12_weigh_29 : decode cX12_weigh 29 = .ok (.iconst 1, 1) := by decide +kernel
theorem dX12_weigh_30 : decode cX12_weigh 30 = .ok (.ireturn, 1) := by decide +kernel
theorem dX12_weigh_31 : decode cX12_weigh 31 = .ok (.iload_n 3, 1) := by decide +kernel
theorem dX12_weigh_32 : decode cX12_weigh 32 = .ok (.istore 5, 2) := by decide +kernel
theorem dX12_weigh_34 : decode cX12_weigh 34 = .ok (.iload 5, 2) := by decide +kernel
theorem dX12_weigh_36 : decode cX12_weigh 36 = .ok (.ifCond .le 30, 3) := by decide +kernel
theorem dX12_weigh_39 : decode cX12_weigh 39 = .ok (.aload_n 0, 1) := by decide +kernel
theorem dX12_weigh_40 : decode cX12_weigh 40 = .ok (.getfield 72, 3) := by decide +kernel
theorem dX12_weigh_43 : decode cX12_weigh 43 = .ok (.iload_n 1, 1) := by decide +kernel
theorem dX12_weigh_44 : decode cX12_weigh 44 = .ok (.iload 5, 2) := by decide +kernel
theorem dX12_weigh_46 : decode cX12_weigh 46 = .ok (.iadd, 1) := by decide +kernel
theorem dX12_weigh_47 : decode cX12_weigh 47 = .ok (.iaload, 1) := by decide +kernel
theorem dX12_weigh_48 : decode cX12_weigh 48 = .ok (.aload_n 0, 1) := by decide +kernel
theorem dX12_weigh_49 : decode cX12_weigh 49 = .ok (.getfield 72, 3) := by decide +kernel
theorem dX12_weigh_52 : decode cX12_weigh 52 = .ok (.iload_n 2, 1) := by decide +kernel
theorem dX12_weigh_53 : decode cX12_weigh 53 = .ok (.iload 5, 2) := by decide +kernel
theorem dX12_weigh_55 : decode cX12_weigh 55 = .ok (.iadd, 1) := by decide +kernel
theorem dX12_weigh_56 : decode cX12_weigh 56 = .ok (.iaload, 1) := by decide +kernel
theorem dX12_weigh_57 : decode cX12_weigh 57 = .ok (.if_icmp .ne 9, 3) := by decide +kernel
theorem dX12_weigh_60 : decode cX12_weigh 60 = .ok (.iinc 5 (-1), 3) := by decide +kernel
theorem dX12_weigh_63 : decode cX12_weigh 63 = .ok (.goto (-29), 3) := by decide +kernel
theorem dX12_weigh_66 : decode cX12_weigh 66 = .ok (.iload 5, 2) := by decide +kernel
theorem dX12_weigh_68 : decode cX12_weigh 68 = .ok (.ifCond .ne 7, 3) := by decide +kernel
theorem dX12_weigh_71 : decode cX12_weigh 71 = .ok (.iconst 0, 1) := by decide +kernel
theorem dX12_weigh_72 : decode cX12_weigh 72 = .ok (.goto 29, 3) := by decide +kernel
theorem dX12_weigh_75 : decode cX12_weigh 75 = .ok (.aload_n 0, 1) := by decide +kernel
theorem dX12_weigh_76 : decode cX12_weigh 76 = .ok (.getfield 72, 3) := by decide +kernel
theorem dX12_weigh_79 : decode cX12_weigh 79 = .ok (.iload_n 1, 1) := by decide +kernel
theorem dX12_weigh_80 : decode cX12_weigh 80 = .ok (.iload 5, 2) := by decide +kernel
theorem dX12_weigh_82 : decode cX12_weigh 82 = .ok (.iadd, 1) := by decide +kernel
theorem dX12_weigh_83 : decode cX12_weigh 83 = .ok (.iaload, 1) := by decide +kernel
theorem dX12_weigh_84 : decode cX12_weigh 84 = .ok (.aload_n 0, 1) := by decide +kernel
theorem dX12_weigh_85 : decode cX12_weigh 85 = .ok (.getfield 72, 3) := by decide +kernel
theorem dX12_weigh_88 : decode cX12_weigh 88 = .ok (.iload_n 2, 1) := by decide +kernel
theorem dX12_weigh_89 : decode cX12_weigh 89 = .ok (.iload 5, 2) := by decide +kernel
theorem dX12_weigh_91 : decode cX12_weigh 91 = .ok (.iadd, 1) := by decide +kernel
theorem dX12_weigh_92 : decode cX12_weigh 92 = .ok (.iaload, 1) := by decide +kernel
theorem dX12_weigh_93 : decode cX12_weigh 93 = .ok (.if_icmp .ge 7, 3) := by decide +kernel
theorem dX12_weigh_96 : decode cX12_weigh 96 = .ok (.iconst (-1), 1) := by decide +kernel
theorem dX12_weigh_97 : decode cX12_weigh 97 = .ok (.goto 4, 3) := by decide +kernel
theorem dX12_weigh_100 : decode cX12_weigh 100 = .ok (.iconst 1, 1) := by decide +kernel
theorem dX12_weigh_101 : decode cX12_weigh 101 = .ok (.ireturn, 1) := by decide +kernel
theorem dX12_compare_0 : decode cX12_compare 0 = .ok (.aload_n 0, 1) := by decide +kernel
theorem dX12_compare_1 : decode cX12_compare 1 = .ok (.iload_n 1, 1) := by decide +kernel
theorem dX12_compare_2 : decode cX12_compare 2 = .ok (.invokevirtual 191, 3) := by decide +kernel
theorem dX12_compare_5 : decode cX12_compare 5 = .ok (.istore_n 3, 1) := by decide +kernel
theorem dX12_compare_6 : decode cX12_compare 6 = .ok (.aload_n 0, 1) := by decide +kernel
theorem dX12_compare_7 : decode cX12_compare 7 = .ok (.iload_n 2, 1) := by decide +kernel
theorem dX12_compare_8 : decode cX12_compare 8 = .ok (.invokevirtual 191, 3) := by decide +kernel
theorem dX12_compare_11 : decode cX12_compare 11 = .ok (.istore 4, 2) := by decide +kernel
theorem dX12_compare_13 : decode cX12_compare 13 = .ok (.iload_n 3, 1) := by decide +kernel
theorem dX12_compare_14 : decode cX12_compare 14 = .ok (.iload 4, 2) := by decide +kernel
theorem dX12_compare_16 : decode cX12_compare 16 = .ok (.if_icmp .eq 17, 3) := by decide +kernel
theorem dX12_compare_19 : decode cX12_compare 19 = .ok (.iload_n 3, 1) := by decide +kernel
theorem dX12_compare_20 : decode cX12_compare 20 = .ok (.iload 4, 2) := by decide +kernel
theorem dX12_compare_22 : decode cX12_compare 22 = .ok (.if_icmp .ge 7, 3) := by decide +kernel
theorem dX12_compare_25 : decode cX12_compare 25 = .ok (.iconst (-1), 1) := by decide +kernel
theorem dX12_compare_26 : decode cX12_compare 26 = .ok (.goto 27, 3) := by decide +kernel
theorem dX12_compare_29 : decode cX12_compare 29 = .ok (.iconst 1, 1) := by decide +kernel
theorem dX12_compare_30 : decode cX12_compare 30 = .ok (.goto 23, 3) := by decide +kernel
theorem dX12_compare_33 : decode cX12_compare 33 = .ok (.iload_n 3, 1) := by decide +kernel
theorem dX12_compare_34 : decode cX12_compare 34 = .ok (.ifCond .ge 13, 3) := by decide +kernel
theorem dX12_compare_37 : decode cX12_compare 37 = .ok (.aload_n 0, 1) := by decide +kernel
theorem dX12_compare_38 : decode cX12_compare 38 = .ok (.iload_n 1, 1) := by decide +kernel
theorem dX12_compare_39 : decode cX12_compare 39 = .ok (.iload_n 2, 1) := by decide +kernel
theorem dX12_compare_40 : decode cX12_compare 40 = .ok (.invokevirtual 317, 3) := by decide +kernel
theorem dX12_compare_43 : decode cX12_compare 43 = .ok (.ineg, 1) := by decide +kernel
theorem dX12_compare_44 : decode cX12_compare 44 = .ok (.goto 9, 3) := by decide +kernel
theorem dX12_compare_47 : decode cX12_compare 47 = .ok (.aload_n 0, 1) := by decide +kernel
theorem dX12_compare_48 : decode cX12_compare 48 = .ok (.iload_n 1, 1) := by decide +kernel
theorem dX12_compare_49 : decode cX12_compare 49 = .ok (.iload_n 2, 1) := by decide +kernel
theorem dX12_compare_50 : decode cX12_compare 50 = .ok (.invokevirtual 317, 3) := by decide +kernel
theorem dX12_compare_53 : decode cX12_compare 53 = .ok (.ireturn, 1) := by decide +kernel
theorem dX12_joined_0 : decode cX12_joined 0 = .ok (.aload_n 0, 1) := by decide +kernel
theorem dX12_joined_1 : decode cX12_joined 1 = .ok (.getfield 76, 3) := by decide +kernel
theorem dX12_joined_4 : decode cX12_joined 4 = .ok (.istore 5, 2) := by decide +kernel
theorem dX12_joined_6 : decode cX12_joined 6 = .ok (.aload_n 0, 1) := by decide +kernel
theorem dX12_joined_7 : decode cX12_joined 7 = .ok (.iload_n 1, 1) := by decide +kernel
theorem dX12_joined_8 : decode cX12_joined 8 = .ok (.invokevirtual 267, 3) := by decide +kernel
theorem dX12_joined_11 : decode cX12_joined 11 = .ok (.istore 6, 2) := by decide +kernel
theorem dX12_joined_13 : decode cX12_joined 13 = .ok (.aload_n 0, 1) := by decide +kernel
theorem dX12_joined_14 : decode cX12_joined 14 = .ok (.iload_n 2, 1) := by decide +kernel
theorem dX12_joined_15 : decode cX12_joined 15 = .ok (.invokevirtual 267, 3) := by decide +kernel
theorem dX12_joined_18 : decode cX12_joined 18 = .ok (.istore 7, 2) := by decide +kernel
theorem dX12_joined_20 : decode cX12_joined 20 = .ok (.iload 6, 2) := by decide +kernel
theorem dX12_joined_22 : decode cX12_joined 22 = .ok (.iload 7, 2) := by decide +kernel
theorem dX12_joined_24 : decode cX12_joined 24 = .ok (.if_icmp .le 8, 3) := by decide +kernel
theorem dX12_joined_27 : decode cX12_joined 27 = .ok (.iload 6, 2) := by decide +kernel
theorem dX12_joined_29 : decode cX12_joined 29 = .ok (.goto 5, 3) := by decide +kernel
theorem dX12_joined_32 : decode cX12_joined 32 = .ok (.iload 7, 2) := by decide +kernel
theorem dX12_joined_34 : decode cX12_joined 34 = .ok (.istore 8, 2) := by decide +kernel
theorem dX12_joined_36 : decode cX12_joined 36 = .ok (.lconst 0, 1) := by decide +kernel
theorem dX12_joined_37 : decode cX12_joined 37 = .ok (.lstore 9, 2) := by decide +kernel
theorem dX12_joined_39 : decode cX12_joined 39 = .ok (.iconst 0, 1) := by decide +kernel
theorem dX12_joined_40 : decode cX12_joined 40 = .ok (.istore 11, 2) := by decide +kernel
theorem dX12_joined_42 : decode cX12_joined 42 = .ok (.iconst 1, 1) := by decide +kernel
theorem dX12_joined_43 : decode cX12_joined 43 = .ok (.istore 12, 2) := by decide +kernel
theorem dX12_joined_45 : decode cX12_joined 45 = .ok (.iload 12, 2) := by decide +kernel
theorem dX12_joined_47 : decode cX12_joined 47 = .ok (.iload 8, 2) := by decide +kernel
theorem dX12_joined_49 : decode cX12_joined 49 = .ok (.iconst 1, 1) := by decide +kernel
theorem dX12_joined_50 : decode cX12_joined 50 = .ok (.iadd, 1) := by decide +kernel
theorem dX12_joined_51 : decode cX12_joined 51 = .ok (.if_icmp .gt 145, 3) := by decide +kernel
theorem dX12_joined_54 : decode cX12_joined 54 = .ok (.lload 9, 2) := by decide +kernel
theorem dX12_joined_56 : decode cX12_joined 56 = .ok (.iload 12, 2) := by decide +kernel
theorem dX12_joined_58 : decode cX12_joined 58 = .ok (.iload 6, 2) := by decide +kernel
theorem dX12_joined_60 : decode cX12_joined 60 = .ok (.if_icmp .gt 15, 3) := by decide +kernel
theorem dX12_joined_63 : decode cX12_joined 63 = .ok (.aload_n 0, 1) := by decide +kernel
theorem dX12_joined_64 : decode cX12_joined 64 = .ok (.getfield 72, 3) := by decide +kernel
theorem dX12_joined_67 : decode cX12_joined 67 = .ok (.iload_n 1, 1) := by decide +kernel
theorem dX12_joined_68 : decode cX12_joined 68 = .ok (.iload 12, 2) := by decide +kernel
theorem dX12_joined_70 : decode cX12_joined 70 = .ok (.iadd, 1) := by decide +kernel
theorem dX12_joined_71 : decode cX12_joined 71 = .ok (.iaload, 1) := by decide +kernel
theorem dX12_joined_72 : decode cX12_joined 72 = .ok (.goto 4, 3) := by decide +kernel
theorem dX12_joined_75 : decode cX12_joined 75 = .ok (.iconst 0, 1) := by decide +kernel
theorem dX12_joined_76 : decode cX12_joined 76 = .ok (.i2l, 1) := by decide +kernel
theorem dX12_joined_77 : decode cX12_joined 77 = .ok (.ladd, 1) := by decide +kernel
theorem dX12_joined_78 : decode cX12_joined 78 = .ok (.iload 12, 2) := by decide +kernel
theorem dX12_joined_80 : decode cX12_joined 80 = .ok (.iload 7, 2) := by decide +kernel
theorem dX12_joined_82 : decode cX12_joined 82 = .ok (.if_icmp .le 7, 3) := by decide +kernel
theorem dX12_joined_85 : decode cX12_joined 85 = .ok (.iconst 0, 1) := by decide +kernel
theorem dX12_joined_86 : decode cX12_joined 86 = .ok (.goto 29, 3) := by decide +kernel
theorem dX12_joined_89 : decode cX12_joined 89 = .ok (.iload_n 3, 1) := by decide +kernel
theorem dX12_joined_90 : decode cX12_joined 90 = .ok (.ifCond .eq 15, 3) := by decide +kernel
theorem dX12_joined_93 : decode cX12_joined 93 = .ok (.aload_n 0, 1) := by decide +kernel
theorem dX12_joined_94 : decode cX12_joined 94 = .ok (.getfield 72, 3) := by decide +kernel
theorem dX12_joined_97 : decode cX12_joined 97 = .ok (.iload_n 2, 1) := by decide +kernel
theorem dX12_joined_98 : decode cX12_joined 98 = .ok (.iload 12, 2) := by decide +kernel
theorem dX12_joined_100 : decode cX12_joined 100 = .ok (.iadd, 1) := by decide +kernel
theorem dX12_joined_101 : decode cX12_joined 101 = .ok (.iaload, 1) := by decide +kernel
theorem dX12_joined_102 : decode cX12_joined 102 = .ok (.goto 13, 3) := by decide +kernel
theorem dX12_joined_105 : decode cX12_joined 105 = .ok (.aload_n 0, 1) := by decide +kernel
theorem dX12_joined_106 : decode cX12_joined 106 = .ok (.getfield 72, 3) := by decide +kernel
theorem dX12_joined_109 : decode cX12_joined 109 = .ok (.iload_n 2, 1) := by decide +kernel
theorem dX12_joined_110 : decode cX12_joined 110 = .ok (.iload 12, 2) := by decide +kernel
theorem dX12_joined_112 : decode cX12_joined 112 = .ok (.iadd, 1) := by decide +kernel
theorem dX12_joined_113 : decode cX12_joined 113 = .ok (.iaload, 1) := by decide +kernel
theorem dX12_joined_114 : decode cX12_joined 114 = .ok (.ineg, 1) := by decide +kernel
theorem dX12_joined_115 : decode cX12_joined 115 = .ok (.i2l, 1) := by decide +kernel
theorem dX12_joined_116 : decode cX12_joined 116 = .ok (.ladd, 1) := by decide +kernel
theorem dX12_joined_117 : decode cX12_joined 117 = .ok (.lstore 13, 2) := by decide +kernel
theorem dX12_joined_119 : decode cX12_joined 119 = .ok (.lload 13, 2) := by decide +kernel
theorem dX12_joined_121 : decode cX12_joined 121 = .ok (.lconst 0, 1) := by decide +kernel
theorem dX12_joined_122 : decode cX12_joined 122 = .ok (.lcmp, 1) := by decide +kernel
theorem dX12_joined_123 : decode cX12_joined 123 = .ok (.ifCond .ge 9, 3) := by decide +kernel
theorem dX12_joined_126 : decode cX12_joined 126 = .ok (.ldc2_w 212, 3) := by decide +kernel
theorem dX12_joined_129 : decode cX12_joined 129 = .ok (.goto 17, 3) := by decide +kernel
theorem dX12_joined_132 : decode cX12_joined 132 = .ok (.lload 13, 2) := by decide +kernel
theorem dX12_joined_134 : decode cX12_joined 134 = .ok (.ldc2_w 291, 3) := by decide +kernel
theorem dX12_joined_137 : decode cX12_joined 137 = .ok (.lcmp, 1) := by decide +kernel
theorem dX12_joined_138 : decode cX12_joined 138 = .ok (.ifCond .lt 7, 3) := by decide +kernel
theorem dX12_joined_141 : decode cX12_joined 141 = .ok (.lconst 1, 1) := by decide +kernel
theorem dX12_joined_142 : decode cX12_joined 142 = .ok (.goto 4, 3) := by decide +kernel
theorem dX12_joined_145 : decode cX12_joined 145 = .ok (.lconst 0, 1) := by decide +kernel
theorem dX12_joined_146 : decode cX12_joined 146 = .ok (.lstore 9, 2) := by decide +kernel
theorem dX12_joined_148 : decode cX12_joined 148 = .ok (.aload_n 0, 1) := by decide +kernel
theorem dX12_joined_149 : decode cX12_joined 149 = .ok (.getfield 72, 3) := by decide +kernel
theorem dX12_joined_152 : decode cX12_joined 152 = .ok (.iload 5, 2) := by decide +kernel
theorem dX12_joined_154 : decode cX12_joined 154 = .ok (.iload 12, 2) := by decide +kernel
theorem dX12_joined_156 : decode cX12_joined 156 = .ok (.iadd, 1) := by decide +kernel
theorem dX12_joined_157 : decode cX12_joined 157 = .ok (.lload 13, 2) := by decide +kernel
theorem dX12_joined_159 : decode cX12_joined 159 = .ok (.lload 9, 2) := by decide +kernel
theorem dX12_joined_161 : decode cX12_joined 161 = .ok (.ldc2_w 291, 3) := by decide +kernel
theorem dX12_joined_164 : decode cX12_joined 164 = .ok (.lmul, 1) := by decide +kernel
theorem dX12_joined_165 : decode cX12_joined 165 = .ok (.lsub, 1) := by decide +kernel
theorem dX12_joined_166 : decode cX12_joined 166 = .ok (.l2i, 1) := by decide +kernel
theorem dX12_joined_167 : decode cX12_joined 167 = .ok (.iastore, 1) := by decide +kernel
theorem dX12_joined_168 : decode cX12_joined 168 = .ok (.aload_n 0, 1) := by decide +kernel
theorem dX12_joined_169 : decode cX12_joined 169 = .ok (.getfield 72, 3) := by decide +kernel
theorem dX12_joined_172 : decode cX12_joined 172 = .ok (.iload 5, 2) := by decide +kernel
theorem dX12_joined_174 : decode cX12_joined 174 = .ok (.iload 12, 2) := by decide +kernel
theorem dX12_joined_176 : decode cX12_joined 176 = .ok (.iadd, 1) := by decide +kernel
theorem dX12_joined_177 : decode cX12_joined 177 = .ok (.iaload, 1) := by decide +kernel
theorem dX12_joined_178 : decode cX12_joined 178 = .ok (.ifCond .eq 8, 3) := by decide +kernel
theorem dX12_joined_181 : decode cX12_joined 181 = .ok (.iload 12, 2) := by decide +kernel
theorem dX12_joined_183 : decode cX12_joined 183 = .ok (.goto 5, 3) := by decide +kernel
theorem dX12_joined_186 : decode cX12_joined 186 = .ok (.iload 11, 2) := by decide +kernel
theorem dX12_joined_188 : decode cX12_joined 188 = .ok (.istore 11, 2) := by decide +kernel
theorem dX12_joined_190 : decode cX12_joined 190 = .ok (.iinc 12 1, 3) := by decide +kernel
theorem dX12_joined_193 : decode cX12_joined 193 = .ok (.goto (-148), 3) := by decide +kernel
theorem dX12_joined_196 : decode cX12_joined 196 = .ok (.aload_n 0, 1) := by decide +kernel
theorem dX12_joined_197 : decode cX12_joined 197 = .ok (.getfield 72, 3) := by decide +kernel
theorem dX12_joined_200 : decode cX12_joined 200 = .ok (.iload 5, 2) := by decide +kernel
theorem dX12_joined_202 : decode cX12_joined 202 = .ok (.iload 4, 2) := by decide +kernel
theorem dX12_joined_204 : decode cX12_joined 204 = .ok (.ifCond .eq 9, 3) := by decide +kernel
theorem dX12_joined_207 : decode cX12_joined 207 = .ok (.iload 11, 2) := by decide +kernel
theorem dX12_joined_209 : decode cX12_joined 209 = .ok (.ineg, 1) := by decide +kernel
theorem dX12_joined_210 : decode cX12_joined 210 = .ok (.goto 5, 3) := by decide +kernel
theorem dX12_joined_213 : decode cX12_joined 213 = .ok (.iload 11, 2) := by decide +kernel
theorem dX12_joined_215 : decode cX12_joined 215 = .ok (.iastore, 1) := by decide +kernel
theorem dX12_joined_216 : decode cX12_joined 216 = .ok (.aload_n 0, 1) := by decide +kernel
theorem dX12_joined_217 : decode cX12_joined 217 = .ok (.iload 5, 2) := by decide +kernel
theorem dX12_joined_219 : decode cX12_joined 219 = .ok (.iload 11, 2) := by decide +kernel
theorem dX12_joined_221 : decode cX12_joined 221 = .ok (.iadd, 1) := by decide +kernel
theorem dX12_joined_222 : decode cX12_joined 222 = .ok (.iconst 1, 1) := by decide +kernel
theorem dX12_joined_223 : decode cX12_joined 223 = .ok (.iadd, 1) := by decide +kernel
theorem dX12_joined_224 : decode cX12_joined 224 = .ok (.putfield 76, 3) := by decide +kernel
theorem dX12_joined_227 : decode cX12_joined 227 = .ok (.iload 5, 2) := by decide +kernel
theorem dX12_joined_229 : decode cX12_joined 229 = .ok (.ireturn, 1) := by decide +kernel
theorem dX12_plus_0 : decode cX12_plus 0 = .ok (.aload_n 0, 1) := by decide +kernel
theorem dX12_plus_1 : decode cX12_plus 1 = .ok (.iload_n 1, 1) := by decide +kernel
theorem dX12_plus_2 : decode cX12_plus 2 = .ok (.invokevirtual 191, 3) := by decide +kernel
theorem dX12_plus_5 : decode cX12_plus 5 = .ok (.istore_n 3, 1) := by decide +kernel
theorem dX12_plus_6 : decode cX12_plus 6 = .ok (.aload_n 0, 1) := by decide +kernel
theorem dX12_plus_7 : decode cX12_plus 7 = .ok (.iload_n 2, 1) := by decide +kernel
theorem dX12_plus_8 : decode cX12_plus 8 = .ok (.invokevirtual 191, 3) := by decide +kernel
theorem dX12_plus_11 : decode cX12_plus 11 = .ok (.istore 4, 2) := by decide +kernel
theorem dX12_plus_13 : decode cX12_plus 13 = .ok (.iload_n 3, 1) := by decide +kernel
theorem dX12_plus_14 : decode cX12_plus 14 = .ok (.ifCond .eq 8, 3) := by decide +kernel
theorem dX12_plus_17 : decode cX12_plus 17 = .ok (.iload 4, 2) := by decide +kernel
theorem dX12_plus_19 : decode cX12_plus 19 = .ok (.ifCond .ne 17, 3) := by decide +kernel
theorem dX12_plus_22 : decode cX12_plus 22 = .ok (.aload_n 0, 1) := by decide +kernel
theorem dX12_plus_23 : decode cX12_plus 23 = .ok (.iload_n 3, 1) := by decide +kernel
theorem dX12_plus_24 : decode cX12_plus 24 = .ok (.ifCond .ne 7, 3) := by decide +kernel
theorem dX12_plus_27 : decode cX12_plus 27 = .ok (.iload_n 2, 1) := by decide +kernel
theorem dX12_plus_28 : decode cX12_plus 28 = .ok (.goto 4, 3) := by decide +kernel
theorem dX12_plus_31 : decode cX12_plus 31 = .ok (.iload_n 1, 1) := by decide +kernel
theorem dX12_plus_32 : decode cX12_plus 32 = .ok (.invokevirtual 194, 3) := by decide +kernel
theorem dX12_plus_35 : decode cX12_plus 35 = .ok (.ireturn, 1) := by decide +kernel
theorem dX12_plus_36 : decode cX12_plus 36 = .ok (.iload_n 3, 1) := by decide +kernel
theorem dX12_plus_37 : decode cX12_plus 37 = .ok (.iload 4, 2) := by decide +kernel
theorem dX12_plus_39 : decode cX12_plus 39 = .ok (.if_icmp .ne 20, 3) := by decide +kernel
theorem dX12_plus_42 : decode cX12_plus 42 = .ok (.aload_n 0, 1) := by decide +kernel
theorem dX12_plus_43 : decode cX12_plus 43 = .ok (.iload_n 1, 1) := by decide +kernel
theorem dX12_plus_44 : decode cX12_plus 44 = .ok (.iload_n 2, 1) := by decide +kernel
theorem dX12_plus_45 : decode cX12_plus 45 = .ok (.iconst 1, 1) := by decide +kernel
theorem dX12_plus_46 : decode cX12_plus 46 = .ok (.iload_n 3, 1) := by decide +kernel
theorem dX12_plus_47 : decode cX12_plus 47 = .ok (.ifCond .ge 7, 3) := by decide +kernel
theorem dX12_plus_50 : decode cX12_plus 50 = .ok (.iconst 1, 1) := by decide +kernel
theorem dX12_plus_51 : decode cX12_plus 51 = .ok (.goto 4, 3) := by decide +kernel
theorem dX12_plus_54 : decode cX12_plus 54 = .ok (.iconst 0, 1) := by decide +kernel
theorem dX12_plus_55 : decode cX12_plus 55 = .ok (.invokevirtual 320, 3) := by decide +kernel
theorem dX12_plus_58 : decode cX12_plus 58 = .ok (.ireturn, 1) := by decide +kernel
theorem dX12_plus_59 : decode cX12_plus 59 = .ok (.aload_n 0, 1) := by decide +kernel
theorem dX12_plus_60 : decode cX12_plus 60 = .ok (.iload_n 1, 1) := by decide +kernel
theorem dX12_plus_61 : decode cX12_plus 61 = .ok (.iload_n 2, 1) := by decide +kernel
theorem dX12_plus_62 : decode cX12_plus 62 = .ok (.invokevirtual 317, 3) := by decide +kernel
theorem dX12_plus_65 : decode cX12_plus 65 = .ok (.ifCond .lt 22, 3) := by decide +kernel
theorem dX12_plus_68 : decode cX12_plus 68 = .ok (.aload_n 0, 1) := by decide +kernel
theorem dX12_plus_69 : decode cX12_plus 69 = .ok (.iload_n 1, 1) := by decide +kernel
theorem dX12_plus_70 : decode cX12_plus 70 = .ok (.iload_n 2, 1) := by decide +kernel
theorem dX12_plus_71 : decode cX12_plus 71 = .ok (.iconst 0, 1) := by decide +kernel
theorem dX12_plus_72 : decode cX12_plus 72 = .ok (.iload_n 3, 1) := by decide +kernel
theorem dX12_plus_73 : decode cX12_plus 73 = .ok (.ifCond .ge 7, 3) := by decide +kernel
theorem dX12_plus_76 : decode cX12_plus 76 = .ok (.iconst 1, 1) := by decide +kernel
theorem dX12_plus_77 : decode cX12_plus 77 = .ok (.goto 4, 3) := by decide +kernel
theorem dX12_plus_80 : decode cX12_plus 80 = .ok (.iconst 0, 1) := by decide +kernel
theorem dX12_plus_81 : decode cX12_plus 81 = .ok (.invokevirtual 320, 3) := by decide +kernel
theorem dX12_plus_84 : decode cX12_plus 84 = .ok (.goto 20, 3) := by decide +kernel
theorem dX12_plus_87 : decode cX12_plus 87 = .ok (.aload_n 0, 1) := by decide +kernel
theorem dX12_plus_88 : decode cX12_plus 88 = .ok (.iload_n 2, 1) := by decide +kernel
theorem dX12_plus_89 : decode cX12_plus 89 = .ok (.iload_n 1, 1) := by decide +kernel
theorem dX12_plus_90 : decode cX12_plus 90 = .ok (.iconst 0, 1) := by decide +kernel
theorem dX12_plus_91 : decode cX12_plus 91 = .ok (.iload 4, 2) := by decide +kernel
theorem dX12_plus_93 : decode cX12_plus 93 = .ok (.ifCond .ge 7, 3) := by decide +kernel
theorem dX12_plus_96 : decode cX12_plus 96 = .ok (.iconst 1, 1) := by decide +kernel
theorem dX12_plus_97 : decode cX12_plus 97 = .ok (.goto 4, 3) := by decide +kernel
theorem dX12_plus_100 : decode cX12_plus 100 = .ok (.iconst 0, 1) := by decide +kernel
theorem dX12_plus_101 : decode cX12_plus 101 = .ok (.invokevirtual 320, 3) := by decide +kernel
theorem dX12_plus_104 : decode cX12_plus 104 = .ok (.ireturn, 1) := by decide +kernel
theorem dX12_minus_0 : decode cX12_minus 0 = .ok (.aload_n 0, 1) := by decide +kernel
theorem dX12_minus_1 : decode cX12_minus 1 = .ok (.getfield 76, 3) := by decide +kernel
theorem dX12_minus_4 : decode cX12_minus 4 = .ok (.istore_n 3, 1) := by decide +kernel
theorem dX12_minus_5 : decode cX12_minus 5 = .ok (.aload_n 0, 1) := by decide +kernel
theorem dX12_minus_6 : decode cX12_minus 6 = .ok (.iload_n 3, 1) := by decide +kernel
theorem dX12_minus_7 : decode cX12_minus 7 = .ok (.aload_n 0, 1) := by decide +kernel
theorem dX12_minus_8 : decode cX12_minus 8 = .ok (.iload_n 1, 1) := by decide +kernel
theorem dX12_minus_9 : decode cX12_minus 9 = .ok (.aload_n 0, 1) := by decide +kernel
theorem dX12_minus_10 : decode cX12_minus 10 = .ok (.iload_n 2, 1) := by decide +kernel
theorem dX12_minus_11 : decode cX12_minus 11 = .ok (.invokevirtual 203, 3) := by decide +kernel
theorem dX12_minus_14 : decode cX12_minus 14 = .ok (.invokevirtual 151, 3) := by decide +kernel
theorem dX12_minus_17 : decode cX12_minus 17 = .ok (.invokevirtual 154, 3) := by decide +kernel
theorem dX12_minus_20 : decode cX12_minus 20 = .ok (.ireturn, 1) := by decide +kernel
theorem dX12_by_0 : decode cX12_by 0 = .ok (.aload_n 0, 1) := by decide +kernel
theorem dX12_by_1 : decode cX12_by 1 = .ok (.getfield 76, 3) := by decide +kernel
theorem dX12_by_4 : decode cX12_by 4 = .ok (.istore_n 3, 1) := by decide +kernel
theorem dX12_by_5 : decode cX12_by 5 = .ok (.aload_n 0, 1) := by decide +kernel
theorem dX12_by_6 : decode cX12_by 6 = .ok (.iload_n 1, 1) := by decide +kernel
theorem dX12_by_7 : decode cX12_by 7 = .ok (.invokevirtual 267, 3) := by decide +kernel
theorem dX12_by_10 : decode cX12_by 10 = .ok (.istore 4, 2) := by decide +kernel
theorem dX12_by_12 : decode cX12_by 12 = .ok (.aload_n 0, 1) := by decide +kernel
theorem dX12_by_13 : decode cX12_by 13 = .ok (.iload_n 2, 1) := by decide +kernel
theorem dX12_by_14 : decode cX12_by 14 = .ok (.invokevirtual 267, 3) := by decide +kernel
theorem dX12_by_17 : decode cX12_by 17 = .ok (.istore 5, 2) := by decide +kernel
theorem dX12_by_19 : decode cX12_by 19 = .ok (.iconst 0, 1) := by decide +kernel
theorem dX12_by_20 : decode cX12_by 20 = .ok (.istore 6, 2) := by decide +kernel
theorem dX12_by_22 : decode cX12_by 22 = .ok (.iload 6, 2) := by decide +kernel
theorem dX12_by_24 : decode cX12_by 24 = .ok (.iload 4, 2) := by decide +kernel
theorem dX12_by_26 : decode cX12_by 26 = .ok (.iload 5, 2) := by decide +kernel
theorem dX12_by_28 : decode cX12_by 28 = .ok (.iadd, 1) := by decide +kernel
theorem dX12_by_29 : decode cX12_by 29 = .ok (.if_icmp .gt 19, 3) := by decide +kernel
theorem dX12_by_32 : decode cX12_by 32 = .ok (.aload_n 0, 1) := by decide +kernel
theorem dX12_by_33 : decode cX12_by 33 = .ok (.getfield 72, 3) := by decide +kernel
theorem dX12_by_36 : decode cX12_by 36 = .ok (.iload_n 3, 1) := by decide +kernel
theorem dX12_by_37 : decode cX12_by 37 = .ok (.iload 6, 2) := by decide +kernel
theorem dX12_by_39 : decode cX12_by 39 = .ok (.iadd, 1) := by decide +kernel
theorem dX12_by_40 : decode cX12_by 40 = .ok (.iconst 0, 1) := by decide +kernel
theorem dX12_by_41 : decode cX12_by 41 = .ok (.iastore, 1) := by decide +kernel
theorem dX12_by_42 : decode cX12_by 42 = .ok (.iinc 6 1, 3) := by decide +kernel
theorem dX12_by_45 : decode cX12_by 45 = .ok (.goto (-23), 3) := by decide +kernel
theorem dX12_by_48 : decode cX12_by 48 = .ok (.iconst 1, 1) := by decide +kernel
theorem dX12_by_49 : decode cX12_by 49 = .ok (.istore 6, 2) := by decide +kernel
theorem dX12_by_51 : decode cX12_by 51 = .ok (.iload 6, 2) := by decide +kernel
theorem dX12_by_53 : decode cX12_by 53 = .ok (.iload 4, 2) := by decide +kernel
theorem dX12_by_55 : decode cX12_by 55 = .ok (.if_icmp .gt 114, 3) := by decide +kernel
theorem dX12_by_58 : decode cX12_by 58 = .ok (.lconst 0, 1) := by decide +kernel
theorem dX12_by_59 : decode cX12_by 59 = .ok (.lstore 7, 2) := by decide +kernel
theorem dX12_by_61 : decode cX12_by 61 = .ok (.iconst 1, 1) := by decide +kernel
theorem dX12_by_62 : decode cX12_by 62 = .ok (.istore 9, 2) := by decide +kernel
theorem dX12_by_64 : decode cX12_by 64 = .ok (.iload 9, 2) := by decide +kernel
theorem dX12_by_66 : decode cX12_by 66 = .ok (.iload 5, 2) := by decide +kernel
theorem dX12_by_68 : decode cX12_by 68 = .ok (.if_icmp .gt 80, 3) := by decide +kernel
theorem dX12_by_71 : decode cX12_by 71 = .ok (.aload_n 0, 1) := by decide +kernel
theorem dX12_by_72 : decode cX12_by 72 = .ok (.getfield 72, 3) := by decide +kernel
theorem dX12_by_75 : decode cX12_by 75 = .ok (.iload_n 1, 1) := by decide +kernel
theorem dX12_by_76 : decode cX12_by 76 = .ok (.iload 6, 2) := by decide +kernel
theorem dX12_by_78 : decode cX12_by 78 = .ok (.iadd, 1) := by decide +kernel
theorem dX12_by_79 : decode cX12_by 79 = .ok (.iaload, 1) := by decide +kernel
theorem dX12_by_80 : decode cX12_by 80 = .ok (.i2l, 1) := by decide +kernel
theorem dX12_by_81 : decode cX12_by 81 = .ok (.aload_n 0, 1) := by decide +kernel
theorem dX12_by_82 : decode cX12_by 82 = .ok (.getfield 72, 3) := by decide +kernel
theorem dX12_by_85 : decode cX12_by 85 = .ok (.iload_n 2, 1) := by decide +kernel
theorem dX12_by_86 : decode cX12_by 86 = .ok (.iload 9, 2) := by decide +kernel
theorem dX12_by_88 : decode cX12_by 88 = .ok (.iadd, 1) := by decide +kernel
theorem dX12_by_89 : decode cX12_by 89 = .ok (.iaload, 1) := by decide +kernel
theorem dX12_by_90 : decode cX12_by 90 = .ok (.i2l, 1) := by decide +kernel
theorem dX12_by_91 : decode cX12_by 91 = .ok (.lmul, 1) := by decide +kernel
theorem dX12_by_92 : decode cX12_by 92 = .ok (.aload_n 0, 1) := by decide +kernel
theorem dX12_by_93 : decode cX12_by 93 = .ok (.getfield 72, 3) := by decide +kernel
theorem dX12_by_96 : decode cX12_by 96 = .ok (.iload_n 3, 1) := by decide +kernel
theorem dX12_by_97 : decode cX12_by 97 = .ok (.iload 6, 2) := by decide +kernel
theorem dX12_by_99 : decode cX12_by 99 = .ok (.iadd, 1) := by decide +kernel
theorem dX12_by_100 : decode cX12_by 100 = .ok (.iload 9, 2) := by decide +kernel
theorem dX12_by_102 : decode cX12_by 102 = .ok (.iadd, 1) := by decide +kernel
theorem dX12_by_103 : decode cX12_by 103 = .ok (.iconst 1, 1) := by decide +kernel
theorem dX12_by_104 : decode cX12_by 104 = .ok (.isub, 1) := by decide +kernel
theorem dX12_by_105 : decode cX12_by 105 = .ok (.iaload, 1) := by decide +kernel
theorem dX12_by_106 : decode cX12_by 106 = .ok (.i2l, 1) := by decide +kernel
theorem dX12_by_107 : decode cX12_by 107 = .ok (.ladd, 1) := by decide +kernel
theorem dX12_by_108 : decode cX12_by 108 = .ok (.lload 7, 2) := by decide +kernel
theorem dX12_by_110 : decode cX12_by 110 = .ok (.ladd, 1) := by decide +kernel
theorem dX12_by_111 : decode cX12_by 111 = .ok (.lstore 10, 2) := by decide +kernel
theorem dX12_by_113 : decode cX12_by 113 = .ok (.lload 10, 2) := by decide +kernel
theorem dX12_by_115 : decode cX12_by 115 = .ok (.ldc2_w 291, 3) := by decide +kernel
theorem dX12_by_118 : decode cX12_by 118 = .ok (.ldiv, 1) := by decide +kernel
theorem dX12_by_119 : decode cX12_by 119 = .ok (.lstore 7, 2) := by decide +kernel
theorem dX12_by_121 : decode cX12_by 121 = .ok (.aload_n 0, 1) := by decide +kernel
theorem dX12_by_122 : decode cX12_by 122 = .ok (.getfield 72, 3) := by decide +kernel
theorem dX12_by_125 : decode cX12_by 125 = .ok (.iload_n 3, 1) := by decide +kernel
theorem dX12_by_126 : decode cX12_by 126 = .ok (.iload 6, 2) := by decide +kernel
theorem dX12_by_128 : decode cX12_by 128 = .ok (.iadd, 1) := by decide +kernel
theorem dX12_by_129 : decode cX12_by 129 = .ok (.iload 9, 2) := by decide +kernel
theorem dX12_by_131 : decode cX12_by 131 = .ok (.iadd, 1) := by decide +kernel
theorem dX12_by_132 : decode cX12_by 132 = .ok (.iconst 1, 1) := by decide +kernel
theorem dX12_by_133 : decode cX12_by 133 = .ok (.isub, 1) := by decide +kernel
theorem dX12_by_134 : decode cX12_by 134 = .ok (.lload 10, 2) := by decide +kernel
theorem dX12_by_136 : decode cX12_by 136 = .ok (.ldc2_w 291, 3) := by decide +kernel
theorem dX12_by_139 : decode cX12_by 139 = .ok (.lrem, 1) := by decide +kernel
theorem dX12_by_140 : decode cX12_by 140 = .ok (.l2i, 1) := by decide +kernel
theorem dX12_by_141 : decode cX12_by 141 = .ok (.iastore, 1) := by decide +kernel
theorem dX12_by_142 : decode cX12_by 142 = .ok (.iinc 9 1, 3) := by decide +kernel
theorem dX12_by_145 : decode cX12_by 145 = .ok (.goto (-81), 3) := by decide +kernel
theorem dX12_by_148 : decode cX12_by 148 = .ok (.aload_n 0, 1) := by decide +kernel
theorem dX12_by_149 : decode cX12_by 149 = .ok (.getfield 72, 3) := by decide +kernel
theorem dX12_by_152 : decode cX12_by 152 = .ok (.iload_n 3, 1) := by decide +kernel
theorem dX12_by_153 : decode cX12_by 153 = .ok (.iload 6, 2) := by decide +kernel
theorem dX12_by_155 : decode cX12_by 155 = .ok (.iadd, 1) := by decide +kernel
theorem dX12_by_156 : decode cX12_by 156 = .ok (.iload 5, 2) := by decide +kernel
theorem dX12_by_158 : decode cX12_by 158 = .ok (.iadd, 1) := by decide +kernel
theorem dX12_by_159 : decode cX12_by 159 = .ok (.lload 7, 2) := by decide +kernel
theorem dX12_by_161 : decode cX12_by 161 = .ok (.l2i, 1) := by decide +kernel
theorem dX12_by_162 : decode cX12_by 162 = .ok (.iastore, 1) := by decide +kernel
theorem dX12_by_163 : decode cX12_by 163 = .ok (.iinc 6 1, 3) := by decide +kernel
theorem dX12_by_166 : decode cX12_by 166 = .ok (.goto (-115), 3) := by decide +kernel
theorem dX12_by_169 : decode cX12_by 169 = .ok (.iload 4, 2) := by decide +kernel
theorem dX12_by_171 : decode cX12_by 171 = .ok (.iload 5, 2) := by decide +kernel
theorem dX12_by_173 : decode cX12_by 173 = .ok (.iadd, 1) := by decide +kernel
theorem dX12_by_174 : decode cX12_by 174 = .ok (.istore 6, 2) := by decide +kernel
theorem dX12_by_176 : decode cX12_by 176 = .ok (.iload 6, 2) := by decide +kernel
theorem dX12_by_178 : decode cX12_by 178 = .ok (.ifCond .le 21, 3) := by decide +kernel
theorem dX12_by_181 : decode cX12_by 181 = .ok (.aload_n 0, 1) := by decide +kernel
theorem dX12_by_182 : decode cX12_by 182 = .ok (.getfield 72, 3) := by decide +kernel
theorem dX12_by_185 : decode cX12_by 185 = .ok (.iload_n 3, 1) := by decide +kernel
theorem dX12_by_186 : decode cX12_by 186 = .ok (.iload 6, 2) := by decide +kernel
theorem dX12_by_188 : decode cX12_by 188 = .ok (.iadd, 1) := by decide +kernel
theorem dX12_by_189 : decode cX12_by 189 = .ok (.iaload, 1) := by decide +kernel
theorem dX12_by_190 : decode cX12_by 190 = .ok (.ifCond .ne 9, 3) := by decide +kernel
theorem dX12_by_193 : decode cX12_by 193 = .ok (.iinc 6 (-1), 3) := by decide +kernel
theorem dX12_by_196 : decode cX12_by 196 = .ok (.goto (-20), 3) := by decide +kernel
theorem dX12_by_199 : decode cX12_by 199 = .ok (.aload_n 0, 1) := by decide +kernel
theorem dX12_by_200 : decode cX12_by 200 = .ok (.getfield 72, 3) := by decide +kernel
theorem dX12_by_203 : decode cX12_by 203 = .ok (.iload_n 3, 1) := by decide +kernel
theorem dX12_by_204 : decode cX12_by 204 = .ok (.aload_n 0, 1) := by decide +kernel
theorem dX12_by_205 : decode cX12_by 205 = .ok (.iload_n 1, 1) := by decide +kernel
theorem dX12_by_206 : decode cX12_by 206 = .ok (.invokevirtual 191, 3) := by decide +kernel
theorem dX12_by_209 : decode cX12_by 209 = .ok (.aload_n 0, 1) := by decide +kernel
theorem dX12_by_210 : decode cX12_by 210 = .ok (.iload_n 2, 1) := by decide +kernel
theorem dX12_by_211 : decode cX12_by 211 = .ok (.invokevirtual 191, 3) := by decide +kernel
theorem dX12_by_214 : decode cX12_by 214 = .ok (.imul, 1) := by decide +kernel
theorem dX12_by_215 : decode cX12_by 215 = .ok (.ifCond .ge 9, 3) := by decide +kernel
theorem dX12_by_218 : decode cX12_by 218 = .ok (.iload 6, 2) := by decide +kernel
theorem dX12_by_220 : decode cX12_by 220 = .ok (.ineg, 1) := by decide +kernel
theorem dX12_by_221 : decode cX12_by 221 = .ok (.goto 5, 3) := by decide +kernel
theorem dX12_by_224 : decode cX12_by 224 = .ok (.iload 6, 2) := by decide +kernel
theorem dX12_by_226 : decode cX12_by 226 = .ok (.iastore, 1) := by decide +kernel
theorem dX12_by_227 : decode cX12_by 227 = .ok (.aload_n 0, 1) := by decide +kernel
theorem dX12_by_228 : decode cX12_by 228 = .ok (.iload_n 3, 1) := by decide +kernel
theorem dX12_by_229 : decode cX12_by 229 = .ok (.iload 6, 2) := by decide +kernel
theorem dX12_by_231 : decode cX12_by 231 = .ok (.iadd, 1) := by decide +kernel
theorem dX12_by_232 : decode cX12_by 232 = .ok (.iconst 1, 1) := by decide +kernel
theorem dX12_by_233 : decode cX12_by 233 = .ok (.iadd, 1) := by decide +kernel
theorem dX12_by_234 : decode cX12_by 234 = .ok (.putfield 76, 3) := by decide +kernel
theorem dX12_by_237 : decode cX12_by 237 = .ok (.iload_n 3, 1) := by decide +kernel
theorem dX12_by_238 : decode cX12_by 238 = .ok (.ireturn, 1) := by decide +kernel
theorem dX12_divide_0 : decode cX12_divide 0 = .ok (.aload_n 0, 1) := by decide +kernel
theorem dX12_divide_1 : decode cX12_divide 1 = .ok (.getfield 76, 3) := by decide +kernel
theorem dX12_divide_4 : decode cX12_divide 4 = .ok (.istore_n 3, 1) := by decide +kernel
theorem dX12_divide_5 : decode cX12_divide 5 = .ok (.aload_n 0, 1) := by decide +kernel
theorem dX12_divide_6 : decode cX12_divide 6 = .ok (.iload_n 1, 1) := by decide +kernel
theorem dX12_divide_7 : decode cX12_divide 7 = .ok (.invokevirtual 267, 3) := by decide +kernel
theorem dX12_divide_10 : decode cX12_divide 10 = .ok (.istore 4, 2) := by decide +kernel
theorem dX12_divide_12 : decode cX12_divide 12 = .ok (.aload_n 0, 1) := by decide +kernel
theorem dX12_divide_13 : decode cX12_divide 13 = .ok (.iload_n 2, 1) := by decide +kernel
theorem dX12_divide_14 : decode cX12_divide 14 = .ok (.invokevirtual 267, 3) := by decide +kernel
theorem dX12_divide_17 : decode cX12_divide 17 = .ok (.istore 5, 2) := by decide +kernel
theorem dX12_divide_19 : decode cX12_divide 19 = .ok (.aload_n 0, 1) := by decide +kernel
theorem dX12_divide_20 : decode cX12_divide 20 = .ok (.getfield 76, 3) := by decide +kernel
theorem dX12_divide_23 : decode cX12_divide 23 = .ok (.istore 6, 2) := by decide +kernel
theorem dX12_divide_25 : decode cX12_divide 25 = .ok (.iload 4, 2) := by decide +kernel
theorem dX12_divide_27 : decode cX12_divide 27 = .ok (.iload 5, 2) := by decide +kernel
theorem dX12_divide_29 : decode cX12_divide 29 = .ok (.isub, 1) := by decide +kernel
theorem dX12_divide_30 : decode cX12_divide 30 = .ok (.iconst 1, 1) := by decide +kernel
theorem dX12_divide_31 : decode cX12_divide 31 = .ok (.iadd, 1) := by decide +kernel
theorem dX12_divide_32 : decode cX12_divide 32 = .ok (.ifCond .le 13, 3) := by decide +kernel
theorem dX12_divide_35 : decode cX12_divide 35 = .ok (.iload 4, 2) := by decide +kernel
theorem dX12_divide_37 : decode cX12_divide 37 = .ok (.iload 5, 2) := by decide +kernel
theorem dX12_divide_39 : decode cX12_divide 39 = .ok (.isub, 1) := by decide +kernel
theorem dX12_divide_40 : decode cX12_divide 40 = .ok (.iconst 1, 1) := by decide +kernel
theorem dX12_divide_41 : decode cX12_divide 41 = .ok (.iadd, 1) := by decide +kernel
theorem dX12_divide_42 : decode cX12_divide 42 = .ok (.goto 4, 3) := by decide +kernel
theorem dX12_divide_45 : decode cX12_divide 45 = .ok (.iconst 0, 1) := by decide +kernel
theorem dX12_divide_46 : decode cX12_divide 46 = .ok (.istore 7, 2) := by decide +kernel
theorem dX12_divide_48 : decode cX12_divide 48 = .ok (.iconst 0, 1) := by decide +kernel
theorem dX12_divide_49 : decode cX12_divide 49 = .ok (.istore 8, 2) := by decide +kernel
theorem dX12_divide_51 : decode cX12_divide 51 = .ok (.iload 8, 2) := by decide +kernel
theorem dX12_divide_53 : decode cX12_divide 53 = .ok (.iload 7, 2) := by decide +kernel
theorem dX12_divide_55 : decode cX12_divide 55 = .ok (.if_icmp .gt 20, 3) := by decide +kernel
theorem dX12_divide_58 : decode cX12_divide 58 = .ok (.aload_n 0, 1) := by decide +kernel
theorem dX12_divide_59 : decode cX12_divide 59 = .ok (.getfield 72, 3) := by decide +kernel
theorem dX12_divide_62 : decode cX12_divide 62 = .ok (.iload 6, 2) := by decide +kernel
theorem dX12_divide_64 : decode cX12_divide 64 = .ok (.iload 8, 2) := by decide +kernel
theorem dX12_divide_66 : decode cX12_divide 66 = .ok (.iadd, 1) := by decide +kernel
theorem dX12_divide_67 : decode cX12_divide 67 = .ok (.iconst 0, 1) := by decide +kernel
theorem dX12_divide_68 : decode cX12_divide 68 = .ok (.iastore, 1) := by decide +kernel
theorem dX12_divide_69 : decode cX12_divide 69 = .ok (.iinc 8 1, 3) := by decide +kernel
theorem dX12_divide_72 : decode cX12_divide 72 = .ok (.goto (-21), 3) := by decide +kernel
theorem dX12_divide_75 : decode cX12_divide 75 = .ok (.aload_n 0, 1) := by decide +kernel
theorem dX12_divide_76 : decode cX12_divide 76 = .ok (.iload 6, 2) := by decide +kernel
theorem dX12_divide_78 : decode cX12_divide 78 = .ok (.iload 7, 2) := by decide +kernel
theorem dX12_divide_80 : decode cX12_divide 80 = .ok (.iadd, 1) := by decide +kernel
theorem dX12_divide_81 : decode cX12_divide 81 = .ok (.iconst 1, 1) := by decide +kernel
theorem dX12_divide_82 : decode cX12_divide 82 = .ok (.iadd, 1) := by decide +kernel
theorem dX12_divide_83 : decode cX12_divide 83 = .ok (.putfield 76, 3) := by decide +kernel
theorem dX12_divide_86 : decode cX12_divide 86 = .ok (.aload_n 0, 1) := by decide +kernel
theorem dX12_divide_87 : decode cX12_divide 87 = .ok (.getfield 76, 3) := by decide +kernel
theorem dX12_divide_90 : decode cX12_divide 90 = .ok (.istore 8, 2) := by decide +kernel
theorem dX12_divide_92 : decode cX12_divide 92 = .ok (.iconst 1, 1) := by decide +kernel
theorem dX12_divide_93 : decode cX12_divide 93 = .ok (.istore 9, 2) := by decide +kernel
theorem dX12_divide_95 : decode cX12_divide 95 = .ok (.iload 9, 2) := by decide +kernel
theorem dX12_divide_97 : decode cX12_divide 97 = .ok (.iload 4, 2) := by decide +kernel
theorem dX12_divide_99 : decode cX12_divide 99 = .ok (.if_icmp .gt 28, 3) := by decide +kernel
theorem dX12_divide_102 : decode cX12_divide 102 = .ok (.aload_n 0, 1) := by decide +kernel
theorem dX12_divide_103 : decode cX12_divide 103 = .ok (.getfield 72, 3) := by decide +kernel
theorem dX12_divide_106 : decode cX12_divide 106 = .ok (.iload 8, 2) := by decide +kernel
theorem dX12_divide_108 : decode cX12_divide 108 = .ok (.iload 9, 2) := by decide +kernel
theorem dX12_divide_110 : decode cX12_divide 110 = .ok (.iadd, 1) := by decide +kernel
theorem dX12_divide_111 : decode cX12_divide 111 = .ok (.aload_n 0, 1) := by decide +kernel
theorem dX12_divide_112 : decode cX12_divide 112 = .ok (.getfield 72, 3) := by decide +kernel
theorem dX12_divide_115 : decode cX12_divide 115 = .ok (.iload_n 1, 1) := by decide +kernel
theorem dX12_divide_116 : decode cX12_divide 116 = .ok (.iload 9, 2) := by decide +kernel
theorem dX12_divide_118 : decode cX12_divide 118 = .ok (.iadd, 1) := by decide +kernel
theorem dX12_divide_119 : decode cX12_divide 119 = .ok (.iaload, 1) := by decide +kernel
theorem dX12_divide_120 : decode cX12_divide 120 = .ok (.iastore, 1) := by decide +kernel
theorem dX12_divide_121 : decode cX12_divide 121 = .ok (.iinc 9 1, 3) := by decide +kernel
theorem dX12_divide_124 : decode cX12_divide 124 = .ok (.goto (-29), 3) := by decide +kernel
theorem dX12_divide_127 : decode cX12_divide 127 = .ok (.aload_n 0, 1) := by decide +kernel
theorem dX12_divide_128 : decode cX12_divide 128 = .ok (.getfield 72, 3) := by decide +kernel
theorem dX12_divide_131 : decode cX12_divide 131 = .ok (.iload 8, 2) := by decide +kernel
theorem dX12_divide_133 : decode cX12_divide 133 = .ok (.iload 4, 2) := by decide +kernel
theorem dX12_divide_135 : decode cX12_divide 135 = .ok (.iadd, 1) := by decide +kernel
theorem dX12_divide_136 : decode cX12_divide 136 = .ok (.iconst 1, 1) := by decide +kernel
theorem dX12_divide_137 : decode cX12_divide 137 = .ok (.iadd, 1) := by decide +kernel
theorem dX12_divide_138 : decode cX12_divide 138 = .ok (.iconst 0, 1) := by decide +kernel
theorem dX12_divide_139 : decode cX12_divide 139 = .ok (.iastore, 1) := by decide +kernel
theorem dX12_divide_140 : decode cX12_divide 140 = .ok (.aload_n 0, 1) := by decide +kernel
theorem dX12_divide_141 : decode cX12_divide 141 = .ok (.iload 8, 2) := by decide +kernel
theorem dX12_divide_143 : decode cX12_divide 143 = .ok (.iload 4, 2) := by decide +kernel
theorem dX12_divide_145 : decode cX12_divide 145 = .ok (.iadd, 1) := by decide +kernel
theorem dX12_divide_146 : decode cX12_divide 146 = .ok (.iconst 2, 1) := by decide +kernel
theorem dX12_divide_147 : decode cX12_divide 147 = .ok (.iadd, 1) := by decide +kernel
theorem dX12_divide_148 : decode cX12_divide 148 = .ok (.putfield 76, 3) := by decide +kernel
theorem dX12_divide_151 : decode cX12_divide 151 = .ok (.iload 7, 2) := by decide +kernel
theorem dX12_divide_153 : decode cX12_divide 153 = .ok (.istore 9, 2) := by decide +kernel
theorem dX12_divide_155 : decode cX12_divide 155 = .ok (.iload 9, 2) := by decide +kernel
theorem dX12_divide_157 : decode cX12_divide 157 = .ok (.ifCond .le 30, 3) := by decide +kernel
theorem dX12_divide_160 : decode cX12_divide 160 = .ok (.aload_n 0, 1) := by decide +kernel
theorem dX12_divide_161 : decode cX12_divide 161 = .ok (.getfield 72, 3) := by decide +kernel
theorem dX12_divide_164 : decode cX12_divide 164 = .ok (.iload 6, 2) := by decide +kernel
theorem dX12_divide_166 : decode cX12_divide 166 = .ok (.iload 9, 2) := by decide +kernel
theorem dX12_divide_168 : decode cX12_divide 168 = .ok (.iadd, 1) := by decide +kernel
theorem dX12_divide_169 : decode cX12_divide 169 = .ok (.aload_n 0, 1) := by decide +kernel
theorem dX12_divide_170 : decode cX12_divide 170 = .ok (.iload 8, 2) := by decide +kernel
theorem dX12_divide_172 : decode cX12_divide 172 = .ok (.iload 9, 2) := by decide +kernel
theorem dX12_divide_174 : decode cX12_divide 174 = .ok (.iload_n 2, 1) := by decide +kernel
theorem dX12_divide_175 : decode cX12_divide 175 = .ok (.iload 5, 2) := by decide +kernel
theorem dX12_divide_177 : decode cX12_divide 177 = .ok (.invokevirtual 324, 3) := by decide +kernel
theorem dX12_divide_180 : decode cX12_divide 180 = .ok (.iastore, 1) := by decide +kernel
theorem dX12_divide_181 : decode cX12_divide 181 = .ok (.iinc 9 (-1), 3) := by decide +kernel
theorem dX12_divide_184 : decode cX12_divide 184 = .ok (.goto (-29), 3) := by decide +kernel
theorem dX12_divide_187 : decode cX12_divide 187 = .ok (.iload 7, 2) := by decide +kernel
theorem dX12_divide_189 : decode cX12_divide 189 = .ok (.istore 9, 2) := by decide +kernel
theorem dX12_divide_191 : decode cX12_divide 191 = .ok (.iload 9, 2) := by decide +kernel
theorem dX12_divide_193 : decode cX12_divide 193 = .ok (.ifCond .le 22, 3) := by decide +kernel
theorem dX12_divide_196 : decode cX12_divide 196 = .ok (.aload_n 0, 1) := by decide +kernel
theorem dX12_divide_197 : decode cX12_divide 197 = .ok (.getfield 72, 3) := by decide +kernel
theorem dX12_divide_200 : decode cX12_divide 200 = .ok (.iload 6, 2) := by decide +kernel
theorem dX12_divide_202 : decode cX12_divide 202 = .ok (.iload 9, 2) := by decide +kernel
theorem dX12_divide_204 : decode cX12_divide 204 = .ok (.iadd, 1) := by decide +kernel
theorem dX12_divide_205 : decode cX12_divide 205 = .ok (.iaload, 1) := by decide +kernel
theorem dX12_divide_206 : decode cX12_divide 206 = .ok (.ifCond .ne 9, 3) := by decide +kernel
theorem dX12_divide_209 : decode cX12_divide 209 = .ok (.iinc 9 (-1), 3) := by decide +kernel
theorem dX12_divide_212 : decode cX12_divide 212 = .ok (.goto (-21), 3) := by decide +kernel
theorem dX12_divide_215 : decode cX12_divide 215 = .ok (.aload_n 0, 1) := by decide +kernel
theorem dX12_divide_216 : decode cX12_divide 216 = .ok (.getfield 72, 3) := by decide +kernel
theorem dX12_divide_219 : decode cX12_divide 219 = .ok (.iload 6, 2) := by decide +kernel
theorem dX12_divide_221 : decode cX12_divide 221 = .ok (.iload 9, 2) := by decide +kernel
theorem dX12_divide_223 : decode cX12_divide 223 = .ok (.iastore, 1) := by decide +kernel
theorem dX12_divide_224 : decode cX12_divide 224 = .ok (.iload 4, 2) := by decide +kernel
theorem dX12_divide_226 : decode cX12_divide 226 = .ok (.istore 10, 2) := by decide +kernel
theorem dX12_divide_228 : decode cX12_divide 228 = .ok (.iload 10, 2) := by decide +kernel
theorem dX12_divide_230 : decode cX12_divide 230 = .ok (.ifCond .le 22, 3) := by decide +kernel
theorem dX12_divide_233 : decode cX12_divide 233 = .ok (.aload_n 0, 1) := by decide +kernel
theorem dX12_divide_234 : decode cX12_divide 234 = .ok (.getfield 72, 3) := by decide +kernel
theorem dX12_divide_237 : decode cX12_divide 237 = .ok (.iload 8, 2) := by decide +kernel
theorem dX12_divide_239 : decode cX12_divide 239 = .ok (.iload 10, 2) := by decide +kernel
theorem dX12_divide_241 : decode cX12_divide 241 = .ok (.iadd, 1) := by decide +kernel
theorem dX12_divide_242 : decode cX12_divide 242 = .ok (.iaload, 1) := by decide +kernel
theorem dX12_divide_243 : decode cX12_divide 243 = .ok (.ifCond .ne 9, 3) := by decide +kernel
theorem dX12_divide_246 : decode cX12_divide 246 = .ok (.iinc 10 (-1), 3) := by decide +kernel
theorem dX12_divide_249 : decode cX12_divide 249 = .ok (.goto (-21), 3) := by decide +kernel
theorem dX12_divide_252 : decode cX12_divide 252 = .ok (.aload_n 0, 1) := by decide +kernel
theorem dX12_divide_253 : decode cX12_divide 253 = .ok (.getfield 72, 3) := by decide +kernel
theorem dX12_divide_256 : decode cX12_divide 256 = .ok (.iload 8, 2) := by decide +kernel
theorem dX12_divide_258 : decode cX12_divide 258 = .ok (.iload 10, 2) := by decide +kernel
theorem dX12_divide_260 : decode cX12_divide 260 = .ok (.iastore, 1) := by decide +kernel
theorem dX12_divide_261 : decode cX12_divide 261 = .ok (.aload_n 0, 1) := by decide +kernel
theorem dX12_divide_262 : decode cX12_divide 262 = .ok (.iload 6, 2) := by decide +kernel
theorem dX12_divide_264 : decode cX12_divide 264 = .ok (.putfield 328, 3) := by decide +kernel
theorem dX12_divide_267 : decode cX12_divide 267 = .ok (.iload 8, 2) := by decide +kernel
theorem dX12_divide_269 : decode cX12_divide 269 = .ok (.ireturn, 1) := by decide +kernel
theorem dX12_digit_0 : decode cX12_digit 0 = .ok (.aload_n 0, 1) := by decide +kernel
theorem dX12_digit_1 : decode cX12_digit 1 = .ok (.getfield 72, 3) := by decide +kernel
theorem dX12_digit_4 : decode cX12_digit 4 = .ok (.iload_n 1, 1) := by decide +kernel
theorem dX12_digit_5 : decode cX12_digit 5 = .ok (.iload_n 2, 1) := by decide +kernel
theorem dX12_digit_6 : decode cX12_digit 6 = .ok (.iadd, 1) := by decide +kernel
theorem dX12_digit_7 : decode cX12_digit 7 = .ok (.iload 4, 2) := by decide +kernel
theorem dX12_digit_9 : decode cX12_digit 9 = .ok (.iadd, 1) := by decide +kernel
theorem dX12_digit_10 : decode cX12_digit 10 = .ok (.iaload, 1) := by decide +kernel
theorem dX12_digit_11 : decode cX12_digit 11 = .ok (.i2l, 1) := by decide +kernel
theorem dX12_digit_12 : decode cX12_digit 12 = .ok (.ldc2_w 291, 3) := by decide +kernel
theorem dX12_digit_15 : decode cX12_digit 15 = .ok (.lmul, 1) := by decide +kernel
theorem dX12_digit_16 : decode cX12_digit 16 = .ok (.aload_n 0, 1) := by decide +kernel
theorem dX12_digit_17 : decode cX12_digit 17 = .ok (.getfield 72, 3) := by decide +kernel
theorem dX12_digit_20 : decode cX12_digit 20 = .ok (.iload_n 1, 1) := by decide +kernel
theorem dX12_digit_21 : decode cX12_digit 21 = .ok (.iload_n 2, 1) := by decide +kernel
theorem dX12_digit_22 : decode cX12_digit 22 = .ok (.iadd, 1) := by decide +kernel
theorem dX12_digit_23 : decode cX12_digit 23 = .ok (.iload 4, 2) := by decide +kernel
theorem dX12_digit_25 : decode cX12_digit 25 = .ok (.iadd, 1) := by decide +kernel
theorem dX12_digit_26 : decode cX12_digit 26 = .ok (.iconst 1, 1) := by decide +kernel
theorem dX12_digit_27 : decode cX12_digit 27 = .ok (.isub, 1) := by decide +kernel
theorem dX12_digit_28 : decode cX12_digit 28 = .ok (.iaload, 1) := by decide +kernel
theorem dX12_digit_29 : decode cX12_digit 29 = .ok (.i2l, 1) := by decide +kernel
theorem dX12_digit_30 : decode cX12_digit 30 = .ok (.ladd, 1) := by decide +kernel
theorem dX12_digit_31 : decode cX12_digit 31 = .ok (.lstore 5, 2) := by decide +kernel
theorem dX12_digit_33 : decode cX12_digit 33 = .ok (.lload 5, 2) := by decide +kernel
theorem dX12_digit_35 : decode cX12_digit 35 = .ok (.aload_n 0, 1) := by decide +kernel
theorem dX12_digit_36 : decode cX12_digit 36 = .ok (.getfield 72, 3) := by decide +kernel
theorem dX12_digit_39 : decode cX12_digit 39 = .ok (.iload_n 3, 1) := by decide +kernel
theorem dX12_digit_40 : decode cX12_digit 40 = .ok (.iload 4, 2) := by decide +kernel
theorem dX12_digit_42 : decode cX12_digit 42 = .ok (.iadd, 1) := by decide +kernel
theorem dX12_digit_43 : decode cX12_digit 43 = .ok (.iaload, 1) := by decide +kernel
theorem dX12_digit_44 : decode cX12_digit 44 = .ok (.i2l, 1) := by decide +kernel
theorem dX12_digit_45 : decode cX12_digit 45 = .ok (.ldiv, 1) := by decide +kernel
theorem dX12_digit_46 : decode cX12_digit 46 = .ok (.lstore 7, 2) := by decide +kernel
theorem dX12_digit_48 : decode cX12_digit 48 = .ok (.lload 5, 2) := by decide +kernel
theorem dX12_digit_50 : decode cX12_digit 50 = .ok (.aload_n 0, 1) := by decide +kernel
theorem dX12_digit_51 : decode cX12_digit 51 = .ok (.getfield 72, 3) := by decide +kernel
theorem dX12_digit_54 : decode cX12_digit 54 = .ok (.iload_n 3, 1) := by decide +kernel
theorem dX12_digit_55 : decode cX12_digit 55 = .ok (.iload 4, 2) := by decide +kernel
theorem dX12_digit_57 : decode cX12_digit 57 = .ok (.iadd, 1) := by decide +kernel
theorem dX12_digit_58 : decode cX12_digit 58 = .ok (.iaload, 1) := by decide +kernel
theorem dX12_digit_59 : decode cX12_digit 59 = .ok (.i2l, 1) := by decide +kernel
theorem dX12_digit_60 : decode cX12_digit 60 = .ok (.lconst 1, 1) := by decide +kernel
theorem dX12_digit_61 : decode cX12_digit 61 = .ok (.ladd, 1) := by decide +kernel
theorem dX12_digit_62 : decode cX12_digit 62 = .ok (.ldiv, 1) := by decide +kernel
theorem dX12_digit_63 : decode cX12_digit 63 = .ok (.lstore 9, 2) := by decide +kernel
theorem dX12_digit_65 : decode cX12_digit 65 = .ok (.lload 9, 2) := by decide +kernel
theorem dX12_digit_67 : decode cX12_digit 67 = .ok (.ldc2_w 331, 3) := by decide +kernel
theorem dX12_digit_70 : decode cX12_digit 70 = .ok (.lcmp, 1) := by decide +kernel
theorem dX12_digit_71 : decode cX12_digit 71 = .ok (.ifCond .le 9, 3) := by decide +kernel
theorem dX12_digit_74 : decode cX12_digit 74 = .ok (.ldc2_w 331, 3) := by decide +kernel
theorem dX12_digit_77 : decode cX12_digit 77 = .ok (.goto 5, 3) := by decide +kernel
theorem dX12_digit_80 : decode cX12_digit 80 = .ok (.lload 9, 2) := by decide +kernel
theorem dX12_digit_82 : decode cX12_digit 82 = .ok (.lstore 11, 2) := by decide +kernel
theorem dX12_digit_84 : decode cX12_digit 84 = .ok (.lload 7, 2) := by decide +kernel
theorem dX12_digit_86 : decode cX12_digit 86 = .ok (.ldc2_w 331, 3) := by decide +kernel
theorem dX12_digit_89 : decode cX12_digit 89 = .ok (.lcmp, 1) := by decide +kernel
theorem dX12_digit_90 : decode cX12_digit 90 = .ok (.ifCond .le 9, 3) := by decide +kernel
theorem dX12_digit_93 : decode cX12_digit 93 = .ok (.ldc2_w 331, 3) := by decide +kernel
theorem dX12_digit_96 : decode cX12_digit 96 = .ok (.goto 5, 3) := by decide +kernel
theorem dX12_digit_99 : decode cX12_digit 99 = .ok (.lload 7, 2) := by decide +kernel
theorem dX12_digit_101 : decode cX12_digit 101 = .ok (.lstore 13, 2) := by decide +kernel
theorem dX12_digit_103 : decode cX12_digit 103 = .ok (.lload 11, 2) := by decide +kernel
theorem dX12_digit_105 : decode cX12_digit 105 = .ok (.lload 13, 2) := by decide +kernel
theorem dX12_digit_107 : decode cX12_digit 107 = .ok (.lcmp, 1) := by decide +kernel
theorem dX12_digit_108 : decode cX12_digit 108 = .ok (.ifCond .ge 46, 3) := by decide +kernel
theorem dX12_digit_111 : decode cX12_digit 111 = .ok (.lload 11, 2) := by decide +kernel
theorem dX12_digit_113 : decode cX12_digit 113 = .ok (.lload 13, 2) := by decide +kernel
theorem dX12_digit_115 : decode cX12_digit 115 = .ok (.ladd, 1) := by decide +kernel
theorem dX12_digit_116 : decode cX12_digit 116 = .ok (.lconst 1, 1) := by decide +kernel
theorem dX12_digit_117 : decode cX12_digit 117 = .ok (.ladd, 1) := by decide +kernel
theorem dX12_digit_118 : decode cX12_digit 118 = .ok (.ldc2_w 333, 3) := by decide +kernel
theorem dX12_digit_121 : decode cX12_digit 121 = .ok (.ldiv, 1) := by decide +kernel
theorem dX12_digit_122 : decode cX12_digit 122 = .ok (.lstore 15, 2) := by decide +kernel
theorem dX12_digit_124 : decode cX12_digit 124 = .ok (.aload_n 0, 1) := by decide +kernel
theorem dX12_digit_125 : decode cX12_digit 125 = .ok (.iload_n 1, 1) := by decide +kernel
theorem dX12_digit_126 : decode cX12_digit 126 = .ok (.iload_n 2, 1) := by decide +kernel
theorem dX12_digit_127 : decode cX12_digit 127 = .ok (.iload_n 3, 1) := by decide +kernel
theorem dX12_digit_128 : decode cX12_digit 128 = .ok (.iload 4, 2) := by decide +kernel
theorem dX12_digit_130 : decode cX12_digit 130 = .ok (.lload 15, 2) := by decide +kernel
theorem dX12_digit_132 : decode cX12_digit 132 = .ok (.invokevirtual 335, 3) := by decide +kernel
theorem dX12_digit_135 : decode cX12_digit 135 = .ok (.ifCond .eq 10, 3) := by decide +kernel
theorem dX12_digit_138 : decode cX12_digit 138 = .ok (.lload 15, 2) := by decide +kernel
theorem dX12_digit_140 : decode cX12_digit 140 = .ok (.lstore 11, 2) := by decide +kernel
theorem dX12_digit_142 : decode cX12_digit 142 = .ok (.goto 9, 3) := by decide +kernel
theorem dX12_digit_145 : decode cX12_digit 145 = .ok (.lload 15, 2) := by decide +kernel
theorem dX12_digit_147 : decode cX12_digit 147 = .ok (.lconst 1, 1) := by decide +kernel
theorem dX12_digit_148 : decode cX12_digit 148 = .ok (.lsub, 1) := by decide +kernel
theorem dX12_digit_149 : decode cX12_digit 149 = .ok (.lstore 13, 2) := by decide +kernel
theorem dX12_digit_151 : decode cX12_digit 151 = .ok (.goto (-48), 3) := by decide +kernel
theorem dX12_digit_154 : decode cX12_digit 154 = .ok (.lconst 0, 1) := by decide +kernel
theorem dX12_digit_155 : decode cX12_digit 155 = .ok (.lstore 15, 2) := by decide +kernel
theorem dX12_digit_157 : decode cX12_digit 157 = .ok (.iconst 1, 1) := by decide +kernel
theorem dX12_digit_158 : decode cX12_digit 158 = .ok (.istore 17, 2) := by decide +kernel
theorem dX12_digit_160 : decode cX12_digit 160 = .ok (.iload 17, 2) := by decide +kernel
theorem dX12_digit_162 : decode cX12_digit 162 = .ok (.iload 4, 2) := by decide +kernel
theorem dX12_digit_164 : decode cX12_digit 164 = .ok (.iconst 1, 1) := by decide +kernel
theorem dX12_digit_165 : decode cX12_digit 165 = .ok (.iadd, 1) := by decide +kernel
theorem dX12_digit_166 : decode cX12_digit 166 = .ok (.if_icmp .gt 108, 3) := by decide +kernel
theorem dX12_digit_169 : decode cX12_digit 169 = .ok (.aload_n 0, 1) := by decide +kernel
theorem dX12_digit_170 : decode cX12_digit 170 = .ok (.getfield 72, 3) := by decide +kernel
theorem dX12_digit_173 : decode cX12_digit 173 = .ok (.iload_n 1, 1) := by decide +kernel
theorem dX12_digit_174 : decode cX12_digit 174 = .ok (.iload_n 2, 1) := by decide +kernel
theorem dX12_digit_175 : decode cX12_digit 175 = .ok (.iadd, 1) := by decide +kernel
theorem dX12_digit_176 : decode cX12_digit 176 = .ok (.iload 17, 2) := by decide +kernel
theorem dX12_digit_178 : decode cX12_digit 178 = .ok (.iadd, 1) := by decide +kernel
theorem dX12_digit_179 : decode cX12_digit 179 = .ok (.iconst 1, 1) := by decide +kernel
theorem dX12_digit_180 : decode cX12_digit 180 = .ok (.isub, 1) := by decide +kernel
theorem dX12_digit_181 : decode cX12_digit 181 = .ok (.iaload, 1) := by decide +kernel
theorem dX12_digit_182 : decode cX12_digit 182 = .ok (.i2l, 1) := by decide +kernel
theorem dX12_digit_183 : decode cX12_digit 183 = .ok (.lload 15, 2) := by decide +kernel
theorem dX12_digit_185 : decode cX12_digit 185 = .ok (.lsub, 1) := by decide +kernel
theorem dX12_digit_186 : decode cX12_digit 186 = .ok (.iload 17, 2) := by decide +kernel
theorem dX12_digit_188 : decode cX12_digit 188 = .ok (.iload 4, 2) := by decide +kernel
theorem dX12_digit_190 : decode cX12_digit 190 = .ok (.if_icmp .gt 19, 3) := by decide +kernel
theorem dX12_digit_193 : decode cX12_digit 193 = .ok (.lload 11, 2) := by decide +kernel
theorem dX12_digit_195 : decode cX12_digit 195 = .ok (.aload_n 0, 1) := by decide +kernel
theorem dX12_digit_196 : decode cX12_digit 196 = .ok (.getfield 72, 3) := by decide +kernel
theorem dX12_digit_199 : decode cX12_digit 199 = .ok (.iload_n 3, 1) := by decide +kernel
theorem dX12_digit_200 : decode cX12_digit 200 = .ok (.iload 17, 2) := by decide +kernel
theorem dX12_digit_202 : decode cX12_digit 202 = .ok (.iadd, 1) := by decide +kernel
theorem dX12_digit_203 : decode cX12_digit 203 = .ok (.iaload, 1) := by decide +kernel
theorem dX12_digit_204 : decode cX12_digit 204 = .ok (.i2l, 1) := by decide +kernel
theorem dX12_digit_205 : decode cX12_digit 205 = .ok (.lmul, 1) := by decide +kernel
theorem dX12_digit_206 : decode cX12_digit 206 = .ok (.goto 4, 3) := by decide +kernel
theorem dX12_digit_209 : decode cX12_digit 209 = .ok (.lconst 0, 1) := by decide +kernel
theorem dX12_digit_210 : decode cX12_digit 210 = .ok (.lsub, 1) := by decide +kernel
theorem dX12_digit_211 : decode cX12_digit 211 = .ok (.lstore 18, 2) := by decide +kernel
theorem dX12_digit_213 : decode cX12_digit 213 = .ok (.lload 18, 2) := by decide +kernel
theorem dX12_digit_215 : decode cX12_digit 215 = .ok (.ldc2_w 291, 3) := by decide +kernel
theorem dX12_digit_218 : decode cX12_digit 218 = .ok (.lrem, 1) := by decide +kernel
theorem dX12_digit_219 : decode cX12_digit 219 = .ok (.lstore 20, 2) := by decide +kernel
theorem dX12_digit_221 : decode cX12_digit 221 = .ok (.lload 20, 2) := by decide +kernel
theorem dX12_digit_223 : decode cX12_digit 223 = .ok (.lconst 0, 1) := by decide +kernel
theorem dX12_digit_224 : decode cX12_digit 224 = .ok (.lcmp, 1) := by decide +kernel
theorem dX12_digit_225 : decode cX12_digit 225 = .ok (.ifCond .ge 12, 3) := by decide +kernel
theorem dX12_digit_228 : decode cX12_digit 228 = .ok (.lload 20, 2) := by decide +kernel
theorem dX12_digit_230 : decode cX12_digit 230 = .ok (.ldc2_w 291, 3) := by decide +kernel
theorem dX12_digit_233 : decode cX12_digit 233 = .ok (.ladd, 1) := by decide +kernel
theorem dX12_digit_234 : decode cX12_digit 234 = .ok (.goto 5, 3) := by decide +kernel
theorem dX12_digit_237 : decode cX12_digit 237 = .ok (.lload 20, 2) := by decide +kernel
theorem dX12_digit_239 : decode cX12_digit 239 = .ok (.lstore 20, 2) := by decide +kernel
theorem dX12_digit_241 : decode cX12_digit 241 = .ok (.lload 20, 2) := by decide +kernel
theorem dX12_digit_243 : decode cX12_digit 243 = .ok (.lload 18, 2) := by decide +kernel
theorem dX12_digit_245 : decode cX12_digit 245 = .ok (.lsub, 1) := by decide +kernel
theorem dX12_digit_246 : decode cX12_digit 246 = .ok (.ldc2_w 291, 3) := by decide +kernel
theorem dX12_digit_249 : decode cX12_digit 249 = .ok (.ldiv, 1) := by decide +kernel
theorem dX12_digit_250 : decode cX12_digit 250 = .ok (.lstore 15, 2) := by decide +kernel
theorem dX12_digit_252 : decode cX12_digit 252 = .ok (.aload_n 0, 1) := by decide +kernel
theorem dX12_digit_253 : decode cX12_digit 253 = .ok (.getfield 72, 3) := by decide +kernel
theorem dX12_digit_256 : decode cX12_digit 256 = .ok (.iload_n 1, 1) := by decide +kernel
theorem dX12_digit_257 : decode cX12_digit 257 = .ok (.iload_n 2, 1) := by decide +kernel
theorem dX12_digit_258 : decode cX12_digit 258 = .ok (.iadd, 1) := by decide +kernel
theorem dX12_digit_259 : decode cX12_digit 259 = .ok (.iload 17, 2) := by decide +kernel
theorem dX12_digit_261 : decode cX12_digit 261 = .ok (.iadd, 1) := by decide +kernel
theorem dX12_digit_262 : decode cX12_digit 262 = .ok (.iconst 1, 1) := by decide +kernel
theorem dX12_digit_263 : decode cX12_digit 263 = .ok (.isub, 1) := by decide +kernel
theorem dX12_digit_264 : decode cX12_digit 264 = .ok (.lload 20, 2) := by decide +kernel
theorem dX12_digit_266 : decode cX12_digit 266 = .ok (.l2i, 1) := by decide +kernel
theorem dX12_digit_267 : decode cX12_digit 267 = .ok (.iastore, 1) := by decide +kernel
theorem dX12_digit_268 : decode cX12_digit 268 = .ok (.iinc 17 1, 3) := by decide +kernel
theorem dX12_digit_271 : decode cX12_digit 271 = .ok (.goto (-111), 3) := by decide +kernel
theorem dX12_digit_274 : decode cX12_digit 274 = .ok (.lload 11, 2) := by decide +kernel
theorem dX12_digit_276 : decode cX12_digit 276 = .ok (.l2i, 1) := by decide +kernel
theorem dX12_digit_277 : decode cX12_digit 277 = .ok (.ireturn, 1) := by decide +kernel
theorem dX12_fitsSo_0 : decode cX12_fitsSo 0 = .ok (.lconst 0, 1) := by decide +kernel
theorem dX12_fitsSo_1 : decode cX12_fitsSo 1 = .ok (.lstore 7, 2) := by decide +kernel
theorem dX12_fitsSo_3 : decode cX12_fitsSo 3 = .ok (.iconst 1, 1) := by decide +kernel
theorem dX12_fitsSo_4 : decode cX12_fitsSo 4 = .ok (.istore 9, 2) := by decide +kernel
theorem dX12_fitsSo_6 : decode cX12_fitsSo 6 = .ok (.iload 9, 2) := by decide +kernel
theorem dX12_fitsSo_8 : decode cX12_fitsSo 8 = .ok (.iload 4, 2) := by decide +kernel
theorem dX12_fitsSo_10 : decode cX12_fitsSo 10 = .ok (.iconst 1, 1) := by decide +kernel
theorem dX12_fitsSo_11 : decode cX12_fitsSo 11 = .ok (.iadd, 1) := by decide +kernel
theorem dX12_fitsSo_12 : decode cX12_fitsSo 12 = .ok (.if_icmp .gt 92, 3) := by decide +kernel
theorem dX12_fitsSo_15 : decode cX12_fitsSo 15 = .ok (.aload_n 0, 1) := by decide +kernel
theorem dX12_fitsSo_16 : decode cX12_fitsSo 16 = .ok (.getfield 72, 3) := by decide +kernel
theorem dX12_fitsSo_19 : decode cX12_fitsSo 19 = .ok (.iload_n 1, 1) := by decide +kernel
theorem dX12_fitsSo_20 : decode cX12_fitsSo 20 = .ok (.iload_n 2, 1) := by decide +kernel
theorem dX12_fitsSo_21 : decode cX12_fitsSo 21 = .ok (.iadd, 1) := by decide +kernel
theorem dX12_fitsSo_22 : decode cX12_fitsSo 22 = .ok (.iload 9, 2) := by decide +kernel
theorem dX12_fitsSo_24 : decode cX12_fitsSo 24 = .ok (.iadd, 1) := by decide +kernel
theorem dX12_fitsSo_25 : decode cX12_fitsSo 25 = .ok (.iconst 1, 1) := by decide +kernel
theorem dX12_fitsSo_26 : decode cX12_fitsSo 26 = .ok (.isub, 1) := by decide +kernel
theorem dX12_fitsSo_27 : decode cX12_fitsSo 27 = .ok (.iaload, 1) := by decide +kernel
theorem dX12_fitsSo_28 : decode cX12_fitsSo 28 = .ok (.i2l, 1) := by decide +kernel
theorem dX12_fitsSo_29 : decode cX12_fitsSo 29 = .ok (.lload 7, 2) := by decide +kernel
theorem dX12_fitsSo_31 : decode cX12_fitsSo 31 = .ok (.lsub, 1) := by decide +kernel
theorem dX12_fitsSo_32 : decode cX12_fitsSo 32 = .ok (.iload 9, 2) := by decide +kernel
theorem dX12_fitsSo_34 : decode cX12_fitsSo 34 = .ok (.iload 4, 2) := by decide +kernel
theorem dX12_fitsSo_36 : decode cX12_fitsSo 36 = .ok (.if_icmp .gt 19, 3) := by decide +kernel
theorem dX12_fitsSo_39 : decode cX12_fitsSo 39 = .ok (.lload 5, 2) := by decide +kernel
theorem dX12_fitsSo_41 : decode cX12_fitsSo 41 = .ok (.aload_n 0, 1) := by decide +kernel
theorem dX12_fitsSo_42 : decode cX12_fitsSo 42 = .ok (.getfield 72, 3) := by decide +kernel
theorem dX12_fitsSo_45 : decode cX12_fitsSo 45 = .ok (.iload_n 3, 1) := by decide +kernel
theorem dX12_fitsSo_46 : decode cX12_fitsSo 46 = .ok (.iload 9, 2) := by decide +kernel
theorem dX12_fitsSo_48 : decode cX12_fitsSo 48 = .ok (.iadd, 1) := by decide +kernel
theorem dX12_fitsSo_49 : decode cX12_fitsSo 49 = .ok (.iaload, 1) := by decide +kernel
theorem dX12_fitsSo_50 : decode cX12_fitsSo 50 = .ok (.i2l, 1) := by decide +kernel
theorem dX12_fitsSo_51 : decode cX12_fitsSo 51 = .ok (.lmul, 1) := by decide +kernel
theorem dX12_fitsSo_52 : decode cX12_fitsSo 52 = .ok (.goto 4, 3) := by decide +kernel
theorem dX12_fitsSo_55 : decode cX12_fitsSo 55 = .ok (.lconst 0, 1) := by decide +kernel
theorem dX12_fitsSo_56 : decode cX12_fitsSo 56 = .ok (.lsub, 1) := by decide +kernel
theorem dX12_fitsSo_57 : decode cX12_fitsSo 57 = .ok (.lstore 10, 2) := by decide +kernel
theorem dX12_fitsSo_59 : decode cX12_fitsSo 59 = .ok (.lload 10, 2) := by decide +kernel
theorem dX12_fitsSo_61 : decode cX12_fitsSo 61 = .ok (.ldc2_w 291, 3) := by decide +kernel
theorem dX12_fitsSo_64 : decode cX12_fitsSo 64 = .ok (.lrem, 1) := by decide +kernel
theorem dX12_fitsSo_65 : decode cX12_fitsSo 65 = .ok (.lstore 12, 2) := by decide +kernel
theorem dX12_fitsSo_67 : decode cX12_fitsSo 67 = .ok (.lload 12, 2) := by decide +kernel
theorem dX12_fitsSo_69 : decode cX12_fitsSo 69 = .ok (.lconst 0, 1) := by decide +kernel
theorem dX12_fitsSo_70 : decode cX12_fitsSo 70 = .ok (.lcmp, 1) := by decide +kernel
theorem dX12_fitsSo_71 : decode cX12_fitsSo 71 = .ok (.ifCond .ge 12, 3) := by decide +kernel
theorem dX12_fitsSo_74 : decode cX12_fitsSo 74 = .ok (.lload 12, 2) := by decide +kernel
theorem dX12_fitsSo_76 : decode cX12_fitsSo 76 = .ok (.ldc2_w 291, 3) := by decide +kernel
theorem dX12_fitsSo_79 : decode cX12_fitsSo 79 = .ok (.ladd, 1) := by decide +kernel
theorem dX12_fitsSo_80 : decode cX12_fitsSo 80 = .ok (.goto 5, 3) := by decide +kernel
theorem dX12_fitsSo_83 : decode cX12_fitsSo 83 = .ok (.lload 12, 2) := by decide +kernel
theorem dX12_fitsSo_85 : decode cX12_fitsSo 85 = .ok (.lstore 12, 2) := by decide +kernel
theorem dX12_fitsSo_87 : decode cX12_fitsSo 87 = .ok (.lload 12, 2) := by decide +kernel
theorem dX12_fitsSo_89 : decode cX12_fitsSo 89 = .ok (.lload 10, 2) := by decide +kernel
theorem dX12_fitsSo_91 : decode cX12_fitsSo 91 = .ok (.lsub, 1) := by decide +kernel
theorem dX12_fitsSo_92 : decode cX12_fitsSo 92 = .ok (.ldc2_w 291, 3) := by decide +kernel
theorem dX12_fitsSo_95 : decode cX12_fitsSo 95 = .ok (.ldiv, 1) := by decide +kernel
theorem dX12_fitsSo_96 : decode cX12_fitsSo 96 = .ok (.lstore 7, 2) := by decide +kernel
theorem dX12_fitsSo_98 : decode cX12_fitsSo 98 = .ok (.iinc 9 1, 3) := by decide +kernel
theorem dX12_fitsSo_101 : decode cX12_fitsSo 101 = .ok (.goto (-95), 3) := by decide +kernel
theorem dX12_fitsSo_104 : decode cX12_fitsSo 104 = .ok (.lload 7, 2) := by decide +kernel
theorem dX12_fitsSo_106 : decode cX12_fitsSo 106 = .ok (.lconst 0, 1) := by decide +kernel
theorem dX12_fitsSo_107 : decode cX12_fitsSo 107 = .ok (.lcmp, 1) := by decide +kernel
theorem dX12_fitsSo_108 : decode cX12_fitsSo 108 = .ok (.ifCond .ne 7, 3) := by decide +kernel
theorem dX12_fitsSo_111 : decode cX12_fitsSo 111 = .ok (.iconst 1, 1) := by decide +kernel
theorem dX12_fitsSo_112 : decode cX12_fitsSo 112 = .ok (.goto 4, 3) := by decide +kernel
theorem dX12_fitsSo_115 : decode cX12_fitsSo 115 = .ok (.iconst 0, 1) := by decide +kernel
theorem dX12_fitsSo_116 : decode cX12_fitsSo 116 = .ok (.ireturn, 1) := by decide +kernel
theorem dX12_over_0 : decode cX12_over 0 = .ok (.aload_n 0, 1) := by decide +kernel
theorem dX12_over_1 : decode cX12_over 1 = .ok (.getfield 76, 3) := by decide +kernel
theorem dX12_over_4 : decode cX12_over 4 = .ok (.istore_n 3, 1) := by decide +kernel
theorem dX12_over_5 : decode cX12_over 5 = .ok (.aload_n 0, 1) := by decide +kernel
theorem dX12_over_6 : decode cX12_over 6 = .ok (.iload_n 1, 1) := by decide +kernel
theorem dX12_over_7 : decode cX12_over 7 = .ok (.iload_n 2, 1) := by decide +kernel
theorem dX12_over_8 : decode cX12_over 8 = .ok (.invokevirtual 339, 3) := by decide +kernel
theorem dX12_over_11 : decode cX12_over 11 = .ok (.istore 4, 2) := by decide +kernel
theorem dX12_over_13 : decode cX12_over 13 = .ok (.aload_n 0, 1) := by decide +kernel
theorem dX12_over_14 : decode cX12_over 14 = .ok (.getfield 328, 3) := by decide +kernel
theorem dX12_over_17 : decode cX12_over 17 = .ok (.istore 5, 2) := by decide +kernel
theorem dX12_over_19 : decode cX12_over 19 = .ok (.aload_n 0, 1) := by decide +kernel
theorem dX12_over_20 : decode cX12_over 20 = .ok (.iload_n 1, 1) := by decide +kernel
theorem dX12_over_21 : decode cX12_over 21 = .ok (.invokevirtual 191, 3) := by decide +kernel
theorem dX12_over_24 : decode cX12_over 24 = .ok (.aload_n 0, 1) := by decide +kernel
theorem dX12_over_25 : decode cX12_over 25 = .ok (.iload_n 2, 1) := by decide +kernel
theorem dX12_over_26 : decode cX12_over 26 = .ok (.invokevirtual 191, 3) := by decide +kernel
theorem dX12_over_29 : decode cX12_over 29 = .ok (.imul, 1) := by decide +kernel
theorem dX12_over_30 : decode cX12_over 30 = .ok (.ifCond .ge 7, 3) := by decide +kernel
theorem dX12_over_33 : decode cX12_over 33 = .ok (.iconst 1, 1) := by decide +kernel
theorem dX12_over_34 : decode cX12_over 34 = .ok (.goto 4, 3) := by decide +kernel
theorem dX12_over_37 : decode cX12_over 37 = .ok (.iconst 0, 1) := by decide +kernel
theorem dX12_over_38 : decode cX12_over 38 = .ok (.istore 6, 2) := by decide +kernel
theorem dX12_over_40 : decode cX12_over 40 = .ok (.aload_n 0, 1) := by decide +kernel
theorem dX12_over_41 : decode cX12_over 41 = .ok (.getfield 72, 3) := by decide +kernel
theorem dX12_over_44 : decode cX12_over 44 = .ok (.iload 4, 2) := by decide +kernel
theorem dX12_over_46 : decode cX12_over 46 = .ok (.iaload, 1) := by decide +kernel
theorem dX12_over_47 : decode cX12_over 47 = .ok (.ifCond .eq 7, 3) := by decide +kernel
theorem dX12_over_50 : decode cX12_over 50 = .ok (.iconst 1, 1) := by decide +kernel
theorem dX12_over_51 : decode cX12_over 51 = .ok (.goto 4, 3) := by decide +kernel
theorem dX12_over_54 : decode cX12_over 54 = .ok (.iconst 0, 1) := by decide +kernel
theorem dX12_over_55 : decode cX12_over 55 = .ok (.istore 7, 2) := by decide +kernel
theorem dX12_over_57 : decode cX12_over 57 = .ok (.aload_n 0, 1) := by decide +kernel
theorem dX12_over_58 : decode cX12_over 58 = .ok (.getfield 72, 3) := by decide +kernel
theorem dX12_over_61 : decode cX12_over 61 = .ok (.iload 5, 2) := by decide +kernel
theorem dX12_over_63 : decode cX12_over 63 = .ok (.iload 6, 2) := by decide +kernel
theorem dX12_over_65 : decode cX12_over 65 = .ok (.ifCond .eq 14, 3) := by decide +kernel
theorem dX12_over_68 : decode cX12_over 68 = .ok (.aload_n 0, 1) := by decide +kernel
theorem dX12_over_69 : decode cX12_over 69 = .ok (.getfield 72, 3) := by decide +kernel
theorem dX12_over_72 : decode cX12_over 72 = .ok (.iload 5, 2) := by decide +kernel
theorem dX12_over_74 : decode cX12_over 74 = .ok (.iaload, 1) := by decide +kernel
theorem dX12_over_75 : decode cX12_over 75 = .ok (.ineg, 1) := by decide +kernel
theorem dX12_over_76 : decode cX12_over 76 = .ok (.goto 10, 3) := by decide +kernel
theorem dX12_over_79 : decode cX12_over 79 = .ok (.aload_n 0, 1) := by decide +kernel
theorem dX12_over_80 : decode cX12_over 80 = .ok (.getfield 72, 3) := by decide +kernel
theorem dX12_over_83 : decode cX12_over 83 = .ok (.iload 5, 2) := by decide +kernel
theorem dX12_over_85 : decode cX12_over 85 = .ok (.iaload, 1) := by decide +kernel
theorem dX12_over_86 : decode cX12_over 86 = .ok (.iastore, 1) := by decide +kernel
theorem dX12_over_87 : decode cX12_over 87 = .ok (.iload 6, 2) := by decide +kernel
theorem dX12_over_89 : decode cX12_over 89 = .ok (.ifCond .eq 21, 3) := by decide +kernel
theorem dX12_over_92 : decode cX12_over 92 = .ok (.iload 7, 2) := by decide +kernel
theorem dX12_over_94 : decode cX12_over 94 = .ok (.ifCond .eq 16, 3) := by decide +kernel
theorem dX12_over_97 : decode cX12_over 97 = .ok (.aload_n 0, 1) := by decide +kernel
theorem dX12_over_98 : decode cX12_over 98 = .ok (.iload 5, 2) := by decide +kernel
theorem dX12_over_100 : decode cX12_over 100 = .ok (.aload_n 0, 1) := by decide +kernel
theorem dX12_over_101 : decode cX12_over 101 = .ok (.lconst 1, 1) := by decide +kernel
theorem dX12_over_102 : decode cX12_over 102 = .ok (.invokevirtual 88, 3) := by decide +kernel
theorem dX12_over_105 : decode cX12_over 105 = .ok (.invokevirtual 197, 3) := by decide +kernel
theorem dX12_over_108 : decode cX12_over 108 = .ok (.istore 5, 2) := by decide +kernel
theorem dX12_over_110 : decode cX12_over 110 = .ok (.aload_n 0, 1) := by decide +kernel
theorem dX12_over_111 : decode cX12_over 111 = .ok (.iload_n 3, 1) := by decide +kernel
theorem dX12_over_112 : decode cX12_over 112 = .ok (.iload 5, 2) := by decide +kernel
theorem dX12_over_114 : decode cX12_over 114 = .ok (.invokevirtual 154, 3) := by decide +kernel
theorem dX12_over_117 : decode cX12_over 117 = .ok (.ireturn, 1) := by decide +kernel
theorem dX12_gcd_0 : decode cX12_gcd 0 = .ok (.aload_n 0, 1) := by decide +kernel
theorem dX12_gcd_1 : decode cX12_gcd 1 = .ok (.getfield 76, 3) := by decide +kernel
theorem dX12_gcd_4 : decode cX12_gcd 4 = .ok (.istore_n 3, 1) := by decide +kernel
theorem dX12_gcd_5 : decode cX12_gcd 5 = .ok (.aload_n 0, 1) := by decide +kernel
theorem dX12_gcd_6 : decode cX12_gcd 6 = .ok (.iload_n 1, 1) := by decide +kernel
theorem dX12_gcd_7 : decode cX12_gcd 7 = .ok (.invokevirtual 194, 3) := by decide +kernel
theorem dX12_gcd_10 : decode cX12_gcd 10 = .ok (.istore 4, 2) := by decide +kernel
theorem dX12_gcd_12 : decode cX12_gcd 12 = .ok (.aload_n 0, 1) := by decide +kernel
theorem dX12_gcd_13 : decode cX12_gcd 13 = .ok (.getfield 72, 3) := by decide +kernel
theorem dX12_gcd_16 : decode cX12_gcd 16 = .ok (.iload 4, 2) := by decide +kernel
theorem dX12_gcd_18 : decode cX12_gcd 18 = .ok (.aload_n 0, 1) := by decide +kernel
theorem dX12_gcd_19 : decode cX12_gcd 19 = .ok (.iload 4, 2) := by decide +kernel
theorem dX12_gcd_21 : decode cX12_gcd 21 = .ok (.invokevirtual 267, 3) := by decide +kernel
theorem dX12_gcd_24 : decode cX12_gcd 24 = .ok (.iastore, 1) := by decide +kernel
theorem dX12_gcd_25 : decode cX12_gcd 25 = .ok (.aload_n 0, 1) := by decide +kernel
theorem dX12_gcd_26 : decode cX12_gcd 26 = .ok (.iload_n 2, 1) := by decide +kernel
theorem dX12_gcd_27 : decode cX12_gcd 27 = .ok (.invokevirtual 194, 3) := by decide +kernel
theorem dX12_gcd_30 : decode cX12_gcd 30 = .ok (.istore 5, 2) := by decide +kernel
theorem dX12_gcd_32 : decode cX12_gcd 32 = .ok (.aload_n 0, 1) := by decide +kernel
theorem dX12_gcd_33 : decode cX12_gcd 33 = .ok (.getfield 72, 3) := by decide +kernel
theorem dX12_gcd_36 : decode cX12_gcd 36 = .ok (.iload 5, 2) := by decide +kernel
theorem dX12_gcd_38 : decode cX12_gcd 38 = .ok (.aload_n 0, 1) := by decide +kernel
theorem dX12_gcd_39 : decode cX12_gcd 39 = .ok (.iload 5, 2) := by decide +kernel
theorem dX12_gcd_41 : decode cX12_gcd 41 = .ok (.invokevirtual 267, 3) := by decide +kernel
theorem dX12_gcd_44 : decode cX12_gcd 44 = .ok (.iastore, 1) := by decide +kernel
theorem dX12_gcd_45 : decode cX12_gcd 45 = .ok (.aload_n 0, 1) := by decide +kernel
theorem dX12_gcd_46 : decode cX12_gcd 46 = .ok (.getfield 72, 3) := by decide +kernel
theorem dX12_gcd_49 : decode cX12_gcd 49 = .ok (.iload 5, 2) := by decide +kernel
theorem dX12_gcd_51 : decode cX12_gcd 51 = .ok (.iaload, 1) := by decide +kernel
theorem dX12_gcd_52 : decode cX12_gcd 52 = .ok (.ifCond .eq 81, 3) := by decide +kernel
theorem dX12_gcd_55 : decode cX12_gcd 55 = .ok (.aload_n 0, 1) := by decide +kernel
theorem dX12_gcd_56 : decode cX12_gcd 56 = .ok (.iload 4, 2) := by decide +kernel
theorem dX12_gcd_58 : decode cX12_gcd 58 = .ok (.iload 5, 2) := by decide +kernel
theorem dX12_gcd_60 : decode cX12_gcd 60 = .ok (.invokevirtual 339, 3) := by decide +kernel
theorem dX12_gcd_63 : decode cX12_gcd 63 = .ok (.istore 6, 2) := by decide +kernel
theorem dX12_gcd_65 : decode cX12_gcd 65 = .ok (.aload_n 0, 1) := by decide +kernel
theorem dX12_gcd_66 : decode cX12_gcd 66 = .ok (.iload 5, 2) := by decide +kernel
theorem dX12_gcd_68 : decode cX12_gcd 68 = .ok (.invokevirtual 194, 3) := by decide +kernel
theorem dX12_gcd_71 : decode cX12_gcd 71 = .ok (.istore 7, 2) := by decide +kernel
theorem dX12_gcd_73 : decode cX12_gcd 73 = .ok (.aload_n 0, 1) := by decide +kernel
theorem dX12_gcd_74 : decode cX12_gcd 74 = .ok (.iload 6, 2) := by decide +kernel
theorem dX12_gcd_76 : decode cX12_gcd 76 = .ok (.invokevirtual 194, 3) := by decide +kernel
theorem dX12_gcd_79 : decode cX12_gcd 79 = .ok (.istore 8, 2) := by decide +kernel
theorem dX12_gcd_81 : decode cX12_gcd 81 = .ok (.aload_n 0, 1) := by decide +kernel
theorem dX12_gcd_82 : decode cX12_gcd 82 = .ok (.iload 7, 2) := by decide +kernel
theorem dX12_gcd_84 : decode cX12_gcd 84 = .ok (.iload_n 3, 1) := by decide +kernel
theorem dX12_gcd_85 : decode cX12_gcd 85 = .ok (.invokevirtual 92, 3) := by decide +kernel
theorem dX12_gcd_88 : decode cX12_gcd 88 = .ok (.iload_n 3, 1) := by decide +kernel
theorem dX12_gcd_89 : decode cX12_gcd 89 = .ok (.istore 4, 2) := by decide +kernel
theorem dX12_gcd_91 : decode cX12_gcd 91 = .ok (.iload_n 3, 1) := by decide +kernel
theorem dX12_gcd_92 : decode cX12_gcd 92 = .ok (.aload_n 0, 1) := by decide +kernel
theorem dX12_gcd_93 : decode cX12_gcd 93 = .ok (.iload 4, 2) := by decide +kernel
theorem dX12_gcd_95 : decode cX12_gcd 95 = .ok (.invokevirtual 267, 3) := by decide +kernel
theorem dX12_gcd_98 : decode cX12_gcd 98 = .ok (.iadd, 1) := by decide +kernel
theorem dX12_gcd_99 : decode cX12_gcd 99 = .ok (.iconst 1, 1) := by decide +kernel
theorem dX12_gcd_100 : decode cX12_gcd 100 = .ok (.iadd, 1) := by decide +kernel
theorem dX12_gcd_101 : decode cX12_gcd 101 = .ok (.istore 9, 2) := by decide +kernel
theorem dX12_gcd_103 : decode cX12_gcd 103 = .ok (.aload_n 0, 1) := by decide +kernel
theorem dX12_gcd_104 : decode cX12_gcd 104 = .ok (.iload 8, 2) := by decide +kernel
theorem dX12_gcd_106 : decode cX12_gcd 106 = .ok (.iload 9, 2) := by decide +kernel
theorem dX12_gcd_108 : decode cX12_gcd 108 = .ok (.invokevirtual 92, 3) := by decide +kernel
theorem dX12_gcd_111 : decode cX12_gcd 111 = .ok (.iload 9, 2) := by decide +kernel
theorem dX12_gcd_113 : decode cX12_gcd 113 = .ok (.istore 5, 2) := by decide +kernel
theorem dX12_gcd_115 : decode cX12_gcd 115 = .ok (.aload_n 0, 1) := by decide +kernel
theorem dX12_gcd_116 : decode cX12_gcd 116 = .ok (.iload 5, 2) := by decide +kernel
theorem dX12_gcd_118 : decode cX12_gcd 118 = .ok (.aload_n 0, 1) := by decide +kernel
theorem dX12_gcd_119 : decode cX12_gcd 119 = .ok (.iload 5, 2) := by decide +kernel
theorem dX12_gcd_121 : decode cX12_gcd 121 = .ok (.invokevirtual 267, 3) := by decide +kernel
theorem dX12_gcd_124 : decode cX12_gcd 124 = .ok (.iadd, 1) := by decide +kernel
theorem dX12_gcd_125 : decode cX12_gcd 125 = .ok (.iconst 1, 1) := by decide +kernel
theorem dX12_gcd_126 : decode cX12_gcd 126 = .ok (.iadd, 1) := by decide +kernel
theorem dX12_gcd_127 : decode cX12_gcd 127 = .ok (.putfield 76, 3) := by decide +kernel
theorem dX12_gcd_130 : decode cX12_gcd 130 = .ok (.goto (-85), 3) := by decide +kernel
theorem dX12_gcd_133 : decode cX12_gcd 133 = .ok (.aload_n 0, 1) := by decide +kernel
theorem dX12_gcd_134 : decode cX12_gcd 134 = .ok (.iload_n 3, 1) := by decide +kernel
theorem dX12_gcd_135 : decode cX12_gcd 135 = .ok (.iload 4, 2) := by decide +kernel
theorem dX12_gcd_137 : decode cX12_gcd 137 = .ok (.invokevirtual 154, 3) := by decide +kernel
theorem dX12_gcd_140 : decode cX12_gcd 140 = .ok (.ireturn, 1) := by decide +kernel
theorem dJ9_max_f86c9_0 : decode cJ9_max_f86c9 0 = .ok (.lload_n 0, 1) := by decide +kernel
theorem dJ9_max_f86c9_1 : decode cJ9_max_f86c9 1 = .ok (.lload_n 2, 1) := by decide +kernel
theorem dJ9_max_f86c9_2 : decode cJ9_max_f86c9 2 = .ok (.lcmp, 1) := by decide +kernel
theorem dJ9_max_f86c9_3 : decode cJ9_max_f86c9 3 = .ok (.ifCond .lt 7, 3) := by decide +kernel
theorem dJ9_max_f86c9_6 : decode cJ9_max_f86c9 6 = .ok (.lload_n 0, 1) := by decide +kernel
theorem dJ9_max_f86c9_7 : decode cJ9_max_f86c9 7 = .ok (.goto 4, 3) := by decide +kernel
theorem dJ9_max_f86c9_10 : decode cJ9_max_f86c9 10 = .ok (.lload_n 2, 1) := by decide +kernel
theorem dJ9_max_f86c9_11 : decode cJ9_max_f86c9 11 = .ok (.lreturn, 1) := by decide +kernel
theorem dJ9_min_7cf53_0 : decode cJ9_min_7cf53 0 = .ok (.iload_n 0, 1) := by decide +kernel
theorem dJ9_min_7cf53_1 : decode cJ9_min_7cf53 1 = .ok (.iload_n 1, 1) := by decide +kernel
theorem dJ9_min_7cf53_2 : decode cJ9_min_7cf53 2 = .ok (.if_icmp .gt 7, 3) := by decide +kernel
theorem dJ9_min_7cf53_5 : decode cJ9_min_7cf53 5 = .ok (.iload_n 0, 1) := by decide +kernel
theorem dJ9_min_7cf53_6 : decode cJ9_min_7cf53 6 = .ok (.goto 4, 3) := by decide +kernel
theorem dJ9_min_7cf53_9 : decode cJ9_min_7cf53 9 = .ok (.iload_n 1, 1) := by decide +kernel
theorem dJ9_min_7cf53_10 : decode cJ9_min_7cf53 10 = .ok (.ireturn, 1) := by decide +kernel
theorem dJ9_min_f86c9_0 : decode cJ9_min_f86c9 0 = .ok (.lload_n 0, 1) := by decide +kernel
theorem dJ9_min_f86c9_1 : decode cJ9_min_f86c9 1 = .ok (.lload_n 2, 1) := by decide +kernel
theorem dJ9_min_f86c9_2 : decode cJ9_min_f86c9 2 = .ok (.lcmp, 1) := by decide +kernel
theorem dJ9_min_f86c9_3 : decode cJ9_min_f86c9 3 = .ok (.ifCond .gt 7, 3) := by decide +kernel
theorem dJ9_min_f86c9_6 : decode cJ9_min_f86c9 6 = .ok (.lload_n 0, 1) := by decide +kernel
theorem dJ9_min_f86c9_7 : decode cJ9_min_f86c9 7 = .ok (.goto 4, 3) := by decide +kernel
theorem dJ9_min_f86c9_10 : decode cJ9_min_f86c9 10 = .ok (.lload_n 2, 1) := by decide +kernel
theorem dJ9_min_f86c9_11 : decode cJ9_min_f86c9 11 = .ok (.lreturn, 1) := by decide +kernel
theorem dL_law_0 : decode cL_law 0 = .ok (.new 7, 3) := by decide +kernel
theorem dL_law_3 : decode cL_law 3 = .ok (.dup, 1) := by decide +kernel
theorem dL_law_4 : decode cL_law 4 = .ok (.invokespecial 9, 3) := by decide +kernel
theorem dL_law_7 : decode cL_law 7 = .ok (.astore_n 1, 1) := by decide +kernel
theorem dL_law_8 : decode cL_law 8 = .ok (.new 10, 3) := by decide +kernel
theorem dL_law_11 : decode cL_law 11 = .ok (.dup, 1) := by decide +kernel
theorem dL_law_12 : decode cL_law 12 = .ok (.invokespecial 12, 3) := by decide +kernel
theorem dL_law_15 : decode cL_law 15 = .ok (.astore_n 2, 1) := by decide +kernel
theorem dL_law_16 : decode cL_law 16 = .ok (.iconst 0, 1) := by decide +kernel
theorem dL_law_17 : decode cL_law 17 = .ok (.istore_n 3, 1) := by decide +kernel
theorem dL_law_18 : decode cL_law 18 = .ok (.iload_n 3, 1) := by decide +kernel
theorem dL_law_19 : decode cL_law 19 = .ok (.aload_n 0, 1) := by decide +kernel
theorem dL_law_20 : decode cL_law 20 = .ok (.arraylength, 1) := by decide +kernel
theorem dL_law_21 : decode cL_law 21 = .ok (.bipush 6, 2) := by decide +kernel
theorem dL_law_23 : decode cL_law 23 = .ok (.isub, 1) := by decide +kernel
theorem dL_law_24 : decode cL_law 24 = .ok (.if_icmp .gt 652, 3) := by decide +kernel
theorem dL_law_27 : decode cL_law 27 = .ok (.aload_n 0, 1) := by decide +kernel
theorem dL_law_28 : decode cL_law 28 = .ok (.iload_n 3, 1) := by decide +kernel
theorem dL_law_29 : decode cL_law 29 = .ok (.iaload, 1) := by decide +kernel
theorem dL_law_30 : decode cL_law 30 = .ok (.bipush 31, 2) := by decide +kernel
theorem dL_law_32 : decode cL_law 32 = .ok (.iand, 1) := by decide +kernel
theorem dL_law_33 : decode cL_law 33 = .ok (.tableswitch 637 0 17 #[87, 110, 143, 176, 225, 248, 271, 294, 317, 350, 383, 396, 439, 452, 485, 528, 591, 624], 87) := by decide +kernel
theorem dL_law_120 : decode cL_law 120 = .ok (.aload_n 1, 1) := by decide +kernel
theorem dL_law_121 : decode cL_law 121 = .ok (.aload_n 0, 1) := by decide +kernel
theorem dL_law_122 : decode cL_law 122 = .ok (.iload_n 3, 1) := by decide +kernel
theorem dL_law_123 : decode cL_law 123 = .ok (.iconst 1, 1) := by decide +kernel
theorem dL_law_124 : decode cL_law 124 = .ok (.iadd, 1) := by decide +kernel
theorem dL_law_125 : decode cL_law 125 = .ok (.iaload, 1) := by decide +kernel
theorem dL_law_126 : decode cL_law 126 = .ok (.invokevirtual 13, 3) := by decide +kernel
theorem dL_law_129 : decode cL_law 129 = .ok (.aload_n 2, 1) := by decide +kernel
theorem dL_law_130 : decode cL_law 130 = .ok (.aload_n 0, 1) := by decide +kernel
theorem dL_law_131 : decode cL_law 131 = .ok (.iload_n 3, 1) := by decide +kernel
theorem dL_law_132 : decode cL_law 132 = .ok (.iconst 1, 1) := by decide +kernel
theorem dL_law_133 : decode cL_law 133 = .ok (.iadd, 1) := by decide +kernel
theorem dL_law_134 : decode cL_law 134 = .ok (.iaload, 1) := by decide +kernel
theorem dL_law_135 : decode cL_law 135 = .ok (.invokevirtual 17, 3) := by decide +kernel
theorem dL_law_138 : decode cL_law 138 = .ok (.if_icmp .eq 532, 3) := by decide +kernel
theorem dL_law_141 : decode cL_law 141 = .ok (.iconst 0, 1) := by decide +kernel
theorem dL_law_142 : decode cL_law 142 = .ok (.ireturn, 1) := by decide +kernel
theorem dL_law_143 : decode cL_law 143 = .ok (.aload_n 1, 1) := by decide +kernel
theorem dL_law_144 : decode cL_law 144 = .ok (.aload_n 0, 1) := by decide +kernel
theorem dL_law_145 : decode cL_law 145 = .ok (.iload_n 3, 1) := by decide +kernel
theorem dL_law_146 : decode cL_law 146 = .ok (.iconst 1, 1) := by decide +kernel
theorem dL_law_147 : decode cL_law 147 = .ok (.iadd, 1) := by decide +kernel
theorem dL_law_148 : decode cL_law 148 = .ok (.iaload, 1) := by decide +kernel
theorem dL_law_149 : decode cL_law 149 = .ok (.aload_n 0, 1) := by decide +kernel
theorem dL_law_150 : decode cL_law 150 = .ok (.iload_n 3, 1) := by decide +kernel
theorem dL_law_151 : decode cL_law 151 = .ok (.iconst 2, 1) := by decide +kernel
theorem dL_law_152 : decode cL_law 152 = .ok (.iadd, 1) := by decide +kernel
theorem dL_law_153 : decode cL_law 153 = .ok (.iaload, 1) := by decide +kernel
theorem dL_law_154 : decode cL_law 154 = .ok (.invokevirtual 18, 3) := by decide +kernel
theorem dL_law_157 : decode cL_law 157 = .ok (.aload_n 2, 1) := by decide +kernel
theorem dL_law_158 : decode cL_law 158 = .ok (.aload_n 0, 1) := by decide +kernel
theorem dL_law_159 : decode cL_law 159 = .ok (.iload_n 3, 1) := by decide +kernel
theorem dL_law_160 : decode cL_law 160 = .ok (.iconst 1, 1) := by decide +kernel
theorem dL_law_161 : decode cL_law 161 = .ok (.iadd, 1) := by decide +kernel
theorem dL_law_162 : decode cL_law 162 = .ok (.iaload, 1) := by decide +kernel
theorem dL_law_163 : decode cL_law 163 = .ok (.aload_n 0, 1) := by decide +kernel
theorem dL_law_164 : decode cL_law 164 = .ok (.iload_n 3, 1) := by decide +kernel
theorem dL_law_165 : decode cL_law 165 = .ok (.iconst 2, 1) := by decide +kernel
theorem dL_law_166 : decode cL_law 166 = .ok (.iadd, 1) := by decide +kernel
theorem dL_law_167 : decode cL_law 167 = .ok (.iaload, 1) := by decide +kernel
theorem dL_law_168 : decode cL_law 168 = .ok (.invokevirtual 22, 3) := by decide +kernel
theorem dL_law_171 : decode cL_law 171 = .ok (.if_icmp .eq 499, 3) := by decide +kernel
theorem dL_law_174 : decode cL_law 174 = .ok (.iconst 0, 1) := by decide +kernel
theorem dL_law_175 : decode cL_law 175 = .ok (.ireturn, 1) := by decide +kernel
theorem dL_law_176 : decode cL_law 176 = .ok (.aload_n 1, 1) := by decide +kernel
theorem dL_law_177 : decode cL_law 177 = .ok (.aload_n 0, 1) := by decide +kernel
theorem dL_law_178 : decode cL_law 178 = .ok (.iload_n 3, 1) := by decide +kernel
theorem dL_law_179 : decode cL_law 179 = .ok (.iconst 1, 1) := by decide +kernel
theorem dL_law_180 : decode cL_law 180 = .ok (.iadd, 1) := by decide +kernel
theorem dL_law_181 : decode cL_law 181 = .ok (.iaload, 1) := by decide +kernel
theorem dL_law_182 : decode cL_law 182 = .ok (.aload_n 0, 1) := by decide +kernel
theorem dL_law_183 : decode cL_law 183 = .ok (.iload_n 3, 1) := by decide +kernel
theorem dL_law_184 : decode cL_law 184 = .ok (.iconst 2, 1) := by decide +kernel
theorem dL_law_185 : decode cL_law 185 = .ok (.iadd, 1) := by decide +kernel
theorem dL_law_186 : decode cL_law 186 = .ok (.iaload, 1) := by decide +kernel
theorem dL_law_187 : decode cL_law 187 = .ok (.invokevirtual 23, 3) := by decide +kernel
theorem dL_law_190 : decode cL_law 190 = .ok (.aload_n 2, 1) := by decide +kernel
theorem dL_law_191 : decode cL_law 191 = .ok (.aload_n 0, 1) := by decide +kernel
theorem dL_law_192 : decode cL_law 192 = .ok (.iload_n 3, 1) := by decide +kernel
theorem dL_law_193 : decode cL_law 193 = .ok (.iconst 1, 1) := by decide +kernel
theorem dL_law_194 : decode cL_law 194 = .ok (.iadd, 1) := by decide +kernel
theorem dL_law_195 : decode cL_law 195 = .ok (.iaload, 1) := by decide +kernel
theorem dL_law_196 : decode cL_law 196 = .ok (.aload_n 0, 1) := by decide +kernel
theorem dL_law_197 : decode cL_law 197 = .ok (.iload_n 3, 1) := by decide +kernel
theorem dL_law_198 : decode cL_law 198 = .ok (.iconst 2, 1) := by decide +kernel
theorem dL_law_199 : decode cL_law 199 = .ok (.iadd, 1) := by decide +kernel
theorem dL_law_200 : decode cL_law 200 = .ok (.iaload, 1) := by decide +kernel
theorem dL_law_201 : decode cL_law 201 = .ok (.invokevirtual 26, 3) := by decide +kernel
theorem dL_law_204 : decode cL_law 204 = .ok (.if_icmp .eq 466, 3) := by decide +kernel
theorem dL_law_207 : decode cL_law 207 = .ok (.iconst 0, 1) := by decide +kernel
theorem dL_law_208 : decode cL_law 208 = .ok (.ireturn, 1) := by decide +kernel
theorem dL_law_209 : decode cL_law 209 = .ok (.aload_n 1, 1) := by decide +kernel
theorem dL_law_210 : decode cL_law 210 = .ok (.aload_n 0, 1) := by decide +kernel
theorem dL_law_211 : decode cL_law 211 = .ok (.iload_n 3, 1) := by decide +kernel
theorem dL_law_212 : decode cL_law 212 = .ok (.iconst 1, 1) := by decide +kernel
theorem dL_law_213 : decode cL_law 213 = .ok (.iadd, 1) := by decide +kernel
theorem dL_law_214 : decode cL_law 214 = .ok (.iaload, 1) := by decide +kernel
theorem dL_law_215 : decode cL_law 215 = .ok (.aload_n 0, 1) := by decide +kernel
theorem dL_law_216 : decode cL_law 216 = .ok (.iload_n 3, 1) := by decide +kernel
theorem dL_law_217 : decode cL_law 217 = .ok (.iconst 2, 1) := by decide +kernel
theorem dL_law_218 : decode cL_law 218 = .ok (.iadd, 1) := by decide +kernel
theorem dL_law_219 : decode cL_law 219 = .ok (.iaload, 1) := by decide +kernel
theorem dL_law_220 : decode cL_law 220 = .ok (.ifCond .eq 7, 3) := by decide +kernel
theorem dL_law_223 : decode cL_law 223 = .ok (.iconst 1, 1) := by decide +kernel
theorem dL_law_224 : decode cL_law 224 = .ok (.goto 4, 3) := by decide +kernel
theorem dL_law_227 : decode cL_law 227 = .ok (.iconst 0, 1) := by decide +kernel
theorem dL_law_228 : decode cL_law 228 = .ok (.invokevirtual 27, 3) := by decide +kernel
theorem dL_law_231 : decode cL_law 231 = .ok (.aload_n 2, 1) := by decide +kernel
theorem dL_law_232 : decode cL_law 232 = .ok (.aload_n 0, 1) := by decide +kernel
theorem dL_law_233 : decode cL_law 233 = .ok (.iload_n 3, 1) := by decide +kernel
theorem dL_law_234 : decode cL_law 234 = .ok (.iconst 1, 1) := by decide +kernel
theorem dL_law_235 : decode cL_law 235 = .ok (.iadd, 1) := by decide +kernel
theorem dL_law_236 : decode cL_law 236 = .ok (.iaload, 1) := by decide +kernel
theorem dL_law_237 : decode cL_law 237 = .ok (.aload_n 0, 1) := by decide +kernel
theorem dL_law_238 : decode cL_law 238 = .ok (.iload_n 3, 1) := by decide +kernel
theorem dL_law_239 : decode cL_law 239 = .ok (.iconst 2, 1) := by decide +kernel
theorem dL_law_240 : decode cL_law 240 = .ok (.iadd, 1) := by decide +kernel
theorem dL_law_241 : decode cL_law 241 = .ok (.iaload, 1) := by decide +kernel
theorem dL_law_242 : decode cL_law 242 = .ok (.ifCond .eq 7, 3) := by decide +kernel
theorem dL_law_245 : decode cL_law 245 = .ok (.iconst 1, 1) := by decide +kernel
theorem dL_law_246 : decode cL_law 246 = .ok (.goto 4, 3) := by decide +kernel
theorem dL_law_249 : decode cL_law 249 = .ok (.iconst 0, 1) := by decide +kernel
theorem dL_law_250 : decode cL_law 250 = .ok (.invokevirtual 31, 3) := by decide +kernel
theorem dL_law_253 : decode cL_law 253 = .ok (.if_icmp .eq 417, 3) := by decide +kernel
theorem dL_law_256 : decode cL_law 256 = .ok (.iconst 0, 1) := by decide +kernel
theorem dL_law_257 : decode cL_law 257 = .ok (.ireturn, 1) := by decide +kernel
theorem dL_law_258 : decode cL_law 258 = .ok (.aload_n 1, 1) := by decide +kernel
theorem dL_law_259 : decode cL_law 259 = .ok (.aload_n 0, 1) := by decide +kernel
theorem dL_law_260 : decode cL_law 260 = .ok (.iload_n 3, 1) := by decide +kernel
theorem dL_law_261 : decode cL_law 261 = .ok (.iconst 1, 1) := by decide +kernel
theorem dL_law_262 : decode cL_law 262 = .ok (.iadd, 1) := by decide +kernel
theorem dL_law_263 : decode cL_law 263 = .ok (.iaload, 1) := by decide +kernel
theorem dL_law_264 : decode cL_law 264 = .ok (.invokevirtual 32, 3) := by decide +kernel
theorem dL_law_267 : decode cL_law 267 = .ok (.aload_n 2, 1) := by decide +kernel
theorem dL_law_268 : decode cL_law 268 = .ok (.aload_n 0, 1) := by decide +kernel
theorem dL_law_269 : decode cL_law 269 = .ok (.iload_n 3, 1) := by decide +kernel
theorem dL_law_270 : decode cL_law 270 = .ok (.iconst 1, 1) := by decide +kernel
theorem dL_law_271 : decode cL_law 271 = .ok (.iadd, 1) := by decide +kernel
theorem dL_law_272 : decode cL_law 272 = .ok (.iaload, 1) := by decide +kernel
theorem dL_law_273 : decode cL_law 273 = .ok (.invokevirtual 35, 3) := by decide +kernel
theorem dL_law_276 : decode cL_law 276 = .ok (.if_icmp .eq 394, 3) := by decide +kernel
theorem dL_law_279 : decode cL_law 279 = .ok (.iconst 0, 1) := by decide +kernel
theorem dL_law_280 : decode cL_law 280 = .ok (.ireturn, 1) := by decide +kernel
theorem dL_law_281 : decode cL_law 281 = .ok (.aload_n 1, 1) := by decide +kernel
theorem dL_law_282 : decode cL_law 282 = .ok (.aload_n 0, 1) := by decide +kernel
theorem dL_law_283 : decode cL_law 283 = .ok (.iload_n 3, 1) := by decide +kernel
theorem dL_law_284 : decode cL_law 284 = .ok (.iconst 1, 1) := by decide +kernel
theorem dL_law_285 : decode cL_law 285 = .ok (.iadd, 1) := by decide +kernel
theorem dL_law_286 : decode cL_law 286 = .ok (.iaload, 1) := by decide +kernel
theorem dL_law_287 : decode cL_law 287 = .ok (.invokevirtual 36, 3) := by decide +kernel
theorem dL_law_290 : decode cL_law 290 = .ok (.aload_n 2, 1) := by decide +kernel
theorem dL_law_291 : decode cL_law 291 = .ok (.aload_n 0, 1) := by decide +kernel
theorem dL_law_292 : decode cL_law 292 = .ok (.iload_n 3, 1) := by decide +kernel
theorem dL_law_293 : decode cL_law 293 = .ok (.iconst 1, 1) := by decide +kernel
theorem dL_law_294 : decode cL_law 294 = .ok (.iadd, 1) := by decide +kernel
theorem dL_law_295 : decode cL_law 295 = .ok (.iaload, 1) := by decide +kernel
theorem dL_law_296 : decode cL_law 296 = .ok (.invokevirtual 39, 3) := by decide +kernel
theorem dL_law_299 : decode cL_law 299 = .ok (.if_icmp .eq 371, 3) := by decide +kernel
theorem dL_law_302 : decode cL_law 302 = .ok (.iconst 0, 1) := by decide +kernel
theorem dL_law_303 : decode cL_law 303 = .ok (.ireturn, 1) := by decide +kernel
theorem dL_law_304 : decode cL_law 304 = .ok (.aload_n 1, 1) := by decide +kernel
theorem dL_law_305 : decode cL_law 305 = .ok (.aload_n 0, 1) := by decide +kernel
theorem dL_law_306 : decode cL_law 306 = .ok (.iload_n 3, 1) := by decide +kernel
theorem dL_law_307 : decode cL_law 307 = .ok (.iconst 1, 1) := by decide +kernel
theorem dL_law_308 : decode cL_law 308 = .ok (.iadd, 1) := by decide +kernel
theorem dL_law_309 : decode cL_law 309 = .ok (.iaload, 1) := by decide +kernel
theorem dL_law_310 : decode cL_law 310 = .ok (.invokevirtual 40, 3) := by decide +kernel
theorem dL_law_313 : decode cL_law 313 = .ok (.aload_n 2, 1) := by decide +kernel
theorem dL_law_314 : decode cL_law 314 = .ok (.aload_n 0, 1) := by decide +kernel
theorem dL_law_315 : decode cL_law 315 = .ok (.iload_n 3, 1) := by decide +kernel
theorem dL_law_316 : decode cL_law 316 = .ok (.iconst 1, 1) := by decide +kernel
theorem dL_law_317 : decode cL_law 317 = .ok (.iadd, 1) := by decide +kernel
theorem dL_law_318 : decode cL_law 318 = .ok (.iaload, 1) := by decide +kernel
theorem dL_law_319 : decode cL_law 319 = .ok (.invokevirtual 43, 3) := by decide +kernel
theorem dL_law_322 : decode cL_law 322 = .ok (.if_icmp .eq 348, 3) := by decide +kernel
theorem dL_law_325 : decode cL_law 325 = .ok (.iconst 0, 1) := by decide +kernel
theorem dL_law_326 : decode cL_law 326 = .ok (.ireturn, 1) := by decide +kernel
theorem dL_law_327 : decode cL_law 327 = .ok (.aload_n 1, 1) := by decide +kernel
theorem dL_law_328 : decode cL_law 328 = .ok (.aload_n 0, 1) := by decide +kernel
theorem dL_law_329 : decode cL_law 329 = .ok (.iload_n 3, 1) := by decide +kernel
theorem dL_law_330 : decode cL_law 330 = .ok (.iconst 1, 1) := by decide +kernel
theorem dL_law_331 : decode cL_law 331 = .ok (.iadd, 1) := by decide +kernel
theorem dL_law_332 : decode cL_law 332 = .ok (.iaload, 1) := by decide +kernel
theorem dL_law_333 : decode cL_law 333 = .ok (.invokevirtual 44, 3) := by decide +kernel
theorem dL_law_336 : decode cL_law 336 = .ok (.aload_n 2, 1) := by decide +kernel
theorem dL_law_337 : decode cL_law 337 = .ok (.aload_n 0, 1) := by decide +kernel
theorem dL_law_338 : decode cL_law 338 = .ok (.iload_n 3, 1) := by decide +kernel
theorem dL_law_339 : decode cL_law 339 = .ok (.iconst 1, 1) := by decide +kernel
theorem dL_law_340 : decode cL_law 340 = .ok (.iadd, 1) := by decide +kernel
theorem dL_law_341 : decode cL_law 341 = .ok (.iaload, 1) := by decide +kernel
theorem dL_law_342 : decode cL_law 342 = .ok (.invokevirtual 47, 3) := by decide +kernel
theorem dL_law_345 : decode cL_law 345 = .ok (.if_icmp .eq 325, 3) := by decide +kernel
theorem dL_law_348 : decode cL_law 348 = .ok (.iconst 0, 1) := by decide +kernel
theorem dL_law_349 : decode cL_law 349 = .ok (.ireturn, 1) := by decide +kernel
theorem dL_law_350 : decode cL_law 350 = .ok (.aload_n 1, 1) := by decide +kernel
theorem dL_law_351 : decode cL_law 351 = .ok (.aload_n 0, 1) := by decide +kernel
theorem dL_law_352 : decode cL_law 352 = .ok (.iload_n 3, 1) := by decide +kernel
theorem dL_law_353 : decode cL_law 353 = .ok (.iconst 1, 1) := by decide +kernel
theorem dL_law_354 : decode cL_law 354 = .ok (.iadd, 1) := by decide +kernel
theorem dL_law_355 : decode cL_law 355 = .ok (.iaload, 1) := by decide +kernel
theorem dL_law_356 : decode cL_law 356 = .ok (.aload_n 0, 1) := by decide +kernel
theorem dL_law_357 : decode cL_law 357 = .ok (.iload_n 3, 1) := by decide +kernel
theorem dL_law_358 : decode cL_law 358 = .ok (.iconst 2, 1) := by decide +kernel
theorem dL_law_359 : decode cL_law 359 = .ok (.iadd, 1) := by decide +kernel
theorem dL_law_360 : decode cL_law 360 = .ok (.iaload, 1) := by decide +kernel
theorem dL_law_361 : decode cL_law 361 = .ok (.invokevirtual 48, 3) := by decide +kernel
theorem dL_law_364 : decode cL_law 364 = .ok (.aload_n 2, 1) := by decide +kernel
theorem dL_law_365 : decode cL_law 365 = .ok (.aload_n 0, 1) := by decide +kernel
theorem dL_law_366 : decode cL_law 366 = .ok (.iload_n 3, 1) := by decide +kernel
theorem dL_law_367 : decode cL_law 367 = .ok (.iconst 1, 1) := by decide +kernel
theorem dL_law_368 : decode cL_law 368 = .ok (.iadd, 1) := by decide +kernel
theorem dL_law_369 : decode cL_law 369 = .ok (.iaload, 1) := by decide +kernel
theorem dL_law_370 : decode cL_law 370 = .ok (.aload_n 0, 1) := by decide +kernel
theorem dL_law_371 : decode cL_law 371 = .ok (.iload_n 3, 1) := by decide +kernel
theorem dL_law_372 : decode cL_law 372 = .ok (.iconst 2, 1) := by decide +kernel
theorem dL_law_373 : decode cL_law 373 = .ok (.iadd, 1) := by decide +kernel
theorem dL_law_374 : decode cL_law 374 = .ok (.iaload, 1) := by decide +kernel
theorem dL_law_375 : decode cL_law 375 = .ok (.invokevirtual 51, 3) := by decide +kernel
theorem dL_law_378 : decode cL_law 378 = .ok (.if_icmp .eq 292, 3) := by decide +kernel
theorem dL_law_381 : decode cL_law 381 = .ok (.iconst 0, 1) := by decide +kernel
theorem dL_law_382 : decode cL_law 382 = .ok (.ireturn, 1) := by decide +kernel
theorem dL_law_383 : decode cL_law 383 = .ok (.aload_n 1, 1) := by decide +kernel
theorem dL_law_384 : decode cL_law 384 = .ok (.aload_n 0, 1) := by decide +kernel
theorem dL_law_385 : decode cL_law 385 = .ok (.iload_n 3, 1) := by decide +kernel
theorem dL_law_386 : decode cL_law 386 = .ok (.iconst 1, 1) := by decide +kernel
theorem dL_law_387 : decode cL_law 387 = .ok (.iadd, 1) := by decide +kernel
theorem dL_law_388 : decode cL_law 388 = .ok (.iaload, 1) := by decide +kernel
theorem dL_law_389 : decode cL_law 389 = .ok (.aload_n 0, 1) := by decide +kernel
theorem dL_law_390 : decode cL_law 390 = .ok (.iload_n 3, 1) := by decide +kernel
theorem dL_law_391 : decode cL_law 391 = .ok (.iconst 2, 1) := by decide +kernel
theorem dL_law_392 : decode cL_law 392 = .ok (.iadd, 1) := by decide +kernel
theorem dL_law_393 : decode cL_law 393 = .ok (.iaload, 1) := by decide +kernel
theorem dL_law_394 : decode cL_law 394 = .ok (.invokevirtual 52, 3) := by decide +kernel
theorem dL_law_397 : decode cL_law 397 = .ok (.aload_n 2, 1) := by decide +kernel
theorem dL_law_398 : decode cL_law 398 = .ok (.aload_n 0, 1) := by decide +kernel
theorem dL_law_399 : decode cL_law 399 = .ok (.iload_n 3, 1) := by decide +kernel
theorem dL_law_400 : decode cL_law 400 = .ok (.iconst 1, 1) := by decide +kernel
theorem dL_law_401 : decode cL_law 401 = .ok (.iadd, 1) := by decide +kernel
theorem dL_law_402 : decode cL_law 402 = .ok (.iaload, 1) := by decide +kernel
theorem dL_law_403 : decode cL_law 403 = .ok (.aload_n 0, 1) := by decide +kernel
theorem dL_law_404 : decode cL_law 404 = .ok (.iload_n 3, 1) := by decide +kernel
theorem dL_law_405 : decode cL_law 405 = .ok (.iconst 2, 1) := by decide +kernel
theorem dL_law_406 : decode cL_law 406 = .ok (.iadd, 1) := by decide +kernel
theorem dL_law_407 : decode cL_law 407 = .ok (.iaload, 1) := by decide +kernel
theorem dL_law_408 : decode cL_law 408 = .ok (.invokevirtual 55, 3) := by decide +kernel
theorem dL_law_411 : decode cL_law 411 = .ok (.if_icmp .eq 259, 3) := by decide +kernel
theorem dL_law_414 : decode cL_law 414 = .ok (.iconst 0, 1) := by decide +kernel
theorem dL_law_415 : decode cL_law 415 = .ok (.ireturn, 1) := by decide +kernel
theorem dL_law_416 : decode cL_law 416 = .ok (.aload_n 1, 1) := by decide +kernel
theorem dL_law_417 : decode cL_law 417 = .ok (.invokevirtual 56, 3) := by decide +kernel
theorem dL_law_420 : decode cL_law 420 = .ok (.aload_n 2, 1) := by decide +kernel
theorem dL_law_421 : decode cL_law 421 = .ok (.invokevirtual 60, 3) := by decide +kernel
theorem dL_law_424 : decode cL_law 424 = .ok (.if_icmp .eq 246, 3) := by decide +kernel
theorem dL_law_427 : decode cL_law 427 = .ok (.iconst 0, 1) := by decide +kernel
theorem dL_law_428 : decode cL_law 428 = .ok (.ireturn, 1) := by decide +kernel
theorem dL_law_429 : decode cL_law 429 = .ok (.aload_n 1, 1) := by decide +kernel
theorem dL_law_430 : decode cL_law 430 = .ok (.aload_n 0, 1) := by decide +kernel
theorem dL_law_431 : decode cL_law 431 = .ok (.iload_n 3, 1) := by decide +kernel
theorem dL_law_432 : decode cL_law 432 = .ok (.iconst 1, 1) := by decide +kernel
theorem dL_law_433 : decode cL_law 433 = .ok (.iadd, 1) := by decide +kernel
theorem dL_law_434 : decode cL_law 434 = .ok (.iaload, 1) := by decide +kernel
theorem dL_law_435 : decode cL_law 435 = .ok (.aload_n 0, 1) := by decide +kernel
theorem dL_law_436 : decode cL_law 436 = .ok (.iload_n 3, 1) := by decide +kernel
theorem dL_law_437 : decode cL_law 437 = .ok (.iconst 2, 1) := by decide +kernel
theorem dL_law_438 : decode cL_law 438 = .ok (.iadd, 1) := by decide +kernel
theorem dL_law_439 : decode cL_law 439 = .ok (.iaload, 1) := by decide +kernel
theorem dL_law_440 : decode cL_law 440 = .ok (.aload_n 0, 1) := by decide +kernel
theorem dL_law_441 : decode cL_law 441 = .ok (.iload_n 3, 1) := by decide +kernel
theorem dL_law_442 : decode cL_law 442 = .ok (.iconst 3, 1) := by decide +kernel
theorem dL_law_443 : decode cL_law 443 = .ok (.iadd, 1) := by decide +kernel
theorem dL_law_444 : decode cL_law 444 = .ok (.iaload, 1) := by decide +kernel
theorem dL_law_445 : decode cL_law 445 = .ok (.invokevirtual 61, 3) := by decide +kernel
theorem dL_law_448 : decode cL_law 448 = .ok (.aload_n 2, 1) := by decide +kernel
theorem dL_law_449 : decode cL_law 449 = .ok (.aload_n 0, 1) := by decide +kernel
theorem dL_law_450 : decode cL_law 450 = .ok (.iload_n 3, 1) := by decide +kernel
theorem dL_law_451 : decode cL_law 451 = .ok (.iconst 1, 1) := by decide +kernel
theorem dL_law_452 : decode cL_law 452 = .ok (.iadd, 1) := by decide +kernel
theorem dL_law_453 : decode cL_law 453 = .ok (.iaload, 1) := by decide +kernel
theorem dL_law_454 : decode cL_law 454 = .ok (.aload_n 0, 1) := by decide +kernel
theorem dL_law_455 : decode cL_law 455 = .ok (.iload_n 3, 1) := by decide +kernel
theorem dL_law_456 : decode cL_law 456 = .ok (.iconst 2, 1) := by decide +kernel
theorem dL_law_457 : decode cL_law 457 = .ok (.iadd, 1) := by decide +kernel
theorem dL_law_458 : decode cL_law 458 = .ok (.iaload, 1) := by decide +kernel
theorem dL_law_459 : decode cL_law 459 = .ok (.aload_n 0, 1) := by decide +kernel
theorem dL_law_460 : decode cL_law 460 = .ok (.iload_n 3, 1) := by decide +kernel
theorem dL_law_461 : decode cL_law 461 = .ok (.iconst 3, 1) := by decide +kernel
theorem dL_law_462 : decode cL_law 462 = .ok (.iadd, 1) := by decide +kernel
theorem dL_law_463 : decode cL_law 463 = .ok (.iaload, 1) := by decide +kernel
theorem dL_law_464 : decode cL_law 464 = .ok (.invokevirtual 65, 3) := by decide +kernel
theorem dL_law_467 : decode cL_law 467 = .ok (.if_icmp .eq 203, 3) := by decide +kernel
theorem dL_law_470 : decode cL_law 470 = .ok (.iconst 0, 1) := by decide +kernel
theorem dL_law_471 : decode cL_law 471 = .ok (.ireturn, 1) := by decide +kernel
theorem dL_law_472 : decode cL_law 472 = .ok (.aload_n 1, 1) := by decide +kernel
theorem dL_law_473 : decode cL_law 473 = .ok (.invokevirtual 66, 3) := by decide +kernel
theorem dL_law_476 : decode cL_law 476 = .ok (.aload_n 2, 1) := by decide +kernel
theorem dL_law_477 : decode cL_law 477 = .ok (.invokevirtual 69, 3) := by decide +kernel
theorem dL_law_480 : decode cL_law 480 = .ok (.if_icmp .eq 190, 3) := by decide +kernel
theorem dL_law_483 : decode cL_law 483 = .ok (.iconst 0, 1) := by decide +kernel
theorem dL_law_484 : decode cL_law 484 = .ok (.ireturn, 1) := by decide +kernel
theorem dL_law_485 : decode cL_law 485 = .ok (.aload_n 1, 1) := by decide +kernel
theorem dL_law_486 : decode cL_law 486 = .ok (.aload_n 0, 1) := by decide +kernel
theorem dL_law_487 : decode cL_law 487 = .ok (.iload_n 3, 1) := by decide +kernel
theorem dL_law_488 : decode cL_law 488 = .ok (.iconst 1, 1) := by decide +kernel
theorem dL_law_489 : decode cL_law 489 = .ok (.iadd, 1) := by decide +kernel
theorem dL_law_490 : decode cL_law 490 = .ok (.iaload, 1) := by decide +kernel
theorem dL_law_491 : decode cL_law 491 = .ok (.aload_n 0, 1) := by decide +kernel
theorem dL_law_492 : decode cL_law 492 = .ok (.iload_n 3, 1) := by decide +kernel
theorem dL_law_493 : decode cL_law 493 = .ok (.iconst 2, 1) := by decide +kernel
theorem dL_law_494 : decode cL_law 494 = .ok (.iadd, 1) := by decide +kernel
theorem dL_law_495 : decode cL_law 495 = .ok (.iaload, 1) := by decide +kernel
theorem dL_law_496 : decode cL_law 496 = .ok (.invokevirtual 70, 3) := by decide +kernel
theorem dL_law_499 : decode cL_law 499 = .ok (.aload_n 2, 1) := by decide +kernel
theorem dL_law_500 : decode cL_law 500 = .ok (.aload_n 0, 1) := by decide +kernel
theorem dL_law_501 : decode cL_law 501 = .ok (.iload_n 3, 1) := by decide +kernel
theorem dL_law_502 : decode cL_law 502 = .ok (.iconst 1, 1) := by decide +kernel
theorem dL_law_503 : decode cL_law 503 = .ok (.iadd, 1) := by decide +kernel
theorem dL_law_504 : decode cL_law 504 = .ok (.iaload, 1) := by decide +kernel
theorem dL_law_505 : decode cL_law 505 = .ok (.aload_n 0, 1) := by decide +kernel
theorem dL_law_506 : decode cL_law 506 = .ok (.iload_n 3, 1) := by decide +kernel
theorem dL_law_507 : decode cL_law 507 = .ok (.iconst 2, 1) := by decide +kernel
theorem dL_law_508 : decode cL_law 508 = .ok (.iadd, 1) := by decide +kernel
theorem dL_law_509 : decode cL_law 509 = .ok (.iaload, 1) := by decide +kernel
theorem dL_law_510 : decode cL_law 510 = .ok (.invokevirtual 73, 3) := by decide +kernel
theorem dL_law_513 : decode cL_law 513 = .ok (.if_icmp .eq 157, 3) := by decide +kernel
theorem dL_law_516 : decode cL_law 516 = .ok (.iconst 0, 1) := by decide +kernel
theorem dL_law_517 : decode cL_law 517 = .ok (.ireturn, 1) := by decide +kernel
theorem dL_law_518 : decode cL_law 518 = .ok (.aload_n 1, 1) := by decide +kernel
theorem dL_law_519 : decode cL_law 519 = .ok (.aload_n 0, 1) := by decide +kernel
theorem dL_law_520 : decode cL_law 520 = .ok (.iload_n 3, 1) := by decide +kernel
theorem dL_law_521 : decode cL_law 521 = .ok (.iconst 1, 1) := by decide +kernel
theorem dL_law_522 : decode cL_law 522 = .ok (.iadd, 1) := by decide +kernel
theorem dL_law_523 : decode cL_law 523 = .ok (.iaload, 1) := by decide +kernel
theorem dL_law_524 : decode cL_law 524 = .ok (.aload_n 0, 1) := by decide +kernel
theorem dL_law_525 : decode cL_law 525 = .ok (.iload_n 3, 1) := by decide +kernel
theorem dL_law_526 : decode cL_law 526 = .ok (.iconst 2, 1) := by decide +kernel
theorem dL_law_527 : decode cL_law 527 = .ok (.iadd, 1) := by decide +kernel
theorem dL_law_528 : decode cL_law 528 = .ok (.iaload, 1) := by decide +kernel
theorem dL_law_529 : decode cL_law 529 = .ok (.aload_n 0, 1) := by decide +kernel
theorem dL_law_530 : decode cL_law 530 = .ok (.iload_n 3, 1) := by decide +kernel
theorem dL_law_531 : decode cL_law 531 = .ok (.iconst 3, 1) := by decide +kernel
theorem dL_law_532 : decode cL_law 532 = .ok (.iadd, 1) := by decide +kernel
theorem dL_law_533 : decode cL_law 533 = .ok (.iaload, 1) := by decide +kernel
theorem dL_law_534 : decode cL_law 534 = .ok (.invokevirtual 74, 3) := by decide +kernel
theorem dL_law_537 : decode cL_law 537 = .ok (.aload_n 2, 1) := by decide +kernel
theorem dL_law_538 : decode cL_law 538 = .ok (.aload_n 0, 1) := by decide +kernel
theorem dL_law_539 : decode cL_law 539 = .ok (.iload_n 3, 1) := by decide +kernel
theorem dL_law_540 : decode cL_law 540 = .ok (.iconst 1, 1) := by decide +kernel
theorem dL_law_541 : decode cL_law 541 = .ok (.iadd, 1) := by decide +kernel
theorem dL_law_542 : decode cL_law 542 = .ok (.iaload, 1) := by decide +kernel
theorem dL_law_543 : decode cL_law 543 = .ok (.aload_n 0, 1) := by decide +kernel
theorem dL_law_544 : decode cL_law 544 = .ok (.iload_n 3, 1) := by decide +kernel
theorem dL_law_545 : decode cL_law 545 = .ok (.iconst 2, 1) := by decide +kernel
theorem dL_law_546 : decode cL_law 546 = .ok (.iadd, 1) := by decide +kernel
theorem dL_law_547 : decode cL_law 547 = .ok (.iaload, 1) := by decide +kernel
theorem dL_law_548 : decode cL_law 548 = .ok (.aload_n 0, 1) := by decide +kernel
theorem dL_law_549 : decode cL_law 549 = .ok (.iload_n 3, 1) := by decide +kernel
theorem dL_law_550 : decode cL_law 550 = .ok (.iconst 3, 1) := by decide +kernel
theorem dL_law_551 : decode cL_law 551 = .ok (.iadd, 1) := by decide +kernel
theorem dL_law_552 : decode cL_law 552 = .ok (.iaload, 1) := by decide +kernel
theorem dL_law_553 : decode cL_law 553 = .ok (.invokevirtual 77, 3) := by decide +kernel
theorem dL_law_556 : decode cL_law 556 = .ok (.if_icmp .eq 114, 3) := by decide +kernel
theorem dL_law_559 : decode cL_law 559 = .ok (.iconst 0, 1) := by decide +kernel
theorem dL_law_560 : decode cL_law 560 = .ok (.ireturn, 1) := by decide +kernel
theorem dL_law_561 : decode cL_law 561 = .ok (.aload_n 1, 1) := by decide +kernel
theorem dL_law_562 : decode cL_law 562 = .ok (.aload_n 0, 1) := by decide +kernel
theorem dL_law_563 : decode cL_law 563 = .ok (.iload_n 3, 1) := by decide +kernel
theorem dL_law_564 : decode cL_law 564 = .ok (.iconst 1, 1) := by decide +kernel
theorem dL_law_565 : decode cL_law 565 = .ok (.iadd, 1) := by decide +kernel
theorem dL_law_566 : decode cL_law 566 = .ok (.iaload, 1) := by decide +kernel
theorem dL_law_567 : decode cL_law 567 = .ok (.aload_n 0, 1) := by decide +kernel
theorem dL_law_568 : decode cL_law 568 = .ok (.iload_n 3, 1) := by decide +kernel
theorem dL_law_569 : decode cL_law 569 = .ok (.iconst 2, 1) := by decide +kernel
theorem dL_law_570 : decode cL_law 570 = .ok (.iadd, 1) := by decide +kernel
theorem dL_law_571 : decode cL_law 571 = .ok (.iaload, 1) := by decide +kernel
theorem dL_law_572 : decode cL_law 572 = .ok (.aload_n 0, 1) := by decide +kernel
theorem dL_law_573 : decode cL_law 573 = .ok (.iload_n 3, 1) := by decide +kernel
theorem dL_law_574 : decode cL_law 574 = .ok (.iconst 3, 1) := by decide +kernel
theorem dL_law_575 : decode cL_law 575 = .ok (.iadd, 1) := by decide +kernel
theorem dL_law_576 : decode cL_law 576 = .ok (.iaload, 1) := by decide +kernel
theorem dL_law_577 : decode cL_law 577 = .ok (.aload_n 0, 1) := by decide +kernel
theorem dL_law_578 : decode cL_law 578 = .ok (.iload_n 3, 1) := by decide +kernel
theorem dL_law_579 : decode cL_law 579 = .ok (.iconst 4, 1) := by decide +kernel
theorem dL_law_580 : decode cL_law 580 = .ok (.iadd, 1) := by decide +kernel
theorem dL_law_581 : decode cL_law 581 = .ok (.iaload, 1) := by decide +kernel
theorem dL_law_582 : decode cL_law 582 = .ok (.aload_n 0, 1) := by decide +kernel
theorem dL_law_583 : decode cL_law 583 = .ok (.iload_n 3, 1) := by decide +kernel
theorem dL_law_584 : decode cL_law 584 = .ok (.iconst 5, 1) := by decide +kernel
theorem dL_law_585 : decode cL_law 585 = .ok (.iadd, 1) := by decide +kernel
theorem dL_law_586 : decode cL_law 586 = .ok (.iaload, 1) := by decide +kernel
theorem dL_law_587 : decode cL_law 587 = .ok (.invokevirtual 78, 3) := by decide +kernel
theorem dL_law_590 : decode cL_law 590 = .ok (.aload_n 2, 1) := by decide +kernel
theorem dL_law_591 : decode cL_law 591 = .ok (.aload_n 0, 1) := by decide +kernel
theorem dL_law_592 : decode cL_law 592 = .ok (.iload_n 3, 1) := by decide +kernel
theorem dL_law_593 : decode cL_law 593 = .ok (.iconst 1, 1) := by decide +kernel
theorem dL_law_594 : decode cL_law 594 = .ok (.iadd, 1) := by decide +kernel
theorem dL_law_595 : decode cL_law 595 = .ok (.iaload, 1) := by decide +kernel
theorem dL_law_596 : decode cL_law 596 = .ok (.aload_n 0, 1) := by decide +kernel
theorem dL_law_597 : decode cL_law 597 = .ok (.iload_n 3, 1) := by decide +kernel
theorem dL_law_598 : decode cL_law 598 = .ok (.iconst 2, 1) := by decide +kernel
theorem dL_law_599 : decode cL_law 599 = .ok (.iadd, 1) := by decide +kernel
theorem dL_law_600 : decode cL_law 600 = .ok (.iaload, 1) := by decide +kernel
theorem dL_law_601 : decode cL_law 601 = .ok (.aload_n 0, 1) := by decide +kernel
theorem dL_law_602 : decode cL_law 602 = .ok (.iload_n 3, 1) := by decide +kernel
theorem dL_law_603 : decode cL_law 603 = .ok (.iconst 3, 1) := by decide +kernel
theorem dL_law_604 : decode cL_law 604 = .ok (.iadd, 1) := by decide +kernel
theorem dL_law_605 : decode cL_law 605 = .ok (.iaload, 1) := by decide +kernel
theorem dL_law_606 : decode cL_law 606 = .ok (.aload_n 0, 1) := by decide +kernel
theorem dL_law_607 : decode cL_law 607 = .ok (.iload_n 3, 1) := by decide +kernel
theorem dL_law_608 : decode cL_law 608 = .ok (.iconst 4, 1) := by decide +kernel
theorem dL_law_609 : decode cL_law 609 = .ok (.iadd, 1) := by decide +kernel
theorem dL_law_610 : decode cL_law 610 = .ok (.iaload, 1) := by decide +kernel
theorem dL_law_611 : decode cL_law 611 = .ok (.aload_n 0, 1) := by decide +kernel
theorem dL_law_612 : decode cL_law 612 = .ok (.iload_n 3, 1) := by decide +kernel
theorem dL_law_613 : decode cL_law 613 = .ok (.iconst 5, 1) := by decide +kernel
theorem dL_law_614 : decode cL_law 614 = .ok (.iadd, 1) := by decide +kernel
theorem dL_law_615 : decode cL_law 615 = .ok (.iaload, 1) := by decide +kernel
theorem dL_law_616 : decode cL_law 616 = .ok (.invokevirtual 82, 3) := by decide +kernel
theorem dL_law_619 : decode cL_law 619 = .ok (.if_icmp .eq 51, 3) := by decide +kernel
theorem dL_law_622 : decode cL_law 622 = .ok (.iconst 0, 1) := by decide +kernel
theorem dL_law_623 : decode cL_law 623 = .ok (.ireturn, 1) := by decide +kernel
theorem dL_law_624 : decode cL_law 624 = .ok (.aload_n 1, 1) := by decide +kernel
theorem dL_law_625 : decode cL_law 625 = .ok (.aload_n 0, 1) := by decide +kernel
theorem dL_law_626 : decode cL_law 626 = .ok (.iload_n 3, 1) := by decide +kernel
theorem dL_law_627 : decode cL_law 627 = .ok (.iconst 1, 1) := by decide +kernel
theorem dL_law_628 : decode cL_law 628 = .ok (.iadd, 1) := by decide +kernel
theorem dL_law_629 : decode cL_law 629 = .ok (.iaload, 1) := by decide +kernel
theorem dL_law_630 : decode cL_law 630 = .ok (.aload_n 0, 1) := by decide +kernel
theorem dL_law_631 : decode cL_law 631 = .ok (.iload_n 3, 1) := by decide +kernel
theorem dL_law_632 : decode cL_law 632 = .ok (.iconst 2, 1) := by decide +kernel
theorem dL_law_633 : decode cL_law 633 = .ok (.iadd, 1) := by decide +kernel
theorem dL_law_634 : decode cL_law 634 = .ok (.iaload, 1) := by decide +kernel
theorem dL_law_635 : decode cL_law 635 = .ok (.invokevirtual 83, 3) := by decide +kernel
theorem dL_law_638 : decode cL_law 638 = .ok (.aload_n 2, 1) := by decide +kernel
theorem dL_law_639 : decode cL_law 639 = .ok (.aload_n 0, 1) := by decide +kernel
theorem dL_law_640 : decode cL_law 640 = .ok (.iload_n 3, 1) := by decide +kernel
theorem dL_law_641 : decode cL_law 641 = .ok (.iconst 1, 1) := by decide +kernel
theorem dL_law_642 : decode cL_law 642 = .ok (.iadd, 1) := by decide +kernel
theorem dL_law_643 : decode cL_law 643 = .ok (.iaload, 1) := by decide +kernel
theorem dL_law_644 : decode cL_law 644 = .ok (.aload_n 0, 1) := by decide +kernel
theorem dL_law_645 : decode cL_law 645 = .ok (.iload_n 3, 1) := by decide +kernel
theorem dL_law_646 : decode cL_law 646 = .ok (.iconst 2, 1) := by decide +kernel
theorem dL_law_647 : decode cL_law 647 = .ok (.iadd, 1) := by decide +kernel
theorem dL_law_648 : decode cL_law 648 = .ok (.iaload, 1) := by decide +kernel
theorem dL_law_649 : decode cL_law 649 = .ok (.invokevirtual 86, 3) := by decide +kernel
theorem dL_law_652 : decode cL_law 652 = .ok (.if_icmp .eq 18, 3) := by decide +kernel
theorem dL_law_655 : decode cL_law 655 = .ok (.iconst 0, 1) := by decide +kernel
theorem dL_law_656 : decode cL_law 656 = .ok (.ireturn, 1) := by decide +kernel
theorem dL_law_657 : decode cL_law 657 = .ok (.aload_n 1, 1) := by decide +kernel
theorem dL_law_658 : decode cL_law 658 = .ok (.invokevirtual 87, 3) := by decide +kernel
theorem dL_law_661 : decode cL_law 661 = .ok (.aload_n 2, 1) := by decide +kernel
theorem dL_law_662 : decode cL_law 662 = .ok (.invokevirtual 90, 3) := by decide +kernel
theorem dL_law_665 : decode cL_law 665 = .ok (.if_icmp .eq 5, 3) := by decide +kernel
theorem dL_law_668 : decode cL_law 668 = .ok (.iconst 0, 1) := by decide +kernel
theorem dL_law_669 : decode cL_law 669 = .ok (.ireturn, 1) := by decide +kernel
theorem dL_law_670 : decode cL_law 670 = .ok (.iinc 3 6, 3) := by decide +kernel
theorem dL_law_673 : decode cL_law 673 = .ok (.goto (-655), 3) := by decide +kernel
theorem dL_law_676 : decode cL_law 676 = .ok (.iconst 1, 1) := by decide +kernel
theorem dL_law_677 : decode cL_law 677 = .ok (.ireturn, 1) := by decide +kernel
