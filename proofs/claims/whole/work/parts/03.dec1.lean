theorem dX6_endDraft_8 : decode cX6_endDraft 8 = .ok (.iload 4, 2) := by decide +kernel
theorem dX6_endDraft_10 : decode cX6_endDraft 10 = .ok (.bipush 10, 2) := by decide +kernel
theorem dX6_endDraft_12 : decode cX6_endDraft 12 = .ok (.if_icmp .ge 33, 3) := by decide +kernel
theorem dX6_endDraft_15 : decode cX6_endDraft 15 = .ok (.aload_n 0, 1) := by decide +kernel
theorem dX6_endDraft_16 : decode cX6_endDraft 16 = .ok (.getfield 11, 3) := by decide +kernel
theorem dX6_endDraft_19 : decode cX6_endDraft 19 = .ok (.iload_n 3, 1) := by decide +kernel
theorem dX6_endDraft_20 : decode cX6_endDraft 20 = .ok (.aaload, 1) := by decide +kernel
theorem dX6_endDraft_21 : decode cX6_endDraft 21 = .ok (.iload 4, 2) := by decide +kernel
theorem dX6_endDraft_23 : decode cX6_endDraft 23 = .ok (.aload_n 0, 1) := by decide +kernel
theorem dX6_endDraft_24 : decode cX6_endDraft 24 = .ok (.getfield 27, 3) := by decide +kernel
theorem dX6_endDraft_27 : decode cX6_endDraft 27 = .ok (.iload 4, 2) := by decide +kernel
theorem dX6_endDraft_29 : decode cX6_endDraft 29 = .ok (.iaload, 1) := by decide +kernel
theorem dX6_endDraft_30 : decode cX6_endDraft 30 = .ok (.iastore, 1) := by decide +kernel
theorem dX6_endDraft_31 : decode cX6_endDraft 31 = .ok (.aload_n 0, 1) := by decide +kernel
theorem dX6_endDraft_32 : decode cX6_endDraft 32 = .ok (.getfield 27, 3) := by decide +kernel
theorem dX6_endDraft_35 : decode cX6_endDraft 35 = .ok (.iload 4, 2) := by decide +kernel
theorem dX6_endDraft_37 : decode cX6_endDraft 37 = .ok (.iconst 0, 1) := by decide +kernel
theorem dX6_endDraft_38 : decode cX6_endDraft 38 = .ok (.iastore, 1) := by decide +kernel
theorem dX6_endDraft_39 : decode cX6_endDraft 39 = .ok (.iinc 4 1, 3) := by decide +kernel
theorem dX6_endDraft_42 : decode cX6_endDraft 42 = .ok (.goto (-34), 3) := by decide +kernel
theorem dX6_endDraft_45 : decode cX6_endDraft 45 = .ok (.aload_n 0, 1) := by decide +kernel
theorem dX6_endDraft_46 : decode cX6_endDraft 46 = .ok (.getfield 16, 3) := by decide +kernel
theorem dX6_endDraft_49 : decode cX6_endDraft 49 = .ok (.iload_n 3, 1) := by decide +kernel
theorem dX6_endDraft_50 : decode cX6_endDraft 50 = .ok (.iload_n 1, 1) := by decide +kernel
theorem dX6_endDraft_51 : decode cX6_endDraft 51 = .ok (.iastore, 1) := by decide +kernel
theorem dX6_endDraft_52 : decode cX6_endDraft 52 = .ok (.aload_n 0, 1) := by decide +kernel
theorem dX6_endDraft_53 : decode cX6_endDraft 53 = .ok (.getfield 20, 3) := by decide +kernel
theorem dX6_endDraft_56 : decode cX6_endDraft 56 = .ok (.iload_n 3, 1) := by decide +kernel
theorem dX6_endDraft_57 : decode cX6_endDraft 57 = .ok (.iload_n 2, 1) := by decide +kernel
theorem dX6_endDraft_58 : decode cX6_endDraft 58 = .ok (.iastore, 1) := by decide +kernel
theorem dX6_endDraft_59 : decode cX6_endDraft 59 = .ok (.aload_n 0, 1) := by decide +kernel
theorem dX6_endDraft_60 : decode cX6_endDraft 60 = .ok (.dup, 1) := by decide +kernel
theorem dX6_endDraft_61 : decode cX6_endDraft 61 = .ok (.getfield 34, 3) := by decide +kernel
theorem dX6_endDraft_64 : decode cX6_endDraft 64 = .ok (.iconst 1, 1) := by decide +kernel
theorem dX6_endDraft_65 : decode cX6_endDraft 65 = .ok (.iadd, 1) := by decide +kernel
theorem dX6_endDraft_66 : decode cX6_endDraft 66 = .ok (.putfield 34, 3) := by decide +kernel
theorem dX6_endDraft_69 : decode cX6_endDraft 69 = .ok (.iload_n 3, 1) := by decide +kernel
theorem dX6_endDraft_70 : decode cX6_endDraft 70 = .ok (.ireturn, 1) := by decide +kernel
theorem dX7_init_0 : decode cX7_init 0 = .ok (.aload_n 0, 1) := by decide +kernel
theorem dX7_init_1 : decode cX7_init 1 = .ok (.invokespecial 3, 3) := by decide +kernel
theorem dX7_init_4 : decode cX7_init 4 = .ok (.aload_n 0, 1) := by decide +kernel
theorem dX7_init_5 : decode cX7_init 5 = .ok (.new 9, 3) := by decide +kernel
theorem dX7_init_8 : decode cX7_init 8 = .ok (.dup, 1) := by decide +kernel
theorem dX7_init_9 : decode cX7_init 9 = .ok (.invokespecial 11, 3) := by decide +kernel
theorem dX7_init_12 : decode cX7_init 12 = .ok (.putfield 12, 3) := by decide +kernel
theorem dX7_init_15 : decode cX7_init 15 = .ok (.aload_n 0, 1) := by decide +kernel
theorem dX7_init_16 : decode cX7_init 16 = .ok (.iconst 0, 1) := by decide +kernel
theorem dX7_init_17 : decode cX7_init 17 = .ok (.putfield 18, 3) := by decide +kernel
theorem dX7_init_20 : decode cX7_init 20 = .ok (.aload_n 0, 1) := by decide +kernel
theorem dX7_init_21 : decode cX7_init 21 = .ok (.aload_n 1, 1) := by decide +kernel
theorem dX7_init_22 : decode cX7_init 22 = .ok (.putfield 22, 3) := by decide +kernel
theorem dX7_init_25 : decode cX7_init 25 = .ok (.aload_n 0, 1) := by decide +kernel
theorem dX7_init_26 : decode cX7_init 26 = .ok (.aload_n 2, 1) := by decide +kernel
theorem dX7_init_27 : decode cX7_init 27 = .ok (.putfield 26, 3) := by decide +kernel
theorem dX7_init_30 : decode cX7_init 30 = .ok (.aload_n 0, 1) := by decide +kernel
theorem dX7_init_31 : decode cX7_init 31 = .ok (.aload_n 3, 1) := by decide +kernel
theorem dX7_init_32 : decode cX7_init 32 = .ok (.putfield 30, 3) := by decide +kernel
theorem dX7_init_35 : decode cX7_init 35 = .ok (.return_, 1) := by decide +kernel
theorem dX7_forget_0 : decode cX7_forget 0 = .ok (.aload_n 0, 1) := by decide +kernel
theorem dX7_forget_1 : decode cX7_forget 1 = .ok (.iconst 0, 1) := by decide +kernel
theorem dX7_forget_2 : decode cX7_forget 2 = .ok (.putfield 18, 3) := by decide +kernel
theorem dX7_forget_5 : decode cX7_forget 5 = .ok (.aload_n 0, 1) := by decide +kernel
theorem dX7_forget_6 : decode cX7_forget 6 = .ok (.iconst 0, 1) := by decide +kernel
theorem dX7_forget_7 : decode cX7_forget 7 = .ok (.putfield 34, 3) := by decide +kernel
theorem dX7_forget_10 : decode cX7_forget 10 = .ok (.aload_n 0, 1) := by decide +kernel
theorem dX7_forget_11 : decode cX7_forget 11 = .ok (.iconst 0, 1) := by decide +kernel
theorem dX7_forget_12 : decode cX7_forget 12 = .ok (.putfield 37, 3) := by decide +kernel
theorem dX7_forget_15 : decode cX7_forget 15 = .ok (.aload_n 0, 1) := by decide +kernel
theorem dX7_forget_16 : decode cX7_forget 16 = .ok (.iconst 0, 1) := by decide +kernel
theorem dX7_forget_17 : decode cX7_forget 17 = .ok (.putfield 40, 3) := by decide +kernel
theorem dX7_forget_20 : decode cX7_forget 20 = .ok (.aload_n 0, 1) := by decide +kernel
theorem dX7_forget_21 : decode cX7_forget 21 = .ok (.iconst 0, 1) := by decide +kernel
theorem dX7_forget_22 : decode cX7_forget 22 = .ok (.putfield 43, 3) := by decide +kernel
theorem dX7_forget_25 : decode cX7_forget 25 = .ok (.aload_n 0, 1) := by decide +kernel
theorem dX7_forget_26 : decode cX7_forget 26 = .ok (.getfield 30, 3) := by decide +kernel
theorem dX7_forget_29 : decode cX7_forget 29 = .ok (.invokevirtual 46, 3) := by decide +kernel
theorem dX7_forget_32 : decode cX7_forget 32 = .ok (.return_, 1) := by decide +kernel
theorem dX7_begin_0 : decode cX7_begin 0 = .ok (.aload_n 0, 1) := by decide +kernel
theorem dX7_begin_1 : decode cX7_begin 1 = .ok (.iconst 1, 1) := by decide +kernel
theorem dX7_begin_2 : decode cX7_begin 2 = .ok (.putfield 18, 3) := by decide +kernel
theorem dX7_begin_5 : decode cX7_begin 5 = .ok (.aload_n 0, 1) := by decide +kernel
theorem dX7_begin_6 : decode cX7_begin 6 = .ok (.getfield 26, 3) := by decide +kernel
theorem dX7_begin_9 : decode cX7_begin 9 = .ok (.aload_n 0, 1) := by decide +kernel
theorem dX7_begin_10 : decode cX7_begin 10 = .ok (.getfield 22, 3) := by decide +kernel
theorem dX7_begin_13 : decode cX7_begin 13 = .ok (.invokevirtual 51, 3) := by decide +kernel
theorem dX7_begin_16 : decode cX7_begin 16 = .ok (.aload_n 0, 1) := by decide +kernel
theorem dX7_begin_17 : decode cX7_begin 17 = .ok (.getfield 30, 3) := by decide +kernel
theorem dX7_begin_20 : decode cX7_begin 20 = .ok (.bipush (-2), 2) := by decide +kernel
theorem dX7_begin_22 : decode cX7_begin 22 = .ok (.invokevirtual 57, 3) := by decide +kernel
theorem dX7_begin_25 : decode cX7_begin 25 = .ok (.aload_n 0, 1) := by decide +kernel
theorem dX7_begin_26 : decode cX7_begin 26 = .ok (.getfield 12, 3) := by decide +kernel
theorem dX7_begin_29 : decode cX7_begin 29 = .ok (.aload_n 0, 1) := by decide +kernel
theorem dX7_begin_30 : decode cX7_begin 30 = .ok (.getfield 22, 3) := by decide +kernel
theorem dX7_begin_33 : decode cX7_begin 33 = .ok (.invokevirtual 61, 3) := by decide +kernel
theorem dX7_begin_36 : decode cX7_begin 36 = .ok (.aload_n 0, 1) := by decide +kernel
theorem dX7_begin_37 : decode cX7_begin 37 = .ok (.invokevirtual 64, 3) := by decide +kernel
theorem dX7_begin_40 : decode cX7_begin 40 = .ok (.return_, 1) := by decide +kernel
theorem dX7_setSplitBounds_0 : decode cX7_setSplitBounds 0 = .ok (.aload_n 0, 1) := by decide +kernel
theorem dX7_setSplitBounds_1 : decode cX7_setSplitBounds 1 = .ok (.getfield 12, 3) := by decide +kernel
theorem dX7_setSplitBounds_4 : decode cX7_setSplitBounds 4 = .ok (.aload_n 0, 1) := by decide +kernel
theorem dX7_setSplitBounds_5 : decode cX7_setSplitBounds 5 = .ok (.getfield 30, 3) := by decide +kernel
theorem dX7_setSplitBounds_8 : decode cX7_setSplitBounds 8 = .ok (.aload_n 0, 1) := by decide +kernel
theorem dX7_setSplitBounds_9 : decode cX7_setSplitBounds 9 = .ok (.getfield 22, 3) := by decide +kernel
theorem dX7_setSplitBounds_12 : decode cX7_setSplitBounds 12 = .ok (.getfield 67, 3) := by decide +kernel
theorem dX7_setSplitBounds_15 : decode cX7_setSplitBounds 15 = .ok (.aload_n 0, 1) := by decide +kernel
theorem dX7_setSplitBounds_16 : decode cX7_setSplitBounds 16 = .ok (.getfield 30, 3) := by decide +kernel
theorem dX7_setSplitBounds_19 : decode cX7_setSplitBounds 19 = .ok (.getfield 72, 3) := by decide +kernel
theorem dX7_setSplitBounds_22 : decode cX7_setSplitBounds 22 = .ok (.aload_n 0, 1) := by decide +kernel
theorem dX7_setSplitBounds_23 : decode cX7_setSplitBounds 23 = .ok (.getfield 30, 3) := by decide +kernel
theorem dX7_setSplitBounds_26 : decode cX7_setSplitBounds 26 = .ok (.getfield 75, 3) := by decide +kernel
theorem dX7_setSplitBounds_29 : decode cX7_setSplitBounds 29 = .ok (.invokevirtual 79, 3) := by decide +kernel
theorem dX7_setSplitBounds_32 : decode cX7_setSplitBounds 32 = .ok (.return_, 1) := by decide +kernel
theorem dX7_doStep_0 : decode cX7_doStep 0 = .ok (.aload_n 0, 1) := by decide +kernel
theorem dX7_doStep_1 : decode cX7_doStep 1 = .ok (.dup, 1) := by decide +kernel
theorem dX7_doStep_2 : decode cX7_doStep 2 = .ok (.getfield 34, 3) := by decide +kernel
theorem dX7_doStep_5 : decode cX7_doStep 5 = .ok (.iconst 1, 1) := by decide +kernel
theorem dX7_doStep_6 : decode cX7_doStep 6 = .ok (.iadd, 1) := by decide +kernel
theorem dX7_doStep_7 : decode cX7_doStep 7 = .ok (.putfield 34, 3) := by decide +kernel
theorem dX7_doStep_10 : decode cX7_doStep 10 = .ok (.aload_n 0, 1) := by decide +kernel
theorem dX7_doStep_11 : decode cX7_doStep 11 = .ok (.invokevirtual 83, 3) := by decide +kernel
theorem dX7_doStep_14 : decode cX7_doStep 14 = .ok (.istore_n 1, 1) := by decide +kernel
theorem dX7_doStep_15 : decode cX7_doStep 15 = .ok (.iload_n 1, 1) := by decide +kernel
theorem dX7_doStep_16 : decode cX7_doStep 16 = .ok (.ifCond .ge 26, 3) := by decide +kernel
theorem dX7_doStep_19 : decode cX7_doStep 19 = .ok (.aload_n 0, 1) := by decide +kernel
theorem dX7_doStep_20 : decode cX7_doStep 20 = .ok (.invokevirtual 87, 3) := by decide +kernel
theorem dX7_doStep_23 : decode cX7_doStep 23 = .ok (.istore_n 2, 1) := by decide +kernel
theorem dX7_doStep_24 : decode cX7_doStep 24 = .ok (.iload_n 2, 1) := by decide +kernel
theorem dX7_doStep_25 : decode cX7_doStep 25 = .ok (.ifCond .lt 11, 3) := by decide +kernel
theorem dX7_doStep_28 : decode cX7_doStep 28 = .ok (.aload_n 0, 1) := by decide +kernel
theorem dX7_doStep_29 : decode cX7_doStep 29 = .ok (.iload_n 2, 1) := by decide +kernel
theorem dX7_doStep_30 : decode cX7_doStep 30 = .ok (.invokevirtual 90, 3) := by decide +kernel
theorem dX7_doStep_33 : decode cX7_doStep 33 = .ok (.goto 8, 3) := by decide +kernel
theorem dX7_doStep_36 : decode cX7_doStep 36 = .ok (.aload_n 0, 1) := by decide +kernel
theorem dX7_doStep_37 : decode cX7_doStep 37 = .ok (.iconst 2, 1) := by decide +kernel
theorem dX7_doStep_38 : decode cX7_doStep 38 = .ok (.putfield 18, 3) := by decide +kernel
theorem dX7_doStep_41 : decode cX7_doStep 41 = .ok (.return_, 1) := by decide +kernel
theorem dX7_doStep_42 : decode cX7_doStep 42 = .ok (.aload_n 0, 1) := by decide +kernel
theorem dX7_doStep_43 : decode cX7_doStep 43 = .ok (.getfield 26, 3) := by decide +kernel
theorem dX7_doStep_46 : decode cX7_doStep 46 = .ok (.iload_n 1, 1) := by decide +kernel
theorem dX7_doStep_47 : decode cX7_doStep 47 = .ok (.invokevirtual 93, 3) := by decide +kernel
theorem dX7_doStep_50 : decode cX7_doStep 50 = .ok (.istore_n 2, 1) := by decide +kernel
theorem dX7_doStep_51 : decode cX7_doStep 51 = .ok (.aload_n 0, 1) := by decide +kernel
theorem dX7_doStep_52 : decode cX7_doStep 52 = .ok (.iload_n 1, 1) := by decide +kernel
theorem dX7_doStep_53 : decode cX7_doStep 53 = .ok (.iload_n 2, 1) := by decide +kernel
theorem dX7_doStep_54 : decode cX7_doStep 54 = .ok (.invokevirtual 97, 3) := by decide +kernel
theorem dX7_doStep_57 : decode cX7_doStep 57 = .ok (.istore_n 3, 1) := by decide +kernel
theorem dX7_doStep_58 : decode cX7_doStep 58 = .ok (.aload_n 0, 1) := by decide +kernel
theorem dX7_doStep_59 : decode cX7_doStep 59 = .ok (.iload_n 2, 1) := by decide +kernel
theorem dX7_doStep_60 : decode cX7_doStep 60 = .ok (.iload_n 3, 1) := by decide +kernel
theorem dX7_doStep_61 : decode cX7_doStep 61 = .ok (.invokevirtual 101, 3) := by decide +kernel
theorem dX7_doStep_64 : decode cX7_doStep 64 = .ok (.istore 4, 2) := by decide +kernel
theorem dX7_doStep_66 : decode cX7_doStep 66 = .ok (.iload 4, 2) := by decide +kernel
theorem dX7_doStep_68 : decode cX7_doStep 68 = .ok (.ifCond .lt 49, 3) := by decide +kernel
theorem dX7_doStep_71 : decode cX7_doStep 71 = .ok (.aload_n 0, 1) := by decide +kernel
theorem dX7_doStep_72 : decode cX7_doStep 72 = .ok (.dup, 1) := by decide +kernel
theorem dX7_doStep_73 : decode cX7_doStep 73 = .ok (.getfield 37, 3) := by decide +kernel
theorem dX7_doStep_76 : decode cX7_doStep 76 = .ok (.iconst 1, 1) := by decide +kernel
theorem dX7_doStep_77 : decode cX7_doStep 77 = .ok (.iadd, 1) := by decide +kernel
theorem dX7_doStep_78 : decode cX7_doStep 78 = .ok (.putfield 37, 3) := by decide +kernel
theorem dX7_doStep_81 : decode cX7_doStep 81 = .ok (.aload_n 0, 1) := by decide +kernel
theorem dX7_doStep_82 : decode cX7_doStep 82 = .ok (.getfield 26, 3) := by decide +kernel
theorem dX7_doStep_85 : decode cX7_doStep 85 = .ok (.iload_n 2, 1) := by decide +kernel
theorem dX7_doStep_86 : decode cX7_doStep 86 = .ok (.iload 4, 2) := by decide +kernel
theorem dX7_doStep_88 : decode cX7_doStep 88 = .ok (.iload_n 3, 1) := by decide +kernel
theorem dX7_doStep_89 : decode cX7_doStep 89 = .ok (.ifCond .ge 15, 3) := by decide +kernel
theorem dX7_doStep_92 : decode cX7_doStep 92 = .ok (.aload_n 0, 1) := by decide +kernel
theorem dX7_doStep_93 : decode cX7_doStep 93 = .ok (.getfield 12, 3) := by decide +kernel
theorem dX7_doStep_96 : decode cX7_doStep 96 = .ok (.getfield 104, 3) := by decide +kernel
theorem dX7_doStep_99 : decode cX7_doStep 99 = .ok (.iload_n 1, 1) := by decide +kernel
theorem dX7_doStep_100 : decode cX7_doStep 100 = .ok (.laload, 1) := by decide +kernel
theorem dX7_doStep_101 : decode cX7_doStep 101 = .ok (.goto 12, 3) := by decide +kernel
theorem dX7_doStep_104 : decode cX7_doStep 104 = .ok (.aload_n 0, 1) := by decide +kernel
theorem dX7_doStep_105 : decode cX7_doStep 105 = .ok (.getfield 12, 3) := by decide +kernel
theorem dX7_doStep_108 : decode cX7_doStep 108 = .ok (.getfield 107, 3) := by decide +kernel
theorem dX7_doStep_111 : decode cX7_doStep 111 = .ok (.iload_n 1, 1) := by decide +kernel
theorem dX7_doStep_112 : decode cX7_doStep 112 = .ok (.laload, 1) := by decide +kernel
theorem dX7_doStep_113 : decode cX7_doStep 113 = .ok (.invokevirtual 110, 3) := by decide +kernel
theorem dX7_doStep_116 : decode cX7_doStep 116 = .ok (.return_, 1) := by decide +kernel
theorem dX7_doStep_117 : decode cX7_doStep 117 = .ok (.aload_n 0, 1) := by decide +kernel
theorem dX7_doStep_118 : decode cX7_doStep 118 = .ok (.dup, 1) := by decide +kernel
theorem dX7_doStep_119 : decode cX7_doStep 119 = .ok (.getfield 40, 3) := by decide +kernel
theorem dX7_doStep_122 : decode cX7_doStep 122 = .ok (.iconst 1, 1) := by decide +kernel
theorem dX7_doStep_123 : decode cX7_doStep 123 = .ok (.iadd, 1) := by decide +kernel
theorem dX7_doStep_124 : decode cX7_doStep 124 = .ok (.putfield 40, 3) := by decide +kernel
theorem dX7_doStep_127 : decode cX7_doStep 127 = .ok (.aload_n 0, 1) := by decide +kernel
theorem dX7_doStep_128 : decode cX7_doStep 128 = .ok (.iload_n 2, 1) := by decide +kernel
theorem dX7_doStep_129 : decode cX7_doStep 129 = .ok (.iload_n 3, 1) := by decide +kernel
theorem dX7_doStep_130 : decode cX7_doStep 130 = .ok (.invokevirtual 114, 3) := by decide +kernel
theorem dX7_doStep_133 : decode cX7_doStep 133 = .ok (.aload_n 0, 1) := by decide +kernel
theorem dX7_doStep_134 : decode cX7_doStep 134 = .ok (.invokevirtual 118, 3) := by decide +kernel
theorem dX7_doStep_137 : decode cX7_doStep 137 = .ok (.return_, 1) := by decide +kernel
theorem dX7_firstBeyond_0 : decode cX7_firstBeyond 0 = .ok (.iconst 0, 1) := by decide +kernel
theorem dX7_firstBeyond_1 : decode cX7_firstBeyond 1 = .ok (.istore_n 1, 1) := by decide +kernel
theorem dX7_firstBeyond_2 : decode cX7_firstBeyond 2 = .ok (.iload_n 1, 1) := by decide +kernel
theorem dX7_firstBeyond_3 : decode cX7_firstBeyond 3 = .ok (.aload_n 0, 1) := by decide +kernel
theorem dX7_firstBeyond_4 : decode cX7_firstBeyond 4 = .ok (.getfield 26, 3) := by decide +kernel
theorem dX7_firstBeyond_7 : decode cX7_firstBeyond 7 = .ok (.invokevirtual 121, 3) := by decide +kernel
theorem dX7_firstBeyond_10 : decode cX7_firstBeyond 10 = .ok (.if_icmp .ge 33, 3) := by decide +kernel
theorem dX7_firstBeyond_13 : decode cX7_firstBeyond 13 = .ok (.aload_n 0, 1) := by decide +kernel
theorem dX7_firstBeyond_14 : decode cX7_firstBeyond 14 = .ok (.getfield 26, 3) := by decide +kernel
theorem dX7_firstBeyond_17 : decode cX7_firstBeyond 17 = .ok (.iload_n 1, 1) := by decide +kernel
theorem dX7_firstBeyond_18 : decode cX7_firstBeyond 18 = .ok (.invokevirtual 93, 3) := by decide +kernel
theorem dX7_firstBeyond_21 : decode cX7_firstBeyond 21 = .ok (.istore_n 2, 1) := by decide +kernel
theorem dX7_firstBeyond_22 : decode cX7_firstBeyond 22 = .ok (.iload_n 2, 1) := by decide +kernel
theorem dX7_firstBeyond_23 : decode cX7_firstBeyond 23 = .ok (.ifCond .lt 14, 3) := by decide +kernel
theorem dX7_firstBeyond_26 : decode cX7_firstBeyond 26 = .ok (.aload_n 0, 1) := by decide +kernel
theorem dX7_firstBeyond_27 : decode cX7_firstBeyond 27 = .ok (.iload_n 1, 1) := by decide +kernel
theorem dX7_firstBeyond_28 : decode cX7_firstBeyond 28 = .ok (.iload_n 2, 1) := by decide +kernel
theorem dX7_firstBeyond_29 : decode cX7_firstBeyond 29 = .ok (.invokevirtual 97, 3) := by decide +kernel
theorem dX7_firstBeyond_32 : decode cX7_firstBeyond 32 = .ok (.ifCond .eq 5, 3) := by decide +kernel
theorem dX7_firstBeyond_35 : decode cX7_firstBeyond 35 = .ok (.iload_n 1, 1) := by decide +kernel
theorem dX7_firstBeyond_36 : decode cX7_firstBeyond 36 = .ok (.ireturn, 1) := by decide +kernel
theorem dX7_firstBeyond_37 : decode cX7_firstBeyond 37 = .ok (.iinc 1 1, 3) := by decide +kernel
theorem dX7_firstBeyond_40 : decode cX7_firstBeyond 40 = .ok (.goto (-38), 3) := by decide +kernel
theorem dX7_firstBeyond_43 : decode cX7_firstBeyond 43 = .ok (.bipush (-2), 2) := by decide +kernel
theorem dX7_firstBeyond_45 : decode cX7_firstBeyond 45 = .ok (.ireturn, 1) := by decide +kernel
theorem dX7_firstNotWhole_0 : decode cX7_firstNotWhole 0 = .ok (.iconst 0, 1) := by decide +kernel
theorem dX7_firstNotWhole_1 : decode cX7_firstNotWhole 1 = .ok (.istore_n 1, 1) := by decide +kernel
theorem dX7_firstNotWhole_2 : decode cX7_firstNotWhole 2 = .ok (.iload_n 1, 1) := by decide +kernel
theorem dX7_firstNotWhole_3 : decode cX7_firstNotWhole 3 = .ok (.aload_n 0, 1) := by decide +kernel
theorem dX7_firstNotWhole_4 : decode cX7_firstNotWhole 4 = .ok (.getfield 22, 3) := by decide +kernel
theorem dX7_firstNotWhole_7 : decode cX7_firstNotWhole 7 = .ok (.getfield 67, 3) := by decide +kernel
theorem dX7_firstNotWhole_10 : decode cX7_firstNotWhole 10 = .ok (.if_icmp .ge 47, 3) := by decide +kernel
theorem dX7_firstNotWhole_13 : decode cX7_firstNotWhole 13 = .ok (.aload_n 0, 1) := by decide +kernel
theorem dX7_firstNotWhole_14 : decode cX7_firstNotWhole 14 = .ok (.getfield 26, 3) := by decide +kernel
theorem dX7_firstNotWhole_17 : decode cX7_firstNotWhole 17 = .ok (.iload_n 1, 1) := by decide +kernel
theorem dX7_firstNotWhole_18 : decode cX7_firstNotWhole 18 = .ok (.invokevirtual 93, 3) := by decide +kernel
theorem dX7_firstNotWhole_21 : decode cX7_firstNotWhole 21 = .ok (.istore_n 2, 1) := by decide +kernel
theorem dX7_firstNotWhole_22 : decode cX7_firstNotWhole 22 = .ok (.aload_n 0, 1) := by decide +kernel
theorem dX7_firstNotWhole_23 : decode cX7_firstNotWhole 23 = .ok (.getfield 22, 3) := by decide +kernel
theorem dX7_firstNotWhole_26 : decode cX7_firstNotWhole 26 = .ok (.getfield 124, 3) := by decide +kernel
theorem dX7_firstNotWhole_29 : decode cX7_firstNotWhole 29 = .ok (.iload_n 1, 1) := by decide +kernel
theorem dX7_firstNotWhole_30 : decode cX7_firstNotWhole 30 = .ok (.baload, 1) := by decide +kernel
theorem dX7_firstNotWhole_31 : decode cX7_firstNotWhole 31 = .ok (.ifCond .eq 20, 3) := by decide +kernel
theorem dX7_firstNotWhole_34 : decode cX7_firstNotWhole 34 = .ok (.iload_n 2, 1) := by decide +kernel
theorem dX7_firstNotWhole_35 : decode cX7_firstNotWhole 35 = .ok (.ifCond .lt 16, 3) := by decide +kernel
theorem dX7_firstNotWhole_38 : decode cX7_firstNotWhole 38 = .ok (.aload_n 0, 1) := by decide +kernel
theorem dX7_firstNotWhole_39 : decode cX7_firstNotWhole 39 = .ok (.getfield 26, 3) := by decide +kernel
theorem dX7_firstNotWhole_42 : decode cX7_firstNotWhole 42 = .ok (.iload_n 2, 1) := by decide +kernel
theorem dX7_firstNotWhole_43 : decode cX7_firstNotWhole 43 = .ok (.invokevirtual 128, 3) := by decide +kernel
theorem dX7_firstNotWhole_46 : decode cX7_firstNotWhole 46 = .ok (.ifCond .ne 5, 3) := by decide +kernel
theorem dX7_firstNotWhole_49 : decode cX7_firstNotWhole 49 = .ok (.iload_n 1, 1) := by decide +kernel
theorem dX7_firstNotWhole_50 : decode cX7_firstNotWhole 50 = .ok (.ireturn, 1) := by decide +kernel
theorem dX7_firstNotWhole_51 : decode cX7_firstNotWhole 51 = .ok (.iinc 1 1, 3) := by decide +kernel
theorem dX7_firstNotWhole_54 : decode cX7_firstNotWhole 54 = .ok (.goto (-52), 3) := by decide +kernel
theorem dX7_firstNotWhole_57 : decode cX7_firstNotWhole 57 = .ok (.bipush (-2), 2) := by decide +kernel
theorem dX7_firstNotWhole_59 : decode cX7_firstNotWhole 59 = .ok (.ireturn, 1) := by decide +kernel
theorem dX7_sideBeyond_0 : decode cX7_sideBeyond 0 = .ok (.aload_n 0, 1) := by decide +kernel
theorem dX7_sideBeyond_1 : decode cX7_sideBeyond 1 = .ok (.getfield 12, 3) := by decide +kernel
theorem dX7_sideBeyond_4 : decode cX7_sideBeyond 4 = .ok (.getfield 132, 3) := by decide +kernel
theorem dX7_sideBeyond_7 : decode cX7_sideBeyond 7 = .ok (.iload_n 1, 1) := by decide +kernel
theorem dX7_sideBeyond_8 : decode cX7_sideBeyond 8 = .ok (.baload, 1) := by decide +kernel
theorem dX7_sideBeyond_9 : decode cX7_sideBeyond 9 = .ok (.ifCond .eq 25, 3) := by decide +kernel
theorem dX7_sideBeyond_12 : decode cX7_sideBeyond 12 = .ok (.aload_n 0, 1) := by decide +kernel
theorem dX7_sideBeyond_13 : decode cX7_sideBeyond 13 = .ok (.getfield 26, 3) := by decide +kernel
theorem dX7_sideBeyond_16 : decode cX7_sideBeyond 16 = .ok (.iload_n 2, 1) := by decide +kernel
theorem dX7_sideBeyond_17 : decode cX7_sideBeyond 17 = .ok (.aload_n 0, 1) := by decide +kernel
theorem dX7_sideBeyond_18 : decode cX7_sideBeyond 18 = .ok (.getfield 12, 3) := by decide +kernel
theorem dX7_sideBeyond_21 : decode cX7_sideBeyond 21 = .ok (.getfield 104, 3) := by decide +kernel
theorem dX7_sideBeyond_24 : decode cX7_sideBeyond 24 = .ok (.iload_n 1, 1) := by decide +kernel
theorem dX7_sideBeyond_25 : decode cX7_sideBeyond 25 = .ok (.laload, 1) := by decide +kernel
theorem dX7_sideBeyond_26 : decode cX7_sideBeyond 26 = .ok (.invokevirtual 135, 3) := by decide +kernel
theorem dX7_sideBeyond_29 : decode cX7_sideBeyond 29 = .ok (.ifCond .ge 5, 3) := by decide +kernel
theorem dX7_sideBeyond_32 : decode cX7_sideBeyond 32 = .ok (.iconst (-1), 1) := by decide +kernel
theorem dX7_sideBeyond_33 : decode cX7_sideBeyond 33 = .ok (.ireturn, 1) := by decide +kernel
theorem dX7_sideBeyond_34 : decode cX7_sideBeyond 34 = .ok (.aload_n 0, 1) := by decide +kernel
theorem dX7_sideBeyond_35 : decode cX7_sideBeyond 35 = .ok (.getfield 12, 3) := by decide +kernel
theorem dX7_sideBeyond_38 : decode cX7_sideBeyond 38 = .ok (.getfield 139, 3) := by decide +kernel
theorem dX7_sideBeyond_41 : decode cX7_sideBeyond 41 = .ok (.iload_n 1, 1) := by decide +kernel
theorem dX7_sideBeyond_42 : decode cX7_sideBeyond 42 = .ok (.baload, 1) := by decide +kernel
theorem dX7_sideBeyond_43 : decode cX7_sideBeyond 43 = .ok (.ifCond .eq 27, 3) := by decide +kernel
theorem dX7_sideBeyond_46 : decode cX7_sideBeyond 46 = .ok (.aload_n 0, 1) := by decide +kernel
theorem dX7_sideBeyond_47 : decode cX7_sideBeyond 47 = .ok (.getfield 26, 3) := by decide +kernel
theorem dX7_sideBeyond_50 : decode cX7_sideBeyond 50 = .ok (.iload_n 2, 1) := by decide +kernel
theorem dX7_sideBeyond_51 : decode cX7_sideBeyond 51 = .ok (.aload_n 0, 1) := by decide +kernel
theorem dX7_sideBeyond_52 : decode cX7_sideBeyond 52 = .ok (.getfield 12, 3) := by decide +kernel
theorem dX7_sideBeyond_55 : decode cX7_sideBeyond 55 = .ok (.getfield 107, 3) := by decide +kernel
theorem dX7_sideBeyond_58 : decode cX7_sideBeyond 58 = .ok (.iload_n 1, 1) := by decide +kernel
theorem dX7_sideBeyond_59 : decode cX7_sideBeyond 59 = .ok (.laload, 1) := by decide +kernel
theorem dX7_sideBeyond_60 : decode cX7_sideBeyond 60 = .ok (.invokevirtual 135, 3) := by decide +kernel
theorem dX7_sideBeyond_63 : decode cX7_sideBeyond 63 = .ok (.ifCond .le 7, 3) := by decide +kernel
theorem dX7_sideBeyond_66 : decode cX7_sideBeyond 66 = .ok (.iconst 1, 1) := by decide +kernel
theorem dX7_sideBeyond_67 : decode cX7_sideBeyond 67 = .ok (.goto 4, 3) := by decide +kernel
theorem dX7_sideBeyond_70 : decode cX7_sideBeyond 70 = .ok (.iconst 0, 1) := by decide +kernel
theorem dX7_sideBeyond_71 : decode cX7_sideBeyond 71 = .ok (.ireturn, 1) := by decide +kernel
theorem dX7_enteringColumn_0 : decode cX7_enteringColumn 0 = .ok (.iconst 0, 1) := by decide +kernel
theorem dX7_enteringColumn_1 : decode cX7_enteringColumn 1 = .ok (.istore_n 3, 1) := by decide +kernel
theorem dX7_enteringColumn_2 : decode cX7_enteringColumn 2 = .ok (.iload_n 3, 1) := by decide +kernel
theorem dX7_enteringColumn_3 : decode cX7_enteringColumn 3 = .ok (.aload_n 0, 1) := by decide +kernel
theorem dX7_enteringColumn_4 : decode cX7_enteringColumn 4 = .ok (.getfield 26, 3) := by decide +kernel
theorem dX7_enteringColumn_7 : decode cX7_enteringColumn 7 = .ok (.invokevirtual 121, 3) := by decide +kernel
theorem dX7_enteringColumn_10 : decode cX7_enteringColumn 10 = .ok (.if_icmp .ge 132, 3) := by decide +kernel
theorem dX7_enteringColumn_13 : decode cX7_enteringColumn 13 = .ok (.aload_n 0, 1) := by decide +kernel
theorem dX7_enteringColumn_14 : decode cX7_enteringColumn 14 = .ok (.getfield 26, 3) := by decide +kernel
theorem dX7_enteringColumn_17 : decode cX7_enteringColumn 17 = .ok (.iload_n 3, 1) := by decide +kernel
theorem dX7_enteringColumn_18 : decode cX7_enteringColumn 18 = .ok (.invokevirtual 142, 3) := by decide +kernel
theorem dX7_enteringColumn_21 : decode cX7_enteringColumn 21 = .ok (.istore 4, 2) := by decide +kernel
theorem dX7_enteringColumn_23 : decode cX7_enteringColumn 23 = .ok (.iload 4, 2) := by decide +kernel
theorem dX7_enteringColumn_25 : decode cX7_enteringColumn 25 = .ok (.ifCond .lt 22, 3) := by decide +kernel
theorem dX7_enteringColumn_28 : decode cX7_enteringColumn 28 = .ok (.iload_n 2, 1) := by decide +kernel
theorem dX7_enteringColumn_29 : decode cX7_enteringColumn 29 = .ok (.ineg, 1) := by decide +kernel
theorem dX7_enteringColumn_30 : decode cX7_enteringColumn 30 = .ok (.aload_n 0, 1) := by decide +kernel
theorem dX7_enteringColumn_31 : decode cX7_enteringColumn 31 = .ok (.getfield 26, 3) := by decide +kernel
theorem dX7_enteringColumn_34 : decode cX7_enteringColumn 34 = .ok (.iload_n 1, 1) := by decide +kernel
theorem dX7_enteringColumn_35 : decode cX7_enteringColumn 35 = .ok (.iload 4, 2) := by decide +kernel
theorem dX7_enteringColumn_37 : decode cX7_enteringColumn 37 = .ok (.invokevirtual 145, 3) := by decide +kernel
theorem dX7_enteringColumn_40 : decode cX7_enteringColumn 40 = .ok (.getfield 149, 3) := by decide +kernel
theorem dX7_enteringColumn_43 : decode cX7_enteringColumn 43 = .ok (.imul, 1) := by decide +kernel
theorem dX7_enteringColumn_44 : decode cX7_enteringColumn 44 = .ok (.goto 4, 3) := by decide +kernel
theorem dX7_enteringColumn_47 : decode cX7_enteringColumn 47 = .ok (.iconst 0, 1) := by decide +kernel
theorem dX7_enteringColumn_48 : decode cX7_enteringColumn 48 = .ok (.istore 5, 2) := by decide +kernel
theorem dX7_enteringColumn_50 : decode cX7_enteringColumn 50 = .ok (.iload 5, 2) := by decide +kernel
theorem dX7_enteringColumn_52 : decode cX7_enteringColumn 52 = .ok (.ifCond .le 41, 3) := by decide +kernel
theorem dX7_enteringColumn_55 : decode cX7_enteringColumn 55 = .ok (.aload_n 0, 1) := by decide +kernel
theorem dX7_enteringColumn_56 : decode cX7_enteringColumn 56 = .ok (.getfield 12, 3) := by decide +kernel
theorem dX7_enteringColumn_59 : decode cX7_enteringColumn 59 = .ok (.getfield 139, 3) := by decide +kernel
theorem dX7_enteringColumn_62 : decode cX7_enteringColumn 62 = .ok (.iload_n 3, 1) := by decide +kernel
theorem dX7_enteringColumn_63 : decode cX7_enteringColumn 63 = .ok (.baload, 1) := by decide +kernel
theorem dX7_enteringColumn_64 : decode cX7_enteringColumn 64 = .ok (.ifCond .eq 26, 3) := by decide +kernel
theorem dX7_enteringColumn_67 : decode cX7_enteringColumn 67 = .ok (.aload_n 0, 1) := by decide +kernel
theorem dX7_enteringColumn_68 : decode cX7_enteringColumn 68 = .ok (.getfield 26, 3) := by decide +kernel
theorem dX7_enteringColumn_71 : decode cX7_enteringColumn 71 = .ok (.getfield 154, 3) := by decide +kernel
theorem dX7_enteringColumn_74 : decode cX7_enteringColumn 74 = .ok (.iload 4, 2) := by decide +kernel
theorem dX7_enteringColumn_76 : decode cX7_enteringColumn 76 = .ok (.laload, 1) := by decide +kernel
theorem dX7_enteringColumn_77 : decode cX7_enteringColumn 77 = .ok (.aload_n 0, 1) := by decide +kernel
theorem dX7_enteringColumn_78 : decode cX7_enteringColumn 78 = .ok (.getfield 12, 3) := by decide +kernel
theorem dX7_enteringColumn_81 : decode cX7_enteringColumn 81 = .ok (.getfield 107, 3) := by decide +kernel
theorem dX7_enteringColumn_84 : decode cX7_enteringColumn 84 = .ok (.iload_n 3, 1) := by decide +kernel
theorem dX7_enteringColumn_85 : decode cX7_enteringColumn 85 = .ok (.laload, 1) := by decide +kernel
theorem dX7_enteringColumn_86 : decode cX7_enteringColumn 86 = .ok (.lcmp, 1) := by decide +kernel
theorem dX7_enteringColumn_87 : decode cX7_enteringColumn 87 = .ok (.ifCond .ge 6, 3) := by decide +kernel
theorem dX7_enteringColumn_90 : decode cX7_enteringColumn 90 = .ok (.iload 4, 2) := by decide +kernel
theorem dX7_enteringColumn_92 : decode cX7_enteringColumn 92 = .ok (.ireturn, 1) := by decide +kernel
theorem dX7_enteringColumn_93 : decode cX7_enteringColumn 93 = .ok (.iload 5, 2) := by decide +kernel
theorem dX7_enteringColumn_95 : decode cX7_enteringColumn 95 = .ok (.ifCond .ge 41, 3) := by decide +kernel
theorem dX7_enteringColumn_98 : decode cX7_enteringColumn 98 = .ok (.aload_n 0, 1) := by decide +kernel
theorem dX7_enteringColumn_99 : decode cX7_enteringColumn 99 = .ok (.getfield 12, 3) := by decide +kernel
theorem dX7_enteringColumn_102 : decode cX7_enteringColumn 102 = .ok (.getfield 132, 3) := by decide +kernel
theorem dX7_enteringColumn_105 : decode cX7_enteringColumn 105 = .ok (.iload_n 3, 1) := by decide +kernel
theorem dX7_enteringColumn_106 : decode cX7_enteringColumn 106 = .ok (.baload, 1) := by decide +kernel
theorem dX7_enteringColumn_107 : decode cX7_enteringColumn 107 = .ok (.ifCond .eq 26, 3) := by decide +kernel
theorem dX7_enteringColumn_110 : decode cX7_enteringColumn 110 = .ok (.aload_n 0, 1) := by decide +kernel
theorem dX7_enteringColumn_111 : decode cX7_enteringColumn 111 = .ok (.getfield 26, 3) := by decide +kernel
theorem dX7_enteringColumn_114 : decode cX7_enteringColumn 114 = .ok (.getfield 154, 3) := by decide +kernel
theorem dX7_enteringColumn_117 : decode cX7_enteringColumn 117 = .ok (.iload 4, 2) := by decide +kernel
theorem dX7_enteringColumn_119 : decode cX7_enteringColumn 119 = .ok (.laload, 1) := by decide +kernel
theorem dX7_enteringColumn_120 : decode cX7_enteringColumn 120 = .ok (.aload_n 0, 1) := by decide +kernel
theorem dX7_enteringColumn_121 : decode cX7_enteringColumn 121 = .ok (.getfield 12, 3) := by decide +kernel
theorem dX7_enteringColumn_124 : decode cX7_enteringColumn 124 = .ok (.getfield 104, 3) := by decide +kernel
theorem dX7_enteringColumn_127 : decode cX7_enteringColumn 127 = .ok (.iload_n 3, 1) := by decide +kernel
theorem dX7_enteringColumn_128 : decode cX7_enteringColumn 128 = .ok (.laload, 1) := by decide +kernel
theorem dX7_enteringColumn_129 : decode cX7_enteringColumn 129 = .ok (.lcmp, 1) := by decide +kernel
theorem dX7_enteringColumn_130 : decode cX7_enteringColumn 130 = .ok (.ifCond .le 6, 3) := by decide +kernel
theorem dX7_enteringColumn_133 : decode cX7_enteringColumn 133 = .ok (.iload 4, 2) := by decide +kernel
theorem dX7_enteringColumn_135 : decode cX7_enteringColumn 135 = .ok (.ireturn, 1) := by decide +kernel
theorem dX7_enteringColumn_136 : decode cX7_enteringColumn 136 = .ok (.iinc 3 1, 3) := by decide +kernel
theorem dX7_enteringColumn_139 : decode cX7_enteringColumn 139 = .ok (.goto (-137), 3) := by decide +kernel
theorem dX7_enteringColumn_142 : decode cX7_enteringColumn 142 = .ok (.bipush (-2), 2) := by decide +kernel
theorem dX7_enteringColumn_144 : decode cX7_enteringColumn 144 = .ok (.ireturn, 1) := by decide +kernel
theorem dX7_closeLeaf_0 : decode cX7_closeLeaf 0 = .ok (.aload_n 0, 1) := by decide +kernel
theorem dX7_closeLeaf_1 : decode cX7_closeLeaf 1 = .ok (.getfield 30, 3) := by decide +kernel
theorem dX7_closeLeaf_4 : decode cX7_closeLeaf 4 = .ok (.aload_n 0, 1) := by decide +kernel
theorem dX7_closeLeaf_5 : decode cX7_closeLeaf 5 = .ok (.getfield 30, 3) := by decide +kernel
theorem dX7_closeLeaf_8 : decode cX7_closeLeaf 8 = .ok (.getfield 72, 3) := by decide +kernel
theorem dX7_closeLeaf_11 : decode cX7_closeLeaf 11 = .ok (.invokevirtual 157, 3) := by decide +kernel
theorem dX7_closeLeaf_14 : decode cX7_closeLeaf 14 = .ok (.astore_n 3, 1) := by decide +kernel
theorem dX7_closeLeaf_15 : decode cX7_closeLeaf 15 = .ok (.aload_n 3, 1) := by decide +kernel
theorem dX7_closeLeaf_16 : decode cX7_closeLeaf 16 = .ok (.ifnonnull 4, 3) := by decide +kernel
theorem dX7_closeLeaf_19 : decode cX7_closeLeaf 19 = .ok (.return_, 1) := by decide +kernel
theorem dX7_closeLeaf_20 : decode cX7_closeLeaf 20 = .ok (.aload_n 0, 1) := by decide +kernel
theorem dX7_closeLeaf_21 : decode cX7_closeLeaf 21 = .ok (.getfield 30, 3) := by decide +kernel
theorem dX7_closeLeaf_24 : decode cX7_closeLeaf 24 = .ok (.getfield 161, 3) := by decide +kernel
theorem dX7_closeLeaf_27 : decode cX7_closeLeaf 27 = .ok (.aload_n 0, 1) := by decide +kernel
theorem dX7_closeLeaf_28 : decode cX7_closeLeaf 28 = .ok (.getfield 30, 3) := by decide +kernel
theorem dX7_closeLeaf_31 : decode cX7_closeLeaf 31 = .ok (.getfield 72, 3) := by decide +kernel
theorem dX7_closeLeaf_34 : decode cX7_closeLeaf 34 = .ok (.iconst 1, 1) := by decide +kernel
theorem dX7_closeLeaf_35 : decode cX7_closeLeaf 35 = .ok (.bastore, 1) := by decide +kernel
theorem dX7_closeLeaf_36 : decode cX7_closeLeaf 36 = .ok (.aload_n 0, 1) := by decide +kernel
theorem dX7_closeLeaf_37 : decode cX7_closeLeaf 37 = .ok (.getfield 26, 3) := by decide +kernel
theorem dX7_closeLeaf_40 : decode cX7_closeLeaf 40 = .ok (.getfield 164, 3) := by decide +kernel
theorem dX7_closeLeaf_43 : decode cX7_closeLeaf 43 = .ok (.astore 4, 2) := by decide +kernel
theorem dX7_closeLeaf_45 : decode cX7_closeLeaf 45 = .ok (.aload_n 3, 1) := by decide +kernel
theorem dX7_closeLeaf_46 : decode cX7_closeLeaf 46 = .ok (.aload_n 0, 1) := by decide +kernel
theorem dX7_closeLeaf_47 : decode cX7_closeLeaf 47 = .ok (.getfield 26, 3) := by decide +kernel
theorem dX7_closeLeaf_50 : decode cX7_closeLeaf 50 = .ok (.getfield 168, 3) := by decide +kernel
theorem dX7_closeLeaf_53 : decode cX7_closeLeaf 53 = .ok (.iload_n 1, 1) := by decide +kernel
theorem dX7_closeLeaf_54 : decode cX7_closeLeaf 54 = .ok (.iaload, 1) := by decide +kernel
theorem dX7_closeLeaf_55 : decode cX7_closeLeaf 55 = .ok (.aload_n 0, 1) := by decide +kernel
theorem dX7_closeLeaf_56 : decode cX7_closeLeaf 56 = .ok (.getfield 22, 3) := by decide +kernel
theorem dX7_closeLeaf_59 : decode cX7_closeLeaf 59 = .ok (.getfield 67, 3) := by decide +kernel
theorem dX7_closeLeaf_62 : decode cX7_closeLeaf 62 = .ok (.iload_n 2, 1) := by decide +kernel
theorem dX7_closeLeaf_63 : decode cX7_closeLeaf 63 = .ok (.invokevirtual 172, 3) := by decide +kernel
theorem dX7_closeLeaf_66 : decode cX7_closeLeaf 66 = .ok (.aload 4, 2) := by decide +kernel
theorem dX7_closeLeaf_68 : decode cX7_closeLeaf 68 = .ok (.aload 4, 2) := by decide +kernel
theorem dX7_closeLeaf_70 : decode cX7_closeLeaf 70 = .ok (.iload_n 2, 1) := by decide +kernel
theorem dX7_closeLeaf_71 : decode cX7_closeLeaf 71 = .ok (.invokevirtual 178, 3) := by decide +kernel
theorem dX7_closeLeaf_74 : decode cX7_closeLeaf 74 = .ok (.iconst 0, 1) := by decide +kernel
theorem dX7_closeLeaf_75 : decode cX7_closeLeaf 75 = .ok (.istore 5, 2) := by decide +kernel
theorem dX7_closeLeaf_77 : decode cX7_closeLeaf 77 = .ok (.iload 5, 2) := by decide +kernel
theorem dX7_closeLeaf_79 : decode cX7_closeLeaf 79 = .ok (.aload_n 0, 1) := by decide +kernel
theorem dX7_closeLeaf_80 : decode cX7_closeLeaf 80 = .ok (.getfield 22, 3) := by decide +kernel
theorem dX7_closeLeaf_83 : decode cX7_closeLeaf 83 = .ok (.getfield 67, 3) := by decide +kernel
theorem dX7_closeLeaf_86 : decode cX7_closeLeaf 86 = .ok (.if_icmp .ge 72, 3) := by decide +kernel
theorem dX7_closeLeaf_89 : decode cX7_closeLeaf 89 = .ok (.aload_n 0, 1) := by decide +kernel
theorem dX7_closeLeaf_90 : decode cX7_closeLeaf 90 = .ok (.getfield 26, 3) := by decide +kernel
theorem dX7_closeLeaf_93 : decode cX7_closeLeaf 93 = .ok (.iload_n 1, 1) := by decide +kernel
theorem dX7_closeLeaf_94 : decode cX7_closeLeaf 94 = .ok (.iload 5, 2) := by decide +kernel
theorem dX7_closeLeaf_96 : decode cX7_closeLeaf 96 = .ok (.invokevirtual 145, 3) := by decide +kernel
theorem dX7_closeLeaf_99 : decode cX7_closeLeaf 99 = .ok (.astore 6, 2) := by decide +kernel
theorem dX7_closeLeaf_101 : decode cX7_closeLeaf 101 = .ok (.iload_n 2, 1) := by decide +kernel
theorem dX7_closeLeaf_102 : decode cX7_closeLeaf 102 = .ok (.ineg, 1) := by decide +kernel
theorem dX7_closeLeaf_103 : decode cX7_closeLeaf 103 = .ok (.aload 6, 2) := by decide +kernel
theorem dX7_closeLeaf_105 : decode cX7_closeLeaf 105 = .ok (.getfield 149, 3) := by decide +kernel
theorem dX7_closeLeaf_108 : decode cX7_closeLeaf 108 = .ok (.imul, 1) := by decide +kernel
theorem dX7_closeLeaf_109 : decode cX7_closeLeaf 109 = .ok (.istore 7, 2) := by decide +kernel
theorem dX7_closeLeaf_111 : decode cX7_closeLeaf 111 = .ok (.iload 7, 2) := by decide +kernel
theorem dX7_closeLeaf_113 : decode cX7_closeLeaf 113 = .ok (.ifCond .eq 39, 3) := by decide +kernel
theorem dX7_closeLeaf_116 : decode cX7_closeLeaf 116 = .ok (.aload_n 0, 1) := by decide +kernel
theorem dX7_closeLeaf_117 : decode cX7_closeLeaf 117 = .ok (.getfield 26, 3) := by decide +kernel
theorem dX7_closeLeaf_120 : decode cX7_closeLeaf 120 = .ok (.getfield 184, 3) := by decide +kernel
theorem dX7_closeLeaf_123 : decode cX7_closeLeaf 123 = .ok (.iload 5, 2) := by decide +kernel
theorem dX7_closeLeaf_125 : decode cX7_closeLeaf 125 = .ok (.iaload, 1) := by decide +kernel
theorem dX7_closeLeaf_126 : decode cX7_closeLeaf 126 = .ok (.istore 8, 2) := by decide +kernel
theorem dX7_closeLeaf_128 : decode cX7_closeLeaf 128 = .ok (.aload_n 3, 1) := by decide +kernel
theorem dX7_closeLeaf_129 : decode cX7_closeLeaf 129 = .ok (.iload 8, 2) := by decide +kernel
theorem dX7_closeLeaf_131 : decode cX7_closeLeaf 131 = .ok (.aload_n 0, 1) := by decide +kernel
theorem dX7_closeLeaf_132 : decode cX7_closeLeaf 132 = .ok (.getfield 22, 3) := by decide +kernel
theorem dX7_closeLeaf_135 : decode cX7_closeLeaf 135 = .ok (.getfield 67, 3) := by decide +kernel
theorem dX7_closeLeaf_138 : decode cX7_closeLeaf 138 = .ok (.iload 7, 2) := by decide +kernel
theorem dX7_closeLeaf_140 : decode cX7_closeLeaf 140 = .ok (.invokevirtual 172, 3) := by decide +kernel
theorem dX7_closeLeaf_143 : decode cX7_closeLeaf 143 = .ok (.aload 6, 2) := by decide +kernel
theorem dX7_closeLeaf_145 : decode cX7_closeLeaf 145 = .ok (.aload 4, 2) := by decide +kernel
theorem dX7_closeLeaf_147 : decode cX7_closeLeaf 147 = .ok (.iload_n 2, 1) := by decide +kernel
theorem dX7_closeLeaf_148 : decode cX7_closeLeaf 148 = .ok (.ineg, 1) := by decide +kernel
theorem dX7_closeLeaf_149 : decode cX7_closeLeaf 149 = .ok (.invokevirtual 178, 3) := by decide +kernel
theorem dX7_closeLeaf_152 : decode cX7_closeLeaf 152 = .ok (.iinc 5 1, 3) := by decide +kernel
theorem dX7_closeLeaf_155 : decode cX7_closeLeaf 155 = .ok (.goto (-78), 3) := by decide +kernel
theorem dX7_closeLeaf_158 : decode cX7_closeLeaf 158 = .ok (.return_, 1) := by decide +kernel
theorem dX7_goBack_0 : decode cX7_goBack 0 = .ok (.aload_n 0, 1) := by decide +kernel
theorem dX7_goBack_1 : decode cX7_goBack 1 = .ok (.getfield 30, 3) := by decide +kernel
theorem dX7_goBack_4 : decode cX7_goBack 4 = .ok (.invokevirtual 187, 3) := by decide +kernel
theorem dX7_goBack_7 : decode cX7_goBack 7 = .ok (.istore_n 1, 1) := by decide +kernel
theorem dX7_goBack_8 : decode cX7_goBack 8 = .ok (.iload_n 1, 1) := by decide +kernel
theorem dX7_goBack_9 : decode cX7_goBack 9 = .ok (.ifCond .ge 18, 3) := by decide +kernel
theorem dX7_goBack_12 : decode cX7_goBack 12 = .ok (.aload_n 0, 1) := by decide +kernel
theorem dX7_goBack_13 : decode cX7_goBack 13 = .ok (.iconst 3, 1) := by decide +kernel
theorem dX7_goBack_14 : decode cX7_goBack 14 = .ok (.putfield 18, 3) := by decide +kernel
theorem dX7_goBack_17 : decode cX7_goBack 17 = .ok (.aload_n 0, 1) := by decide +kernel
theorem dX7_goBack_18 : decode cX7_goBack 18 = .ok (.getfield 30, 3) := by decide +kernel
theorem dX7_goBack_21 : decode cX7_goBack 21 = .ok (.bipush (-2), 2) := by decide +kernel
theorem dX7_goBack_23 : decode cX7_goBack 23 = .ok (.putfield 72, 3) := by decide +kernel
theorem dX7_goBack_26 : decode cX7_goBack 26 = .ok (.return_, 1) := by decide +kernel
theorem dX7_goBack_27 : decode cX7_goBack 27 = .ok (.aload_n 0, 1) := by decide +kernel
theorem dX7_goBack_28 : decode cX7_goBack 28 = .ok (.getfield 30, 3) := by decide +kernel
theorem dX7_goBack_31 : decode cX7_goBack 31 = .ok (.iload_n 1, 1) := by decide +kernel
theorem dX7_goBack_32 : decode cX7_goBack 32 = .ok (.invokevirtual 57, 3) := by decide +kernel
theorem dX7_goBack_35 : decode cX7_goBack 35 = .ok (.aload_n 0, 1) := by decide +kernel
theorem dX7_goBack_36 : decode cX7_goBack 36 = .ok (.invokevirtual 64, 3) := by decide +kernel
theorem dX7_goBack_39 : decode cX7_goBack 39 = .ok (.aload_n 0, 1) := by decide +kernel
theorem dX7_goBack_40 : decode cX7_goBack 40 = .ok (.getfield 30, 3) := by decide +kernel
theorem dX7_goBack_43 : decode cX7_goBack 43 = .ok (.getfield 190, 3) := by decide +kernel
theorem dX7_goBack_46 : decode cX7_goBack 46 = .ok (.iload_n 1, 1) := by decide +kernel
theorem dX7_goBack_47 : decode cX7_goBack 47 = .ok (.iaload, 1) := by decide +kernel
theorem dX7_goBack_48 : decode cX7_goBack 48 = .ok (.istore_n 2, 1) := by decide +kernel
theorem dX7_goBack_49 : decode cX7_goBack 49 = .ok (.aload_n 0, 1) := by decide +kernel
theorem dX7_goBack_50 : decode cX7_goBack 50 = .ok (.getfield 26, 3) := by decide +kernel
theorem dX7_goBack_53 : decode cX7_goBack 53 = .ok (.iload_n 2, 1) := by decide +kernel
theorem dX7_goBack_54 : decode cX7_goBack 54 = .ok (.invokevirtual 142, 3) := by decide +kernel
theorem dX7_goBack_57 : decode cX7_goBack 57 = .ok (.istore_n 3, 1) := by decide +kernel
theorem dX7_goBack_58 : decode cX7_goBack 58 = .ok (.iload_n 3, 1) := by decide +kernel
theorem dX7_goBack_59 : decode cX7_goBack 59 = .ok (.ifCond .lt 42, 3) := by decide +kernel
theorem dX7_goBack_62 : decode cX7_goBack 62 = .ok (.aload_n 0, 1) := by decide +kernel
theorem dX7_goBack_63 : decode cX7_goBack 63 = .ok (.getfield 26, 3) := by decide +kernel
theorem dX7_goBack_66 : decode cX7_goBack 66 = .ok (.getfield 154, 3) := by decide +kernel
theorem dX7_goBack_69 : decode cX7_goBack 69 = .ok (.iload_n 3, 1) := by decide +kernel
theorem dX7_goBack_70 : decode cX7_goBack 70 = .ok (.laload, 1) := by decide +kernel
theorem dX7_goBack_71 : decode cX7_goBack 71 = .ok (.aload_n 0, 1) := by decide +kernel
theorem dX7_goBack_72 : decode cX7_goBack 72 = .ok (.getfield 12, 3) := by decide +kernel
theorem dX7_goBack_75 : decode cX7_goBack 75 = .ok (.getfield 104, 3) := by decide +kernel
theorem dX7_goBack_78 : decode cX7_goBack 78 = .ok (.iload_n 2, 1) := by decide +kernel
theorem dX7_goBack_79 : decode cX7_goBack 79 = .ok (.laload, 1) := by decide +kernel
theorem dX7_goBack_80 : decode cX7_goBack 80 = .ok (.lcmp, 1) := by decide +kernel
theorem dX7_goBack_81 : decode cX7_goBack 81 = .ok (.ifCond .ge 20, 3) := by decide +kernel
theorem dX7_goBack_84 : decode cX7_goBack 84 = .ok (.aload_n 0, 1) := by decide +kernel
theorem dX7_goBack_85 : decode cX7_goBack 85 = .ok (.getfield 26, 3) := by decide +kernel
theorem dX7_goBack_88 : decode cX7_goBack 88 = .ok (.iload_n 3, 1) := by decide +kernel
theorem dX7_goBack_89 : decode cX7_goBack 89 = .ok (.aload_n 0, 1) := by decide +kernel
theorem dX7_goBack_90 : decode cX7_goBack 90 = .ok (.getfield 12, 3) := by decide +kernel
theorem dX7_goBack_93 : decode cX7_goBack 93 = .ok (.getfield 104, 3) := by decide +kernel
theorem dX7_goBack_96 : decode cX7_goBack 96 = .ok (.iload_n 2, 1) := by decide +kernel
theorem dX7_goBack_97 : decode cX7_goBack 97 = .ok (.laload, 1) := by decide +kernel
theorem dX7_goBack_98 : decode cX7_goBack 98 = .ok (.invokevirtual 193, 3) := by decide +kernel
theorem dX7_goBack_101 : decode cX7_goBack 101 = .ok (.return_, 1) := by decide +kernel
theorem dX7_split_0 : decode cX7_split 0 = .ok (.aload_n 0, 1) := by decide +kernel
theorem dX7_split_1 : decode cX7_split 1 = .ok (.getfield 26, 3) := by decide +kernel
theorem dX7_split_4 : decode cX7_split 4 = .ok (.aload_n 0, 1) := by decide +kernel
theorem dX7_split_5 : decode cX7_split 5 = .ok (.getfield 26, 3) := by decide +kernel
theorem dX7_split_8 : decode cX7_split 8 = .ok (.iload_n 1, 1) := by decide +kernel
theorem dX7_split_9 : decode cX7_split 9 = .ok (.invokevirtual 93, 3) := by decide +kernel
theorem dX7_split_12 : decode cX7_split 12 = .ok (.invokevirtual 197, 3) := by decide +kernel
theorem dX7_split_15 : decode cX7_split 15 = .ok (.lstore_n 2, 1) := by decide +kernel
theorem dX7_split_16 : decode cX7_split 16 = .ok (.lload_n 2, 1) := by decide +kernel
theorem dX7_split_17 : decode cX7_split 17 = .ok (.ldc2_w 201, 3) := by decide +kernel
theorem dX7_split_20 : decode cX7_split 20 = .ok (.lcmp, 1) := by decide +kernel
theorem dX7_split_21 : decode cX7_split 21 = .ok (.ifCond .gt 11, 3) := by decide +kernel
theorem dX7_split_24 : decode cX7_split 24 = .ok (.lload_n 2, 1) := by decide +kernel
theorem dX7_split_25 : decode cX7_split 25 = .ok (.ldc2_w 203, 3) := by decide +kernel
theorem dX7_split_28 : decode cX7_split 28 = .ok (.lcmp, 1) := by decide +kernel
theorem dX7_split_29 : decode cX7_split 29 = .ok (.ifCond .ge 7, 3) := by decide +kernel
theorem dX7_split_32 : decode cX7_split 32 = .ok (.iconst 1, 1) := by decide +kernel
theorem dX7_split_33 : decode cX7_split 33 = .ok (.goto 4, 3) := by decide +kernel
theorem dX7_split_36 : decode cX7_split 36 = .ok (.iconst 0, 1) := by decide +kernel
theorem dX7_split_37 : decode cX7_split 37 = .ok (.istore 4, 2) := by decide +kernel
theorem dX7_split_39 : decode cX7_split 39 = .ok (.iload 4, 2) := by decide +kernel
theorem dX7_split_41 : decode cX7_split 41 = .ok (.ifCond .ne 32, 3) := by decide +kernel
theorem dX7_split_44 : decode cX7_split 44 = .ok (.aload_n 0, 1) := by decide +kernel
theorem dX7_split_45 : decode cX7_split 45 = .ok (.getfield 43, 3) := by decide +kernel
theorem dX7_split_48 : decode cX7_split 48 = .ok (.sipush 150, 3) := by decide +kernel
theorem dX7_split_51 : decode cX7_split 51 = .ok (.if_icmp .ge 22, 3) := by decide +kernel
theorem dX7_split_54 : decode cX7_split 54 = .ok (.aload_n 0, 1) := by decide +kernel
theorem dX7_split_55 : decode cX7_split 55 = .ok (.getfield 30, 3) := by decide +kernel
theorem dX7_split_58 : decode cX7_split 58 = .ok (.aload_n 0, 1) := by decide +kernel
theorem dX7_split_59 : decode cX7_split 59 = .ok (.getfield 30, 3) := by decide +kernel
theorem dX7_split_62 : decode cX7_split 62 = .ok (.getfield 72, 3) := by decide +kernel
theorem dX7_split_65 : decode cX7_split 65 = .ok (.invokevirtual 205, 3) := by decide +kernel
theorem dX7_split_68 : decode cX7_split 68 = .ok (.bipush 24, 2) := by decide +kernel
theorem dX7_split_70 : decode cX7_split 70 = .ok (.if_icmp .lt 9, 3) := by decide +kernel
theorem dX7_split_73 : decode cX7_split 73 = .ok (.aload_n 0, 1) := by decide +kernel
theorem dX7_split_74 : decode cX7_split 74 = .ok (.iconst 4, 1) := by decide +kernel
theorem dX7_split_75 : decode cX7_split 75 = .ok (.putfield 18, 3) := by decide +kernel
theorem dX7_split_78 : decode cX7_split 78 = .ok (.return_, 1) := by decide +kernel
theorem dX7_split_79 : decode cX7_split 79 = .ok (.aload_n 0, 1) := by decide +kernel
theorem dX7_split_80 : decode cX7_split 80 = .ok (.dup, 1) := by decide +kernel
theorem dX7_split_81 : decode cX7_split 81 = .ok (.getfield 43, 3) := by decide +kernel
theorem dX7_split_84 : decode cX7_split 84 = .ok (.iconst 1, 1) := by decide +kernel
theorem dX7_split_85 : decode cX7_split 85 = .ok (.iadd, 1) := by decide +kernel
theorem dX7_split_86 : decode cX7_split 86 = .ok (.putfield 43, 3) := by decide +kernel
theorem dX7_split_89 : decode cX7_split 89 = .ok (.aload_n 0, 1) := by decide +kernel
theorem dX7_split_90 : decode cX7_split 90 = .ok (.getfield 30, 3) := by decide +kernel
theorem dX7_split_93 : decode cX7_split 93 = .ok (.aload_n 0, 1) := by decide +kernel
theorem dX7_split_94 : decode cX7_split 94 = .ok (.getfield 30, 3) := by decide +kernel
theorem dX7_split_97 : decode cX7_split 97 = .ok (.getfield 72, 3) := by decide +kernel
theorem dX7_split_100 : decode cX7_split 100 = .ok (.iload_n 1, 1) := by decide +kernel
theorem dX7_split_101 : decode cX7_split 101 = .ok (.lload_n 2, 1) := by decide +kernel
theorem dX7_split_102 : decode cX7_split 102 = .ok (.invokevirtual 208, 3) := by decide +kernel
theorem dX7_split_105 : decode cX7_split 105 = .ok (.aload_n 0, 1) := by decide +kernel
theorem dX7_split_106 : decode cX7_split 106 = .ok (.getfield 30, 3) := by decide +kernel
theorem dX7_split_109 : decode cX7_split 109 = .ok (.aload_n 0, 1) := by decide +kernel
theorem dX7_split_110 : decode cX7_split 110 = .ok (.getfield 30, 3) := by decide +kernel
theorem dX7_split_113 : decode cX7_split 113 = .ok (.getfield 72, 3) := by decide +kernel
theorem dX7_split_116 : decode cX7_split 116 = .ok (.invokevirtual 57, 3) := by decide +kernel
theorem dX7_split_119 : decode cX7_split 119 = .ok (.aload_n 0, 1) := by decide +kernel
theorem dX7_split_120 : decode cX7_split 120 = .ok (.invokevirtual 64, 3) := by decide +kernel
theorem dX7_split_123 : decode cX7_split 123 = .ok (.return_, 1) := by decide +kernel
theorem dX8_init_0 : decode cX8_init 0 = .ok (.aload_n 0, 1) := by decide +kernel
theorem dX8_init_1 : decode cX8_init 1 = .ok (.invokespecial 3, 3) := by decide +kernel
theorem dX8_init_4 : decode cX8_init 4 = .ok (.aload_n 0, 1) := by decide +kernel
theorem dX8_init_5 : decode cX8_init 5 = .ok (.sipush 128, 3) := by decide +kernel
theorem dX8_init_8 : decode cX8_init 8 = .ok (.newarray .long, 2) := by decide +kernel
theorem dX8_init_10 : decode cX8_init 10 = .ok (.putfield 9, 3) := by decide +kernel
theorem dX8_init_13 : decode cX8_init 13 = .ok (.return_, 1) := by decide +kernel
theorem dX8_clear_0 : decode cX8_clear 0 = .ok (.iconst 0, 1) := by decide +kernel
theorem dX8_clear_1 : decode cX8_clear 1 = .ok (.istore_n 1, 1) := by decide +kernel
theorem dX8_clear_2 : decode cX8_clear 2 = .ok (.iload_n 1, 1) := by decide +kernel
theorem dX8_clear_3 : decode cX8_clear 3 = .ok (.aload_n 0, 1) := by decide +kernel
theorem dX8_clear_4 : decode cX8_clear 4 = .ok (.getfield 15, 3) := by decide +kernel
theorem dX8_clear_7 : decode cX8_clear 7 = .ok (.if_icmp .ge 16, 3) := by decide +kernel
theorem dX8_clear_10 : decode cX8_clear 10 = .ok (.aload_n 0, 1) := by decide +kernel
theorem dX8_clear_11 : decode cX8_clear 11 = .ok (.getfield 9, 3) := by decide +kernel
theorem dX8_clear_14 : decode cX8_clear 14 = .ok (.iload_n 1, 1) := by decide +kernel
theorem dX8_clear_15 : decode cX8_clear 15 = .ok (.lconst 0, 1) := by decide +kernel
theorem dX8_clear_16 : decode cX8_clear 16 = .ok (.lastore, 1) := by decide +kernel
theorem dX8_clear_17 : decode cX8_clear 17 = .ok (.iinc 1 1, 3) := by decide +kernel
theorem dX8_clear_20 : decode cX8_clear 20 = .ok (.goto (-18), 3) := by decide +kernel
theorem dX8_clear_23 : decode cX8_clear 23 = .ok (.aload_n 0, 1) := by decide +kernel
theorem dX8_clear_24 : decode cX8_clear 24 = .ok (.iconst 0, 1) := by decide +kernel
theorem dX8_clear_25 : decode cX8_clear 25 = .ok (.putfield 15, 3) := by decide +kernel
theorem dX8_clear_28 : decode cX8_clear 28 = .ok (.return_, 1) := by decide +kernel
theorem dX8_addTimes_0 : decode cX8_addTimes 0 = .ok (.lload_n 2, 1) := by decide +kernel
theorem dX8_addTimes_1 : decode cX8_addTimes 1 = .ok (.aload_n 1, 1) := by decide +kernel
theorem dX8_addTimes_2 : decode cX8_addTimes 2 = .ok (.getfield 19, 3) := by decide +kernel
theorem dX8_addTimes_5 : decode cX8_addTimes 5 = .ok (.i2l, 1) := by decide +kernel
theorem dX8_addTimes_6 : decode cX8_addTimes 6 = .ok (.lmul, 1) := by decide +kernel
theorem dX8_addTimes_7 : decode cX8_addTimes 7 = .ok (.lstore 4, 2) := by decide +kernel
theorem dX8_addTimes_9 : decode cX8_addTimes 9 = .ok (.iconst 0, 1) := by decide +kernel
theorem dX8_addTimes_10 : decode cX8_addTimes 10 = .ok (.istore 6, 2) := by decide +kernel
theorem dX8_addTimes_12 : decode cX8_addTimes 12 = .ok (.iload 6, 2) := by decide +kernel
theorem dX8_addTimes_14 : decode cX8_addTimes 14 = .ok (.iconst 3, 1) := by decide +kernel
theorem dX8_addTimes_15 : decode cX8_addTimes 15 = .ok (.if_icmp .ge 37, 3) := by decide +kernel
theorem dX8_addTimes_18 : decode cX8_addTimes 18 = .ok (.lload 4, 2) := by decide +kernel
theorem dX8_addTimes_20 : decode cX8_addTimes 20 = .ok (.lconst 0, 1) := by decide +kernel
theorem dX8_addTimes_21 : decode cX8_addTimes 21 = .ok (.lcmp, 1) := by decide +kernel
theorem dX8_addTimes_22 : decode cX8_addTimes 22 = .ok (.ifCond .eq 30, 3) := by decide +kernel
theorem dX8_addTimes_25 : decode cX8_addTimes 25 = .ok (.aload_n 0, 1) := by decide +kernel
theorem dX8_addTimes_26 : decode cX8_addTimes 26 = .ok (.aload_n 1, 1) := by decide +kernel
theorem dX8_addTimes_27 : decode cX8_addTimes 27 = .ok (.lload 4, 2) := by decide +kernel
theorem dX8_addTimes_29 : decode cX8_addTimes 29 = .ok (.ldc2_w 24, 3) := by decide +kernel
theorem dX8_addTimes_32 : decode cX8_addTimes 32 = .ok (.lrem, 1) := by decide +kernel
theorem dX8_addTimes_33 : decode cX8_addTimes 33 = .ok (.iload 6, 2) := by decide +kernel
theorem dX8_addTimes_35 : decode cX8_addTimes 35 = .ok (.invokevirtual 26, 3) := by decide +kernel
theorem dX8_addTimes_38 : decode cX8_addTimes 38 = .ok (.lload 4, 2) := by decide +kernel
theorem dX8_addTimes_40 : decode cX8_addTimes 40 = .ok (.ldc2_w 24, 3) := by decide +kernel
theorem dX8_addTimes_43 : decode cX8_addTimes 43 = .ok (.ldiv, 1) := by decide +kernel
theorem dX8_addTimes_44 : decode cX8_addTimes 44 = .ok (.lstore 4, 2) := by decide +kernel
theorem dX8_addTimes_46 : decode cX8_addTimes 46 = .ok (.iinc 6 1, 3) := by decide +kernel
theorem dX8_addTimes_49 : decode cX8_addTimes 49 = .ok (.goto (-37), 3) := by decide +kernel
theorem dX8_addTimes_52 : decode cX8_addTimes 52 = .ok (.return_, 1) := by decide +kernel
theorem dX8_addProduct_0 : decode cX8_addProduct 0 = .ok (.iload_n 3, 1) := by decide +kernel
theorem dX8_addProduct_1 : decode cX8_addProduct 1 = .ok (.aload_n 1, 1) := by decide +kernel
theorem dX8_addProduct_2 : decode cX8_addProduct 2 = .ok (.getfield 19, 3) := by decide +kernel
theorem dX8_addProduct_5 : decode cX8_addProduct 5 = .ok (.imul, 1) := by decide +kernel
theorem dX8_addProduct_6 : decode cX8_addProduct 6 = .ok (.aload_n 2, 1) := by decide +kernel
theorem dX8_addProduct_7 : decode cX8_addProduct 7 = .ok (.getfield 19, 3) := by decide +kernel
theorem dX8_addProduct_10 : decode cX8_addProduct 10 = .ok (.imul, 1) := by decide +kernel
theorem dX8_addProduct_11 : decode cX8_addProduct 11 = .ok (.i2l, 1) := by decide +kernel
theorem dX8_addProduct_12 : decode cX8_addProduct 12 = .ok (.lstore 4, 2) := by decide +kernel
theorem dX8_addProduct_14 : decode cX8_addProduct 14 = .ok (.lload 4, 2) := by decide +kernel
theorem dX8_addProduct_16 : decode cX8_addProduct 16 = .ok (.lconst 0, 1) := by decide +kernel
theorem dX8_addProduct_17 : decode cX8_addProduct 17 = .ok (.lcmp, 1) := by decide +kernel
theorem dX8_addProduct_18 : decode cX8_addProduct 18 = .ok (.ifCond .ne 4, 3) := by decide +kernel
theorem dX8_addProduct_21 : decode cX8_addProduct 21 = .ok (.return_, 1) := by decide +kernel
theorem dX8_addProduct_22 : decode cX8_addProduct 22 = .ok (.iconst 0, 1) := by decide +kernel
theorem dX8_addProduct_23 : decode cX8_addProduct 23 = .ok (.istore 6, 2) := by decide +kernel
theorem dX8_addProduct_25 : decode cX8_addProduct 25 = .ok (.iload 6, 2) := by decide +kernel
theorem dX8_addProduct_27 : decode cX8_addProduct 27 = .ok (.aload_n 2, 1) := by decide +kernel
theorem dX8_addProduct_28 : decode cX8_addProduct 28 = .ok (.getfield 30, 3) := by decide +kernel
theorem dX8_addProduct_31 : decode cX8_addProduct 31 = .ok (.if_icmp .ge 27, 3) := by decide +kernel
theorem dX8_addProduct_34 : decode cX8_addProduct 34 = .ok (.aload_n 0, 1) := by decide +kernel
theorem dX8_addProduct_35 : decode cX8_addProduct 35 = .ok (.aload_n 1, 1) := by decide +kernel
theorem dX8_addProduct_36 : decode cX8_addProduct 36 = .ok (.lload 4, 2) := by decide +kernel
theorem dX8_addProduct_38 : decode cX8_addProduct 38 = .ok (.aload_n 2, 1) := by decide +kernel
theorem dX8_addProduct_39 : decode cX8_addProduct 39 = .ok (.getfield 33, 3) := by decide +kernel
theorem dX8_addProduct_42 : decode cX8_addProduct 42 = .ok (.iload 6, 2) := by decide +kernel
theorem dX8_addProduct_44 : decode cX8_addProduct 44 = .ok (.iaload, 1) := by decide +kernel
theorem dX8_addProduct_45 : decode cX8_addProduct 45 = .ok (.i2l, 1) := by decide +kernel
theorem dX8_addProduct_46 : decode cX8_addProduct 46 = .ok (.lmul, 1) := by decide +kernel
theorem dX8_addProduct_47 : decode cX8_addProduct 47 = .ok (.iload 6, 2) := by decide +kernel
theorem dX8_addProduct_49 : decode cX8_addProduct 49 = .ok (.invokevirtual 26, 3) := by decide +kernel
theorem dX8_addProduct_52 : decode cX8_addProduct 52 = .ok (.iinc 6 1, 3) := by decide +kernel
theorem dX8_addProduct_55 : decode cX8_addProduct 55 = .ok (.goto (-30), 3) := by decide +kernel
theorem dX8_addProduct_58 : decode cX8_addProduct 58 = .ok (.return_, 1) := by decide +kernel
theorem dX8_addShifted_0 : decode cX8_addShifted 0 = .ok (.lload_n 2, 1) := by decide +kernel
theorem dX8_addShifted_1 : decode cX8_addShifted 1 = .ok (.lconst 0, 1) := by decide +kernel
theorem dX8_addShifted_2 : decode cX8_addShifted 2 = .ok (.lcmp, 1) := by decide +kernel
theorem dX8_addShifted_3 : decode cX8_addShifted 3 = .ok (.ifCond .ne 4, 3) := by decide +kernel
theorem dX8_addShifted_6 : decode cX8_addShifted 6 = .ok (.return_, 1) := by decide +kernel
theorem dX8_addShifted_7 : decode cX8_addShifted 7 = .ok (.lconst 0, 1) := by decide +kernel
theorem dX8_addShifted_8 : decode cX8_addShifted 8 = .ok (.lstore 5, 2) := by decide +kernel
theorem dX8_addShifted_10 : decode cX8_addShifted 10 = .ok (.iload 4, 2) := by decide +kernel
theorem dX8_addShifted_12 : decode cX8_addShifted 12 = .ok (.istore 7, 2) := by decide +kernel
theorem dX8_addShifted_14 : decode cX8_addShifted 14 = .ok (.iconst 0, 1) := by decide +kernel
theorem dX8_addShifted_15 : decode cX8_addShifted 15 = .ok (.istore 8, 2) := by decide +kernel
theorem dX8_addShifted_17 : decode cX8_addShifted 17 = .ok (.iload 8, 2) := by decide +kernel
theorem dX8_addShifted_19 : decode cX8_addShifted 19 = .ok (.aload_n 1, 1) := by decide +kernel
theorem dX8_addShifted_20 : decode cX8_addShifted 20 = .ok (.getfield 30, 3) := by decide +kernel
theorem dX8_addShifted_23 : decode cX8_addShifted 23 = .ok (.if_icmp .ge 69, 3) := by decide +kernel
theorem dX8_addShifted_26 : decode cX8_addShifted 26 = .ok (.iload 7, 2) := by decide +kernel
theorem dX8_addShifted_28 : decode cX8_addShifted 28 = .ok (.aload_n 0, 1) := by decide +kernel
theorem dX8_addShifted_29 : decode cX8_addShifted 29 = .ok (.getfield 9, 3) := by decide +kernel
theorem dX8_addShifted_32 : decode cX8_addShifted 32 = .ok (.arraylength, 1) := by decide +kernel
theorem dX8_addShifted_33 : decode cX8_addShifted 33 = .ok (.if_icmp .ge 59, 3) := by decide +kernel
theorem dX8_addShifted_36 : decode cX8_addShifted 36 = .ok (.aload_n 0, 1) := by decide +kernel
theorem dX8_addShifted_37 : decode cX8_addShifted 37 = .ok (.getfield 9, 3) := by decide +kernel
theorem dX8_addShifted_40 : decode cX8_addShifted 40 = .ok (.iload 7, 2) := by decide +kernel
theorem dX8_addShifted_42 : decode cX8_addShifted 42 = .ok (.laload, 1) := by decide +kernel
theorem dX8_addShifted_43 : decode cX8_addShifted 43 = .ok (.lload_n 2, 1) := by decide +kernel
theorem dX8_addShifted_44 : decode cX8_addShifted 44 = .ok (.aload_n 1, 1) := by decide +kernel
theorem dX8_addShifted_45 : decode cX8_addShifted 45 = .ok (.getfield 33, 3) := by decide +kernel
theorem dX8_addShifted_48 : decode cX8_addShifted 48 = .ok (.iload 8, 2) := by decide +kernel
theorem dX8_addShifted_50 : decode cX8_addShifted 50 = .ok (.iaload, 1) := by decide +kernel
theorem dX8_addShifted_51 : decode cX8_addShifted 51 = .ok (.i2l, 1) := by decide +kernel
theorem dX8_addShifted_52 : decode cX8_addShifted 52 = .ok (.lmul, 1) := by decide +kernel
theorem dX8_addShifted_53 : decode cX8_addShifted 53 = .ok (.ladd, 1) := by decide +kernel
theorem dX8_addShifted_54 : decode cX8_addShifted 54 = .ok (.lload 5, 2) := by decide +kernel
theorem dX8_addShifted_56 : decode cX8_addShifted 56 = .ok (.ladd, 1) := by decide +kernel
theorem dX8_addShifted_57 : decode cX8_addShifted 57 = .ok (.lstore 9, 2) := by decide +kernel
theorem dX8_addShifted_59 : decode cX8_addShifted 59 = .ok (.lload 9, 2) := by decide +kernel
theorem dX8_addShifted_61 : decode cX8_addShifted 61 = .ok (.ldc2_w 24, 3) := by decide +kernel
theorem dX8_addShifted_64 : decode cX8_addShifted 64 = .ok (.ldiv, 1) := by decide +kernel
theorem dX8_addShifted_65 : decode cX8_addShifted 65 = .ok (.lstore 5, 2) := by decide +kernel
theorem dX8_addShifted_67 : decode cX8_addShifted 67 = .ok (.aload_n 0, 1) := by decide +kernel
theorem dX8_addShifted_68 : decode cX8_addShifted 68 = .ok (.getfield 9, 3) := by decide +kernel
theorem dX8_addShifted_71 : decode cX8_addShifted 71 = .ok (.iload 7, 2) := by decide +kernel
theorem dX8_addShifted_73 : decode cX8_addShifted 73 = .ok (.lload 9, 2) := by decide +kernel
theorem dX8_addShifted_75 : decode cX8_addShifted 75 = .ok (.lload 5, 2) := by decide +kernel
theorem dX8_addShifted_77 : decode cX8_addShifted 77 = .ok (.ldc2_w 24, 3) := by decide +kernel
theorem dX8_addShifted_80 : decode cX8_addShifted 80 = .ok (.lmul, 1) := by decide +kernel
theorem dX8_addShifted_81 : decode cX8_addShifted 81 = .ok (.lsub, 1) := by decide +kernel
theorem dX8_addShifted_82 : decode cX8_addShifted 82 = .ok (.lastore, 1) := by decide +kernel
theorem dX8_addShifted_83 : decode cX8_addShifted 83 = .ok (.iinc 7 1, 3) := by decide +kernel
theorem dX8_addShifted_86 : decode cX8_addShifted 86 = .ok (.iinc 8 1, 3) := by decide +kernel
theorem dX8_addShifted_89 : decode cX8_addShifted 89 = .ok (.goto (-72), 3) := by decide +kernel
theorem dX8_addShifted_92 : decode cX8_addShifted 92 = .ok (.lload 5, 2) := by decide +kernel
theorem dX8_addShifted_94 : decode cX8_addShifted 94 = .ok (.lconst 0, 1) := by decide +kernel
theorem dX8_addShifted_95 : decode cX8_addShifted 95 = .ok (.lcmp, 1) := by decide +kernel
theorem dX8_addShifted_96 : decode cX8_addShifted 96 = .ok (.ifCond .eq 55, 3) := by decide +kernel
theorem dX8_addShifted_99 : decode cX8_addShifted 99 = .ok (.iload 7, 2) := by decide +kernel
theorem dX8_addShifted_101 : decode cX8_addShifted 101 = .ok (.aload_n 0, 1) := by decide +kernel
theorem dX8_addShifted_102 : decode cX8_addShifted 102 = .ok (.getfield 9, 3) := by decide +kernel
theorem dX8_addShifted_105 : decode cX8_addShifted 105 = .ok (.arraylength, 1) := by decide +kernel
theorem dX8_addShifted_106 : decode cX8_addShifted 106 = .ok (.if_icmp .ge 45, 3) := by decide +kernel
theorem dX8_addShifted_109 : decode cX8_addShifted 109 = .ok (.aload_n 0, 1) := by decide +kernel
theorem dX8_addShifted_110 : decode cX8_addShifted 110 = .ok (.getfield 9, 3) := by decide +kernel
theorem dX8_addShifted_113 : decode cX8_addShifted 113 = .ok (.iload 7, 2) := by decide +kernel
theorem dX8_addShifted_115 : decode cX8_addShifted 115 = .ok (.laload, 1) := by decide +kernel
theorem dX8_addShifted_116 : decode cX8_addShifted 116 = .ok (.lload 5, 2) := by decide +kernel
theorem dX8_addShifted_118 : decode cX8_addShifted 118 = .ok (.ladd, 1) := by decide +kernel
theorem dX8_addShifted_119 : decode cX8_addShifted 119 = .ok (.lstore 8, 2) := by decide +kernel
theorem dX8_addShifted_121 : decode cX8_addShifted 121 = .ok (.lload 8, 2) := by decide +kernel
theorem dX8_addShifted_123 : decode cX8_addShifted 123 = .ok (.ldc2_w 24, 3) := by decide +kernel
theorem dX8_addShifted_126 : decode cX8_addShifted 126 = .ok (.ldiv, 1) := by decide +kernel
theorem dX8_addShifted_127 : decode cX8_addShifted 127 = .ok (.lstore 5, 2) := by decide +kernel
theorem dX8_addShifted_129 : decode cX8_addShifted 129 = .ok (.aload_n 0, 1) := by decide +kernel
theorem dX8_addShifted_130 : decode cX8_addShifted 130 = .ok (.getfield 9, 3) := by decide +kernel
theorem dX8_addShifted_133 : decode cX8_addShifted 133 = .ok (.iload 7, 2) := by decide +kernel
theorem dX8_addShifted_135 : decode cX8_addShifted 135 = .ok (.lload 8, 2) := by decide +kernel
theorem dX8_addShifted_137 : decode cX8_addShifted 137 = .ok (.lload 5, 2) := by decide +kernel
theorem dX8_addShifted_139 : decode cX8_addShifted 139 = .ok (.ldc2_w 24, 3) := by decide +kernel
theorem dX8_addShifted_142 : decode cX8_addShifted 142 = .ok (.lmul, 1) := by decide +kernel
theorem dX8_addShifted_143 : decode cX8_addShifted 143 = .ok (.lsub, 1) := by decide +kernel
theorem dX8_addShifted_144 : decode cX8_addShifted 144 = .ok (.lastore, 1) := by decide +kernel
theorem dX8_addShifted_145 : decode cX8_addShifted 145 = .ok (.iinc 7 1, 3) := by decide +kernel
theorem dX8_addShifted_148 : decode cX8_addShifted 148 = .ok (.goto (-56), 3) := by decide +kernel
theorem dX8_addShifted_151 : decode cX8_addShifted 151 = .ok (.iload 7, 2) := by decide +kernel
theorem dX8_addShifted_153 : decode cX8_addShifted 153 = .ok (.aload_n 0, 1) := by decide +kernel
theorem dX8_addShifted_154 : decode cX8_addShifted 154 = .ok (.getfield 15, 3) := by decide +kernel
theorem dX8_addShifted_157 : decode cX8_addShifted 157 = .ok (.if_icmp .le 9, 3) := by decide +kernel
theorem dX8_addShifted_160 : decode cX8_addShifted 160 = .ok (.aload_n 0, 1) := by decide +kernel
theorem dX8_addShifted_161 : decode cX8_addShifted 161 = .ok (.iload 7, 2) := by decide +kernel
theorem dX8_addShifted_163 : decode cX8_addShifted 163 = .ok (.putfield 15, 3) := by decide +kernel
theorem dX8_addShifted_166 : decode cX8_addShifted 166 = .ok (.return_, 1) := by decide +kernel
theorem dX8_signNow_0 : decode cX8_signNow 0 = .ok (.aload_n 0, 1) := by decide +kernel
theorem dX8_signNow_1 : decode cX8_signNow 1 = .ok (.getfield 15, 3) := by decide +kernel
theorem dX8_signNow_4 : decode cX8_signNow 4 = .ok (.iconst 1, 1) := by decide +kernel
theorem dX8_signNow_5 : decode cX8_signNow 5 = .ok (.isub, 1) := by decide +kernel
theorem dX8_signNow_6 : decode cX8_signNow 6 = .ok (.istore_n 1, 1) := by decide +kernel
theorem dX8_signNow_7 : decode cX8_signNow 7 = .ok (.iload_n 1, 1) := by decide +kernel
theorem dX8_signNow_8 : decode cX8_signNow 8 = .ok (.ifCond .lt 37, 3) := by decide +kernel
theorem dX8_signNow_11 : decode cX8_signNow 11 = .ok (.aload_n 0, 1) := by decide +kernel
theorem dX8_signNow_12 : decode cX8_signNow 12 = .ok (.getfield 9, 3) := by decide +kernel
theorem dX8_signNow_15 : decode cX8_signNow 15 = .ok (.iload_n 1, 1) := by decide +kernel
theorem dX8_signNow_16 : decode cX8_signNow 16 = .ok (.laload, 1) := by decide +kernel
theorem dX8_signNow_17 : decode cX8_signNow 17 = .ok (.lconst 0, 1) := by decide +kernel
theorem dX8_signNow_18 : decode cX8_signNow 18 = .ok (.lcmp, 1) := by decide +kernel
theorem dX8_signNow_19 : decode cX8_signNow 19 = .ok (.ifCond .eq 20, 3) := by decide +kernel
theorem dX8_signNow_22 : decode cX8_signNow 22 = .ok (.aload_n 0, 1) := by decide +kernel
theorem dX8_signNow_23 : decode cX8_signNow 23 = .ok (.getfield 9, 3) := by decide +kernel
theorem dX8_signNow_26 : decode cX8_signNow 26 = .ok (.iload_n 1, 1) := by decide +kernel
theorem dX8_signNow_27 : decode cX8_signNow 27 = .ok (.laload, 1) := by decide +kernel
theorem dX8_signNow_28 : decode cX8_signNow 28 = .ok (.lconst 0, 1) := by decide +kernel
theorem dX8_signNow_29 : decode cX8_signNow 29 = .ok (.lcmp, 1) := by decide +kernel
theorem dX8_signNow_30 : decode cX8_signNow 30 = .ok (.ifCond .le 7, 3) := by decide +kernel
theorem dX8_signNow_33 : decode cX8_signNow 33 = .ok (.iconst 1, 1) := by decide +kernel
theorem dX8_signNow_34 : decode cX8_signNow 34 = .ok (.goto 4, 3) := by decide +kernel
theorem dX8_signNow_37 : decode cX8_signNow 37 = .ok (.iconst (-1), 1) := by decide +kernel
theorem dX8_signNow_38 : decode cX8_signNow 38 = .ok (.ireturn, 1) := by decide +kernel
theorem dX8_signNow_39 : decode cX8_signNow 39 = .ok (.iinc 1 (-1), 3) := by decide +kernel
theorem dX8_signNow_42 : decode cX8_signNow 42 = .ok (.goto (-35), 3) := by decide +kernel
theorem dX8_signNow_45 : decode cX8_signNow 45 = .ok (.iconst 0, 1) := by decide +kernel
theorem dX8_signNow_46 : decode cX8_signNow 46 = .ok (.ireturn, 1) := by decide +kernel
theorem dX8_store_0 : decode cX8_store 0 = .ok (.aload_n 0, 1) := by decide +kernel
theorem dX8_store_1 : decode cX8_store 1 = .ok (.invokevirtual 36, 3) := by decide +kernel
theorem dX8_store_4 : decode cX8_store 4 = .ok (.istore_n 2, 1) := by decide +kernel
theorem dX8_store_5 : decode cX8_store 5 = .ok (.lconst 0, 1) := by decide +kernel
theorem dX8_store_6 : decode cX8_store 6 = .ok (.lstore_n 3, 1) := by decide +kernel
theorem dX8_store_7 : decode cX8_store 7 = .ok (.iconst 0, 1) := by decide +kernel
theorem dX8_store_8 : decode cX8_store 8 = .ok (.istore 5, 2) := by decide +kernel
theorem dX8_store_10 : decode cX8_store 10 = .ok (.iconst 0, 1) := by decide +kernel
theorem dX8_store_11 : decode cX8_store 11 = .ok (.istore 6, 2) := by decide +kernel
theorem dX8_store_13 : decode cX8_store 13 = .ok (.iload 6, 2) := by decide +kernel
theorem dX8_store_15 : decode cX8_store 15 = .ok (.aload_n 0, 1) := by decide +kernel
theorem dX8_store_16 : decode cX8_store 16 = .ok (.getfield 15, 3) := by decide +kernel
theorem dX8_store_19 : decode cX8_store 19 = .ok (.if_icmp .ge 79, 3) := by decide +kernel
theorem dX8_store_22 : decode cX8_store 22 = .ok (.iload 6, 2) := by decide +kernel
theorem dX8_store_24 : decode cX8_store 24 = .ok (.aload_n 1, 1) := by decide +kernel
theorem dX8_store_25 : decode cX8_store 25 = .ok (.getfield 33, 3) := by decide +kernel
theorem dX8_store_28 : decode cX8_store 28 = .ok (.arraylength, 1) := by decide +kernel
theorem dX8_store_29 : decode cX8_store 29 = .ok (.if_icmp .ge 69, 3) := by decide +kernel
theorem dX8_store_32 : decode cX8_store 32 = .ok (.iload_n 2, 1) := by decide +kernel
theorem dX8_store_33 : decode cX8_store 33 = .ok (.i2l, 1) := by decide +kernel
theorem dX8_store_34 : decode cX8_store 34 = .ok (.aload_n 0, 1) := by decide +kernel
theorem dX8_store_35 : decode cX8_store 35 = .ok (.getfield 9, 3) := by decide +kernel
theorem dX8_store_38 : decode cX8_store 38 = .ok (.iload 6, 2) := by decide +kernel
theorem dX8_store_40 : decode cX8_store 40 = .ok (.laload, 1) := by decide +kernel
theorem dX8_store_41 : decode cX8_store 41 = .ok (.lmul, 1) := by decide +kernel
theorem dX8_store_42 : decode cX8_store 42 = .ok (.lload_n 3, 1) := by decide +kernel
theorem dX8_store_43 : decode cX8_store 43 = .ok (.lsub, 1) := by decide +kernel
theorem dX8_store_44 : decode cX8_store 44 = .ok (.lstore 7, 2) := by decide +kernel
theorem dX8_store_46 : decode cX8_store 46 = .ok (.lload 7, 2) := by decide +kernel
theorem dX8_store_48 : decode cX8_store 48 = .ok (.lconst 0, 1) := by decide +kernel
theorem dX8_store_49 : decode cX8_store 49 = .ok (.lcmp, 1) := by decide +kernel
theorem dX8_store_50 : decode cX8_store 50 = .ok (.ifCond .ge 7, 3) := by decide +kernel
theorem dX8_store_53 : decode cX8_store 53 = .ok (.lconst 1, 1) := by decide +kernel
theorem dX8_store_54 : decode cX8_store 54 = .ok (.goto 4, 3) := by decide +kernel
theorem dX8_store_57 : decode cX8_store 57 = .ok (.lconst 0, 1) := by decide +kernel
theorem dX8_store_58 : decode cX8_store 58 = .ok (.lstore_n 3, 1) := by decide +kernel
theorem dX8_store_59 : decode cX8_store 59 = .ok (.lload 7, 2) := by decide +kernel
theorem dX8_store_61 : decode cX8_store 61 = .ok (.lload_n 3, 1) := by decide +kernel
theorem dX8_store_62 : decode cX8_store 62 = .ok (.ldc2_w 24, 3) := by decide +kernel
theorem dX8_store_65 : decode cX8_store 65 = .ok (.lmul, 1) := by decide +kernel
theorem dX8_store_66 : decode cX8_store 66 = .ok (.ladd, 1) := by decide +kernel
theorem dX8_store_67 : decode cX8_store 67 = .ok (.lstore 7, 2) := by decide +kernel
theorem dX8_store_69 : decode cX8_store 69 = .ok (.aload_n 1, 1) := by decide +kernel
theorem dX8_store_70 : decode cX8_store 70 = .ok (.getfield 33, 3) := by decide +kernel
theorem dX8_store_73 : decode cX8_store 73 = .ok (.iload 6, 2) := by decide +kernel
theorem dX8_store_75 : decode cX8_store 75 = .ok (.lload 7, 2) := by decide +kernel
theorem dX8_store_77 : decode cX8_store 77 = .ok (.l2i, 1) := by decide +kernel
theorem dX8_store_78 : decode cX8_store 78 = .ok (.iastore, 1) := by decide +kernel
theorem dX8_store_79 : decode cX8_store 79 = .ok (.lload 7, 2) := by decide +kernel
theorem dX8_store_81 : decode cX8_store 81 = .ok (.lconst 0, 1) := by decide +kernel
theorem dX8_store_82 : decode cX8_store 82 = .ok (.lcmp, 1) := by decide +kernel
theorem dX8_store_83 : decode cX8_store 83 = .ok (.ifCond .eq 9, 3) := by decide +kernel
theorem dX8_store_86 : decode cX8_store 86 = .ok (.iload 6, 2) := by decide +kernel
theorem dX8_store_88 : decode cX8_store 88 = .ok (.iconst 1, 1) := by decide +kernel
theorem dX8_store_89 : decode cX8_store 89 = .ok (.iadd, 1) := by decide +kernel
theorem dX8_store_90 : decode cX8_store 90 = .ok (.istore 5, 2) := by decide +kernel
theorem dX8_store_92 : decode cX8_store 92 = .ok (.iinc 6 1, 3) := by decide +kernel
theorem dX8_store_95 : decode cX8_store 95 = .ok (.goto (-82), 3) := by decide +kernel
theorem dX8_store_98 : decode cX8_store 98 = .ok (.aload_n 1, 1) := by decide +kernel
theorem dX8_store_99 : decode cX8_store 99 = .ok (.iload 5, 2) := by decide +kernel
theorem dX8_store_101 : decode cX8_store 101 = .ok (.putfield 30, 3) := by decide +kernel
theorem dX8_store_104 : decode cX8_store 104 = .ok (.aload_n 1, 1) := by decide +kernel
theorem dX8_store_105 : decode cX8_store 105 = .ok (.iload 5, 2) := by decide +kernel
theorem dX8_store_107 : decode cX8_store 107 = .ok (.ifCond .ne 7, 3) := by decide +kernel
theorem dX8_store_110 : decode cX8_store 110 = .ok (.iconst 0, 1) := by decide +kernel
theorem dX8_store_111 : decode cX8_store 111 = .ok (.goto 4, 3) := by decide +kernel
theorem dX8_store_114 : decode cX8_store 114 = .ok (.iload_n 2, 1) := by decide +kernel
theorem dX8_store_115 : decode cX8_store 115 = .ok (.putfield 19, 3) := by decide +kernel
theorem dX8_store_118 : decode cX8_store 118 = .ok (.return_, 1) := by decide +kernel
theorem dX9_init_0 : decode cX9_init 0 = .ok (.aload_n 0, 1) := by decide +kernel
theorem dX9_init_1 : decode cX9_init 1 = .ok (.invokespecial 3, 3) := by decide +kernel
theorem dX9_init_4 : decode cX9_init 4 = .ok (.aload_n 0, 1) := by decide +kernel
theorem dX9_init_5 : decode cX9_init 5 = .ok (.bipush 120, 2) := by decide +kernel
theorem dX9_init_7 : decode cX9_init 7 = .ok (.anewarray 9, 3) := by decide +kernel
theorem dX9_init_10 : decode cX9_init 10 = .ok (.putfield 11, 3) := by decide +kernel
theorem dX9_init_13 : decode cX9_init 13 = .ok (.aload_n 0, 1) := by decide +kernel
theorem dX9_init_14 : decode cX9_init 14 = .ok (.bipush 12, 2) := by decide +kernel
theorem dX9_init_16 : decode cX9_init 16 = .ok (.anewarray 9, 3) := by decide +kernel
theorem dX9_init_19 : decode cX9_init 19 = .ok (.putfield 17, 3) := by decide +kernel
theorem dX9_init_22 : decode cX9_init 22 = .ok (.aload_n 0, 1) := by decide +kernel
theorem dX9_init_23 : decode cX9_init 23 = .ok (.bipush 10, 2) := by decide +kernel
theorem dX9_init_25 : decode cX9_init 25 = .ok (.newarray .long, 2) := by decide +kernel
theorem dX9_init_27 : decode cX9_init 27 = .ok (.putfield 20, 3) := by decide +kernel
theorem dX9_init_30 : decode cX9_init 30 = .ok (.aload_n 0, 1) := by decide +kernel
theorem dX9_init_31 : decode cX9_init 31 = .ok (.bipush 12, 2) := by decide +kernel
theorem dX9_init_33 : decode cX9_init 33 = .ok (.newarray .int, 2) := by decide +kernel
theorem dX9_init_35 : decode cX9_init 35 = .ok (.putfield 24, 3) := by decide +kernel
theorem dX9_init_38 : decode cX9_init 38 = .ok (.aload_n 0, 1) := by decide +kernel
theorem dX9_init_39 : decode cX9_init 39 = .ok (.bipush 10, 2) := by decide +kernel
theorem dX9_init_41 : decode cX9_init 41 = .ok (.newarray .int, 2) := by decide +kernel
theorem dX9_init_43 : decode cX9_init 43 = .ok (.putfield 28, 3) := by decide +kernel
theorem dX9_init_46 : decode cX9_init 46 = .ok (.aload_n 0, 1) := by decide +kernel
theorem dX9_init_47 : decode cX9_init 47 = .ok (.bipush 22, 2) := by decide +kernel
theorem dX9_init_49 : decode cX9_init 49 = .ok (.newarray .int, 2) := by decide +kernel
theorem dX9_init_51 : decode cX9_init 51 = .ok (.putfield 31, 3) := by decide +kernel
theorem dX9_init_54 : decode cX9_init 54 = .ok (.aload_n 0, 1) := by decide +kernel
theorem dX9_init_55 : decode cX9_init 55 = .ok (.bipush 22, 2) := by decide +kernel
theorem dX9_init_57 : decode cX9_init 57 = .ok (.newarray .boolean, 2) := by decide +kernel
theorem dX9_init_59 : decode cX9_init 59 = .ok (.putfield 34, 3) := by decide +kernel
theorem dX9_init_62 : decode cX9_init 62 = .ok (.aload_n 0, 1) := by decide +kernel
theorem dX9_init_63 : decode cX9_init 63 = .ok (.new 9, 3) := by decide +kernel
theorem dX9_init_66 : decode cX9_init 66 = .ok (.dup, 1) := by decide +kernel
theorem dX9_init_67 : decode cX9_init 67 = .ok (.bipush 8, 2) := by decide +kernel
theorem dX9_init_69 : decode cX9_init 69 = .ok (.invokespecial 38, 3) := by decide +kernel
theorem dX9_init_72 : decode cX9_init 72 = .ok (.putfield 41, 3) := by decide +kernel
theorem dX9_init_75 : decode cX9_init 75 = .ok (.aload_n 0, 1) := by decide +kernel
theorem dX9_init_76 : decode cX9_init 76 = .ok (.new 9, 3) := by decide +kernel
theorem dX9_init_79 : decode cX9_init 79 = .ok (.dup, 1) := by decide +kernel
theorem dX9_init_80 : decode cX9_init 80 = .ok (.bipush 12, 2) := by decide +kernel
theorem dX9_init_82 : decode cX9_init 82 = .ok (.invokespecial 38, 3) := by decide +kernel
theorem dX9_init_85 : decode cX9_init 85 = .ok (.putfield 45, 3) := by decide +kernel
theorem dX9_init_88 : decode cX9_init 88 = .ok (.aload_n 0, 1) := by decide +kernel
theorem dX9_init_89 : decode cX9_init 89 = .ok (.new 9, 3) := by decide +kernel
theorem dX9_init_92 : decode cX9_init 92 = .ok (.dup, 1) := by decide +kernel
theorem dX9_init_93 : decode cX9_init 93 = .ok (.bipush 8, 2) := by decide +kernel
theorem dX9_init_95 : decode cX9_init 95 = .ok (.invokespecial 38, 3) := by decide +kernel
theorem dX9_init_98 : decode cX9_init 98 = .ok (.putfield 48, 3) := by decide +kernel
theorem dX9_init_101 : decode cX9_init 101 = .ok (.aload_n 0, 1) := by decide +kernel
theorem dX9_init_102 : decode cX9_init 102 = .ok (.new 9, 3) := by decide +kernel
theorem dX9_init_105 : decode cX9_init 105 = .ok (.dup, 1) := by decide +kernel
theorem dX9_init_106 : decode cX9_init 106 = .ok (.sipush 128, 3) := by decide +kernel
theorem dX9_init_109 : decode cX9_init 109 = .ok (.invokespecial 38, 3) := by decide +kernel
theorem dX9_init_112 : decode cX9_init 112 = .ok (.putfield 51, 3) := by decide +kernel
theorem dX9_init_115 : decode cX9_init 115 = .ok (.aload_n 0, 1) := by decide +kernel
theorem dX9_init_116 : decode cX9_init 116 = .ok (.aload_n 1, 1) := by decide +kernel
theorem dX9_init_117 : decode cX9_init 117 = .ok (.putfield 54, 3) := by decide +kernel
theorem dX9_init_120 : decode cX9_init 120 = .ok (.aload_n 0, 1) := by decide +kernel
theorem dX9_init_121 : decode cX9_init 121 = .ok (.aload_n 2, 1) := by decide +kernel
theorem dX9_init_122 : decode cX9_init 122 = .ok (.putfield 58, 3) := by decide +kernel
theorem dX9_init_125 : decode cX9_init 125 = .ok (.iconst 0, 1) := by decide +kernel
theorem dX9_init_126 : decode cX9_init 126 = .ok (.istore_n 3, 1) := by decide +kernel
theorem dX9_init_127 : decode cX9_init 127 = .ok (.iload_n 3, 1) := by decide +kernel
theorem dX9_init_128 : decode cX9_init 128 = .ok (.aload_n 0, 1) := by decide +kernel
theorem dX9_init_129 : decode cX9_init 129 = .ok (.getfield 11, 3) := by decide +kernel
theorem dX9_init_132 : decode cX9_init 132 = .ok (.arraylength, 1) := by decide +kernel
theorem dX9_init_133 : decode cX9_init 133 = .ok (.if_icmp .ge 24, 3) := by decide +kernel
theorem dX9_init_136 : decode cX9_init 136 = .ok (.aload_n 0, 1) := by decide +kernel
theorem dX9_init_137 : decode cX9_init 137 = .ok (.getfield 11, 3) := by decide +kernel
theorem dX9_init_140 : decode cX9_init 140 = .ok (.iload_n 3, 1) := by decide +kernel
theorem dX9_init_141 : decode cX9_init 141 = .ok (.new 9, 3) := by decide +kernel
theorem dX9_init_144 : decode cX9_init 144 = .ok (.dup, 1) := by decide +kernel
theorem dX9_init_145 : decode cX9_init 145 = .ok (.bipush 8, 2) := by decide +kernel
theorem dX9_init_147 : decode cX9_init 147 = .ok (.invokespecial 38, 3) := by decide +kernel
theorem dX9_init_150 : decode cX9_init 150 = .ok (.aastore, 1) := by decide +kernel
theorem dX9_init_151 : decode cX9_init 151 = .ok (.iinc 3 1, 3) := by decide +kernel
theorem dX9_init_154 : decode cX9_init 154 = .ok (.goto (-27), 3) := by decide +kernel
theorem dX9_init_157 : decode cX9_init 157 = .ok (.iconst 0, 1) := by decide +kernel
theorem dX9_init_158 : decode cX9_init 158 = .ok (.istore_n 3, 1) := by decide +kernel
theorem dX9_init_159 : decode cX9_init 159 = .ok (.iload_n 3, 1) := by decide +kernel
theorem dX9_init_160 : decode cX9_init 160 = .ok (.aload_n 0, 1) := by decide +kernel
theorem dX9_init_161 : decode cX9_init 161 = .ok (.getfield 17, 3) := by decide +kernel
theorem dX9_init_164 : decode cX9_init 164 = .ok (.arraylength, 1) := by decide +kernel
theorem dX9_init_165 : decode cX9_init 165 = .ok (.if_icmp .ge 24, 3) := by decide +kernel
theorem dX9_init_168 : decode cX9_init 168 = .ok (.aload_n 0, 1) := by decide +kernel
theorem dX9_init_169 : decode cX9_init 169 = .ok (.getfield 17, 3) := by decide +kernel
theorem dX9_init_172 : decode cX9_init 172 = .ok (.iload_n 3, 1) := by decide +kernel
theorem dX9_init_173 : decode cX9_init 173 = .ok (.new 9, 3) := by decide +kernel
theorem dX9_init_176 : decode cX9_init 176 = .ok (.dup, 1) := by decide +kernel
theorem dX9_init_177 : decode cX9_init 177 = .ok (.bipush 12, 2) := by decide +kernel
theorem dX9_init_179 : decode cX9_init 179 = .ok (.invokespecial 38, 3) := by decide +kernel
theorem dX9_init_182 : decode cX9_init 182 = .ok (.aastore, 1) := by decide +kernel
theorem dX9_init_183 : decode cX9_init 183 = .ok (.iinc 3 1, 3) := by decide +kernel
theorem dX9_init_186 : decode cX9_init 186 = .ok (.goto (-27), 3) := by decide +kernel
theorem dX9_init_189 : decode cX9_init 189 = .ok (.return_, 1) := by decide +kernel
theorem dX9_begin_0 : decode cX9_begin 0 = .ok (.aload_n 0, 1) := by decide +kernel
theorem dX9_begin_1 : decode cX9_begin 1 = .ok (.aload_n 1, 1) := by decide +kernel
theorem dX9_begin_2 : decode cX9_begin 2 = .ok (.getfield 62, 3) := by decide +kernel
theorem dX9_begin_5 : decode cX9_begin 5 = .ok (.putfield 68, 3) := by decide +kernel
theorem dX9_begin_8 : decode cX9_begin 8 = .ok (.aload_n 0, 1) := by decide +kernel
theorem dX9_begin_9 : decode cX9_begin 9 = .ok (.aload_n 1, 1) := by decide +kernel
theorem dX9_begin_10 : decode cX9_begin 10 = .ok (.getfield 71, 3) := by decide +kernel
theorem dX9_begin_13 : decode cX9_begin 13 = .ok (.putfield 74, 3) := by decide +kernel
theorem dX9_begin_16 : decode cX9_begin 16 = .ok (.aload_n 0, 1) := by decide +kernel
theorem dX9_begin_17 : decode cX9_begin 17 = .ok (.getfield 41, 3) := by decide +kernel
theorem dX9_begin_20 : decode cX9_begin 20 = .ok (.lconst 1, 1) := by decide +kernel
theorem dX9_begin_21 : decode cX9_begin 21 = .ok (.invokevirtual 77, 3) := by decide +kernel
theorem dX9_begin_24 : decode cX9_begin 24 = .ok (.iconst 0, 1) := by decide +kernel
theorem dX9_begin_25 : decode cX9_begin 25 = .ok (.istore_n 2, 1) := by decide +kernel
theorem dX9_begin_26 : decode cX9_begin 26 = .ok (.iload_n 2, 1) := by decide +kernel
theorem dX9_begin_27 : decode cX9_begin 27 = .ok (.aload_n 0, 1) := by decide +kernel
theorem dX9_begin_28 : decode cX9_begin 28 = .ok (.getfield 74, 3) := by decide +kernel
theorem dX9_begin_31 : decode cX9_begin 31 = .ok (.if_icmp .ge 22, 3) := by decide +kernel
theorem dX9_begin_34 : decode cX9_begin 34 = .ok (.aload_n 0, 1) := by decide +kernel
theorem dX9_begin_35 : decode cX9_begin 35 = .ok (.getfield 20, 3) := by decide +kernel
theorem dX9_begin_38 : decode cX9_begin 38 = .ok (.iload_n 2, 1) := by decide +kernel
theorem dX9_begin_39 : decode cX9_begin 39 = .ok (.lconst 0, 1) := by decide +kernel
theorem dX9_begin_40 : decode cX9_begin 40 = .ok (.lastore, 1) := by decide +kernel
theorem dX9_begin_41 : decode cX9_begin 41 = .ok (.aload_n 0, 1) := by decide +kernel
theorem dX9_begin_42 : decode cX9_begin 42 = .ok (.iload_n 2, 1) := by decide +kernel
theorem dX9_begin_43 : decode cX9_begin 43 = .ok (.iload_n 2, 1) := by decide +kernel
theorem dX9_begin_44 : decode cX9_begin 44 = .ok (.invokevirtual 81, 3) := by decide +kernel
theorem dX9_begin_47 : decode cX9_begin 47 = .ok (.iinc 2 1, 3) := by decide +kernel
theorem dX9_begin_50 : decode cX9_begin 50 = .ok (.goto (-24), 3) := by decide +kernel
theorem dX9_begin_53 : decode cX9_begin 53 = .ok (.iconst 0, 1) := by decide +kernel
theorem dX9_begin_54 : decode cX9_begin 54 = .ok (.istore_n 2, 1) := by decide +kernel
theorem dX9_begin_55 : decode cX9_begin 55 = .ok (.iload_n 2, 1) := by decide +kernel
theorem dX9_begin_56 : decode cX9_begin 56 = .ok (.aload_n 0, 1) := by decide +kernel
theorem dX9_begin_57 : decode cX9_begin 57 = .ok (.getfield 68, 3) := by decide +kernel
theorem dX9_begin_60 : decode cX9_begin 60 = .ok (.if_icmp .ge 64, 3) := by decide +kernel
theorem dX9_begin_63 : decode cX9_begin 63 = .ok (.aload_n 0, 1) := by decide +kernel
theorem dX9_begin_64 : decode cX9_begin 64 = .ok (.getfield 17, 3) := by decide +kernel
theorem dX9_begin_67 : decode cX9_begin 67 = .ok (.iload_n 2, 1) := by decide +kernel
theorem dX9_begin_68 : decode cX9_begin 68 = .ok (.aaload, 1) := by decide +kernel
theorem dX9_begin_69 : decode cX9_begin 69 = .ok (.lconst 0, 1) := by decide +kernel
theorem dX9_begin_70 : decode cX9_begin 70 = .ok (.invokevirtual 77, 3) := by decide +kernel
theorem dX9_begin_73 : decode cX9_begin 73 = .ok (.aload_n 0, 1) := by decide +kernel
theorem dX9_begin_74 : decode cX9_begin 74 = .ok (.iload_n 2, 1) := by decide +kernel
theorem dX9_begin_75 : decode cX9_begin 75 = .ok (.aload_n 0, 1) := by decide +kernel
theorem dX9_begin_76 : decode cX9_begin 76 = .ok (.getfield 74, 3) := by decide +kernel
theorem dX9_begin_79 : decode cX9_begin 79 = .ok (.iload_n 2, 1) := by decide +kernel
theorem dX9_begin_80 : decode cX9_begin 80 = .ok (.iadd, 1) := by decide +kernel
theorem dX9_begin_81 : decode cX9_begin 81 = .ok (.invokevirtual 85, 3) := by decide +kernel
theorem dX9_begin_84 : decode cX9_begin 84 = .ok (.iconst 0, 1) := by decide +kernel
theorem dX9_begin_85 : decode cX9_begin 85 = .ok (.istore_n 3, 1) := by decide +kernel
theorem dX9_begin_86 : decode cX9_begin 86 = .ok (.iload_n 3, 1) := by decide +kernel
theorem dX9_begin_87 : decode cX9_begin 87 = .ok (.aload_n 0, 1) := by decide +kernel
theorem dX9_begin_88 : decode cX9_begin 88 = .ok (.getfield 74, 3) := by decide +kernel
theorem dX9_begin_91 : decode cX9_begin 91 = .ok (.if_icmp .ge 27, 3) := by decide +kernel
theorem dX9_begin_94 : decode cX9_begin 94 = .ok (.aload_n 0, 1) := by decide +kernel
theorem dX9_begin_95 : decode cX9_begin 95 = .ok (.iload_n 2, 1) := by decide +kernel
theorem dX9_begin_96 : decode cX9_begin 96 = .ok (.iload_n 3, 1) := by decide +kernel
theorem dX9_begin_97 : decode cX9_begin 97 = .ok (.invokevirtual 88, 3) := by decide +kernel
theorem dX9_begin_100 : decode cX9_begin 100 = .ok (.aload_n 1, 1) := by decide +kernel
theorem dX9_begin_101 : decode cX9_begin 101 = .ok (.getfield 92, 3) := by decide +kernel
theorem dX9_begin_104 : decode cX9_begin 104 = .ok (.iload_n 2, 1) := by decide +kernel
theorem dX9_begin_105 : decode cX9_begin 105 = .ok (.aaload, 1) := by decide +kernel
theorem dX9_begin_106 : decode cX9_begin 106 = .ok (.iload_n 3, 1) := by decide +kernel
theorem dX9_begin_107 : decode cX9_begin 107 = .ok (.iaload, 1) := by decide +kernel
theorem dX9_begin_108 : decode cX9_begin 108 = .ok (.i2l, 1) := by decide +kernel
theorem dX9_begin_109 : decode cX9_begin 109 = .ok (.invokevirtual 77, 3) := by decide +kernel
theorem dX9_begin_112 : decode cX9_begin 112 = .ok (.iinc 3 1, 3) := by decide +kernel
theorem dX9_begin_115 : decode cX9_begin 115 = .ok (.goto (-29), 3) := by decide +kernel
theorem dX9_begin_118 : decode cX9_begin 118 = .ok (.iinc 2 1, 3) := by decide +kernel
theorem dX9_begin_121 : decode cX9_begin 121 = .ok (.goto (-66), 3) := by decide +kernel
theorem dX9_begin_124 : decode cX9_begin 124 = .ok (.return_, 1) := by decide +kernel
theorem dX9_seatRow_0 : decode cX9_seatRow 0 = .ok (.aload_n 0, 1) := by decide +kernel
theorem dX9_seatRow_1 : decode cX9_seatRow 1 = .ok (.getfield 24, 3) := by decide +kernel
theorem dX9_seatRow_4 : decode cX9_seatRow 4 = .ok (.iload_n 1, 1) := by decide +kernel
theorem dX9_seatRow_5 : decode cX9_seatRow 5 = .ok (.iload_n 2, 1) := by decide +kernel
theorem dX9_seatRow_6 : decode cX9_seatRow 6 = .ok (.iastore, 1) := by decide +kernel
theorem dX9_seatRow_7 : decode cX9_seatRow 7 = .ok (.aload_n 0, 1) := by decide +kernel
theorem dX9_seatRow_8 : decode cX9_seatRow 8 = .ok (.getfield 31, 3) := by decide +kernel
theorem dX9_seatRow_11 : decode cX9_seatRow 11 = .ok (.iload_n 2, 1) := by decide +kernel
theorem dX9_seatRow_12 : decode cX9_seatRow 12 = .ok (.iload_n 1, 1) := by decide +kernel
theorem dX9_seatRow_13 : decode cX9_seatRow 13 = .ok (.iastore, 1) := by decide +kernel
theorem dX9_seatRow_14 : decode cX9_seatRow 14 = .ok (.aload_n 0, 1) := by decide +kernel
theorem dX9_seatRow_15 : decode cX9_seatRow 15 = .ok (.getfield 34, 3) := by decide +kernel
theorem dX9_seatRow_18 : decode cX9_seatRow 18 = .ok (.iload_n 2, 1) := by decide +kernel
theorem dX9_seatRow_19 : decode cX9_seatRow 19 = .ok (.iconst 1, 1) := by decide +kernel
theorem dX9_seatRow_20 : decode cX9_seatRow 20 = .ok (.bastore, 1) := by decide +kernel
theorem dX9_seatRow_21 : decode cX9_seatRow 21 = .ok (.return_, 1) := by decide +kernel
theorem dX9_seatColumn_0 : decode cX9_seatColumn 0 = .ok (.aload_n 0, 1) := by decide +kernel
theorem dX9_seatColumn_1 : decode cX9_seatColumn 1 = .ok (.getfield 28, 3) := by decide +kernel
theorem dX9_seatColumn_4 : decode cX9_seatColumn 4 = .ok (.iload_n 1, 1) := by decide +kernel
theorem dX9_seatColumn_5 : decode cX9_seatColumn 5 = .ok (.iload_n 2, 1) := by decide +kernel
theorem dX9_seatColumn_6 : decode cX9_seatColumn 6 = .ok (.iastore, 1) := by decide +kernel
theorem dX9_seatColumn_7 : decode cX9_seatColumn 7 = .ok (.aload_n 0, 1) := by decide +kernel
theorem dX9_seatColumn_8 : decode cX9_seatColumn 8 = .ok (.getfield 31, 3) := by decide +kernel
theorem dX9_seatColumn_11 : decode cX9_seatColumn 11 = .ok (.iload_n 2, 1) := by decide +kernel
theorem dX9_seatColumn_12 : decode cX9_seatColumn 12 = .ok (.iload_n 1, 1) := by decide +kernel
theorem dX9_seatColumn_13 : decode cX9_seatColumn 13 = .ok (.iastore, 1) := by decide +kernel
theorem dX9_seatColumn_14 : decode cX9_seatColumn 14 = .ok (.aload_n 0, 1) := by decide +kernel
theorem dX9_seatColumn_15 : decode cX9_seatColumn 15 = .ok (.getfield 34, 3) := by decide +kernel
theorem dX9_seatColumn_18 : decode cX9_seatColumn 18 = .ok (.iload_n 2, 1) := by decide +kernel
theorem dX9_seatColumn_19 : decode cX9_seatColumn 19 = .ok (.iconst 0, 1) := by decide +kernel
theorem dX9_seatColumn_20 : decode cX9_seatColumn 20 = .ok (.bastore, 1) := by decide +kernel
theorem dX9_seatColumn_21 : decode cX9_seatColumn 21 = .ok (.return_, 1) := by decide +kernel
theorem dX9_cell_0 : decode cX9_cell 0 = .ok (.aload_n 0, 1) := by decide +kernel
theorem dX9_cell_1 : decode cX9_cell 1 = .ok (.getfield 11, 3) := by decide +kernel
theorem dX9_cell_4 : decode cX9_cell 4 = .ok (.iload_n 1, 1) := by decide +kernel
theorem dX9_cell_5 : decode cX9_cell 5 = .ok (.bipush 10, 2) := by decide +kernel
theorem dX9_cell_7 : decode cX9_cell 7 = .ok (.imul, 1) := by decide +kernel
theorem dX9_cell_8 : decode cX9_cell 8 = .ok (.iload_n 2, 1) := by decide +kernel
theorem dX9_cell_9 : decode cX9_cell 9 = .ok (.iadd, 1) := by decide +kernel
theorem dX9_cell_10 : decode cX9_cell 10 = .ok (.aaload, 1) := by decide +kernel
theorem dX9_cell_11 : decode cX9_cell 11 = .ok (.areturn, 1) := by decide +kernel
theorem dX9_places_0 : decode cX9_places 0 = .ok (.aload_n 0, 1) := by decide +kernel
theorem dX9_places_1 : decode cX9_places 1 = .ok (.getfield 74, 3) := by decide +kernel
theorem dX9_places_4 : decode cX9_places 4 = .ok (.aload_n 0, 1) := by decide +kernel
theorem dX9_places_5 : decode cX9_places 5 = .ok (.getfield 68, 3) := by decide +kernel
theorem dX9_places_8 : decode cX9_places 8 = .ok (.iadd, 1) := by decide +kernel
theorem dX9_places_9 : decode cX9_places 9 = .ok (.ireturn, 1) := by decide +kernel
theorem dX9_rowOf_0 : decode cX9_rowOf 0 = .ok (.aload_n 0, 1) := by decide +kernel
theorem dX9_rowOf_1 : decode cX9_rowOf 1 = .ok (.getfield 34, 3) := by decide +kernel
theorem dX9_rowOf_4 : decode cX9_rowOf 4 = .ok (.iload_n 1, 1) := by decide +kernel
theorem dX9_rowOf_5 : decode cX9_rowOf 5 = .ok (.baload, 1) := by decide +kernel
theorem dX9_rowOf_6 : decode cX9_rowOf 6 = .ok (.ifCond .eq 12, 3) := by decide +kernel
theorem dX9_rowOf_9 : decode cX9_rowOf 9 = .ok (.aload_n 0, 1) := by decide +kernel
theorem dX9_rowOf_10 : decode cX9_rowOf 10 = .ok (.getfield 31, 3) := by decide +kernel
theorem dX9_rowOf_13 : decode cX9_rowOf 13 = .ok (.iload_n 1, 1) := by decide +kernel
theorem dX9_rowOf_14 : decode cX9_rowOf 14 = .ok (.iaload, 1) := by decide +kernel
theorem dX9_rowOf_15 : decode cX9_rowOf 15 = .ok (.goto 5, 3) := by decide +kernel
theorem dX9_rowOf_18 : decode cX9_rowOf 18 = .ok (.bipush (-2), 2) := by decide +kernel
theorem dX9_rowOf_20 : decode cX9_rowOf 20 = .ok (.ireturn, 1) := by decide +kernel
theorem dX9_columnOf_0 : decode cX9_columnOf 0 = .ok (.aload_n 0, 1) := by decide +kernel
theorem dX9_columnOf_1 : decode cX9_columnOf 1 = .ok (.getfield 34, 3) := by decide +kernel
theorem dX9_columnOf_4 : decode cX9_columnOf 4 = .ok (.iload_n 1, 1) := by decide +kernel
theorem dX9_columnOf_5 : decode cX9_columnOf 5 = .ok (.baload, 1) := by decide +kernel
theorem dX9_columnOf_6 : decode cX9_columnOf 6 = .ok (.ifCond .eq 8, 3) := by decide +kernel
theorem dX9_columnOf_9 : decode cX9_columnOf 9 = .ok (.bipush (-2), 2) := by decide +kernel
theorem dX9_columnOf_11 : decode cX9_columnOf 11 = .ok (.goto 9, 3) := by decide +kernel
theorem dX9_columnOf_14 : decode cX9_columnOf 14 = .ok (.aload_n 0, 1) := by decide +kernel
theorem dX9_columnOf_15 : decode cX9_columnOf 15 = .ok (.getfield 31, 3) := by decide +kernel
theorem dX9_columnOf_18 : decode cX9_columnOf 18 = .ok (.iload_n 1, 1) := by decide +kernel
theorem dX9_columnOf_19 : decode cX9_columnOf 19 = .ok (.iaload, 1) := by decide +kernel
theorem dX9_columnOf_20 : decode cX9_columnOf 20 = .ok (.ireturn, 1) := by decide +kernel
theorem dX9_copyValue_0 : decode cX9_copyValue 0 = .ok (.aload_n 0, 1) := by decide +kernel
theorem dX9_copyValue_1 : decode cX9_copyValue 1 = .ok (.iload_n 1, 1) := by decide +kernel
theorem dX9_copyValue_2 : decode cX9_copyValue 2 = .ok (.invokevirtual 96, 3) := by decide +kernel
theorem dX9_copyValue_5 : decode cX9_copyValue 5 = .ok (.istore_n 3, 1) := by decide +kernel
theorem dX9_copyValue_6 : decode cX9_copyValue 6 = .ok (.iload_n 3, 1) := by decide +kernel
theorem dX9_copyValue_7 : decode cX9_copyValue 7 = .ok (.ifCond .lt 21, 3) := by decide +kernel
theorem dX9_copyValue_10 : decode cX9_copyValue 10 = .ok (.aload_n 2, 1) := by decide +kernel
theorem dX9_copyValue_11 : decode cX9_copyValue 11 = .ok (.aload_n 0, 1) := by decide +kernel
theorem dX9_copyValue_12 : decode cX9_copyValue 12 = .ok (.getfield 17, 3) := by decide +kernel
theorem dX9_copyValue_15 : decode cX9_copyValue 15 = .ok (.iload_n 3, 1) := by decide +kernel
theorem dX9_copyValue_16 : decode cX9_copyValue 16 = .ok (.aaload, 1) := by decide +kernel
theorem dX9_copyValue_17 : decode cX9_copyValue 17 = .ok (.aload_n 0, 1) := by decide +kernel
theorem dX9_copyValue_18 : decode cX9_copyValue 18 = .ok (.getfield 41, 3) := by decide +kernel
theorem dX9_copyValue_21 : decode cX9_copyValue 21 = .ok (.iconst 1, 1) := by decide +kernel
theorem dX9_copyValue_22 : decode cX9_copyValue 22 = .ok (.invokevirtual 100, 3) := by decide +kernel
theorem dX9_copyValue_25 : decode cX9_copyValue 25 = .ok (.goto 19, 3) := by decide +kernel
theorem dX9_copyValue_28 : decode cX9_copyValue 28 = .ok (.aload_n 2, 1) := by decide +kernel
theorem dX9_copyValue_29 : decode cX9_copyValue 29 = .ok (.aload_n 0, 1) := by decide +kernel
theorem dX9_copyValue_30 : decode cX9_copyValue 30 = .ok (.getfield 20, 3) := by decide +kernel
theorem dX9_copyValue_33 : decode cX9_copyValue 33 = .ok (.aload_n 0, 1) := by decide +kernel
theorem dX9_copyValue_34 : decode cX9_copyValue 34 = .ok (.getfield 31, 3) := by decide +kernel
theorem dX9_copyValue_37 : decode cX9_copyValue 37 = .ok (.iload_n 1, 1) := by decide +kernel
theorem dX9_copyValue_38 : decode cX9_copyValue 38 = .ok (.iaload, 1) := by decide +kernel
theorem dX9_copyValue_39 : decode cX9_copyValue 39 = .ok (.laload, 1) := by decide +kernel
theorem dX9_copyValue_40 : decode cX9_copyValue 40 = .ok (.lconst 1, 1) := by decide +kernel
theorem dX9_copyValue_41 : decode cX9_copyValue 41 = .ok (.invokevirtual 106, 3) := by decide +kernel
theorem dX9_copyValue_44 : decode cX9_copyValue 44 = .ok (.return_, 1) := by decide +kernel
theorem dX9_compareAmount_0 : decode cX9_compareAmount 0 = .ok (.aload_n 0, 1) := by decide +kernel
theorem dX9_compareAmount_1 : decode cX9_compareAmount 1 = .ok (.getfield 54, 3) := by decide +kernel
theorem dX9_compareAmount_4 : decode cX9_compareAmount 4 = .ok (.invokevirtual 110, 3) := by decide +kernel
theorem dX9_compareAmount_7 : decode cX9_compareAmount 7 = .ok (.aload_n 0, 1) := by decide +kernel
theorem dX9_compareAmount_8 : decode cX9_compareAmount 8 = .ok (.getfield 54, 3) := by decide +kernel
theorem dX9_compareAmount_11 : decode cX9_compareAmount 11 = .ok (.aload_n 0, 1) := by decide +kernel
theorem dX9_compareAmount_12 : decode cX9_compareAmount 12 = .ok (.getfield 17, 3) := by decide +kernel
theorem dX9_compareAmount_15 : decode cX9_compareAmount 15 = .ok (.iload_n 1, 1) := by decide +kernel
theorem dX9_compareAmount_16 : decode cX9_compareAmount 16 = .ok (.aaload, 1) := by decide +kernel
theorem dX9_compareAmount_17 : decode cX9_compareAmount 17 = .ok (.lconst 1, 1) := by decide +kernel
theorem dX9_compareAmount_18 : decode cX9_compareAmount 18 = .ok (.invokevirtual 115, 3) := by decide +kernel
theorem dX9_compareAmount_21 : decode cX9_compareAmount 21 = .ok (.aload_n 0, 1) := by decide +kernel
theorem dX9_compareAmount_22 : decode cX9_compareAmount 22 = .ok (.getfield 54, 3) := by decide +kernel
theorem dX9_compareAmount_25 : decode cX9_compareAmount 25 = .ok (.aload_n 0, 1) := by decide +kernel
theorem dX9_compareAmount_26 : decode cX9_compareAmount 26 = .ok (.getfield 41, 3) := by decide +kernel
theorem dX9_compareAmount_29 : decode cX9_compareAmount 29 = .ok (.lload_n 2, 1) := by decide +kernel
theorem dX9_compareAmount_30 : decode cX9_compareAmount 30 = .ok (.lneg, 1) := by decide +kernel
theorem dX9_compareAmount_31 : decode cX9_compareAmount 31 = .ok (.invokevirtual 115, 3) := by decide +kernel
theorem dX9_compareAmount_34 : decode cX9_compareAmount 34 = .ok (.aload_n 0, 1) := by decide +kernel
theorem dX9_compareAmount_35 : decode cX9_compareAmount 35 = .ok (.getfield 54, 3) := by decide +kernel
theorem dX9_compareAmount_38 : decode cX9_compareAmount 38 = .ok (.invokevirtual 119, 3) := by decide +kernel
theorem dX9_compareAmount_41 : decode cX9_compareAmount 41 = .ok (.ireturn, 1) := by decide +kernel
theorem dX9_exchange_0 : decode cX9_exchange 0 = .ok (.aload_n 0, 1) := by decide +kernel
theorem dX9_exchange_1 : decode cX9_exchange 1 = .ok (.iload_n 1, 1) := by decide +kernel
theorem dX9_exchange_2 : decode cX9_exchange 2 = .ok (.iload_n 2, 1) := by decide +kernel
theorem dX9_exchange_3 : decode cX9_exchange 3 = .ok (.invokevirtual 88, 3) := by decide +kernel
theorem dX9_exchange_6 : decode cX9_exchange 6 = .ok (.astore 5, 2) := by decide +kernel
theorem dX9_exchange_8 : decode cX9_exchange 8 = .ok (.aload_n 0, 1) := by decide +kernel
theorem dX9_exchange_9 : decode cX9_exchange 9 = .ok (.iload_n 1, 1) := by decide +kernel
theorem dX9_exchange_10 : decode cX9_exchange 10 = .ok (.lload_n 3, 1) := by decide +kernel
theorem dX9_exchange_11 : decode cX9_exchange 11 = .ok (.invokevirtual 123, 3) := by decide +kernel
theorem dX9_exchange_14 : decode cX9_exchange 14 = .ok (.pop, 1) := by decide +kernel
theorem dX9_exchange_15 : decode cX9_exchange 15 = .ok (.aload_n 0, 1) := by decide +kernel
theorem dX9_exchange_16 : decode cX9_exchange 16 = .ok (.getfield 54, 3) := by decide +kernel
theorem dX9_exchange_19 : decode cX9_exchange 19 = .ok (.aload_n 0, 1) := by decide +kernel
theorem dX9_exchange_20 : decode cX9_exchange 20 = .ok (.getfield 45, 3) := by decide +kernel
theorem dX9_exchange_23 : decode cX9_exchange 23 = .ok (.invokevirtual 127, 3) := by decide +kernel
theorem dX9_exchange_26 : decode cX9_exchange 26 = .ok (.iconst 0, 1) := by decide +kernel
theorem dX9_exchange_27 : decode cX9_exchange 27 = .ok (.istore 6, 2) := by decide +kernel
theorem dX9_exchange_29 : decode cX9_exchange 29 = .ok (.iload 6, 2) := by decide +kernel
theorem dX9_exchange_31 : decode cX9_exchange 31 = .ok (.aload_n 0, 1) := by decide +kernel
theorem dX9_exchange_32 : decode cX9_exchange 32 = .ok (.getfield 68, 3) := by decide +kernel
theorem dX9_exchange_35 : decode cX9_exchange 35 = .ok (.if_icmp .ge 108, 3) := by decide +kernel
theorem dX9_exchange_38 : decode cX9_exchange 38 = .ok (.iload 6, 2) := by decide +kernel
theorem dX9_exchange_40 : decode cX9_exchange 40 = .ok (.iload_n 1, 1) := by decide +kernel
theorem dX9_exchange_41 : decode cX9_exchange 41 = .ok (.if_icmp .ne 6, 3) := by decide +kernel
theorem dX9_exchange_44 : decode cX9_exchange 44 = .ok (.goto 93, 3) := by decide +kernel
theorem dX9_exchange_47 : decode cX9_exchange 47 = .ok (.aload_n 0, 1) := by decide +kernel
theorem dX9_exchange_48 : decode cX9_exchange 48 = .ok (.iload 6, 2) := by decide +kernel
theorem dX9_exchange_50 : decode cX9_exchange 50 = .ok (.iload_n 2, 1) := by decide +kernel
theorem dX9_exchange_51 : decode cX9_exchange 51 = .ok (.invokevirtual 88, 3) := by decide +kernel
theorem dX9_exchange_54 : decode cX9_exchange 54 = .ok (.astore 7, 2) := by decide +kernel
theorem dX9_exchange_56 : decode cX9_exchange 56 = .ok (.iconst 0, 1) := by decide +kernel
theorem dX9_exchange_57 : decode cX9_exchange 57 = .ok (.istore 8, 2) := by decide +kernel
theorem dX9_exchange_59 : decode cX9_exchange 59 = .ok (.iload 8, 2) := by decide +kernel
theorem dX9_exchange_61 : decode cX9_exchange 61 = .ok (.aload_n 0, 1) := by decide +kernel
theorem dX9_exchange_62 : decode cX9_exchange 62 = .ok (.getfield 74, 3) := by decide +kernel
theorem dX9_exchange_65 : decode cX9_exchange 65 = .ok (.if_icmp .ge 38, 3) := by decide +kernel
theorem dX9_exchange_68 : decode cX9_exchange 68 = .ok (.iload 8, 2) := by decide +kernel
theorem dX9_exchange_70 : decode cX9_exchange 70 = .ok (.iload_n 2, 1) := by decide +kernel
theorem dX9_exchange_71 : decode cX9_exchange 71 = .ok (.if_icmp .eq 26, 3) := by decide +kernel
theorem dX9_exchange_74 : decode cX9_exchange 74 = .ok (.aload_n 0, 1) := by decide +kernel
theorem dX9_exchange_75 : decode cX9_exchange 75 = .ok (.aload_n 0, 1) := by decide +kernel
theorem dX9_exchange_76 : decode cX9_exchange 76 = .ok (.iload 6, 2) := by decide +kernel
theorem dX9_exchange_78 : decode cX9_exchange 78 = .ok (.iload 8, 2) := by decide +kernel
theorem dX9_exchange_80 : decode cX9_exchange 80 = .ok (.invokevirtual 88, 3) := by decide +kernel
theorem dX9_exchange_83 : decode cX9_exchange 83 = .ok (.aload 5, 2) := by decide +kernel
theorem dX9_exchange_85 : decode cX9_exchange 85 = .ok (.aload 7, 2) := by decide +kernel
theorem dX9_exchange_87 : decode cX9_exchange 87 = .ok (.aload_n 0, 1) := by decide +kernel
theorem dX9_exchange_88 : decode cX9_exchange 88 = .ok (.iload_n 1, 1) := by decide +kernel
theorem dX9_exchange_89 : decode cX9_exchange 89 = .ok (.iload 8, 2) := by decide +kernel
theorem dX9_exchange_91 : decode cX9_exchange 91 = .ok (.invokevirtual 88, 3) := by decide +kernel
theorem dX9_exchange_94 : decode cX9_exchange 94 = .ok (.invokevirtual 131, 3) := by decide +kernel
theorem dX9_exchange_97 : decode cX9_exchange 97 = .ok (.iinc 8 1, 3) := by decide +kernel
theorem dX9_exchange_100 : decode cX9_exchange 100 = .ok (.goto (-41), 3) := by decide +kernel
theorem dX9_exchange_103 : decode cX9_exchange 103 = .ok (.aload_n 0, 1) := by decide +kernel
theorem dX9_exchange_104 : decode cX9_exchange 104 = .ok (.aload_n 0, 1) := by decide +kernel
theorem dX9_exchange_105 : decode cX9_exchange 105 = .ok (.getfield 17, 3) := by decide +kernel
theorem dX9_exchange_108 : decode cX9_exchange 108 = .ok (.iload 6, 2) := by decide +kernel
theorem dX9_exchange_110 : decode cX9_exchange 110 = .ok (.aaload, 1) := by decide +kernel
theorem dX9_exchange_111 : decode cX9_exchange 111 = .ok (.aload 5, 2) := by decide +kernel
theorem dX9_exchange_113 : decode cX9_exchange 113 = .ok (.aload 7, 2) := by decide +kernel
theorem dX9_exchange_115 : decode cX9_exchange 115 = .ok (.aload_n 0, 1) := by decide +kernel
theorem dX9_exchange_116 : decode cX9_exchange 116 = .ok (.getfield 45, 3) := by decide +kernel
theorem dX9_exchange_119 : decode cX9_exchange 119 = .ok (.invokevirtual 131, 3) := by decide +kernel
theorem dX9_exchange_122 : decode cX9_exchange 122 = .ok (.aload 7, 2) := by decide +kernel
theorem dX9_exchange_124 : decode cX9_exchange 124 = .ok (.dup, 1) := by decide +kernel
theorem dX9_exchange_125 : decode cX9_exchange 125 = .ok (.getfield 135, 3) := by decide +kernel
theorem dX9_exchange_128 : decode cX9_exchange 128 = .ok (.aload 5, 2) := by decide +kernel
theorem dX9_exchange_130 : decode cX9_exchange 130 = .ok (.getfield 135, 3) := by decide +kernel
theorem dX9_exchange_133 : decode cX9_exchange 133 = .ok (.imul, 1) := by decide +kernel
theorem dX9_exchange_134 : decode cX9_exchange 134 = .ok (.putfield 135, 3) := by decide +kernel
theorem dX9_exchange_137 : decode cX9_exchange 137 = .ok (.iinc 6 1, 3) := by decide +kernel
theorem dX9_exchange_140 : decode cX9_exchange 140 = .ok (.goto (-111), 3) := by decide +kernel
theorem dX9_exchange_143 : decode cX9_exchange 143 = .ok (.aload_n 0, 1) := by decide +kernel
theorem dX9_exchange_144 : decode cX9_exchange 144 = .ok (.iload_n 1, 1) := by decide +kernel
theorem dX9_exchange_145 : decode cX9_exchange 145 = .ok (.iload_n 2, 1) := by decide +kernel
theorem dX9_exchange_146 : decode cX9_exchange 146 = .ok (.invokevirtual 138, 3) := by decide +kernel
theorem dX9_exchange_149 : decode cX9_exchange 149 = .ok (.aload_n 0, 1) := by decide +kernel
theorem dX9_exchange_150 : decode cX9_exchange 150 = .ok (.getfield 20, 3) := by decide +kernel
theorem dX9_exchange_153 : decode cX9_exchange 153 = .ok (.iload_n 2, 1) := by decide +kernel
theorem dX9_exchange_154 : decode cX9_exchange 154 = .ok (.lload_n 3, 1) := by decide +kernel
theorem dX9_exchange_155 : decode cX9_exchange 155 = .ok (.lastore, 1) := by decide +kernel
theorem dX9_exchange_156 : decode cX9_exchange 156 = .ok (.aload_n 0, 1) := by decide +kernel
theorem dX9_exchange_157 : decode cX9_exchange 157 = .ok (.getfield 24, 3) := by decide +kernel
theorem dX9_exchange_160 : decode cX9_exchange 160 = .ok (.iload_n 1, 1) := by decide +kernel
theorem dX9_exchange_161 : decode cX9_exchange 161 = .ok (.iaload, 1) := by decide +kernel
theorem dX9_exchange_162 : decode cX9_exchange 162 = .ok (.istore 6, 2) := by decide +kernel
theorem dX9_exchange_164 : decode cX9_exchange 164 = .ok (.aload_n 0, 1) := by decide +kernel
theorem dX9_exchange_165 : decode cX9_exchange 165 = .ok (.iload_n 1, 1) := by decide +kernel
theorem dX9_exchange_166 : decode cX9_exchange 166 = .ok (.aload_n 0, 1) := by decide +kernel
theorem dX9_exchange_167 : decode cX9_exchange 167 = .ok (.getfield 28, 3) := by decide +kernel
theorem dX9_exchange_170 : decode cX9_exchange 170 = .ok (.iload_n 2, 1) := by decide +kernel
theorem dX9_exchange_171 : decode cX9_exchange 171 = .ok (.iaload, 1) := by decide +kernel
theorem dX9_exchange_172 : decode cX9_exchange 172 = .ok (.invokevirtual 85, 3) := by decide +kernel
theorem dX9_exchange_175 : decode cX9_exchange 175 = .ok (.aload_n 0, 1) := by decide +kernel
theorem dX9_exchange_176 : decode cX9_exchange 176 = .ok (.iload_n 2, 1) := by decide +kernel
theorem dX9_exchange_177 : decode cX9_exchange 177 = .ok (.iload 6, 2) := by decide +kernel
theorem dX9_exchange_179 : decode cX9_exchange 179 = .ok (.invokevirtual 81, 3) := by decide +kernel
theorem dX9_exchange_182 : decode cX9_exchange 182 = .ok (.return_, 1) := by decide +kernel
theorem dX9_turnRow_0 : decode cX9_turnRow 0 = .ok (.aload_n 0, 1) := by decide +kernel
theorem dX9_turnRow_1 : decode cX9_turnRow 1 = .ok (.iload_n 1, 1) := by decide +kernel
theorem dX9_turnRow_2 : decode cX9_turnRow 2 = .ok (.iload_n 2, 1) := by decide +kernel
theorem dX9_turnRow_3 : decode cX9_turnRow 3 = .ok (.invokevirtual 88, 3) := by decide +kernel
theorem dX9_turnRow_6 : decode cX9_turnRow 6 = .ok (.astore_n 3, 1) := by decide +kernel
theorem dX9_turnRow_7 : decode cX9_turnRow 7 = .ok (.aload_n 3, 1) := by decide +kernel
theorem dX9_turnRow_8 : decode cX9_turnRow 8 = .ok (.getfield 135, 3) := by decide +kernel
theorem dX9_turnRow_11 : decode cX9_turnRow 11 = .ok (.istore 4, 2) := by decide +kernel
theorem dX9_turnRow_13 : decode cX9_turnRow 13 = .ok (.aload_n 0, 1) := by decide +kernel
theorem dX9_turnRow_14 : decode cX9_turnRow 14 = .ok (.getfield 54, 3) := by decide +kernel
theorem dX9_turnRow_17 : decode cX9_turnRow 17 = .ok (.invokevirtual 110, 3) := by decide +kernel
theorem dX9_turnRow_20 : decode cX9_turnRow 20 = .ok (.aload_n 0, 1) := by decide +kernel
theorem dX9_turnRow_21 : decode cX9_turnRow 21 = .ok (.getfield 54, 3) := by decide +kernel
theorem dX9_turnRow_24 : decode cX9_turnRow 24 = .ok (.aload_n 3, 1) := by decide +kernel
theorem dX9_turnRow_25 : decode cX9_turnRow 25 = .ok (.iload 4, 2) := by decide +kernel
theorem dX9_turnRow_27 : decode cX9_turnRow 27 = .ok (.i2l, 1) := by decide +kernel
theorem dX9_turnRow_28 : decode cX9_turnRow 28 = .ok (.aload_n 0, 1) := by decide +kernel
theorem dX9_turnRow_29 : decode cX9_turnRow 29 = .ok (.getfield 20, 3) := by decide +kernel
theorem dX9_turnRow_32 : decode cX9_turnRow 32 = .ok (.iload_n 2, 1) := by decide +kernel
theorem dX9_turnRow_33 : decode cX9_turnRow 33 = .ok (.laload, 1) := by decide +kernel
theorem dX9_turnRow_34 : decode cX9_turnRow 34 = .ok (.lmul, 1) := by decide +kernel
theorem dX9_turnRow_35 : decode cX9_turnRow 35 = .ok (.invokevirtual 115, 3) := by decide +kernel
theorem dX9_turnRow_38 : decode cX9_turnRow 38 = .ok (.aload_n 0, 1) := by decide +kernel
theorem dX9_turnRow_39 : decode cX9_turnRow 39 = .ok (.getfield 54, 3) := by decide +kernel
theorem dX9_turnRow_42 : decode cX9_turnRow 42 = .ok (.aload_n 0, 1) := by decide +kernel
theorem dX9_turnRow_43 : decode cX9_turnRow 43 = .ok (.getfield 45, 3) := by decide +kernel
theorem dX9_turnRow_46 : decode cX9_turnRow 46 = .ok (.iload 4, 2) := by decide +kernel
theorem dX9_turnRow_48 : decode cX9_turnRow 48 = .ok (.ineg, 1) := by decide +kernel
theorem dX9_turnRow_49 : decode cX9_turnRow 49 = .ok (.i2l, 1) := by decide +kernel
theorem dX9_turnRow_50 : decode cX9_turnRow 50 = .ok (.invokevirtual 115, 3) := by decide +kernel
theorem dX9_turnRow_53 : decode cX9_turnRow 53 = .ok (.aload_n 0, 1) := by decide +kernel
theorem dX9_turnRow_54 : decode cX9_turnRow 54 = .ok (.getfield 54, 3) := by decide +kernel
theorem dX9_turnRow_57 : decode cX9_turnRow 57 = .ok (.aload_n 0, 1) := by decide +kernel
theorem dX9_turnRow_58 : decode cX9_turnRow 58 = .ok (.getfield 17, 3) := by decide +kernel
theorem dX9_turnRow_61 : decode cX9_turnRow 61 = .ok (.iload_n 1, 1) := by decide +kernel
theorem dX9_turnRow_62 : decode cX9_turnRow 62 = .ok (.aaload, 1) := by decide +kernel
theorem dX9_turnRow_63 : decode cX9_turnRow 63 = .ok (.invokevirtual 127, 3) := by decide +kernel
theorem dX9_turnRow_66 : decode cX9_turnRow 66 = .ok (.iconst 0, 1) := by decide +kernel
theorem dX9_turnRow_67 : decode cX9_turnRow 67 = .ok (.istore 5, 2) := by decide +kernel
theorem dX9_turnRow_69 : decode cX9_turnRow 69 = .ok (.iload 5, 2) := by decide +kernel
theorem dX9_turnRow_71 : decode cX9_turnRow 71 = .ok (.aload_n 0, 1) := by decide +kernel
theorem dX9_turnRow_72 : decode cX9_turnRow 72 = .ok (.getfield 74, 3) := by decide +kernel
theorem dX9_turnRow_75 : decode cX9_turnRow 75 = .ok (.if_icmp .ge 33, 3) := by decide +kernel
theorem dX9_turnRow_78 : decode cX9_turnRow 78 = .ok (.iload 5, 2) := by decide +kernel
theorem dX9_turnRow_80 : decode cX9_turnRow 80 = .ok (.iload_n 2, 1) := by decide +kernel
theorem dX9_turnRow_81 : decode cX9_turnRow 81 = .ok (.if_icmp .eq 21, 3) := by decide +kernel
theorem dX9_turnRow_84 : decode cX9_turnRow 84 = .ok (.aload_n 0, 1) := by decide +kernel
theorem dX9_turnRow_85 : decode cX9_turnRow 85 = .ok (.iload_n 1, 1) := by decide +kernel
theorem dX9_turnRow_86 : decode cX9_turnRow 86 = .ok (.iload 5, 2) := by decide +kernel
theorem dX9_turnRow_88 : decode cX9_turnRow 88 = .ok (.invokevirtual 88, 3) := by decide +kernel
theorem dX9_turnRow_91 : decode cX9_turnRow 91 = .ok (.dup, 1) := by decide +kernel
theorem dX9_turnRow_92 : decode cX9_turnRow 92 = .ok (.getfield 135, 3) := by decide +kernel
theorem dX9_turnRow_95 : decode cX9_turnRow 95 = .ok (.iload 4, 2) := by decide +kernel
theorem dX9_turnRow_97 : decode cX9_turnRow 97 = .ok (.ineg, 1) := by decide +kernel
theorem dX9_turnRow_98 : decode cX9_turnRow 98 = .ok (.imul, 1) := by decide +kernel
theorem dX9_turnRow_99 : decode cX9_turnRow 99 = .ok (.putfield 135, 3) := by decide +kernel
theorem dX9_turnRow_102 : decode cX9_turnRow 102 = .ok (.iinc 5 1, 3) := by decide +kernel
theorem dX9_turnRow_105 : decode cX9_turnRow 105 = .ok (.goto (-36), 3) := by decide +kernel
theorem dX9_turnRow_108 : decode cX9_turnRow 108 = .ok (.aload_n 0, 1) := by decide +kernel
theorem dX9_turnRow_109 : decode cX9_turnRow 109 = .ok (.getfield 48, 3) := by decide +kernel
theorem dX9_turnRow_112 : decode cX9_turnRow 112 = .ok (.aload_n 0, 1) := by decide +kernel
theorem dX9_turnRow_113 : decode cX9_turnRow 113 = .ok (.getfield 41, 3) := by decide +kernel
theorem dX9_turnRow_116 : decode cX9_turnRow 116 = .ok (.iload 4, 2) := by decide +kernel
theorem dX9_turnRow_118 : decode cX9_turnRow 118 = .ok (.invokevirtual 141, 3) := by decide +kernel
theorem dX9_turnRow_121 : decode cX9_turnRow 121 = .ok (.aload_n 0, 1) := by decide +kernel
theorem dX9_turnRow_122 : decode cX9_turnRow 122 = .ok (.getfield 41, 3) := by decide +kernel
theorem dX9_turnRow_125 : decode cX9_turnRow 125 = .ok (.aload_n 3, 1) := by decide +kernel
theorem dX9_turnRow_126 : decode cX9_turnRow 126 = .ok (.iload 4, 2) := by decide +kernel
theorem dX9_turnRow_128 : decode cX9_turnRow 128 = .ok (.invokevirtual 141, 3) := by decide +kernel
theorem dX9_turnRow_131 : decode cX9_turnRow 131 = .ok (.aload_n 3, 1) := by decide +kernel
theorem dX9_turnRow_132 : decode cX9_turnRow 132 = .ok (.aload_n 0, 1) := by decide +kernel
theorem dX9_turnRow_133 : decode cX9_turnRow 133 = .ok (.getfield 48, 3) := by decide +kernel
theorem dX9_turnRow_136 : decode cX9_turnRow 136 = .ok (.iconst 1, 1) := by decide +kernel
theorem dX9_turnRow_137 : decode cX9_turnRow 137 = .ok (.invokevirtual 141, 3) := by decide +kernel
theorem dX9_turnRow_140 : decode cX9_turnRow 140 = .ok (.return_, 1) := by decide +kernel
theorem dX9_cross_0 : decode cX9_cross 0 = .ok (.aload_n 1, 1) := by decide +kernel
theorem dX9_cross_1 : decode cX9_cross 1 = .ok (.getfield 135, 3) := by decide +kernel
theorem dX9_cross_4 : decode cX9_cross 4 = .ok (.ifCond .ne 19, 3) := by decide +kernel
theorem dX9_cross_7 : decode cX9_cross 7 = .ok (.aload_n 3, 1) := by decide +kernel
theorem dX9_cross_8 : decode cX9_cross 8 = .ok (.getfield 135, 3) := by decide +kernel
theorem dX9_cross_11 : decode cX9_cross 11 = .ok (.ifCond .eq 11, 3) := by decide +kernel
theorem dX9_cross_14 : decode cX9_cross 14 = .ok (.aload 4, 2) := by decide +kernel
theorem dX9_cross_16 : decode cX9_cross 16 = .ok (.getfield 135, 3) := by decide +kernel
theorem dX9_cross_19 : decode cX9_cross 19 = .ok (.ifCond .ne 4, 3) := by decide +kernel
theorem dX9_cross_22 : decode cX9_cross 22 = .ok (.return_, 1) := by decide +kernel
theorem dX9_cross_23 : decode cX9_cross 23 = .ok (.aload_n 2, 1) := by decide +kernel
theorem dX9_cross_24 : decode cX9_cross 24 = .ok (.getfield 135, 3) := by decide +kernel
theorem dX9_cross_27 : decode cX9_cross 27 = .ok (.istore 5, 2) := by decide +kernel
theorem dX9_cross_29 : decode cX9_cross 29 = .ok (.aload_n 0, 1) := by decide +kernel
theorem dX9_cross_30 : decode cX9_cross 30 = .ok (.getfield 41, 3) := by decide +kernel
theorem dX9_cross_33 : decode cX9_cross 33 = .ok (.invokevirtual 145, 3) := by decide +kernel
theorem dX9_cross_36 : decode cX9_cross 36 = .ok (.lstore 6, 2) := by decide +kernel
theorem dX9_cross_38 : decode cX9_cross 38 = .ok (.aload_n 1, 1) := by decide +kernel
theorem dX9_cross_39 : decode cX9_cross 39 = .ok (.invokevirtual 149, 3) := by decide +kernel
theorem dX9_cross_42 : decode cX9_cross 42 = .ok (.ifCond .eq 74, 3) := by decide +kernel
theorem dX9_cross_45 : decode cX9_cross 45 = .ok (.aload_n 2, 1) := by decide +kernel
theorem dX9_cross_46 : decode cX9_cross 46 = .ok (.invokevirtual 149, 3) := by decide +kernel
theorem dX9_cross_49 : decode cX9_cross 49 = .ok (.ifCond .eq 67, 3) := by decide +kernel
theorem dX9_cross_52 : decode cX9_cross 52 = .ok (.aload_n 3, 1) := by decide +kernel
theorem dX9_cross_53 : decode cX9_cross 53 = .ok (.invokevirtual 149, 3) := by decide +kernel
theorem dX9_cross_56 : decode cX9_cross 56 = .ok (.ifCond .eq 60, 3) := by decide +kernel
theorem dX9_cross_59 : decode cX9_cross 59 = .ok (.aload 4, 2) := by decide +kernel
theorem dX9_cross_61 : decode cX9_cross 61 = .ok (.invokevirtual 149, 3) := by decide +kernel
theorem dX9_cross_64 : decode cX9_cross 64 = .ok (.ifCond .eq 52, 3) := by decide +kernel
theorem dX9_cross_67 : decode cX9_cross 67 = .ok (.aload_n 0, 1) := by decide +kernel
theorem dX9_cross_68 : decode cX9_cross 68 = .ok (.getfield 41, 3) := by decide +kernel
theorem dX9_cross_71 : decode cX9_cross 71 = .ok (.invokevirtual 149, 3) := by decide +kernel
theorem dX9_cross_74 : decode cX9_cross 74 = .ok (.ifCond .eq 42, 3) := by decide +kernel
theorem dX9_cross_77 : decode cX9_cross 77 = .ok (.lload 6, 2) := by decide +kernel
theorem dX9_cross_79 : decode cX9_cross 79 = .ok (.lconst 0, 1) := by decide +kernel
theorem dX9_cross_80 : decode cX9_cross 80 = .ok (.lcmp, 1) := by decide +kernel
theorem dX9_cross_81 : decode cX9_cross 81 = .ok (.ifCond .le 35, 3) := by decide +kernel
theorem dX9_cross_84 : decode cX9_cross 84 = .ok (.aload_n 1, 1) := by decide +kernel
theorem dX9_cross_85 : decode cX9_cross 85 = .ok (.iload 5, 2) := by decide +kernel
theorem dX9_cross_87 : decode cX9_cross 87 = .ok (.i2l, 1) := by decide +kernel
theorem dX9_cross_88 : decode cX9_cross 88 = .ok (.aload_n 1, 1) := by decide +kernel
theorem dX9_cross_89 : decode cX9_cross 89 = .ok (.invokevirtual 145, 3) := by decide +kernel
theorem dX9_cross_92 : decode cX9_cross 92 = .ok (.aload_n 2, 1) := by decide +kernel
theorem dX9_cross_93 : decode cX9_cross 93 = .ok (.invokevirtual 145, 3) := by decide +kernel
theorem dX9_cross_96 : decode cX9_cross 96 = .ok (.lmul, 1) := by decide +kernel
theorem dX9_cross_97 : decode cX9_cross 97 = .ok (.aload_n 3, 1) := by decide +kernel
theorem dX9_cross_98 : decode cX9_cross 98 = .ok (.invokevirtual 145, 3) := by decide +kernel
theorem dX9_cross_101 : decode cX9_cross 101 = .ok (.aload 4, 2) := by decide +kernel
theorem dX9_cross_103 : decode cX9_cross 103 = .ok (.invokevirtual 145, 3) := by decide +kernel
theorem dX9_cross_106 : decode cX9_cross 106 = .ok (.lmul, 1) := by decide +kernel
theorem dX9_cross_107 : decode cX9_cross 107 = .ok (.lsub, 1) := by decide +kernel
theorem dX9_cross_108 : decode cX9_cross 108 = .ok (.lmul, 1) := by decide +kernel
theorem dX9_cross_109 : decode cX9_cross 109 = .ok (.lload 6, 2) := by decide +kernel
theorem dX9_cross_111 : decode cX9_cross 111 = .ok (.ldiv, 1) := by decide +kernel
theorem dX9_cross_112 : decode cX9_cross 112 = .ok (.invokevirtual 77, 3) := by decide +kernel
theorem dX9_cross_115 : decode cX9_cross 115 = .ok (.return_, 1) := by decide +kernel
theorem dX9_cross_116 : decode cX9_cross 116 = .ok (.aload_n 0, 1) := by decide +kernel
theorem dX9_cross_117 : decode cX9_cross 117 = .ok (.getfield 54, 3) := by decide +kernel
theorem dX9_cross_120 : decode cX9_cross 120 = .ok (.invokevirtual 110, 3) := by decide +kernel
theorem dX9_cross_123 : decode cX9_cross 123 = .ok (.aload_n 0, 1) := by decide +kernel
theorem dX9_cross_124 : decode cX9_cross 124 = .ok (.getfield 54, 3) := by decide +kernel
theorem dX9_cross_127 : decode cX9_cross 127 = .ok (.aload_n 1, 1) := by decide +kernel
theorem dX9_cross_128 : decode cX9_cross 128 = .ok (.aload_n 2, 1) := by decide +kernel
theorem dX9_cross_129 : decode cX9_cross 129 = .ok (.iload 5, 2) := by decide +kernel
theorem dX9_cross_131 : decode cX9_cross 131 = .ok (.invokevirtual 153, 3) := by decide +kernel
theorem dX9_cross_134 : decode cX9_cross 134 = .ok (.aload_n 0, 1) := by decide +kernel
theorem dX9_cross_135 : decode cX9_cross 135 = .ok (.getfield 54, 3) := by decide +kernel
theorem dX9_cross_138 : decode cX9_cross 138 = .ok (.aload_n 3, 1) := by decide +kernel
theorem dX9_cross_139 : decode cX9_cross 139 = .ok (.aload 4, 2) := by decide +kernel
theorem dX9_cross_141 : decode cX9_cross 141 = .ok (.iload 5, 2) := by decide +kernel
theorem dX9_cross_143 : decode cX9_cross 143 = .ok (.ineg, 1) := by decide +kernel
theorem dX9_cross_144 : decode cX9_cross 144 = .ok (.invokevirtual 153, 3) := by decide +kernel
theorem dX9_cross_147 : decode cX9_cross 147 = .ok (.aload_n 0, 1) := by decide +kernel
theorem dX9_cross_148 : decode cX9_cross 148 = .ok (.getfield 41, 3) := by decide +kernel
theorem dX9_cross_151 : decode cX9_cross 151 = .ok (.invokevirtual 156, 3) := by decide +kernel
theorem dX9_cross_154 : decode cX9_cross 154 = .ok (.ifCond .eq 12, 3) := by decide +kernel
theorem dX9_cross_157 : decode cX9_cross 157 = .ok (.aload_n 0, 1) := by decide +kernel
theorem dX9_cross_158 : decode cX9_cross 158 = .ok (.getfield 54, 3) := by decide +kernel
theorem dX9_cross_161 : decode cX9_cross 161 = .ok (.aload_n 1, 1) := by decide +kernel
theorem dX9_cross_162 : decode cX9_cross 162 = .ok (.invokevirtual 127, 3) := by decide +kernel
theorem dX9_cross_165 : decode cX9_cross 165 = .ok (.return_, 1) := by decide +kernel
theorem dX9_cross_166 : decode cX9_cross 166 = .ok (.aload_n 0, 1) := by decide +kernel
theorem dX9_cross_167 : decode cX9_cross 167 = .ok (.getfield 54, 3) := by decide +kernel
theorem dX9_cross_170 : decode cX9_cross 170 = .ok (.aload_n 0, 1) := by decide +kernel
theorem dX9_cross_171 : decode cX9_cross 171 = .ok (.getfield 51, 3) := by decide +kernel
theorem dX9_cross_174 : decode cX9_cross 174 = .ok (.invokevirtual 127, 3) := by decide +kernel
theorem dX9_cross_177 : decode cX9_cross 177 = .ok (.aload_n 0, 1) := by decide +kernel
theorem dX9_cross_178 : decode cX9_cross 178 = .ok (.getfield 58, 3) := by decide +kernel
theorem dX9_cross_181 : decode cX9_cross 181 = .ok (.aload_n 0, 1) := by decide +kernel
theorem dX9_cross_182 : decode cX9_cross 182 = .ok (.getfield 51, 3) := by decide +kernel
theorem dX9_cross_185 : decode cX9_cross 185 = .ok (.aload_n 0, 1) := by decide +kernel
theorem dX9_cross_186 : decode cX9_cross 186 = .ok (.getfield 41, 3) := by decide +kernel
theorem dX9_cross_189 : decode cX9_cross 189 = .ok (.invokevirtual 159, 3) := by decide +kernel
theorem dX9_cross_192 : decode cX9_cross 192 = .ok (.aload_n 1, 1) := by decide +kernel
theorem dX9_cross_193 : decode cX9_cross 193 = .ok (.aload_n 0, 1) := by decide +kernel
theorem dX9_cross_194 : decode cX9_cross 194 = .ok (.getfield 58, 3) := by decide +kernel
theorem dX9_cross_197 : decode cX9_cross 197 = .ok (.getfield 165, 3) := by decide +kernel
theorem dX9_cross_200 : decode cX9_cross 200 = .ok (.aload_n 0, 1) := by decide +kernel
theorem dX9_cross_201 : decode cX9_cross 201 = .ok (.getfield 51, 3) := by decide +kernel
theorem dX9_cross_204 : decode cX9_cross 204 = .ok (.getfield 135, 3) := by decide +kernel
theorem dX9_cross_207 : decode cX9_cross 207 = .ok (.invokevirtual 141, 3) := by decide +kernel
theorem dX9_cross_210 : decode cX9_cross 210 = .ok (.return_, 1) := by decide +kernel
theorem dX9_move_0 : decode cX9_move 0 = .ok (.lload_n 2, 1) := by decide +kernel
theorem dX9_move_1 : decode cX9_move 1 = .ok (.aload_n 0, 1) := by decide +kernel
theorem dX9_move_2 : decode cX9_move 2 = .ok (.getfield 20, 3) := by decide +kernel
theorem dX9_move_5 : decode cX9_move 5 = .ok (.iload_n 1, 1) := by decide +kernel
theorem dX9_move_6 : decode cX9_move 6 = .ok (.laload, 1) := by decide +kernel
theorem dX9_move_7 : decode cX9_move 7 = .ok (.lsub, 1) := by decide +kernel
theorem dX9_move_8 : decode cX9_move 8 = .ok (.lstore 4, 2) := by decide +kernel
theorem dX9_move_10 : decode cX9_move 10 = .ok (.iconst 0, 1) := by decide +kernel
theorem dX9_move_11 : decode cX9_move 11 = .ok (.istore 6, 2) := by decide +kernel
theorem dX9_move_13 : decode cX9_move 13 = .ok (.iload 6, 2) := by decide +kernel
theorem dX9_move_15 : decode cX9_move 15 = .ok (.aload_n 0, 1) := by decide +kernel
theorem dX9_move_16 : decode cX9_move 16 = .ok (.getfield 68, 3) := by decide +kernel
theorem dX9_move_19 : decode cX9_move 19 = .ok (.if_icmp .ge 61, 3) := by decide +kernel
theorem dX9_move_22 : decode cX9_move 22 = .ok (.aload_n 0, 1) := by decide +kernel
theorem dX9_move_23 : decode cX9_move 23 = .ok (.getfield 54, 3) := by decide +kernel
theorem dX9_move_26 : decode cX9_move 26 = .ok (.invokevirtual 110, 3) := by decide +kernel
theorem dX9_move_29 : decode cX9_move 29 = .ok (.aload_n 0, 1) := by decide +kernel
theorem dX9_move_30 : decode cX9_move 30 = .ok (.getfield 54, 3) := by decide +kernel
theorem dX9_move_33 : decode cX9_move 33 = .ok (.aload_n 0, 1) := by decide +kernel
theorem dX9_move_34 : decode cX9_move 34 = .ok (.getfield 17, 3) := by decide +kernel
theorem dX9_move_37 : decode cX9_move 37 = .ok (.iload 6, 2) := by decide +kernel
theorem dX9_move_39 : decode cX9_move 39 = .ok (.aaload, 1) := by decide +kernel
theorem dX9_move_40 : decode cX9_move 40 = .ok (.lconst 1, 1) := by decide +kernel
theorem dX9_move_41 : decode cX9_move 41 = .ok (.invokevirtual 115, 3) := by decide +kernel
theorem dX9_move_44 : decode cX9_move 44 = .ok (.aload_n 0, 1) := by decide +kernel
theorem dX9_move_45 : decode cX9_move 45 = .ok (.getfield 54, 3) := by decide +kernel
theorem dX9_move_48 : decode cX9_move 48 = .ok (.aload_n 0, 1) := by decide +kernel
theorem dX9_move_49 : decode cX9_move 49 = .ok (.iload 6, 2) := by decide +kernel
theorem dX9_move_51 : decode cX9_move 51 = .ok (.iload_n 1, 1) := by decide +kernel
theorem dX9_move_52 : decode cX9_move 52 = .ok (.invokevirtual 88, 3) := by decide +kernel
theorem dX9_move_55 : decode cX9_move 55 = .ok (.lload 4, 2) := by decide +kernel
theorem dX9_move_57 : decode cX9_move 57 = .ok (.invokevirtual 115, 3) := by decide +kernel
theorem dX9_move_60 : decode cX9_move 60 = .ok (.aload_n 0, 1) := by decide +kernel
theorem dX9_move_61 : decode cX9_move 61 = .ok (.getfield 54, 3) := by decide +kernel
theorem dX9_move_64 : decode cX9_move 64 = .ok (.aload_n 0, 1) := by decide +kernel
theorem dX9_move_65 : decode cX9_move 65 = .ok (.getfield 17, 3) := by decide +kernel
theorem dX9_move_68 : decode cX9_move 68 = .ok (.iload 6, 2) := by decide +kernel
theorem dX9_move_70 : decode cX9_move 70 = .ok (.aaload, 1) := by decide +kernel
theorem dX9_move_71 : decode cX9_move 71 = .ok (.invokevirtual 127, 3) := by decide +kernel
theorem dX9_move_74 : decode cX9_move 74 = .ok (.iinc 6 1, 3) := by decide +kernel
theorem dX9_move_77 : decode cX9_move 77 = .ok (.goto (-64), 3) := by decide +kernel
theorem dX9_move_80 : decode cX9_move 80 = .ok (.aload_n 0, 1) := by decide +kernel
theorem dX9_move_81 : decode cX9_move 81 = .ok (.getfield 20, 3) := by decide +kernel
theorem dX9_move_84 : decode cX9_move 84 = .ok (.iload_n 1, 1) := by decide +kernel
theorem dX9_move_85 : decode cX9_move 85 = .ok (.lload_n 2, 1) := by decide +kernel
theorem dX9_move_86 : decode cX9_move 86 = .ok (.lastore, 1) := by decide +kernel
theorem dX9_move_87 : decode cX9_move 87 = .ok (.return_, 1) := by decide +kernel
theorem dX9_isAmountWhole_0 : decode cX9_isAmountWhole 0 = .ok (.aload_n 0, 1) := by decide +kernel
theorem dX9_isAmountWhole_1 : decode cX9_isAmountWhole 1 = .ok (.getfield 41, 3) := by decide +kernel
theorem dX9_isAmountWhole_4 : decode cX9_isAmountWhole 4 = .ok (.invokevirtual 156, 3) := by decide +kernel
theorem dX9_isAmountWhole_7 : decode cX9_isAmountWhole 7 = .ok (.ifCond .eq 5, 3) := by decide +kernel
theorem dX9_isAmountWhole_10 : decode cX9_isAmountWhole 10 = .ok (.iconst 1, 1) := by decide +kernel
theorem dX9_isAmountWhole_11 : decode cX9_isAmountWhole 11 = .ok (.ireturn, 1) := by decide +kernel
theorem dX9_isAmountWhole_12 : decode cX9_isAmountWhole 12 = .ok (.aload_n 0, 1) := by decide +kernel
theorem dX9_isAmountWhole_13 : decode cX9_isAmountWhole 13 = .ok (.getfield 58, 3) := by decide +kernel
theorem dX9_isAmountWhole_16 : decode cX9_isAmountWhole 16 = .ok (.aload_n 0, 1) := by decide +kernel
theorem dX9_isAmountWhole_17 : decode cX9_isAmountWhole 17 = .ok (.getfield 17, 3) := by decide +kernel
theorem dX9_isAmountWhole_20 : decode cX9_isAmountWhole 20 = .ok (.iload_n 1, 1) := by decide +kernel
theorem dX9_isAmountWhole_21 : decode cX9_isAmountWhole 21 = .ok (.aaload, 1) := by decide +kernel
theorem dX9_isAmountWhole_22 : decode cX9_isAmountWhole 22 = .ok (.aload_n 0, 1) := by decide +kernel
theorem dX9_isAmountWhole_23 : decode cX9_isAmountWhole 23 = .ok (.getfield 41, 3) := by decide +kernel
theorem dX9_isAmountWhole_26 : decode cX9_isAmountWhole 26 = .ok (.invokevirtual 159, 3) := by decide +kernel
theorem dX9_isAmountWhole_29 : decode cX9_isAmountWhole 29 = .ok (.aload_n 0, 1) := by decide +kernel
theorem dX9_isAmountWhole_30 : decode cX9_isAmountWhole 30 = .ok (.getfield 58, 3) := by decide +kernel
theorem dX9_isAmountWhole_33 : decode cX9_isAmountWhole 33 = .ok (.getfield 168, 3) := by decide +kernel
theorem dX9_isAmountWhole_36 : decode cX9_isAmountWhole 36 = .ok (.getfield 171, 3) := by decide +kernel
theorem dX9_isAmountWhole_39 : decode cX9_isAmountWhole 39 = .ok (.ifCond .ne 7, 3) := by decide +kernel
theorem dX9_isAmountWhole_42 : decode cX9_isAmountWhole 42 = .ok (.iconst 1, 1) := by decide +kernel
theorem dX9_isAmountWhole_43 : decode cX9_isAmountWhole 43 = .ok (.goto 4, 3) := by decide +kernel
theorem dX9_isAmountWhole_46 : decode cX9_isAmountWhole 46 = .ok (.iconst 0, 1) := by decide +kernel
theorem dX9_isAmountWhole_47 : decode cX9_isAmountWhole 47 = .ok (.ireturn, 1) := by decide +kernel
theorem dX9_floorOfAmount_0 : decode cX9_floorOfAmount 0 = .ok (.aload_n 0, 1) := by decide +kernel
theorem dX9_floorOfAmount_1 : decode cX9_floorOfAmount 1 = .ok (.getfield 58, 3) := by decide +kernel
theorem dX9_floorOfAmount_4 : decode cX9_floorOfAmount 4 = .ok (.aload_n 0, 1) := by decide +kernel
theorem dX9_floorOfAmount_5 : decode cX9_floorOfAmount 5 = .ok (.getfield 17, 3) := by decide +kernel
theorem dX9_floorOfAmount_8 : decode cX9_floorOfAmount 8 = .ok (.iload_n 1, 1) := by decide +kernel
theorem dX9_floorOfAmount_9 : decode cX9_floorOfAmount 9 = .ok (.aaload, 1) := by decide +kernel
theorem dX9_floorOfAmount_10 : decode cX9_floorOfAmount 10 = .ok (.aload_n 0, 1) := by decide +kernel
theorem dX9_floorOfAmount_11 : decode cX9_floorOfAmount 11 = .ok (.getfield 41, 3) := by decide +kernel
theorem dX9_floorOfAmount_14 : decode cX9_floorOfAmount 14 = .ok (.invokevirtual 159, 3) := by decide +kernel
theorem dX9_floorOfAmount_17 : decode cX9_floorOfAmount 17 = .ok (.aload_n 0, 1) := by decide +kernel
theorem dX9_floorOfAmount_18 : decode cX9_floorOfAmount 18 = .ok (.getfield 58, 3) := by decide +kernel
theorem dX9_floorOfAmount_21 : decode cX9_floorOfAmount 21 = .ok (.getfield 165, 3) := by decide +kernel
theorem dX9_floorOfAmount_24 : decode cX9_floorOfAmount 24 = .ok (.astore_n 2, 1) := by decide +kernel
theorem dX9_floorOfAmount_25 : decode cX9_floorOfAmount 25 = .ok (.aload_n 2, 1) := by decide +kernel
theorem dX9_floorOfAmount_26 : decode cX9_floorOfAmount 26 = .ok (.getfield 171, 3) := by decide +kernel
theorem dX9_floorOfAmount_29 : decode cX9_floorOfAmount 29 = .ok (.iconst 3, 1) := by decide +kernel
theorem dX9_floorOfAmount_30 : decode cX9_floorOfAmount 30 = .ok (.if_icmp .gt 12, 3) := by decide +kernel
theorem dX9_floorOfAmount_33 : decode cX9_floorOfAmount 33 = .ok (.aload_n 2, 1) := by decide +kernel
theorem dX9_floorOfAmount_34 : decode cX9_floorOfAmount 34 = .ok (.iconst 2, 1) := by decide +kernel
theorem dX9_floorOfAmount_35 : decode cX9_floorOfAmount 35 = .ok (.invokevirtual 174, 3) := by decide +kernel
theorem dX9_floorOfAmount_38 : decode cX9_floorOfAmount 38 = .ok (.iconst 1, 1) := by decide +kernel
theorem dX9_floorOfAmount_39 : decode cX9_floorOfAmount 39 = .ok (.if_icmp .le 7, 3) := by decide +kernel
theorem dX9_floorOfAmount_42 : decode cX9_floorOfAmount 42 = .ok (.ldc2_w 177, 3) := by decide +kernel
theorem dX9_floorOfAmount_45 : decode cX9_floorOfAmount 45 = .ok (.lreturn, 1) := by decide +kernel
theorem dX9_floorOfAmount_46 : decode cX9_floorOfAmount 46 = .ok (.aload_n 2, 1) := by decide +kernel
theorem dX9_floorOfAmount_47 : decode cX9_floorOfAmount 47 = .ok (.iconst 2, 1) := by decide +kernel
theorem dX9_floorOfAmount_48 : decode cX9_floorOfAmount 48 = .ok (.invokevirtual 174, 3) := by decide +kernel
theorem dX9_floorOfAmount_51 : decode cX9_floorOfAmount 51 = .ok (.i2l, 1) := by decide +kernel
theorem dX9_floorOfAmount_52 : decode cX9_floorOfAmount 52 = .ok (.ldc2_w 179, 3) := by decide +kernel
theorem dX9_floorOfAmount_55 : decode cX9_floorOfAmount 55 = .ok (.lmul, 1) := by decide +kernel
theorem dX9_floorOfAmount_56 : decode cX9_floorOfAmount 56 = .ok (.aload_n 2, 1) := by decide +kernel
theorem dX9_floorOfAmount_57 : decode cX9_floorOfAmount 57 = .ok (.invokevirtual 181, 3) := by decide +kernel
theorem dX9_floorOfAmount_60 : decode cX9_floorOfAmount 60 = .ok (.ladd, 1) := by decide +kernel
theorem dX9_floorOfAmount_61 : decode cX9_floorOfAmount 61 = .ok (.lstore_n 3, 1) := by decide +kernel
theorem dX9_floorOfAmount_62 : decode cX9_floorOfAmount 62 = .ok (.aload_n 0, 1) := by decide +kernel
theorem dX9_floorOfAmount_63 : decode cX9_floorOfAmount 63 = .ok (.getfield 17, 3) := by decide +kernel
theorem dX9_floorOfAmount_66 : decode cX9_floorOfAmount 66 = .ok (.iload_n 1, 1) := by decide +kernel
theorem dX9_floorOfAmount_67 : decode cX9_floorOfAmount 67 = .ok (.aaload, 1) := by decide +kernel
theorem dX9_floorOfAmount_68 : decode cX9_floorOfAmount 68 = .ok (.getfield 135, 3) := by decide +kernel
theorem dX9_floorOfAmount_71 : decode cX9_floorOfAmount 71 = .ok (.ifCond .ge 10, 3) := by decide +kernel
theorem dX9_floorOfAmount_74 : decode cX9_floorOfAmount 74 = .ok (.lload_n 3, 1) := by decide +kernel
theorem dX9_floorOfAmount_75 : decode cX9_floorOfAmount 75 = .ok (.lneg, 1) := by decide +kernel
theorem dX9_floorOfAmount_76 : decode cX9_floorOfAmount 76 = .ok (.lconst 1, 1) := by decide +kernel
theorem dX9_floorOfAmount_77 : decode cX9_floorOfAmount 77 = .ok (.lsub, 1) := by decide +kernel
theorem dX9_floorOfAmount_78 : decode cX9_floorOfAmount 78 = .ok (.goto 4, 3) := by decide +kernel
theorem dX9_floorOfAmount_81 : decode cX9_floorOfAmount 81 = .ok (.lload_n 3, 1) := by decide +kernel
theorem dX9_floorOfAmount_82 : decode cX9_floorOfAmount 82 = .ok (.lreturn, 1) := by decide +kernel
theorem dX10_init_0 : decode cX10_init 0 = .ok (.aload_n 0, 1) := by decide +kernel
theorem dX10_init_1 : decode cX10_init 1 = .ok (.invokespecial 3, 3) := by decide +kernel
theorem dX10_init_4 : decode cX10_init 4 = .ok (.aload_n 0, 1) := by decide +kernel
theorem dX10_init_5 : decode cX10_init 5 = .ok (.sipush 301, 3) := by decide +kernel
theorem dX10_init_8 : decode cX10_init 8 = .ok (.newarray .int, 2) := by decide +kernel
theorem dX10_init_10 : decode cX10_init 10 = .ok (.putfield 9, 3) := by decide +kernel
theorem dX10_init_13 : decode cX10_init 13 = .ok (.aload_n 0, 1) := by decide +kernel
theorem dX10_init_14 : decode cX10_init 14 = .ok (.sipush 301, 3) := by decide +kernel
theorem dX10_init_17 : decode cX10_init 17 = .ok (.newarray .int, 2) := by decide +kernel
theorem dX10_init_19 : decode cX10_init 19 = .ok (.putfield 15, 3) := by decide +kernel
theorem dX10_init_22 : decode cX10_init 22 = .ok (.aload_n 0, 1) := by decide +kernel
theorem dX10_init_23 : decode cX10_init 23 = .ok (.sipush 301, 3) := by decide +kernel
theorem dX10_init_26 : decode cX10_init 26 = .ok (.newarray .int, 2) := by decide +kernel
theorem dX10_init_28 : decode cX10_init 28 = .ok (.putfield 18, 3) := by decide +kernel
theorem dX10_init_31 : decode cX10_init 31 = .ok (.aload_n 0, 1) := by decide +kernel
theorem dX10_init_32 : decode cX10_init 32 = .ok (.sipush 301, 3) := by decide +kernel
theorem dX10_init_35 : decode cX10_init 35 = .ok (.newarray .int, 2) := by decide +kernel
theorem dX10_init_37 : decode cX10_init 37 = .ok (.putfield 21, 3) := by decide +kernel
theorem dX10_init_40 : decode cX10_init 40 = .ok (.aload_n 0, 1) := by decide +kernel
theorem dX10_init_41 : decode cX10_init 41 = .ok (.sipush 301, 3) := by decide +kernel
theorem dX10_init_44 : decode cX10_init 44 = .ok (.newarray .long, 2) := by decide +kernel
theorem dX10_init_46 : decode cX10_init 46 = .ok (.putfield 24, 3) := by decide +kernel
theorem dX10_init_49 : decode cX10_init 49 = .ok (.aload_n 0, 1) := by decide +kernel
theorem dX10_init_50 : decode cX10_init 50 = .ok (.sipush 301, 3) := by decide +kernel
theorem dX10_init_53 : decode cX10_init 53 = .ok (.newarray .long, 2) := by decide +kernel
theorem dX10_init_55 : decode cX10_init 55 = .ok (.putfield 28, 3) := by decide +kernel
theorem dX10_init_58 : decode cX10_init 58 = .ok (.aload_n 0, 1) := by decide +kernel
theorem dX10_init_59 : decode cX10_init 59 = .ok (.sipush 301, 3) := by decide +kernel
theorem dX10_init_62 : decode cX10_init 62 = .ok (.newarray .boolean, 2) := by decide +kernel
theorem dX10_init_64 : decode cX10_init 64 = .ok (.putfield 31, 3) := by decide +kernel
theorem dX10_init_67 : decode cX10_init 67 = .ok (.aload_n 0, 1) := by decide +kernel
theorem dX10_init_68 : decode cX10_init 68 = .ok (.sipush 301, 3) := by decide +kernel
theorem dX10_init_71 : decode cX10_init 71 = .ok (.newarray .int, 2) := by decide +kernel
theorem dX10_init_73 : decode cX10_init 73 = .ok (.putfield 35, 3) := by decide +kernel
theorem dX10_init_76 : decode cX10_init 76 = .ok (.aload_n 0, 1) := by decide +kernel
theorem dX10_init_77 : decode cX10_init 77 = .ok (.sipush 151, 3) := by decide +kernel
theorem dX10_init_80 : decode cX10_init 80 = .ok (.anewarray 38, 3) := by decide +kernel
theorem dX10_init_83 : decode cX10_init 83 = .ok (.putfield 40, 3) := by decide +kernel
theorem dX10_init_86 : decode cX10_init 86 = .ok (.aload_n 0, 1) := by decide +kernel
theorem dX10_init_87 : decode cX10_init 87 = .ok (.bipush (-2), 2) := by decide +kernel
theorem dX10_init_89 : decode cX10_init 89 = .ok (.putfield 44, 3) := by decide +kernel
theorem dX10_init_92 : decode cX10_init 92 = .ok (.return_, 1) := by decide +kernel
theorem dX10_clear_0 : decode cX10_clear 0 = .ok (.aload_n 0, 1) := by decide +kernel
theorem dX10_clear_1 : decode cX10_clear 1 = .ok (.iconst 0, 1) := by decide +kernel
theorem dX10_clear_2 : decode cX10_clear 2 = .ok (.putfield 48, 3) := by decide +kernel
theorem dX10_clear_5 : decode cX10_clear 5 = .ok (.aload_n 0, 1) := by decide +kernel
theorem dX10_clear_6 : decode cX10_clear 6 = .ok (.iconst 0, 1) := by decide +kernel
theorem dX10_clear_7 : decode cX10_clear 7 = .ok (.putfield 51, 3) := by decide +kernel
theorem dX10_clear_10 : decode cX10_clear 10 = .ok (.aload_n 0, 1) := by decide +kernel
theorem dX10_clear_11 : decode cX10_clear 11 = .ok (.bipush (-2), 2) := by decide +kernel
theorem dX10_clear_13 : decode cX10_clear 13 = .ok (.putfield 44, 3) := by decide +kernel
theorem dX10_clear_16 : decode cX10_clear 16 = .ok (.return_, 1) := by decide +kernel
theorem dX10_has_0 : decode cX10_has 0 = .ok (.iload_n 1, 1) := by decide +kernel
theorem dX10_has_1 : decode cX10_has 1 = .ok (.ifCond .lt 15, 3) := by decide +kernel
theorem dX10_has_4 : decode cX10_has 4 = .ok (.iload_n 1, 1) := by decide +kernel
theorem dX10_has_5 : decode cX10_has 5 = .ok (.aload_n 0, 1) := by decide +kernel
theorem dX10_has_6 : decode cX10_has 6 = .ok (.getfield 48, 3) := by decide +kernel
theorem dX10_has_9 : decode cX10_has 9 = .ok (.if_icmp .ge 7, 3) := by decide +kernel
theorem dX10_has_12 : decode cX10_has 12 = .ok (.iconst 1, 1) := by decide +kernel
theorem dX10_has_13 : decode cX10_has 13 = .ok (.goto 4, 3) := by decide +kernel
theorem dX10_has_16 : decode cX10_has 16 = .ok (.iconst 0, 1) := by decide +kernel
theorem dX10_has_17 : decode cX10_has 17 = .ok (.ireturn, 1) := by decide +kernel
theorem dX10_isSplit_0 : decode cX10_isSplit 0 = .ok (.aload_n 0, 1) := by decide +kernel
theorem dX10_isSplit_1 : decode cX10_isSplit 1 = .ok (.getfield 15, 3) := by decide +kernel
theorem dX10_isSplit_4 : decode cX10_isSplit 4 = .ok (.iload_n 1, 1) := by decide +kernel
theorem dX10_isSplit_5 : decode cX10_isSplit 5 = .ok (.iaload, 1) := by decide +kernel
theorem dX10_isSplit_6 : decode cX10_isSplit 6 = .ok (.ifCond .lt 7, 3) := by decide +kernel
theorem dX10_isSplit_9 : decode cX10_isSplit 9 = .ok (.iconst 1, 1) := by decide +kernel
theorem dX10_isSplit_10 : decode cX10_isSplit 10 = .ok (.goto 4, 3) := by decide +kernel
theorem dX10_isSplit_13 : decode cX10_isSplit 13 = .ok (.iconst 0, 1) := by decide +kernel
theorem dX10_isSplit_14 : decode cX10_isSplit 14 = .ok (.ireturn, 1) := by decide +kernel
theorem dX10_leafOf_0 : decode cX10_leafOf 0 = .ok (.aload_n 0, 1) := by decide +kernel
theorem dX10_leafOf_1 : decode cX10_leafOf 1 = .ok (.iload_n 1, 1) := by decide +kernel
theorem dX10_leafOf_2 : decode cX10_leafOf 2 = .ok (.invokevirtual 54, 3) := by decide +kernel
theorem dX10_leafOf_5 : decode cX10_leafOf 5 = .ok (.ifCond .eq 25, 3) := by decide +kernel
theorem dX10_leafOf_8 : decode cX10_leafOf 8 = .ok (.aload_n 0, 1) := by decide +kernel
theorem dX10_leafOf_9 : decode cX10_leafOf 9 = .ok (.iload_n 1, 1) := by decide +kernel
theorem dX10_leafOf_10 : decode cX10_leafOf 10 = .ok (.invokevirtual 58, 3) := by decide +kernel
theorem dX10_leafOf_13 : decode cX10_leafOf 13 = .ok (.ifCond .ne 17, 3) := by decide +kernel
theorem dX10_leafOf_16 : decode cX10_leafOf 16 = .ok (.aload_n 0, 1) := by decide +kernel
theorem dX10_leafOf_17 : decode cX10_leafOf 17 = .ok (.getfield 40, 3) := by decide +kernel
theorem dX10_leafOf_20 : decode cX10_leafOf 20 = .ok (.aload_n 0, 1) := by decide +kernel
theorem dX10_leafOf_21 : decode cX10_leafOf 21 = .ok (.getfield 35, 3) := by decide +kernel
theorem dX10_leafOf_24 : decode cX10_leafOf 24 = .ok (.iload_n 1, 1) := by decide +kernel
theorem dX10_leafOf_25 : decode cX10_leafOf 25 = .ok (.iaload, 1) := by decide +kernel
theorem dX10_leafOf_26 : decode cX10_leafOf 26 = .ok (.aaload, 1) := by decide +kernel
theorem dX10_leafOf_27 : decode cX10_leafOf 27 = .ok (.goto 4, 3) := by decide +kernel
theorem dX10_leafOf_30 : decode cX10_leafOf 30 = .ok (.aconst_null, 1) := by decide +kernel
theorem dX10_leafOf_31 : decode cX10_leafOf 31 = .ok (.areturn, 1) := by decide +kernel
theorem dX10_addLeaf_0 : decode cX10_addLeaf 0 = .ok (.aload_n 0, 1) := by decide +kernel
theorem dX10_addLeaf_1 : decode cX10_addLeaf 1 = .ok (.iload_n 1, 1) := by decide +kernel
theorem dX10_addLeaf_2 : decode cX10_addLeaf 2 = .ok (.invokevirtual 54, 3) := by decide +kernel
theorem dX10_addLeaf_5 : decode cX10_addLeaf 5 = .ok (.ifCond .eq 16, 3) := by decide +kernel
theorem dX10_addLeaf_8 : decode cX10_addLeaf 8 = .ok (.aload_n 0, 1) := by decide +kernel
theorem dX10_addLeaf_9 : decode cX10_addLeaf 9 = .ok (.getfield 15, 3) := by decide +kernel
theorem dX10_addLeaf_12 : decode cX10_addLeaf 12 = .ok (.iload_n 1, 1) := by decide +kernel
theorem dX10_addLeaf_13 : decode cX10_addLeaf 13 = .ok (.iaload, 1) := by decide +kernel
theorem dX10_addLeaf_14 : decode cX10_addLeaf 14 = .ok (.ifCond .ge 7, 3) := by decide +kernel
theorem dX10_addLeaf_17 : decode cX10_addLeaf 17 = .ok (.iconst 1, 1) := by decide +kernel
theorem dX10_addLeaf_18 : decode cX10_addLeaf 18 = .ok (.goto 4, 3) := by decide +kernel
theorem dX10_addLeaf_21 : decode cX10_addLeaf 21 = .ok (.iconst 0, 1) := by decide +kernel
theorem dX10_addLeaf_22 : decode cX10_addLeaf 22 = .ok (.istore_n 2, 1) := by decide +kernel
theorem dX10_addLeaf_23 : decode cX10_addLeaf 23 = .ok (.iload_n 2, 1) := by decide +kernel
theorem dX10_addLeaf_24 : decode cX10_addLeaf 24 = .ok (.ifCond .eq 12, 3) := by decide +kernel
theorem dX10_addLeaf_27 : decode cX10_addLeaf 27 = .ok (.aload_n 0, 1) := by decide +kernel
theorem dX10_addLeaf_28 : decode cX10_addLeaf 28 = .ok (.getfield 35, 3) := by decide +kernel
theorem dX10_addLeaf_31 : decode cX10_addLeaf 31 = .ok (.iload_n 1, 1) := by decide +kernel
theorem dX10_addLeaf_32 : decode cX10_addLeaf 32 = .ok (.iaload, 1) := by decide +kernel
theorem dX10_addLeaf_33 : decode cX10_addLeaf 33 = .ok (.goto 7, 3) := by decide +kernel
theorem dX10_addLeaf_36 : decode cX10_addLeaf 36 = .ok (.aload_n 0, 1) := by decide +kernel
theorem dX10_addLeaf_37 : decode cX10_addLeaf 37 = .ok (.getfield 51, 3) := by decide +kernel
theorem dX10_addLeaf_40 : decode cX10_addLeaf 40 = .ok (.istore_n 3, 1) := by decide +kernel
theorem dX10_addLeaf_41 : decode cX10_addLeaf 41 = .ok (.aload_n 0, 1) := by decide +kernel
theorem dX10_addLeaf_42 : decode cX10_addLeaf 42 = .ok (.getfield 48, 3) := by decide +kernel
theorem dX10_addLeaf_45 : decode cX10_addLeaf 45 = .ok (.sipush 301, 3) := by decide +kernel
theorem dX10_addLeaf_48 : decode cX10_addLeaf 48 = .ok (.if_icmp .ge 10, 3) := by decide +kernel
theorem dX10_addLeaf_51 : decode cX10_addLeaf 51 = .ok (.iload_n 3, 1) := by decide +kernel
theorem dX10_addLeaf_52 : decode cX10_addLeaf 52 = .ok (.sipush 151, 3) := by decide +kernel
theorem dX10_addLeaf_55 : decode cX10_addLeaf 55 = .ok (.if_icmp .lt 4, 3) := by decide +kernel
theorem dX10_addLeaf_58 : decode cX10_addLeaf 58 = .ok (.return_, 1) := by decide +kernel
theorem dX10_addLeaf_59 : decode cX10_addLeaf 59 = .ok (.aload_n 0, 1) := by decide +kernel
theorem dX10_addLeaf_60 : decode cX10_addLeaf 60 = .ok (.getfield 40, 3) := by decide +kernel
theorem dX10_addLeaf_63 : decode cX10_addLeaf 63 = .ok (.iload_n 3, 1) := by decide +kernel
theorem dX10_addLeaf_64 : decode cX10_addLeaf 64 = .ok (.aaload, 1) := by decide +kernel
theorem dX10_addLeaf_65 : decode cX10_addLeaf 65 = .ok (.ifnonnull 16, 3) := by decide +kernel
theorem dX10_addLeaf_68 : decode cX10_addLeaf 68 = .ok (.aload_n 0, 1) := by decide +kernel
theorem dX10_addLeaf_69 : decode cX10_addLeaf 69 = .ok (.getfield 40, 3) := by decide +kernel
theorem dX10_addLeaf_72 : decode cX10_addLeaf 72 = .ok (.iload_n 3, 1) := by decide +kernel
theorem dX10_addLeaf_73 : decode cX10_addLeaf 73 = .ok (.new 38, 3) := by decide +kernel
theorem dX10_addLeaf_76 : decode cX10_addLeaf 76 = .ok (.dup, 1) := by decide +kernel
theorem dX10_addLeaf_77 : decode cX10_addLeaf 77 = .ok (.invokespecial 61, 3) := by decide +kernel
theorem dX10_addLeaf_80 : decode cX10_addLeaf 80 = .ok (.aastore, 1) := by decide +kernel
theorem dX10_addLeaf_81 : decode cX10_addLeaf 81 = .ok (.aload_n 0, 1) := by decide +kernel
theorem dX10_addLeaf_82 : decode cX10_addLeaf 82 = .ok (.getfield 40, 3) := by decide +kernel
theorem dX10_addLeaf_85 : decode cX10_addLeaf 85 = .ok (.iload_n 3, 1) := by decide +kernel
theorem dX10_addLeaf_86 : decode cX10_addLeaf 86 = .ok (.aaload, 1) := by decide +kernel
theorem dX10_addLeaf_87 : decode cX10_addLeaf 87 = .ok (.invokevirtual 62, 3) := by decide +kernel
theorem dX10_addLeaf_90 : decode cX10_addLeaf 90 = .ok (.aload_n 0, 1) := by decide +kernel
theorem dX10_addLeaf_91 : decode cX10_addLeaf 91 = .ok (.aload_n 0, 1) := by decide +kernel
theorem dX10_addLeaf_92 : decode cX10_addLeaf 92 = .ok (.getfield 48, 3) := by decide +kernel
theorem dX10_addLeaf_95 : decode cX10_addLeaf 95 = .ok (.putfield 44, 3) := by decide +kernel
theorem dX10_addLeaf_98 : decode cX10_addLeaf 98 = .ok (.aload_n 0, 1) := by decide +kernel
theorem dX10_addLeaf_99 : decode cX10_addLeaf 99 = .ok (.dup, 1) := by decide +kernel
theorem dX10_addLeaf_100 : decode cX10_addLeaf 100 = .ok (.getfield 48, 3) := by decide +kernel
theorem dX10_addLeaf_103 : decode cX10_addLeaf 103 = .ok (.iconst 1, 1) := by decide +kernel
theorem dX10_addLeaf_104 : decode cX10_addLeaf 104 = .ok (.iadd, 1) := by decide +kernel
theorem dX10_addLeaf_105 : decode cX10_addLeaf 105 = .ok (.putfield 48, 3) := by decide +kernel
theorem dX10_addLeaf_108 : decode cX10_addLeaf 108 = .ok (.aload_n 0, 1) := by decide +kernel
theorem dX10_addLeaf_109 : decode cX10_addLeaf 109 = .ok (.getfield 9, 3) := by decide +kernel
theorem dX10_addLeaf_112 : decode cX10_addLeaf 112 = .ok (.aload_n 0, 1) := by decide +kernel
theorem dX10_addLeaf_113 : decode cX10_addLeaf 113 = .ok (.getfield 44, 3) := by decide +kernel
theorem dX10_addLeaf_116 : decode cX10_addLeaf 116 = .ok (.iload_n 1, 1) := by decide +kernel
theorem dX10_addLeaf_117 : decode cX10_addLeaf 117 = .ok (.iastore, 1) := by decide +kernel
theorem dX10_addLeaf_118 : decode cX10_addLeaf 118 = .ok (.aload_n 0, 1) := by decide +kernel
theorem dX10_addLeaf_119 : decode cX10_addLeaf 119 = .ok (.getfield 15, 3) := by decide +kernel
theorem dX10_addLeaf_122 : decode cX10_addLeaf 122 = .ok (.aload_n 0, 1) := by decide +kernel
theorem dX10_addLeaf_123 : decode cX10_addLeaf 123 = .ok (.getfield 44, 3) := by decide +kernel
theorem dX10_addLeaf_126 : decode cX10_addLeaf 126 = .ok (.bipush (-2), 2) := by decide +kernel
theorem dX10_addLeaf_128 : decode cX10_addLeaf 128 = .ok (.iastore, 1) := by decide +kernel
theorem dX10_addLeaf_129 : decode cX10_addLeaf 129 = .ok (.aload_n 0, 1) := by decide +kernel
theorem dX10_addLeaf_130 : decode cX10_addLeaf 130 = .ok (.getfield 18, 3) := by decide +kernel
theorem dX10_addLeaf_133 : decode cX10_addLeaf 133 = .ok (.aload_n 0, 1) := by decide +kernel
theorem dX10_addLeaf_134 : decode cX10_addLeaf 134 = .ok (.getfield 44, 3) := by decide +kernel
theorem dX10_addLeaf_137 : decode cX10_addLeaf 137 = .ok (.bipush (-2), 2) := by decide +kernel
theorem dX10_addLeaf_139 : decode cX10_addLeaf 139 = .ok (.iastore, 1) := by decide +kernel
theorem dX10_addLeaf_140 : decode cX10_addLeaf 140 = .ok (.aload_n 0, 1) := by decide +kernel
theorem dX10_addLeaf_141 : decode cX10_addLeaf 141 = .ok (.getfield 31, 3) := by decide +kernel
theorem dX10_addLeaf_144 : decode cX10_addLeaf 144 = .ok (.aload_n 0, 1) := by decide +kernel
theorem dX10_addLeaf_145 : decode cX10_addLeaf 145 = .ok (.getfield 44, 3) := by decide +kernel
theorem dX10_addLeaf_148 : decode cX10_addLeaf 148 = .ok (.iconst 0, 1) := by decide +kernel
theorem dX10_addLeaf_149 : decode cX10_addLeaf 149 = .ok (.bastore, 1) := by decide +kernel
theorem dX10_addLeaf_150 : decode cX10_addLeaf 150 = .ok (.aload_n 0, 1) := by decide +kernel
theorem dX10_addLeaf_151 : decode cX10_addLeaf 151 = .ok (.getfield 35, 3) := by decide +kernel
theorem dX10_addLeaf_154 : decode cX10_addLeaf 154 = .ok (.aload_n 0, 1) := by decide +kernel
theorem dX10_addLeaf_155 : decode cX10_addLeaf 155 = .ok (.getfield 44, 3) := by decide +kernel
theorem dX10_addLeaf_158 : decode cX10_addLeaf 158 = .ok (.iload_n 3, 1) := by decide +kernel
theorem dX10_addLeaf_159 : decode cX10_addLeaf 159 = .ok (.iastore, 1) := by decide +kernel
theorem dX10_addLeaf_160 : decode cX10_addLeaf 160 = .ok (.iload_n 2, 1) := by decide +kernel
theorem dX10_addLeaf_161 : decode cX10_addLeaf 161 = .ok (.ifCond .eq 14, 3) := by decide +kernel
theorem dX10_addLeaf_164 : decode cX10_addLeaf 164 = .ok (.aload_n 0, 1) := by decide +kernel
theorem dX10_addLeaf_165 : decode cX10_addLeaf 165 = .ok (.getfield 15, 3) := by decide +kernel
theorem dX10_addLeaf_168 : decode cX10_addLeaf 168 = .ok (.iload_n 1, 1) := by decide +kernel
theorem dX10_addLeaf_169 : decode cX10_addLeaf 169 = .ok (.aload_n 0, 1) := by decide +kernel
theorem dX10_addLeaf_170 : decode cX10_addLeaf 170 = .ok (.getfield 44, 3) := by decide +kernel
theorem dX10_addLeaf_173 : decode cX10_addLeaf 173 = .ok (.iastore, 1) := by decide +kernel
theorem dX10_addLeaf_174 : decode cX10_addLeaf 174 = .ok (.return_, 1) := by decide +kernel
theorem dX10_addLeaf_175 : decode cX10_addLeaf 175 = .ok (.aload_n 0, 1) := by decide +kernel
theorem dX10_addLeaf_176 : decode cX10_addLeaf 176 = .ok (.dup, 1) := by decide +kernel
theorem dX10_addLeaf_177 : decode cX10_addLeaf 177 = .ok (.getfield 51, 3) := by decide +kernel
theorem dX10_addLeaf_180 : decode cX10_addLeaf 180 = .ok (.iconst 1, 1) := by decide +kernel
theorem dX10_addLeaf_181 : decode cX10_addLeaf 181 = .ok (.iadd, 1) := by decide +kernel
theorem dX10_addLeaf_182 : decode cX10_addLeaf 182 = .ok (.putfield 51, 3) := by decide +kernel
theorem dX10_addLeaf_185 : decode cX10_addLeaf 185 = .ok (.aload_n 0, 1) := by decide +kernel
theorem dX10_addLeaf_186 : decode cX10_addLeaf 186 = .ok (.iload_n 1, 1) := by decide +kernel
theorem dX10_addLeaf_187 : decode cX10_addLeaf 187 = .ok (.invokevirtual 54, 3) := by decide +kernel
theorem dX10_addLeaf_190 : decode cX10_addLeaf 190 = .ok (.ifCond .eq 13, 3) := by decide +kernel
theorem dX10_addLeaf_193 : decode cX10_addLeaf 193 = .ok (.aload_n 0, 1) := by decide +kernel
theorem dX10_addLeaf_194 : decode cX10_addLeaf 194 = .ok (.getfield 18, 3) := by decide +kernel
theorem dX10_addLeaf_197 : decode cX10_addLeaf 197 = .ok (.iload_n 1, 1) := by decide +kernel
theorem dX10_addLeaf_198 : decode cX10_addLeaf 198 = .ok (.aload_n 0, 1) := by decide +kernel
theorem dX10_addLeaf_199 : decode cX10_addLeaf 199 = .ok (.getfield 44, 3) := by decide +kernel
theorem dX10_addLeaf_202 : decode cX10_addLeaf 202 = .ok (.iastore, 1) := by decide +kernel
theorem dX10_addLeaf_203 : decode cX10_addLeaf 203 = .ok (.return_, 1) := by decide +kernel
theorem dX10_setSplitAt_0 : decode cX10_setSplitAt 0 = .ok (.aload_n 0, 1) := by decide +kernel
theorem dX10_setSplitAt_1 : decode cX10_setSplitAt 1 = .ok (.iload_n 1, 1) := by decide +kernel
theorem dX10_setSplitAt_2 : decode cX10_setSplitAt 2 = .ok (.invokevirtual 54, 3) := by decide +kernel
theorem dX10_setSplitAt_5 : decode cX10_setSplitAt 5 = .ok (.ifCond .eq 24, 3) := by decide +kernel
theorem dX10_setSplitAt_8 : decode cX10_setSplitAt 8 = .ok (.aload_n 0, 1) := by decide +kernel
theorem dX10_setSplitAt_9 : decode cX10_setSplitAt 9 = .ok (.getfield 21, 3) := by decide +kernel
theorem dX10_setSplitAt_12 : decode cX10_setSplitAt 12 = .ok (.iload_n 1, 1) := by decide +kernel
theorem dX10_setSplitAt_13 : decode cX10_setSplitAt 13 = .ok (.iload_n 2, 1) := by decide +kernel
theorem dX10_setSplitAt_14 : decode cX10_setSplitAt 14 = .ok (.iastore, 1) := by decide +kernel
theorem dX10_setSplitAt_15 : decode cX10_setSplitAt 15 = .ok (.aload_n 0, 1) := by decide +kernel
theorem dX10_setSplitAt_16 : decode cX10_setSplitAt 16 = .ok (.getfield 24, 3) := by decide +kernel
theorem dX10_setSplitAt_19 : decode cX10_setSplitAt 19 = .ok (.iload_n 1, 1) := by decide +kernel
theorem dX10_setSplitAt_20 : decode cX10_setSplitAt 20 = .ok (.lload_n 3, 1) := by decide +kernel
theorem dX10_setSplitAt_21 : decode cX10_setSplitAt 21 = .ok (.lastore, 1) := by decide +kernel
theorem dX10_setSplitAt_22 : decode cX10_setSplitAt 22 = .ok (.aload_n 0, 1) := by decide +kernel
theorem dX10_setSplitAt_23 : decode cX10_setSplitAt 23 = .ok (.getfield 28, 3) := by decide +kernel
theorem dX10_setSplitAt_26 : decode cX10_setSplitAt 26 = .ok (.iload_n 1, 1) := by decide +kernel
theorem dX10_setSplitAt_27 : decode cX10_setSplitAt 27 = .ok (.lload_n 3, 1) := by decide +kernel
theorem dX10_setSplitAt_28 : decode cX10_setSplitAt 28 = .ok (.lastore, 1) := by decide +kernel
theorem dX10_setSplitAt_29 : decode cX10_setSplitAt 29 = .ok (.return_, 1) := by decide +kernel
theorem dX10_splitsAbove_0 : decode cX10_splitsAbove 0 = .ok (.iconst 0, 1) := by decide +kernel
theorem dX10_splitsAbove_1 : decode cX10_splitsAbove 1 = .ok (.istore_n 2, 1) := by decide +kernel
theorem dX10_splitsAbove_2 : decode cX10_splitsAbove 2 = .ok (.aload_n 0, 1) := by decide +kernel
theorem dX10_splitsAbove_3 : decode cX10_splitsAbove 3 = .ok (.iload_n 1, 1) := by decide +kernel
theorem dX10_splitsAbove_4 : decode cX10_splitsAbove 4 = .ok (.invokevirtual 54, 3) := by decide +kernel
theorem dX10_splitsAbove_7 : decode cX10_splitsAbove 7 = .ok (.ifCond .eq 12, 3) := by decide +kernel
theorem dX10_splitsAbove_10 : decode cX10_splitsAbove 10 = .ok (.aload_n 0, 1) := by decide +kernel
theorem dX10_splitsAbove_11 : decode cX10_splitsAbove 11 = .ok (.getfield 9, 3) := by decide +kernel
theorem dX10_splitsAbove_14 : decode cX10_splitsAbove 14 = .ok (.iload_n 1, 1) := by decide +kernel
theorem dX10_splitsAbove_15 : decode cX10_splitsAbove 15 = .ok (.iaload, 1) := by decide +kernel
theorem dX10_splitsAbove_16 : decode cX10_splitsAbove 16 = .ok (.goto 5, 3) := by decide +kernel
theorem dX10_splitsAbove_19 : decode cX10_splitsAbove 19 = .ok (.bipush (-2), 2) := by decide +kernel
theorem dX10_splitsAbove_21 : decode cX10_splitsAbove 21 = .ok (.istore_n 3, 1) := by decide +kernel
theorem dX10_splitsAbove_22 : decode cX10_splitsAbove 22 = .ok (.iload_n 3, 1) := by decide +kernel
theorem dX10_splitsAbove_23 : decode cX10_splitsAbove 23 = .ok (.ifCond .lt 23, 3) := by decide +kernel
theorem dX10_splitsAbove_26 : decode cX10_splitsAbove 26 = .ok (.iload_n 2, 1) := by decide +kernel
theorem dX10_splitsAbove_27 : decode cX10_splitsAbove 27 = .ok (.sipush 301, 3) := by decide +kernel
theorem dX10_splitsAbove_30 : decode cX10_splitsAbove 30 = .ok (.if_icmp .ge 16, 3) := by decide +kernel
theorem dX10_splitsAbove_33 : decode cX10_splitsAbove 33 = .ok (.iinc 2 1, 3) := by decide +kernel
theorem dX10_splitsAbove_36 : decode cX10_splitsAbove 36 = .ok (.aload_n 0, 1) := by decide +kernel
theorem dX10_splitsAbove_37 : decode cX10_splitsAbove 37 = .ok (.getfield 9, 3) := by decide +kernel
theorem dX10_splitsAbove_40 : decode cX10_splitsAbove 40 = .ok (.iload_n 3, 1) := by decide +kernel
theorem dX10_splitsAbove_41 : decode cX10_splitsAbove 41 = .ok (.iaload, 1) := by decide +kernel
theorem dX10_splitsAbove_42 : decode cX10_splitsAbove 42 = .ok (.istore_n 3, 1) := by decide +kernel
theorem dX10_splitsAbove_43 : decode cX10_splitsAbove 43 = .ok (.goto (-21), 3) := by decide +kernel
theorem dX10_splitsAbove_46 : decode cX10_splitsAbove 46 = .ok (.iload_n 2, 1) := by decide +kernel
theorem dX10_splitsAbove_47 : decode cX10_splitsAbove 47 = .ok (.ireturn, 1) := by decide +kernel
theorem dX10_lastWaiting_0 : decode cX10_lastWaiting 0 = .ok (.aload_n 0, 1) := by decide +kernel
theorem dX10_lastWaiting_1 : decode cX10_lastWaiting 1 = .ok (.aload_n 0, 1) := by decide +kernel
theorem dX10_lastWaiting_2 : decode cX10_lastWaiting 2 = .ok (.getfield 44, 3) := by decide +kernel
theorem dX10_lastWaiting_5 : decode cX10_lastWaiting 5 = .ok (.invokevirtual 54, 3) := by decide +kernel
theorem dX10_lastWaiting_8 : decode cX10_lastWaiting 8 = .ok (.ifCond .eq 15, 3) := by decide +kernel
theorem dX10_lastWaiting_11 : decode cX10_lastWaiting 11 = .ok (.aload_n 0, 1) := by decide +kernel
theorem dX10_lastWaiting_12 : decode cX10_lastWaiting 12 = .ok (.getfield 9, 3) := by decide +kernel
theorem dX10_lastWaiting_15 : decode cX10_lastWaiting 15 = .ok (.aload_n 0, 1) := by decide +kernel
theorem dX10_lastWaiting_16 : decode cX10_lastWaiting 16 = .ok (.getfield 44, 3) := by decide +kernel
theorem dX10_lastWaiting_19 : decode cX10_lastWaiting 19 = .ok (.iaload, 1) := by decide +kernel
theorem dX10_lastWaiting_20 : decode cX10_lastWaiting 20 = .ok (.goto 5, 3) := by decide +kernel
theorem dX10_lastWaiting_23 : decode cX10_lastWaiting 23 = .ok (.bipush (-2), 2) := by decide +kernel
theorem dX10_lastWaiting_25 : decode cX10_lastWaiting 25 = .ok (.istore_n 1, 1) := by decide +kernel
theorem dX10_lastWaiting_26 : decode cX10_lastWaiting 26 = .ok (.iconst 0, 1) := by decide +kernel
theorem dX10_lastWaiting_27 : decode cX10_lastWaiting 27 = .ok (.istore_n 2, 1) := by decide +kernel
theorem dX10_lastWaiting_28 : decode cX10_lastWaiting 28 = .ok (.iload_n 2, 1) := by decide +kernel
theorem dX10_lastWaiting_29 : decode cX10_lastWaiting 29 = .ok (.sipush 301, 3) := by decide +kernel
theorem dX10_lastWaiting_32 : decode cX10_lastWaiting 32 = .ok (.if_icmp .ge 29, 3) := by decide +kernel
theorem dX10_lastWaiting_35 : decode cX10_lastWaiting 35 = .ok (.iload_n 1, 1) := by decide +kernel
theorem dX10_lastWaiting_36 : decode cX10_lastWaiting 36 = .ok (.ifCond .lt 25, 3) := by decide +kernel
theorem dX10_lastWaiting_39 : decode cX10_lastWaiting 39 = .ok (.aload_n 0, 1) := by decide +kernel
theorem dX10_lastWaiting_40 : decode cX10_lastWaiting 40 = .ok (.getfield 18, 3) := by decide +kernel
theorem dX10_lastWaiting_43 : decode cX10_lastWaiting 43 = .ok (.iload_n 1, 1) := by decide +kernel
theorem dX10_lastWaiting_44 : decode cX10_lastWaiting 44 = .ok (.iaload, 1) := by decide +kernel
theorem dX10_lastWaiting_45 : decode cX10_lastWaiting 45 = .ok (.ifCond .lt 16, 3) := by decide +kernel
theorem dX10_lastWaiting_48 : decode cX10_lastWaiting 48 = .ok (.aload_n 0, 1) := by decide +kernel
theorem dX10_lastWaiting_49 : decode cX10_lastWaiting 49 = .ok (.getfield 9, 3) := by decide +kernel
theorem dX10_lastWaiting_52 : decode cX10_lastWaiting 52 = .ok (.iload_n 1, 1) := by decide +kernel
theorem dX10_lastWaiting_53 : decode cX10_lastWaiting 53 = .ok (.iaload, 1) := by decide +kernel
theorem dX10_lastWaiting_54 : decode cX10_lastWaiting 54 = .ok (.istore_n 1, 1) := by decide +kernel
theorem dX10_lastWaiting_55 : decode cX10_lastWaiting 55 = .ok (.iinc 2 1, 3) := by decide +kernel
theorem dX10_lastWaiting_58 : decode cX10_lastWaiting 58 = .ok (.goto (-30), 3) := by decide +kernel
theorem dX10_lastWaiting_61 : decode cX10_lastWaiting 61 = .ok (.iload_n 1, 1) := by decide +kernel
theorem dX10_lastWaiting_62 : decode cX10_lastWaiting 62 = .ok (.ireturn, 1) := by decide +kernel
theorem dX11_init_0 : decode cX11_init 0 = .ok (.aload_n 0, 1) := by decide +kernel
theorem dX11_init_1 : decode cX11_init 1 = .ok (.invokespecial 3, 3) := by decide +kernel
theorem dX11_init_4 : decode cX11_init 4 = .ok (.aload_n 0, 1) := by decide +kernel
theorem dX11_init_5 : decode cX11_init 5 = .ok (.new 9, 3) := by decide +kernel
theorem dX11_init_8 : decode cX11_init 8 = .ok (.dup, 1) := by decide +kernel
theorem dX11_init_9 : decode cX11_init 9 = .ok (.invokespecial 11, 3) := by decide +kernel
theorem dX11_init_12 : decode cX11_init 12 = .ok (.putfield 12, 3) := by decide +kernel
theorem dX11_init_15 : decode cX11_init 15 = .ok (.aload_n 0, 1) := by decide +kernel
