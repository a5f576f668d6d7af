theorem dX11_init_16 : decode cX11_init 16 = .ok (.new 16, 3) := by decide +kernel
theorem dX11_init_19 : decode cX11_init 19 = .ok (.dup, 1) := by decide +kernel
theorem dX11_init_20 : decode cX11_init 20 = .ok (.invokespecial 18, 3) := by decide +kernel
theorem dX11_init_23 : decode cX11_init 23 = .ok (.putfield 19, 3) := by decide +kernel
theorem dX11_init_26 : decode cX11_init 26 = .ok (.aload_n 0, 1) := by decide +kernel
theorem dX11_init_27 : decode cX11_init 27 = .ok (.new 23, 3) := by decide +kernel
theorem dX11_init_30 : decode cX11_init 30 = .ok (.dup, 1) := by decide +kernel
theorem dX11_init_31 : decode cX11_init 31 = .ok (.invokespecial 25, 3) := by decide +kernel
theorem dX11_init_34 : decode cX11_init 34 = .ok (.putfield 26, 3) := by decide +kernel
theorem dX11_init_37 : decode cX11_init 37 = .ok (.aload_n 0, 1) := by decide +kernel
theorem dX11_init_38 : decode cX11_init 38 = .ok (.new 30, 3) := by decide +kernel
theorem dX11_init_41 : decode cX11_init 41 = .ok (.dup, 1) := by decide +kernel
theorem dX11_init_42 : decode cX11_init 42 = .ok (.aload_n 0, 1) := by decide +kernel
theorem dX11_init_43 : decode cX11_init 43 = .ok (.getfield 26, 3) := by decide +kernel
theorem dX11_init_46 : decode cX11_init 46 = .ok (.aload_n 0, 1) := by decide +kernel
theorem dX11_init_47 : decode cX11_init 47 = .ok (.getfield 19, 3) := by decide +kernel
theorem dX11_init_50 : decode cX11_init 50 = .ok (.invokespecial 32, 3) := by decide +kernel
theorem dX11_init_53 : decode cX11_init 53 = .ok (.putfield 35, 3) := by decide +kernel
theorem dX11_init_56 : decode cX11_init 56 = .ok (.aload_n 0, 1) := by decide +kernel
theorem dX11_init_57 : decode cX11_init 57 = .ok (.new 39, 3) := by decide +kernel
theorem dX11_init_60 : decode cX11_init 60 = .ok (.dup, 1) := by decide +kernel
theorem dX11_init_61 : decode cX11_init 61 = .ok (.invokespecial 41, 3) := by decide +kernel
theorem dX11_init_64 : decode cX11_init 64 = .ok (.putfield 42, 3) := by decide +kernel
theorem dX11_init_67 : decode cX11_init 67 = .ok (.aload_n 0, 1) := by decide +kernel
theorem dX11_init_68 : decode cX11_init 68 = .ok (.new 46, 3) := by decide +kernel
theorem dX11_init_71 : decode cX11_init 71 = .ok (.dup, 1) := by decide +kernel
theorem dX11_init_72 : decode cX11_init 72 = .ok (.aload_n 0, 1) := by decide +kernel
theorem dX11_init_73 : decode cX11_init 73 = .ok (.getfield 12, 3) := by decide +kernel
theorem dX11_init_76 : decode cX11_init 76 = .ok (.aload_n 0, 1) := by decide +kernel
theorem dX11_init_77 : decode cX11_init 77 = .ok (.getfield 35, 3) := by decide +kernel
theorem dX11_init_80 : decode cX11_init 80 = .ok (.aload_n 0, 1) := by decide +kernel
theorem dX11_init_81 : decode cX11_init 81 = .ok (.getfield 42, 3) := by decide +kernel
theorem dX11_init_84 : decode cX11_init 84 = .ok (.invokespecial 48, 3) := by decide +kernel
theorem dX11_init_87 : decode cX11_init 87 = .ok (.putfield 51, 3) := by decide +kernel
theorem dX11_init_90 : decode cX11_init 90 = .ok (.aload_n 0, 1) := by decide +kernel
theorem dX11_init_91 : decode cX11_init 91 = .ok (.new 55, 3) := by decide +kernel
theorem dX11_init_94 : decode cX11_init 94 = .ok (.dup, 1) := by decide +kernel
theorem dX11_init_95 : decode cX11_init 95 = .ok (.aload_n 0, 1) := by decide +kernel
theorem dX11_init_96 : decode cX11_init 96 = .ok (.getfield 12, 3) := by decide +kernel
theorem dX11_init_99 : decode cX11_init 99 = .ok (.aload_n 0, 1) := by decide +kernel
theorem dX11_init_100 : decode cX11_init 100 = .ok (.getfield 42, 3) := by decide +kernel
theorem dX11_init_103 : decode cX11_init 103 = .ok (.aload_n 0, 1) := by decide +kernel
theorem dX11_init_104 : decode cX11_init 104 = .ok (.getfield 26, 3) := by decide +kernel
theorem dX11_init_107 : decode cX11_init 107 = .ok (.aload_n 0, 1) := by decide +kernel
theorem dX11_init_108 : decode cX11_init 108 = .ok (.getfield 19, 3) := by decide +kernel
theorem dX11_init_111 : decode cX11_init 111 = .ok (.invokespecial 57, 3) := by decide +kernel
theorem dX11_init_114 : decode cX11_init 114 = .ok (.putfield 60, 3) := by decide +kernel
theorem dX11_init_117 : decode cX11_init 117 = .ok (.aload_n 0, 1) := by decide +kernel
theorem dX11_init_118 : decode cX11_init 118 = .ok (.bipush 10, 2) := by decide +kernel
theorem dX11_init_120 : decode cX11_init 120 = .ok (.anewarray 64, 3) := by decide +kernel
theorem dX11_init_123 : decode cX11_init 123 = .ok (.putfield 66, 3) := by decide +kernel
theorem dX11_init_126 : decode cX11_init 126 = .ok (.aload_n 0, 1) := by decide +kernel
theorem dX11_init_127 : decode cX11_init 127 = .ok (.new 64, 3) := by decide +kernel
theorem dX11_init_130 : decode cX11_init 130 = .ok (.dup, 1) := by decide +kernel
theorem dX11_init_131 : decode cX11_init 131 = .ok (.bipush 12, 2) := by decide +kernel
theorem dX11_init_133 : decode cX11_init 133 = .ok (.invokespecial 70, 3) := by decide +kernel
theorem dX11_init_136 : decode cX11_init 136 = .ok (.putfield 73, 3) := by decide +kernel
theorem dX11_init_139 : decode cX11_init 139 = .ok (.iconst 0, 1) := by decide +kernel
theorem dX11_init_140 : decode cX11_init 140 = .ok (.istore_n 1, 1) := by decide +kernel
theorem dX11_init_141 : decode cX11_init 141 = .ok (.iload_n 1, 1) := by decide +kernel
theorem dX11_init_142 : decode cX11_init 142 = .ok (.aload_n 0, 1) := by decide +kernel
theorem dX11_init_143 : decode cX11_init 143 = .ok (.getfield 66, 3) := by decide +kernel
theorem dX11_init_146 : decode cX11_init 146 = .ok (.arraylength, 1) := by decide +kernel
theorem dX11_init_147 : decode cX11_init 147 = .ok (.if_icmp .ge 24, 3) := by decide +kernel
theorem dX11_init_150 : decode cX11_init 150 = .ok (.aload_n 0, 1) := by decide +kernel
theorem dX11_init_151 : decode cX11_init 151 = .ok (.getfield 66, 3) := by decide +kernel
theorem dX11_init_154 : decode cX11_init 154 = .ok (.iload_n 1, 1) := by decide +kernel
theorem dX11_init_155 : decode cX11_init 155 = .ok (.new 64, 3) := by decide +kernel
theorem dX11_init_158 : decode cX11_init 158 = .ok (.dup, 1) := by decide +kernel
theorem dX11_init_159 : decode cX11_init 159 = .ok (.bipush 12, 2) := by decide +kernel
theorem dX11_init_161 : decode cX11_init 161 = .ok (.invokespecial 70, 3) := by decide +kernel
theorem dX11_init_164 : decode cX11_init 164 = .ok (.aastore, 1) := by decide +kernel
theorem dX11_init_165 : decode cX11_init 165 = .ok (.iinc 1 1, 3) := by decide +kernel
theorem dX11_init_168 : decode cX11_init 168 = .ok (.goto (-27), 3) := by decide +kernel
theorem dX11_init_171 : decode cX11_init 171 = .ok (.return_, 1) := by decide +kernel
theorem dX11_variables_0 : decode cX11_variables 0 = .ok (.iload_n 1, 1) := by decide +kernel
theorem dX11_variables_1 : decode cX11_variables 1 = .ok (.iconst 1, 1) := by decide +kernel
theorem dX11_variables_2 : decode cX11_variables 2 = .ok (.if_icmp .lt 9, 3) := by decide +kernel
theorem dX11_variables_5 : decode cX11_variables 5 = .ok (.iload_n 1, 1) := by decide +kernel
theorem dX11_variables_6 : decode cX11_variables 6 = .ok (.bipush 10, 2) := by decide +kernel
theorem dX11_variables_8 : decode cX11_variables 8 = .ok (.if_icmp .le 5, 3) := by decide +kernel
theorem dX11_variables_11 : decode cX11_variables 11 = .ok (.iconst (-1), 1) := by decide +kernel
theorem dX11_variables_12 : decode cX11_variables 12 = .ok (.ireturn, 1) := by decide +kernel
theorem dX11_variables_13 : decode cX11_variables 13 = .ok (.aload_n 0, 1) := by decide +kernel
theorem dX11_variables_14 : decode cX11_variables 14 = .ok (.getfield 12, 3) := by decide +kernel
theorem dX11_variables_17 : decode cX11_variables 17 = .ok (.iload_n 1, 1) := by decide +kernel
theorem dX11_variables_18 : decode cX11_variables 18 = .ok (.invokevirtual 77, 3) := by decide +kernel
theorem dX11_variables_21 : decode cX11_variables 21 = .ok (.aload_n 0, 1) := by decide +kernel
theorem dX11_variables_22 : decode cX11_variables 22 = .ok (.getfield 51, 3) := by decide +kernel
theorem dX11_variables_25 : decode cX11_variables 25 = .ok (.invokevirtual 80, 3) := by decide +kernel
theorem dX11_variables_28 : decode cX11_variables 28 = .ok (.iload_n 1, 1) := by decide +kernel
theorem dX11_variables_29 : decode cX11_variables 29 = .ok (.ireturn, 1) := by decide +kernel
theorem dX11_factor_0 : decode cX11_factor 0 = .ok (.aload_n 0, 1) := by decide +kernel
theorem dX11_factor_1 : decode cX11_factor 1 = .ok (.getfield 12, 3) := by decide +kernel
theorem dX11_factor_4 : decode cX11_factor 4 = .ok (.iload_n 1, 1) := by decide +kernel
theorem dX11_factor_5 : decode cX11_factor 5 = .ok (.invokevirtual 83, 3) := by decide +kernel
theorem dX11_factor_8 : decode cX11_factor 8 = .ok (.ifCond .eq 15, 3) := by decide +kernel
theorem dX11_factor_11 : decode cX11_factor 11 = .ok (.iload_n 2, 1) := by decide +kernel
theorem dX11_factor_12 : decode cX11_factor 12 = .ok (.ldc 87, 2) := by decide +kernel
theorem dX11_factor_14 : decode cX11_factor 14 = .ok (.if_icmp .lt 9, 3) := by decide +kernel
theorem dX11_factor_17 : decode cX11_factor 17 = .ok (.iload_n 2, 1) := by decide +kernel
theorem dX11_factor_18 : decode cX11_factor 18 = .ok (.ldc 88, 2) := by decide +kernel
theorem dX11_factor_20 : decode cX11_factor 20 = .ok (.if_icmp .le 5, 3) := by decide +kernel
theorem dX11_factor_23 : decode cX11_factor 23 = .ok (.iconst (-1), 1) := by decide +kernel
theorem dX11_factor_24 : decode cX11_factor 24 = .ok (.ireturn, 1) := by decide +kernel
theorem dX11_factor_25 : decode cX11_factor 25 = .ok (.aload_n 0, 1) := by decide +kernel
theorem dX11_factor_26 : decode cX11_factor 26 = .ok (.getfield 12, 3) := by decide +kernel
theorem dX11_factor_29 : decode cX11_factor 29 = .ok (.getfield 89, 3) := by decide +kernel
theorem dX11_factor_32 : decode cX11_factor 32 = .ok (.iload_n 1, 1) := by decide +kernel
theorem dX11_factor_33 : decode cX11_factor 33 = .ok (.iload_n 2, 1) := by decide +kernel
theorem dX11_factor_34 : decode cX11_factor 34 = .ok (.iastore, 1) := by decide +kernel
theorem dX11_factor_35 : decode cX11_factor 35 = .ok (.iconst 0, 1) := by decide +kernel
theorem dX11_factor_36 : decode cX11_factor 36 = .ok (.ireturn, 1) := by decide +kernel
theorem dX11_row_0 : decode cX11_row 0 = .ok (.aload_n 0, 1) := by decide +kernel
theorem dX11_row_1 : decode cX11_row 1 = .ok (.getfield 12, 3) := by decide +kernel
theorem dX11_row_4 : decode cX11_row 4 = .ok (.getfield 93, 3) := by decide +kernel
theorem dX11_row_7 : decode cX11_row 7 = .ok (.ifCond .eq 15, 3) := by decide +kernel
theorem dX11_row_10 : decode cX11_row 10 = .ok (.aload_n 0, 1) := by decide +kernel
theorem dX11_row_11 : decode cX11_row 11 = .ok (.getfield 12, 3) := by decide +kernel
theorem dX11_row_14 : decode cX11_row 14 = .ok (.getfield 97, 3) := by decide +kernel
theorem dX11_row_17 : decode cX11_row 17 = .ok (.bipush 12, 2) := by decide +kernel
theorem dX11_row_19 : decode cX11_row 19 = .ok (.if_icmp .lt 5, 3) := by decide +kernel
theorem dX11_row_22 : decode cX11_row 22 = .ok (.iconst (-1), 1) := by decide +kernel
theorem dX11_row_23 : decode cX11_row 23 = .ok (.ireturn, 1) := by decide +kernel
theorem dX11_row_24 : decode cX11_row 24 = .ok (.iload_n 1, 1) := by decide +kernel
theorem dX11_row_25 : decode cX11_row 25 = .ok (.ifCond .lt 20, 3) := by decide +kernel
theorem dX11_row_28 : decode cX11_row 28 = .ok (.iload_n 1, 1) := by decide +kernel
theorem dX11_row_29 : decode cX11_row 29 = .ok (.iconst 2, 1) := by decide +kernel
theorem dX11_row_30 : decode cX11_row 30 = .ok (.if_icmp .gt 15, 3) := by decide +kernel
theorem dX11_row_33 : decode cX11_row 33 = .ok (.iload_n 2, 1) := by decide +kernel
theorem dX11_row_34 : decode cX11_row 34 = .ok (.ldc 87, 2) := by decide +kernel
theorem dX11_row_36 : decode cX11_row 36 = .ok (.if_icmp .lt 9, 3) := by decide +kernel
theorem dX11_row_39 : decode cX11_row 39 = .ok (.iload_n 2, 1) := by decide +kernel
theorem dX11_row_40 : decode cX11_row 40 = .ok (.ldc 88, 2) := by decide +kernel
theorem dX11_row_42 : decode cX11_row 42 = .ok (.if_icmp .le 5, 3) := by decide +kernel
theorem dX11_row_45 : decode cX11_row 45 = .ok (.iconst (-1), 1) := by decide +kernel
theorem dX11_row_46 : decode cX11_row 46 = .ok (.ireturn, 1) := by decide +kernel
theorem dX11_row_47 : decode cX11_row 47 = .ok (.aload_n 0, 1) := by decide +kernel
theorem dX11_row_48 : decode cX11_row 48 = .ok (.getfield 51, 3) := by decide +kernel
theorem dX11_row_51 : decode cX11_row 51 = .ok (.invokevirtual 80, 3) := by decide +kernel
theorem dX11_row_54 : decode cX11_row 54 = .ok (.aload_n 0, 1) := by decide +kernel
theorem dX11_row_55 : decode cX11_row 55 = .ok (.getfield 12, 3) := by decide +kernel
theorem dX11_row_58 : decode cX11_row 58 = .ok (.iload_n 1, 1) := by decide +kernel
theorem dX11_row_59 : decode cX11_row 59 = .ok (.iload_n 2, 1) := by decide +kernel
theorem dX11_row_60 : decode cX11_row 60 = .ok (.invokevirtual 100, 3) := by decide +kernel
theorem dX11_row_63 : decode cX11_row 63 = .ok (.ireturn, 1) := by decide +kernel
theorem dX11_whole_0 : decode cX11_whole 0 = .ok (.aload_n 0, 1) := by decide +kernel
theorem dX11_whole_1 : decode cX11_whole 1 = .ok (.getfield 12, 3) := by decide +kernel
theorem dX11_whole_4 : decode cX11_whole 4 = .ok (.iload_n 1, 1) := by decide +kernel
theorem dX11_whole_5 : decode cX11_whole 5 = .ok (.invokevirtual 83, 3) := by decide +kernel
theorem dX11_whole_8 : decode cX11_whole 8 = .ok (.ifCond .ne 5, 3) := by decide +kernel
theorem dX11_whole_11 : decode cX11_whole 11 = .ok (.iconst (-1), 1) := by decide +kernel
theorem dX11_whole_12 : decode cX11_whole 12 = .ok (.ireturn, 1) := by decide +kernel
theorem dX11_whole_13 : decode cX11_whole 13 = .ok (.aload_n 0, 1) := by decide +kernel
theorem dX11_whole_14 : decode cX11_whole 14 = .ok (.getfield 12, 3) := by decide +kernel
theorem dX11_whole_17 : decode cX11_whole 17 = .ok (.getfield 104, 3) := by decide +kernel
theorem dX11_whole_20 : decode cX11_whole 20 = .ok (.iload_n 1, 1) := by decide +kernel
theorem dX11_whole_21 : decode cX11_whole 21 = .ok (.baload, 1) := by decide +kernel
theorem dX11_whole_22 : decode cX11_whole 22 = .ok (.ifCond .eq 7, 3) := by decide +kernel
theorem dX11_whole_25 : decode cX11_whole 25 = .ok (.iconst 1, 1) := by decide +kernel
theorem dX11_whole_26 : decode cX11_whole 26 = .ok (.goto 4, 3) := by decide +kernel
theorem dX11_whole_29 : decode cX11_whole 29 = .ok (.iconst 0, 1) := by decide +kernel
theorem dX11_whole_30 : decode cX11_whole 30 = .ok (.istore_n 3, 1) := by decide +kernel
theorem dX11_whole_31 : decode cX11_whole 31 = .ok (.aload_n 0, 1) := by decide +kernel
theorem dX11_whole_32 : decode cX11_whole 32 = .ok (.getfield 12, 3) := by decide +kernel
theorem dX11_whole_35 : decode cX11_whole 35 = .ok (.getfield 104, 3) := by decide +kernel
theorem dX11_whole_38 : decode cX11_whole 38 = .ok (.iload_n 1, 1) := by decide +kernel
theorem dX11_whole_39 : decode cX11_whole 39 = .ok (.iload_n 2, 1) := by decide +kernel
theorem dX11_whole_40 : decode cX11_whole 40 = .ok (.bastore, 1) := by decide +kernel
theorem dX11_whole_41 : decode cX11_whole 41 = .ok (.aload_n 0, 1) := by decide +kernel
theorem dX11_whole_42 : decode cX11_whole 42 = .ok (.getfield 51, 3) := by decide +kernel
theorem dX11_whole_45 : decode cX11_whole 45 = .ok (.invokevirtual 80, 3) := by decide +kernel
theorem dX11_whole_48 : decode cX11_whole 48 = .ok (.iload_n 3, 1) := by decide +kernel
theorem dX11_whole_49 : decode cX11_whole 49 = .ok (.ireturn, 1) := by decide +kernel
theorem dX11_solve_0 : decode cX11_solve 0 = .ok (.aload_n 0, 1) := by decide +kernel
theorem dX11_solve_1 : decode cX11_solve 1 = .ok (.getfield 12, 3) := by decide +kernel
theorem dX11_solve_4 : decode cX11_solve 4 = .ok (.getfield 93, 3) := by decide +kernel
theorem dX11_solve_7 : decode cX11_solve 7 = .ok (.ifCond .eq 15, 3) := by decide +kernel
theorem dX11_solve_10 : decode cX11_solve 10 = .ok (.iload_n 1, 1) := by decide +kernel
theorem dX11_solve_11 : decode cX11_solve 11 = .ok (.iconst 1, 1) := by decide +kernel
theorem dX11_solve_12 : decode cX11_solve 12 = .ok (.if_icmp .lt 10, 3) := by decide +kernel
theorem dX11_solve_15 : decode cX11_solve 15 = .ok (.iload_n 1, 1) := by decide +kernel
theorem dX11_solve_16 : decode cX11_solve 16 = .ok (.sipush 20000, 3) := by decide +kernel
theorem dX11_solve_19 : decode cX11_solve 19 = .ok (.if_icmp .le 5, 3) := by decide +kernel
theorem dX11_solve_22 : decode cX11_solve 22 = .ok (.iconst (-1), 1) := by decide +kernel
theorem dX11_solve_23 : decode cX11_solve 23 = .ok (.ireturn, 1) := by decide +kernel
theorem dX11_solve_24 : decode cX11_solve 24 = .ok (.aload_n 0, 1) := by decide +kernel
theorem dX11_solve_25 : decode cX11_solve 25 = .ok (.getfield 51, 3) := by decide +kernel
theorem dX11_solve_28 : decode cX11_solve 28 = .ok (.getfield 108, 3) := by decide +kernel
theorem dX11_solve_31 : decode cX11_solve 31 = .ok (.ifCond .ne 10, 3) := by decide +kernel
theorem dX11_solve_34 : decode cX11_solve 34 = .ok (.aload_n 0, 1) := by decide +kernel
theorem dX11_solve_35 : decode cX11_solve 35 = .ok (.getfield 51, 3) := by decide +kernel
theorem dX11_solve_38 : decode cX11_solve 38 = .ok (.invokevirtual 111, 3) := by decide +kernel
theorem dX11_solve_41 : decode cX11_solve 41 = .ok (.iconst 0, 1) := by decide +kernel
theorem dX11_solve_42 : decode cX11_solve 42 = .ok (.istore_n 2, 1) := by decide +kernel
theorem dX11_solve_43 : decode cX11_solve 43 = .ok (.iload_n 2, 1) := by decide +kernel
theorem dX11_solve_44 : decode cX11_solve 44 = .ok (.iload_n 1, 1) := by decide +kernel
theorem dX11_solve_45 : decode cX11_solve 45 = .ok (.if_icmp .ge 27, 3) := by decide +kernel
theorem dX11_solve_48 : decode cX11_solve 48 = .ok (.aload_n 0, 1) := by decide +kernel
theorem dX11_solve_49 : decode cX11_solve 49 = .ok (.getfield 51, 3) := by decide +kernel
theorem dX11_solve_52 : decode cX11_solve 52 = .ok (.getfield 108, 3) := by decide +kernel
theorem dX11_solve_55 : decode cX11_solve 55 = .ok (.iconst 1, 1) := by decide +kernel
theorem dX11_solve_56 : decode cX11_solve 56 = .ok (.if_icmp .ne 16, 3) := by decide +kernel
theorem dX11_solve_59 : decode cX11_solve 59 = .ok (.aload_n 0, 1) := by decide +kernel
theorem dX11_solve_60 : decode cX11_solve 60 = .ok (.getfield 51, 3) := by decide +kernel
theorem dX11_solve_63 : decode cX11_solve 63 = .ok (.invokevirtual 114, 3) := by decide +kernel
theorem dX11_solve_66 : decode cX11_solve 66 = .ok (.iinc 2 1, 3) := by decide +kernel
theorem dX11_solve_69 : decode cX11_solve 69 = .ok (.goto (-26), 3) := by decide +kernel
theorem dX11_solve_72 : decode cX11_solve 72 = .ok (.iload_n 2, 1) := by decide +kernel
theorem dX11_solve_73 : decode cX11_solve 73 = .ok (.ireturn, 1) := by decide +kernel
theorem dX11_state_0 : decode cX11_state 0 = .ok (.iload_n 1, 1) := by decide +kernel
theorem dX11_state_1 : decode cX11_state 1 = .ok (.tableswitch 130 0 8 #[51, 59, 67, 75, 83, 91, 106, 114, 122], 51) := by decide +kernel
theorem dX11_state_52 : decode cX11_state 52 = .ok (.aload_n 0, 1) := by decide +kernel
theorem dX11_state_53 : decode cX11_state 53 = .ok (.getfield 51, 3) := by decide +kernel
theorem dX11_state_56 : decode cX11_state 56 = .ok (.getfield 108, 3) := by decide +kernel
theorem dX11_state_59 : decode cX11_state 59 = .ok (.ireturn, 1) := by decide +kernel
theorem dX11_state_60 : decode cX11_state 60 = .ok (.aload_n 0, 1) := by decide +kernel
theorem dX11_state_61 : decode cX11_state 61 = .ok (.getfield 51, 3) := by decide +kernel
theorem dX11_state_64 : decode cX11_state 64 = .ok (.getfield 117, 3) := by decide +kernel
theorem dX11_state_67 : decode cX11_state 67 = .ok (.ireturn, 1) := by decide +kernel
theorem dX11_state_68 : decode cX11_state 68 = .ok (.aload_n 0, 1) := by decide +kernel
theorem dX11_state_69 : decode cX11_state 69 = .ok (.getfield 51, 3) := by decide +kernel
theorem dX11_state_72 : decode cX11_state 72 = .ok (.getfield 120, 3) := by decide +kernel
theorem dX11_state_75 : decode cX11_state 75 = .ok (.ireturn, 1) := by decide +kernel
theorem dX11_state_76 : decode cX11_state 76 = .ok (.aload_n 0, 1) := by decide +kernel
theorem dX11_state_77 : decode cX11_state 77 = .ok (.getfield 51, 3) := by decide +kernel
theorem dX11_state_80 : decode cX11_state 80 = .ok (.getfield 123, 3) := by decide +kernel
theorem dX11_state_83 : decode cX11_state 83 = .ok (.ireturn, 1) := by decide +kernel
theorem dX11_state_84 : decode cX11_state 84 = .ok (.aload_n 0, 1) := by decide +kernel
theorem dX11_state_85 : decode cX11_state 85 = .ok (.getfield 51, 3) := by decide +kernel
theorem dX11_state_88 : decode cX11_state 88 = .ok (.getfield 126, 3) := by decide +kernel
theorem dX11_state_91 : decode cX11_state 91 = .ok (.ireturn, 1) := by decide +kernel
theorem dX11_state_92 : decode cX11_state 92 = .ok (.aload_n 0, 1) := by decide +kernel
theorem dX11_state_93 : decode cX11_state 93 = .ok (.getfield 42, 3) := by decide +kernel
theorem dX11_state_96 : decode cX11_state 96 = .ok (.aload_n 0, 1) := by decide +kernel
theorem dX11_state_97 : decode cX11_state 97 = .ok (.getfield 42, 3) := by decide +kernel
theorem dX11_state_100 : decode cX11_state 100 = .ok (.getfield 129, 3) := by decide +kernel
theorem dX11_state_103 : decode cX11_state 103 = .ok (.invokevirtual 132, 3) := by decide +kernel
theorem dX11_state_106 : decode cX11_state 106 = .ok (.ireturn, 1) := by decide +kernel
theorem dX11_state_107 : decode cX11_state 107 = .ok (.aload_n 0, 1) := by decide +kernel
theorem dX11_state_108 : decode cX11_state 108 = .ok (.getfield 12, 3) := by decide +kernel
theorem dX11_state_111 : decode cX11_state 111 = .ok (.getfield 97, 3) := by decide +kernel
theorem dX11_state_114 : decode cX11_state 114 = .ok (.ireturn, 1) := by decide +kernel
theorem dX11_state_115 : decode cX11_state 115 = .ok (.aload_n 0, 1) := by decide +kernel
theorem dX11_state_116 : decode cX11_state 116 = .ok (.getfield 12, 3) := by decide +kernel
theorem dX11_state_119 : decode cX11_state 119 = .ok (.getfield 93, 3) := by decide +kernel
theorem dX11_state_122 : decode cX11_state 122 = .ok (.ireturn, 1) := by decide +kernel
theorem dX11_state_123 : decode cX11_state 123 = .ok (.aload_n 0, 1) := by decide +kernel
theorem dX11_state_124 : decode cX11_state 124 = .ok (.getfield 42, 3) := by decide +kernel
theorem dX11_state_127 : decode cX11_state 127 = .ok (.getfield 136, 3) := by decide +kernel
theorem dX11_state_130 : decode cX11_state 130 = .ok (.ireturn, 1) := by decide +kernel
theorem dX11_state_131 : decode cX11_state 131 = .ok (.iconst (-1), 1) := by decide +kernel
theorem dX11_state_132 : decode cX11_state 132 = .ok (.ireturn, 1) := by decide +kernel
theorem dX11_basic_0 : decode cX11_basic 0 = .ok (.aload_n 0, 1) := by decide +kernel
theorem dX11_basic_1 : decode cX11_basic 1 = .ok (.iload_n 1, 1) := by decide +kernel
theorem dX11_basic_2 : decode cX11_basic 2 = .ok (.invokevirtual 137, 3) := by decide +kernel
theorem dX11_basic_5 : decode cX11_basic 5 = .ok (.ifCond .ne 5, 3) := by decide +kernel
theorem dX11_basic_8 : decode cX11_basic 8 = .ok (.iconst (-1), 1) := by decide +kernel
theorem dX11_basic_9 : decode cX11_basic 9 = .ok (.ireturn, 1) := by decide +kernel
theorem dX11_basic_10 : decode cX11_basic 10 = .ok (.aload_n 0, 1) := by decide +kernel
theorem dX11_basic_11 : decode cX11_basic 11 = .ok (.getfield 35, 3) := by decide +kernel
theorem dX11_basic_14 : decode cX11_basic 14 = .ok (.iload_n 1, 1) := by decide +kernel
theorem dX11_basic_15 : decode cX11_basic 15 = .ok (.invokevirtual 140, 3) := by decide +kernel
theorem dX11_basic_18 : decode cX11_basic 18 = .ok (.ifCond .lt 7, 3) := by decide +kernel
theorem dX11_basic_21 : decode cX11_basic 21 = .ok (.iconst 1, 1) := by decide +kernel
theorem dX11_basic_22 : decode cX11_basic 22 = .ok (.goto 4, 3) := by decide +kernel
theorem dX11_basic_25 : decode cX11_basic 25 = .ok (.iconst 0, 1) := by decide +kernel
theorem dX11_basic_26 : decode cX11_basic 26 = .ok (.ireturn, 1) := by decide +kernel
theorem dX11_value_0 : decode cX11_value 0 = .ok (.aload_n 0, 1) := by decide +kernel
theorem dX11_value_1 : decode cX11_value 1 = .ok (.iload_n 1, 1) := by decide +kernel
theorem dX11_value_2 : decode cX11_value 2 = .ok (.invokevirtual 137, 3) := by decide +kernel
theorem dX11_value_5 : decode cX11_value 5 = .ok (.ifCond .ne 6, 3) := by decide +kernel
theorem dX11_value_8 : decode cX11_value 8 = .ok (.bipush (-4), 2) := by decide +kernel
theorem dX11_value_10 : decode cX11_value 10 = .ok (.ireturn, 1) := by decide +kernel
theorem dX11_value_11 : decode cX11_value 11 = .ok (.aload_n 0, 1) := by decide +kernel
theorem dX11_value_12 : decode cX11_value 12 = .ok (.getfield 35, 3) := by decide +kernel
theorem dX11_value_15 : decode cX11_value 15 = .ok (.iload_n 1, 1) := by decide +kernel
theorem dX11_value_16 : decode cX11_value 16 = .ok (.aload_n 0, 1) := by decide +kernel
theorem dX11_value_17 : decode cX11_value 17 = .ok (.getfield 73, 3) := by decide +kernel
theorem dX11_value_20 : decode cX11_value 20 = .ok (.invokevirtual 143, 3) := by decide +kernel
theorem dX11_value_23 : decode cX11_value 23 = .ok (.aload_n 0, 1) := by decide +kernel
theorem dX11_value_24 : decode cX11_value 24 = .ok (.invokevirtual 147, 3) := by decide +kernel
theorem dX11_value_27 : decode cX11_value 27 = .ok (.ireturn, 1) := by decide +kernel
theorem dX11_told_0 : decode cX11_told 0 = .ok (.aload_n 0, 1) := by decide +kernel
theorem dX11_told_1 : decode cX11_told 1 = .ok (.iload_n 1, 1) := by decide +kernel
theorem dX11_told_2 : decode cX11_told 2 = .ok (.invokevirtual 137, 3) := by decide +kernel
theorem dX11_told_5 : decode cX11_told 5 = .ok (.ifCond .eq 11, 3) := by decide +kernel
theorem dX11_told_8 : decode cX11_told 8 = .ok (.aload_n 0, 1) := by decide +kernel
theorem dX11_told_9 : decode cX11_told 9 = .ok (.iload_n 2, 1) := by decide +kernel
theorem dX11_told_10 : decode cX11_told 10 = .ok (.invokevirtual 137, 3) := by decide +kernel
theorem dX11_told_13 : decode cX11_told 13 = .ok (.ifCond .ne 6, 3) := by decide +kernel
theorem dX11_told_16 : decode cX11_told 16 = .ok (.bipush (-4), 2) := by decide +kernel
theorem dX11_told_18 : decode cX11_told 18 = .ok (.ireturn, 1) := by decide +kernel
theorem dX11_told_19 : decode cX11_told 19 = .ok (.aload_n 0, 1) := by decide +kernel
theorem dX11_told_20 : decode cX11_told 20 = .ok (.getfield 35, 3) := by decide +kernel
theorem dX11_told_23 : decode cX11_told 23 = .ok (.iload_n 1, 1) := by decide +kernel
theorem dX11_told_24 : decode cX11_told 24 = .ok (.invokevirtual 140, 3) := by decide +kernel
theorem dX11_told_27 : decode cX11_told 27 = .ok (.istore_n 3, 1) := by decide +kernel
theorem dX11_told_28 : decode cX11_told 28 = .ok (.aload_n 0, 1) := by decide +kernel
theorem dX11_told_29 : decode cX11_told 29 = .ok (.getfield 35, 3) := by decide +kernel
theorem dX11_told_32 : decode cX11_told 32 = .ok (.iload_n 2, 1) := by decide +kernel
theorem dX11_told_33 : decode cX11_told 33 = .ok (.invokevirtual 151, 3) := by decide +kernel
theorem dX11_told_36 : decode cX11_told 36 = .ok (.istore 4, 2) := by decide +kernel
theorem dX11_told_38 : decode cX11_told 38 = .ok (.iload_n 3, 1) := by decide +kernel
theorem dX11_told_39 : decode cX11_told 39 = .ok (.ifCond .lt 8, 3) := by decide +kernel
theorem dX11_told_42 : decode cX11_told 42 = .ok (.iload 4, 2) := by decide +kernel
theorem dX11_told_44 : decode cX11_told 44 = .ok (.ifCond .ge 6, 3) := by decide +kernel
theorem dX11_told_47 : decode cX11_told 47 = .ok (.bipush (-4), 2) := by decide +kernel
theorem dX11_told_49 : decode cX11_told 49 = .ok (.ireturn, 1) := by decide +kernel
theorem dX11_told_50 : decode cX11_told 50 = .ok (.aload_n 0, 1) := by decide +kernel
theorem dX11_told_51 : decode cX11_told 51 = .ok (.getfield 73, 3) := by decide +kernel
theorem dX11_told_54 : decode cX11_told 54 = .ok (.aload_n 0, 1) := by decide +kernel
theorem dX11_told_55 : decode cX11_told 55 = .ok (.getfield 35, 3) := by decide +kernel
theorem dX11_told_58 : decode cX11_told 58 = .ok (.iload_n 3, 1) := by decide +kernel
theorem dX11_told_59 : decode cX11_told 59 = .ok (.iload 4, 2) := by decide +kernel
theorem dX11_told_61 : decode cX11_told 61 = .ok (.invokevirtual 154, 3) := by decide +kernel
theorem dX11_told_64 : decode cX11_told 64 = .ok (.aload_n 0, 1) := by decide +kernel
theorem dX11_told_65 : decode cX11_told 65 = .ok (.getfield 35, 3) := by decide +kernel
theorem dX11_told_68 : decode cX11_told 68 = .ok (.getfield 158, 3) := by decide +kernel
theorem dX11_told_71 : decode cX11_told 71 = .ok (.iconst 1, 1) := by decide +kernel
theorem dX11_told_72 : decode cX11_told 72 = .ok (.invokevirtual 162, 3) := by decide +kernel
theorem dX11_told_75 : decode cX11_told 75 = .ok (.aload_n 0, 1) := by decide +kernel
theorem dX11_told_76 : decode cX11_told 76 = .ok (.invokevirtual 147, 3) := by decide +kernel
theorem dX11_told_79 : decode cX11_told 79 = .ok (.ireturn, 1) := by decide +kernel
theorem dX11_digits_0 : decode cX11_digits 0 = .ok (.iload_n 1, 1) := by decide +kernel
theorem dX11_digits_1 : decode cX11_digits 1 = .ok (.ifCond .lt 19, 3) := by decide +kernel
theorem dX11_digits_4 : decode cX11_digits 4 = .ok (.iload_n 1, 1) := by decide +kernel
theorem dX11_digits_5 : decode cX11_digits 5 = .ok (.iconst 1, 1) := by decide +kernel
theorem dX11_digits_6 : decode cX11_digits 6 = .ok (.if_icmp .gt 14, 3) := by decide +kernel
theorem dX11_digits_9 : decode cX11_digits 9 = .ok (.iload_n 2, 1) := by decide +kernel
theorem dX11_digits_10 : decode cX11_digits 10 = .ok (.ifCond .lt 10, 3) := by decide +kernel
theorem dX11_digits_13 : decode cX11_digits 13 = .ok (.aload_n 0, 1) := by decide +kernel
theorem dX11_digits_14 : decode cX11_digits 14 = .ok (.getfield 166, 3) := by decide +kernel
theorem dX11_digits_17 : decode cX11_digits 17 = .ok (.ifCond .ne 5, 3) := by decide +kernel
theorem dX11_digits_20 : decode cX11_digits 20 = .ok (.iconst (-1), 1) := by decide +kernel
theorem dX11_digits_21 : decode cX11_digits 21 = .ok (.ireturn, 1) := by decide +kernel
theorem dX11_digits_22 : decode cX11_digits 22 = .ok (.iload_n 1, 1) := by decide +kernel
theorem dX11_digits_23 : decode cX11_digits 23 = .ok (.ifCond .ne 17, 3) := by decide +kernel
theorem dX11_digits_26 : decode cX11_digits 26 = .ok (.aload_n 0, 1) := by decide +kernel
theorem dX11_digits_27 : decode cX11_digits 27 = .ok (.getfield 73, 3) := by decide +kernel
theorem dX11_digits_30 : decode cX11_digits 30 = .ok (.getfield 170, 3) := by decide +kernel
theorem dX11_digits_33 : decode cX11_digits 33 = .ok (.iload_n 2, 1) := by decide +kernel
theorem dX11_digits_34 : decode cX11_digits 34 = .ok (.invokevirtual 173, 3) := by decide +kernel
theorem dX11_digits_37 : decode cX11_digits 37 = .ok (.goto 14, 3) := by decide +kernel
theorem dX11_digits_40 : decode cX11_digits 40 = .ok (.aload_n 0, 1) := by decide +kernel
theorem dX11_digits_41 : decode cX11_digits 41 = .ok (.getfield 73, 3) := by decide +kernel
theorem dX11_digits_44 : decode cX11_digits 44 = .ok (.getfield 178, 3) := by decide +kernel
theorem dX11_digits_47 : decode cX11_digits 47 = .ok (.iload_n 2, 1) := by decide +kernel
theorem dX11_digits_48 : decode cX11_digits 48 = .ok (.invokevirtual 173, 3) := by decide +kernel
theorem dX11_digits_51 : decode cX11_digits 51 = .ok (.ireturn, 1) := by decide +kernel
theorem dX11_witness_0 : decode cX11_witness 0 = .ok (.aload_n 0, 1) := by decide +kernel
theorem dX11_witness_1 : decode cX11_witness 1 = .ok (.getfield 51, 3) := by decide +kernel
theorem dX11_witness_4 : decode cX11_witness 4 = .ok (.getfield 108, 3) := by decide +kernel
theorem dX11_witness_7 : decode cX11_witness 7 = .ok (.iconst 2, 1) := by decide +kernel
theorem dX11_witness_8 : decode cX11_witness 8 = .ok (.if_icmp .eq 5, 3) := by decide +kernel
theorem dX11_witness_11 : decode cX11_witness 11 = .ok (.iconst (-1), 1) := by decide +kernel
theorem dX11_witness_12 : decode cX11_witness 12 = .ok (.ireturn, 1) := by decide +kernel
theorem dX11_witness_13 : decode cX11_witness 13 = .ok (.iconst 0, 1) := by decide +kernel
theorem dX11_witness_14 : decode cX11_witness 14 = .ok (.istore_n 1, 1) := by decide +kernel
theorem dX11_witness_15 : decode cX11_witness 15 = .ok (.iload_n 1, 1) := by decide +kernel
theorem dX11_witness_16 : decode cX11_witness 16 = .ok (.aload_n 0, 1) := by decide +kernel
theorem dX11_witness_17 : decode cX11_witness 17 = .ok (.getfield 12, 3) := by decide +kernel
theorem dX11_witness_20 : decode cX11_witness 20 = .ok (.getfield 93, 3) := by decide +kernel
theorem dX11_witness_23 : decode cX11_witness 23 = .ok (.if_icmp .ge 32, 3) := by decide +kernel
theorem dX11_witness_26 : decode cX11_witness 26 = .ok (.iload_n 1, 1) := by decide +kernel
theorem dX11_witness_27 : decode cX11_witness 27 = .ok (.aload_n 0, 1) := by decide +kernel
theorem dX11_witness_28 : decode cX11_witness 28 = .ok (.getfield 66, 3) := by decide +kernel
theorem dX11_witness_31 : decode cX11_witness 31 = .ok (.arraylength, 1) := by decide +kernel
theorem dX11_witness_32 : decode cX11_witness 32 = .ok (.if_icmp .ge 23, 3) := by decide +kernel
theorem dX11_witness_35 : decode cX11_witness 35 = .ok (.aload_n 0, 1) := by decide +kernel
theorem dX11_witness_36 : decode cX11_witness 36 = .ok (.getfield 35, 3) := by decide +kernel
theorem dX11_witness_39 : decode cX11_witness 39 = .ok (.iload_n 1, 1) := by decide +kernel
theorem dX11_witness_40 : decode cX11_witness 40 = .ok (.aload_n 0, 1) := by decide +kernel
theorem dX11_witness_41 : decode cX11_witness 41 = .ok (.getfield 66, 3) := by decide +kernel
theorem dX11_witness_44 : decode cX11_witness 44 = .ok (.iload_n 1, 1) := by decide +kernel
theorem dX11_witness_45 : decode cX11_witness 45 = .ok (.aaload, 1) := by decide +kernel
theorem dX11_witness_46 : decode cX11_witness 46 = .ok (.invokevirtual 143, 3) := by decide +kernel
theorem dX11_witness_49 : decode cX11_witness 49 = .ok (.iinc 1 1, 3) := by decide +kernel
theorem dX11_witness_52 : decode cX11_witness 52 = .ok (.goto (-37), 3) := by decide +kernel
theorem dX11_witness_55 : decode cX11_witness 55 = .ok (.iconst 0, 1) := by decide +kernel
theorem dX11_witness_56 : decode cX11_witness 56 = .ok (.ireturn, 1) := by decide +kernel
theorem dX11_setWitness_0 : decode cX11_setWitness 0 = .ok (.aload_n 0, 1) := by decide +kernel
theorem dX11_setWitness_1 : decode cX11_setWitness 1 = .ok (.getfield 12, 3) := by decide +kernel
theorem dX11_setWitness_4 : decode cX11_setWitness 4 = .ok (.iload_n 1, 1) := by decide +kernel
theorem dX11_setWitness_5 : decode cX11_setWitness 5 = .ok (.invokevirtual 83, 3) := by decide +kernel
theorem dX11_setWitness_8 : decode cX11_setWitness 8 = .ok (.ifCond .eq 20, 3) := by decide +kernel
theorem dX11_setWitness_11 : decode cX11_setWitness 11 = .ok (.iload_n 1, 1) := by decide +kernel
theorem dX11_setWitness_12 : decode cX11_setWitness 12 = .ok (.aload_n 0, 1) := by decide +kernel
theorem dX11_setWitness_13 : decode cX11_setWitness 13 = .ok (.getfield 66, 3) := by decide +kernel
theorem dX11_setWitness_16 : decode cX11_setWitness 16 = .ok (.arraylength, 1) := by decide +kernel
theorem dX11_setWitness_17 : decode cX11_setWitness 17 = .ok (.if_icmp .ge 11, 3) := by decide +kernel
theorem dX11_setWitness_20 : decode cX11_setWitness 20 = .ok (.iload_n 2, 1) := by decide +kernel
theorem dX11_setWitness_21 : decode cX11_setWitness 21 = .ok (.iload_n 3, 1) := by decide +kernel
theorem dX11_setWitness_22 : decode cX11_setWitness 22 = .ok (.invokestatic 181, 3) := by decide +kernel
theorem dX11_setWitness_25 : decode cX11_setWitness 25 = .ok (.ifCond .ne 5, 3) := by decide +kernel
theorem dX11_setWitness_28 : decode cX11_setWitness 28 = .ok (.iconst (-1), 1) := by decide +kernel
theorem dX11_setWitness_29 : decode cX11_setWitness 29 = .ok (.ireturn, 1) := by decide +kernel
theorem dX11_setWitness_30 : decode cX11_setWitness 30 = .ok (.aload_n 0, 1) := by decide +kernel
theorem dX11_setWitness_31 : decode cX11_setWitness 31 = .ok (.getfield 66, 3) := by decide +kernel
theorem dX11_setWitness_34 : decode cX11_setWitness 34 = .ok (.iload_n 1, 1) := by decide +kernel
theorem dX11_setWitness_35 : decode cX11_setWitness 35 = .ok (.aaload, 1) := by decide +kernel
theorem dX11_setWitness_36 : decode cX11_setWitness 36 = .ok (.iload_n 2, 1) := by decide +kernel
theorem dX11_setWitness_37 : decode cX11_setWitness 37 = .ok (.i2l, 1) := by decide +kernel
theorem dX11_setWitness_38 : decode cX11_setWitness 38 = .ok (.iload_n 3, 1) := by decide +kernel
theorem dX11_setWitness_39 : decode cX11_setWitness 39 = .ok (.i2l, 1) := by decide +kernel
theorem dX11_setWitness_40 : decode cX11_setWitness 40 = .ok (.invokevirtual 185, 3) := by decide +kernel
theorem dX11_setWitness_43 : decode cX11_setWitness 43 = .ok (.iconst 0, 1) := by decide +kernel
theorem dX11_setWitness_44 : decode cX11_setWitness 44 = .ok (.ireturn, 1) := by decide +kernel
theorem dX11_judgeWitness_0 : decode cX11_judgeWitness 0 = .ok (.aload_n 0, 1) := by decide +kernel
theorem dX11_judgeWitness_1 : decode cX11_judgeWitness 1 = .ok (.getfield 12, 3) := by decide +kernel
theorem dX11_judgeWitness_4 : decode cX11_judgeWitness 4 = .ok (.getfield 93, 3) := by decide +kernel
theorem dX11_judgeWitness_7 : decode cX11_judgeWitness 7 = .ok (.ifCond .ne 5, 3) := by decide +kernel
theorem dX11_judgeWitness_10 : decode cX11_judgeWitness 10 = .ok (.iconst (-1), 1) := by decide +kernel
theorem dX11_judgeWitness_11 : decode cX11_judgeWitness 11 = .ok (.ireturn, 1) := by decide +kernel
theorem dX11_judgeWitness_12 : decode cX11_judgeWitness 12 = .ok (.aload_n 0, 1) := by decide +kernel
theorem dX11_judgeWitness_13 : decode cX11_judgeWitness 13 = .ok (.getfield 60, 3) := by decide +kernel
theorem dX11_judgeWitness_16 : decode cX11_judgeWitness 16 = .ok (.aload_n 0, 1) := by decide +kernel
theorem dX11_judgeWitness_17 : decode cX11_judgeWitness 17 = .ok (.getfield 66, 3) := by decide +kernel
theorem dX11_judgeWitness_20 : decode cX11_judgeWitness 20 = .ok (.invokevirtual 189, 3) := by decide +kernel
theorem dX11_judgeWitness_23 : decode cX11_judgeWitness 23 = .ok (.istore_n 1, 1) := by decide +kernel
theorem dX11_judgeWitness_24 : decode cX11_judgeWitness 24 = .ok (.iload_n 1, 1) := by decide +kernel
theorem dX11_judgeWitness_25 : decode cX11_judgeWitness 25 = .ok (.ifCond .lt 7, 3) := by decide +kernel
theorem dX11_judgeWitness_28 : decode cX11_judgeWitness 28 = .ok (.iconst 1, 1) := by decide +kernel
theorem dX11_judgeWitness_29 : decode cX11_judgeWitness 29 = .ok (.iload_n 1, 1) := by decide +kernel
theorem dX11_judgeWitness_30 : decode cX11_judgeWitness 30 = .ok (.iadd, 1) := by decide +kernel
theorem dX11_judgeWitness_31 : decode cX11_judgeWitness 31 = .ok (.ireturn, 1) := by decide +kernel
theorem dX11_judgeWitness_32 : decode cX11_judgeWitness 32 = .ok (.aload_n 0, 1) := by decide +kernel
theorem dX11_judgeWitness_33 : decode cX11_judgeWitness 33 = .ok (.getfield 60, 3) := by decide +kernel
theorem dX11_judgeWitness_36 : decode cX11_judgeWitness 36 = .ok (.aload_n 0, 1) := by decide +kernel
theorem dX11_judgeWitness_37 : decode cX11_judgeWitness 37 = .ok (.getfield 66, 3) := by decide +kernel
theorem dX11_judgeWitness_40 : decode cX11_judgeWitness 40 = .ok (.invokevirtual 193, 3) := by decide +kernel
theorem dX11_judgeWitness_43 : decode cX11_judgeWitness 43 = .ok (.istore_n 2, 1) := by decide +kernel
theorem dX11_judgeWitness_44 : decode cX11_judgeWitness 44 = .ok (.iload_n 2, 1) := by decide +kernel
theorem dX11_judgeWitness_45 : decode cX11_judgeWitness 45 = .ok (.ifCond .lt 10, 3) := by decide +kernel
theorem dX11_judgeWitness_48 : decode cX11_judgeWitness 48 = .ok (.bipush 100, 2) := by decide +kernel
theorem dX11_judgeWitness_50 : decode cX11_judgeWitness 50 = .ok (.iload_n 2, 1) := by decide +kernel
theorem dX11_judgeWitness_51 : decode cX11_judgeWitness 51 = .ok (.iadd, 1) := by decide +kernel
theorem dX11_judgeWitness_52 : decode cX11_judgeWitness 52 = .ok (.goto 4, 3) := by decide +kernel
theorem dX11_judgeWitness_55 : decode cX11_judgeWitness 55 = .ok (.iconst 0, 1) := by decide +kernel
theorem dX11_judgeWitness_56 : decode cX11_judgeWitness 56 = .ok (.ireturn, 1) := by decide +kernel
theorem dX11_node_0 : decode cX11_node 0 = .ok (.aload_n 0, 1) := by decide +kernel
theorem dX11_node_1 : decode cX11_node 1 = .ok (.getfield 42, 3) := by decide +kernel
theorem dX11_node_4 : decode cX11_node 4 = .ok (.iload_n 1, 1) := by decide +kernel
theorem dX11_node_5 : decode cX11_node 5 = .ok (.invokevirtual 196, 3) := by decide +kernel
theorem dX11_node_8 : decode cX11_node 8 = .ok (.ifCond .ne 6, 3) := by decide +kernel
theorem dX11_node_11 : decode cX11_node 11 = .ok (.ldc 199, 2) := by decide +kernel
theorem dX11_node_13 : decode cX11_node 13 = .ok (.ireturn, 1) := by decide +kernel
theorem dX11_node_14 : decode cX11_node 14 = .ok (.aload_n 0, 1) := by decide +kernel
theorem dX11_node_15 : decode cX11_node 15 = .ok (.getfield 42, 3) := by decide +kernel
theorem dX11_node_18 : decode cX11_node 18 = .ok (.iload_n 1, 1) := by decide +kernel
theorem dX11_node_19 : decode cX11_node 19 = .ok (.invokevirtual 200, 3) := by decide +kernel
theorem dX11_node_22 : decode cX11_node 22 = .ok (.istore_n 3, 1) := by decide +kernel
theorem dX11_node_23 : decode cX11_node 23 = .ok (.iload_n 2, 1) := by decide +kernel
theorem dX11_node_24 : decode cX11_node 24 = .ok (.tableswitch 165 0 5 #[40, 66, 85, 117, 136, 155], 40) := by decide +kernel
theorem dX11_node_64 : decode cX11_node 64 = .ok (.iload_n 3, 1) := by decide +kernel
theorem dX11_node_65 : decode cX11_node 65 = .ok (.ifCond .eq 7, 3) := by decide +kernel
theorem dX11_node_68 : decode cX11_node 68 = .ok (.iconst 0, 1) := by decide +kernel
theorem dX11_node_69 : decode cX11_node 69 = .ok (.goto 20, 3) := by decide +kernel
theorem dX11_node_72 : decode cX11_node 72 = .ok (.aload_n 0, 1) := by decide +kernel
theorem dX11_node_73 : decode cX11_node 73 = .ok (.getfield 42, 3) := by decide +kernel
theorem dX11_node_76 : decode cX11_node 76 = .ok (.getfield 203, 3) := by decide +kernel
theorem dX11_node_79 : decode cX11_node 79 = .ok (.iload_n 1, 1) := by decide +kernel
theorem dX11_node_80 : decode cX11_node 80 = .ok (.baload, 1) := by decide +kernel
theorem dX11_node_81 : decode cX11_node 81 = .ok (.ifCond .eq 7, 3) := by decide +kernel
theorem dX11_node_84 : decode cX11_node 84 = .ok (.iconst 1, 1) := by decide +kernel
theorem dX11_node_85 : decode cX11_node 85 = .ok (.goto 4, 3) := by decide +kernel
theorem dX11_node_88 : decode cX11_node 88 = .ok (.iconst 2, 1) := by decide +kernel
theorem dX11_node_89 : decode cX11_node 89 = .ok (.ireturn, 1) := by decide +kernel
theorem dX11_node_90 : decode cX11_node 90 = .ok (.iload_n 3, 1) := by decide +kernel
theorem dX11_node_91 : decode cX11_node 91 = .ok (.ifCond .eq 15, 3) := by decide +kernel
theorem dX11_node_94 : decode cX11_node 94 = .ok (.aload_n 0, 1) := by decide +kernel
theorem dX11_node_95 : decode cX11_node 95 = .ok (.getfield 42, 3) := by decide +kernel
theorem dX11_node_98 : decode cX11_node 98 = .ok (.getfield 206, 3) := by decide +kernel
theorem dX11_node_101 : decode cX11_node 101 = .ok (.iload_n 1, 1) := by decide +kernel
theorem dX11_node_102 : decode cX11_node 102 = .ok (.iaload, 1) := by decide +kernel
theorem dX11_node_103 : decode cX11_node 103 = .ok (.goto 5, 3) := by decide +kernel
theorem dX11_node_106 : decode cX11_node 106 = .ok (.bipush (-2), 2) := by decide +kernel
theorem dX11_node_108 : decode cX11_node 108 = .ok (.ireturn, 1) := by decide +kernel
theorem dX11_node_109 : decode cX11_node 109 = .ok (.iload_n 3, 1) := by decide +kernel
theorem dX11_node_110 : decode cX11_node 110 = .ok (.ifCond .eq 28, 3) := by decide +kernel
theorem dX11_node_113 : decode cX11_node 113 = .ok (.ldc2_w 209, 3) := by decide +kernel
theorem dX11_node_116 : decode cX11_node 116 = .ok (.ldc2_w 211, 3) := by decide +kernel
theorem dX11_node_119 : decode cX11_node 119 = .ok (.aload_n 0, 1) := by decide +kernel
theorem dX11_node_120 : decode cX11_node 120 = .ok (.getfield 42, 3) := by decide +kernel
theorem dX11_node_123 : decode cX11_node 123 = .ok (.getfield 213, 3) := by decide +kernel
theorem dX11_node_126 : decode cX11_node 126 = .ok (.iload_n 1, 1) := by decide +kernel
theorem dX11_node_127 : decode cX11_node 127 = .ok (.laload, 1) := by decide +kernel
theorem dX11_node_128 : decode cX11_node 128 = .ok (.invokestatic 217, 3) := by decide +kernel
theorem dX11_node_131 : decode cX11_node 131 = .ok (.invokestatic 223, 3) := by decide +kernel
theorem dX11_node_134 : decode cX11_node 134 = .ok (.l2i, 1) := by decide +kernel
theorem dX11_node_135 : decode cX11_node 135 = .ok (.goto 5, 3) := by decide +kernel
theorem dX11_node_138 : decode cX11_node 138 = .ok (.bipush (-2), 2) := by decide +kernel
theorem dX11_node_140 : decode cX11_node 140 = .ok (.ireturn, 1) := by decide +kernel
theorem dX11_node_141 : decode cX11_node 141 = .ok (.iload_n 3, 1) := by decide +kernel
theorem dX11_node_142 : decode cX11_node 142 = .ok (.ifCond .eq 15, 3) := by decide +kernel
theorem dX11_node_145 : decode cX11_node 145 = .ok (.aload_n 0, 1) := by decide +kernel
theorem dX11_node_146 : decode cX11_node 146 = .ok (.getfield 42, 3) := by decide +kernel
theorem dX11_node_149 : decode cX11_node 149 = .ok (.getfield 226, 3) := by decide +kernel
theorem dX11_node_152 : decode cX11_node 152 = .ok (.iload_n 1, 1) := by decide +kernel
theorem dX11_node_153 : decode cX11_node 153 = .ok (.iaload, 1) := by decide +kernel
theorem dX11_node_154 : decode cX11_node 154 = .ok (.goto 5, 3) := by decide +kernel
theorem dX11_node_157 : decode cX11_node 157 = .ok (.bipush (-2), 2) := by decide +kernel
theorem dX11_node_159 : decode cX11_node 159 = .ok (.ireturn, 1) := by decide +kernel
theorem dX11_node_160 : decode cX11_node 160 = .ok (.iload_n 3, 1) := by decide +kernel
theorem dX11_node_161 : decode cX11_node 161 = .ok (.ifCond .eq 15, 3) := by decide +kernel
theorem dX11_node_164 : decode cX11_node 164 = .ok (.aload_n 0, 1) := by decide +kernel
theorem dX11_node_165 : decode cX11_node 165 = .ok (.getfield 42, 3) := by decide +kernel
theorem dX11_node_168 : decode cX11_node 168 = .ok (.getfield 229, 3) := by decide +kernel
theorem dX11_node_171 : decode cX11_node 171 = .ok (.iload_n 1, 1) := by decide +kernel
theorem dX11_node_172 : decode cX11_node 172 = .ok (.iaload, 1) := by decide +kernel
theorem dX11_node_173 : decode cX11_node 173 = .ok (.goto 5, 3) := by decide +kernel
theorem dX11_node_176 : decode cX11_node 176 = .ok (.bipush (-2), 2) := by decide +kernel
theorem dX11_node_178 : decode cX11_node 178 = .ok (.ireturn, 1) := by decide +kernel
theorem dX11_node_179 : decode cX11_node 179 = .ok (.aload_n 0, 1) := by decide +kernel
theorem dX11_node_180 : decode cX11_node 180 = .ok (.getfield 42, 3) := by decide +kernel
theorem dX11_node_183 : decode cX11_node 183 = .ok (.getfield 232, 3) := by decide +kernel
theorem dX11_node_186 : decode cX11_node 186 = .ok (.iload_n 1, 1) := by decide +kernel
theorem dX11_node_187 : decode cX11_node 187 = .ok (.iaload, 1) := by decide +kernel
theorem dX11_node_188 : decode cX11_node 188 = .ok (.ireturn, 1) := by decide +kernel
theorem dX11_node_189 : decode cX11_node 189 = .ok (.ldc 199, 2) := by decide +kernel
theorem dX11_node_191 : decode cX11_node 191 = .ok (.ireturn, 1) := by decide +kernel
theorem dX11_multiplier_0 : decode cX11_multiplier 0 = .ok (.aload_n 0, 1) := by decide +kernel
theorem dX11_multiplier_1 : decode cX11_multiplier 1 = .ok (.iload_n 1, 1) := by decide +kernel
theorem dX11_multiplier_2 : decode cX11_multiplier 2 = .ok (.iload_n 2, 1) := by decide +kernel
theorem dX11_multiplier_3 : decode cX11_multiplier 3 = .ok (.iload_n 3, 1) := by decide +kernel
theorem dX11_multiplier_4 : decode cX11_multiplier 4 = .ok (.invokevirtual 234, 3) := by decide +kernel
theorem dX11_multiplier_7 : decode cX11_multiplier 7 = .ok (.astore 4, 2) := by decide +kernel
theorem dX11_multiplier_9 : decode cX11_multiplier 9 = .ok (.aload 4, 2) := by decide +kernel
theorem dX11_multiplier_11 : decode cX11_multiplier 11 = .ok (.ifnonnull 6, 3) := by decide +kernel
theorem dX11_multiplier_14 : decode cX11_multiplier 14 = .ok (.bipush (-4), 2) := by decide +kernel
theorem dX11_multiplier_16 : decode cX11_multiplier 16 = .ok (.ireturn, 1) := by decide +kernel
theorem dX11_multiplier_17 : decode cX11_multiplier 17 = .ok (.aload_n 0, 1) := by decide +kernel
theorem dX11_multiplier_18 : decode cX11_multiplier 18 = .ok (.getfield 73, 3) := by decide +kernel
theorem dX11_multiplier_21 : decode cX11_multiplier 21 = .ok (.aload 4, 2) := by decide +kernel
theorem dX11_multiplier_23 : decode cX11_multiplier 23 = .ok (.getfield 170, 3) := by decide +kernel
theorem dX11_multiplier_26 : decode cX11_multiplier 26 = .ok (.aload 4, 2) := by decide +kernel
theorem dX11_multiplier_28 : decode cX11_multiplier 28 = .ok (.getfield 178, 3) := by decide +kernel
theorem dX11_multiplier_31 : decode cX11_multiplier 31 = .ok (.iconst 1, 1) := by decide +kernel
theorem dX11_multiplier_32 : decode cX11_multiplier 32 = .ok (.invokevirtual 162, 3) := by decide +kernel
theorem dX11_multiplier_35 : decode cX11_multiplier 35 = .ok (.aload_n 0, 1) := by decide +kernel
theorem dX11_multiplier_36 : decode cX11_multiplier 36 = .ok (.invokevirtual 147, 3) := by decide +kernel
theorem dX11_multiplier_39 : decode cX11_multiplier 39 = .ok (.ireturn, 1) := by decide +kernel
theorem dX11_setMultiplier_0 : decode cX11_setMultiplier 0 = .ok (.aload_n 0, 1) := by decide +kernel
theorem dX11_setMultiplier_1 : decode cX11_setMultiplier 1 = .ok (.iload_n 1, 1) := by decide +kernel
theorem dX11_setMultiplier_2 : decode cX11_setMultiplier 2 = .ok (.iload_n 2, 1) := by decide +kernel
theorem dX11_setMultiplier_3 : decode cX11_setMultiplier 3 = .ok (.iload_n 3, 1) := by decide +kernel
theorem dX11_setMultiplier_4 : decode cX11_setMultiplier 4 = .ok (.invokevirtual 234, 3) := by decide +kernel
theorem dX11_setMultiplier_7 : decode cX11_setMultiplier 7 = .ok (.astore 6, 2) := by decide +kernel
theorem dX11_setMultiplier_9 : decode cX11_setMultiplier 9 = .ok (.aload 6, 2) := by decide +kernel
theorem dX11_setMultiplier_11 : decode cX11_setMultiplier 11 = .ok (.ifnull 13, 3) := by decide +kernel
theorem dX11_setMultiplier_14 : decode cX11_setMultiplier 14 = .ok (.iload 4, 2) := by decide +kernel
theorem dX11_setMultiplier_16 : decode cX11_setMultiplier 16 = .ok (.iload 5, 2) := by decide +kernel
theorem dX11_setMultiplier_18 : decode cX11_setMultiplier 18 = .ok (.invokestatic 181, 3) := by decide +kernel
theorem dX11_setMultiplier_21 : decode cX11_setMultiplier 21 = .ok (.ifCond .ne 5, 3) := by decide +kernel
theorem dX11_setMultiplier_24 : decode cX11_setMultiplier 24 = .ok (.iconst (-1), 1) := by decide +kernel
theorem dX11_setMultiplier_25 : decode cX11_setMultiplier 25 = .ok (.ireturn, 1) := by decide +kernel
theorem dX11_setMultiplier_26 : decode cX11_setMultiplier 26 = .ok (.aload 6, 2) := by decide +kernel
theorem dX11_setMultiplier_28 : decode cX11_setMultiplier 28 = .ok (.iload 4, 2) := by decide +kernel
theorem dX11_setMultiplier_30 : decode cX11_setMultiplier 30 = .ok (.i2l, 1) := by decide +kernel
theorem dX11_setMultiplier_31 : decode cX11_setMultiplier 31 = .ok (.iload 5, 2) := by decide +kernel
theorem dX11_setMultiplier_33 : decode cX11_setMultiplier 33 = .ok (.i2l, 1) := by decide +kernel
theorem dX11_setMultiplier_34 : decode cX11_setMultiplier 34 = .ok (.invokevirtual 185, 3) := by decide +kernel
theorem dX11_setMultiplier_37 : decode cX11_setMultiplier 37 = .ok (.iconst 0, 1) := by decide +kernel
theorem dX11_setMultiplier_38 : decode cX11_setMultiplier 38 = .ok (.ireturn, 1) := by decide +kernel
theorem dX11_setSplit_0 : decode cX11_setSplit 0 = .ok (.aload_n 0, 1) := by decide +kernel
theorem dX11_setSplit_1 : decode cX11_setSplit 1 = .ok (.getfield 42, 3) := by decide +kernel
theorem dX11_setSplit_4 : decode cX11_setSplit 4 = .ok (.iload_n 1, 1) := by decide +kernel
theorem dX11_setSplit_5 : decode cX11_setSplit 5 = .ok (.invokevirtual 196, 3) := by decide +kernel
theorem dX11_setSplit_8 : decode cX11_setSplit 8 = .ok (.ifCond .eq 26, 3) := by decide +kernel
theorem dX11_setSplit_11 : decode cX11_setSplit 11 = .ok (.aload_n 0, 1) := by decide +kernel
theorem dX11_setSplit_12 : decode cX11_setSplit 12 = .ok (.getfield 42, 3) := by decide +kernel
theorem dX11_setSplit_15 : decode cX11_setSplit 15 = .ok (.iload_n 1, 1) := by decide +kernel
theorem dX11_setSplit_16 : decode cX11_setSplit 16 = .ok (.invokevirtual 200, 3) := by decide +kernel
theorem dX11_setSplit_19 : decode cX11_setSplit 19 = .ok (.ifCond .eq 15, 3) := by decide +kernel
theorem dX11_setSplit_22 : decode cX11_setSplit 22 = .ok (.iload_n 2, 1) := by decide +kernel
theorem dX11_setSplit_23 : decode cX11_setSplit 23 = .ok (.ldc 238, 2) := by decide +kernel
theorem dX11_setSplit_25 : decode cX11_setSplit 25 = .ok (.if_icmp .lt 9, 3) := by decide +kernel
theorem dX11_setSplit_28 : decode cX11_setSplit 28 = .ok (.iload_n 2, 1) := by decide +kernel
theorem dX11_setSplit_29 : decode cX11_setSplit 29 = .ok (.ldc 239, 2) := by decide +kernel
theorem dX11_setSplit_31 : decode cX11_setSplit 31 = .ok (.if_icmp .le 5, 3) := by decide +kernel
theorem dX11_setSplit_34 : decode cX11_setSplit 34 = .ok (.iconst (-1), 1) := by decide +kernel
theorem dX11_setSplit_35 : decode cX11_setSplit 35 = .ok (.ireturn, 1) := by decide +kernel
theorem dX11_setSplit_36 : decode cX11_setSplit 36 = .ok (.aload_n 0, 1) := by decide +kernel
theorem dX11_setSplit_37 : decode cX11_setSplit 37 = .ok (.getfield 42, 3) := by decide +kernel
theorem dX11_setSplit_40 : decode cX11_setSplit 40 = .ok (.getfield 213, 3) := by decide +kernel
theorem dX11_setSplit_43 : decode cX11_setSplit 43 = .ok (.iload_n 1, 1) := by decide +kernel
theorem dX11_setSplit_44 : decode cX11_setSplit 44 = .ok (.iload_n 2, 1) := by decide +kernel
theorem dX11_setSplit_45 : decode cX11_setSplit 45 = .ok (.i2l, 1) := by decide +kernel
theorem dX11_setSplit_46 : decode cX11_setSplit 46 = .ok (.lastore, 1) := by decide +kernel
theorem dX11_setSplit_47 : decode cX11_setSplit 47 = .ok (.iconst 0, 1) := by decide +kernel
theorem dX11_setSplit_48 : decode cX11_setSplit 48 = .ok (.ireturn, 1) := by decide +kernel
theorem dX11_judgeTree_0 : decode cX11_judgeTree 0 = .ok (.aload_n 0, 1) := by decide +kernel
theorem dX11_judgeTree_1 : decode cX11_judgeTree 1 = .ok (.getfield 42, 3) := by decide +kernel
theorem dX11_judgeTree_4 : decode cX11_judgeTree 4 = .ok (.getfield 136, 3) := by decide +kernel
theorem dX11_judgeTree_7 : decode cX11_judgeTree 7 = .ok (.ifCond .ne 5, 3) := by decide +kernel
theorem dX11_judgeTree_10 : decode cX11_judgeTree 10 = .ok (.iconst (-1), 1) := by decide +kernel
theorem dX11_judgeTree_11 : decode cX11_judgeTree 11 = .ok (.ireturn, 1) := by decide +kernel
theorem dX11_judgeTree_12 : decode cX11_judgeTree 12 = .ok (.iconst 0, 1) := by decide +kernel
theorem dX11_judgeTree_13 : decode cX11_judgeTree 13 = .ok (.istore_n 1, 1) := by decide +kernel
theorem dX11_judgeTree_14 : decode cX11_judgeTree 14 = .ok (.iload_n 1, 1) := by decide +kernel
theorem dX11_judgeTree_15 : decode cX11_judgeTree 15 = .ok (.aload_n 0, 1) := by decide +kernel
theorem dX11_judgeTree_16 : decode cX11_judgeTree 16 = .ok (.getfield 42, 3) := by decide +kernel
theorem dX11_judgeTree_19 : decode cX11_judgeTree 19 = .ok (.getfield 136, 3) := by decide +kernel
theorem dX11_judgeTree_22 : decode cX11_judgeTree 22 = .ok (.if_icmp .ge 24, 3) := by decide +kernel
theorem dX11_judgeTree_25 : decode cX11_judgeTree 25 = .ok (.aload_n 0, 1) := by decide +kernel
theorem dX11_judgeTree_26 : decode cX11_judgeTree 26 = .ok (.getfield 60, 3) := by decide +kernel
theorem dX11_judgeTree_29 : decode cX11_judgeTree 29 = .ok (.iload_n 1, 1) := by decide +kernel
theorem dX11_judgeTree_30 : decode cX11_judgeTree 30 = .ok (.invokevirtual 240, 3) := by decide +kernel
theorem dX11_judgeTree_33 : decode cX11_judgeTree 33 = .ok (.ifCond .ne 7, 3) := by decide +kernel
theorem dX11_judgeTree_36 : decode cX11_judgeTree 36 = .ok (.iconst 1, 1) := by decide +kernel
theorem dX11_judgeTree_37 : decode cX11_judgeTree 37 = .ok (.iload_n 1, 1) := by decide +kernel
theorem dX11_judgeTree_38 : decode cX11_judgeTree 38 = .ok (.iadd, 1) := by decide +kernel
theorem dX11_judgeTree_39 : decode cX11_judgeTree 39 = .ok (.ireturn, 1) := by decide +kernel
theorem dX11_judgeTree_40 : decode cX11_judgeTree 40 = .ok (.iinc 1 1, 3) := by decide +kernel
theorem dX11_judgeTree_43 : decode cX11_judgeTree 43 = .ok (.goto (-29), 3) := by decide +kernel
theorem dX11_judgeTree_46 : decode cX11_judgeTree 46 = .ok (.iconst 0, 1) := by decide +kernel
theorem dX11_judgeTree_47 : decode cX11_judgeTree 47 = .ok (.ireturn, 1) := by decide +kernel
theorem dX11_hasPlace_0 : decode cX11_hasPlace 0 = .ok (.aload_n 0, 1) := by decide +kernel
theorem dX11_hasPlace_1 : decode cX11_hasPlace 1 = .ok (.getfield 51, 3) := by decide +kernel
theorem dX11_hasPlace_4 : decode cX11_hasPlace 4 = .ok (.getfield 108, 3) := by decide +kernel
theorem dX11_hasPlace_7 : decode cX11_hasPlace 7 = .ok (.ifCond .eq 30, 3) := by decide +kernel
theorem dX11_hasPlace_10 : decode cX11_hasPlace 10 = .ok (.iload_n 1, 1) := by decide +kernel
theorem dX11_hasPlace_11 : decode cX11_hasPlace 11 = .ok (.ifCond .lt 26, 3) := by decide +kernel
theorem dX11_hasPlace_14 : decode cX11_hasPlace 14 = .ok (.iload_n 1, 1) := by decide +kernel
theorem dX11_hasPlace_15 : decode cX11_hasPlace 15 = .ok (.aload_n 0, 1) := by decide +kernel
theorem dX11_hasPlace_16 : decode cX11_hasPlace 16 = .ok (.getfield 12, 3) := by decide +kernel
theorem dX11_hasPlace_19 : decode cX11_hasPlace 19 = .ok (.getfield 93, 3) := by decide +kernel
theorem dX11_hasPlace_22 : decode cX11_hasPlace 22 = .ok (.aload_n 0, 1) := by decide +kernel
theorem dX11_hasPlace_23 : decode cX11_hasPlace 23 = .ok (.getfield 12, 3) := by decide +kernel
theorem dX11_hasPlace_26 : decode cX11_hasPlace 26 = .ok (.getfield 97, 3) := by decide +kernel
theorem dX11_hasPlace_29 : decode cX11_hasPlace 29 = .ok (.iadd, 1) := by decide +kernel
theorem dX11_hasPlace_30 : decode cX11_hasPlace 30 = .ok (.if_icmp .ge 7, 3) := by decide +kernel
theorem dX11_hasPlace_33 : decode cX11_hasPlace 33 = .ok (.iconst 1, 1) := by decide +kernel
theorem dX11_hasPlace_34 : decode cX11_hasPlace 34 = .ok (.goto 4, 3) := by decide +kernel
theorem dX11_hasPlace_37 : decode cX11_hasPlace 37 = .ok (.iconst 0, 1) := by decide +kernel
theorem dX11_hasPlace_38 : decode cX11_hasPlace 38 = .ok (.ireturn, 1) := by decide +kernel
theorem dX11_takeToHand_0 : decode cX11_takeToHand 0 = .ok (.aload_n 0, 1) := by decide +kernel
theorem dX11_takeToHand_1 : decode cX11_takeToHand 1 = .ok (.getfield 19, 3) := by decide +kernel
theorem dX11_takeToHand_4 : decode cX11_takeToHand 4 = .ok (.aload_n 0, 1) := by decide +kernel
theorem dX11_takeToHand_5 : decode cX11_takeToHand 5 = .ok (.getfield 73, 3) := by decide +kernel
theorem dX11_takeToHand_8 : decode cX11_takeToHand 8 = .ok (.invokevirtual 243, 3) := by decide +kernel
theorem dX11_takeToHand_11 : decode cX11_takeToHand 11 = .ok (.aload_n 0, 1) := by decide +kernel
theorem dX11_takeToHand_12 : decode cX11_takeToHand 12 = .ok (.iconst 1, 1) := by decide +kernel
theorem dX11_takeToHand_13 : decode cX11_takeToHand 13 = .ok (.putfield 166, 3) := by decide +kernel
theorem dX11_takeToHand_16 : decode cX11_takeToHand 16 = .ok (.aload_n 0, 1) := by decide +kernel
theorem dX11_takeToHand_17 : decode cX11_takeToHand 17 = .ok (.getfield 73, 3) := by decide +kernel
theorem dX11_takeToHand_20 : decode cX11_takeToHand 20 = .ok (.getfield 170, 3) := by decide +kernel
theorem dX11_takeToHand_23 : decode cX11_takeToHand 23 = .ok (.getfield 247, 3) := by decide +kernel
theorem dX11_takeToHand_26 : decode cX11_takeToHand 26 = .ok (.ireturn, 1) := by decide +kernel
theorem dX11_isGiven_0 : decode cX11_isGiven 0 = .ok (.iload_n 0, 1) := by decide +kernel
theorem dX11_isGiven_1 : decode cX11_isGiven 1 = .ok (.ldc 238, 2) := by decide +kernel
theorem dX11_isGiven_3 : decode cX11_isGiven 3 = .ok (.if_icmp .lt 24, 3) := by decide +kernel
theorem dX11_isGiven_6 : decode cX11_isGiven 6 = .ok (.iload_n 0, 1) := by decide +kernel
theorem dX11_isGiven_7 : decode cX11_isGiven 7 = .ok (.ldc 239, 2) := by decide +kernel
theorem dX11_isGiven_9 : decode cX11_isGiven 9 = .ok (.if_icmp .gt 18, 3) := by decide +kernel
theorem dX11_isGiven_12 : decode cX11_isGiven 12 = .ok (.iload_n 1, 1) := by decide +kernel
theorem dX11_isGiven_13 : decode cX11_isGiven 13 = .ok (.iconst 1, 1) := by decide +kernel
theorem dX11_isGiven_14 : decode cX11_isGiven 14 = .ok (.if_icmp .lt 13, 3) := by decide +kernel
theorem dX11_isGiven_17 : decode cX11_isGiven 17 = .ok (.iload_n 1, 1) := by decide +kernel
theorem dX11_isGiven_18 : decode cX11_isGiven 18 = .ok (.ldc 239, 2) := by decide +kernel
theorem dX11_isGiven_20 : decode cX11_isGiven 20 = .ok (.if_icmp .gt 7, 3) := by decide +kernel
theorem dX11_isGiven_23 : decode cX11_isGiven 23 = .ok (.iconst 1, 1) := by decide +kernel
theorem dX11_isGiven_24 : decode cX11_isGiven 24 = .ok (.goto 4, 3) := by decide +kernel
theorem dX11_isGiven_27 : decode cX11_isGiven 27 = .ok (.iconst 0, 1) := by decide +kernel
theorem dX11_isGiven_28 : decode cX11_isGiven 28 = .ok (.ireturn, 1) := by decide +kernel
theorem dX11_multiplierAt_0 : decode cX11_multiplierAt 0 = .ok (.aload_n 0, 1) := by decide +kernel
theorem dX11_multiplierAt_1 : decode cX11_multiplierAt 1 = .ok (.getfield 42, 3) := by decide +kernel
theorem dX11_multiplierAt_4 : decode cX11_multiplierAt 4 = .ok (.iload_n 1, 1) := by decide +kernel
theorem dX11_multiplierAt_5 : decode cX11_multiplierAt 5 = .ok (.invokevirtual 250, 3) := by decide +kernel
theorem dX11_multiplierAt_8 : decode cX11_multiplierAt 8 = .ok (.astore 4, 2) := by decide +kernel
theorem dX11_multiplierAt_10 : decode cX11_multiplierAt 10 = .ok (.aload 4, 2) := by decide +kernel
theorem dX11_multiplierAt_12 : decode cX11_multiplierAt 12 = .ok (.ifnonnull 5, 3) := by decide +kernel
theorem dX11_multiplierAt_15 : decode cX11_multiplierAt 15 = .ok (.aconst_null, 1) := by decide +kernel
theorem dX11_multiplierAt_16 : decode cX11_multiplierAt 16 = .ok (.areturn, 1) := by decide +kernel
theorem dX11_multiplierAt_17 : decode cX11_multiplierAt 17 = .ok (.iload_n 2, 1) := by decide +kernel
theorem dX11_multiplierAt_18 : decode cX11_multiplierAt 18 = .ok (.ifCond .ne 26, 3) := by decide +kernel
theorem dX11_multiplierAt_21 : decode cX11_multiplierAt 21 = .ok (.aload_n 0, 1) := by decide +kernel
theorem dX11_multiplierAt_22 : decode cX11_multiplierAt 22 = .ok (.getfield 12, 3) := by decide +kernel
theorem dX11_multiplierAt_25 : decode cX11_multiplierAt 25 = .ok (.iload_n 3, 1) := by decide +kernel
theorem dX11_multiplierAt_26 : decode cX11_multiplierAt 26 = .ok (.invokevirtual 254, 3) := by decide +kernel
theorem dX11_multiplierAt_29 : decode cX11_multiplierAt 29 = .ok (.ifCond .eq 13, 3) := by decide +kernel
theorem dX11_multiplierAt_32 : decode cX11_multiplierAt 32 = .ok (.aload 4, 2) := by decide +kernel
theorem dX11_multiplierAt_34 : decode cX11_multiplierAt 34 = .ok (.getfield 257, 3) := by decide +kernel
theorem dX11_multiplierAt_37 : decode cX11_multiplierAt 37 = .ok (.iload_n 3, 1) := by decide +kernel
theorem dX11_multiplierAt_38 : decode cX11_multiplierAt 38 = .ok (.aaload, 1) := by decide +kernel
theorem dX11_multiplierAt_39 : decode cX11_multiplierAt 39 = .ok (.goto 4, 3) := by decide +kernel
theorem dX11_multiplierAt_42 : decode cX11_multiplierAt 42 = .ok (.aconst_null, 1) := by decide +kernel
theorem dX11_multiplierAt_43 : decode cX11_multiplierAt 43 = .ok (.areturn, 1) := by decide +kernel
theorem dX11_multiplierAt_44 : decode cX11_multiplierAt 44 = .ok (.aload_n 0, 1) := by decide +kernel
theorem dX11_multiplierAt_45 : decode cX11_multiplierAt 45 = .ok (.getfield 12, 3) := by decide +kernel
theorem dX11_multiplierAt_48 : decode cX11_multiplierAt 48 = .ok (.iload_n 3, 1) := by decide +kernel
theorem dX11_multiplierAt_49 : decode cX11_multiplierAt 49 = .ok (.invokevirtual 83, 3) := by decide +kernel
theorem dX11_multiplierAt_52 : decode cX11_multiplierAt 52 = .ok (.ifCond .ne 5, 3) := by decide +kernel
theorem dX11_multiplierAt_55 : decode cX11_multiplierAt 55 = .ok (.aconst_null, 1) := by decide +kernel
theorem dX11_multiplierAt_56 : decode cX11_multiplierAt 56 = .ok (.areturn, 1) := by decide +kernel
theorem dX11_multiplierAt_57 : decode cX11_multiplierAt 57 = .ok (.iload_n 2, 1) := by decide +kernel
theorem dX11_multiplierAt_58 : decode cX11_multiplierAt 58 = .ok (.iconst 1, 1) := by decide +kernel
theorem dX11_multiplierAt_59 : decode cX11_multiplierAt 59 = .ok (.if_icmp .ne 14, 3) := by decide +kernel
theorem dX11_multiplierAt_62 : decode cX11_multiplierAt 62 = .ok (.aload 4, 2) := by decide +kernel
theorem dX11_multiplierAt_64 : decode cX11_multiplierAt 64 = .ok (.getfield 257, 3) := by decide +kernel
theorem dX11_multiplierAt_67 : decode cX11_multiplierAt 67 = .ok (.bipush 12, 2) := by decide +kernel
theorem dX11_multiplierAt_69 : decode cX11_multiplierAt 69 = .ok (.iload_n 3, 1) := by decide +kernel
theorem dX11_multiplierAt_70 : decode cX11_multiplierAt 70 = .ok (.iadd, 1) := by decide +kernel
theorem dX11_multiplierAt_71 : decode cX11_multiplierAt 71 = .ok (.aaload, 1) := by decide +kernel
theorem dX11_multiplierAt_72 : decode cX11_multiplierAt 72 = .ok (.areturn, 1) := by decide +kernel
theorem dX11_multiplierAt_73 : decode cX11_multiplierAt 73 = .ok (.iload_n 2, 1) := by decide +kernel
theorem dX11_multiplierAt_74 : decode cX11_multiplierAt 74 = .ok (.iconst 2, 1) := by decide +kernel
theorem dX11_multiplierAt_75 : decode cX11_multiplierAt 75 = .ok (.if_icmp .ne 16, 3) := by decide +kernel
theorem dX11_multiplierAt_78 : decode cX11_multiplierAt 78 = .ok (.aload 4, 2) := by decide +kernel
theorem dX11_multiplierAt_80 : decode cX11_multiplierAt 80 = .ok (.getfield 257, 3) := by decide +kernel
theorem dX11_multiplierAt_83 : decode cX11_multiplierAt 83 = .ok (.bipush 22, 2) := by decide +kernel
theorem dX11_multiplierAt_85 : decode cX11_multiplierAt 85 = .ok (.iload_n 3, 1) := by decide +kernel
theorem dX11_multiplierAt_86 : decode cX11_multiplierAt 86 = .ok (.iadd, 1) := by decide +kernel
theorem dX11_multiplierAt_87 : decode cX11_multiplierAt 87 = .ok (.aaload, 1) := by decide +kernel
theorem dX11_multiplierAt_88 : decode cX11_multiplierAt 88 = .ok (.goto 4, 3) := by decide +kernel
theorem dX11_multiplierAt_91 : decode cX11_multiplierAt 91 = .ok (.aconst_null, 1) := by decide +kernel
theorem dX11_multiplierAt_92 : decode cX11_multiplierAt 92 = .ok (.areturn, 1) := by decide +kernel
theorem dX12_factorAt_0 : decode cX12_factorAt 0 = .ok (.bipush 16, 2) := by decide +kernel
theorem dX12_factorAt_2 : decode cX12_factorAt 2 = .ok (.bipush 16, 2) := by decide +kernel
theorem dX12_factorAt_4 : decode cX12_factorAt 4 = .ok (.bipush 10, 2) := by decide +kernel
theorem dX12_factorAt_6 : decode cX12_factorAt 6 = .ok (.iload_n 0, 1) := by decide +kernel
theorem dX12_factorAt_7 : decode cX12_factorAt 7 = .ok (.imul, 1) := by decide +kernel
theorem dX12_factorAt_8 : decode cX12_factorAt 8 = .ok (.iload_n 1, 1) := by decide +kernel
theorem dX12_factorAt_9 : decode cX12_factorAt 9 = .ok (.iadd, 1) := by decide +kernel
theorem dX12_factorAt_10 : decode cX12_factorAt 10 = .ok (.imul, 1) := by decide +kernel
theorem dX12_factorAt_11 : decode cX12_factorAt 11 = .ok (.iadd, 1) := by decide +kernel
theorem dX12_factorAt_12 : decode cX12_factorAt 12 = .ok (.ireturn, 1) := by decide +kernel
theorem dX12_valueAt_0 : decode cX12_valueAt 0 = .ok (.sipush 3856, 3) := by decide +kernel
theorem dX12_valueAt_3 : decode cX12_valueAt 3 = .ok (.sipush 300, 3) := by decide +kernel
theorem dX12_valueAt_6 : decode cX12_valueAt 6 = .ok (.iload_n 0, 1) := by decide +kernel
theorem dX12_valueAt_7 : decode cX12_valueAt 7 = .ok (.imul, 1) := by decide +kernel
theorem dX12_valueAt_8 : decode cX12_valueAt 8 = .ok (.iadd, 1) := by decide +kernel
theorem dX12_valueAt_9 : decode cX12_valueAt 9 = .ok (.ireturn, 1) := by decide +kernel
theorem dX12_boundAt_0 : decode cX12_boundAt 0 = .ok (.sipush 10456, 3) := by decide +kernel
theorem dX12_boundAt_3 : decode cX12_boundAt 3 = .ok (.sipush 300, 3) := by decide +kernel
theorem dX12_boundAt_6 : decode cX12_boundAt 6 = .ok (.iconst 2, 1) := by decide +kernel
theorem dX12_boundAt_7 : decode cX12_boundAt 7 = .ok (.iload_n 0, 1) := by decide +kernel
theorem dX12_boundAt_8 : decode cX12_boundAt 8 = .ok (.imul, 1) := by decide +kernel
theorem dX12_boundAt_9 : decode cX12_boundAt 9 = .ok (.iload_n 1, 1) := by decide +kernel
theorem dX12_boundAt_10 : decode cX12_boundAt 10 = .ok (.iadd, 1) := by decide +kernel
theorem dX12_boundAt_11 : decode cX12_boundAt 11 = .ok (.imul, 1) := by decide +kernel
theorem dX12_boundAt_12 : decode cX12_boundAt 12 = .ok (.iadd, 1) := by decide +kernel
theorem dX12_boundAt_13 : decode cX12_boundAt 13 = .ok (.ireturn, 1) := by decide +kernel
theorem dX12_foundAt_0 : decode cX12_foundAt 0 = .ok (.ldc 3, 2) := by decide +kernel
theorem dX12_foundAt_2 : decode cX12_foundAt 2 = .ok (.sipush 300, 3) := by decide +kernel
theorem dX12_foundAt_5 : decode cX12_foundAt 5 = .ok (.iload_n 0, 1) := by decide +kernel
theorem dX12_foundAt_6 : decode cX12_foundAt 6 = .ok (.imul, 1) := by decide +kernel
theorem dX12_foundAt_7 : decode cX12_foundAt 7 = .ok (.iadd, 1) := by decide +kernel
theorem dX12_foundAt_8 : decode cX12_foundAt 8 = .ok (.ireturn, 1) := by decide +kernel
theorem dX12_splitAt_0 : decode cX12_splitAt 0 = .ok (.sipush 16456, 3) := by decide +kernel
theorem dX12_splitAt_3 : decode cX12_splitAt 3 = .ok (.sipush 300, 3) := by decide +kernel
theorem dX12_splitAt_6 : decode cX12_splitAt 6 = .ok (.iload_n 0, 1) := by decide +kernel
theorem dX12_splitAt_7 : decode cX12_splitAt 7 = .ok (.imul, 1) := by decide +kernel
theorem dX12_splitAt_8 : decode cX12_splitAt 8 = .ok (.iadd, 1) := by decide +kernel
theorem dX12_splitAt_9 : decode cX12_splitAt 9 = .ok (.ireturn, 1) := by decide +kernel
theorem dX12_witnessAt_0 : decode cX12_witnessAt 0 = .ok (.ldc 4, 2) := by decide +kernel
theorem dX12_witnessAt_2 : decode cX12_witnessAt 2 = .ok (.sipush 300, 3) := by decide +kernel
theorem dX12_witnessAt_5 : decode cX12_witnessAt 5 = .ok (.iconst 2, 1) := by decide +kernel
theorem dX12_witnessAt_6 : decode cX12_witnessAt 6 = .ok (.iload_n 0, 1) := by decide +kernel
theorem dX12_witnessAt_7 : decode cX12_witnessAt 7 = .ok (.imul, 1) := by decide +kernel
theorem dX12_witnessAt_8 : decode cX12_witnessAt 8 = .ok (.iload_n 1, 1) := by decide +kernel
theorem dX12_witnessAt_9 : decode cX12_witnessAt 9 = .ok (.iadd, 1) := by decide +kernel
theorem dX12_witnessAt_10 : decode cX12_witnessAt 10 = .ok (.imul, 1) := by decide +kernel
theorem dX12_witnessAt_11 : decode cX12_witnessAt 11 = .ok (.iadd, 1) := by decide +kernel
theorem dX12_witnessAt_12 : decode cX12_witnessAt 12 = .ok (.ireturn, 1) := by decide +kernel
theorem dX12_multiplierAt_0 : decode cX12_multiplierAt 0 = .ok (.ldc 5, 2) := by decide +kernel
theorem dX12_multiplierAt_2 : decode cX12_multiplierAt 2 = .ok (.bipush 16, 2) := by decide +kernel
theorem dX12_multiplierAt_4 : decode cX12_multiplierAt 4 = .ok (.iconst 2, 1) := by decide +kernel
theorem dX12_multiplierAt_5 : decode cX12_multiplierAt 5 = .ok (.bipush 32, 2) := by decide +kernel
theorem dX12_multiplierAt_7 : decode cX12_multiplierAt 7 = .ok (.iload_n 0, 1) := by decide +kernel
theorem dX12_multiplierAt_8 : decode cX12_multiplierAt 8 = .ok (.imul, 1) := by decide +kernel
theorem dX12_multiplierAt_9 : decode cX12_multiplierAt 9 = .ok (.iload_n 1, 1) := by decide +kernel
theorem dX12_multiplierAt_10 : decode cX12_multiplierAt 10 = .ok (.iadd, 1) := by decide +kernel
theorem dX12_multiplierAt_11 : decode cX12_multiplierAt 11 = .ok (.imul, 1) := by decide +kernel
theorem dX12_multiplierAt_12 : decode cX12_multiplierAt 12 = .ok (.iload_n 2, 1) := by decide +kernel
theorem dX12_multiplierAt_13 : decode cX12_multiplierAt 13 = .ok (.iadd, 1) := by decide +kernel
theorem dX12_multiplierAt_14 : decode cX12_multiplierAt 14 = .ok (.imul, 1) := by decide +kernel
theorem dX12_multiplierAt_15 : decode cX12_multiplierAt 15 = .ok (.iadd, 1) := by decide +kernel
theorem dX12_multiplierAt_16 : decode cX12_multiplierAt 16 = .ok (.ireturn, 1) := by decide +kernel
theorem dX12_init_0 : decode cX12_init 0 = .ok (.aload_n 0, 1) := by decide +kernel
theorem dX12_init_1 : decode cX12_init 1 = .ok (.invokespecial 6, 3) := by decide +kernel
theorem dX12_init_4 : decode cX12_init 4 = .ok (.aload_n 0, 1) := by decide +kernel
theorem dX12_init_5 : decode cX12_init 5 = .ok (.bipush 120, 2) := by decide +kernel
theorem dX12_init_7 : decode cX12_init 7 = .ok (.newarray .int, 2) := by decide +kernel
theorem dX12_init_9 : decode cX12_init 9 = .ok (.putfield 12, 3) := by decide +kernel
theorem dX12_init_12 : decode cX12_init 12 = .ok (.aload_n 0, 1) := by decide +kernel
theorem dX12_init_13 : decode cX12_init 13 = .ok (.bipush 12, 2) := by decide +kernel
theorem dX12_init_15 : decode cX12_init 15 = .ok (.newarray .int, 2) := by decide +kernel
theorem dX12_init_17 : decode cX12_init 17 = .ok (.putfield 16, 3) := by decide +kernel
theorem dX12_init_20 : decode cX12_init 20 = .ok (.aload_n 0, 1) := by decide +kernel
theorem dX12_init_21 : decode cX12_init 21 = .ok (.bipush 12, 2) := by decide +kernel
theorem dX12_init_23 : decode cX12_init 23 = .ok (.newarray .int, 2) := by decide +kernel
theorem dX12_init_25 : decode cX12_init 25 = .ok (.putfield 19, 3) := by decide +kernel
theorem dX12_init_28 : decode cX12_init 28 = .ok (.aload_n 0, 1) := by decide +kernel
theorem dX12_init_29 : decode cX12_init 29 = .ok (.bipush 10, 2) := by decide +kernel
theorem dX12_init_31 : decode cX12_init 31 = .ok (.newarray .int, 2) := by decide +kernel
theorem dX12_init_33 : decode cX12_init 33 = .ok (.putfield 22, 3) := by decide +kernel
theorem dX12_init_36 : decode cX12_init 36 = .ok (.aload_n 0, 1) := by decide +kernel
theorem dX12_init_37 : decode cX12_init 37 = .ok (.bipush 10, 2) := by decide +kernel
theorem dX12_init_39 : decode cX12_init 39 = .ok (.newarray .boolean, 2) := by decide +kernel
theorem dX12_init_41 : decode cX12_init 41 = .ok (.putfield 25, 3) := by decide +kernel
theorem dX12_init_44 : decode cX12_init 44 = .ok (.aload_n 0, 1) := by decide +kernel
theorem dX12_init_45 : decode cX12_init 45 = .ok (.bipush 20, 2) := by decide +kernel
theorem dX12_init_47 : decode cX12_init 47 = .ok (.newarray .boolean, 2) := by decide +kernel
theorem dX12_init_49 : decode cX12_init 49 = .ok (.putfield 29, 3) := by decide +kernel
theorem dX12_init_52 : decode cX12_init 52 = .ok (.aload_n 0, 1) := by decide +kernel
theorem dX12_init_53 : decode cX12_init 53 = .ok (.bipush 12, 2) := by decide +kernel
theorem dX12_init_55 : decode cX12_init 55 = .ok (.newarray .int, 2) := by decide +kernel
theorem dX12_init_57 : decode cX12_init 57 = .ok (.putfield 32, 3) := by decide +kernel
theorem dX12_init_60 : decode cX12_init 60 = .ok (.aload_n 0, 1) := by decide +kernel
theorem dX12_init_61 : decode cX12_init 61 = .ok (.bipush 10, 2) := by decide +kernel
theorem dX12_init_63 : decode cX12_init 63 = .ok (.newarray .int, 2) := by decide +kernel
theorem dX12_init_65 : decode cX12_init 65 = .ok (.putfield 35, 3) := by decide +kernel
theorem dX12_init_68 : decode cX12_init 68 = .ok (.aload_n 0, 1) := by decide +kernel
theorem dX12_init_69 : decode cX12_init 69 = .ok (.sipush 310, 3) := by decide +kernel
theorem dX12_init_72 : decode cX12_init 72 = .ok (.newarray .boolean, 2) := by decide +kernel
theorem dX12_init_74 : decode cX12_init 74 = .ok (.putfield 38, 3) := by decide +kernel
theorem dX12_init_77 : decode cX12_init 77 = .ok (.aload_n 0, 1) := by decide +kernel
theorem dX12_init_78 : decode cX12_init 78 = .ok (.sipush 310, 3) := by decide +kernel
theorem dX12_init_81 : decode cX12_init 81 = .ok (.newarray .boolean, 2) := by decide +kernel
theorem dX12_init_83 : decode cX12_init 83 = .ok (.putfield 41, 3) := by decide +kernel
theorem dX12_init_86 : decode cX12_init 86 = .ok (.aload_n 0, 1) := by decide +kernel
theorem dX12_init_87 : decode cX12_init 87 = .ok (.sipush 310, 3) := by decide +kernel
theorem dX12_init_90 : decode cX12_init 90 = .ok (.newarray .int, 2) := by decide +kernel
theorem dX12_init_92 : decode cX12_init 92 = .ok (.putfield 44, 3) := by decide +kernel
theorem dX12_init_95 : decode cX12_init 95 = .ok (.aload_n 0, 1) := by decide +kernel
theorem dX12_init_96 : decode cX12_init 96 = .ok (.sipush 310, 3) := by decide +kernel
theorem dX12_init_99 : decode cX12_init 99 = .ok (.newarray .int, 2) := by decide +kernel
theorem dX12_init_101 : decode cX12_init 101 = .ok (.putfield 47, 3) := by decide +kernel
theorem dX12_init_104 : decode cX12_init 104 = .ok (.aload_n 0, 1) := by decide +kernel
theorem dX12_init_105 : decode cX12_init 105 = .ok (.sipush 310, 3) := by decide +kernel
theorem dX12_init_108 : decode cX12_init 108 = .ok (.newarray .int, 2) := by decide +kernel
theorem dX12_init_110 : decode cX12_init 110 = .ok (.putfield 50, 3) := by decide +kernel
theorem dX12_init_113 : decode cX12_init 113 = .ok (.aload_n 0, 1) := by decide +kernel
theorem dX12_init_114 : decode cX12_init 114 = .ok (.sipush 310, 3) := by decide +kernel
theorem dX12_init_117 : decode cX12_init 117 = .ok (.newarray .int, 2) := by decide +kernel
theorem dX12_init_119 : decode cX12_init 119 = .ok (.putfield 53, 3) := by decide +kernel
theorem dX12_init_122 : decode cX12_init 122 = .ok (.aload_n 0, 1) := by decide +kernel
theorem dX12_init_123 : decode cX12_init 123 = .ok (.sipush 310, 3) := by decide +kernel
theorem dX12_init_126 : decode cX12_init 126 = .ok (.newarray .int, 2) := by decide +kernel
theorem dX12_init_128 : decode cX12_init 128 = .ok (.putfield 56, 3) := by decide +kernel
theorem dX12_init_131 : decode cX12_init 131 = .ok (.aload_n 0, 1) := by decide +kernel
theorem dX12_init_132 : decode cX12_init 132 = .ok (.bipush 25, 2) := by decide +kernel
theorem dX12_init_134 : decode cX12_init 134 = .ok (.newarray .int, 2) := by decide +kernel
theorem dX12_init_136 : decode cX12_init 136 = .ok (.putfield 59, 3) := by decide +kernel
theorem dX12_init_139 : decode cX12_init 139 = .ok (.aload_n 0, 1) := by decide +kernel
theorem dX12_init_140 : decode cX12_init 140 = .ok (.bipush 25, 2) := by decide +kernel
theorem dX12_init_142 : decode cX12_init 142 = .ok (.newarray .boolean, 2) := by decide +kernel
theorem dX12_init_144 : decode cX12_init 144 = .ok (.putfield 62, 3) := by decide +kernel
theorem dX12_init_147 : decode cX12_init 147 = .ok (.aload_n 0, 1) := by decide +kernel
theorem dX12_init_148 : decode cX12_init 148 = .ok (.bipush 20, 2) := by decide +kernel
theorem dX12_init_150 : decode cX12_init 150 = .ok (.newarray .boolean, 2) := by decide +kernel
theorem dX12_init_152 : decode cX12_init 152 = .ok (.putfield 65, 3) := by decide +kernel
theorem dX12_init_155 : decode cX12_init 155 = .ok (.aload_n 0, 1) := by decide +kernel
theorem dX12_init_156 : decode cX12_init 156 = .ok (.bipush 20, 2) := by decide +kernel
theorem dX12_init_158 : decode cX12_init 158 = .ok (.newarray .int, 2) := by decide +kernel
theorem dX12_init_160 : decode cX12_init 160 = .ok (.putfield 68, 3) := by decide +kernel
theorem dX12_init_163 : decode cX12_init 163 = .ok (.aload_n 0, 1) := by decide +kernel
theorem dX12_init_164 : decode cX12_init 164 = .ok (.ldc 71, 2) := by decide +kernel
theorem dX12_init_166 : decode cX12_init 166 = .ok (.newarray .int, 2) := by decide +kernel
theorem dX12_init_168 : decode cX12_init 168 = .ok (.putfield 72, 3) := by decide +kernel
theorem dX12_init_171 : decode cX12_init 171 = .ok (.aload_n 0, 1) := by decide +kernel
theorem dX12_init_172 : decode cX12_init 172 = .ok (.ldc 75, 2) := by decide +kernel
theorem dX12_init_174 : decode cX12_init 174 = .ok (.putfield 76, 3) := by decide +kernel
theorem dX12_init_177 : decode cX12_init 177 = .ok (.iconst 0, 1) := by decide +kernel
theorem dX12_init_178 : decode cX12_init 178 = .ok (.istore_n 1, 1) := by decide +kernel
theorem dX12_init_179 : decode cX12_init 179 = .ok (.iload_n 1, 1) := by decide +kernel
theorem dX12_init_180 : decode cX12_init 180 = .ok (.bipush 10, 2) := by decide +kernel
theorem dX12_init_182 : decode cX12_init 182 = .ok (.if_icmp .ge 29, 3) := by decide +kernel
theorem dX12_init_185 : decode cX12_init 185 = .ok (.aload_n 0, 1) := by decide +kernel
theorem dX12_init_186 : decode cX12_init 186 = .ok (.iload_n 1, 1) := by decide +kernel
theorem dX12_init_187 : decode cX12_init 187 = .ok (.iconst 0, 1) := by decide +kernel
theorem dX12_init_188 : decode cX12_init 188 = .ok (.invokestatic 80, 3) := by decide +kernel
theorem dX12_init_191 : decode cX12_init 191 = .ok (.lconst 0, 1) := by decide +kernel
theorem dX12_init_192 : decode cX12_init 192 = .ok (.invokevirtual 84, 3) := by decide +kernel
theorem dX12_init_195 : decode cX12_init 195 = .ok (.aload_n 0, 1) := by decide +kernel
theorem dX12_init_196 : decode cX12_init 196 = .ok (.iload_n 1, 1) := by decide +kernel
theorem dX12_init_197 : decode cX12_init 197 = .ok (.iconst 1, 1) := by decide +kernel
theorem dX12_init_198 : decode cX12_init 198 = .ok (.invokestatic 80, 3) := by decide +kernel
theorem dX12_init_201 : decode cX12_init 201 = .ok (.lconst 1, 1) := by decide +kernel
theorem dX12_init_202 : decode cX12_init 202 = .ok (.invokevirtual 84, 3) := by decide +kernel
theorem dX12_init_205 : decode cX12_init 205 = .ok (.iinc 1 1, 3) := by decide +kernel
theorem dX12_init_208 : decode cX12_init 208 = .ok (.goto (-29), 3) := by decide +kernel
theorem dX12_init_211 : decode cX12_init 211 = .ok (.return_, 1) := by decide +kernel
theorem dX12_setWhole_0 : decode cX12_setWhole 0 = .ok (.aload_n 0, 1) := by decide +kernel
theorem dX12_setWhole_1 : decode cX12_setWhole 1 = .ok (.getfield 76, 3) := by decide +kernel
theorem dX12_setWhole_4 : decode cX12_setWhole 4 = .ok (.istore 4, 2) := by decide +kernel
theorem dX12_setWhole_6 : decode cX12_setWhole 6 = .ok (.aload_n 0, 1) := by decide +kernel
theorem dX12_setWhole_7 : decode cX12_setWhole 7 = .ok (.aload_n 0, 1) := by decide +kernel
theorem dX12_setWhole_8 : decode cX12_setWhole 8 = .ok (.lload_n 2, 1) := by decide +kernel
theorem dX12_setWhole_9 : decode cX12_setWhole 9 = .ok (.invokevirtual 88, 3) := by decide +kernel
theorem dX12_setWhole_12 : decode cX12_setWhole 12 = .ok (.iload_n 1, 1) := by decide +kernel
theorem dX12_setWhole_13 : decode cX12_setWhole 13 = .ok (.invokevirtual 92, 3) := by decide +kernel
theorem dX12_setWhole_16 : decode cX12_setWhole 16 = .ok (.aload_n 0, 1) := by decide +kernel
theorem dX12_setWhole_17 : decode cX12_setWhole 17 = .ok (.iload 4, 2) := by decide +kernel
theorem dX12_setWhole_19 : decode cX12_setWhole 19 = .ok (.putfield 76, 3) := by decide +kernel
theorem dX12_setWhole_22 : decode cX12_setWhole 22 = .ok (.return_, 1) := by decide +kernel
theorem dX12_forget_0 : decode cX12_forget 0 = .ok (.aload_n 0, 1) := by decide +kernel
theorem dX12_forget_1 : decode cX12_forget 1 = .ok (.iconst 0, 1) := by decide +kernel
theorem dX12_forget_2 : decode cX12_forget 2 = .ok (.putfield 96, 3) := by decide +kernel
theorem dX12_forget_5 : decode cX12_forget 5 = .ok (.aload_n 0, 1) := by decide +kernel
theorem dX12_forget_6 : decode cX12_forget 6 = .ok (.iconst 0, 1) := by decide +kernel
theorem dX12_forget_7 : decode cX12_forget 7 = .ok (.putfield 99, 3) := by decide +kernel
theorem dX12_forget_10 : decode cX12_forget 10 = .ok (.aload_n 0, 1) := by decide +kernel
theorem dX12_forget_11 : decode cX12_forget 11 = .ok (.iconst 0, 1) := by decide +kernel
theorem dX12_forget_12 : decode cX12_forget 12 = .ok (.putfield 102, 3) := by decide +kernel
theorem dX12_forget_15 : decode cX12_forget 15 = .ok (.aload_n 0, 1) := by decide +kernel
theorem dX12_forget_16 : decode cX12_forget 16 = .ok (.iconst 0, 1) := by decide +kernel
theorem dX12_forget_17 : decode cX12_forget 17 = .ok (.putfield 105, 3) := by decide +kernel
theorem dX12_forget_20 : decode cX12_forget 20 = .ok (.aload_n 0, 1) := by decide +kernel
theorem dX12_forget_21 : decode cX12_forget 21 = .ok (.iconst 0, 1) := by decide +kernel
theorem dX12_forget_22 : decode cX12_forget 22 = .ok (.putfield 108, 3) := by decide +kernel
theorem dX12_forget_25 : decode cX12_forget 25 = .ok (.aload_n 0, 1) := by decide +kernel
theorem dX12_forget_26 : decode cX12_forget 26 = .ok (.iconst 0, 1) := by decide +kernel
theorem dX12_forget_27 : decode cX12_forget 27 = .ok (.putfield 111, 3) := by decide +kernel
theorem dX12_forget_30 : decode cX12_forget 30 = .ok (.aload_n 0, 1) := by decide +kernel
theorem dX12_forget_31 : decode cX12_forget 31 = .ok (.iconst 0, 1) := by decide +kernel
theorem dX12_forget_32 : decode cX12_forget 32 = .ok (.putfield 114, 3) := by decide +kernel
theorem dX12_forget_35 : decode cX12_forget 35 = .ok (.aload_n 0, 1) := by decide +kernel
theorem dX12_forget_36 : decode cX12_forget 36 = .ok (.iconst 0, 1) := by decide +kernel
theorem dX12_forget_37 : decode cX12_forget 37 = .ok (.putfield 117, 3) := by decide +kernel
theorem dX12_forget_40 : decode cX12_forget 40 = .ok (.return_, 1) := by decide +kernel
theorem dX12_variables_0 : decode cX12_variables 0 = .ok (.iload_n 1, 1) := by decide +kernel
theorem dX12_variables_1 : decode cX12_variables 1 = .ok (.iconst 1, 1) := by decide +kernel
theorem dX12_variables_2 : decode cX12_variables 2 = .ok (.if_icmp .lt 9, 3) := by decide +kernel
theorem dX12_variables_5 : decode cX12_variables 5 = .ok (.iload_n 1, 1) := by decide +kernel
theorem dX12_variables_6 : decode cX12_variables 6 = .ok (.bipush 10, 2) := by decide +kernel
theorem dX12_variables_8 : decode cX12_variables 8 = .ok (.if_icmp .le 5, 3) := by decide +kernel
theorem dX12_variables_11 : decode cX12_variables 11 = .ok (.iconst (-1), 1) := by decide +kernel
theorem dX12_variables_12 : decode cX12_variables 12 = .ok (.ireturn, 1) := by decide +kernel
theorem dX12_variables_13 : decode cX12_variables 13 = .ok (.aload_n 0, 1) := by decide +kernel
theorem dX12_variables_14 : decode cX12_variables 14 = .ok (.iload_n 1, 1) := by decide +kernel
theorem dX12_variables_15 : decode cX12_variables 15 = .ok (.putfield 120, 3) := by decide +kernel
theorem dX12_variables_18 : decode cX12_variables 18 = .ok (.aload_n 0, 1) := by decide +kernel
theorem dX12_variables_19 : decode cX12_variables 19 = .ok (.iconst 0, 1) := by decide +kernel
theorem dX12_variables_20 : decode cX12_variables 20 = .ok (.putfield 123, 3) := by decide +kernel
theorem dX12_variables_23 : decode cX12_variables 23 = .ok (.iconst 0, 1) := by decide +kernel
theorem dX12_variables_24 : decode cX12_variables 24 = .ok (.istore_n 2, 1) := by decide +kernel
theorem dX12_variables_25 : decode cX12_variables 25 = .ok (.iload_n 2, 1) := by decide +kernel
theorem dX12_variables_26 : decode cX12_variables 26 = .ok (.bipush 10, 2) := by decide +kernel
theorem dX12_variables_28 : decode cX12_variables 28 = .ok (.if_icmp .ge 23, 3) := by decide +kernel
theorem dX12_variables_31 : decode cX12_variables 31 = .ok (.aload_n 0, 1) := by decide +kernel
theorem dX12_variables_32 : decode cX12_variables 32 = .ok (.getfield 25, 3) := by decide +kernel
theorem dX12_variables_35 : decode cX12_variables 35 = .ok (.iload_n 2, 1) := by decide +kernel
theorem dX12_variables_36 : decode cX12_variables 36 = .ok (.iconst 0, 1) := by decide +kernel
theorem dX12_variables_37 : decode cX12_variables 37 = .ok (.bastore, 1) := by decide +kernel
theorem dX12_variables_38 : decode cX12_variables 38 = .ok (.aload_n 0, 1) := by decide +kernel
theorem dX12_variables_39 : decode cX12_variables 39 = .ok (.getfield 22, 3) := by decide +kernel
theorem dX12_variables_42 : decode cX12_variables 42 = .ok (.iload_n 2, 1) := by decide +kernel
theorem dX12_variables_43 : decode cX12_variables 43 = .ok (.iconst 0, 1) := by decide +kernel
theorem dX12_variables_44 : decode cX12_variables 44 = .ok (.iastore, 1) := by decide +kernel
theorem dX12_variables_45 : decode cX12_variables 45 = .ok (.iinc 2 1, 3) := by decide +kernel
theorem dX12_variables_48 : decode cX12_variables 48 = .ok (.goto (-23), 3) := by decide +kernel
theorem dX12_variables_51 : decode cX12_variables 51 = .ok (.aload_n 0, 1) := by decide +kernel
theorem dX12_variables_52 : decode cX12_variables 52 = .ok (.invokevirtual 126, 3) := by decide +kernel
theorem dX12_variables_55 : decode cX12_variables 55 = .ok (.iload_n 1, 1) := by decide +kernel
theorem dX12_variables_56 : decode cX12_variables 56 = .ok (.ireturn, 1) := by decide +kernel
theorem dX12_isVariable_0 : decode cX12_isVariable 0 = .ok (.iload_n 1, 1) := by decide +kernel
theorem dX12_isVariable_1 : decode cX12_isVariable 1 = .ok (.ifCond .lt 15, 3) := by decide +kernel
theorem dX12_isVariable_4 : decode cX12_isVariable 4 = .ok (.iload_n 1, 1) := by decide +kernel
theorem dX12_isVariable_5 : decode cX12_isVariable 5 = .ok (.aload_n 0, 1) := by decide +kernel
theorem dX12_isVariable_6 : decode cX12_isVariable 6 = .ok (.getfield 120, 3) := by decide +kernel
theorem dX12_isVariable_9 : decode cX12_isVariable 9 = .ok (.if_icmp .ge 7, 3) := by decide +kernel
theorem dX12_isVariable_12 : decode cX12_isVariable 12 = .ok (.iconst 1, 1) := by decide +kernel
theorem dX12_isVariable_13 : decode cX12_isVariable 13 = .ok (.goto 4, 3) := by decide +kernel
theorem dX12_isVariable_16 : decode cX12_isVariable 16 = .ok (.iconst 0, 1) := by decide +kernel
theorem dX12_isVariable_17 : decode cX12_isVariable 17 = .ok (.ireturn, 1) := by decide +kernel
theorem dX12_within_0 : decode cX12_within 0 = .ok (.iload_n 0, 1) := by decide +kernel
theorem dX12_within_1 : decode cX12_within 1 = .ok (.iload_n 1, 1) := by decide +kernel
theorem dX12_within_2 : decode cX12_within 2 = .ok (.ineg, 1) := by decide +kernel
theorem dX12_within_3 : decode cX12_within 3 = .ok (.if_icmp .lt 12, 3) := by decide +kernel
theorem dX12_within_6 : decode cX12_within 6 = .ok (.iload_n 0, 1) := by decide +kernel
theorem dX12_within_7 : decode cX12_within 7 = .ok (.iload_n 1, 1) := by decide +kernel
theorem dX12_within_8 : decode cX12_within 8 = .ok (.if_icmp .gt 7, 3) := by decide +kernel
theorem dX12_within_11 : decode cX12_within 11 = .ok (.iconst 1, 1) := by decide +kernel
theorem dX12_within_12 : decode cX12_within 12 = .ok (.goto 4, 3) := by decide +kernel
theorem dX12_within_15 : decode cX12_within 15 = .ok (.iconst 0, 1) := by decide +kernel
theorem dX12_within_16 : decode cX12_within 16 = .ok (.ireturn, 1) := by decide +kernel
theorem dX12_factor_0 : decode cX12_factor 0 = .ok (.aload_n 0, 1) := by decide +kernel
theorem dX12_factor_1 : decode cX12_factor 1 = .ok (.iload_n 1, 1) := by decide +kernel
theorem dX12_factor_2 : decode cX12_factor 2 = .ok (.invokevirtual 129, 3) := by decide +kernel
theorem dX12_factor_5 : decode cX12_factor 5 = .ok (.ifCond .eq 12, 3) := by decide +kernel
theorem dX12_factor_8 : decode cX12_factor 8 = .ok (.iload_n 2, 1) := by decide +kernel
theorem dX12_factor_9 : decode cX12_factor 9 = .ok (.ldc 133, 2) := by decide +kernel
theorem dX12_factor_11 : decode cX12_factor 11 = .ok (.invokestatic 134, 3) := by decide +kernel
theorem dX12_factor_14 : decode cX12_factor 14 = .ok (.ifCond .ne 5, 3) := by decide +kernel
theorem dX12_factor_17 : decode cX12_factor 17 = .ok (.iconst (-1), 1) := by decide +kernel
theorem dX12_factor_18 : decode cX12_factor 18 = .ok (.ireturn, 1) := by decide +kernel
theorem dX12_factor_19 : decode cX12_factor 19 = .ok (.aload_n 0, 1) := by decide +kernel
theorem dX12_factor_20 : decode cX12_factor 20 = .ok (.getfield 22, 3) := by decide +kernel
theorem dX12_factor_23 : decode cX12_factor 23 = .ok (.iload_n 1, 1) := by decide +kernel
theorem dX12_factor_24 : decode cX12_factor 24 = .ok (.iload_n 2, 1) := by decide +kernel
theorem dX12_factor_25 : decode cX12_factor 25 = .ok (.iastore, 1) := by decide +kernel
theorem dX12_factor_26 : decode cX12_factor 26 = .ok (.iconst 0, 1) := by decide +kernel
theorem dX12_factor_27 : decode cX12_factor 27 = .ok (.ireturn, 1) := by decide +kernel
theorem dX12_row_0 : decode cX12_row 0 = .ok (.aload_n 0, 1) := by decide +kernel
theorem dX12_row_1 : decode cX12_row 1 = .ok (.getfield 120, 3) := by decide +kernel
theorem dX12_row_4 : decode cX12_row 4 = .ok (.ifCond .eq 30, 3) := by decide +kernel
theorem dX12_row_7 : decode cX12_row 7 = .ok (.iload_n 1, 1) := by decide +kernel
theorem dX12_row_8 : decode cX12_row 8 = .ok (.ifCond .lt 26, 3) := by decide +kernel
theorem dX12_row_11 : decode cX12_row 11 = .ok (.iload_n 1, 1) := by decide +kernel
theorem dX12_row_12 : decode cX12_row 12 = .ok (.iconst 2, 1) := by decide +kernel
theorem dX12_row_13 : decode cX12_row 13 = .ok (.if_icmp .gt 21, 3) := by decide +kernel
theorem dX12_row_16 : decode cX12_row 16 = .ok (.iload_n 2, 1) := by decide +kernel
theorem dX12_row_17 : decode cX12_row 17 = .ok (.ldc 133, 2) := by decide +kernel
theorem dX12_row_19 : decode cX12_row 19 = .ok (.invokestatic 134, 3) := by decide +kernel
theorem dX12_row_22 : decode cX12_row 22 = .ok (.ifCond .eq 12, 3) := by decide +kernel
theorem dX12_row_25 : decode cX12_row 25 = .ok (.aload_n 0, 1) := by decide +kernel
theorem dX12_row_26 : decode cX12_row 26 = .ok (.getfield 123, 3) := by decide +kernel
theorem dX12_row_29 : decode cX12_row 29 = .ok (.bipush 12, 2) := by decide +kernel
theorem dX12_row_31 : decode cX12_row 31 = .ok (.if_icmp .ne 5, 3) := by decide +kernel
theorem dX12_row_34 : decode cX12_row 34 = .ok (.iconst (-1), 1) := by decide +kernel
theorem dX12_row_35 : decode cX12_row 35 = .ok (.ireturn, 1) := by decide +kernel
theorem dX12_row_36 : decode cX12_row 36 = .ok (.iconst 0, 1) := by decide +kernel
theorem dX12_row_37 : decode cX12_row 37 = .ok (.istore_n 3, 1) := by decide +kernel
theorem dX12_row_38 : decode cX12_row 38 = .ok (.iload_n 3, 1) := by decide +kernel
theorem dX12_row_39 : decode cX12_row 39 = .ok (.bipush 10, 2) := by decide +kernel
theorem dX12_row_41 : decode cX12_row 41 = .ok (.if_icmp .ge 36, 3) := by decide +kernel
theorem dX12_row_44 : decode cX12_row 44 = .ok (.aload_n 0, 1) := by decide +kernel
theorem dX12_row_45 : decode cX12_row 45 = .ok (.getfield 12, 3) := by decide +kernel
theorem dX12_row_48 : decode cX12_row 48 = .ok (.bipush 10, 2) := by decide +kernel
theorem dX12_row_50 : decode cX12_row 50 = .ok (.aload_n 0, 1) := by decide +kernel
theorem dX12_row_51 : decode cX12_row 51 = .ok (.getfield 123, 3) := by decide +kernel
theorem dX12_row_54 : decode cX12_row 54 = .ok (.imul, 1) := by decide +kernel
theorem dX12_row_55 : decode cX12_row 55 = .ok (.iload_n 3, 1) := by decide +kernel
theorem dX12_row_56 : decode cX12_row 56 = .ok (.iadd, 1) := by decide +kernel
theorem dX12_row_57 : decode cX12_row 57 = .ok (.aload_n 0, 1) := by decide +kernel
theorem dX12_row_58 : decode cX12_row 58 = .ok (.getfield 22, 3) := by decide +kernel
theorem dX12_row_61 : decode cX12_row 61 = .ok (.iload_n 3, 1) := by decide +kernel
theorem dX12_row_62 : decode cX12_row 62 = .ok (.iaload, 1) := by decide +kernel
theorem dX12_row_63 : decode cX12_row 63 = .ok (.iastore, 1) := by decide +kernel
theorem dX12_row_64 : decode cX12_row 64 = .ok (.aload_n 0, 1) := by decide +kernel
theorem dX12_row_65 : decode cX12_row 65 = .ok (.getfield 22, 3) := by decide +kernel
theorem dX12_row_68 : decode cX12_row 68 = .ok (.iload_n 3, 1) := by decide +kernel
theorem dX12_row_69 : decode cX12_row 69 = .ok (.iconst 0, 1) := by decide +kernel
theorem dX12_row_70 : decode cX12_row 70 = .ok (.iastore, 1) := by decide +kernel
theorem dX12_row_71 : decode cX12_row 71 = .ok (.iinc 3 1, 3) := by decide +kernel
theorem dX12_row_74 : decode cX12_row 74 = .ok (.goto (-36), 3) := by decide +kernel
theorem dX12_row_77 : decode cX12_row 77 = .ok (.aload_n 0, 1) := by decide +kernel
theorem dX12_row_78 : decode cX12_row 78 = .ok (.getfield 16, 3) := by decide +kernel
theorem dX12_row_81 : decode cX12_row 81 = .ok (.aload_n 0, 1) := by decide +kernel
theorem dX12_row_82 : decode cX12_row 82 = .ok (.getfield 123, 3) := by decide +kernel
theorem dX12_row_85 : decode cX12_row 85 = .ok (.iload_n 1, 1) := by decide +kernel
theorem dX12_row_86 : decode cX12_row 86 = .ok (.iastore, 1) := by decide +kernel
theorem dX12_row_87 : decode cX12_row 87 = .ok (.aload_n 0, 1) := by decide +kernel
theorem dX12_row_88 : decode cX12_row 88 = .ok (.getfield 19, 3) := by decide +kernel
theorem dX12_row_91 : decode cX12_row 91 = .ok (.aload_n 0, 1) := by decide +kernel
theorem dX12_row_92 : decode cX12_row 92 = .ok (.getfield 123, 3) := by decide +kernel
theorem dX12_row_95 : decode cX12_row 95 = .ok (.iload_n 2, 1) := by decide +kernel
theorem dX12_row_96 : decode cX12_row 96 = .ok (.iastore, 1) := by decide +kernel
theorem dX12_row_97 : decode cX12_row 97 = .ok (.aload_n 0, 1) := by decide +kernel
theorem dX12_row_98 : decode cX12_row 98 = .ok (.dup, 1) := by decide +kernel
theorem dX12_row_99 : decode cX12_row 99 = .ok (.getfield 123, 3) := by decide +kernel
theorem dX12_row_102 : decode cX12_row 102 = .ok (.iconst 1, 1) := by decide +kernel
theorem dX12_row_103 : decode cX12_row 103 = .ok (.iadd, 1) := by decide +kernel
theorem dX12_row_104 : decode cX12_row 104 = .ok (.putfield 123, 3) := by decide +kernel
theorem dX12_row_107 : decode cX12_row 107 = .ok (.aload_n 0, 1) := by decide +kernel
theorem dX12_row_108 : decode cX12_row 108 = .ok (.invokevirtual 126, 3) := by decide +kernel
theorem dX12_row_111 : decode cX12_row 111 = .ok (.aload_n 0, 1) := by decide +kernel
theorem dX12_row_112 : decode cX12_row 112 = .ok (.getfield 123, 3) := by decide +kernel
theorem dX12_row_115 : decode cX12_row 115 = .ok (.iconst 1, 1) := by decide +kernel
theorem dX12_row_116 : decode cX12_row 116 = .ok (.isub, 1) := by decide +kernel
theorem dX12_row_117 : decode cX12_row 117 = .ok (.ireturn, 1) := by decide +kernel
theorem dX12_whole_0 : decode cX12_whole 0 = .ok (.aload_n 0, 1) := by decide +kernel
theorem dX12_whole_1 : decode cX12_whole 1 = .ok (.iload_n 1, 1) := by decide +kernel
theorem dX12_whole_2 : decode cX12_whole 2 = .ok (.invokevirtual 129, 3) := by decide +kernel
theorem dX12_whole_5 : decode cX12_whole 5 = .ok (.ifCond .ne 5, 3) := by decide +kernel
theorem dX12_whole_8 : decode cX12_whole 8 = .ok (.iconst (-1), 1) := by decide +kernel
theorem dX12_whole_9 : decode cX12_whole 9 = .ok (.ireturn, 1) := by decide +kernel
theorem dX12_whole_10 : decode cX12_whole 10 = .ok (.aload_n 0, 1) := by decide +kernel
theorem dX12_whole_11 : decode cX12_whole 11 = .ok (.getfield 25, 3) := by decide +kernel
theorem dX12_whole_14 : decode cX12_whole 14 = .ok (.iload_n 1, 1) := by decide +kernel
theorem dX12_whole_15 : decode cX12_whole 15 = .ok (.baload, 1) := by decide +kernel
theorem dX12_whole_16 : decode cX12_whole 16 = .ok (.ifCond .eq 7, 3) := by decide +kernel
theorem dX12_whole_19 : decode cX12_whole 19 = .ok (.iconst 1, 1) := by decide +kernel
theorem dX12_whole_20 : decode cX12_whole 20 = .ok (.goto 4, 3) := by decide +kernel
theorem dX12_whole_23 : decode cX12_whole 23 = .ok (.iconst 0, 1) := by decide +kernel
theorem dX12_whole_24 : decode cX12_whole 24 = .ok (.istore_n 3, 1) := by decide +kernel
theorem dX12_whole_25 : decode cX12_whole 25 = .ok (.aload_n 0, 1) := by decide +kernel
theorem dX12_whole_26 : decode cX12_whole 26 = .ok (.getfield 25, 3) := by decide +kernel
theorem dX12_whole_29 : decode cX12_whole 29 = .ok (.iload_n 1, 1) := by decide +kernel
theorem dX12_whole_30 : decode cX12_whole 30 = .ok (.iload_n 2, 1) := by decide +kernel
theorem dX12_whole_31 : decode cX12_whole 31 = .ok (.bastore, 1) := by decide +kernel
theorem dX12_whole_32 : decode cX12_whole 32 = .ok (.aload_n 0, 1) := by decide +kernel
theorem dX12_whole_33 : decode cX12_whole 33 = .ok (.invokevirtual 126, 3) := by decide +kernel
theorem dX12_whole_36 : decode cX12_whole 36 = .ok (.iload_n 3, 1) := by decide +kernel
theorem dX12_whole_37 : decode cX12_whole 37 = .ok (.ireturn, 1) := by decide +kernel
theorem dX12_hasBound_0 : decode cX12_hasBound 0 = .ok (.iload_n 1, 1) := by decide +kernel
theorem dX12_hasBound_1 : decode cX12_hasBound 1 = .ok (.aload_n 0, 1) := by decide +kernel
theorem dX12_hasBound_2 : decode cX12_hasBound 2 = .ok (.getfield 120, 3) := by decide +kernel
theorem dX12_hasBound_5 : decode cX12_hasBound 5 = .ok (.if_icmp .ge 14, 3) := by decide +kernel
theorem dX12_hasBound_8 : decode cX12_hasBound 8 = .ok (.aload_n 0, 1) := by decide +kernel
theorem dX12_hasBound_9 : decode cX12_hasBound 9 = .ok (.getfield 29, 3) := by decide +kernel
theorem dX12_hasBound_12 : decode cX12_hasBound 12 = .ok (.iconst 2, 1) := by decide +kernel
theorem dX12_hasBound_13 : decode cX12_hasBound 13 = .ok (.iload_n 1, 1) := by decide +kernel
theorem dX12_hasBound_14 : decode cX12_hasBound 14 = .ok (.imul, 1) := by decide +kernel
theorem dX12_hasBound_15 : decode cX12_hasBound 15 = .ok (.iload_n 2, 1) := by decide +kernel
theorem dX12_hasBound_16 : decode cX12_hasBound 16 = .ok (.iadd, 1) := by decide +kernel
theorem dX12_hasBound_17 : decode cX12_hasBound 17 = .ok (.baload, 1) := by decide +kernel
theorem dX12_hasBound_18 : decode cX12_hasBound 18 = .ok (.ireturn, 1) := by decide +kernel
theorem dX12_hasBound_19 : decode cX12_hasBound 19 = .ok (.aload_n 0, 1) := by decide +kernel
theorem dX12_hasBound_20 : decode cX12_hasBound 20 = .ok (.getfield 16, 3) := by decide +kernel
theorem dX12_hasBound_23 : decode cX12_hasBound 23 = .ok (.iload_n 1, 1) := by decide +kernel
theorem dX12_hasBound_24 : decode cX12_hasBound 24 = .ok (.aload_n 0, 1) := by decide +kernel
theorem dX12_hasBound_25 : decode cX12_hasBound 25 = .ok (.getfield 120, 3) := by decide +kernel
theorem dX12_hasBound_28 : decode cX12_hasBound 28 = .ok (.isub, 1) := by decide +kernel
theorem dX12_hasBound_29 : decode cX12_hasBound 29 = .ok (.iaload, 1) := by decide +kernel
theorem dX12_hasBound_30 : decode cX12_hasBound 30 = .ok (.istore_n 3, 1) := by decide +kernel
theorem dX12_hasBound_31 : decode cX12_hasBound 31 = .ok (.iload_n 3, 1) := by decide +kernel
theorem dX12_hasBound_32 : decode cX12_hasBound 32 = .ok (.iconst 2, 1) := by decide +kernel
theorem dX12_hasBound_33 : decode cX12_hasBound 33 = .ok (.if_icmp .eq 8, 3) := by decide +kernel
theorem dX12_hasBound_36 : decode cX12_hasBound 36 = .ok (.iload_n 3, 1) := by decide +kernel
theorem dX12_hasBound_37 : decode cX12_hasBound 37 = .ok (.iload_n 2, 1) := by decide +kernel
theorem dX12_hasBound_38 : decode cX12_hasBound 38 = .ok (.if_icmp .ne 7, 3) := by decide +kernel
theorem dX12_hasBound_41 : decode cX12_hasBound 41 = .ok (.iconst 1, 1) := by decide +kernel
theorem dX12_hasBound_42 : decode cX12_hasBound 42 = .ok (.goto 4, 3) := by decide +kernel
theorem dX12_hasBound_45 : decode cX12_hasBound 45 = .ok (.iconst 0, 1) := by decide +kernel
theorem dX12_hasBound_46 : decode cX12_hasBound 46 = .ok (.ireturn, 1) := by decide +kernel
theorem dX12_bound_0 : decode cX12_bound 0 = .ok (.iload_n 1, 1) := by decide +kernel
theorem dX12_bound_1 : decode cX12_bound 1 = .ok (.aload_n 0, 1) := by decide +kernel
theorem dX12_bound_2 : decode cX12_bound 2 = .ok (.getfield 120, 3) := by decide +kernel
theorem dX12_bound_5 : decode cX12_bound 5 = .ok (.if_icmp .ge 11, 3) := by decide +kernel
theorem dX12_bound_8 : decode cX12_bound 8 = .ok (.iload_n 1, 1) := by decide +kernel
theorem dX12_bound_9 : decode cX12_bound 9 = .ok (.iload_n 2, 1) := by decide +kernel
theorem dX12_bound_10 : decode cX12_bound 10 = .ok (.invokestatic 138, 3) := by decide +kernel
theorem dX12_bound_13 : decode cX12_bound 13 = .ok (.goto 19, 3) := by decide +kernel
theorem dX12_bound_16 : decode cX12_bound 16 = .ok (.aload_n 0, 1) := by decide +kernel
theorem dX12_bound_17 : decode cX12_bound 17 = .ok (.aload_n 0, 1) := by decide +kernel
theorem dX12_bound_18 : decode cX12_bound 18 = .ok (.getfield 19, 3) := by decide +kernel
theorem dX12_bound_21 : decode cX12_bound 21 = .ok (.iload_n 1, 1) := by decide +kernel
theorem dX12_bound_22 : decode cX12_bound 22 = .ok (.aload_n 0, 1) := by decide +kernel
theorem dX12_bound_23 : decode cX12_bound 23 = .ok (.getfield 120, 3) := by decide +kernel
theorem dX12_bound_26 : decode cX12_bound 26 = .ok (.isub, 1) := by decide +kernel
theorem dX12_bound_27 : decode cX12_bound 27 = .ok (.iaload, 1) := by decide +kernel
theorem dX12_bound_28 : decode cX12_bound 28 = .ok (.i2l, 1) := by decide +kernel
theorem dX12_bound_29 : decode cX12_bound 29 = .ok (.invokevirtual 88, 3) := by decide +kernel
theorem dX12_bound_32 : decode cX12_bound 32 = .ok (.ireturn, 1) := by decide +kernel
theorem dX12_rowOf_0 : decode cX12_rowOf 0 = .ok (.iconst 0, 1) := by decide +kernel
theorem dX12_rowOf_1 : decode cX12_rowOf 1 = .ok (.istore_n 2, 1) := by decide +kernel
theorem dX12_rowOf_2 : decode cX12_rowOf 2 = .ok (.iload_n 2, 1) := by decide +kernel
theorem dX12_rowOf_3 : decode cX12_rowOf 3 = .ok (.aload_n 0, 1) := by decide +kernel
theorem dX12_rowOf_4 : decode cX12_rowOf 4 = .ok (.getfield 123, 3) := by decide +kernel
theorem dX12_rowOf_7 : decode cX12_rowOf 7 = .ok (.if_icmp .ge 21, 3) := by decide +kernel
theorem dX12_rowOf_10 : decode cX12_rowOf 10 = .ok (.aload_n 0, 1) := by decide +kernel
theorem dX12_rowOf_11 : decode cX12_rowOf 11 = .ok (.getfield 32, 3) := by decide +kernel
theorem dX12_rowOf_14 : decode cX12_rowOf 14 = .ok (.iload_n 2, 1) := by decide +kernel
theorem dX12_rowOf_15 : decode cX12_rowOf 15 = .ok (.iaload, 1) := by decide +kernel
theorem dX12_rowOf_16 : decode cX12_rowOf 16 = .ok (.iload_n 1, 1) := by decide +kernel
theorem dX12_rowOf_17 : decode cX12_rowOf 17 = .ok (.if_icmp .ne 5, 3) := by decide +kernel
theorem dX12_rowOf_20 : decode cX12_rowOf 20 = .ok (.iload_n 2, 1) := by decide +kernel
theorem dX12_rowOf_21 : decode cX12_rowOf 21 = .ok (.ireturn, 1) := by decide +kernel
theorem dX12_rowOf_22 : decode cX12_rowOf 22 = .ok (.iinc 2 1, 3) := by decide +kernel
theorem dX12_rowOf_25 : decode cX12_rowOf 25 = .ok (.goto (-23), 3) := by decide +kernel
theorem dX12_rowOf_28 : decode cX12_rowOf 28 = .ok (.iconst (-1), 1) := by decide +kernel
theorem dX12_rowOf_29 : decode cX12_rowOf 29 = .ok (.ireturn, 1) := by decide +kernel
theorem dX12_columnAt_0 : decode cX12_columnAt 0 = .ok (.iconst 0, 1) := by decide +kernel
theorem dX12_columnAt_1 : decode cX12_columnAt 1 = .ok (.istore_n 2, 1) := by decide +kernel
theorem dX12_columnAt_2 : decode cX12_columnAt 2 = .ok (.iload_n 2, 1) := by decide +kernel
theorem dX12_columnAt_3 : decode cX12_columnAt 3 = .ok (.aload_n 0, 1) := by decide +kernel
theorem dX12_columnAt_4 : decode cX12_columnAt 4 = .ok (.getfield 120, 3) := by decide +kernel
theorem dX12_columnAt_7 : decode cX12_columnAt 7 = .ok (.if_icmp .ge 21, 3) := by decide +kernel
theorem dX12_columnAt_10 : decode cX12_columnAt 10 = .ok (.aload_n 0, 1) := by decide +kernel
theorem dX12_columnAt_11 : decode cX12_columnAt 11 = .ok (.getfield 35, 3) := by decide +kernel
theorem dX12_columnAt_14 : decode cX12_columnAt 14 = .ok (.iload_n 2, 1) := by decide +kernel
theorem dX12_columnAt_15 : decode cX12_columnAt 15 = .ok (.iaload, 1) := by decide +kernel
theorem dX12_columnAt_16 : decode cX12_columnAt 16 = .ok (.iload_n 1, 1) := by decide +kernel
theorem dX12_columnAt_17 : decode cX12_columnAt 17 = .ok (.if_icmp .ne 5, 3) := by decide +kernel
theorem dX12_columnAt_20 : decode cX12_columnAt 20 = .ok (.iload_n 2, 1) := by decide +kernel
theorem dX12_columnAt_21 : decode cX12_columnAt 21 = .ok (.ireturn, 1) := by decide +kernel
theorem dX12_columnAt_22 : decode cX12_columnAt 22 = .ok (.iinc 2 1, 3) := by decide +kernel
theorem dX12_columnAt_25 : decode cX12_columnAt 25 = .ok (.goto (-23), 3) := by decide +kernel
theorem dX12_columnAt_28 : decode cX12_columnAt 28 = .ok (.iconst (-1), 1) := by decide +kernel
theorem dX12_columnAt_29 : decode cX12_columnAt 29 = .ok (.ireturn, 1) := by decide +kernel
theorem dX12_sumOf_0 : decode cX12_sumOf 0 = .ok (.aload_n 0, 1) := by decide +kernel
theorem dX12_sumOf_1 : decode cX12_sumOf 1 = .ok (.getfield 76, 3) := by decide +kernel
theorem dX12_sumOf_4 : decode cX12_sumOf 4 = .ok (.istore_n 2, 1) := by decide +kernel
theorem dX12_sumOf_5 : decode cX12_sumOf 5 = .ok (.aload_n 0, 1) := by decide +kernel
theorem dX12_sumOf_6 : decode cX12_sumOf 6 = .ok (.lconst 0, 1) := by decide +kernel
theorem dX12_sumOf_7 : decode cX12_sumOf 7 = .ok (.invokevirtual 88, 3) := by decide +kernel
theorem dX12_sumOf_10 : decode cX12_sumOf 10 = .ok (.istore_n 3, 1) := by decide +kernel
theorem dX12_sumOf_11 : decode cX12_sumOf 11 = .ok (.iconst 0, 1) := by decide +kernel
theorem dX12_sumOf_12 : decode cX12_sumOf 12 = .ok (.istore 4, 2) := by decide +kernel
theorem dX12_sumOf_14 : decode cX12_sumOf 14 = .ok (.iload 4, 2) := by decide +kernel
theorem dX12_sumOf_16 : decode cX12_sumOf 16 = .ok (.aload_n 0, 1) := by decide +kernel
theorem dX12_sumOf_17 : decode cX12_sumOf 17 = .ok (.getfield 120, 3) := by decide +kernel
theorem dX12_sumOf_20 : decode cX12_sumOf 20 = .ok (.if_icmp .ge 40, 3) := by decide +kernel
theorem dX12_sumOf_23 : decode cX12_sumOf 23 = .ok (.aload_n 0, 1) := by decide +kernel
theorem dX12_sumOf_24 : decode cX12_sumOf 24 = .ok (.iload_n 2, 1) := by decide +kernel
theorem dX12_sumOf_25 : decode cX12_sumOf 25 = .ok (.aload_n 0, 1) := by decide +kernel
theorem dX12_sumOf_26 : decode cX12_sumOf 26 = .ok (.iload_n 3, 1) := by decide +kernel
theorem dX12_sumOf_27 : decode cX12_sumOf 27 = .ok (.aload_n 0, 1) := by decide +kernel
theorem dX12_sumOf_28 : decode cX12_sumOf 28 = .ok (.iload_n 1, 1) := by decide +kernel
theorem dX12_sumOf_29 : decode cX12_sumOf 29 = .ok (.iload 4, 2) := by decide +kernel
theorem dX12_sumOf_31 : decode cX12_sumOf 31 = .ok (.invokestatic 141, 3) := by decide +kernel
theorem dX12_sumOf_34 : decode cX12_sumOf 34 = .ok (.aload_n 0, 1) := by decide +kernel
theorem dX12_sumOf_35 : decode cX12_sumOf 35 = .ok (.getfield 35, 3) := by decide +kernel
theorem dX12_sumOf_38 : decode cX12_sumOf 38 = .ok (.iload 4, 2) := by decide +kernel
theorem dX12_sumOf_40 : decode cX12_sumOf 40 = .ok (.iaload, 1) := by decide +kernel
theorem dX12_sumOf_41 : decode cX12_sumOf 41 = .ok (.invokestatic 144, 3) := by decide +kernel
theorem dX12_sumOf_44 : decode cX12_sumOf 44 = .ok (.invokevirtual 148, 3) := by decide +kernel
theorem dX12_sumOf_47 : decode cX12_sumOf 47 = .ok (.invokevirtual 151, 3) := by decide +kernel
theorem dX12_sumOf_50 : decode cX12_sumOf 50 = .ok (.invokevirtual 154, 3) := by decide +kernel
theorem dX12_sumOf_53 : decode cX12_sumOf 53 = .ok (.istore_n 3, 1) := by decide +kernel
theorem dX12_sumOf_54 : decode cX12_sumOf 54 = .ok (.iinc 4 1, 3) := by decide +kernel
theorem dX12_sumOf_57 : decode cX12_sumOf 57 = .ok (.goto (-43), 3) := by decide +kernel
theorem dX12_sumOf_60 : decode cX12_sumOf 60 = .ok (.iload_n 3, 1) := by decide +kernel
theorem dX12_sumOf_61 : decode cX12_sumOf 61 = .ok (.ireturn, 1) := by decide +kernel
theorem dX12_againstBound_0 : decode cX12_againstBound 0 = .ok (.aload_n 0, 1) := by decide +kernel
theorem dX12_againstBound_1 : decode cX12_againstBound 1 = .ok (.getfield 76, 3) := by decide +kernel
theorem dX12_againstBound_4 : decode cX12_againstBound 4 = .ok (.istore_n 3, 1) := by decide +kernel
theorem dX12_againstBound_5 : decode cX12_againstBound 5 = .ok (.aload_n 0, 1) := by decide +kernel
theorem dX12_againstBound_6 : decode cX12_againstBound 6 = .ok (.aload_n 0, 1) := by decide +kernel
theorem dX12_againstBound_7 : decode cX12_againstBound 7 = .ok (.iload_n 1, 1) := by decide +kernel
theorem dX12_againstBound_8 : decode cX12_againstBound 8 = .ok (.invokevirtual 157, 3) := by decide +kernel
theorem dX12_againstBound_11 : decode cX12_againstBound 11 = .ok (.aload_n 0, 1) := by decide +kernel
theorem dX12_againstBound_12 : decode cX12_againstBound 12 = .ok (.aload_n 0, 1) := by decide +kernel
theorem dX12_againstBound_13 : decode cX12_againstBound 13 = .ok (.aload_n 0, 1) := by decide +kernel
theorem dX12_againstBound_14 : decode cX12_againstBound 14 = .ok (.getfield 32, 3) := by decide +kernel
theorem dX12_againstBound_17 : decode cX12_againstBound 17 = .ok (.iload_n 1, 1) := by decide +kernel
theorem dX12_againstBound_18 : decode cX12_againstBound 18 = .ok (.iaload, 1) := by decide +kernel
theorem dX12_againstBound_19 : decode cX12_againstBound 19 = .ok (.iload_n 2, 1) := by decide +kernel
theorem dX12_againstBound_20 : decode cX12_againstBound 20 = .ok (.invokevirtual 160, 3) := by decide +kernel
theorem dX12_againstBound_23 : decode cX12_againstBound 23 = .ok (.iconst 0, 1) := by decide +kernel
theorem dX12_againstBound_24 : decode cX12_againstBound 24 = .ok (.invokevirtual 148, 3) := by decide +kernel
theorem dX12_againstBound_27 : decode cX12_againstBound 27 = .ok (.invokevirtual 163, 3) := by decide +kernel
theorem dX12_againstBound_30 : decode cX12_againstBound 30 = .ok (.istore 4, 2) := by decide +kernel
theorem dX12_againstBound_32 : decode cX12_againstBound 32 = .ok (.aload_n 0, 1) := by decide +kernel
theorem dX12_againstBound_33 : decode cX12_againstBound 33 = .ok (.iload_n 3, 1) := by decide +kernel
theorem dX12_againstBound_34 : decode cX12_againstBound 34 = .ok (.putfield 76, 3) := by decide +kernel
theorem dX12_againstBound_37 : decode cX12_againstBound 37 = .ok (.iload 4, 2) := by decide +kernel
theorem dX12_againstBound_39 : decode cX12_againstBound 39 = .ok (.ireturn, 1) := by decide +kernel
theorem dX12_begin_0 : decode cX12_begin 0 = .ok (.aload_n 0, 1) := by decide +kernel
theorem dX12_begin_1 : decode cX12_begin 1 = .ok (.iconst 1, 1) := by decide +kernel
theorem dX12_begin_2 : decode cX12_begin 2 = .ok (.putfield 96, 3) := by decide +kernel
theorem dX12_begin_5 : decode cX12_begin 5 = .ok (.iconst 0, 1) := by decide +kernel
theorem dX12_begin_6 : decode cX12_begin 6 = .ok (.istore_n 1, 1) := by decide +kernel
theorem dX12_begin_7 : decode cX12_begin 7 = .ok (.iload_n 1, 1) := by decide +kernel
theorem dX12_begin_8 : decode cX12_begin 8 = .ok (.aload_n 0, 1) := by decide +kernel
theorem dX12_begin_9 : decode cX12_begin 9 = .ok (.getfield 120, 3) := by decide +kernel
theorem dX12_begin_12 : decode cX12_begin 12 = .ok (.if_icmp .ge 45, 3) := by decide +kernel
theorem dX12_begin_15 : decode cX12_begin 15 = .ok (.aload_n 0, 1) := by decide +kernel
theorem dX12_begin_16 : decode cX12_begin 16 = .ok (.getfield 35, 3) := by decide +kernel
theorem dX12_begin_19 : decode cX12_begin 19 = .ok (.iload_n 1, 1) := by decide +kernel
theorem dX12_begin_20 : decode cX12_begin 20 = .ok (.iload_n 1, 1) := by decide +kernel
theorem dX12_begin_21 : decode cX12_begin 21 = .ok (.iastore, 1) := by decide +kernel
theorem dX12_begin_22 : decode cX12_begin 22 = .ok (.aload_n 0, 1) := by decide +kernel
theorem dX12_begin_23 : decode cX12_begin 23 = .ok (.iload_n 1, 1) := by decide +kernel
theorem dX12_begin_24 : decode cX12_begin 24 = .ok (.invokestatic 144, 3) := by decide +kernel
theorem dX12_begin_27 : decode cX12_begin 27 = .ok (.lconst 0, 1) := by decide +kernel
theorem dX12_begin_28 : decode cX12_begin 28 = .ok (.invokevirtual 84, 3) := by decide +kernel
theorem dX12_begin_31 : decode cX12_begin 31 = .ok (.aload_n 0, 1) := by decide +kernel
theorem dX12_begin_32 : decode cX12_begin 32 = .ok (.getfield 29, 3) := by decide +kernel
theorem dX12_begin_35 : decode cX12_begin 35 = .ok (.iconst 2, 1) := by decide +kernel
theorem dX12_begin_36 : decode cX12_begin 36 = .ok (.iload_n 1, 1) := by decide +kernel
theorem dX12_begin_37 : decode cX12_begin 37 = .ok (.imul, 1) := by decide +kernel
theorem dX12_begin_38 : decode cX12_begin 38 = .ok (.iconst 0, 1) := by decide +kernel
theorem dX12_begin_39 : decode cX12_begin 39 = .ok (.bastore, 1) := by decide +kernel
theorem dX12_begin_40 : decode cX12_begin 40 = .ok (.aload_n 0, 1) := by decide +kernel
theorem dX12_begin_41 : decode cX12_begin 41 = .ok (.getfield 29, 3) := by decide +kernel
theorem dX12_begin_44 : decode cX12_begin 44 = .ok (.iconst 2, 1) := by decide +kernel
theorem dX12_begin_45 : decode cX12_begin 45 = .ok (.iload_n 1, 1) := by decide +kernel
theorem dX12_begin_46 : decode cX12_begin 46 = .ok (.imul, 1) := by decide +kernel
theorem dX12_begin_47 : decode cX12_begin 47 = .ok (.iconst 1, 1) := by decide +kernel
theorem dX12_begin_48 : decode cX12_begin 48 = .ok (.iadd, 1) := by decide +kernel
theorem dX12_begin_49 : decode cX12_begin 49 = .ok (.iconst 0, 1) := by decide +kernel
theorem dX12_begin_50 : decode cX12_begin 50 = .ok (.bastore, 1) := by decide +kernel
theorem dX12_begin_51 : decode cX12_begin 51 = .ok (.iinc 1 1, 3) := by decide +kernel
theorem dX12_begin_54 : decode cX12_begin 54 = .ok (.goto (-47), 3) := by decide +kernel
theorem dX12_begin_57 : decode cX12_begin 57 = .ok (.aload_n 0, 1) := by decide +kernel
theorem dX12_begin_58 : decode cX12_begin 58 = .ok (.iconst 0, 1) := by decide +kernel
theorem dX12_begin_59 : decode cX12_begin 59 = .ok (.lconst 1, 1) := by decide +kernel
theorem dX12_begin_60 : decode cX12_begin 60 = .ok (.invokevirtual 84, 3) := by decide +kernel
theorem dX12_begin_63 : decode cX12_begin 63 = .ok (.iconst 0, 1) := by decide +kernel
theorem dX12_begin_64 : decode cX12_begin 64 = .ok (.istore_n 1, 1) := by decide +kernel
theorem dX12_begin_65 : decode cX12_begin 65 = .ok (.iload_n 1, 1) := by decide +kernel
theorem dX12_begin_66 : decode cX12_begin 66 = .ok (.aload_n 0, 1) := by decide +kernel
theorem dX12_begin_67 : decode cX12_begin 67 = .ok (.getfield 123, 3) := by decide +kernel
theorem dX12_begin_70 : decode cX12_begin 70 = .ok (.if_icmp .ge 58, 3) := by decide +kernel
theorem dX12_begin_73 : decode cX12_begin 73 = .ok (.aload_n 0, 1) := by decide +kernel
theorem dX12_begin_74 : decode cX12_begin 74 = .ok (.getfield 32, 3) := by decide +kernel
theorem dX12_begin_77 : decode cX12_begin 77 = .ok (.iload_n 1, 1) := by decide +kernel
theorem dX12_begin_78 : decode cX12_begin 78 = .ok (.aload_n 0, 1) := by decide +kernel
theorem dX12_begin_79 : decode cX12_begin 79 = .ok (.getfield 120, 3) := by decide +kernel
theorem dX12_begin_82 : decode cX12_begin 82 = .ok (.iload_n 1, 1) := by decide +kernel
theorem dX12_begin_83 : decode cX12_begin 83 = .ok (.iadd, 1) := by decide +kernel
theorem dX12_begin_84 : decode cX12_begin 84 = .ok (.iastore, 1) := by decide +kernel
theorem dX12_begin_85 : decode cX12_begin 85 = .ok (.iconst 0, 1) := by decide +kernel
theorem dX12_begin_86 : decode cX12_begin 86 = .ok (.istore_n 2, 1) := by decide +kernel
theorem dX12_begin_87 : decode cX12_begin 87 = .ok (.iload_n 2, 1) := by decide +kernel
theorem dX12_begin_88 : decode cX12_begin 88 = .ok (.aload_n 0, 1) := by decide +kernel
theorem dX12_begin_89 : decode cX12_begin 89 = .ok (.getfield 120, 3) := by decide +kernel
theorem dX12_begin_92 : decode cX12_begin 92 = .ok (.if_icmp .ge 30, 3) := by decide +kernel
theorem dX12_begin_95 : decode cX12_begin 95 = .ok (.aload_n 0, 1) := by decide +kernel
theorem dX12_begin_96 : decode cX12_begin 96 = .ok (.iload_n 1, 1) := by decide +kernel
theorem dX12_begin_97 : decode cX12_begin 97 = .ok (.iload_n 2, 1) := by decide +kernel
theorem dX12_begin_98 : decode cX12_begin 98 = .ok (.invokestatic 141, 3) := by decide +kernel
theorem dX12_begin_101 : decode cX12_begin 101 = .ok (.aload_n 0, 1) := by decide +kernel
theorem dX12_begin_102 : decode cX12_begin 102 = .ok (.getfield 12, 3) := by decide +kernel
theorem dX12_begin_105 : decode cX12_begin 105 = .ok (.bipush 10, 2) := by decide +kernel
theorem dX12_begin_107 : decode cX12_begin 107 = .ok (.iload_n 1, 1) := by decide +kernel
theorem dX12_begin_108 : decode cX12_begin 108 = .ok (.imul, 1) := by decide +kernel
theorem dX12_begin_109 : decode cX12_begin 109 = .ok (.iload_n 2, 1) := by decide +kernel
theorem dX12_begin_110 : decode cX12_begin 110 = .ok (.iadd, 1) := by decide +kernel
theorem dX12_begin_111 : decode cX12_begin 111 = .ok (.iaload, 1) := by decide +kernel
theorem dX12_begin_112 : decode cX12_begin 112 = .ok (.i2l, 1) := by decide +kernel
theorem dX12_begin_113 : decode cX12_begin 113 = .ok (.invokevirtual 84, 3) := by decide +kernel
theorem dX12_begin_116 : decode cX12_begin 116 = .ok (.iinc 2 1, 3) := by decide +kernel
theorem dX12_begin_119 : decode cX12_begin 119 = .ok (.goto (-32), 3) := by decide +kernel
theorem dX12_begin_122 : decode cX12_begin 122 = .ok (.iinc 1 1, 3) := by decide +kernel
theorem dX12_begin_125 : decode cX12_begin 125 = .ok (.goto (-60), 3) := by decide +kernel
theorem dX12_begin_128 : decode cX12_begin 128 = .ok (.aload_n 0, 1) := by decide +kernel
theorem dX12_begin_129 : decode cX12_begin 129 = .ok (.aload_n 0, 1) := by decide +kernel
theorem dX12_begin_130 : decode cX12_begin 130 = .ok (.bipush (-2), 2) := by decide +kernel
theorem dX12_begin_132 : decode cX12_begin 132 = .ok (.invokevirtual 166, 3) := by decide +kernel
theorem dX12_begin_135 : decode cX12_begin 135 = .ok (.putfield 169, 3) := by decide +kernel
theorem dX12_begin_138 : decode cX12_begin 138 = .ok (.return_, 1) := by decide +kernel
theorem dX12_newNode_0 : decode cX12_newNode 0 = .ok (.aload_n 0, 1) := by decide +kernel
theorem dX12_newNode_1 : decode cX12_newNode 1 = .ok (.getfield 111, 3) := by decide +kernel
theorem dX12_newNode_4 : decode cX12_newNode 4 = .ok (.istore_n 2, 1) := by decide +kernel
theorem dX12_newNode_5 : decode cX12_newNode 5 = .ok (.aload_n 0, 1) := by decide +kernel
theorem dX12_newNode_6 : decode cX12_newNode 6 = .ok (.dup, 1) := by decide +kernel
theorem dX12_newNode_7 : decode cX12_newNode 7 = .ok (.getfield 111, 3) := by decide +kernel
theorem dX12_newNode_10 : decode cX12_newNode 10 = .ok (.iconst 1, 1) := by decide +kernel
theorem dX12_newNode_11 : decode cX12_newNode 11 = .ok (.iadd, 1) := by decide +kernel
theorem dX12_newNode_12 : decode cX12_newNode 12 = .ok (.putfield 111, 3) := by decide +kernel
theorem dX12_newNode_15 : decode cX12_newNode 15 = .ok (.aload_n 0, 1) := by decide +kernel
theorem dX12_newNode_16 : decode cX12_newNode 16 = .ok (.getfield 38, 3) := by decide +kernel
theorem dX12_newNode_19 : decode cX12_newNode 19 = .ok (.iload_n 2, 1) := by decide +kernel
theorem dX12_newNode_20 : decode cX12_newNode 20 = .ok (.iconst 0, 1) := by decide +kernel
theorem dX12_newNode_21 : decode cX12_newNode 21 = .ok (.bastore, 1) := by decide +kernel
theorem dX12_newNode_22 : decode cX12_newNode 22 = .ok (.aload_n 0, 1) := by decide +kernel
theorem dX12_newNode_23 : decode cX12_newNode 23 = .ok (.getfield 41, 3) := by decide +kernel
theorem dX12_newNode_26 : decode cX12_newNode 26 = .ok (.iload_n 2, 1) := by decide +kernel
theorem dX12_newNode_27 : decode cX12_newNode 27 = .ok (.iconst 0, 1) := by decide +kernel
theorem dX12_newNode_28 : decode cX12_newNode 28 = .ok (.bastore, 1) := by decide +kernel
theorem dX12_newNode_29 : decode cX12_newNode 29 = .ok (.aload_n 0, 1) := by decide +kernel
theorem dX12_newNode_30 : decode cX12_newNode 30 = .ok (.getfield 47, 3) := by decide +kernel
theorem dX12_newNode_33 : decode cX12_newNode 33 = .ok (.iload_n 2, 1) := by decide +kernel
theorem dX12_newNode_34 : decode cX12_newNode 34 = .ok (.bipush (-2), 2) := by decide +kernel
theorem dX12_newNode_36 : decode cX12_newNode 36 = .ok (.iastore, 1) := by decide +kernel
theorem dX12_newNode_37 : decode cX12_newNode 37 = .ok (.aload_n 0, 1) := by decide +kernel
theorem dX12_newNode_38 : decode cX12_newNode 38 = .ok (.getfield 50, 3) := by decide +kernel
theorem dX12_newNode_41 : decode cX12_newNode 41 = .ok (.iload_n 2, 1) := by decide +kernel
theorem dX12_newNode_42 : decode cX12_newNode 42 = .ok (.bipush (-2), 2) := by decide +kernel
theorem dX12_newNode_44 : decode cX12_newNode 44 = .ok (.iastore, 1) := by decide +kernel
theorem dX12_newNode_45 : decode cX12_newNode 45 = .ok (.aload_n 0, 1) := by decide +kernel
theorem dX12_newNode_46 : decode cX12_newNode 46 = .ok (.getfield 53, 3) := by decide +kernel
theorem dX12_newNode_49 : decode cX12_newNode 49 = .ok (.iload_n 2, 1) := by decide +kernel
theorem dX12_newNode_50 : decode cX12_newNode 50 = .ok (.iload_n 1, 1) := by decide +kernel
theorem dX12_newNode_51 : decode cX12_newNode 51 = .ok (.iastore, 1) := by decide +kernel
theorem dX12_newNode_52 : decode cX12_newNode 52 = .ok (.aload_n 0, 1) := by decide +kernel
theorem dX12_newNode_53 : decode cX12_newNode 53 = .ok (.getfield 56, 3) := by decide +kernel
theorem dX12_newNode_56 : decode cX12_newNode 56 = .ok (.iload_n 2, 1) := by decide +kernel
theorem dX12_newNode_57 : decode cX12_newNode 57 = .ok (.aload_n 0, 1) := by decide +kernel
theorem dX12_newNode_58 : decode cX12_newNode 58 = .ok (.getfield 114, 3) := by decide +kernel
theorem dX12_newNode_61 : decode cX12_newNode 61 = .ok (.sipush 152, 3) := by decide +kernel
theorem dX12_newNode_64 : decode cX12_newNode 64 = .ok (.irem, 1) := by decide +kernel
theorem dX12_newNode_65 : decode cX12_newNode 65 = .ok (.iastore, 1) := by decide +kernel
theorem dX12_newNode_66 : decode cX12_newNode 66 = .ok (.aload_n 0, 1) := by decide +kernel
theorem dX12_newNode_67 : decode cX12_newNode 67 = .ok (.dup, 1) := by decide +kernel
theorem dX12_newNode_68 : decode cX12_newNode 68 = .ok (.getfield 114, 3) := by decide +kernel
theorem dX12_newNode_71 : decode cX12_newNode 71 = .ok (.iconst 1, 1) := by decide +kernel
theorem dX12_newNode_72 : decode cX12_newNode 72 = .ok (.iadd, 1) := by decide +kernel
theorem dX12_newNode_73 : decode cX12_newNode 73 = .ok (.putfield 114, 3) := by decide +kernel
theorem dX12_newNode_76 : decode cX12_newNode 76 = .ok (.iconst 0, 1) := by decide +kernel
theorem dX12_newNode_77 : decode cX12_newNode 77 = .ok (.istore_n 3, 1) := by decide +kernel
theorem dX12_newNode_78 : decode cX12_newNode 78 = .ok (.iload_n 3, 1) := by decide +kernel
theorem dX12_newNode_79 : decode cX12_newNode 79 = .ok (.bipush 32, 2) := by decide +kernel
theorem dX12_newNode_81 : decode cX12_newNode 81 = .ok (.if_icmp .ge 41, 3) := by decide +kernel
theorem dX12_newNode_84 : decode cX12_newNode 84 = .ok (.aload_n 0, 1) := by decide +kernel
theorem dX12_newNode_85 : decode cX12_newNode 85 = .ok (.aload_n 0, 1) := by decide +kernel
theorem dX12_newNode_86 : decode cX12_newNode 86 = .ok (.getfield 56, 3) := by decide +kernel
theorem dX12_newNode_89 : decode cX12_newNode 89 = .ok (.iload_n 2, 1) := by decide +kernel
theorem dX12_newNode_90 : decode cX12_newNode 90 = .ok (.iaload, 1) := by decide +kernel
theorem dX12_newNode_91 : decode cX12_newNode 91 = .ok (.iload_n 3, 1) := by decide +kernel
theorem dX12_newNode_92 : decode cX12_newNode 92 = .ok (.iconst 0, 1) := by decide +kernel
theorem dX12_newNode_93 : decode cX12_newNode 93 = .ok (.invokestatic 172, 3) := by decide +kernel
theorem dX12_newNode_96 : decode cX12_newNode 96 = .ok (.lconst 0, 1) := by decide +kernel
theorem dX12_newNode_97 : decode cX12_newNode 97 = .ok (.invokevirtual 84, 3) := by decide +kernel
theorem dX12_newNode_100 : decode cX12_newNode 100 = .ok (.aload_n 0, 1) := by decide +kernel
theorem dX12_newNode_101 : decode cX12_newNode 101 = .ok (.aload_n 0, 1) := by decide +kernel
theorem dX12_newNode_102 : decode cX12_newNode 102 = .ok (.getfield 56, 3) := by decide +kernel
theorem dX12_newNode_105 : decode cX12_newNode 105 = .ok (.iload_n 2, 1) := by decide +kernel
theorem dX12_newNode_106 : decode cX12_newNode 106 = .ok (.iaload, 1) := by decide +kernel
theorem dX12_newNode_107 : decode cX12_newNode 107 = .ok (.iload_n 3, 1) := by decide +kernel
theorem dX12_newNode_108 : decode cX12_newNode 108 = .ok (.iconst 1, 1) := by decide +kernel
theorem dX12_newNode_109 : decode cX12_newNode 109 = .ok (.invokestatic 172, 3) := by decide +kernel
theorem dX12_newNode_112 : decode cX12_newNode 112 = .ok (.lconst 1, 1) := by decide +kernel
theorem dX12_newNode_113 : decode cX12_newNode 113 = .ok (.invokevirtual 84, 3) := by decide +kernel
theorem dX12_newNode_116 : decode cX12_newNode 116 = .ok (.iinc 3 1, 3) := by decide +kernel
theorem dX12_newNode_119 : decode cX12_newNode 119 = .ok (.goto (-41), 3) := by decide +kernel
theorem dX12_newNode_122 : decode cX12_newNode 122 = .ok (.iload_n 2, 1) := by decide +kernel
theorem dX12_newNode_123 : decode cX12_newNode 123 = .ok (.ireturn, 1) := by decide +kernel
theorem dX12_wrongRow_0 : decode cX12_wrongRow 0 = .ok (.iconst 0, 1) := by decide +kernel
theorem dX12_wrongRow_1 : decode cX12_wrongRow 1 = .ok (.istore_n 1, 1) := by decide +kernel
theorem dX12_wrongRow_2 : decode cX12_wrongRow 2 = .ok (.iload_n 1, 1) := by decide +kernel
theorem dX12_wrongRow_3 : decode cX12_wrongRow 3 = .ok (.aload_n 0, 1) := by decide +kernel
theorem dX12_wrongRow_4 : decode cX12_wrongRow 4 = .ok (.getfield 120, 3) := by decide +kernel
theorem dX12_wrongRow_7 : decode cX12_wrongRow 7 = .ok (.aload_n 0, 1) := by decide +kernel
theorem dX12_wrongRow_8 : decode cX12_wrongRow 8 = .ok (.getfield 123, 3) := by decide +kernel
theorem dX12_wrongRow_11 : decode cX12_wrongRow 11 = .ok (.iadd, 1) := by decide +kernel
theorem dX12_wrongRow_12 : decode cX12_wrongRow 12 = .ok (.if_icmp .ge 70, 3) := by decide +kernel
theorem dX12_wrongRow_15 : decode cX12_wrongRow 15 = .ok (.aload_n 0, 1) := by decide +kernel
theorem dX12_wrongRow_16 : decode cX12_wrongRow 16 = .ok (.iload_n 1, 1) := by decide +kernel
theorem dX12_wrongRow_17 : decode cX12_wrongRow 17 = .ok (.invokevirtual 176, 3) := by decide +kernel
theorem dX12_wrongRow_20 : decode cX12_wrongRow 20 = .ok (.istore_n 2, 1) := by decide +kernel
theorem dX12_wrongRow_21 : decode cX12_wrongRow 21 = .ok (.iload_n 2, 1) := by decide +kernel
theorem dX12_wrongRow_22 : decode cX12_wrongRow 22 = .ok (.iconst (-1), 1) := by decide +kernel
theorem dX12_wrongRow_23 : decode cX12_wrongRow 23 = .ok (.if_icmp .eq 53, 3) := by decide +kernel
theorem dX12_wrongRow_26 : decode cX12_wrongRow 26 = .ok (.aload_n 0, 1) := by decide +kernel
theorem dX12_wrongRow_27 : decode cX12_wrongRow 27 = .ok (.iload_n 1, 1) := by decide +kernel
theorem dX12_wrongRow_28 : decode cX12_wrongRow 28 = .ok (.iconst 1, 1) := by decide +kernel
theorem dX12_wrongRow_29 : decode cX12_wrongRow 29 = .ok (.invokevirtual 179, 3) := by decide +kernel
theorem dX12_wrongRow_32 : decode cX12_wrongRow 32 = .ok (.ifCond .eq 19, 3) := by decide +kernel
theorem dX12_wrongRow_35 : decode cX12_wrongRow 35 = .ok (.aload_n 0, 1) := by decide +kernel
theorem dX12_wrongRow_36 : decode cX12_wrongRow 36 = .ok (.iload_n 2, 1) := by decide +kernel
theorem dX12_wrongRow_37 : decode cX12_wrongRow 37 = .ok (.iconst 1, 1) := by decide +kernel
theorem dX12_wrongRow_38 : decode cX12_wrongRow 38 = .ok (.invokevirtual 182, 3) := by decide +kernel
theorem dX12_wrongRow_41 : decode cX12_wrongRow 41 = .ok (.ifCond .ge 10, 3) := by decide +kernel
theorem dX12_wrongRow_44 : decode cX12_wrongRow 44 = .ok (.aload_n 0, 1) := by decide +kernel
theorem dX12_wrongRow_45 : decode cX12_wrongRow 45 = .ok (.iconst 1, 1) := by decide +kernel
theorem dX12_wrongRow_46 : decode cX12_wrongRow 46 = .ok (.putfield 185, 3) := by decide +kernel
theorem dX12_wrongRow_49 : decode cX12_wrongRow 49 = .ok (.iload_n 2, 1) := by decide +kernel
theorem dX12_wrongRow_50 : decode cX12_wrongRow 50 = .ok (.ireturn, 1) := by decide +kernel
theorem dX12_wrongRow_51 : decode cX12_wrongRow 51 = .ok (.aload_n 0, 1) := by decide +kernel
theorem dX12_wrongRow_52 : decode cX12_wrongRow 52 = .ok (.iload_n 1, 1) := by decide +kernel
theorem dX12_wrongRow_53 : decode cX12_wrongRow 53 = .ok (.iconst 0, 1) := by decide +kernel
theorem dX12_wrongRow_54 : decode cX12_wrongRow 54 = .ok (.invokevirtual 179, 3) := by decide +kernel
theorem dX12_wrongRow_57 : decode cX12_wrongRow 57 = .ok (.ifCond .eq 19, 3) := by decide +kernel
theorem dX12_wrongRow_60 : decode cX12_wrongRow 60 = .ok (.aload_n 0, 1) := by decide +kernel
theorem dX12_wrongRow_61 : decode cX12_wrongRow 61 = .ok (.iload_n 2, 1) := by decide +kernel
theorem dX12_wrongRow_62 : decode cX12_wrongRow 62 = .ok (.iconst 0, 1) := by decide +kernel
theorem dX12_wrongRow_63 : decode cX12_wrongRow 63 = .ok (.invokevirtual 182, 3) := by decide +kernel
theorem dX12_wrongRow_66 : decode cX12_wrongRow 66 = .ok (.ifCond .le 10, 3) := by decide +kernel
theorem dX12_wrongRow_69 : decode cX12_wrongRow 69 = .ok (.aload_n 0, 1) := by decide +kernel
theorem dX12_wrongRow_70 : decode cX12_wrongRow 70 = .ok (.iconst 0, 1) := by decide +kernel
theorem dX12_wrongRow_71 : decode cX12_wrongRow 71 = .ok (.putfield 185, 3) := by decide +kernel
theorem dX12_wrongRow_74 : decode cX12_wrongRow 74 = .ok (.iload_n 2, 1) := by decide +kernel
theorem dX12_wrongRow_75 : decode cX12_wrongRow 75 = .ok (.ireturn, 1) := by decide +kernel
theorem dX12_wrongRow_76 : decode cX12_wrongRow 76 = .ok (.iinc 1 1, 3) := by decide +kernel
theorem dX12_wrongRow_79 : decode cX12_wrongRow 79 = .ok (.goto (-77), 3) := by decide +kernel
theorem dX12_wrongRow_82 : decode cX12_wrongRow 82 = .ok (.iconst (-1), 1) := by decide +kernel
theorem dX12_wrongRow_83 : decode cX12_wrongRow 83 = .ok (.ireturn, 1) := by decide +kernel
theorem dX12_columnFor_0 : decode cX12_columnFor 0 = .ok (.iconst 0, 1) := by decide +kernel
theorem dX12_columnFor_1 : decode cX12_columnFor 1 = .ok (.istore_n 2, 1) := by decide +kernel
theorem dX12_columnFor_2 : decode cX12_columnFor 2 = .ok (.iload_n 2, 1) := by decide +kernel
theorem dX12_columnFor_3 : decode cX12_columnFor 3 = .ok (.aload_n 0, 1) := by decide +kernel
theorem dX12_columnFor_4 : decode cX12_columnFor 4 = .ok (.getfield 120, 3) := by decide +kernel
theorem dX12_columnFor_7 : decode cX12_columnFor 7 = .ok (.aload_n 0, 1) := by decide +kernel
theorem dX12_columnFor_8 : decode cX12_columnFor 8 = .ok (.getfield 123, 3) := by decide +kernel
theorem dX12_columnFor_11 : decode cX12_columnFor 11 = .ok (.iadd, 1) := by decide +kernel
theorem dX12_columnFor_12 : decode cX12_columnFor 12 = .ok (.if_icmp .ge 120, 3) := by decide +kernel
theorem dX12_columnFor_15 : decode cX12_columnFor 15 = .ok (.aload_n 0, 1) := by decide +kernel
theorem dX12_columnFor_16 : decode cX12_columnFor 16 = .ok (.iload_n 2, 1) := by decide +kernel
theorem dX12_columnFor_17 : decode cX12_columnFor 17 = .ok (.invokevirtual 188, 3) := by decide +kernel
theorem dX12_columnFor_20 : decode cX12_columnFor 20 = .ok (.istore_n 3, 1) := by decide +kernel
theorem dX12_columnFor_21 : decode cX12_columnFor 21 = .ok (.iload_n 3, 1) := by decide +kernel
theorem dX12_columnFor_22 : decode cX12_columnFor 22 = .ok (.iconst (-1), 1) := by decide +kernel
theorem dX12_columnFor_23 : decode cX12_columnFor 23 = .ok (.if_icmp .eq 103, 3) := by decide +kernel
theorem dX12_columnFor_26 : decode cX12_columnFor 26 = .ok (.aload_n 0, 1) := by decide +kernel
theorem dX12_columnFor_27 : decode cX12_columnFor 27 = .ok (.iload_n 1, 1) := by decide +kernel
theorem dX12_columnFor_28 : decode cX12_columnFor 28 = .ok (.iload_n 3, 1) := by decide +kernel
theorem dX12_columnFor_29 : decode cX12_columnFor 29 = .ok (.invokestatic 141, 3) := by decide +kernel
theorem dX12_columnFor_32 : decode cX12_columnFor 32 = .ok (.invokevirtual 191, 3) := by decide +kernel
theorem dX12_columnFor_35 : decode cX12_columnFor 35 = .ok (.istore 4, 2) := by decide +kernel
theorem dX12_columnFor_37 : decode cX12_columnFor 37 = .ok (.aload_n 0, 1) := by decide +kernel
theorem dX12_columnFor_38 : decode cX12_columnFor 38 = .ok (.getfield 185, 3) := by decide +kernel
theorem dX12_columnFor_41 : decode cX12_columnFor 41 = .ok (.iconst 1, 1) := by decide +kernel
theorem dX12_columnFor_42 : decode cX12_columnFor 42 = .ok (.if_icmp .ne 8, 3) := by decide +kernel
theorem dX12_columnFor_45 : decode cX12_columnFor 45 = .ok (.iload 4, 2) := by decide +kernel
theorem dX12_columnFor_47 : decode cX12_columnFor 47 = .ok (.goto 6, 3) := by decide +kernel
theorem dX12_columnFor_50 : decode cX12_columnFor 50 = .ok (.iload 4, 2) := by decide +kernel
theorem dX12_columnFor_52 : decode cX12_columnFor 52 = .ok (.ineg, 1) := by decide +kernel
theorem dX12_columnFor_53 : decode cX12_columnFor 53 = .ok (.istore 4, 2) := by decide +kernel
theorem dX12_columnFor_55 : decode cX12_columnFor 55 = .ok (.iload 4, 2) := by decide +kernel
theorem dX12_columnFor_57 : decode cX12_columnFor 57 = .ok (.ifCond .le 7, 3) := by decide +kernel
theorem dX12_columnFor_60 : decode cX12_columnFor 60 = .ok (.iconst 0, 1) := by decide +kernel
theorem dX12_columnFor_61 : decode cX12_columnFor 61 = .ok (.goto 4, 3) := by decide +kernel
theorem dX12_columnFor_64 : decode cX12_columnFor 64 = .ok (.iconst 1, 1) := by decide +kernel
theorem dX12_columnFor_65 : decode cX12_columnFor 65 = .ok (.istore 5, 2) := by decide +kernel
theorem dX12_columnFor_67 : decode cX12_columnFor 67 = .ok (.aload_n 0, 1) := by decide +kernel
theorem dX12_columnFor_68 : decode cX12_columnFor 68 = .ok (.getfield 76, 3) := by decide +kernel
theorem dX12_columnFor_71 : decode cX12_columnFor 71 = .ok (.istore 6, 2) := by decide +kernel
theorem dX12_columnFor_73 : decode cX12_columnFor 73 = .ok (.iload 4, 2) := by decide +kernel
theorem dX12_columnFor_75 : decode cX12_columnFor 75 = .ok (.ifCond .eq 35, 3) := by decide +kernel
theorem dX12_columnFor_78 : decode cX12_columnFor 78 = .ok (.aload_n 0, 1) := by decide +kernel
theorem dX12_columnFor_79 : decode cX12_columnFor 79 = .ok (.iload_n 2, 1) := by decide +kernel
theorem dX12_columnFor_80 : decode cX12_columnFor 80 = .ok (.iload 5, 2) := by decide +kernel
theorem dX12_columnFor_82 : decode cX12_columnFor 82 = .ok (.invokevirtual 179, 3) := by decide +kernel
theorem dX12_columnFor_85 : decode cX12_columnFor 85 = .ok (.ifCond .eq 21, 3) := by decide +kernel
theorem dX12_columnFor_88 : decode cX12_columnFor 88 = .ok (.aload_n 0, 1) := by decide +kernel
theorem dX12_columnFor_89 : decode cX12_columnFor 89 = .ok (.iload_n 2, 1) := by decide +kernel
theorem dX12_columnFor_90 : decode cX12_columnFor 90 = .ok (.invokestatic 144, 3) := by decide +kernel
theorem dX12_columnFor_93 : decode cX12_columnFor 93 = .ok (.aload_n 0, 1) := by decide +kernel
theorem dX12_columnFor_94 : decode cX12_columnFor 94 = .ok (.iload_n 2, 1) := by decide +kernel
theorem dX12_columnFor_95 : decode cX12_columnFor 95 = .ok (.iload 5, 2) := by decide +kernel
theorem dX12_columnFor_97 : decode cX12_columnFor 97 = .ok (.invokevirtual 160, 3) := by decide +kernel
theorem dX12_columnFor_100 : decode cX12_columnFor 100 = .ok (.invokevirtual 163, 3) := by decide +kernel
theorem dX12_columnFor_103 : decode cX12_columnFor 103 = .ok (.ifCond .eq 7, 3) := by decide +kernel
theorem dX12_columnFor_106 : decode cX12_columnFor 106 = .ok (.iconst 1, 1) := by decide +kernel
theorem dX12_columnFor_107 : decode cX12_columnFor 107 = .ok (.goto 4, 3) := by decide +kernel
theorem dX12_columnFor_110 : decode cX12_columnFor 110 = .ok (.iconst 0, 1) := by decide +kernel
theorem dX12_columnFor_111 : decode cX12_columnFor 111 = .ok (.istore 7, 2) := by decide +kernel
theorem dX12_columnFor_113 : decode cX12_columnFor 113 = .ok (.aload_n 0, 1) := by decide +kernel
theorem dX12_columnFor_114 : decode cX12_columnFor 114 = .ok (.iload 6, 2) := by decide +kernel
theorem dX12_columnFor_116 : decode cX12_columnFor 116 = .ok (.putfield 76, 3) := by decide +kernel
theorem dX12_columnFor_119 : decode cX12_columnFor 119 = .ok (.iload 7, 2) := by decide +kernel
theorem dX12_columnFor_121 : decode cX12_columnFor 121 = .ok (.ifCond .eq 5, 3) := by decide +kernel
theorem dX12_columnFor_124 : decode cX12_columnFor 124 = .ok (.iload_n 3, 1) := by decide +kernel
theorem dX12_columnFor_125 : decode cX12_columnFor 125 = .ok (.ireturn, 1) := by decide +kernel
theorem dX12_columnFor_126 : decode cX12_columnFor 126 = .ok (.iinc 2 1, 3) := by decide +kernel
theorem dX12_columnFor_129 : decode cX12_columnFor 129 = .ok (.goto (-127), 3) := by decide +kernel
theorem dX12_columnFor_132 : decode cX12_columnFor 132 = .ok (.iconst (-1), 1) := by decide +kernel
theorem dX12_columnFor_133 : decode cX12_columnFor 133 = .ok (.ireturn, 1) := by decide +kernel
theorem dX12_exchange_0 : decode cX12_exchange 0 = .ok (.aload_n 0, 1) := by decide +kernel
theorem dX12_exchange_1 : decode cX12_exchange 1 = .ok (.dup, 1) := by decide +kernel
theorem dX12_exchange_2 : decode cX12_exchange 2 = .ok (.getfield 102, 3) := by decide +kernel
theorem dX12_exchange_5 : decode cX12_exchange 5 = .ok (.iconst 1, 1) := by decide +kernel
theorem dX12_exchange_6 : decode cX12_exchange 6 = .ok (.iadd, 1) := by decide +kernel
theorem dX12_exchange_7 : decode cX12_exchange 7 = .ok (.putfield 102, 3) := by decide +kernel
theorem dX12_exchange_10 : decode cX12_exchange 10 = .ok (.aload_n 0, 1) := by decide +kernel
theorem dX12_exchange_11 : decode cX12_exchange 11 = .ok (.getfield 32, 3) := by decide +kernel
theorem dX12_exchange_14 : decode cX12_exchange 14 = .ok (.iload_n 1, 1) := by decide +kernel
theorem dX12_exchange_15 : decode cX12_exchange 15 = .ok (.iaload, 1) := by decide +kernel
theorem dX12_exchange_16 : decode cX12_exchange 16 = .ok (.istore_n 3, 1) := by decide +kernel
theorem dX12_exchange_17 : decode cX12_exchange 17 = .ok (.aload_n 0, 1) := by decide +kernel
theorem dX12_exchange_18 : decode cX12_exchange 18 = .ok (.getfield 35, 3) := by decide +kernel
theorem dX12_exchange_21 : decode cX12_exchange 21 = .ok (.iload_n 2, 1) := by decide +kernel
theorem dX12_exchange_22 : decode cX12_exchange 22 = .ok (.iaload, 1) := by decide +kernel
theorem dX12_exchange_23 : decode cX12_exchange 23 = .ok (.istore 4, 2) := by decide +kernel
theorem dX12_exchange_25 : decode cX12_exchange 25 = .ok (.aload_n 0, 1) := by decide +kernel
theorem dX12_exchange_26 : decode cX12_exchange 26 = .ok (.getfield 76, 3) := by decide +kernel
theorem dX12_exchange_29 : decode cX12_exchange 29 = .ok (.istore 5, 2) := by decide +kernel
theorem dX12_exchange_31 : decode cX12_exchange 31 = .ok (.aload_n 0, 1) := by decide +kernel
theorem dX12_exchange_32 : decode cX12_exchange 32 = .ok (.aload_n 0, 1) := by decide +kernel
theorem dX12_exchange_33 : decode cX12_exchange 33 = .ok (.iload_n 3, 1) := by decide +kernel
theorem dX12_exchange_34 : decode cX12_exchange 34 = .ok (.aload_n 0, 1) := by decide +kernel
theorem dX12_exchange_35 : decode cX12_exchange 35 = .ok (.getfield 185, 3) := by decide +kernel
theorem dX12_exchange_38 : decode cX12_exchange 38 = .ok (.invokevirtual 160, 3) := by decide +kernel
theorem dX12_exchange_41 : decode cX12_exchange 41 = .ok (.iload_n 3, 1) := by decide +kernel
theorem dX12_exchange_42 : decode cX12_exchange 42 = .ok (.invokestatic 144, 3) := by decide +kernel
theorem dX12_exchange_45 : decode cX12_exchange 45 = .ok (.invokevirtual 92, 3) := by decide +kernel
theorem dX12_exchange_48 : decode cX12_exchange 48 = .ok (.aload_n 0, 1) := by decide +kernel
theorem dX12_exchange_49 : decode cX12_exchange 49 = .ok (.iload 5, 2) := by decide +kernel
theorem dX12_exchange_51 : decode cX12_exchange 51 = .ok (.putfield 76, 3) := by decide +kernel
theorem dX12_exchange_54 : decode cX12_exchange 54 = .ok (.aload_n 0, 1) := by decide +kernel
theorem dX12_exchange_55 : decode cX12_exchange 55 = .ok (.iload_n 1, 1) := by decide +kernel
theorem dX12_exchange_56 : decode cX12_exchange 56 = .ok (.iload_n 2, 1) := by decide +kernel
theorem dX12_exchange_57 : decode cX12_exchange 57 = .ok (.invokestatic 141, 3) := by decide +kernel
theorem dX12_exchange_60 : decode cX12_exchange 60 = .ok (.invokevirtual 194, 3) := by decide +kernel
theorem dX12_exchange_63 : decode cX12_exchange 63 = .ok (.istore 6, 2) := by decide +kernel
theorem dX12_exchange_65 : decode cX12_exchange 65 = .ok (.aload_n 0, 1) := by decide +kernel
theorem dX12_exchange_66 : decode cX12_exchange 66 = .ok (.iload 6, 2) := by decide +kernel
theorem dX12_exchange_68 : decode cX12_exchange 68 = .ok (.invokevirtual 191, 3) := by decide +kernel
theorem dX12_exchange_71 : decode cX12_exchange 71 = .ok (.ifCond .ge 7, 3) := by decide +kernel
theorem dX12_exchange_74 : decode cX12_exchange 74 = .ok (.iconst 1, 1) := by decide +kernel
theorem dX12_exchange_75 : decode cX12_exchange 75 = .ok (.goto 4, 3) := by decide +kernel
theorem dX12_exchange_78 : decode cX12_exchange 78 = .ok (.iconst 0, 1) := by decide +kernel
theorem dX12_exchange_79 : decode cX12_exchange 79 = .ok (.istore 7, 2) := by decide +kernel
theorem dX12_exchange_81 : decode cX12_exchange 81 = .ok (.aload_n 0, 1) := by decide +kernel
theorem dX12_exchange_82 : decode cX12_exchange 82 = .ok (.iconst 0, 1) := by decide +kernel
theorem dX12_exchange_83 : decode cX12_exchange 83 = .ok (.invokevirtual 194, 3) := by decide +kernel
theorem dX12_exchange_86 : decode cX12_exchange 86 = .ok (.istore 8, 2) := by decide +kernel
theorem dX12_exchange_88 : decode cX12_exchange 88 = .ok (.iconst 0, 1) := by decide +kernel
theorem dX12_exchange_89 : decode cX12_exchange 89 = .ok (.istore 9, 2) := by decide +kernel
theorem dX12_exchange_91 : decode cX12_exchange 91 = .ok (.iload 9, 2) := by decide +kernel
theorem dX12_exchange_93 : decode cX12_exchange 93 = .ok (.aload_n 0, 1) := by decide +kernel
theorem dX12_exchange_94 : decode cX12_exchange 94 = .ok (.getfield 123, 3) := by decide +kernel
theorem dX12_exchange_97 : decode cX12_exchange 97 = .ok (.if_icmp .ge 153, 3) := by decide +kernel
theorem dX12_exchange_100 : decode cX12_exchange 100 = .ok (.iload 9, 2) := by decide +kernel
theorem dX12_exchange_102 : decode cX12_exchange 102 = .ok (.iload_n 1, 1) := by decide +kernel
theorem dX12_exchange_103 : decode cX12_exchange 103 = .ok (.if_icmp .eq 141, 3) := by decide +kernel
theorem dX12_exchange_106 : decode cX12_exchange 106 = .ok (.aload_n 0, 1) := by decide +kernel
theorem dX12_exchange_107 : decode cX12_exchange 107 = .ok (.iload 9, 2) := by decide +kernel
theorem dX12_exchange_109 : decode cX12_exchange 109 = .ok (.iload_n 2, 1) := by decide +kernel
theorem dX12_exchange_110 : decode cX12_exchange 110 = .ok (.invokestatic 141, 3) := by decide +kernel
theorem dX12_exchange_113 : decode cX12_exchange 113 = .ok (.invokevirtual 194, 3) := by decide +kernel
theorem dX12_exchange_116 : decode cX12_exchange 116 = .ok (.istore 10, 2) := by decide +kernel
theorem dX12_exchange_118 : decode cX12_exchange 118 = .ok (.iconst 0, 1) := by decide +kernel
theorem dX12_exchange_119 : decode cX12_exchange 119 = .ok (.istore 11, 2) := by decide +kernel
theorem dX12_exchange_121 : decode cX12_exchange 121 = .ok (.iload 11, 2) := by decide +kernel
theorem dX12_exchange_123 : decode cX12_exchange 123 = .ok (.aload_n 0, 1) := by decide +kernel
theorem dX12_exchange_124 : decode cX12_exchange 124 = .ok (.getfield 120, 3) := by decide +kernel
theorem dX12_exchange_127 : decode cX12_exchange 127 = .ok (.if_icmp .ge 91, 3) := by decide +kernel
theorem dX12_exchange_130 : decode cX12_exchange 130 = .ok (.iload 11, 2) := by decide +kernel
theorem dX12_exchange_132 : decode cX12_exchange 132 = .ok (.iload_n 2, 1) := by decide +kernel
theorem dX12_exchange_133 : decode cX12_exchange 133 = .ok (.if_icmp .eq 79, 3) := by decide +kernel
theorem dX12_exchange_136 : decode cX12_exchange 136 = .ok (.aload_n 0, 1) := by decide +kernel
theorem dX12_exchange_137 : decode cX12_exchange 137 = .ok (.getfield 76, 3) := by decide +kernel
theorem dX12_exchange_140 : decode cX12_exchange 140 = .ok (.istore 12, 2) := by decide +kernel
theorem dX12_exchange_142 : decode cX12_exchange 142 = .ok (.aload_n 0, 1) := by decide +kernel
theorem dX12_exchange_143 : decode cX12_exchange 143 = .ok (.aload_n 0, 1) := by decide +kernel
theorem dX12_exchange_144 : decode cX12_exchange 144 = .ok (.aload_n 0, 1) := by decide +kernel
theorem dX12_exchange_145 : decode cX12_exchange 145 = .ok (.iload 9, 2) := by decide +kernel
theorem dX12_exchange_147 : decode cX12_exchange 147 = .ok (.iload 11, 2) := by decide +kernel
theorem dX12_exchange_149 : decode cX12_exchange 149 = .ok (.invokestatic 141, 3) := by decide +kernel
theorem dX12_exchange_152 : decode cX12_exchange 152 = .ok (.iload 6, 2) := by decide +kernel
theorem dX12_exchange_154 : decode cX12_exchange 154 = .ok (.invokevirtual 148, 3) := by decide +kernel
theorem dX12_exchange_157 : decode cX12_exchange 157 = .ok (.aload_n 0, 1) := by decide +kernel
theorem dX12_exchange_158 : decode cX12_exchange 158 = .ok (.iload 10, 2) := by decide +kernel
theorem dX12_exchange_160 : decode cX12_exchange 160 = .ok (.iload_n 1, 1) := by decide +kernel
theorem dX12_exchange_161 : decode cX12_exchange 161 = .ok (.iload 11, 2) := by decide +kernel
theorem dX12_exchange_163 : decode cX12_exchange 163 = .ok (.invokestatic 141, 3) := by decide +kernel
theorem dX12_exchange_166 : decode cX12_exchange 166 = .ok (.invokevirtual 148, 3) := by decide +kernel
theorem dX12_exchange_169 : decode cX12_exchange 169 = .ok (.invokevirtual 197, 3) := by decide +kernel
theorem dX12_exchange_172 : decode cX12_exchange 172 = .ok (.iload 8, 2) := by decide +kernel
theorem dX12_exchange_174 : decode cX12_exchange 174 = .ok (.invokevirtual 200, 3) := by decide +kernel
theorem dX12_exchange_177 : decode cX12_exchange 177 = .ok (.istore 13, 2) := by decide +kernel
theorem dX12_exchange_179 : decode cX12_exchange 179 = .ok (.aload_n 0, 1) := by decide +kernel
theorem dX12_exchange_180 : decode cX12_exchange 180 = .ok (.iload 7, 2) := by decide +kernel
theorem dX12_exchange_182 : decode cX12_exchange 182 = .ok (.ifCond .eq 12, 3) := by decide +kernel
theorem dX12_exchange_185 : decode cX12_exchange 185 = .ok (.aload_n 0, 1) := by decide +kernel
theorem dX12_exchange_186 : decode cX12_exchange 186 = .ok (.iload 13, 2) := by decide +kernel
theorem dX12_exchange_188 : decode cX12_exchange 188 = .ok (.invokevirtual 203, 3) := by decide +kernel
theorem dX12_exchange_191 : decode cX12_exchange 191 = .ok (.goto 5, 3) := by decide +kernel
theorem dX12_exchange_194 : decode cX12_exchange 194 = .ok (.iload 13, 2) := by decide +kernel
theorem dX12_exchange_196 : decode cX12_exchange 196 = .ok (.iload 9, 2) := by decide +kernel
theorem dX12_exchange_198 : decode cX12_exchange 198 = .ok (.iload 11, 2) := by decide +kernel
theorem dX12_exchange_200 : decode cX12_exchange 200 = .ok (.invokestatic 141, 3) := by decide +kernel
theorem dX12_exchange_203 : decode cX12_exchange 203 = .ok (.invokevirtual 92, 3) := by decide +kernel
theorem dX12_exchange_206 : decode cX12_exchange 206 = .ok (.aload_n 0, 1) := by decide +kernel
theorem dX12_exchange_207 : decode cX12_exchange 207 = .ok (.iload 12, 2) := by decide +kernel
theorem dX12_exchange_209 : decode cX12_exchange 209 = .ok (.putfield 76, 3) := by decide +kernel
theorem dX12_exchange_212 : decode cX12_exchange 212 = .ok (.iinc 11 1, 3) := by decide +kernel
theorem dX12_exchange_215 : decode cX12_exchange 215 = .ok (.goto (-94), 3) := by decide +kernel
theorem dX12_exchange_218 : decode cX12_exchange 218 = .ok (.aload_n 0, 1) := by decide +kernel
theorem dX12_exchange_219 : decode cX12_exchange 219 = .ok (.iload 7, 2) := by decide +kernel
theorem dX12_exchange_221 : decode cX12_exchange 221 = .ok (.ifCond .eq 12, 3) := by decide +kernel
theorem dX12_exchange_224 : decode cX12_exchange 224 = .ok (.aload_n 0, 1) := by decide +kernel
theorem dX12_exchange_225 : decode cX12_exchange 225 = .ok (.iload 10, 2) := by decide +kernel
theorem dX12_exchange_227 : decode cX12_exchange 227 = .ok (.invokevirtual 203, 3) := by decide +kernel
theorem dX12_exchange_230 : decode cX12_exchange 230 = .ok (.goto 5, 3) := by decide +kernel
theorem dX12_exchange_233 : decode cX12_exchange 233 = .ok (.iload 10, 2) := by decide +kernel
theorem dX12_exchange_235 : decode cX12_exchange 235 = .ok (.iload 9, 2) := by decide +kernel
theorem dX12_exchange_237 : decode cX12_exchange 237 = .ok (.iload_n 2, 1) := by decide +kernel
theorem dX12_exchange_238 : decode cX12_exchange 238 = .ok (.invokestatic 141, 3) := by decide +kernel
theorem dX12_exchange_241 : decode cX12_exchange 241 = .ok (.invokevirtual 92, 3) := by decide +kernel
theorem dX12_exchange_244 : decode cX12_exchange 244 = .ok (.iinc 9 1, 3) := by decide +kernel
theorem dX12_exchange_247 : decode cX12_exchange 247 = .ok (.goto (-156), 3) := by decide +kernel
theorem dX12_exchange_250 : decode cX12_exchange 250 = .ok (.iconst 0, 1) := by decide +kernel
theorem dX12_exchange_251 : decode cX12_exchange 251 = .ok (.istore 9, 2) := by decide +kernel
theorem dX12_exchange_253 : decode cX12_exchange 253 = .ok (.iload 9, 2) := by decide +kernel
theorem dX12_exchange_255 : decode cX12_exchange 255 = .ok (.aload_n 0, 1) := by decide +kernel
theorem dX12_exchange_256 : decode cX12_exchange 256 = .ok (.getfield 120, 3) := by decide +kernel
theorem dX12_exchange_259 : decode cX12_exchange 259 = .ok (.if_icmp .ge 53, 3) := by decide +kernel
theorem dX12_exchange_262 : decode cX12_exchange 262 = .ok (.iload 9, 2) := by decide +kernel
theorem dX12_exchange_264 : decode cX12_exchange 264 = .ok (.iload_n 2, 1) := by decide +kernel
theorem dX12_exchange_265 : decode cX12_exchange 265 = .ok (.if_icmp .eq 41, 3) := by decide +kernel
theorem dX12_exchange_268 : decode cX12_exchange 268 = .ok (.aload_n 0, 1) := by decide +kernel
theorem dX12_exchange_269 : decode cX12_exchange 269 = .ok (.iload 7, 2) := by decide +kernel
theorem dX12_exchange_271 : decode cX12_exchange 271 = .ok (.ifCond .eq 16, 3) := by decide +kernel
theorem dX12_exchange_274 : decode cX12_exchange 274 = .ok (.aload_n 0, 1) := by decide +kernel
theorem dX12_exchange_275 : decode cX12_exchange 275 = .ok (.iload_n 1, 1) := by decide +kernel
theorem dX12_exchange_276 : decode cX12_exchange 276 = .ok (.iload 9, 2) := by decide +kernel
theorem dX12_exchange_278 : decode cX12_exchange 278 = .ok (.invokestatic 141, 3) := by decide +kernel
theorem dX12_exchange_281 : decode cX12_exchange 281 = .ok (.invokevirtual 194, 3) := by decide +kernel
theorem dX12_exchange_284 : decode cX12_exchange 284 = .ok (.goto 13, 3) := by decide +kernel
theorem dX12_exchange_287 : decode cX12_exchange 287 = .ok (.aload_n 0, 1) := by decide +kernel
theorem dX12_exchange_288 : decode cX12_exchange 288 = .ok (.iload_n 1, 1) := by decide +kernel
theorem dX12_exchange_289 : decode cX12_exchange 289 = .ok (.iload 9, 2) := by decide +kernel
theorem dX12_exchange_291 : decode cX12_exchange 291 = .ok (.invokestatic 141, 3) := by decide +kernel
theorem dX12_exchange_294 : decode cX12_exchange 294 = .ok (.invokevirtual 203, 3) := by decide +kernel
theorem dX12_exchange_297 : decode cX12_exchange 297 = .ok (.iload_n 1, 1) := by decide +kernel
theorem dX12_exchange_298 : decode cX12_exchange 298 = .ok (.iload 9, 2) := by decide +kernel
theorem dX12_exchange_300 : decode cX12_exchange 300 = .ok (.invokestatic 141, 3) := by decide +kernel
theorem dX12_exchange_303 : decode cX12_exchange 303 = .ok (.invokevirtual 92, 3) := by decide +kernel
theorem dX12_exchange_306 : decode cX12_exchange 306 = .ok (.iinc 9 1, 3) := by decide +kernel
theorem dX12_exchange_309 : decode cX12_exchange 309 = .ok (.goto (-56), 3) := by decide +kernel
theorem dX12_exchange_312 : decode cX12_exchange 312 = .ok (.aload_n 0, 1) := by decide +kernel
theorem dX12_exchange_313 : decode cX12_exchange 313 = .ok (.iload 7, 2) := by decide +kernel
theorem dX12_exchange_315 : decode cX12_exchange 315 = .ok (.ifCond .eq 12, 3) := by decide +kernel
theorem dX12_exchange_318 : decode cX12_exchange 318 = .ok (.aload_n 0, 1) := by decide +kernel
theorem dX12_exchange_319 : decode cX12_exchange 319 = .ok (.iload 8, 2) := by decide +kernel
theorem dX12_exchange_321 : decode cX12_exchange 321 = .ok (.invokevirtual 203, 3) := by decide +kernel
theorem dX12_exchange_324 : decode cX12_exchange 324 = .ok (.goto 5, 3) := by decide +kernel
theorem dX12_exchange_327 : decode cX12_exchange 327 = .ok (.iload 8, 2) := by decide +kernel
theorem dX12_exchange_329 : decode cX12_exchange 329 = .ok (.iload_n 1, 1) := by decide +kernel
theorem dX12_exchange_330 : decode cX12_exchange 330 = .ok (.iload_n 2, 1) := by decide +kernel
theorem dX12_exchange_331 : decode cX12_exchange 331 = .ok (.invokestatic 141, 3) := by decide +kernel
theorem dX12_exchange_334 : decode cX12_exchange 334 = .ok (.invokevirtual 92, 3) := by decide +kernel
theorem dX12_exchange_337 : decode cX12_exchange 337 = .ok (.aload_n 0, 1) := by decide +kernel
theorem dX12_exchange_338 : decode cX12_exchange 338 = .ok (.iload 7, 2) := by decide +kernel
theorem dX12_exchange_340 : decode cX12_exchange 340 = .ok (.ifCond .eq 12, 3) := by decide +kernel
theorem dX12_exchange_343 : decode cX12_exchange 343 = .ok (.aload_n 0, 1) := by decide +kernel
theorem dX12_exchange_344 : decode cX12_exchange 344 = .ok (.iload 6, 2) := by decide +kernel
theorem dX12_exchange_346 : decode cX12_exchange 346 = .ok (.invokevirtual 203, 3) := by decide +kernel
theorem dX12_exchange_349 : decode cX12_exchange 349 = .ok (.goto 5, 3) := by decide +kernel
theorem dX12_exchange_352 : decode cX12_exchange 352 = .ok (.iload 6, 2) := by decide +kernel
theorem dX12_exchange_354 : decode cX12_exchange 354 = .ok (.iconst 0, 1) := by decide +kernel
theorem dX12_exchange_355 : decode cX12_exchange 355 = .ok (.invokevirtual 92, 3) := by decide +kernel
theorem dX12_exchange_358 : decode cX12_exchange 358 = .ok (.aload_n 0, 1) := by decide +kernel
theorem dX12_exchange_359 : decode cX12_exchange 359 = .ok (.iload 5, 2) := by decide +kernel
theorem dX12_exchange_361 : decode cX12_exchange 361 = .ok (.putfield 76, 3) := by decide +kernel
theorem dX12_exchange_364 : decode cX12_exchange 364 = .ok (.aload_n 0, 1) := by decide +kernel
theorem dX12_exchange_365 : decode cX12_exchange 365 = .ok (.getfield 32, 3) := by decide +kernel
theorem dX12_exchange_368 : decode cX12_exchange 368 = .ok (.iload_n 1, 1) := by decide +kernel
theorem dX12_exchange_369 : decode cX12_exchange 369 = .ok (.iload 4, 2) := by decide +kernel
theorem dX12_exchange_371 : decode cX12_exchange 371 = .ok (.iastore, 1) := by decide +kernel
theorem dX12_exchange_372 : decode cX12_exchange 372 = .ok (.aload_n 0, 1) := by decide +kernel
theorem dX12_exchange_373 : decode cX12_exchange 373 = .ok (.getfield 35, 3) := by decide +kernel
theorem dX12_exchange_376 : decode cX12_exchange 376 = .ok (.iload_n 2, 1) := by decide +kernel
theorem dX12_exchange_377 : decode cX12_exchange 377 = .ok (.iload_n 3, 1) := by decide +kernel
theorem dX12_exchange_378 : decode cX12_exchange 378 = .ok (.iastore, 1) := by decide +kernel
theorem dX12_exchange_379 : decode cX12_exchange 379 = .ok (.return_, 1) := by decide +kernel
theorem dX12_multiply_0 : decode cX12_multiply 0 = .ok (.aload_n 0, 1) := by decide +kernel
theorem dX12_multiply_1 : decode cX12_multiply 1 = .ok (.getfield 76, 3) := by decide +kernel
theorem dX12_multiply_4 : decode cX12_multiply 4 = .ok (.istore 4, 2) := by decide +kernel
theorem dX12_multiply_6 : decode cX12_multiply 6 = .ok (.aload_n 0, 1) := by decide +kernel
theorem dX12_multiply_7 : decode cX12_multiply 7 = .ok (.iload_n 2, 1) := by decide +kernel
theorem dX12_multiply_8 : decode cX12_multiply 8 = .ok (.iload_n 3, 1) := by decide +kernel
theorem dX12_multiply_9 : decode cX12_multiply 9 = .ok (.invokevirtual 206, 3) := by decide +kernel
theorem dX12_multiply_12 : decode cX12_multiply 12 = .ok (.istore 5, 2) := by decide +kernel
theorem dX12_multiply_14 : decode cX12_multiply 14 = .ok (.aload_n 0, 1) := by decide +kernel
theorem dX12_multiply_15 : decode cX12_multiply 15 = .ok (.aload_n 0, 1) := by decide +kernel
theorem dX12_multiply_16 : decode cX12_multiply 16 = .ok (.iload_n 2, 1) := by decide +kernel
theorem dX12_multiply_17 : decode cX12_multiply 17 = .ok (.iload 5, 2) := by decide +kernel
theorem dX12_multiply_19 : decode cX12_multiply 19 = .ok (.invokevirtual 200, 3) := by decide +kernel
theorem dX12_multiply_22 : decode cX12_multiply 22 = .ok (.aload_n 0, 1) := by decide +kernel
theorem dX12_multiply_23 : decode cX12_multiply 23 = .ok (.getfield 56, 3) := by decide +kernel
theorem dX12_multiply_26 : decode cX12_multiply 26 = .ok (.aload_n 0, 1) := by decide +kernel
theorem dX12_multiply_27 : decode cX12_multiply 27 = .ok (.getfield 169, 3) := by decide +kernel
theorem dX12_multiply_30 : decode cX12_multiply 30 = .ok (.iaload, 1) := by decide +kernel
theorem dX12_multiply_31 : decode cX12_multiply 31 = .ok (.iload_n 1, 1) := by decide +kernel
theorem dX12_multiply_32 : decode cX12_multiply 32 = .ok (.iconst 0, 1) := by decide +kernel
theorem dX12_multiply_33 : decode cX12_multiply 33 = .ok (.invokestatic 172, 3) := by decide +kernel
theorem dX12_multiply_36 : decode cX12_multiply 36 = .ok (.invokevirtual 92, 3) := by decide +kernel
theorem dX12_multiply_39 : decode cX12_multiply 39 = .ok (.aload_n 0, 1) := by decide +kernel
theorem dX12_multiply_40 : decode cX12_multiply 40 = .ok (.aload_n 0, 1) := by decide +kernel
theorem dX12_multiply_41 : decode cX12_multiply 41 = .ok (.iload_n 3, 1) := by decide +kernel
theorem dX12_multiply_42 : decode cX12_multiply 42 = .ok (.iload 5, 2) := by decide +kernel
theorem dX12_multiply_44 : decode cX12_multiply 44 = .ok (.invokevirtual 200, 3) := by decide +kernel
theorem dX12_multiply_47 : decode cX12_multiply 47 = .ok (.aload_n 0, 1) := by decide +kernel
theorem dX12_multiply_48 : decode cX12_multiply 48 = .ok (.getfield 56, 3) := by decide +kernel
theorem dX12_multiply_51 : decode cX12_multiply 51 = .ok (.aload_n 0, 1) := by decide +kernel
theorem dX12_multiply_52 : decode cX12_multiply 52 = .ok (.getfield 169, 3) := by decide +kernel
theorem dX12_multiply_55 : decode cX12_multiply 55 = .ok (.iaload, 1) := by decide +kernel
theorem dX12_multiply_56 : decode cX12_multiply 56 = .ok (.iload_n 1, 1) := by decide +kernel
theorem dX12_multiply_57 : decode cX12_multiply 57 = .ok (.iconst 1, 1) := by decide +kernel
theorem dX12_multiply_58 : decode cX12_multiply 58 = .ok (.invokestatic 172, 3) := by decide +kernel
theorem dX12_multiply_61 : decode cX12_multiply 61 = .ok (.invokevirtual 92, 3) := by decide +kernel
theorem dX12_multiply_64 : decode cX12_multiply 64 = .ok (.aload_n 0, 1) := by decide +kernel
theorem dX12_multiply_65 : decode cX12_multiply 65 = .ok (.iload 4, 2) := by decide +kernel
theorem dX12_multiply_67 : decode cX12_multiply 67 = .ok (.putfield 76, 3) := by decide +kernel
theorem dX12_multiply_70 : decode cX12_multiply 70 = .ok (.return_, 1) := by decide +kernel
theorem dX12_multiplierOf_0 : decode cX12_multiplierOf 0 = .ok (.iload_n 1, 1) := by decide +kernel
theorem dX12_multiplierOf_1 : decode cX12_multiplierOf 1 = .ok (.aload_n 0, 1) := by decide +kernel
theorem dX12_multiplierOf_2 : decode cX12_multiplierOf 2 = .ok (.getfield 120, 3) := by decide +kernel
theorem dX12_multiplierOf_5 : decode cX12_multiplierOf 5 = .ok (.if_icmp .lt 12, 3) := by decide +kernel
theorem dX12_multiplierOf_8 : decode cX12_multiplierOf 8 = .ok (.iload_n 1, 1) := by decide +kernel
theorem dX12_multiplierOf_9 : decode cX12_multiplierOf 9 = .ok (.aload_n 0, 1) := by decide +kernel
theorem dX12_multiplierOf_10 : decode cX12_multiplierOf 10 = .ok (.getfield 120, 3) := by decide +kernel
theorem dX12_multiplierOf_13 : decode cX12_multiplierOf 13 = .ok (.isub, 1) := by decide +kernel
theorem dX12_multiplierOf_14 : decode cX12_multiplierOf 14 = .ok (.goto 18, 3) := by decide +kernel
theorem dX12_multiplierOf_17 : decode cX12_multiplierOf 17 = .ok (.iload_n 2, 1) := by decide +kernel
theorem dX12_multiplierOf_18 : decode cX12_multiplierOf 18 = .ok (.ifCond .ne 10, 3) := by decide +kernel
theorem dX12_multiplierOf_21 : decode cX12_multiplierOf 21 = .ok (.bipush 12, 2) := by decide +kernel
theorem dX12_multiplierOf_23 : decode cX12_multiplierOf 23 = .ok (.iload_n 1, 1) := by decide +kernel
theorem dX12_multiplierOf_24 : decode cX12_multiplierOf 24 = .ok (.iadd, 1) := by decide +kernel
theorem dX12_multiplierOf_25 : decode cX12_multiplierOf 25 = .ok (.goto 7, 3) := by decide +kernel
theorem dX12_multiplierOf_28 : decode cX12_multiplierOf 28 = .ok (.bipush 22, 2) := by decide +kernel
theorem dX12_multiplierOf_30 : decode cX12_multiplierOf 30 = .ok (.iload_n 1, 1) := by decide +kernel
theorem dX12_multiplierOf_31 : decode cX12_multiplierOf 31 = .ok (.iadd, 1) := by decide +kernel
theorem dX12_multiplierOf_32 : decode cX12_multiplierOf 32 = .ok (.ireturn, 1) := by decide +kernel
theorem dX12_conflict_0 : decode cX12_conflict 0 = .ok (.aload_n 0, 1) := by decide +kernel
theorem dX12_conflict_1 : decode cX12_conflict 1 = .ok (.dup, 1) := by decide +kernel
theorem dX12_conflict_2 : decode cX12_conflict 2 = .ok (.getfield 105, 3) := by decide +kernel
theorem dX12_conflict_5 : decode cX12_conflict 5 = .ok (.iconst 1, 1) := by decide +kernel
theorem dX12_conflict_6 : decode cX12_conflict 6 = .ok (.iadd, 1) := by decide +kernel
theorem dX12_conflict_7 : decode cX12_conflict 7 = .ok (.putfield 105, 3) := by decide +kernel
theorem dX12_conflict_10 : decode cX12_conflict 10 = .ok (.aload_n 0, 1) := by decide +kernel
theorem dX12_conflict_11 : decode cX12_conflict 11 = .ok (.getfield 76, 3) := by decide +kernel
theorem dX12_conflict_14 : decode cX12_conflict 14 = .ok (.istore_n 2, 1) := by decide +kernel
theorem dX12_conflict_15 : decode cX12_conflict 15 = .ok (.aload_n 0, 1) := by decide +kernel
theorem dX12_conflict_16 : decode cX12_conflict 16 = .ok (.aload_n 0, 1) := by decide +kernel
theorem dX12_conflict_17 : decode cX12_conflict 17 = .ok (.aload_n 0, 1) := by decide +kernel
theorem dX12_conflict_18 : decode cX12_conflict 18 = .ok (.getfield 32, 3) := by decide +kernel
theorem dX12_conflict_21 : decode cX12_conflict 21 = .ok (.iload_n 1, 1) := by decide +kernel
theorem dX12_conflict_22 : decode cX12_conflict 22 = .ok (.iaload, 1) := by decide +kernel
theorem dX12_conflict_23 : decode cX12_conflict 23 = .ok (.aload_n 0, 1) := by decide +kernel
theorem dX12_conflict_24 : decode cX12_conflict 24 = .ok (.getfield 185, 3) := by decide +kernel
theorem dX12_conflict_27 : decode cX12_conflict 27 = .ok (.invokevirtual 209, 3) := by decide +kernel
theorem dX12_conflict_30 : decode cX12_conflict 30 = .ok (.aload_n 0, 1) := by decide +kernel
theorem dX12_conflict_31 : decode cX12_conflict 31 = .ok (.aload_n 0, 1) := by decide +kernel
theorem dX12_conflict_32 : decode cX12_conflict 32 = .ok (.getfield 185, 3) := by decide +kernel
theorem dX12_conflict_35 : decode cX12_conflict 35 = .ok (.iconst 1, 1) := by decide +kernel
theorem dX12_conflict_36 : decode cX12_conflict 36 = .ok (.if_icmp .ne 9, 3) := by decide +kernel
theorem dX12_conflict_39 : decode cX12_conflict 39 = .ok (.ldc2_w 212, 3) := by decide +kernel
theorem dX12_conflict_42 : decode cX12_conflict 42 = .ok (.goto 4, 3) := by decide +kernel
theorem dX12_conflict_45 : decode cX12_conflict 45 = .ok (.lconst 1, 1) := by decide +kernel
theorem dX12_conflict_46 : decode cX12_conflict 46 = .ok (.invokevirtual 88, 3) := by decide +kernel
theorem dX12_conflict_49 : decode cX12_conflict 49 = .ok (.aload_n 0, 1) := by decide +kernel
theorem dX12_conflict_50 : decode cX12_conflict 50 = .ok (.lconst 1, 1) := by decide +kernel
theorem dX12_conflict_51 : decode cX12_conflict 51 = .ok (.invokevirtual 88, 3) := by decide +kernel
theorem dX12_conflict_54 : decode cX12_conflict 54 = .ok (.invokevirtual 214, 3) := by decide +kernel
theorem dX12_conflict_57 : decode cX12_conflict 57 = .ok (.iconst 0, 1) := by decide +kernel
theorem dX12_conflict_58 : decode cX12_conflict 58 = .ok (.istore_n 3, 1) := by decide +kernel
theorem dX12_conflict_59 : decode cX12_conflict 59 = .ok (.iload_n 3, 1) := by decide +kernel
theorem dX12_conflict_60 : decode cX12_conflict 60 = .ok (.aload_n 0, 1) := by decide +kernel
theorem dX12_conflict_61 : decode cX12_conflict 61 = .ok (.getfield 120, 3) := by decide +kernel
theorem dX12_conflict_64 : decode cX12_conflict 64 = .ok (.if_icmp .ge 91, 3) := by decide +kernel
