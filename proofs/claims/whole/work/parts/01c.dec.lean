/-! DECODE ROWS, by program -/
theorem d_Pc_init_0 : decode b_Pc_init 0 = .ok (.aload_n 0, 1) := by decide +kernel
theorem d_Pc_init_1 : decode b_Pc_init 1 = .ok (.invokespecial 1, 3) := by decide +kernel
theorem d_Pc_init_4 : decode b_Pc_init 4 = .ok (.aload_n 0, 1) := by decide +kernel
theorem d_Pc_init_5 : decode b_Pc_init 5 = .ok (.bipush 24, 2) := by decide +kernel
theorem d_Pc_init_7 : decode b_Pc_init 7 = .ok (.anewarray 9, 3) := by decide +kernel
theorem d_Pc_init_10 : decode b_Pc_init 10 = .ok (.putfield 11, 3) := by decide +kernel
theorem d_Pc_init_13 : decode b_Pc_init 13 = .ok (.aload_n 0, 1) := by decide +kernel
theorem d_Pc_init_14 : decode b_Pc_init 14 = .ok (.bipush 48, 2) := by decide +kernel
theorem d_Pc_init_16 : decode b_Pc_init 16 = .ok (.newarray .double, 2) := by decide +kernel
theorem d_Pc_init_18 : decode b_Pc_init 18 = .ok (.putfield 15, 3) := by decide +kernel
theorem d_Pc_init_21 : decode b_Pc_init 21 = .ok (.aload_n 0, 1) := by decide +kernel
theorem d_Pc_init_22 : decode b_Pc_init 22 = .ok (.bipush 8, 2) := by decide +kernel
theorem d_Pc_init_24 : decode b_Pc_init 24 = .ok (.newarray .int, 2) := by decide +kernel
theorem d_Pc_init_26 : decode b_Pc_init 26 = .ok (.putfield 19, 3) := by decide +kernel
theorem d_Pc_init_29 : decode b_Pc_init 29 = .ok (.aload_n 0, 1) := by decide +kernel
theorem d_Pc_init_30 : decode b_Pc_init 30 = .ok (.iconst 4, 1) := by decide +kernel
theorem d_Pc_init_31 : decode b_Pc_init 31 = .ok (.newarray .double, 2) := by decide +kernel
theorem d_Pc_init_33 : decode b_Pc_init 33 = .ok (.putfield 23, 3) := by decide +kernel
theorem d_Pc_init_36 : decode b_Pc_init 36 = .ok (.aload_n 0, 1) := by decide +kernel
theorem d_Pc_init_37 : decode b_Pc_init 37 = .ok (.new 26, 3) := by decide +kernel
theorem d_Pc_init_40 : decode b_Pc_init 40 = .ok (.dup, 1) := by decide +kernel
theorem d_Pc_init_41 : decode b_Pc_init 41 = .ok (.invokespecial 28, 3) := by decide +kernel
theorem d_Pc_init_44 : decode b_Pc_init 44 = .ok (.putfield 29, 3) := by decide +kernel
theorem d_Pc_init_47 : decode b_Pc_init 47 = .ok (.aload_n 0, 1) := by decide +kernel
theorem d_Pc_init_48 : decode b_Pc_init 48 = .ok (.new 33, 3) := by decide +kernel
theorem d_Pc_init_51 : decode b_Pc_init 51 = .ok (.dup, 1) := by decide +kernel
theorem d_Pc_init_52 : decode b_Pc_init 52 = .ok (.invokespecial 35, 3) := by decide +kernel
theorem d_Pc_init_55 : decode b_Pc_init 55 = .ok (.putfield 36, 3) := by decide +kernel
theorem d_Pc_init_58 : decode b_Pc_init 58 = .ok (.aload_n 0, 1) := by decide +kernel
theorem d_Pc_init_59 : decode b_Pc_init 59 = .ok (.new 40, 3) := by decide +kernel
theorem d_Pc_init_62 : decode b_Pc_init 62 = .ok (.dup, 1) := by decide +kernel
theorem d_Pc_init_63 : decode b_Pc_init 63 = .ok (.invokespecial 42, 3) := by decide +kernel
theorem d_Pc_init_66 : decode b_Pc_init 66 = .ok (.putfield 43, 3) := by decide +kernel
theorem d_Pc_init_69 : decode b_Pc_init 69 = .ok (.aload_n 0, 1) := by decide +kernel
theorem d_Pc_init_70 : decode b_Pc_init 70 = .ok (.new 47, 3) := by decide +kernel
theorem d_Pc_init_73 : decode b_Pc_init 73 = .ok (.dup, 1) := by decide +kernel
theorem d_Pc_init_74 : decode b_Pc_init 74 = .ok (.invokespecial 49, 3) := by decide +kernel
theorem d_Pc_init_77 : decode b_Pc_init 77 = .ok (.putfield 50, 3) := by decide +kernel
theorem d_Pc_init_80 : decode b_Pc_init 80 = .ok (.aload_n 0, 1) := by decide +kernel
theorem d_Pc_init_81 : decode b_Pc_init 81 = .ok (.new 54, 3) := by decide +kernel
theorem d_Pc_init_84 : decode b_Pc_init 84 = .ok (.dup, 1) := by decide +kernel
theorem d_Pc_init_85 : decode b_Pc_init 85 = .ok (.invokespecial 56, 3) := by decide +kernel
theorem d_Pc_init_88 : decode b_Pc_init 88 = .ok (.putfield 57, 3) := by decide +kernel
theorem d_Pc_init_91 : decode b_Pc_init 91 = .ok (.aload_n 0, 1) := by decide +kernel
theorem d_Pc_init_92 : decode b_Pc_init 92 = .ok (.iconst 0, 1) := by decide +kernel
theorem d_Pc_init_93 : decode b_Pc_init 93 = .ok (.putfield 61, 3) := by decide +kernel
theorem d_Pc_init_96 : decode b_Pc_init 96 = .ok (.aload_n 0, 1) := by decide +kernel
theorem d_Pc_init_97 : decode b_Pc_init 97 = .ok (.iconst 1, 1) := by decide +kernel
theorem d_Pc_init_98 : decode b_Pc_init 98 = .ok (.putfield 65, 3) := by decide +kernel
theorem d_Pc_init_101 : decode b_Pc_init 101 = .ok (.aload_n 0, 1) := by decide +kernel
theorem d_Pc_init_102 : decode b_Pc_init 102 = .ok (.iconst 0, 1) := by decide +kernel
theorem d_Pc_init_103 : decode b_Pc_init 103 = .ok (.putfield 69, 3) := by decide +kernel
theorem d_Pc_init_106 : decode b_Pc_init 106 = .ok (.iconst 0, 1) := by decide +kernel
theorem d_Pc_init_107 : decode b_Pc_init 107 = .ok (.istore_n 1, 1) := by decide +kernel
theorem d_Pc_init_108 : decode b_Pc_init 108 = .ok (.iload_n 1, 1) := by decide +kernel
theorem d_Pc_init_109 : decode b_Pc_init 109 = .ok (.bipush 24, 2) := by decide +kernel
theorem d_Pc_init_111 : decode b_Pc_init 111 = .ok (.if_icmp .ge 22, 3) := by decide +kernel
theorem d_Pc_init_114 : decode b_Pc_init 114 = .ok (.aload_n 0, 1) := by decide +kernel
theorem d_Pc_init_115 : decode b_Pc_init 115 = .ok (.getfield 11, 3) := by decide +kernel
theorem d_Pc_init_118 : decode b_Pc_init 118 = .ok (.iload_n 1, 1) := by decide +kernel
theorem d_Pc_init_119 : decode b_Pc_init 119 = .ok (.new 9, 3) := by decide +kernel
theorem d_Pc_init_122 : decode b_Pc_init 122 = .ok (.dup, 1) := by decide +kernel
theorem d_Pc_init_123 : decode b_Pc_init 123 = .ok (.invokespecial 72, 3) := by decide +kernel
theorem d_Pc_init_126 : decode b_Pc_init 126 = .ok (.aastore, 1) := by decide +kernel
theorem d_Pc_init_127 : decode b_Pc_init 127 = .ok (.iinc 1 1, 3) := by decide +kernel
theorem d_Pc_init_130 : decode b_Pc_init 130 = .ok (.goto (-22), 3) := by decide +kernel
theorem d_Pc_init_133 : decode b_Pc_init 133 = .ok (.return_, 1) := by decide +kernel
theorem d_Pc_code_0 : decode b_Pc_code 0 = .ok (.iload_n 1, 1) := by decide +kernel
theorem d_Pc_code_1 : decode b_Pc_code 1 = .ok (.bipush 23, 2) := by decide +kernel
theorem d_Pc_code_3 : decode b_Pc_code 3 = .ok (.invokestatic 73, 3) := by decide +kernel
theorem d_Pc_code_6 : decode b_Pc_code 6 = .ok (.iload_n 2, 1) := by decide +kernel
theorem d_Pc_code_7 : decode b_Pc_code 7 = .ok (.bipush 19, 2) := by decide +kernel
theorem d_Pc_code_9 : decode b_Pc_code 9 = .ok (.invokestatic 73, 3) := by decide +kernel
theorem d_Pc_code_12 : decode b_Pc_code 12 = .ok (.iload_n 3, 1) := by decide +kernel
theorem d_Pc_code_13 : decode b_Pc_code 13 = .ok (.bipush 7, 2) := by decide +kernel
theorem d_Pc_code_15 : decode b_Pc_code 15 = .ok (.invokestatic 73, 3) := by decide +kernel
theorem d_Pc_code_18 : decode b_Pc_code 18 = .ok (.iload 4, 2) := by decide +kernel
theorem d_Pc_code_20 : decode b_Pc_code 20 = .ok (.bipush 7, 2) := by decide +kernel
theorem d_Pc_code_22 : decode b_Pc_code 22 = .ok (.invokestatic 73, 3) := by decide +kernel
theorem d_Pc_code_25 : decode b_Pc_code 25 = .ok (.iload 5, 2) := by decide +kernel
theorem d_Pc_code_27 : decode b_Pc_code 27 = .ok (.bipush 7, 2) := by decide +kernel
theorem d_Pc_code_29 : decode b_Pc_code 29 = .ok (.invokestatic 73, 3) := by decide +kernel
theorem d_Pc_code_32 : decode b_Pc_code 32 = .ok (.aload_n 0, 1) := by decide +kernel
theorem d_Pc_code_33 : decode b_Pc_code 33 = .ok (.getfield 11, 3) := by decide +kernel
theorem d_Pc_code_36 : decode b_Pc_code 36 = .ok (.iload_n 1, 1) := by decide +kernel
theorem d_Pc_code_37 : decode b_Pc_code 37 = .ok (.aaload, 1) := by decide +kernel
theorem d_Pc_code_38 : decode b_Pc_code 38 = .ok (.iload_n 2, 1) := by decide +kernel
theorem d_Pc_code_39 : decode b_Pc_code 39 = .ok (.iload_n 3, 1) := by decide +kernel
theorem d_Pc_code_40 : decode b_Pc_code 40 = .ok (.iload 4, 2) := by decide +kernel
theorem d_Pc_code_42 : decode b_Pc_code 42 = .ok (.iload 5, 2) := by decide +kernel
theorem d_Pc_code_44 : decode b_Pc_code 44 = .ok (.iload 6, 2) := by decide +kernel
theorem d_Pc_code_46 : decode b_Pc_code 46 = .ok (.invokevirtual 77, 3) := by decide +kernel
theorem d_Pc_code_49 : decode b_Pc_code 49 = .ok (.return_, 1) := by decide +kernel
theorem d_Pc_cell_0 : decode b_Pc_cell 0 = .ok (.iload_n 1, 1) := by decide +kernel
theorem d_Pc_cell_1 : decode b_Pc_cell 1 = .ok (.bipush 47, 2) := by decide +kernel
theorem d_Pc_cell_3 : decode b_Pc_cell 3 = .ok (.invokestatic 73, 3) := by decide +kernel
theorem d_Pc_cell_6 : decode b_Pc_cell 6 = .ok (.dload_n 2, 1) := by decide +kernel
theorem d_Pc_cell_7 : decode b_Pc_cell 7 = .ok (.ldc2_w 81, 3) := by decide +kernel
theorem d_Pc_cell_10 : decode b_Pc_cell 10 = .ok (.dcmp .l, 1) := by decide +kernel
theorem d_Pc_cell_11 : decode b_Pc_cell 11 = .ok (.ifCond .lt 15, 3) := by decide +kernel
theorem d_Pc_cell_14 : decode b_Pc_cell 14 = .ok (.dload_n 2, 1) := by decide +kernel
theorem d_Pc_cell_15 : decode b_Pc_cell 15 = .ok (.ldc2_w 83, 3) := by decide +kernel
theorem d_Pc_cell_18 : decode b_Pc_cell 18 = .ok (.dcmp .g, 1) := by decide +kernel
theorem d_Pc_cell_19 : decode b_Pc_cell 19 = .ok (.ifCond .gt 7, 3) := by decide +kernel
theorem d_Pc_cell_22 : decode b_Pc_cell 22 = .ok (.iconst 1, 1) := by decide +kernel
theorem d_Pc_cell_23 : decode b_Pc_cell 23 = .ok (.goto 4, 3) := by decide +kernel
theorem d_Pc_cell_26 : decode b_Pc_cell 26 = .ok (.iconst 0, 1) := by decide +kernel
theorem d_Pc_cell_27 : decode b_Pc_cell 27 = .ok (.istore 4, 2) := by decide +kernel
theorem d_Pc_cell_29 : decode b_Pc_cell 29 = .ok (.iload 4, 2) := by decide +kernel
theorem d_Pc_cell_31 : decode b_Pc_cell 31 = .ok (.ifCond .ne 11, 3) := by decide +kernel
theorem d_Pc_cell_34 : decode b_Pc_cell 34 = .ok (.new 85, 3) := by decide +kernel
theorem d_Pc_cell_37 : decode b_Pc_cell 37 = .ok (.dup, 1) := by decide +kernel
theorem d_Pc_cell_38 : decode b_Pc_cell 38 = .ok (.invokespecial 87, 3) := by decide +kernel
theorem d_Pc_cell_41 : decode b_Pc_cell 41 = .ok (.athrow, 1) := by decide +kernel
theorem d_Pc_cell_42 : decode b_Pc_cell 42 = .ok (.aload_n 0, 1) := by decide +kernel
theorem d_Pc_cell_43 : decode b_Pc_cell 43 = .ok (.getfield 15, 3) := by decide +kernel
theorem d_Pc_cell_46 : decode b_Pc_cell 46 = .ok (.iload_n 1, 1) := by decide +kernel
theorem d_Pc_cell_47 : decode b_Pc_cell 47 = .ok (.dload_n 2, 1) := by decide +kernel
theorem d_Pc_cell_48 : decode b_Pc_cell 48 = .ok (.dastore, 1) := by decide +kernel
theorem d_Pc_cell_49 : decode b_Pc_cell 49 = .ok (.return_, 1) := by decide +kernel
theorem d_Pc_start_0 : decode b_Pc_start 0 = .ok (.iload_n 1, 1) := by decide +kernel
theorem d_Pc_start_1 : decode b_Pc_start 1 = .ok (.bipush 23, 2) := by decide +kernel
theorem d_Pc_start_3 : decode b_Pc_start 3 = .ok (.invokestatic 73, 3) := by decide +kernel
theorem d_Pc_start_6 : decode b_Pc_start 6 = .ok (.aload_n 0, 1) := by decide +kernel
theorem d_Pc_start_7 : decode b_Pc_start 7 = .ok (.iload_n 1, 1) := by decide +kernel
theorem d_Pc_start_8 : decode b_Pc_start 8 = .ok (.putfield 61, 3) := by decide +kernel
theorem d_Pc_start_11 : decode b_Pc_start 11 = .ok (.aload_n 0, 1) := by decide +kernel
theorem d_Pc_start_12 : decode b_Pc_start 12 = .ok (.iconst 0, 1) := by decide +kernel
theorem d_Pc_start_13 : decode b_Pc_start 13 = .ok (.putfield 65, 3) := by decide +kernel
theorem d_Pc_start_16 : decode b_Pc_start 16 = .ok (.aload_n 0, 1) := by decide +kernel
theorem d_Pc_start_17 : decode b_Pc_start 17 = .ok (.iconst 0, 1) := by decide +kernel
theorem d_Pc_start_18 : decode b_Pc_start 18 = .ok (.putfield 69, 3) := by decide +kernel
theorem d_Pc_start_21 : decode b_Pc_start 21 = .ok (.aload_n 0, 1) := by decide +kernel
theorem d_Pc_start_22 : decode b_Pc_start 22 = .ok (.getfield 19, 3) := by decide +kernel
theorem d_Pc_start_25 : decode b_Pc_start 25 = .ok (.iconst 0, 1) := by decide +kernel
theorem d_Pc_start_26 : decode b_Pc_start 26 = .ok (.invokestatic 88, 3) := by decide +kernel
theorem d_Pc_start_29 : decode b_Pc_start 29 = .ok (.aload_n 0, 1) := by decide +kernel
theorem d_Pc_start_30 : decode b_Pc_start 30 = .ok (.getfield 23, 3) := by decide +kernel
theorem d_Pc_start_33 : decode b_Pc_start 33 = .ok (.dconst 0, 1) := by decide +kernel
theorem d_Pc_start_34 : decode b_Pc_start 34 = .ok (.invokestatic 94, 3) := by decide +kernel
theorem d_Pc_start_37 : decode b_Pc_start 37 = .ok (.aload_n 0, 1) := by decide +kernel
theorem d_Pc_start_38 : decode b_Pc_start 38 = .ok (.getfield 29, 3) := by decide +kernel
theorem d_Pc_start_41 : decode b_Pc_start 41 = .ok (.invokevirtual 97, 3) := by decide +kernel
theorem d_Pc_start_44 : decode b_Pc_start 44 = .ok (.aload_n 0, 1) := by decide +kernel
theorem d_Pc_start_45 : decode b_Pc_start 45 = .ok (.getfield 36, 3) := by decide +kernel
theorem d_Pc_start_48 : decode b_Pc_start 48 = .ok (.invokevirtual 100, 3) := by decide +kernel
theorem d_Pc_start_51 : decode b_Pc_start 51 = .ok (.aload_n 0, 1) := by decide +kernel
theorem d_Pc_start_52 : decode b_Pc_start 52 = .ok (.getfield 43, 3) := by decide +kernel
theorem d_Pc_start_55 : decode b_Pc_start 55 = .ok (.invokevirtual 103, 3) := by decide +kernel
theorem d_Pc_start_58 : decode b_Pc_start 58 = .ok (.aload_n 0, 1) := by decide +kernel
theorem d_Pc_start_59 : decode b_Pc_start 59 = .ok (.getfield 50, 3) := by decide +kernel
theorem d_Pc_start_62 : decode b_Pc_start 62 = .ok (.invokevirtual 104, 3) := by decide +kernel
theorem d_Pc_start_65 : decode b_Pc_start 65 = .ok (.return_, 1) := by decide +kernel
theorem d_Pc_run_0 : decode b_Pc_run 0 = .ok (.iload_n 1, 1) := by decide +kernel
theorem d_Pc_run_1 : decode b_Pc_run 1 = .ok (.iconst 1, 1) := by decide +kernel
theorem d_Pc_run_2 : decode b_Pc_run 2 = .ok (.if_icmp .lt 10, 3) := by decide +kernel
theorem d_Pc_run_5 : decode b_Pc_run 5 = .ok (.iload_n 1, 1) := by decide +kernel
theorem d_Pc_run_6 : decode b_Pc_run 6 = .ok (.sipush 300, 3) := by decide +kernel
theorem d_Pc_run_9 : decode b_Pc_run 9 = .ok (.if_icmp .le 11, 3) := by decide +kernel
theorem d_Pc_run_12 : decode b_Pc_run 12 = .ok (.new 85, 3) := by decide +kernel
theorem d_Pc_run_15 : decode b_Pc_run 15 = .ok (.dup, 1) := by decide +kernel
theorem d_Pc_run_16 : decode b_Pc_run 16 = .ok (.invokespecial 87, 3) := by decide +kernel
theorem d_Pc_run_19 : decode b_Pc_run 19 = .ok (.athrow, 1) := by decide +kernel
theorem d_Pc_run_20 : decode b_Pc_run 20 = .ok (.aload_n 0, 1) := by decide +kernel
theorem d_Pc_run_21 : decode b_Pc_run 21 = .ok (.getfield 65, 3) := by decide +kernel
theorem d_Pc_run_24 : decode b_Pc_run 24 = .ok (.ifCond .eq 11, 3) := by decide +kernel
theorem d_Pc_run_27 : decode b_Pc_run 27 = .ok (.new 105, 3) := by decide +kernel
theorem d_Pc_run_30 : decode b_Pc_run 30 = .ok (.dup, 1) := by decide +kernel
theorem d_Pc_run_31 : decode b_Pc_run 31 = .ok (.invokespecial 107, 3) := by decide +kernel
theorem d_Pc_run_34 : decode b_Pc_run 34 = .ok (.athrow, 1) := by decide +kernel
theorem d_Pc_run_35 : decode b_Pc_run 35 = .ok (.iconst 0, 1) := by decide +kernel
theorem d_Pc_run_36 : decode b_Pc_run 36 = .ok (.istore_n 2, 1) := by decide +kernel
theorem d_Pc_run_37 : decode b_Pc_run 37 = .ok (.iload_n 2, 1) := by decide +kernel
theorem d_Pc_run_38 : decode b_Pc_run 38 = .ok (.iload_n 1, 1) := by decide +kernel
theorem d_Pc_run_39 : decode b_Pc_run 39 = .ok (.if_icmp .ge 20, 3) := by decide +kernel
theorem d_Pc_run_42 : decode b_Pc_run 42 = .ok (.aload_n 0, 1) := by decide +kernel
theorem d_Pc_run_43 : decode b_Pc_run 43 = .ok (.getfield 65, 3) := by decide +kernel
theorem d_Pc_run_46 : decode b_Pc_run 46 = .ok (.ifCond .ne 13, 3) := by decide +kernel
theorem d_Pc_run_49 : decode b_Pc_run 49 = .ok (.aload_n 0, 1) := by decide +kernel
theorem d_Pc_run_50 : decode b_Pc_run 50 = .ok (.invokevirtual 108, 3) := by decide +kernel
theorem d_Pc_run_53 : decode b_Pc_run 53 = .ok (.iinc 2 1, 3) := by decide +kernel
theorem d_Pc_run_56 : decode b_Pc_run 56 = .ok (.goto (-19), 3) := by decide +kernel
theorem d_Pc_run_59 : decode b_Pc_run 59 = .ok (.iload_n 2, 1) := by decide +kernel
theorem d_Pc_run_60 : decode b_Pc_run 60 = .ok (.ireturn, 1) := by decide +kernel
theorem d_Pc_schedule_0 : decode b_Pc_schedule 0 = .ok (.aload_n 0, 1) := by decide +kernel
theorem d_Pc_schedule_1 : decode b_Pc_schedule 1 = .ok (.getfield 57, 3) := by decide +kernel
theorem d_Pc_schedule_4 : decode b_Pc_schedule 4 = .ok (.aload_n 0, 1) := by decide +kernel
theorem d_Pc_schedule_5 : decode b_Pc_schedule 5 = .ok (.getfield 11, 3) := by decide +kernel
theorem d_Pc_schedule_8 : decode b_Pc_schedule 8 = .ok (.invokevirtual 111, 3) := by decide +kernel
theorem d_Pc_schedule_11 : decode b_Pc_schedule 11 = .ok (.ireturn, 1) := by decide +kernel
theorem d_Pc_whole_0 : decode b_Pc_whole 0 = .ok (.iload_n 1, 1) := by decide +kernel
theorem d_Pc_whole_1 : decode b_Pc_whole 1 = .ok (.bipush 7, 2) := by decide +kernel
theorem d_Pc_whole_3 : decode b_Pc_whole 3 = .ok (.invokestatic 73, 3) := by decide +kernel
theorem d_Pc_whole_6 : decode b_Pc_whole 6 = .ok (.aload_n 0, 1) := by decide +kernel
theorem d_Pc_whole_7 : decode b_Pc_whole 7 = .ok (.getfield 19, 3) := by decide +kernel
theorem d_Pc_whole_10 : decode b_Pc_whole 10 = .ok (.iload_n 1, 1) := by decide +kernel
theorem d_Pc_whole_11 : decode b_Pc_whole 11 = .ok (.iaload, 1) := by decide +kernel
theorem d_Pc_whole_12 : decode b_Pc_whole 12 = .ok (.ireturn, 1) := by decide +kernel
theorem d_Pc_fraction_0 : decode b_Pc_fraction 0 = .ok (.iload_n 1, 1) := by decide +kernel
theorem d_Pc_fraction_1 : decode b_Pc_fraction 1 = .ok (.iconst 3, 1) := by decide +kernel
theorem d_Pc_fraction_2 : decode b_Pc_fraction 2 = .ok (.invokestatic 73, 3) := by decide +kernel
theorem d_Pc_fraction_5 : decode b_Pc_fraction 5 = .ok (.aload_n 0, 1) := by decide +kernel
theorem d_Pc_fraction_6 : decode b_Pc_fraction 6 = .ok (.getfield 23, 3) := by decide +kernel
theorem d_Pc_fraction_9 : decode b_Pc_fraction 9 = .ok (.iload_n 1, 1) := by decide +kernel
theorem d_Pc_fraction_10 : decode b_Pc_fraction 10 = .ok (.daload, 1) := by decide +kernel
theorem d_Pc_fraction_11 : decode b_Pc_fraction 11 = .ok (.dreturn, 1) := by decide +kernel
theorem d_Pc_memory_0 : decode b_Pc_memory 0 = .ok (.iload_n 1, 1) := by decide +kernel
theorem d_Pc_memory_1 : decode b_Pc_memory 1 = .ok (.bipush 47, 2) := by decide +kernel
theorem d_Pc_memory_3 : decode b_Pc_memory 3 = .ok (.invokestatic 73, 3) := by decide +kernel
theorem d_Pc_memory_6 : decode b_Pc_memory 6 = .ok (.aload_n 0, 1) := by decide +kernel
theorem d_Pc_memory_7 : decode b_Pc_memory 7 = .ok (.getfield 15, 3) := by decide +kernel
theorem d_Pc_memory_10 : decode b_Pc_memory 10 = .ok (.iload_n 1, 1) := by decide +kernel
theorem d_Pc_memory_11 : decode b_Pc_memory 11 = .ok (.daload, 1) := by decide +kernel
theorem d_Pc_memory_12 : decode b_Pc_memory 12 = .ok (.dreturn, 1) := by decide +kernel
theorem d_Pc_told_0 : decode b_Pc_told 0 = .ok (.iload_n 1, 1) := by decide +kernel
theorem d_Pc_told_1 : decode b_Pc_told 1 = .ok (.bipush 23, 2) := by decide +kernel
theorem d_Pc_told_3 : decode b_Pc_told 3 = .ok (.invokestatic 73, 3) := by decide +kernel
theorem d_Pc_told_6 : decode b_Pc_told 6 = .ok (.iload_n 2, 1) := by decide +kernel
theorem d_Pc_told_7 : decode b_Pc_told 7 = .ok (.iconst 4, 1) := by decide +kernel
theorem d_Pc_told_8 : decode b_Pc_told 8 = .ok (.invokestatic 73, 3) := by decide +kernel
theorem d_Pc_told_11 : decode b_Pc_told 11 = .ok (.aload_n 0, 1) := by decide +kernel
theorem d_Pc_told_12 : decode b_Pc_told 12 = .ok (.getfield 11, 3) := by decide +kernel
theorem d_Pc_told_15 : decode b_Pc_told 15 = .ok (.iload_n 1, 1) := by decide +kernel
theorem d_Pc_told_16 : decode b_Pc_told 16 = .ok (.aaload, 1) := by decide +kernel
theorem d_Pc_told_17 : decode b_Pc_told 17 = .ok (.astore_n 3, 1) := by decide +kernel
theorem d_Pc_told_18 : decode b_Pc_told 18 = .ok (.iload_n 2, 1) := by decide +kernel
theorem d_Pc_told_19 : decode b_Pc_told 19 = .ok (.tableswitch 49 0 3 #[29, 34, 39, 44], 29) := by decide +kernel
theorem d_Pc_told_48 : decode b_Pc_told 48 = .ok (.aload_n 3, 1) := by decide +kernel
theorem d_Pc_told_49 : decode b_Pc_told 49 = .ok (.getfield 115, 3) := by decide +kernel
theorem d_Pc_told_52 : decode b_Pc_told 52 = .ok (.ireturn, 1) := by decide +kernel
theorem d_Pc_told_53 : decode b_Pc_told 53 = .ok (.aload_n 3, 1) := by decide +kernel
theorem d_Pc_told_54 : decode b_Pc_told 54 = .ok (.getfield 118, 3) := by decide +kernel
theorem d_Pc_told_57 : decode b_Pc_told 57 = .ok (.ireturn, 1) := by decide +kernel
theorem d_Pc_told_58 : decode b_Pc_told 58 = .ok (.aload_n 3, 1) := by decide +kernel
theorem d_Pc_told_59 : decode b_Pc_told 59 = .ok (.getfield 121, 3) := by decide +kernel
theorem d_Pc_told_62 : decode b_Pc_told 62 = .ok (.ireturn, 1) := by decide +kernel
theorem d_Pc_told_63 : decode b_Pc_told 63 = .ok (.aload_n 3, 1) := by decide +kernel
theorem d_Pc_told_64 : decode b_Pc_told 64 = .ok (.getfield 124, 3) := by decide +kernel
theorem d_Pc_told_67 : decode b_Pc_told 67 = .ok (.ireturn, 1) := by decide +kernel
theorem d_Pc_told_68 : decode b_Pc_told 68 = .ok (.aload_n 3, 1) := by decide +kernel
theorem d_Pc_told_69 : decode b_Pc_told 69 = .ok (.getfield 127, 3) := by decide +kernel
theorem d_Pc_told_72 : decode b_Pc_told 72 = .ok (.ireturn, 1) := by decide +kernel
theorem d_Pc_count_0 : decode b_Pc_count 0 = .ok (.iload_n 1, 1) := by decide +kernel
theorem d_Pc_count_1 : decode b_Pc_count 1 = .ok (.bipush 10, 2) := by decide +kernel
theorem d_Pc_count_3 : decode b_Pc_count 3 = .ok (.if_icmp .lt 22, 3) := by decide +kernel
theorem d_Pc_count_6 : decode b_Pc_count 6 = .ok (.iload_n 1, 1) := by decide +kernel
theorem d_Pc_count_7 : decode b_Pc_count 7 = .ok (.bipush 18, 2) := by decide +kernel
theorem d_Pc_count_9 : decode b_Pc_count 9 = .ok (.if_icmp .ge 16, 3) := by decide +kernel
theorem d_Pc_count_12 : decode b_Pc_count 12 = .ok (.aload_n 0, 1) := by decide +kernel
theorem d_Pc_count_13 : decode b_Pc_count 13 = .ok (.getfield 29, 3) := by decide +kernel
theorem d_Pc_count_16 : decode b_Pc_count 16 = .ok (.getfield 130, 3) := by decide +kernel
theorem d_Pc_count_19 : decode b_Pc_count 19 = .ok (.iload_n 1, 1) := by decide +kernel
theorem d_Pc_count_20 : decode b_Pc_count 20 = .ok (.bipush 10, 2) := by decide +kernel
theorem d_Pc_count_22 : decode b_Pc_count 22 = .ok (.isub, 1) := by decide +kernel
theorem d_Pc_count_23 : decode b_Pc_count 23 = .ok (.iaload, 1) := by decide +kernel
theorem d_Pc_count_24 : decode b_Pc_count 24 = .ok (.ireturn, 1) := by decide +kernel
theorem d_Pc_count_25 : decode b_Pc_count 25 = .ok (.iload_n 1, 1) := by decide +kernel
theorem d_Pc_count_26 : decode b_Pc_count 26 = .ok (.bipush 20, 2) := by decide +kernel
theorem d_Pc_count_28 : decode b_Pc_count 28 = .ok (.if_icmp .lt 25, 3) := by decide +kernel
theorem d_Pc_count_31 : decode b_Pc_count 31 = .ok (.iload_n 1, 1) := by decide +kernel
theorem d_Pc_count_32 : decode b_Pc_count 32 = .ok (.bipush 24, 2) := by decide +kernel
theorem d_Pc_count_34 : decode b_Pc_count 34 = .ok (.if_icmp .ge 19, 3) := by decide +kernel
theorem d_Pc_count_37 : decode b_Pc_count 37 = .ok (.aload_n 0, 1) := by decide +kernel
theorem d_Pc_count_38 : decode b_Pc_count 38 = .ok (.getfield 29, 3) := by decide +kernel
theorem d_Pc_count_41 : decode b_Pc_count 41 = .ok (.getfield 130, 3) := by decide +kernel
theorem d_Pc_count_44 : decode b_Pc_count 44 = .ok (.bipush 8, 2) := by decide +kernel
theorem d_Pc_count_46 : decode b_Pc_count 46 = .ok (.iload_n 1, 1) := by decide +kernel
theorem d_Pc_count_47 : decode b_Pc_count 47 = .ok (.iadd, 1) := by decide +kernel
theorem d_Pc_count_48 : decode b_Pc_count 48 = .ok (.bipush 20, 2) := by decide +kernel
theorem d_Pc_count_50 : decode b_Pc_count 50 = .ok (.isub, 1) := by decide +kernel
theorem d_Pc_count_51 : decode b_Pc_count 51 = .ok (.iaload, 1) := by decide +kernel
theorem d_Pc_count_52 : decode b_Pc_count 52 = .ok (.ireturn, 1) := by decide +kernel
theorem d_Pc_count_53 : decode b_Pc_count 53 = .ok (.iload_n 1, 1) := by decide +kernel
theorem d_Pc_count_54 : decode b_Pc_count 54 = .ok (.tableswitch 97 0 6 #[42, 47, 60, 65, 73, 81, 89], 42) := by decide +kernel
theorem d_Pc_count_96 : decode b_Pc_count 96 = .ok (.aload_n 0, 1) := by decide +kernel
theorem d_Pc_count_97 : decode b_Pc_count 97 = .ok (.getfield 61, 3) := by decide +kernel
theorem d_Pc_count_100 : decode b_Pc_count 100 = .ok (.ireturn, 1) := by decide +kernel
theorem d_Pc_count_101 : decode b_Pc_count 101 = .ok (.aload_n 0, 1) := by decide +kernel
theorem d_Pc_count_102 : decode b_Pc_count 102 = .ok (.getfield 65, 3) := by decide +kernel
theorem d_Pc_count_105 : decode b_Pc_count 105 = .ok (.ifCond .eq 7, 3) := by decide +kernel
theorem d_Pc_count_108 : decode b_Pc_count 108 = .ok (.iconst 1, 1) := by decide +kernel
theorem d_Pc_count_109 : decode b_Pc_count 109 = .ok (.goto 4, 3) := by decide +kernel
theorem d_Pc_count_112 : decode b_Pc_count 112 = .ok (.iconst 0, 1) := by decide +kernel
theorem d_Pc_count_113 : decode b_Pc_count 113 = .ok (.ireturn, 1) := by decide +kernel
theorem d_Pc_count_114 : decode b_Pc_count 114 = .ok (.aload_n 0, 1) := by decide +kernel
theorem d_Pc_count_115 : decode b_Pc_count 115 = .ok (.getfield 69, 3) := by decide +kernel
theorem d_Pc_count_118 : decode b_Pc_count 118 = .ok (.ireturn, 1) := by decide +kernel
theorem d_Pc_count_119 : decode b_Pc_count 119 = .ok (.aload_n 0, 1) := by decide +kernel
theorem d_Pc_count_120 : decode b_Pc_count 120 = .ok (.getfield 29, 3) := by decide +kernel
theorem d_Pc_count_123 : decode b_Pc_count 123 = .ok (.getfield 133, 3) := by decide +kernel
theorem d_Pc_count_126 : decode b_Pc_count 126 = .ok (.ireturn, 1) := by decide +kernel
theorem d_Pc_count_127 : decode b_Pc_count 127 = .ok (.aload_n 0, 1) := by decide +kernel
theorem d_Pc_count_128 : decode b_Pc_count 128 = .ok (.getfield 36, 3) := by decide +kernel
theorem d_Pc_count_131 : decode b_Pc_count 131 = .ok (.getfield 136, 3) := by decide +kernel
theorem d_Pc_count_134 : decode b_Pc_count 134 = .ok (.ireturn, 1) := by decide +kernel
theorem d_Pc_count_135 : decode b_Pc_count 135 = .ok (.aload_n 0, 1) := by decide +kernel
theorem d_Pc_count_136 : decode b_Pc_count 136 = .ok (.getfield 43, 3) := by decide +kernel
theorem d_Pc_count_139 : decode b_Pc_count 139 = .ok (.getfield 139, 3) := by decide +kernel
theorem d_Pc_count_142 : decode b_Pc_count 142 = .ok (.ireturn, 1) := by decide +kernel
theorem d_Pc_count_143 : decode b_Pc_count 143 = .ok (.aload_n 0, 1) := by decide +kernel
theorem d_Pc_count_144 : decode b_Pc_count 144 = .ok (.getfield 50, 3) := by decide +kernel
theorem d_Pc_count_147 : decode b_Pc_count 147 = .ok (.getfield 140, 3) := by decide +kernel
theorem d_Pc_count_150 : decode b_Pc_count 150 = .ok (.ireturn, 1) := by decide +kernel
theorem d_Pc_count_151 : decode b_Pc_count 151 = .ok (.bipush (-2), 2) := by decide +kernel
theorem d_Pc_count_153 : decode b_Pc_count 153 = .ok (.ireturn, 1) := by decide +kernel
theorem d_Pc_refuseOutside_0 : decode b_Pc_refuseOutside 0 = .ok (.iload_n 0, 1) := by decide +kernel
theorem d_Pc_refuseOutside_1 : decode b_Pc_refuseOutside 1 = .ok (.ifCond .lt 8, 3) := by decide +kernel
theorem d_Pc_refuseOutside_4 : decode b_Pc_refuseOutside 4 = .ok (.iload_n 0, 1) := by decide +kernel
theorem d_Pc_refuseOutside_5 : decode b_Pc_refuseOutside 5 = .ok (.iload_n 1, 1) := by decide +kernel
theorem d_Pc_refuseOutside_6 : decode b_Pc_refuseOutside 6 = .ok (.if_icmp .le 11, 3) := by decide +kernel
theorem d_Pc_refuseOutside_9 : decode b_Pc_refuseOutside 9 = .ok (.new 85, 3) := by decide +kernel
theorem d_Pc_refuseOutside_12 : decode b_Pc_refuseOutside 12 = .ok (.dup, 1) := by decide +kernel
theorem d_Pc_refuseOutside_13 : decode b_Pc_refuseOutside 13 = .ok (.invokespecial 87, 3) := by decide +kernel
theorem d_Pc_refuseOutside_16 : decode b_Pc_refuseOutside 16 = .ok (.athrow, 1) := by decide +kernel
theorem d_Pc_refuseOutside_17 : decode b_Pc_refuseOutside 17 = .ok (.return_, 1) := by decide +kernel
theorem d_Pc_doOne_0 : decode b_Pc_doOne 0 = .ok (.aload_n 0, 1) := by decide +kernel
theorem d_Pc_doOne_1 : decode b_Pc_doOne 1 = .ok (.getfield 11, 3) := by decide +kernel
theorem d_Pc_doOne_4 : decode b_Pc_doOne 4 = .ok (.aload_n 0, 1) := by decide +kernel
theorem d_Pc_doOne_5 : decode b_Pc_doOne 5 = .ok (.getfield 61, 3) := by decide +kernel
theorem d_Pc_doOne_8 : decode b_Pc_doOne 8 = .ok (.aaload, 1) := by decide +kernel
theorem d_Pc_doOne_9 : decode b_Pc_doOne 9 = .ok (.astore_n 1, 1) := by decide +kernel
theorem d_Pc_doOne_10 : decode b_Pc_doOne 10 = .ok (.aload_n 0, 1) := by decide +kernel
theorem d_Pc_doOne_11 : decode b_Pc_doOne 11 = .ok (.getfield 36, 3) := by decide +kernel
theorem d_Pc_doOne_14 : decode b_Pc_doOne 14 = .ok (.aload_n 0, 1) := by decide +kernel
theorem d_Pc_doOne_15 : decode b_Pc_doOne 15 = .ok (.getfield 61, 3) := by decide +kernel
theorem d_Pc_doOne_18 : decode b_Pc_doOne 18 = .ok (.iconst 4, 1) := by decide +kernel
theorem d_Pc_doOne_19 : decode b_Pc_doOne 19 = .ok (.idiv, 1) := by decide +kernel
theorem d_Pc_doOne_20 : decode b_Pc_doOne 20 = .ok (.invokevirtual 143, 3) := by decide +kernel
theorem d_Pc_doOne_23 : decode b_Pc_doOne 23 = .ok (.istore_n 2, 1) := by decide +kernel
theorem d_Pc_doOne_24 : decode b_Pc_doOne 24 = .ok (.iconst 0, 1) := by decide +kernel
theorem d_Pc_doOne_25 : decode b_Pc_doOne 25 = .ok (.istore_n 3, 1) := by decide +kernel
theorem d_Pc_doOne_26 : decode b_Pc_doOne 26 = .ok (.iconst 0, 1) := by decide +kernel
theorem d_Pc_doOne_27 : decode b_Pc_doOne 27 = .ok (.istore 4, 2) := by decide +kernel
theorem d_Pc_doOne_29 : decode b_Pc_doOne 29 = .ok (.iconst 0, 1) := by decide +kernel
theorem d_Pc_doOne_30 : decode b_Pc_doOne 30 = .ok (.istore 5, 2) := by decide +kernel
theorem d_Pc_doOne_32 : decode b_Pc_doOne 32 = .ok (.aload_n 1, 1) := by decide +kernel
theorem d_Pc_doOne_33 : decode b_Pc_doOne 33 = .ok (.invokevirtual 147, 3) := by decide +kernel
theorem d_Pc_doOne_36 : decode b_Pc_doOne 36 = .ok (.ifCond .eq 12, 3) := by decide +kernel
theorem d_Pc_doOne_39 : decode b_Pc_doOne 39 = .ok (.aload_n 0, 1) := by decide +kernel
theorem d_Pc_doOne_40 : decode b_Pc_doOne 40 = .ok (.aload_n 1, 1) := by decide +kernel
theorem d_Pc_doOne_41 : decode b_Pc_doOne 41 = .ok (.invokevirtual 151, 3) := by decide +kernel
theorem d_Pc_doOne_44 : decode b_Pc_doOne 44 = .ok (.istore_n 3, 1) := by decide +kernel
theorem d_Pc_doOne_45 : decode b_Pc_doOne 45 = .ok (.goto 72, 3) := by decide +kernel
theorem d_Pc_doOne_48 : decode b_Pc_doOne 48 = .ok (.aload_n 1, 1) := by decide +kernel
theorem d_Pc_doOne_49 : decode b_Pc_doOne 49 = .ok (.invokevirtual 155, 3) := by decide +kernel
theorem d_Pc_doOne_52 : decode b_Pc_doOne 52 = .ok (.ifCond .eq 45, 3) := by decide +kernel
theorem d_Pc_doOne_55 : decode b_Pc_doOne 55 = .ok (.aload_n 0, 1) := by decide +kernel
theorem d_Pc_doOne_56 : decode b_Pc_doOne 56 = .ok (.aload_n 1, 1) := by decide +kernel
theorem d_Pc_doOne_57 : decode b_Pc_doOne 57 = .ok (.invokevirtual 158, 3) := by decide +kernel
theorem d_Pc_doOne_60 : decode b_Pc_doOne 60 = .ok (.istore 4, 2) := by decide +kernel
theorem d_Pc_doOne_62 : decode b_Pc_doOne 62 = .ok (.aload_n 1, 1) := by decide +kernel
theorem d_Pc_doOne_63 : decode b_Pc_doOne 63 = .ok (.getfield 115, 3) := by decide +kernel
theorem d_Pc_doOne_66 : decode b_Pc_doOne 66 = .ok (.bipush 19, 2) := by decide +kernel
theorem d_Pc_doOne_68 : decode b_Pc_doOne 68 = .ok (.if_icmp .eq 23, 3) := by decide +kernel
theorem d_Pc_doOne_71 : decode b_Pc_doOne 71 = .ok (.aload_n 0, 1) := by decide +kernel
theorem d_Pc_doOne_72 : decode b_Pc_doOne 72 = .ok (.getfield 50, 3) := by decide +kernel
theorem d_Pc_doOne_75 : decode b_Pc_doOne 75 = .ok (.aload_n 0, 1) := by decide +kernel
theorem d_Pc_doOne_76 : decode b_Pc_doOne 76 = .ok (.getfield 61, 3) := by decide +kernel
theorem d_Pc_doOne_79 : decode b_Pc_doOne 79 = .ok (.iload 4, 2) := by decide +kernel
theorem d_Pc_doOne_81 : decode b_Pc_doOne 81 = .ok (.invokevirtual 161, 3) := by decide +kernel
theorem d_Pc_doOne_84 : decode b_Pc_doOne 84 = .ok (.ifCond .eq 7, 3) := by decide +kernel
theorem d_Pc_doOne_87 : decode b_Pc_doOne 87 = .ok (.iconst 1, 1) := by decide +kernel
theorem d_Pc_doOne_88 : decode b_Pc_doOne 88 = .ok (.goto 4, 3) := by decide +kernel
theorem d_Pc_doOne_91 : decode b_Pc_doOne 91 = .ok (.iconst 0, 1) := by decide +kernel
theorem d_Pc_doOne_92 : decode b_Pc_doOne 92 = .ok (.istore 5, 2) := by decide +kernel
theorem d_Pc_doOne_94 : decode b_Pc_doOne 94 = .ok (.goto 23, 3) := by decide +kernel
theorem d_Pc_doOne_97 : decode b_Pc_doOne 97 = .ok (.aload_n 1, 1) := by decide +kernel
theorem d_Pc_doOne_98 : decode b_Pc_doOne 98 = .ok (.getfield 115, 3) := by decide +kernel
theorem d_Pc_doOne_101 : decode b_Pc_doOne 101 = .ok (.ifCond .ne 11, 3) := by decide +kernel
theorem d_Pc_doOne_104 : decode b_Pc_doOne 104 = .ok (.aload_n 0, 1) := by decide +kernel
theorem d_Pc_doOne_105 : decode b_Pc_doOne 105 = .ok (.iconst 1, 1) := by decide +kernel
theorem d_Pc_doOne_106 : decode b_Pc_doOne 106 = .ok (.putfield 65, 3) := by decide +kernel
theorem d_Pc_doOne_109 : decode b_Pc_doOne 109 = .ok (.goto 8, 3) := by decide +kernel
theorem d_Pc_doOne_112 : decode b_Pc_doOne 112 = .ok (.aload_n 0, 1) := by decide +kernel
theorem d_Pc_doOne_113 : decode b_Pc_doOne 113 = .ok (.aload_n 1, 1) := by decide +kernel
theorem d_Pc_doOne_114 : decode b_Pc_doOne 114 = .ok (.invokevirtual 165, 3) := by decide +kernel
theorem d_Pc_doOne_117 : decode b_Pc_doOne 117 = .ok (.aload_n 0, 1) := by decide +kernel
theorem d_Pc_doOne_118 : decode b_Pc_doOne 118 = .ok (.getfield 29, 3) := by decide +kernel
theorem d_Pc_doOne_121 : decode b_Pc_doOne 121 = .ok (.aload_n 1, 1) := by decide +kernel
theorem d_Pc_doOne_122 : decode b_Pc_doOne 122 = .ok (.iload_n 2, 1) := by decide +kernel
theorem d_Pc_doOne_123 : decode b_Pc_doOne 123 = .ok (.iload_n 3, 1) := by decide +kernel
theorem d_Pc_doOne_124 : decode b_Pc_doOne 124 = .ok (.iload 5, 2) := by decide +kernel
theorem d_Pc_doOne_126 : decode b_Pc_doOne 126 = .ok (.invokevirtual 169, 3) := by decide +kernel
theorem d_Pc_doOne_129 : decode b_Pc_doOne 129 = .ok (.aload_n 0, 1) := by decide +kernel
theorem d_Pc_doOne_130 : decode b_Pc_doOne 130 = .ok (.dup, 1) := by decide +kernel
theorem d_Pc_doOne_131 : decode b_Pc_doOne 131 = .ok (.getfield 69, 3) := by decide +kernel
theorem d_Pc_doOne_134 : decode b_Pc_doOne 134 = .ok (.iconst 1, 1) := by decide +kernel
theorem d_Pc_doOne_135 : decode b_Pc_doOne 135 = .ok (.iadd, 1) := by decide +kernel
theorem d_Pc_doOne_136 : decode b_Pc_doOne 136 = .ok (.putfield 69, 3) := by decide +kernel
theorem d_Pc_doOne_139 : decode b_Pc_doOne 139 = .ok (.aload_n 0, 1) := by decide +kernel
theorem d_Pc_doOne_140 : decode b_Pc_doOne 140 = .ok (.getfield 65, 3) := by decide +kernel
theorem d_Pc_doOne_143 : decode b_Pc_doOne 143 = .ok (.ifCond .ne 28, 3) := by decide +kernel
theorem d_Pc_doOne_146 : decode b_Pc_doOne 146 = .ok (.aload_n 0, 1) := by decide +kernel
theorem d_Pc_doOne_147 : decode b_Pc_doOne 147 = .ok (.iload 4, 2) := by decide +kernel
theorem d_Pc_doOne_149 : decode b_Pc_doOne 149 = .ok (.ifCond .eq 10, 3) := by decide +kernel
theorem d_Pc_doOne_152 : decode b_Pc_doOne 152 = .ok (.aload_n 1, 1) := by decide +kernel
theorem d_Pc_doOne_153 : decode b_Pc_doOne 153 = .ok (.invokevirtual 173, 3) := by decide +kernel
theorem d_Pc_doOne_156 : decode b_Pc_doOne 156 = .ok (.goto 12, 3) := by decide +kernel
theorem d_Pc_doOne_159 : decode b_Pc_doOne 159 = .ok (.aload_n 0, 1) := by decide +kernel
theorem d_Pc_doOne_160 : decode b_Pc_doOne 160 = .ok (.getfield 61, 3) := by decide +kernel
theorem d_Pc_doOne_163 : decode b_Pc_doOne 163 = .ok (.iconst 1, 1) := by decide +kernel
theorem d_Pc_doOne_164 : decode b_Pc_doOne 164 = .ok (.iadd, 1) := by decide +kernel
theorem d_Pc_doOne_165 : decode b_Pc_doOne 165 = .ok (.bipush 24, 2) := by decide +kernel
theorem d_Pc_doOne_167 : decode b_Pc_doOne 167 = .ok (.irem, 1) := by decide +kernel
theorem d_Pc_doOne_168 : decode b_Pc_doOne 168 = .ok (.putfield 61, 3) := by decide +kernel
theorem d_Pc_doOne_171 : decode b_Pc_doOne 171 = .ok (.return_, 1) := by decide +kernel
theorem d_Pc_jumpIsDue_0 : decode b_Pc_jumpIsDue 0 = .ok (.aload_n 0, 1) := by decide +kernel
theorem d_Pc_jumpIsDue_1 : decode b_Pc_jumpIsDue 1 = .ok (.getfield 19, 3) := by decide +kernel
theorem d_Pc_jumpIsDue_4 : decode b_Pc_jumpIsDue 4 = .ok (.aload_n 1, 1) := by decide +kernel
theorem d_Pc_jumpIsDue_5 : decode b_Pc_jumpIsDue 5 = .ok (.getfield 121, 3) := by decide +kernel
theorem d_Pc_jumpIsDue_8 : decode b_Pc_jumpIsDue 8 = .ok (.iaload, 1) := by decide +kernel
theorem d_Pc_jumpIsDue_9 : decode b_Pc_jumpIsDue 9 = .ok (.aload_n 0, 1) := by decide +kernel
theorem d_Pc_jumpIsDue_10 : decode b_Pc_jumpIsDue 10 = .ok (.getfield 19, 3) := by decide +kernel
theorem d_Pc_jumpIsDue_13 : decode b_Pc_jumpIsDue 13 = .ok (.aload_n 1, 1) := by decide +kernel
theorem d_Pc_jumpIsDue_14 : decode b_Pc_jumpIsDue 14 = .ok (.getfield 124, 3) := by decide +kernel
theorem d_Pc_jumpIsDue_17 : decode b_Pc_jumpIsDue 17 = .ok (.iaload, 1) := by decide +kernel
theorem d_Pc_jumpIsDue_18 : decode b_Pc_jumpIsDue 18 = .ok (.if_icmp .ne 7, 3) := by decide +kernel
theorem d_Pc_jumpIsDue_21 : decode b_Pc_jumpIsDue 21 = .ok (.iconst 1, 1) := by decide +kernel
theorem d_Pc_jumpIsDue_22 : decode b_Pc_jumpIsDue 22 = .ok (.goto 4, 3) := by decide +kernel
theorem d_Pc_jumpIsDue_25 : decode b_Pc_jumpIsDue 25 = .ok (.iconst 0, 1) := by decide +kernel
theorem d_Pc_jumpIsDue_26 : decode b_Pc_jumpIsDue 26 = .ok (.istore_n 2, 1) := by decide +kernel
theorem d_Pc_jumpIsDue_27 : decode b_Pc_jumpIsDue 27 = .ok (.aload_n 1, 1) := by decide +kernel
theorem d_Pc_jumpIsDue_28 : decode b_Pc_jumpIsDue 28 = .ok (.getfield 115, 3) := by decide +kernel
theorem d_Pc_jumpIsDue_31 : decode b_Pc_jumpIsDue 31 = .ok (.lookupswitch 37 #[(17, 25), (18, 27)], 25) := by decide +kernel
theorem d_Pc_jumpIsDue_56 : decode b_Pc_jumpIsDue 56 = .ok (.iload_n 2, 1) := by decide +kernel
theorem d_Pc_jumpIsDue_57 : decode b_Pc_jumpIsDue 57 = .ok (.ireturn, 1) := by decide +kernel
theorem d_Pc_jumpIsDue_58 : decode b_Pc_jumpIsDue 58 = .ok (.iload_n 2, 1) := by decide +kernel
theorem d_Pc_jumpIsDue_59 : decode b_Pc_jumpIsDue 59 = .ok (.ifCond .ne 7, 3) := by decide +kernel
theorem d_Pc_jumpIsDue_62 : decode b_Pc_jumpIsDue 62 = .ok (.iconst 1, 1) := by decide +kernel
theorem d_Pc_jumpIsDue_63 : decode b_Pc_jumpIsDue 63 = .ok (.goto 4, 3) := by decide +kernel
theorem d_Pc_jumpIsDue_66 : decode b_Pc_jumpIsDue 66 = .ok (.iconst 0, 1) := by decide +kernel
theorem d_Pc_jumpIsDue_67 : decode b_Pc_jumpIsDue 67 = .ok (.ireturn, 1) := by decide +kernel
theorem d_Pc_jumpIsDue_68 : decode b_Pc_jumpIsDue 68 = .ok (.iconst 1, 1) := by decide +kernel
theorem d_Pc_jumpIsDue_69 : decode b_Pc_jumpIsDue 69 = .ok (.ireturn, 1) := by decide +kernel
theorem d_Pc_moveCell_0 : decode b_Pc_moveCell 0 = .ok (.aload_n 0, 1) := by decide +kernel
theorem d_Pc_moveCell_1 : decode b_Pc_moveCell 1 = .ok (.getfield 19, 3) := by decide +kernel
theorem d_Pc_moveCell_4 : decode b_Pc_moveCell 4 = .ok (.aload_n 1, 1) := by decide +kernel
theorem d_Pc_moveCell_5 : decode b_Pc_moveCell 5 = .ok (.getfield 121, 3) := by decide +kernel
theorem d_Pc_moveCell_8 : decode b_Pc_moveCell 8 = .ok (.iaload, 1) := by decide +kernel
theorem d_Pc_moveCell_9 : decode b_Pc_moveCell 9 = .ok (.aload_n 1, 1) := by decide +kernel
theorem d_Pc_moveCell_10 : decode b_Pc_moveCell 10 = .ok (.getfield 127, 3) := by decide +kernel
theorem d_Pc_moveCell_13 : decode b_Pc_moveCell 13 = .ok (.iadd, 1) := by decide +kernel
theorem d_Pc_moveCell_14 : decode b_Pc_moveCell 14 = .ok (.istore_n 2, 1) := by decide +kernel
theorem d_Pc_moveCell_15 : decode b_Pc_moveCell 15 = .ok (.iload_n 2, 1) := by decide +kernel
theorem d_Pc_moveCell_16 : decode b_Pc_moveCell 16 = .ok (.ifCond .lt 9, 3) := by decide +kernel
theorem d_Pc_moveCell_19 : decode b_Pc_moveCell 19 = .ok (.iload_n 2, 1) := by decide +kernel
theorem d_Pc_moveCell_20 : decode b_Pc_moveCell 20 = .ok (.bipush 48, 2) := by decide +kernel
theorem d_Pc_moveCell_22 : decode b_Pc_moveCell 22 = .ok (.if_icmp .lt 16, 3) := by decide +kernel
theorem d_Pc_moveCell_25 : decode b_Pc_moveCell 25 = .ok (.aload_n 0, 1) := by decide +kernel
theorem d_Pc_moveCell_26 : decode b_Pc_moveCell 26 = .ok (.iconst 1, 1) := by decide +kernel
theorem d_Pc_moveCell_27 : decode b_Pc_moveCell 27 = .ok (.putfield 65, 3) := by decide +kernel
theorem d_Pc_moveCell_30 : decode b_Pc_moveCell 30 = .ok (.new 177, 3) := by decide +kernel
theorem d_Pc_moveCell_33 : decode b_Pc_moveCell 33 = .ok (.dup, 1) := by decide +kernel
theorem d_Pc_moveCell_34 : decode b_Pc_moveCell 34 = .ok (.invokespecial 179, 3) := by decide +kernel
theorem d_Pc_moveCell_37 : decode b_Pc_moveCell 37 = .ok (.athrow, 1) := by decide +kernel
theorem d_Pc_moveCell_38 : decode b_Pc_moveCell 38 = .ok (.aload_n 1, 1) := by decide +kernel
theorem d_Pc_moveCell_39 : decode b_Pc_moveCell 39 = .ok (.getfield 115, 3) := by decide +kernel
theorem d_Pc_moveCell_42 : decode b_Pc_moveCell 42 = .ok (.tableswitch 83 6 8 #[26, 44, 63], 26) := by decide +kernel
theorem d_Pc_moveCell_68 : decode b_Pc_moveCell 68 = .ok (.aload_n 0, 1) := by decide +kernel
theorem d_Pc_moveCell_69 : decode b_Pc_moveCell 69 = .ok (.aload_n 1, 1) := by decide +kernel
theorem d_Pc_moveCell_70 : decode b_Pc_moveCell 70 = .ok (.getfield 118, 3) := by decide +kernel
theorem d_Pc_moveCell_73 : decode b_Pc_moveCell 73 = .ok (.aload_n 0, 1) := by decide +kernel
theorem d_Pc_moveCell_74 : decode b_Pc_moveCell 74 = .ok (.getfield 15, 3) := by decide +kernel
theorem d_Pc_moveCell_77 : decode b_Pc_moveCell 77 = .ok (.iload_n 2, 1) := by decide +kernel
theorem d_Pc_moveCell_78 : decode b_Pc_moveCell 78 = .ok (.daload, 1) := by decide +kernel
theorem d_Pc_moveCell_79 : decode b_Pc_moveCell 79 = .ok (.d2i, 1) := by decide +kernel
theorem d_Pc_moveCell_80 : decode b_Pc_moveCell 80 = .ok (.invokevirtual 180, 3) := by decide +kernel
theorem d_Pc_moveCell_83 : decode b_Pc_moveCell 83 = .ok (.goto 59, 3) := by decide +kernel
theorem d_Pc_moveCell_86 : decode b_Pc_moveCell 86 = .ok (.aload_n 0, 1) := by decide +kernel
theorem d_Pc_moveCell_87 : decode b_Pc_moveCell 87 = .ok (.getfield 15, 3) := by decide +kernel
theorem d_Pc_moveCell_90 : decode b_Pc_moveCell 90 = .ok (.iload_n 2, 1) := by decide +kernel
theorem d_Pc_moveCell_91 : decode b_Pc_moveCell 91 = .ok (.aload_n 0, 1) := by decide +kernel
theorem d_Pc_moveCell_92 : decode b_Pc_moveCell 92 = .ok (.getfield 19, 3) := by decide +kernel
theorem d_Pc_moveCell_95 : decode b_Pc_moveCell 95 = .ok (.aload_n 1, 1) := by decide +kernel
theorem d_Pc_moveCell_96 : decode b_Pc_moveCell 96 = .ok (.getfield 124, 3) := by decide +kernel
theorem d_Pc_moveCell_99 : decode b_Pc_moveCell 99 = .ok (.iaload, 1) := by decide +kernel
theorem d_Pc_moveCell_100 : decode b_Pc_moveCell 100 = .ok (.i2d, 1) := by decide +kernel
theorem d_Pc_moveCell_101 : decode b_Pc_moveCell 101 = .ok (.dastore, 1) := by decide +kernel
theorem d_Pc_moveCell_102 : decode b_Pc_moveCell 102 = .ok (.goto 40, 3) := by decide +kernel
theorem d_Pc_moveCell_105 : decode b_Pc_moveCell 105 = .ok (.aload_n 0, 1) := by decide +kernel
theorem d_Pc_moveCell_106 : decode b_Pc_moveCell 106 = .ok (.getfield 23, 3) := by decide +kernel
theorem d_Pc_moveCell_109 : decode b_Pc_moveCell 109 = .ok (.aload_n 1, 1) := by decide +kernel
theorem d_Pc_moveCell_110 : decode b_Pc_moveCell 110 = .ok (.getfield 118, 3) := by decide +kernel
theorem d_Pc_moveCell_113 : decode b_Pc_moveCell 113 = .ok (.iconst 4, 1) := by decide +kernel
theorem d_Pc_moveCell_114 : decode b_Pc_moveCell 114 = .ok (.irem, 1) := by decide +kernel
theorem d_Pc_moveCell_115 : decode b_Pc_moveCell 115 = .ok (.aload_n 0, 1) := by decide +kernel
theorem d_Pc_moveCell_116 : decode b_Pc_moveCell 116 = .ok (.getfield 15, 3) := by decide +kernel
theorem d_Pc_moveCell_119 : decode b_Pc_moveCell 119 = .ok (.iload_n 2, 1) := by decide +kernel
theorem d_Pc_moveCell_120 : decode b_Pc_moveCell 120 = .ok (.daload, 1) := by decide +kernel
theorem d_Pc_moveCell_121 : decode b_Pc_moveCell 121 = .ok (.dastore, 1) := by decide +kernel
theorem d_Pc_moveCell_122 : decode b_Pc_moveCell 122 = .ok (.goto 20, 3) := by decide +kernel
theorem d_Pc_moveCell_125 : decode b_Pc_moveCell 125 = .ok (.aload_n 0, 1) := by decide +kernel
theorem d_Pc_moveCell_126 : decode b_Pc_moveCell 126 = .ok (.getfield 15, 3) := by decide +kernel
theorem d_Pc_moveCell_129 : decode b_Pc_moveCell 129 = .ok (.iload_n 2, 1) := by decide +kernel
theorem d_Pc_moveCell_130 : decode b_Pc_moveCell 130 = .ok (.aload_n 0, 1) := by decide +kernel
theorem d_Pc_moveCell_131 : decode b_Pc_moveCell 131 = .ok (.getfield 23, 3) := by decide +kernel
theorem d_Pc_moveCell_134 : decode b_Pc_moveCell 134 = .ok (.aload_n 1, 1) := by decide +kernel
theorem d_Pc_moveCell_135 : decode b_Pc_moveCell 135 = .ok (.getfield 124, 3) := by decide +kernel
theorem d_Pc_moveCell_138 : decode b_Pc_moveCell 138 = .ok (.iconst 4, 1) := by decide +kernel
theorem d_Pc_moveCell_139 : decode b_Pc_moveCell 139 = .ok (.irem, 1) := by decide +kernel
theorem d_Pc_moveCell_140 : decode b_Pc_moveCell 140 = .ok (.daload, 1) := by decide +kernel
theorem d_Pc_moveCell_141 : decode b_Pc_moveCell 141 = .ok (.dastore, 1) := by decide +kernel
theorem d_Pc_moveCell_142 : decode b_Pc_moveCell 142 = .ok (.aload_n 0, 1) := by decide +kernel
theorem d_Pc_moveCell_143 : decode b_Pc_moveCell 143 = .ok (.getfield 43, 3) := by decide +kernel
theorem d_Pc_moveCell_146 : decode b_Pc_moveCell 146 = .ok (.iload_n 2, 1) := by decide +kernel
theorem d_Pc_moveCell_147 : decode b_Pc_moveCell 147 = .ok (.iconst 4, 1) := by decide +kernel
theorem d_Pc_moveCell_148 : decode b_Pc_moveCell 148 = .ok (.idiv, 1) := by decide +kernel
theorem d_Pc_moveCell_149 : decode b_Pc_moveCell 149 = .ok (.invokevirtual 183, 3) := by decide +kernel
theorem d_Pc_moveCell_152 : decode b_Pc_moveCell 152 = .ok (.ireturn, 1) := by decide +kernel
theorem d_Pc_compute_0 : decode b_Pc_compute 0 = .ok (.aload_n 1, 1) := by decide +kernel
theorem d_Pc_compute_1 : decode b_Pc_compute 1 = .ok (.getfield 115, 3) := by decide +kernel
theorem d_Pc_compute_4 : decode b_Pc_compute 4 = .ok (.iconst 5, 1) := by decide +kernel
theorem d_Pc_compute_5 : decode b_Pc_compute 5 = .ok (.if_icmp .gt 17, 3) := by decide +kernel
theorem d_Pc_compute_8 : decode b_Pc_compute 8 = .ok (.aload_n 0, 1) := by decide +kernel
theorem d_Pc_compute_9 : decode b_Pc_compute 9 = .ok (.aload_n 1, 1) := by decide +kernel
theorem d_Pc_compute_10 : decode b_Pc_compute 10 = .ok (.getfield 118, 3) := by decide +kernel
theorem d_Pc_compute_13 : decode b_Pc_compute 13 = .ok (.aload_n 0, 1) := by decide +kernel
theorem d_Pc_compute_14 : decode b_Pc_compute 14 = .ok (.aload_n 1, 1) := by decide +kernel
theorem d_Pc_compute_15 : decode b_Pc_compute 15 = .ok (.invokevirtual 184, 3) := by decide +kernel
theorem d_Pc_compute_18 : decode b_Pc_compute 18 = .ok (.invokevirtual 180, 3) := by decide +kernel
theorem d_Pc_compute_21 : decode b_Pc_compute 21 = .ok (.return_, 1) := by decide +kernel
theorem d_Pc_compute_22 : decode b_Pc_compute 22 = .ok (.aload_n 0, 1) := by decide +kernel
theorem d_Pc_compute_23 : decode b_Pc_compute 23 = .ok (.getfield 23, 3) := by decide +kernel
theorem d_Pc_compute_26 : decode b_Pc_compute 26 = .ok (.aload_n 1, 1) := by decide +kernel
theorem d_Pc_compute_27 : decode b_Pc_compute 27 = .ok (.getfield 121, 3) := by decide +kernel
theorem d_Pc_compute_30 : decode b_Pc_compute 30 = .ok (.iconst 4, 1) := by decide +kernel
theorem d_Pc_compute_31 : decode b_Pc_compute 31 = .ok (.irem, 1) := by decide +kernel
theorem d_Pc_compute_32 : decode b_Pc_compute 32 = .ok (.daload, 1) := by decide +kernel
theorem d_Pc_compute_33 : decode b_Pc_compute 33 = .ok (.dstore_n 2, 1) := by decide +kernel
theorem d_Pc_compute_34 : decode b_Pc_compute 34 = .ok (.aload_n 0, 1) := by decide +kernel
theorem d_Pc_compute_35 : decode b_Pc_compute 35 = .ok (.getfield 23, 3) := by decide +kernel
theorem d_Pc_compute_38 : decode b_Pc_compute 38 = .ok (.aload_n 1, 1) := by decide +kernel
theorem d_Pc_compute_39 : decode b_Pc_compute 39 = .ok (.getfield 124, 3) := by decide +kernel
theorem d_Pc_compute_42 : decode b_Pc_compute 42 = .ok (.iconst 4, 1) := by decide +kernel
theorem d_Pc_compute_43 : decode b_Pc_compute 43 = .ok (.irem, 1) := by decide +kernel
theorem d_Pc_compute_44 : decode b_Pc_compute 44 = .ok (.daload, 1) := by decide +kernel
theorem d_Pc_compute_45 : decode b_Pc_compute 45 = .ok (.dstore 4, 2) := by decide +kernel
theorem d_Pc_compute_47 : decode b_Pc_compute 47 = .ok (.aload_n 1, 1) := by decide +kernel
theorem d_Pc_compute_48 : decode b_Pc_compute 48 = .ok (.getfield 115, 3) := by decide +kernel
theorem d_Pc_compute_51 : decode b_Pc_compute 51 = .ok (.tableswitch 85 14 16 #[25, 48, 72], 25) := by decide +kernel
theorem d_Pc_compute_76 : decode b_Pc_compute 76 = .ok (.aload_n 0, 1) := by decide +kernel
theorem d_Pc_compute_77 : decode b_Pc_compute 77 = .ok (.aload_n 1, 1) := by decide +kernel
theorem d_Pc_compute_78 : decode b_Pc_compute 78 = .ok (.getfield 118, 3) := by decide +kernel
theorem d_Pc_compute_81 : decode b_Pc_compute 81 = .ok (.dload_n 2, 1) := by decide +kernel
theorem d_Pc_compute_82 : decode b_Pc_compute 82 = .ok (.dload 4, 2) := by decide +kernel
theorem d_Pc_compute_84 : decode b_Pc_compute 84 = .ok (.dcmp .g, 1) := by decide +kernel
theorem d_Pc_compute_85 : decode b_Pc_compute 85 = .ok (.ifCond .ge 7, 3) := by decide +kernel
theorem d_Pc_compute_88 : decode b_Pc_compute 88 = .ok (.iconst 1, 1) := by decide +kernel
theorem d_Pc_compute_89 : decode b_Pc_compute 89 = .ok (.goto 4, 3) := by decide +kernel
theorem d_Pc_compute_92 : decode b_Pc_compute 92 = .ok (.iconst 0, 1) := by decide +kernel
theorem d_Pc_compute_93 : decode b_Pc_compute 93 = .ok (.invokevirtual 180, 3) := by decide +kernel
theorem d_Pc_compute_96 : decode b_Pc_compute 96 = .ok (.goto 62, 3) := by decide +kernel
theorem d_Pc_compute_99 : decode b_Pc_compute 99 = .ok (.aload_n 0, 1) := by decide +kernel
theorem d_Pc_compute_100 : decode b_Pc_compute 100 = .ok (.getfield 23, 3) := by decide +kernel
theorem d_Pc_compute_103 : decode b_Pc_compute 103 = .ok (.aload_n 1, 1) := by decide +kernel
theorem d_Pc_compute_104 : decode b_Pc_compute 104 = .ok (.getfield 118, 3) := by decide +kernel
theorem d_Pc_compute_107 : decode b_Pc_compute 107 = .ok (.iconst 4, 1) := by decide +kernel
theorem d_Pc_compute_108 : decode b_Pc_compute 108 = .ok (.irem, 1) := by decide +kernel
theorem d_Pc_compute_109 : decode b_Pc_compute 109 = .ok (.aload_n 0, 1) := by decide +kernel
theorem d_Pc_compute_110 : decode b_Pc_compute 110 = .ok (.getfield 19, 3) := by decide +kernel
theorem d_Pc_compute_113 : decode b_Pc_compute 113 = .ok (.aload_n 1, 1) := by decide +kernel
theorem d_Pc_compute_114 : decode b_Pc_compute 114 = .ok (.getfield 121, 3) := by decide +kernel
theorem d_Pc_compute_117 : decode b_Pc_compute 117 = .ok (.iaload, 1) := by decide +kernel
theorem d_Pc_compute_118 : decode b_Pc_compute 118 = .ok (.i2d, 1) := by decide +kernel
theorem d_Pc_compute_119 : decode b_Pc_compute 119 = .ok (.dastore, 1) := by decide +kernel
theorem d_Pc_compute_120 : decode b_Pc_compute 120 = .ok (.goto 38, 3) := by decide +kernel
theorem d_Pc_compute_123 : decode b_Pc_compute 123 = .ok (.aload_n 0, 1) := by decide +kernel
theorem d_Pc_compute_124 : decode b_Pc_compute 124 = .ok (.aload_n 1, 1) := by decide +kernel
theorem d_Pc_compute_125 : decode b_Pc_compute 125 = .ok (.getfield 118, 3) := by decide +kernel
theorem d_Pc_compute_128 : decode b_Pc_compute 128 = .ok (.dload_n 2, 1) := by decide +kernel
theorem d_Pc_compute_129 : decode b_Pc_compute 129 = .ok (.d2i, 1) := by decide +kernel
theorem d_Pc_compute_130 : decode b_Pc_compute 130 = .ok (.invokevirtual 180, 3) := by decide +kernel
theorem d_Pc_compute_133 : decode b_Pc_compute 133 = .ok (.goto 25, 3) := by decide +kernel
theorem d_Pc_compute_136 : decode b_Pc_compute 136 = .ok (.aload_n 0, 1) := by decide +kernel
theorem d_Pc_compute_137 : decode b_Pc_compute 137 = .ok (.getfield 23, 3) := by decide +kernel
theorem d_Pc_compute_140 : decode b_Pc_compute 140 = .ok (.aload_n 1, 1) := by decide +kernel
theorem d_Pc_compute_141 : decode b_Pc_compute 141 = .ok (.getfield 118, 3) := by decide +kernel
theorem d_Pc_compute_144 : decode b_Pc_compute 144 = .ok (.iconst 4, 1) := by decide +kernel
theorem d_Pc_compute_145 : decode b_Pc_compute 145 = .ok (.irem, 1) := by decide +kernel
theorem d_Pc_compute_146 : decode b_Pc_compute 146 = .ok (.aload_n 0, 1) := by decide +kernel
theorem d_Pc_compute_147 : decode b_Pc_compute 147 = .ok (.aload_n 1, 1) := by decide +kernel
theorem d_Pc_compute_148 : decode b_Pc_compute 148 = .ok (.getfield 115, 3) := by decide +kernel
theorem d_Pc_compute_151 : decode b_Pc_compute 151 = .ok (.dload_n 2, 1) := by decide +kernel
theorem d_Pc_compute_152 : decode b_Pc_compute 152 = .ok (.dload 4, 2) := by decide +kernel
theorem d_Pc_compute_154 : decode b_Pc_compute 154 = .ok (.invokevirtual 188, 3) := by decide +kernel
theorem d_Pc_compute_157 : decode b_Pc_compute 157 = .ok (.dastore, 1) := by decide +kernel
theorem d_Pc_compute_158 : decode b_Pc_compute 158 = .ok (.return_, 1) := by decide +kernel
theorem d_Pc_computedWhole_0 : decode b_Pc_computedWhole 0 = .ok (.aload_n 0, 1) := by decide +kernel
theorem d_Pc_computedWhole_1 : decode b_Pc_computedWhole 1 = .ok (.getfield 19, 3) := by decide +kernel
theorem d_Pc_computedWhole_4 : decode b_Pc_computedWhole 4 = .ok (.aload_n 1, 1) := by decide +kernel
theorem d_Pc_computedWhole_5 : decode b_Pc_computedWhole 5 = .ok (.getfield 121, 3) := by decide +kernel
theorem d_Pc_computedWhole_8 : decode b_Pc_computedWhole 8 = .ok (.iaload, 1) := by decide +kernel
theorem d_Pc_computedWhole_9 : decode b_Pc_computedWhole 9 = .ok (.istore_n 2, 1) := by decide +kernel
theorem d_Pc_computedWhole_10 : decode b_Pc_computedWhole 10 = .ok (.aload_n 0, 1) := by decide +kernel
theorem d_Pc_computedWhole_11 : decode b_Pc_computedWhole 11 = .ok (.getfield 19, 3) := by decide +kernel
theorem d_Pc_computedWhole_14 : decode b_Pc_computedWhole 14 = .ok (.aload_n 1, 1) := by decide +kernel
theorem d_Pc_computedWhole_15 : decode b_Pc_computedWhole 15 = .ok (.getfield 124, 3) := by decide +kernel
theorem d_Pc_computedWhole_18 : decode b_Pc_computedWhole 18 = .ok (.iaload, 1) := by decide +kernel
theorem d_Pc_computedWhole_19 : decode b_Pc_computedWhole 19 = .ok (.istore_n 3, 1) := by decide +kernel
theorem d_Pc_computedWhole_20 : decode b_Pc_computedWhole 20 = .ok (.aload_n 1, 1) := by decide +kernel
theorem d_Pc_computedWhole_21 : decode b_Pc_computedWhole 21 = .ok (.getfield 115, 3) := by decide +kernel
theorem d_Pc_computedWhole_24 : decode b_Pc_computedWhole 24 = .ok (.tableswitch 51 1 4 #[32, 39, 43, 47], 32) := by decide +kernel
theorem d_Pc_computedWhole_56 : decode b_Pc_computedWhole 56 = .ok (.iload_n 2, 1) := by decide +kernel
theorem d_Pc_computedWhole_57 : decode b_Pc_computedWhole 57 = .ok (.aload_n 1, 1) := by decide +kernel
theorem d_Pc_computedWhole_58 : decode b_Pc_computedWhole 58 = .ok (.getfield 127, 3) := by decide +kernel
theorem d_Pc_computedWhole_61 : decode b_Pc_computedWhole 61 = .ok (.iadd, 1) := by decide +kernel
theorem d_Pc_computedWhole_62 : decode b_Pc_computedWhole 62 = .ok (.ireturn, 1) := by decide +kernel
theorem d_Pc_computedWhole_63 : decode b_Pc_computedWhole 63 = .ok (.iload_n 2, 1) := by decide +kernel
theorem d_Pc_computedWhole_64 : decode b_Pc_computedWhole 64 = .ok (.iload_n 3, 1) := by decide +kernel
theorem d_Pc_computedWhole_65 : decode b_Pc_computedWhole 65 = .ok (.iadd, 1) := by decide +kernel
theorem d_Pc_computedWhole_66 : decode b_Pc_computedWhole 66 = .ok (.ireturn, 1) := by decide +kernel
theorem d_Pc_computedWhole_67 : decode b_Pc_computedWhole 67 = .ok (.iload_n 2, 1) := by decide +kernel
theorem d_Pc_computedWhole_68 : decode b_Pc_computedWhole 68 = .ok (.iload_n 3, 1) := by decide +kernel
theorem d_Pc_computedWhole_69 : decode b_Pc_computedWhole 69 = .ok (.isub, 1) := by decide +kernel
theorem d_Pc_computedWhole_70 : decode b_Pc_computedWhole 70 = .ok (.ireturn, 1) := by decide +kernel
theorem d_Pc_computedWhole_71 : decode b_Pc_computedWhole 71 = .ok (.iload_n 2, 1) := by decide +kernel
theorem d_Pc_computedWhole_72 : decode b_Pc_computedWhole 72 = .ok (.iload_n 3, 1) := by decide +kernel
theorem d_Pc_computedWhole_73 : decode b_Pc_computedWhole 73 = .ok (.imul, 1) := by decide +kernel
theorem d_Pc_computedWhole_74 : decode b_Pc_computedWhole 74 = .ok (.ireturn, 1) := by decide +kernel
theorem d_Pc_computedWhole_75 : decode b_Pc_computedWhole 75 = .ok (.iload_n 2, 1) := by decide +kernel
theorem d_Pc_computedWhole_76 : decode b_Pc_computedWhole 76 = .ok (.iload_n 3, 1) := by decide +kernel
theorem d_Pc_computedWhole_77 : decode b_Pc_computedWhole 77 = .ok (.if_icmp .ge 7, 3) := by decide +kernel
theorem d_Pc_computedWhole_80 : decode b_Pc_computedWhole 80 = .ok (.iconst 1, 1) := by decide +kernel
theorem d_Pc_computedWhole_81 : decode b_Pc_computedWhole 81 = .ok (.goto 4, 3) := by decide +kernel
theorem d_Pc_computedWhole_84 : decode b_Pc_computedWhole 84 = .ok (.iconst 0, 1) := by decide +kernel
theorem d_Pc_computedWhole_85 : decode b_Pc_computedWhole 85 = .ok (.ireturn, 1) := by decide +kernel
theorem d_Pc_computedFraction_0 : decode b_Pc_computedFraction 0 = .ok (.aload_n 0, 1) := by decide +kernel
theorem d_Pc_computedFraction_1 : decode b_Pc_computedFraction 1 = .ok (.iload_n 1, 1) := by decide +kernel
theorem d_Pc_computedFraction_2 : decode b_Pc_computedFraction 2 = .ok (.dload_n 2, 1) := by decide +kernel
theorem d_Pc_computedFraction_3 : decode b_Pc_computedFraction 3 = .ok (.dload 4, 2) := by decide +kernel
theorem d_Pc_computedFraction_5 : decode b_Pc_computedFraction 5 = .ok (.invokevirtual 192, 3) := by decide +kernel
theorem d_Pc_computedFraction_8 : decode b_Pc_computedFraction 8 = .ok (.dstore 6, 2) := by decide +kernel
theorem d_Pc_computedFraction_10 : decode b_Pc_computedFraction 10 = .ok (.dload 6, 2) := by decide +kernel
theorem d_Pc_computedFraction_12 : decode b_Pc_computedFraction 12 = .ok (.ldc2_w 195, 3) := by decide +kernel
theorem d_Pc_computedFraction_15 : decode b_Pc_computedFraction 15 = .ok (.dcmp .l, 1) := by decide +kernel
theorem d_Pc_computedFraction_16 : decode b_Pc_computedFraction 16 = .ok (.ifCond .gt 12, 3) := by decide +kernel
theorem d_Pc_computedFraction_19 : decode b_Pc_computedFraction 19 = .ok (.dload 6, 2) := by decide +kernel
theorem d_Pc_computedFraction_21 : decode b_Pc_computedFraction 21 = .ok (.ldc2_w 197, 3) := by decide +kernel
theorem d_Pc_computedFraction_24 : decode b_Pc_computedFraction 24 = .ok (.dcmp .g, 1) := by decide +kernel
theorem d_Pc_computedFraction_25 : decode b_Pc_computedFraction 25 = .ok (.ifCond .ge 16, 3) := by decide +kernel
theorem d_Pc_computedFraction_28 : decode b_Pc_computedFraction 28 = .ok (.aload_n 0, 1) := by decide +kernel
theorem d_Pc_computedFraction_29 : decode b_Pc_computedFraction 29 = .ok (.iconst 1, 1) := by decide +kernel
theorem d_Pc_computedFraction_30 : decode b_Pc_computedFraction 30 = .ok (.putfield 65, 3) := by decide +kernel
theorem d_Pc_computedFraction_33 : decode b_Pc_computedFraction 33 = .ok (.new 199, 3) := by decide +kernel
theorem d_Pc_computedFraction_36 : decode b_Pc_computedFraction 36 = .ok (.dup, 1) := by decide +kernel
theorem d_Pc_computedFraction_37 : decode b_Pc_computedFraction 37 = .ok (.invokespecial 201, 3) := by decide +kernel
theorem d_Pc_computedFraction_40 : decode b_Pc_computedFraction 40 = .ok (.athrow, 1) := by decide +kernel
theorem d_Pc_computedFraction_41 : decode b_Pc_computedFraction 41 = .ok (.dload 6, 2) := by decide +kernel
theorem d_Pc_computedFraction_43 : decode b_Pc_computedFraction 43 = .ok (.dreturn, 1) := by decide +kernel
theorem d_Pc_outcomeOf_0 : decode b_Pc_outcomeOf 0 = .ok (.iload_n 1, 1) := by decide +kernel
theorem d_Pc_outcomeOf_1 : decode b_Pc_outcomeOf 1 = .ok (.tableswitch 42 10 12 #[27, 32, 37], 27) := by decide +kernel
theorem d_Pc_outcomeOf_28 : decode b_Pc_outcomeOf 28 = .ok (.dload_n 2, 1) := by decide +kernel
theorem d_Pc_outcomeOf_29 : decode b_Pc_outcomeOf 29 = .ok (.dload 4, 2) := by decide +kernel
theorem d_Pc_outcomeOf_31 : decode b_Pc_outcomeOf 31 = .ok (.dadd, 1) := by decide +kernel
theorem d_Pc_outcomeOf_32 : decode b_Pc_outcomeOf 32 = .ok (.dreturn, 1) := by decide +kernel
theorem d_Pc_outcomeOf_33 : decode b_Pc_outcomeOf 33 = .ok (.dload_n 2, 1) := by decide +kernel
theorem d_Pc_outcomeOf_34 : decode b_Pc_outcomeOf 34 = .ok (.dload 4, 2) := by decide +kernel
theorem d_Pc_outcomeOf_36 : decode b_Pc_outcomeOf 36 = .ok (.dsub, 1) := by decide +kernel
theorem d_Pc_outcomeOf_37 : decode b_Pc_outcomeOf 37 = .ok (.dreturn, 1) := by decide +kernel
theorem d_Pc_outcomeOf_38 : decode b_Pc_outcomeOf 38 = .ok (.dload_n 2, 1) := by decide +kernel
theorem d_Pc_outcomeOf_39 : decode b_Pc_outcomeOf 39 = .ok (.dload 4, 2) := by decide +kernel
theorem d_Pc_outcomeOf_41 : decode b_Pc_outcomeOf 41 = .ok (.dmul, 1) := by decide +kernel
theorem d_Pc_outcomeOf_42 : decode b_Pc_outcomeOf 42 = .ok (.dreturn, 1) := by decide +kernel
theorem d_Pc_outcomeOf_43 : decode b_Pc_outcomeOf 43 = .ok (.aload_n 0, 1) := by decide +kernel
theorem d_Pc_outcomeOf_44 : decode b_Pc_outcomeOf 44 = .ok (.dload_n 2, 1) := by decide +kernel
theorem d_Pc_outcomeOf_45 : decode b_Pc_outcomeOf 45 = .ok (.dload 4, 2) := by decide +kernel
theorem d_Pc_outcomeOf_47 : decode b_Pc_outcomeOf 47 = .ok (.invokevirtual 202, 3) := by decide +kernel
theorem d_Pc_outcomeOf_50 : decode b_Pc_outcomeOf 50 = .ok (.dreturn, 1) := by decide +kernel
theorem d_Pc_quotient_0 : decode b_Pc_quotient 0 = .ok (.dload_n 3, 1) := by decide +kernel
theorem d_Pc_quotient_1 : decode b_Pc_quotient 1 = .ok (.dconst 0, 1) := by decide +kernel
theorem d_Pc_quotient_2 : decode b_Pc_quotient 2 = .ok (.dcmp .l, 1) := by decide +kernel
theorem d_Pc_quotient_3 : decode b_Pc_quotient 3 = .ok (.ifCond .ne 16, 3) := by decide +kernel
theorem d_Pc_quotient_6 : decode b_Pc_quotient 6 = .ok (.aload_n 0, 1) := by decide +kernel
theorem d_Pc_quotient_7 : decode b_Pc_quotient 7 = .ok (.iconst 1, 1) := by decide +kernel
theorem d_Pc_quotient_8 : decode b_Pc_quotient 8 = .ok (.putfield 65, 3) := by decide +kernel
theorem d_Pc_quotient_11 : decode b_Pc_quotient 11 = .ok (.new 199, 3) := by decide +kernel
theorem d_Pc_quotient_14 : decode b_Pc_quotient 14 = .ok (.dup, 1) := by decide +kernel
theorem d_Pc_quotient_15 : decode b_Pc_quotient 15 = .ok (.invokespecial 201, 3) := by decide +kernel
theorem d_Pc_quotient_18 : decode b_Pc_quotient 18 = .ok (.athrow, 1) := by decide +kernel
theorem d_Pc_quotient_19 : decode b_Pc_quotient 19 = .ok (.dload_n 1, 1) := by decide +kernel
theorem d_Pc_quotient_20 : decode b_Pc_quotient 20 = .ok (.dload_n 3, 1) := by decide +kernel
theorem d_Pc_quotient_21 : decode b_Pc_quotient 21 = .ok (.ddiv, 1) := by decide +kernel
theorem d_Pc_quotient_22 : decode b_Pc_quotient 22 = .ok (.dreturn, 1) := by decide +kernel
theorem d_Pc_putWhole_0 : decode b_Pc_putWhole 0 = .ok (.iload_n 1, 1) := by decide +kernel
theorem d_Pc_putWhole_1 : decode b_Pc_putWhole 1 = .ok (.ifCond .eq 10, 3) := by decide +kernel
theorem d_Pc_putWhole_4 : decode b_Pc_putWhole 4 = .ok (.aload_n 0, 1) := by decide +kernel
theorem d_Pc_putWhole_5 : decode b_Pc_putWhole 5 = .ok (.getfield 19, 3) := by decide +kernel
theorem d_Pc_putWhole_8 : decode b_Pc_putWhole 8 = .ok (.iload_n 1, 1) := by decide +kernel
theorem d_Pc_putWhole_9 : decode b_Pc_putWhole 9 = .ok (.iload_n 2, 1) := by decide +kernel
theorem d_Pc_putWhole_10 : decode b_Pc_putWhole 10 = .ok (.iastore, 1) := by decide +kernel
theorem d_Pc_putWhole_11 : decode b_Pc_putWhole 11 = .ok (.return_, 1) := by decide +kernel
